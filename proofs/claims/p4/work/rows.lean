section
/-- a private method of a class that the tables say can be made, by its rows of tables_1 -/
def lw_okq (q : MethodName × Nat) : Prop := (q.1.cls ≠ "java/lang/invoke/MethodHandle" ∧ q.1.cls ≠ "java/lang/invoke/VarHandle") ∧ Cond.instantiable q.1.cls q.2 ∈ tables_1 ∧ Cond.privateMethod q.1 ∈ tables_1 ∧ Cond.instanceMethod q.1 ∈ tables_1
theorem lw_p0 : lw_okq (⟨"InputOutput$Script", "fits", "(II)Z"⟩, 5) := ⟨⟨by decide +kernel, by decide +kernel⟩, List.mem_of_getElem? (i := 75) (by decide +kernel), List.mem_of_getElem? (i := 324) (by decide +kernel), List.mem_of_getElem? (i := 325) (by decide +kernel)⟩
theorem lw_p1 : lw_okq (⟨"InputOutput$Worker", "work", "(II)Z"⟩, 11) := ⟨⟨by decide +kernel, by decide +kernel⟩, List.mem_of_getElem? (i := 197) (by decide +kernel), List.mem_of_getElem? (i := 374) (by decide +kernel), List.mem_of_getElem? (i := 375) (by decide +kernel)⟩
theorem lw_p2 : lw_okq (⟨"InputOutput$Worker", "stop", "()Z"⟩, 11) := ⟨⟨by decide +kernel, by decide +kernel⟩, List.mem_of_getElem? (i := 197) (by decide +kernel), List.mem_of_getElem? (i := 378) (by decide +kernel), List.mem_of_getElem? (i := 379) (by decide +kernel)⟩
theorem lw_p3 : lw_okq (⟨"InputOutput$Worker", "give", "(II)Z"⟩, 11) := ⟨⟨by decide +kernel, by decide +kernel⟩, List.mem_of_getElem? (i := 197) (by decide +kernel), List.mem_of_getElem? (i := 390) (by decide +kernel), List.mem_of_getElem? (i := 391) (by decide +kernel)⟩
theorem lw_p4 : lw_okq (⟨"InputOutput$Worker", "workSet", "(II)Z"⟩, 11) := ⟨⟨by decide +kernel, by decide +kernel⟩, List.mem_of_getElem? (i := 197) (by decide +kernel), List.mem_of_getElem? (i := 394) (by decide +kernel), List.mem_of_getElem? (i := 395) (by decide +kernel)⟩
theorem lw_p5 : lw_okq (⟨"InputOutput$Worker", "assign", "(III)V"⟩, 11) := ⟨⟨by decide +kernel, by decide +kernel⟩, List.mem_of_getElem? (i := 197) (by decide +kernel), List.mem_of_getElem? (i := 402) (by decide +kernel), List.mem_of_getElem? (i := 403) (by decide +kernel)⟩
theorem lw_p6 : lw_okq (⟨"InputOutput$Worker", "workHandleAndNumber", "(II)Z"⟩, 11) := ⟨⟨by decide +kernel, by decide +kernel⟩, List.mem_of_getElem? (i := 197) (by decide +kernel), List.mem_of_getElem? (i := 406) (by decide +kernel), List.mem_of_getElem? (i := 407) (by decide +kernel)⟩
theorem lw_p7 : lw_okq (⟨"InputOutput$Worker", "workToHandle", "(III)LInputOutput$Handle;"⟩, 11) := ⟨⟨by decide +kernel, by decide +kernel⟩, List.mem_of_getElem? (i := 197) (by decide +kernel), List.mem_of_getElem? (i := 410) (by decide +kernel), List.mem_of_getElem? (i := 411) (by decide +kernel)⟩
theorem lw_p8 : lw_okq (⟨"InputOutput$Worker", "fail", "(II)Z"⟩, 11) := ⟨⟨by decide +kernel, by decide +kernel⟩, List.mem_of_getElem? (i := 197) (by decide +kernel), List.mem_of_getElem? (i := 419) (by decide +kernel), List.mem_of_getElem? (i := 420) (by decide +kernel)⟩
theorem lw_p9 : lw_okq (⟨"InputOutput$Worker", "workToNumber", "(III)Z"⟩, 11) := ⟨⟨by decide +kernel, by decide +kernel⟩, List.mem_of_getElem? (i := 197) (by decide +kernel), List.mem_of_getElem? (i := 423) (by decide +kernel), List.mem_of_getElem? (i := 424) (by decide +kernel)⟩
theorem lw_p10 : lw_okq (⟨"InputOutput$Handle", "isDue", "(I)Z"⟩, 11) := ⟨⟨by decide +kernel, by decide +kernel⟩, List.mem_of_getElem? (i := 104) (by decide +kernel), List.mem_of_getElem? (i := 438) (by decide +kernel), List.mem_of_getElem? (i := 439) (by decide +kernel)⟩
theorem lw_p11 : lw_okq (⟨"InputOutput$Worker", "act", "(III)Z"⟩, 11) := ⟨⟨by decide +kernel, by decide +kernel⟩, List.mem_of_getElem? (i := 197) (by decide +kernel), List.mem_of_getElem? (i := 457) (by decide +kernel), List.mem_of_getElem? (i := 458) (by decide +kernel)⟩
theorem lw_p12 : lw_okq (⟨"InputOutput$Worker", "settle", "(III)Z"⟩, 11) := ⟨⟨by decide +kernel, by decide +kernel⟩, List.mem_of_getElem? (i := 197) (by decide +kernel), List.mem_of_getElem? (i := 465) (by decide +kernel), List.mem_of_getElem? (i := 466) (by decide +kernel)⟩
theorem lw_p13 : lw_okq (⟨"InputOutput$Worker", "workItem", "(II)Z"⟩, 11) := ⟨⟨by decide +kernel, by decide +kernel⟩, List.mem_of_getElem? (i := 197) (by decide +kernel), List.mem_of_getElem? (i := 470) (by decide +kernel), List.mem_of_getElem? (i := 471) (by decide +kernel)⟩
theorem lw_p14 : lw_okq (⟨"InputOutput$Worker", "workToList", "(III)LInputOutput$LazyList;"⟩, 11) := ⟨⟨by decide +kernel, by decide +kernel⟩, List.mem_of_getElem? (i := 197) (by decide +kernel), List.mem_of_getElem? (i := 474) (by decide +kernel), List.mem_of_getElem? (i := 475) (by decide +kernel)⟩
theorem lw_p15 : lw_okq (⟨"InputOutput$LazyList", "grow", "()Z"⟩, 3) := ⟨⟨by decide +kernel, by decide +kernel⟩, List.mem_of_getElem? (i := 161) (by decide +kernel), List.mem_of_getElem? (i := 490) (by decide +kernel), List.mem_of_getElem? (i := 491) (by decide +kernel)⟩
def lw_privs_1 : List (MethodName × Nat) := [(⟨"InputOutput$Script", "fits", "(II)Z"⟩, 5), (⟨"InputOutput$Worker", "work", "(II)Z"⟩, 11), (⟨"InputOutput$Worker", "stop", "()Z"⟩, 11), (⟨"InputOutput$Worker", "give", "(II)Z"⟩, 11), (⟨"InputOutput$Worker", "workSet", "(II)Z"⟩, 11), (⟨"InputOutput$Worker", "assign", "(III)V"⟩, 11), (⟨"InputOutput$Worker", "workHandleAndNumber", "(II)Z"⟩, 11), (⟨"InputOutput$Worker", "workToHandle", "(III)LInputOutput$Handle;"⟩, 11), (⟨"InputOutput$Worker", "fail", "(II)Z"⟩, 11), (⟨"InputOutput$Worker", "workToNumber", "(III)Z"⟩, 11), (⟨"InputOutput$Handle", "isDue", "(I)Z"⟩, 11), (⟨"InputOutput$Worker", "act", "(III)Z"⟩, 11), (⟨"InputOutput$Worker", "settle", "(III)Z"⟩, 11), (⟨"InputOutput$Worker", "workItem", "(II)Z"⟩, 11), (⟨"InputOutput$Worker", "workToList", "(III)LInputOutput$LazyList;"⟩, 11), (⟨"InputOutput$LazyList", "grow", "()Z"⟩, 3)]
theorem lw_r1 : ∀ q ∈ lw_privs_1, lw_okq q := List.forall_mem_cons.mpr ⟨lw_p0, List.forall_mem_cons.mpr ⟨lw_p1, List.forall_mem_cons.mpr ⟨lw_p2, List.forall_mem_cons.mpr ⟨lw_p3, List.forall_mem_cons.mpr ⟨lw_p4, List.forall_mem_cons.mpr ⟨lw_p5, List.forall_mem_cons.mpr ⟨lw_p6, List.forall_mem_cons.mpr ⟨lw_p7, List.forall_mem_cons.mpr ⟨lw_p8, List.forall_mem_cons.mpr ⟨lw_p9, List.forall_mem_cons.mpr ⟨lw_p10, List.forall_mem_cons.mpr ⟨lw_p11, List.forall_mem_cons.mpr ⟨lw_p12, List.forall_mem_cons.mpr ⟨lw_p13, List.forall_mem_cons.mpr ⟨lw_p14, List.forall_mem_cons.mpr ⟨lw_p15, fun _ h => absurd h List.not_mem_nil⟩⟩⟩⟩⟩⟩⟩⟩⟩⟩⟩⟩⟩⟩⟩⟩
theorem lw_p16 : lw_okq (⟨"InputOutput$Worker", "noteTimes", "(II)V"⟩, 11) := ⟨⟨by decide +kernel, by decide +kernel⟩, List.mem_of_getElem? (i := 197) (by decide +kernel), List.mem_of_getElem? (i := 510) (by decide +kernel), List.mem_of_getElem? (i := 511) (by decide +kernel)⟩
theorem lw_p17 : lw_okq (⟨"InputOutput$Worker", "workLength", "(II)Z"⟩, 11) := ⟨⟨by decide +kernel, by decide +kernel⟩, List.mem_of_getElem? (i := 197) (by decide +kernel), List.mem_of_getElem? (i := 519) (by decide +kernel), List.mem_of_getElem? (i := 520) (by decide +kernel)⟩
theorem lw_p18 : lw_okq (⟨"InputOutput$Worker", "actAlone", "(I)Z"⟩, 11) := ⟨⟨by decide +kernel, by decide +kernel⟩, List.mem_of_getElem? (i := 197) (by decide +kernel), List.mem_of_getElem? (i := 527) (by decide +kernel), List.mem_of_getElem? (i := 528) (by decide +kernel)⟩
theorem lw_p19 : lw_okq (⟨"InputOutput$Handles", "refusalToOpen", "(II)I"⟩, 3) := ⟨⟨by decide +kernel, by decide +kernel⟩, List.mem_of_getElem? (i := 97) (by decide +kernel), List.mem_of_getElem? (i := 535) (by decide +kernel), List.mem_of_getElem? (i := 536) (by decide +kernel)⟩
theorem lw_p20 : lw_okq (⟨"InputOutput$Handles", "isHeld", "(IZ)Z"⟩, 3) := ⟨⟨by decide +kernel, by decide +kernel⟩, List.mem_of_getElem? (i := 97) (by decide +kernel), List.mem_of_getElem? (i := 548) (by decide +kernel), List.mem_of_getElem? (i := 549) (by decide +kernel)⟩
theorem lw_p21 : lw_okq (⟨"InputOutput$Handles", "refusalToMove", "(II)I"⟩, 3) := ⟨⟨by decide +kernel, by decide +kernel⟩, List.mem_of_getElem? (i := 97) (by decide +kernel), List.mem_of_getElem? (i := 567) (by decide +kernel), List.mem_of_getElem? (i := 568) (by decide +kernel)⟩
theorem lw_p22 : lw_okq (⟨"InputOutput$Worker", "workNumberFirst", "(II)Z"⟩, 11) := ⟨⟨by decide +kernel, by decide +kernel⟩, List.mem_of_getElem? (i := 197) (by decide +kernel), List.mem_of_getElem? (i := 588) (by decide +kernel), List.mem_of_getElem? (i := 589) (by decide +kernel)⟩
theorem lw_p23 : lw_okq (⟨"InputOutput$Worker", "workTimes", "(III)Z"⟩, 11) := ⟨⟨by decide +kernel, by decide +kernel⟩, List.mem_of_getElem? (i := 197) (by decide +kernel), List.mem_of_getElem? (i := 600) (by decide +kernel), List.mem_of_getElem? (i := 601) (by decide +kernel)⟩
theorem lw_p24 : lw_okq (⟨"InputOutput$Worker", "workTwoNumbers", "(II)Z"⟩, 11) := ⟨⟨by decide +kernel, by decide +kernel⟩, List.mem_of_getElem? (i := 197) (by decide +kernel), List.mem_of_getElem? (i := 605) (by decide +kernel), List.mem_of_getElem? (i := 606) (by decide +kernel)⟩
theorem lw_p25 : lw_okq (⟨"InputOutput$Worker", "workCatch", "(II)Z"⟩, 11) := ⟨⟨by decide +kernel, by decide +kernel⟩, List.mem_of_getElem? (i := 197) (by decide +kernel), List.mem_of_getElem? (i := 609) (by decide +kernel), List.mem_of_getElem? (i := 610) (by decide +kernel)⟩
theorem lw_p26 : lw_okq (⟨"InputOutput$Worker", "workEnd", "(II)Z"⟩, 11) := ⟨⟨by decide +kernel, by decide +kernel⟩, List.mem_of_getElem? (i := 197) (by decide +kernel), List.mem_of_getElem? (i := 613) (by decide +kernel), List.mem_of_getElem? (i := 614) (by decide +kernel)⟩
theorem lw_p27 : lw_okq (⟨"InputOutput$Worker", "workBracket", "(II)Z"⟩, 11) := ⟨⟨by decide +kernel, by decide +kernel⟩, List.mem_of_getElem? (i := 197) (by decide +kernel), List.mem_of_getElem? (i := 617) (by decide +kernel), List.mem_of_getElem? (i := 618) (by decide +kernel)⟩
theorem lw_p28 : lw_okq (⟨"InputOutput$Worker", "workHandle", "(II)Z"⟩, 11) := ⟨⟨by decide +kernel, by decide +kernel⟩, List.mem_of_getElem? (i := 197) (by decide +kernel), List.mem_of_getElem? (i := 621) (by decide +kernel), List.mem_of_getElem? (i := 622) (by decide +kernel)⟩
theorem lw_p29 : lw_okq (⟨"InputOutput$Worker", "noteClosing", "(ILInputOutput$Handle;)V"⟩, 11) := ⟨⟨by decide +kernel, by decide +kernel⟩, List.mem_of_getElem? (i := 197) (by decide +kernel), List.mem_of_getElem? (i := 625) (by decide +kernel), List.mem_of_getElem? (i := 626) (by decide +kernel)⟩
theorem lw_p30 : lw_okq (⟨"InputOutputModel", "allBytes", "()I"⟩, 53) := ⟨⟨by decide +kernel, by decide +kernel⟩, List.mem_of_getElem? (i := 764) (by decide +kernel), List.mem_of_getElem? (i := 938) (by decide +kernel), List.mem_of_getElem? (i := 939) (by decide +kernel)⟩
theorem lw_p31 : lw_okq (⟨"InputOutputModel", "areParts", "(IIII)Z"⟩, 53) := ⟨⟨by decide +kernel, by decide +kernel⟩, List.mem_of_getElem? (i := 764) (by decide +kernel), List.mem_of_getElem? (i := 958) (by decide +kernel), List.mem_of_getElem? (i := 959) (by decide +kernel)⟩
def lw_privs_2 : List (MethodName × Nat) := [(⟨"InputOutput$Worker", "noteTimes", "(II)V"⟩, 11), (⟨"InputOutput$Worker", "workLength", "(II)Z"⟩, 11), (⟨"InputOutput$Worker", "actAlone", "(I)Z"⟩, 11), (⟨"InputOutput$Handles", "refusalToOpen", "(II)I"⟩, 3), (⟨"InputOutput$Handles", "isHeld", "(IZ)Z"⟩, 3), (⟨"InputOutput$Handles", "refusalToMove", "(II)I"⟩, 3), (⟨"InputOutput$Worker", "workNumberFirst", "(II)Z"⟩, 11), (⟨"InputOutput$Worker", "workTimes", "(III)Z"⟩, 11), (⟨"InputOutput$Worker", "workTwoNumbers", "(II)Z"⟩, 11), (⟨"InputOutput$Worker", "workCatch", "(II)Z"⟩, 11), (⟨"InputOutput$Worker", "workEnd", "(II)Z"⟩, 11), (⟨"InputOutput$Worker", "workBracket", "(II)Z"⟩, 11), (⟨"InputOutput$Worker", "workHandle", "(II)Z"⟩, 11), (⟨"InputOutput$Worker", "noteClosing", "(ILInputOutput$Handle;)V"⟩, 11), (⟨"InputOutputModel", "allBytes", "()I"⟩, 53), (⟨"InputOutputModel", "areParts", "(IIII)Z"⟩, 53)]
theorem lw_r2 : ∀ q ∈ lw_privs_2, lw_okq q := List.forall_mem_cons.mpr ⟨lw_p16, List.forall_mem_cons.mpr ⟨lw_p17, List.forall_mem_cons.mpr ⟨lw_p18, List.forall_mem_cons.mpr ⟨lw_p19, List.forall_mem_cons.mpr ⟨lw_p20, List.forall_mem_cons.mpr ⟨lw_p21, List.forall_mem_cons.mpr ⟨lw_p22, List.forall_mem_cons.mpr ⟨lw_p23, List.forall_mem_cons.mpr ⟨lw_p24, List.forall_mem_cons.mpr ⟨lw_p25, List.forall_mem_cons.mpr ⟨lw_p26, List.forall_mem_cons.mpr ⟨lw_p27, List.forall_mem_cons.mpr ⟨lw_p28, List.forall_mem_cons.mpr ⟨lw_p29, List.forall_mem_cons.mpr ⟨lw_p30, List.forall_mem_cons.mpr ⟨lw_p31, fun _ h => absurd h List.not_mem_nil⟩⟩⟩⟩⟩⟩⟩⟩⟩⟩⟩⟩⟩⟩⟩⟩
theorem lw_p32 : lw_okq (⟨"InputOutputModel", "isNode", "(I)Z"⟩, 53) := ⟨⟨by decide +kernel, by decide +kernel⟩, List.mem_of_getElem? (i := 764) (by decide +kernel), List.mem_of_getElem? (i := 962) (by decide +kernel), List.mem_of_getElem? (i := 963) (by decide +kernel)⟩
theorem lw_p33 : lw_okq (⟨"InputOutputModel", "begin", "(I)V"⟩, 53) := ⟨⟨by decide +kernel, by decide +kernel⟩, List.mem_of_getElem? (i := 764) (by decide +kernel), List.mem_of_getElem? (i := 974) (by decide +kernel), List.mem_of_getElem? (i := 975) (by decide +kernel)⟩
theorem lw_p34 : lw_okq (⟨"InputOutputModel", "work", "()V"⟩, 53) := ⟨⟨by decide +kernel, by decide +kernel⟩, List.mem_of_getElem? (i := 764) (by decide +kernel), List.mem_of_getElem? (i := 978) (by decide +kernel), List.mem_of_getElem? (i := 979) (by decide +kernel)⟩
theorem lw_p35 : lw_okq (⟨"InputOutputModel", "unwind", "(I)V"⟩, 53) := ⟨⟨by decide +kernel, by decide +kernel⟩, List.mem_of_getElem? (i := 764) (by decide +kernel), List.mem_of_getElem? (i := 982) (by decide +kernel), List.mem_of_getElem? (i := 983) (by decide +kernel)⟩
theorem lw_p36 : lw_okq (⟨"InputOutputModel", "go", "(II)V"⟩, 53) := ⟨⟨by decide +kernel, by decide +kernel⟩, List.mem_of_getElem? (i := 764) (by decide +kernel), List.mem_of_getElem? (i := 986) (by decide +kernel), List.mem_of_getElem? (i := 987) (by decide +kernel)⟩
theorem lw_p37 : lw_okq (⟨"InputOutputModel", "gives", "(II)V"⟩, 53) := ⟨⟨by decide +kernel, by decide +kernel⟩, List.mem_of_getElem? (i := 764) (by decide +kernel), List.mem_of_getElem? (i := 990) (by decide +kernel), List.mem_of_getElem? (i := 991) (by decide +kernel)⟩
theorem lw_p38 : lw_okq (⟨"InputOutputModel", "opens", "(I)V"⟩, 53) := ⟨⟨by decide +kernel, by decide +kernel⟩, List.mem_of_getElem? (i := 764) (by decide +kernel), List.mem_of_getElem? (i := 994) (by decide +kernel), List.mem_of_getElem? (i := 995) (by decide +kernel)⟩
theorem lw_p39 : lw_okq (⟨"InputOutputModel", "openRefused", "(II)I"⟩, 53) := ⟨⟨by decide +kernel, by decide +kernel⟩, List.mem_of_getElem? (i := 764) (by decide +kernel), List.mem_of_getElem? (i := 998) (by decide +kernel), List.mem_of_getElem? (i := 999) (by decide +kernel)⟩
theorem lw_p40 : lw_okq (⟨"InputOutputModel", "isHeldToWrite", "(I)Z"⟩, 53) := ⟨⟨by decide +kernel, by decide +kernel⟩, List.mem_of_getElem? (i := 764) (by decide +kernel), List.mem_of_getElem? (i := 1002) (by decide +kernel), List.mem_of_getElem? (i := 1003) (by decide +kernel)⟩
theorem lw_p41 : lw_okq (⟨"InputOutputModel", "isHeld", "(I)Z"⟩, 53) := ⟨⟨by decide +kernel, by decide +kernel⟩, List.mem_of_getElem? (i := 764) (by decide +kernel), List.mem_of_getElem? (i := 1006) (by decide +kernel), List.mem_of_getElem? (i := 1007) (by decide +kernel)⟩
theorem lw_p42 : lw_okq (⟨"InputOutputModel", "fails", "(II)V"⟩, 53) := ⟨⟨by decide +kernel, by decide +kernel⟩, List.mem_of_getElem? (i := 764) (by decide +kernel), List.mem_of_getElem? (i := 1010) (by decide +kernel), List.mem_of_getElem? (i := 1011) (by decide +kernel)⟩
theorem lw_p43 : lw_okq (⟨"InputOutputModel", "note", "(I)V"⟩, 53) := ⟨⟨by decide +kernel, by decide +kernel⟩, List.mem_of_getElem? (i := 764) (by decide +kernel), List.mem_of_getElem? (i := 1014) (by decide +kernel), List.mem_of_getElem? (i := 1015) (by decide +kernel)⟩
theorem lw_p44 : lw_okq (⟨"InputOutputModel", "goHandles", "(IIII)V"⟩, 53) := ⟨⟨by decide +kernel, by decide +kernel⟩, List.mem_of_getElem? (i := 764) (by decide +kernel), List.mem_of_getElem? (i := 1018) (by decide +kernel), List.mem_of_getElem? (i := 1019) (by decide +kernel)⟩
theorem lw_p45 : lw_okq (⟨"InputOutputModel", "isSort", "(II)Z"⟩, 53) := ⟨⟨by decide +kernel, by decide +kernel⟩, List.mem_of_getElem? (i := 764) (by decide +kernel), List.mem_of_getElem? (i := 1022) (by decide +kernel), List.mem_of_getElem? (i := 1023) (by decide +kernel)⟩
theorem lw_p46 : lw_okq (⟨"InputOutputModel", "pair", "(IIII)V"⟩, 53) := ⟨⟨by decide +kernel, by decide +kernel⟩, List.mem_of_getElem? (i := 764) (by decide +kernel), List.mem_of_getElem? (i := 1026) (by decide +kernel), List.mem_of_getElem? (i := 1027) (by decide +kernel)⟩
theorem lw_p47 : lw_okq (⟨"InputOutputModel", "list", "(III)V"⟩, 53) := ⟨⟨by decide +kernel, by decide +kernel⟩, List.mem_of_getElem? (i := 764) (by decide +kernel), List.mem_of_getElem? (i := 1030) (by decide +kernel), List.mem_of_getElem? (i := 1031) (by decide +kernel)⟩
def lw_privs_3 : List (MethodName × Nat) := [(⟨"InputOutputModel", "isNode", "(I)Z"⟩, 53), (⟨"InputOutputModel", "begin", "(I)V"⟩, 53), (⟨"InputOutputModel", "work", "()V"⟩, 53), (⟨"InputOutputModel", "unwind", "(I)V"⟩, 53), (⟨"InputOutputModel", "go", "(II)V"⟩, 53), (⟨"InputOutputModel", "gives", "(II)V"⟩, 53), (⟨"InputOutputModel", "opens", "(I)V"⟩, 53), (⟨"InputOutputModel", "openRefused", "(II)I"⟩, 53), (⟨"InputOutputModel", "isHeldToWrite", "(I)Z"⟩, 53), (⟨"InputOutputModel", "isHeld", "(I)Z"⟩, 53), (⟨"InputOutputModel", "fails", "(II)V"⟩, 53), (⟨"InputOutputModel", "note", "(I)V"⟩, 53), (⟨"InputOutputModel", "goHandles", "(IIII)V"⟩, 53), (⟨"InputOutputModel", "isSort", "(II)Z"⟩, 53), (⟨"InputOutputModel", "pair", "(IIII)V"⟩, 53), (⟨"InputOutputModel", "list", "(III)V"⟩, 53)]
theorem lw_r3 : ∀ q ∈ lw_privs_3, lw_okq q := List.forall_mem_cons.mpr ⟨lw_p32, List.forall_mem_cons.mpr ⟨lw_p33, List.forall_mem_cons.mpr ⟨lw_p34, List.forall_mem_cons.mpr ⟨lw_p35, List.forall_mem_cons.mpr ⟨lw_p36, List.forall_mem_cons.mpr ⟨lw_p37, List.forall_mem_cons.mpr ⟨lw_p38, List.forall_mem_cons.mpr ⟨lw_p39, List.forall_mem_cons.mpr ⟨lw_p40, List.forall_mem_cons.mpr ⟨lw_p41, List.forall_mem_cons.mpr ⟨lw_p42, List.forall_mem_cons.mpr ⟨lw_p43, List.forall_mem_cons.mpr ⟨lw_p44, List.forall_mem_cons.mpr ⟨lw_p45, List.forall_mem_cons.mpr ⟨lw_p46, List.forall_mem_cons.mpr ⟨lw_p47, fun _ h => absurd h List.not_mem_nil⟩⟩⟩⟩⟩⟩⟩⟩⟩⟩⟩⟩⟩⟩⟩⟩
theorem lw_p48 : lw_okq (⟨"InputOutputModel", "isOpen", "(II)Z"⟩, 53) := ⟨⟨by decide +kernel, by decide +kernel⟩, List.mem_of_getElem? (i := 764) (by decide +kernel), List.mem_of_getElem? (i := 1034) (by decide +kernel), List.mem_of_getElem? (i := 1035) (by decide +kernel)⟩
theorem lw_p49 : lw_okq (⟨"InputOutputModel", "putByte", "(III)V"⟩, 53) := ⟨⟨by decide +kernel, by decide +kernel⟩, List.mem_of_getElem? (i := 764) (by decide +kernel), List.mem_of_getElem? (i := 1038) (by decide +kernel), List.mem_of_getElem? (i := 1039) (by decide +kernel)⟩
theorem lw_p50 : lw_okq (⟨"InputOutputModel", "flush", "(I)Z"⟩, 53) := ⟨⟨by decide +kernel, by decide +kernel⟩, List.mem_of_getElem? (i := 764) (by decide +kernel), List.mem_of_getElem? (i := 1042) (by decide +kernel), List.mem_of_getElem? (i := 1043) (by decide +kernel)⟩
theorem lw_p51 : lw_okq (⟨"InputOutputModel", "seek", "(III)V"⟩, 53) := ⟨⟨by decide +kernel, by decide +kernel⟩, List.mem_of_getElem? (i := 764) (by decide +kernel), List.mem_of_getElem? (i := 1046) (by decide +kernel), List.mem_of_getElem? (i := 1047) (by decide +kernel)⟩
theorem lw_p52 : lw_okq (⟨"InputOutputModel", "close", "(II)V"⟩, 53) := ⟨⟨by decide +kernel, by decide +kernel⟩, List.mem_of_getElem? (i := 764) (by decide +kernel), List.mem_of_getElem? (i := 1050) (by decide +kernel), List.mem_of_getElem? (i := 1051) (by decide +kernel)⟩
theorem lw_p53 : lw_okq (⟨"InputOutputModel", "opened", "(III)V"⟩, 53) := ⟨⟨by decide +kernel, by decide +kernel⟩, List.mem_of_getElem? (i := 764) (by decide +kernel), List.mem_of_getElem? (i := 1054) (by decide +kernel), List.mem_of_getElem? (i := 1055) (by decide +kernel)⟩
theorem lw_p54 : lw_okq (⟨"InputOutputModel", "take", "(II)V"⟩, 53) := ⟨⟨by decide +kernel, by decide +kernel⟩, List.mem_of_getElem? (i := 764) (by decide +kernel), List.mem_of_getElem? (i := 1058) (by decide +kernel), List.mem_of_getElem? (i := 1059) (by decide +kernel)⟩
theorem lw_p55 : lw_okq (⟨"InputOutputModel", "remove", "(I)V"⟩, 53) := ⟨⟨by decide +kernel, by decide +kernel⟩, List.mem_of_getElem? (i := 764) (by decide +kernel), List.mem_of_getElem? (i := 1062) (by decide +kernel), List.mem_of_getElem? (i := 1063) (by decide +kernel)⟩
theorem lw_p56 : lw_okq (⟨"InputOutputModel", "rename", "(I)V"⟩, 53) := ⟨⟨by decide +kernel, by decide +kernel⟩, List.mem_of_getElem? (i := 764) (by decide +kernel), List.mem_of_getElem? (i := 1066) (by decide +kernel), List.mem_of_getElem? (i := 1067) (by decide +kernel)⟩
theorem lw_p57 : lw_okq (⟨"InputOutputModel", "goTexts", "(III)V"⟩, 53) := ⟨⟨by decide +kernel, by decide +kernel⟩, List.mem_of_getElem? (i := 764) (by decide +kernel), List.mem_of_getElem? (i := 1070) (by decide +kernel), List.mem_of_getElem? (i := 1071) (by decide +kernel)⟩
theorem lw_p58 : lw_okq (⟨"InputOutputModel", "goPlain", "(IIII)V"⟩, 53) := ⟨⟨by decide +kernel, by decide +kernel⟩, List.mem_of_getElem? (i := 764) (by decide +kernel), List.mem_of_getElem? (i := 1074) (by decide +kernel), List.mem_of_getElem? (i := 1075) (by decide +kernel)⟩
theorem lw_p59 : lw_okq (⟨"InputOutputModel", "goTimes", "(III)V"⟩, 53) := ⟨⟨by decide +kernel, by decide +kernel⟩, List.mem_of_getElem? (i := 764) (by decide +kernel), List.mem_of_getElem? (i := 1078) (by decide +kernel), List.mem_of_getElem? (i := 1079) (by decide +kernel)⟩
theorem lw_p60 : lw_okq (⟨"InputOutputModel", "goEnds", "(IIII)V"⟩, 53) := ⟨⟨by decide +kernel, by decide +kernel⟩, List.mem_of_getElem? (i := 764) (by decide +kernel), List.mem_of_getElem? (i := 1082) (by decide +kernel), List.mem_of_getElem? (i := 1083) (by decide +kernel)⟩
theorem lw_p61 : lw_okq (⟨"InputOutputModel", "goFinally", "(III)V"⟩, 53) := ⟨⟨by decide +kernel, by decide +kernel⟩, List.mem_of_getElem? (i := 764) (by decide +kernel), List.mem_of_getElem? (i := 1086) (by decide +kernel), List.mem_of_getElem? (i := 1087) (by decide +kernel)⟩
theorem lw_p62 : lw_okq (⟨"InputOutputModel", "goOn", "(III)V"⟩, 53) := ⟨⟨by decide +kernel, by decide +kernel⟩, List.mem_of_getElem? (i := 764) (by decide +kernel), List.mem_of_getElem? (i := 1090) (by decide +kernel), List.mem_of_getElem? (i := 1091) (by decide +kernel)⟩
theorem lw_p63 : lw_okq (⟨"InputOutputModel", "goBracket", "(III)V"⟩, 53) := ⟨⟨by decide +kernel, by decide +kernel⟩, List.mem_of_getElem? (i := 764) (by decide +kernel), List.mem_of_getElem? (i := 1094) (by decide +kernel), List.mem_of_getElem? (i := 1095) (by decide +kernel)⟩
def lw_privs_4 : List (MethodName × Nat) := [(⟨"InputOutputModel", "isOpen", "(II)Z"⟩, 53), (⟨"InputOutputModel", "putByte", "(III)V"⟩, 53), (⟨"InputOutputModel", "flush", "(I)Z"⟩, 53), (⟨"InputOutputModel", "seek", "(III)V"⟩, 53), (⟨"InputOutputModel", "close", "(II)V"⟩, 53), (⟨"InputOutputModel", "opened", "(III)V"⟩, 53), (⟨"InputOutputModel", "take", "(II)V"⟩, 53), (⟨"InputOutputModel", "remove", "(I)V"⟩, 53), (⟨"InputOutputModel", "rename", "(I)V"⟩, 53), (⟨"InputOutputModel", "goTexts", "(III)V"⟩, 53), (⟨"InputOutputModel", "goPlain", "(IIII)V"⟩, 53), (⟨"InputOutputModel", "goTimes", "(III)V"⟩, 53), (⟨"InputOutputModel", "goEnds", "(IIII)V"⟩, 53), (⟨"InputOutputModel", "goFinally", "(III)V"⟩, 53), (⟨"InputOutputModel", "goOn", "(III)V"⟩, 53), (⟨"InputOutputModel", "goBracket", "(III)V"⟩, 53)]
theorem lw_r4 : ∀ q ∈ lw_privs_4, lw_okq q := List.forall_mem_cons.mpr ⟨lw_p48, List.forall_mem_cons.mpr ⟨lw_p49, List.forall_mem_cons.mpr ⟨lw_p50, List.forall_mem_cons.mpr ⟨lw_p51, List.forall_mem_cons.mpr ⟨lw_p52, List.forall_mem_cons.mpr ⟨lw_p53, List.forall_mem_cons.mpr ⟨lw_p54, List.forall_mem_cons.mpr ⟨lw_p55, List.forall_mem_cons.mpr ⟨lw_p56, List.forall_mem_cons.mpr ⟨lw_p57, List.forall_mem_cons.mpr ⟨lw_p58, List.forall_mem_cons.mpr ⟨lw_p59, List.forall_mem_cons.mpr ⟨lw_p60, List.forall_mem_cons.mpr ⟨lw_p61, List.forall_mem_cons.mpr ⟨lw_p62, List.forall_mem_cons.mpr ⟨lw_p63, fun _ h => absurd h List.not_mem_nil⟩⟩⟩⟩⟩⟩⟩⟩⟩⟩⟩⟩⟩⟩⟩⟩
def lw_privs : List (MethodName × Nat) := lw_privs_1 ++ (lw_privs_2 ++ (lw_privs_3 ++ (lw_privs_4)))
def lw_tbl : List Cond := k2_sels lw_privs ++ tables_1
theorem lw_privs_ok : ∀ q ∈ lw_privs, lw_okq q := by
  show ∀ q ∈ lw_privs_1 ++ (lw_privs_2 ++ (lw_privs_3 ++ (lw_privs_4))), lw_okq q
  exact List.forall_mem_append.mpr ⟨lw_r1, List.forall_mem_append.mpr ⟨lw_r2, List.forall_mem_append.mpr ⟨lw_r3, lw_r4⟩⟩⟩
def RX0 : String := "InputOutput$Console"
def TX0 : u_T := fun k => match k with
  | 0 => ("InputOutput$Console", "incoming", "[I", true)
  | 1 => ("InputOutput$Console", "kept", "[I", true)
  | 2 => ("InputOutput$Console", "come", "I", false)
  | 3 => ("InputOutput$Console", "gone", "I", false)
  | _ => ("InputOutput$Console", "shown", "I", false)
def tyX0 : Nat → FieldType := fun k => match k with
  | 0 => .array .int
  | 1 => .array .int
  | 2 => .int
  | 3 => .int
  | _ => .int
abbrev wsX00 : List Cond := u_ws RX0 TX0 5
theorem nmX0 : ∀ a, a < 5 → ∀ b, b < 5 → a ≠ b → (TX0 a).2.1 ≠ (TX0 b).2.1 := by decide +kernel
theorem tyX0_ok : ∀ k, k < 5 → parseFieldDescriptor (TX0 k).2.2.1 = some (tyX0 k) := by decide +kernel
abbrev cX0_init : ByteArray := prog_2_method_1_code
def yX0_init : MethodName := ⟨RX0, "<init>", "()V"⟩
abbrev cX0_forget : ByteArray := prog_2_method_2_code
def yX0_forget : MethodName := ⟨RX0, "forget", "()V"⟩
abbrev cX0_supply : ByteArray := prog_2_method_3_code
def yX0_supply : MethodName := ⟨RX0, "supply", "(I)Z"⟩
abbrev cX0_left : ByteArray := prog_2_method_4_code
def yX0_left : MethodName := ⟨RX0, "left", "()I"⟩
abbrev cX0_readByte : ByteArray := prog_2_method_5_code
def yX0_readByte : MethodName := ⟨RX0, "readByte", "()I"⟩
abbrev cX0_print : ByteArray := prog_2_method_6_code
def yX0_print : MethodName := ⟨RX0, "print", "(I)I"⟩
abbrev cX0_printedCount : ByteArray := prog_2_method_7_code
def yX0_printedCount : MethodName := ⟨RX0, "printedCount", "()I"⟩
abbrev cX0_printedByte : ByteArray := prog_2_method_8_code
def yX0_printedByte : MethodName := ⟨RX0, "printedByte", "(I)I"⟩
def RX1 : String := "InputOutput$Disk"
def TX1 : u_T := fun k => match k with
  | 0 => ("InputOutput$Disk", "present", "[Z", true)
  | 1 => ("InputOutput$Disk", "permits", "[I", true)
  | 2 => ("InputOutput$Disk", "lengths", "[I", true)
  | 3 => ("InputOutput$Disk", "bytes", "[[I", true)
  | _ => ("InputOutput$Disk", "used", "I", false)
def tyX1 : Nat → FieldType := fun k => match k with
  | 0 => .array .boolean
  | 1 => .array .int
  | 2 => .array .int
  | 3 => .array (.array .int)
  | _ => .int
abbrev wsX10 : List Cond := u_ws RX1 TX1 5
theorem nmX1 : ∀ a, a < 5 → ∀ b, b < 5 → a ≠ b → (TX1 a).2.1 ≠ (TX1 b).2.1 := by decide +kernel
theorem tyX1_ok : ∀ k, k < 5 → parseFieldDescriptor (TX1 k).2.2.1 = some (tyX1 k) := by decide +kernel
abbrev cX1_init : ByteArray := prog_3_method_1_code
def yX1_init : MethodName := ⟨RX1, "<init>", "()V"⟩
abbrev cX1_isThere : ByteArray := prog_3_method_2_code
def yX1_isThere : MethodName := ⟨RX1, "isThere", "(I)Z"⟩
abbrev cX1_lengthOf : ByteArray := prog_3_method_3_code
def yX1_lengthOf : MethodName := ⟨RX1, "lengthOf", "(I)I"⟩
abbrev cX1_used : ByteArray := prog_3_method_4_code
def yX1_used : MethodName := ⟨RX1, "used", "()I"⟩
abbrev cX1_grants : ByteArray := prog_3_method_5_code
def yX1_grants : MethodName := ⟨RX1, "grants", "(II)Z"⟩
abbrev cX1_changePermits : ByteArray := prog_3_method_6_code
def yX1_changePermits : MethodName := ⟨RX1, "changePermits", "(II)I"⟩
abbrev cX1_byteAt : ByteArray := prog_3_method_7_code
def yX1_byteAt : MethodName := ⟨RX1, "byteAt", "(II)I"⟩
abbrev cX1_create : ByteArray := prog_3_method_8_code
def yX1_create : MethodName := ⟨RX1, "create", "(I)V"⟩
abbrev cX1_makeEmpty : ByteArray := prog_3_method_9_code
def yX1_makeEmpty : MethodName := ⟨RX1, "makeEmpty", "(I)V"⟩
abbrev cX1_remove : ByteArray := prog_3_method_10_code
def yX1_remove : MethodName := ⟨RX1, "remove", "(I)V"⟩
abbrev cX1_append : ByteArray := prog_3_method_11_code
def yX1_append : MethodName := ⟨RX1, "append", "(II)Z"⟩
abbrev cX1_write : ByteArray := prog_3_method_12_code
def yX1_write : MethodName := ⟨RX1, "write", "(III)Z"⟩
abbrev cX1_move : ByteArray := prog_3_method_13_code
def yX1_move : MethodName := ⟨RX1, "move", "(II)V"⟩
def RX2 : String := "InputOutput$Handle"
def TX2 : u_T := fun k => match k with
  | 0 => ("InputOutput$Handle", "disk", "LInputOutput$Disk;", true)
  | 1 => ("InputOutput$Handle", "buffer", "[I", true)
  | 2 => ("InputOutput$Handle", "waiting", "I", false)
  | 3 => ("InputOutput$Handle", "buffering", "I", false)
  | 4 => ("InputOutput$Handle", "file", "I", false)
  | 5 => ("InputOutput$Handle", "mode", "I", false)
  | 6 => ("InputOutput$Handle", "place", "I", false)
  | 7 => ("InputOutput$Handle", "state", "I", false)
  | 8 => ("InputOutput$Handle", "given", "I", false)
  | 9 => ("InputOutput$Handle", "taken", "I", false)
  | _ => ("InputOutput$Handle", "laid", "I", false)
def tyX2 : Nat → FieldType := fun k => match k with
  | 0 => .object "InputOutput$Disk"
  | 1 => .array .int
  | 2 => .int
  | 3 => .int
  | 4 => .int
  | 5 => .int
  | 6 => .int
  | 7 => .int
  | 8 => .int
  | 9 => .int
  | _ => .int
abbrev wsX20 : List Cond := u_ws RX2 TX2 11
theorem nmX2 : ∀ a, a < 11 → ∀ b, b < 11 → a ≠ b → (TX2 a).2.1 ≠ (TX2 b).2.1 := by decide +kernel
theorem tyX2_ok : ∀ k, k < 11 → parseFieldDescriptor (TX2 k).2.2.1 = some (tyX2 k) := by decide +kernel
abbrev cX2_init : ByteArray := prog_4_method_1_code
def yX2_init : MethodName := ⟨RX2, "<init>", "(LInputOutput$Disk;)V"⟩
abbrev cX2_begin : ByteArray := prog_4_method_2_code
def yX2_begin : MethodName := ⟨RX2, "begin", "(II)V"⟩
abbrev cX2_isOpen : ByteArray := prog_4_method_3_code
def yX2_isOpen : MethodName := ⟨RX2, "isOpen", "()Z"⟩
abbrev cX2_isHalf : ByteArray := prog_4_method_4_code
def yX2_isHalf : MethodName := ⟨RX2, "isHalf", "()Z"⟩
abbrev cX2_isClosed : ByteArray := prog_4_method_5_code
def yX2_isClosed : MethodName := ⟨RX2, "isClosed", "()Z"⟩
abbrev cX2_writes : ByteArray := prog_4_method_6_code
def yX2_writes : MethodName := ⟨RX2, "writes", "()Z"⟩
abbrev cX2_holds : ByteArray := prog_4_method_7_code
def yX2_holds : MethodName := ⟨RX2, "holds", "(I)Z"⟩
abbrev cX2_becomeHalf : ByteArray := prog_4_method_8_code
def yX2_becomeHalf : MethodName := ⟨RX2, "becomeHalf", "()Z"⟩
abbrev cX2_endReading : ByteArray := prog_4_method_9_code
def yX2_endReading : MethodName := ⟨RX2, "endReading", "()V"⟩
abbrev cX2_close : ByteArray := prog_4_method_10_code
def yX2_close : MethodName := ⟨RX2, "close", "()I"⟩
abbrev cX2_put : ByteArray := prog_4_method_11_code
def yX2_put : MethodName := ⟨RX2, "put", "(I)I"⟩
abbrev cX2_isDue : ByteArray := prog_4_method_12_code
def yX2_isDue : MethodName := ⟨RX2, "isDue", "(I)Z"⟩
abbrev cX2_flush : ByteArray := prog_4_method_13_code
def yX2_flush : MethodName := ⟨RX2, "flush", "()I"⟩
abbrev cX2_take : ByteArray := prog_4_method_14_code
def yX2_take : MethodName := ⟨RX2, "take", "()I"⟩
abbrev cX2_nextByte : ByteArray := prog_4_method_15_code
def yX2_nextByte : MethodName := ⟨RX2, "nextByte", "()I"⟩
abbrev cX2_seek : ByteArray := prog_4_method_16_code
def yX2_seek : MethodName := ⟨RX2, "seek", "(I)I"⟩
abbrev cX2_tellPlace : ByteArray := prog_4_method_17_code
def yX2_tellPlace : MethodName := ⟨RX2, "tellPlace", "()I"⟩
abbrev cX2_measure : ByteArray := prog_4_method_18_code
def yX2_measure : MethodName := ⟨RX2, "measure", "()I"⟩
abbrev cX2_changeBuffer : ByteArray := prog_4_method_19_code
def yX2_changeBuffer : MethodName := ⟨RX2, "changeBuffer", "(I)I"⟩
abbrev cX2_fact : ByteArray := prog_4_method_20_code
def yX2_fact : MethodName := ⟨RX2, "fact", "(I)I"⟩
def RX3 : String := "InputOutput$Handles"
def TX3 : u_T := fun k => match k with
  | 0 => ("InputOutput$Handles", "disk", "LInputOutput$Disk;", true)
  | 1 => ("InputOutput$Handles", "all", "[LInputOutput$Handle;", true)
  | _ => ("InputOutput$Handles", "count", "I", false)
def tyX3 : Nat → FieldType := fun k => match k with
  | 0 => .object "InputOutput$Disk"
  | 1 => .array (.object "InputOutput$Handle")
  | _ => .int
abbrev wsX30 : List Cond := u_ws RX3 TX3 3
theorem nmX3 : ∀ a, a < 3 → ∀ b, b < 3 → a ≠ b → (TX3 a).2.1 ≠ (TX3 b).2.1 := by decide +kernel
theorem tyX3_ok : ∀ k, k < 3 → parseFieldDescriptor (TX3 k).2.2.1 = some (tyX3 k) := by decide +kernel
abbrev cX3_init : ByteArray := prog_5_method_1_code
def yX3_init : MethodName := ⟨RX3, "<init>", "(LInputOutput$Disk;)V"⟩
abbrev cX3_count : ByteArray := prog_5_method_2_code
def yX3_count : MethodName := ⟨RX3, "count", "()I"⟩
abbrev cX3_forget : ByteArray := prog_5_method_3_code
def yX3_forget : MethodName := ⟨RX3, "forget", "()V"⟩
abbrev cX3_pick : ByteArray := prog_5_method_4_code
def yX3_pick : MethodName := ⟨RX3, "pick", "(I)LInputOutput$Handle;"⟩
abbrev cX3_open : ByteArray := prog_5_method_5_code
def yX3_open : MethodName := ⟨RX3, "open", "(II)I"⟩
abbrev cX3_refusalToOpen : ByteArray := prog_5_method_6_code
def yX3_refusalToOpen : MethodName := ⟨RX3, "refusalToOpen", "(II)I"⟩
abbrev cX3_isHeld : ByteArray := prog_5_method_7_code
def yX3_isHeld : MethodName := ⟨RX3, "isHeld", "(IZ)Z"⟩
abbrev cX3_removeFile : ByteArray := prog_5_method_8_code
def yX3_removeFile : MethodName := ⟨RX3, "removeFile", "(I)I"⟩
abbrev cX3_renameFile : ByteArray := prog_5_method_9_code
def yX3_renameFile : MethodName := ⟨RX3, "renameFile", "(II)I"⟩
abbrev cX3_refusalToMove : ByteArray := prog_5_method_10_code
def yX3_refusalToMove : MethodName := ⟨RX3, "refusalToMove", "(II)I"⟩
abbrev cX3_closeBehindRun : ByteArray := prog_5_method_11_code
def yX3_closeBehindRun : MethodName := ⟨RX3, "closeBehindRun", "()V"⟩
def RX4 : String := "InputOutput$Journal"
def TX4 : u_T := fun k => match k with
  | 0 => ("InputOutput$Journal", "entries", "[I", true)
  | _ => ("InputOutput$Journal", "count", "I", false)
def tyX4 : Nat → FieldType := fun k => match k with
  | 0 => .array .int
  | _ => .int
abbrev wsX40 : List Cond := u_ws RX4 TX4 2
theorem nmX4 : ∀ a, a < 2 → ∀ b, b < 2 → a ≠ b → (TX4 a).2.1 ≠ (TX4 b).2.1 := by decide +kernel
theorem tyX4_ok : ∀ k, k < 2 → parseFieldDescriptor (TX4 k).2.2.1 = some (tyX4 k) := by decide +kernel
abbrev cX4_init : ByteArray := prog_6_method_1_code
def yX4_init : MethodName := ⟨RX4, "<init>", "()V"⟩
abbrev cX4_count : ByteArray := prog_6_method_2_code
def yX4_count : MethodName := ⟨RX4, "count", "()I"⟩
abbrev cX4_forget : ByteArray := prog_6_method_3_code
def yX4_forget : MethodName := ⟨RX4, "forget", "()V"⟩
abbrev cX4_note : ByteArray := prog_6_method_4_code
def yX4_note : MethodName := ⟨RX4, "note", "(I)V"⟩
abbrev cX4_entry : ByteArray := prog_6_method_5_code
def yX4_entry : MethodName := ⟨RX4, "entry", "(I)I"⟩
def RX5 : String := "InputOutput$LazyList"
def TX5 : u_T := fun k => match k with
  | 0 => ("InputOutput$LazyList", "items", "[I", true)
  | 1 => ("InputOutput$LazyList", "source", "LInputOutput$Handle;", false)
  | _ => ("InputOutput$LazyList", "length", "I", false)
def tyX5 : Nat → FieldType := fun k => match k with
  | 0 => .array .int
  | 1 => .object "InputOutput$Handle"
  | _ => .int
abbrev wsX50 : List Cond := u_ws RX5 TX5 3
theorem nmX5 : ∀ a, a < 3 → ∀ b, b < 3 → a ≠ b → (TX5 a).2.1 ≠ (TX5 b).2.1 := by decide +kernel
theorem tyX5_ok : ∀ k, k < 3 → parseFieldDescriptor (TX5 k).2.2.1 = some (tyX5 k) := by decide +kernel
abbrev cX5_init : ByteArray := prog_7_method_1_code
def yX5_init : MethodName := ⟨RX5, "<init>", "()V"⟩
abbrev cX5_begin : ByteArray := prog_7_method_2_code
def yX5_begin : MethodName := ⟨RX5, "begin", "(LInputOutput$Handle;)V"⟩
abbrev cX5_length : ByteArray := prog_7_method_3_code
def yX5_length : MethodName := ⟨RX5, "length", "()I"⟩
abbrev cX5_item : ByteArray := prog_7_method_4_code
def yX5_item : MethodName := ⟨RX5, "item", "(I)I"⟩
abbrev cX5_reach : ByteArray := prog_7_method_5_code
def yX5_reach : MethodName := ⟨RX5, "reach", "(I)I"⟩
abbrev cX5_grow : ByteArray := prog_7_method_6_code
def yX5_grow : MethodName := ⟨RX5, "grow", "()Z"⟩
def RX6 : String := "InputOutput$Lists"
def TX6 : u_T := fun k => match k with
  | 0 => ("InputOutput$Lists", "all", "[LInputOutput$LazyList;", true)
  | _ => ("InputOutput$Lists", "count", "I", false)
def tyX6 : Nat → FieldType := fun k => match k with
  | 0 => .array (.object "InputOutput$LazyList")
  | _ => .int
abbrev wsX60 : List Cond := u_ws RX6 TX6 2
theorem nmX6 : ∀ a, a < 2 → ∀ b, b < 2 → a ≠ b → (TX6 a).2.1 ≠ (TX6 b).2.1 := by decide +kernel
theorem tyX6_ok : ∀ k, k < 2 → parseFieldDescriptor (TX6 k).2.2.1 = some (tyX6 k) := by decide +kernel
abbrev cX6_init : ByteArray := prog_8_method_1_code
def yX6_init : MethodName := ⟨RX6, "<init>", "()V"⟩
abbrev cX6_count : ByteArray := prog_8_method_2_code
def yX6_count : MethodName := ⟨RX6, "count", "()I"⟩
abbrev cX6_forget : ByteArray := prog_8_method_3_code
def yX6_forget : MethodName := ⟨RX6, "forget", "()V"⟩
abbrev cX6_pick : ByteArray := prog_8_method_4_code
def yX6_pick : MethodName := ⟨RX6, "pick", "(I)LInputOutput$LazyList;"⟩
abbrev cX6_begin : ByteArray := prog_8_method_5_code
def yX6_begin : MethodName := ⟨RX6, "begin", "(LInputOutput$Handle;)I"⟩
def RX7 : String := "InputOutput$Script"
def TX7 : u_T := fun k => match k with
  | 0 => ("InputOutput$Script", "codes", "[I", true)
  | 1 => ("InputOutput$Script", "firsts", "[I", true)
  | 2 => ("InputOutput$Script", "seconds", "[I", true)
  | 3 => ("InputOutput$Script", "thirds", "[I", true)
  | _ => ("InputOutput$Script", "length", "I", false)
def tyX7 : Nat → FieldType := fun k => match k with
  | 0 => .array .int
  | 1 => .array .int
  | 2 => .array .int
  | 3 => .array .int
  | _ => .int
abbrev wsX70 : List Cond := u_ws RX7 TX7 5
theorem nmX7 : ∀ a, a < 5 → ∀ b, b < 5 → a ≠ b → (TX7 a).2.1 ≠ (TX7 b).2.1 := by decide +kernel
theorem tyX7_ok : ∀ k, k < 5 → parseFieldDescriptor (TX7 k).2.2.1 = some (tyX7 k) := by decide +kernel
abbrev cX7_init : ByteArray := prog_9_method_1_code
def yX7_init : MethodName := ⟨RX7, "<init>", "()V"⟩
abbrev cX7_length : ByteArray := prog_9_method_2_code
def yX7_length : MethodName := ⟨RX7, "length", "()I"⟩
abbrev cX7_forget : ByteArray := prog_9_method_3_code
def yX7_forget : MethodName := ⟨RX7, "forget", "()V"⟩
abbrev cX7_allows : ByteArray := prog_9_method_4_code
def yX7_allows : MethodName := ⟨RX7, "allows", "(IIII)Z"⟩
abbrev cX7_fits : ByteArray := prog_9_method_5_code
def yX7_fits : MethodName := ⟨RX7, "fits", "(II)Z"⟩
abbrev cX7_add : ByteArray := prog_9_method_6_code
def yX7_add : MethodName := ⟨RX7, "add", "(IIII)I"⟩
abbrev cX7_code : ByteArray := prog_9_method_7_code
def yX7_code : MethodName := ⟨RX7, "code", "(I)I"⟩
abbrev cX7_first : ByteArray := prog_9_method_8_code
def yX7_first : MethodName := ⟨RX7, "first", "(I)I"⟩
abbrev cX7_second : ByteArray := prog_9_method_9_code
def yX7_second : MethodName := ⟨RX7, "second", "(I)I"⟩
abbrev cX7_third : ByteArray := prog_9_method_10_code
def yX7_third : MethodName := ⟨RX7, "third", "(I)I"⟩
def RX8 : String := "InputOutput$Worker"
def TX8 : u_T := fun k => match k with
  | 0 => ("InputOutput$Worker", "script", "LInputOutput$Script;", true)
  | 1 => ("InputOutput$Worker", "console", "LInputOutput$Console;", true)
  | 2 => ("InputOutput$Worker", "handles", "LInputOutput$Handles;", true)
  | 3 => ("InputOutput$Worker", "lists", "LInputOutput$Lists;", true)
  | 4 => ("InputOutput$Worker", "journal", "LInputOutput$Journal;", true)
  | 5 => ("InputOutput$Worker", "variableSorts", "[I", true)
  | 6 => ("InputOutput$Worker", "variableNumbers", "[I", true)
  | 7 => ("InputOutput$Worker", "ending", "I", false)
  | 8 => ("InputOutput$Worker", "number", "I", false)
  | 9 => ("InputOutput$Worker", "culprit", "I", false)
  | _ => ("InputOutput$Worker", "steps", "I", false)
def tyX8 : Nat → FieldType := fun k => match k with
  | 0 => .object "InputOutput$Script"
  | 1 => .object "InputOutput$Console"
  | 2 => .object "InputOutput$Handles"
  | 3 => .object "InputOutput$Lists"
  | 4 => .object "InputOutput$Journal"
  | 5 => .array .int
  | 6 => .array .int
  | 7 => .int
  | 8 => .int
  | 9 => .int
  | _ => .int
abbrev wsX80 : List Cond := u_ws RX8 TX8 11
theorem nmX8 : ∀ a, a < 11 → ∀ b, b < 11 → a ≠ b → (TX8 a).2.1 ≠ (TX8 b).2.1 := by decide +kernel
theorem tyX8_ok : ∀ k, k < 11 → parseFieldDescriptor (TX8 k).2.2.1 = some (tyX8 k) := by decide +kernel
abbrev cX8_init : ByteArray := prog_10_method_1_code
def yX8_init : MethodName := ⟨RX8, "<init>", "(LInputOutput$Script;LInputOutput$Console;LInputOutput$Handles;LInputOutput$Lists;LInputOutput$Journal;)V"⟩
abbrev cX8_outcome : ByteArray := prog_10_method_2_code
def yX8_outcome : MethodName := ⟨RX8, "outcome", "()I"⟩
abbrev cX8_failedNode : ByteArray := prog_10_method_3_code
def yX8_failedNode : MethodName := ⟨RX8, "failedNode", "()I"⟩
abbrev cX8_steps : ByteArray := prog_10_method_4_code
def yX8_steps : MethodName := ⟨RX8, "steps", "()I"⟩
abbrev cX8_perform : ByteArray := prog_10_method_5_code
def yX8_perform : MethodName := ⟨RX8, "perform", "(I)I"⟩
abbrev cX8_work : ByteArray := prog_10_method_6_code
def yX8_work : MethodName := ⟨RX8, "work", "(II)Z"⟩
abbrev cX8_give : ByteArray := prog_10_method_7_code
def yX8_give : MethodName := ⟨RX8, "give", "(II)Z"⟩
abbrev cX8_fail : ByteArray := prog_10_method_8_code
def yX8_fail : MethodName := ⟨RX8, "fail", "(II)Z"⟩
abbrev cX8_stop : ByteArray := prog_10_method_9_code
def yX8_stop : MethodName := ⟨RX8, "stop", "()Z"⟩
abbrev cX8_settle : ByteArray := prog_10_method_10_code
def yX8_settle : MethodName := ⟨RX8, "settle", "(III)Z"⟩
abbrev cX8_act : ByteArray := prog_10_method_11_code
def yX8_act : MethodName := ⟨RX8, "act", "(III)Z"⟩
abbrev cX8_workToNumber : ByteArray := prog_10_method_12_code
def yX8_workToNumber : MethodName := ⟨RX8, "workToNumber", "(III)Z"⟩
abbrev cX8_workToHandle : ByteArray := prog_10_method_13_code
def yX8_workToHandle : MethodName := ⟨RX8, "workToHandle", "(III)LInputOutput$Handle;"⟩
abbrev cX8_workToList : ByteArray := prog_10_method_14_code
def yX8_workToList : MethodName := ⟨RX8, "workToList", "(III)LInputOutput$LazyList;"⟩
abbrev cX8_assign : ByteArray := prog_10_method_15_code
def yX8_assign : MethodName := ⟨RX8, "assign", "(III)V"⟩
abbrev cX8_workSet : ByteArray := prog_10_method_16_code
def yX8_workSet : MethodName := ⟨RX8, "workSet", "(II)Z"⟩
abbrev cX8_workHandle : ByteArray := prog_10_method_17_code
def yX8_workHandle : MethodName := ⟨RX8, "workHandle", "(II)Z"⟩
abbrev cX8_noteClosing : ByteArray := prog_10_method_18_code
def yX8_noteClosing : MethodName := ⟨RX8, "noteClosing", "(ILInputOutput$Handle;)V"⟩
abbrev cX8_workHandleAndNumber : ByteArray := prog_10_method_19_code
def yX8_workHandleAndNumber : MethodName := ⟨RX8, "workHandleAndNumber", "(II)Z"⟩
abbrev cX8_workItem : ByteArray := prog_10_method_20_code
def yX8_workItem : MethodName := ⟨RX8, "workItem", "(II)Z"⟩
abbrev cX8_workLength : ByteArray := prog_10_method_21_code
def yX8_workLength : MethodName := ⟨RX8, "workLength", "(II)Z"⟩
abbrev cX8_noteTimes : ByteArray := prog_10_method_22_code
def yX8_noteTimes : MethodName := ⟨RX8, "noteTimes", "(II)V"⟩
abbrev cX8_actAlone : ByteArray := prog_10_method_23_code
def yX8_actAlone : MethodName := ⟨RX8, "actAlone", "(I)Z"⟩
abbrev cX8_workNumberFirst : ByteArray := prog_10_method_24_code
def yX8_workNumberFirst : MethodName := ⟨RX8, "workNumberFirst", "(II)Z"⟩
abbrev cX8_workTimes : ByteArray := prog_10_method_25_code
def yX8_workTimes : MethodName := ⟨RX8, "workTimes", "(III)Z"⟩
abbrev cX8_workTwoNumbers : ByteArray := prog_10_method_26_code
def yX8_workTwoNumbers : MethodName := ⟨RX8, "workTwoNumbers", "(II)Z"⟩
abbrev cX8_workCatch : ByteArray := prog_10_method_27_code
def yX8_workCatch : MethodName := ⟨RX8, "workCatch", "(II)Z"⟩
abbrev cX8_workBracket : ByteArray := prog_10_method_28_code
def yX8_workBracket : MethodName := ⟨RX8, "workBracket", "(II)Z"⟩
abbrev cX8_workEnd : ByteArray := prog_10_method_29_code
def yX8_workEnd : MethodName := ⟨RX8, "workEnd", "(II)Z"⟩
def RX9 : String := "InputOutput"
def TX9 : u_T := fun k => match k with
  | 0 => ("InputOutput", "disk", "LInputOutput$Disk;", true)
  | 1 => ("InputOutput", "console", "LInputOutput$Console;", true)
  | 2 => ("InputOutput", "script", "LInputOutput$Script;", true)
  | 3 => ("InputOutput", "handles", "LInputOutput$Handles;", true)
  | 4 => ("InputOutput", "lists", "LInputOutput$Lists;", true)
  | 5 => ("InputOutput", "journal", "LInputOutput$Journal;", true)
  | _ => ("InputOutput", "worker", "LInputOutput$Worker;", true)
def tyX9 : Nat → FieldType := fun k => match k with
  | 0 => .object "InputOutput$Disk"
  | 1 => .object "InputOutput$Console"
  | 2 => .object "InputOutput$Script"
  | 3 => .object "InputOutput$Handles"
  | 4 => .object "InputOutput$Lists"
  | 5 => .object "InputOutput$Journal"
  | _ => .object "InputOutput$Worker"
abbrev wsX90 : List Cond := u_ws RX9 TX9 7
theorem nmX9 : ∀ a, a < 7 → ∀ b, b < 7 → a ≠ b → (TX9 a).2.1 ≠ (TX9 b).2.1 := by decide +kernel
theorem tyX9_ok : ∀ k, k < 7 → parseFieldDescriptor (TX9 k).2.2.1 = some (tyX9 k) := by decide +kernel
abbrev cX9_init : ByteArray := prog_1_method_1_code
def yX9_init : MethodName := ⟨RX9, "<init>", "()V"⟩
abbrev cX9_lay : ByteArray := prog_1_method_2_code
def yX9_lay : MethodName := ⟨RX9, "lay", "(II)I"⟩
abbrev cX9_there : ByteArray := prog_1_method_3_code
def yX9_there : MethodName := ⟨RX9, "there", "(IZ)I"⟩
abbrev cX9_permit : ByteArray := prog_1_method_4_code
def yX9_permit : MethodName := ⟨RX9, "permit", "(II)I"⟩
abbrev cX9_input : ByteArray := prog_1_method_5_code
def yX9_input : MethodName := ⟨RX9, "input", "(I)I"⟩
abbrev cX9_node : ByteArray := prog_1_method_6_code
def yX9_node : MethodName := ⟨RX9, "node", "(IIII)I"⟩
abbrev cX9_clear : ByteArray := prog_1_method_7_code
def yX9_clear : MethodName := ⟨RX9, "clear", "()I"⟩
abbrev cX9_run : ByteArray := prog_1_method_8_code
def yX9_run : MethodName := ⟨RX9, "run", "(I)I"⟩
abbrev cX9_value : ByteArray := prog_1_method_9_code
def yX9_value : MethodName := ⟨RX9, "value", "()I"⟩
abbrev cX9_where : ByteArray := prog_1_method_10_code
def yX9_where : MethodName := ⟨RX9, "where", "()I"⟩
abbrev cX9_worked : ByteArray := prog_1_method_11_code
def yX9_worked : MethodName := ⟨RX9, "worked", "()I"⟩
abbrev cX9_order : ByteArray := prog_1_method_12_code
def yX9_order : MethodName := ⟨RX9, "order", "(I)I"⟩
abbrev cX9_handle : ByteArray := prog_1_method_13_code
def yX9_handle : MethodName := ⟨RX9, "handle", "(II)I"⟩
abbrev cX9_content : ByteArray := prog_1_method_14_code
def yX9_content : MethodName := ⟨RX9, "content", "(II)I"⟩
abbrev cX9_size : ByteArray := prog_1_method_15_code
def yX9_size : MethodName := ⟨RX9, "size", "(I)I"⟩
abbrev cX9_printed : ByteArray := prog_1_method_16_code
def yX9_printed : MethodName := ⟨RX9, "printed", "(I)I"⟩
abbrev cX9_told : ByteArray := prog_1_method_17_code
def yX9_told : MethodName := ⟨RX9, "told", "(I)I"⟩
abbrev cX9_within : ByteArray := prog_1_method_18_code
def yX9_within : MethodName := ⟨RX9, "within", "(II)Z"⟩
abbrev cX9_mayTake : ByteArray := prog_1_method_19_code
def yX9_mayTake : MethodName := ⟨RX9, "mayTake", "(I)Z"⟩
abbrev cX9_turned : ByteArray := prog_1_method_20_code
def yX9_turned : MethodName := ⟨RX9, "turned", "(I)I"⟩
def RX10 : String := "InputOutputModel"
def TX10 : u_T := fun k => match k with
  | 0 => ("InputOutputModel", "isThere", "[Z", true)
  | 1 => ("InputOutputModel", "bytes", "[I", true)
  | 2 => ("InputOutputModel", "content", "[B", true)
  | 3 => ("InputOutputModel", "permits", "[I", true)
  | 4 => ("InputOutputModel", "inputs", "I", false)
  | 5 => ("InputOutputModel", "nextInput", "I", false)
  | 6 => ("InputOutputModel", "input", "[B", true)
  | 7 => ("InputOutputModel", "outputs", "I", false)
  | 8 => ("InputOutputModel", "output", "[B", true)
  | 9 => ("InputOutputModel", "nodes", "I", false)
  | 10 => ("InputOutputModel", "code", "[I", true)
  | 11 => ("InputOutputModel", "a", "[I", true)
  | 12 => ("InputOutputModel", "b", "[I", true)
  | 13 => ("InputOutputModel", "c", "[I", true)
  | 14 => ("InputOutputModel", "variableSort", "[I", true)
  | 15 => ("InputOutputModel", "variable", "[I", true)
  | 16 => ("InputOutputModel", "handles", "I", false)
  | 17 => ("InputOutputModel", "file", "[I", true)
  | 18 => ("InputOutputModel", "mode", "[I", true)
  | 19 => ("InputOutputModel", "place", "[I", true)
  | 20 => ("InputOutputModel", "state", "[I", true)
  | 21 => ("InputOutputModel", "ended", "[I", true)
  | 22 => ("InputOutputModel", "buffer", "[I", true)
  | 23 => ("InputOutputModel", "waiting", "[I", true)
  | 24 => ("InputOutputModel", "waits", "[B", true)
  | 25 => ("InputOutputModel", "put", "[I", true)
  | 26 => ("InputOutputModel", "taken", "[I", true)
  | 27 => ("InputOutputModel", "laid", "[I", true)
  | 28 => ("InputOutputModel", "lists", "I", false)
  | 29 => ("InputOutputModel", "listHandle", "[I", true)
  | 30 => ("InputOutputModel", "items", "[I", true)
  | 31 => ("InputOutputModel", "item", "[B", true)
  | 32 => ("InputOutputModel", "isEnded", "[Z", true)
  | 33 => ("InputOutputModel", "orders", "I", false)
  | 34 => ("InputOutputModel", "order", "[I", true)
  | 35 => ("InputOutputModel", "worked", "I", false)
  | 36 => ("InputOutputModel", "value", "I", false)
  | 37 => ("InputOutputModel", "where", "I", false)
  | 38 => ("InputOutputModel", "pile", "I", false)
  | 39 => ("InputOutputModel", "node", "[I", true)
  | 40 => ("InputOutputModel", "step", "[I", true)
  | 41 => ("InputOutputModel", "kept", "[I", true)
  | 42 => ("InputOutputModel", "keptSort", "[I", true)
  | 43 => ("InputOutputModel", "going", "[I", true)
  | 44 => ("InputOutputModel", "goingWith", "[I", true)
  | 45 => ("InputOutputModel", "goingWhere", "[I", true)
  | 46 => ("InputOutputModel", "sort", "I", false)
  | 47 => ("InputOutputModel", "last", "I", false)
  | 48 => ("InputOutputModel", "goes", "I", false)
  | 49 => ("InputOutputModel", "goesWith", "I", false)
  | 50 => ("InputOutputModel", "goesWhere", "I", false)
  | 51 => ("InputOutputModel", "came", "[I", true)
  | _ => ("InputOutputModel", "cameSort", "[I", true)
def tyX10 : Nat → FieldType := fun k => match k with
  | 0 => .array .boolean
  | 1 => .array .int
  | 2 => .array .byte
  | 3 => .array .int
  | 4 => .int
  | 5 => .int
  | 6 => .array .byte
  | 7 => .int
  | 8 => .array .byte
  | 9 => .int
  | 10 => .array .int
  | 11 => .array .int
  | 12 => .array .int
  | 13 => .array .int
  | 14 => .array .int
  | 15 => .array .int
  | 16 => .int
  | 17 => .array .int
  | 18 => .array .int
  | 19 => .array .int
  | 20 => .array .int
  | 21 => .array .int
  | 22 => .array .int
  | 23 => .array .int
  | 24 => .array .byte
  | 25 => .array .int
  | 26 => .array .int
  | 27 => .array .int
  | 28 => .int
  | 29 => .array .int
  | 30 => .array .int
  | 31 => .array .byte
  | 32 => .array .boolean
  | 33 => .int
  | 34 => .array .int
  | 35 => .int
  | 36 => .int
  | 37 => .int
  | 38 => .int
  | 39 => .array .int
  | 40 => .array .int
  | 41 => .array .int
  | 42 => .array .int
  | 43 => .array .int
  | 44 => .array .int
  | 45 => .array .int
  | 46 => .int
  | 47 => .int
  | 48 => .int
  | 49 => .int
  | 50 => .int
  | 51 => .array .int
  | _ => .array .int
abbrev wsX100 : List Cond := u_ws RX10 TX10 53
theorem nmX10 : ∀ a, a < 53 → ∀ b, b < 53 → a ≠ b → (TX10 a).2.1 ≠ (TX10 b).2.1 := by decide +kernel
theorem tyX10_ok : ∀ k, k < 53 → parseFieldDescriptor (TX10 k).2.2.1 = some (tyX10 k) := by decide +kernel
abbrev cX10_init : ByteArray := prog_12_method_1_code
def yX10_init : MethodName := ⟨RX10, "<init>", "()V"⟩
abbrev cX10_in : ByteArray := prog_12_method_2_code
def yX10_in : MethodName := ⟨RX10, "in", "(III)Z"⟩
abbrev cX10_allBytes : ByteArray := prog_12_method_3_code
def yX10_allBytes : MethodName := ⟨RX10, "allBytes", "()I"⟩
abbrev cX10_lay : ByteArray := prog_12_method_4_code
def yX10_lay : MethodName := ⟨RX10, "lay", "(II)I"⟩
abbrev cX10_there : ByteArray := prog_12_method_5_code
def yX10_there : MethodName := ⟨RX10, "there", "(IZ)I"⟩
abbrev cX10_permit : ByteArray := prog_12_method_6_code
def yX10_permit : MethodName := ⟨RX10, "permit", "(II)I"⟩
abbrev cX10_input : ByteArray := prog_12_method_7_code
def yX10_input : MethodName := ⟨RX10, "input", "(I)I"⟩
abbrev cX10_isNode : ByteArray := prog_12_method_8_code
def yX10_isNode : MethodName := ⟨RX10, "isNode", "(I)Z"⟩
abbrev cX10_areParts : ByteArray := prog_12_method_9_code
def yX10_areParts : MethodName := ⟨RX10, "areParts", "(IIII)Z"⟩
abbrev cX10_node : ByteArray := prog_12_method_10_code
def yX10_node : MethodName := ⟨RX10, "node", "(IIII)I"⟩
abbrev cX10_clear : ByteArray := prog_12_method_11_code
def yX10_clear : MethodName := ⟨RX10, "clear", "()I"⟩
abbrev cX10_isHeld : ByteArray := prog_12_method_12_code
def yX10_isHeld : MethodName := ⟨RX10, "isHeld", "(I)Z"⟩
abbrev cX10_isHeldToWrite : ByteArray := prog_12_method_13_code
def yX10_isHeldToWrite : MethodName := ⟨RX10, "isHeldToWrite", "(I)Z"⟩
abbrev cX10_note : ByteArray := prog_12_method_14_code
def yX10_note : MethodName := ⟨RX10, "note", "(I)V"⟩
abbrev cX10_flush : ByteArray := prog_12_method_15_code
def yX10_flush : MethodName := ⟨RX10, "flush", "(I)Z"⟩
abbrev cX10_openRefused : ByteArray := prog_12_method_16_code
def yX10_openRefused : MethodName := ⟨RX10, "openRefused", "(II)I"⟩
abbrev cX10_opens : ByteArray := prog_12_method_17_code
def yX10_opens : MethodName := ⟨RX10, "opens", "(I)V"⟩
abbrev cX10_remove : ByteArray := prog_12_method_18_code
def yX10_remove : MethodName := ⟨RX10, "remove", "(I)V"⟩
abbrev cX10_rename : ByteArray := prog_12_method_19_code
def yX10_rename : MethodName := ⟨RX10, "rename", "(I)V"⟩
abbrev cX10_gives : ByteArray := prog_12_method_20_code
def yX10_gives : MethodName := ⟨RX10, "gives", "(II)V"⟩
abbrev cX10_fails : ByteArray := prog_12_method_21_code
def yX10_fails : MethodName := ⟨RX10, "fails", "(II)V"⟩
abbrev cX10_begin : ByteArray := prog_12_method_22_code
def yX10_begin : MethodName := ⟨RX10, "begin", "(I)V"⟩
abbrev cX10_isSort : ByteArray := prog_12_method_23_code
def yX10_isSort : MethodName := ⟨RX10, "isSort", "(II)Z"⟩
abbrev cX10_isOpen : ByteArray := prog_12_method_24_code
def yX10_isOpen : MethodName := ⟨RX10, "isOpen", "(II)Z"⟩
abbrev cX10_work : ByteArray := prog_12_method_25_code
def yX10_work : MethodName := ⟨RX10, "work", "()V"⟩
abbrev cX10_go : ByteArray := prog_12_method_26_code
def yX10_go : MethodName := ⟨RX10, "go", "(II)V"⟩
abbrev cX10_goTexts : ByteArray := prog_12_method_27_code
def yX10_goTexts : MethodName := ⟨RX10, "goTexts", "(III)V"⟩
abbrev cX10_goPlain : ByteArray := prog_12_method_28_code
def yX10_goPlain : MethodName := ⟨RX10, "goPlain", "(IIII)V"⟩
abbrev cX10_goTimes : ByteArray := prog_12_method_29_code
def yX10_goTimes : MethodName := ⟨RX10, "goTimes", "(III)V"⟩
abbrev cX10_goHandles : ByteArray := prog_12_method_30_code
def yX10_goHandles : MethodName := ⟨RX10, "goHandles", "(IIII)V"⟩
abbrev cX10_pair : ByteArray := prog_12_method_31_code
def yX10_pair : MethodName := ⟨RX10, "pair", "(IIII)V"⟩
abbrev cX10_close : ByteArray := prog_12_method_32_code
def yX10_close : MethodName := ⟨RX10, "close", "(II)V"⟩
abbrev cX10_seek : ByteArray := prog_12_method_33_code
def yX10_seek : MethodName := ⟨RX10, "seek", "(III)V"⟩
abbrev cX10_putByte : ByteArray := prog_12_method_34_code
def yX10_putByte : MethodName := ⟨RX10, "putByte", "(III)V"⟩
abbrev cX10_take : ByteArray := prog_12_method_35_code
def yX10_take : MethodName := ⟨RX10, "take", "(II)V"⟩
abbrev cX10_opened : ByteArray := prog_12_method_36_code
def yX10_opened : MethodName := ⟨RX10, "opened", "(III)V"⟩
abbrev cX10_list : ByteArray := prog_12_method_37_code
def yX10_list : MethodName := ⟨RX10, "list", "(III)V"⟩
abbrev cX10_goEnds : ByteArray := prog_12_method_38_code
def yX10_goEnds : MethodName := ⟨RX10, "goEnds", "(IIII)V"⟩
abbrev cX10_goFinally : ByteArray := prog_12_method_39_code
def yX10_goFinally : MethodName := ⟨RX10, "goFinally", "(III)V"⟩
abbrev cX10_goOn : ByteArray := prog_12_method_40_code
def yX10_goOn : MethodName := ⟨RX10, "goOn", "(III)V"⟩
abbrev cX10_goBracket : ByteArray := prog_12_method_41_code
def yX10_goBracket : MethodName := ⟨RX10, "goBracket", "(III)V"⟩
abbrev cX10_unwind : ByteArray := prog_12_method_42_code
def yX10_unwind : MethodName := ⟨RX10, "unwind", "(I)V"⟩
abbrev cX10_run : ByteArray := prog_12_method_43_code
def yX10_run : MethodName := ⟨RX10, "run", "(I)I"⟩
abbrev cX10_value : ByteArray := prog_12_method_44_code
def yX10_value : MethodName := ⟨RX10, "value", "()I"⟩
abbrev cX10_where : ByteArray := prog_12_method_45_code
def yX10_where : MethodName := ⟨RX10, "where", "()I"⟩
abbrev cX10_worked : ByteArray := prog_12_method_46_code
def yX10_worked : MethodName := ⟨RX10, "worked", "()I"⟩
abbrev cX10_order : ByteArray := prog_12_method_47_code
def yX10_order : MethodName := ⟨RX10, "order", "(I)I"⟩
abbrev cX10_handle : ByteArray := prog_12_method_48_code
def yX10_handle : MethodName := ⟨RX10, "handle", "(II)I"⟩
abbrev cX10_content : ByteArray := prog_12_method_49_code
def yX10_content : MethodName := ⟨RX10, "content", "(II)I"⟩
abbrev cX10_size : ByteArray := prog_12_method_50_code
def yX10_size : MethodName := ⟨RX10, "size", "(I)I"⟩
abbrev cX10_printed : ByteArray := prog_12_method_51_code
def yX10_printed : MethodName := ⟨RX10, "printed", "(I)I"⟩
abbrev cX10_told : ByteArray := prog_12_method_52_code
def yX10_told : MethodName := ⟨RX10, "told", "(I)I"⟩
def RJ9 : String := "java/lang/Math"
def TJ9 : u_T := fun k => match k with
  | _ => ("", "", "", false)
def tyJ9 : Nat → FieldType := fun k => match k with
  | _ => .int
abbrev cJ9_min_7cf53 : ByteArray := prog_13_method_69_code
def yJ9_min_7cf53 : MethodName := ⟨RJ9, "min", "(II)I"⟩
def RJ10 : String := "java/lang/System"
def TJ10 : u_T := fun k => match k with
  | _ => ("", "", "", false)
def tyJ10 : Nat → FieldType := fun k => match k with
  | _ => .int
def RJ7 : String := "java/util/Arrays"
def TJ7 : u_T := fun k => match k with
  | _ => ("", "", "", false)
def tyJ7 : Nat → FieldType := fun k => match k with
  | _ => .int
abbrev cJ7_fill_53178 : ByteArray := prog_15_method_103_code
def yJ7_fill_53178 : MethodName := ⟨RJ7, "fill", "([II)V"⟩
def RL : String := "InputOutputLaw"
abbrev cL_law : ByteArray := code
def yL_law : MethodName := ⟨RL, "law", "([I)Z"⟩
abbrev vwCl : List vw_C := [(RX0, TX0, 5), (RX1, TX1, 5), (RX2, TX2, 11), (RX3, TX3, 3), (RX4, TX4, 2), (RX5, TX5, 3), (RX6, TX6, 2), (RX7, TX7, 5), (RX8, TX8, 11), (RX9, TX9, 7), (RX10, TX10, 53)]
end
section
theorem dX0_init_0 : decode cX0_init 0 = .ok (.aload_n 0, 1) := by decide +kernel
theorem dX0_init_1 : decode cX0_init 1 = .ok (.invokespecial 3, 3) := by decide +kernel
theorem dX0_init_4 : decode cX0_init 4 = .ok (.aload_n 0, 1) := by decide +kernel
theorem dX0_init_5 : decode cX0_init 5 = .ok (.bipush 100, 2) := by decide +kernel
theorem dX0_init_7 : decode cX0_init 7 = .ok (.newarray .int, 2) := by decide +kernel
theorem dX0_init_9 : decode cX0_init 9 = .ok (.putfield 9, 3) := by decide +kernel
theorem dX0_init_12 : decode cX0_init 12 = .ok (.aload_n 0, 1) := by decide +kernel
theorem dX0_init_13 : decode cX0_init 13 = .ok (.sipush 200, 3) := by decide +kernel
theorem dX0_init_16 : decode cX0_init 16 = .ok (.newarray .int, 2) := by decide +kernel
theorem dX0_init_18 : decode cX0_init 18 = .ok (.putfield 15, 3) := by decide +kernel
theorem dX0_init_21 : decode cX0_init 21 = .ok (.aload_n 0, 1) := by decide +kernel
theorem dX0_init_22 : decode cX0_init 22 = .ok (.iconst 0, 1) := by decide +kernel
theorem dX0_init_23 : decode cX0_init 23 = .ok (.putfield 18, 3) := by decide +kernel
theorem dX0_init_26 : decode cX0_init 26 = .ok (.aload_n 0, 1) := by decide +kernel
theorem dX0_init_27 : decode cX0_init 27 = .ok (.iconst 0, 1) := by decide +kernel
theorem dX0_init_28 : decode cX0_init 28 = .ok (.putfield 22, 3) := by decide +kernel
theorem dX0_init_31 : decode cX0_init 31 = .ok (.aload_n 0, 1) := by decide +kernel
theorem dX0_init_32 : decode cX0_init 32 = .ok (.iconst 0, 1) := by decide +kernel
theorem dX0_init_33 : decode cX0_init 33 = .ok (.putfield 25, 3) := by decide +kernel
theorem dX0_init_36 : decode cX0_init 36 = .ok (.return_, 1) := by decide +kernel
theorem dX0_forget_0 : decode cX0_forget 0 = .ok (.aload_n 0, 1) := by decide +kernel
theorem dX0_forget_1 : decode cX0_forget 1 = .ok (.iconst 0, 1) := by decide +kernel
theorem dX0_forget_2 : decode cX0_forget 2 = .ok (.putfield 18, 3) := by decide +kernel
theorem dX0_forget_5 : decode cX0_forget 5 = .ok (.aload_n 0, 1) := by decide +kernel
theorem dX0_forget_6 : decode cX0_forget 6 = .ok (.iconst 0, 1) := by decide +kernel
theorem dX0_forget_7 : decode cX0_forget 7 = .ok (.putfield 22, 3) := by decide +kernel
theorem dX0_forget_10 : decode cX0_forget 10 = .ok (.aload_n 0, 1) := by decide +kernel
theorem dX0_forget_11 : decode cX0_forget 11 = .ok (.iconst 0, 1) := by decide +kernel
theorem dX0_forget_12 : decode cX0_forget 12 = .ok (.putfield 25, 3) := by decide +kernel
theorem dX0_forget_15 : decode cX0_forget 15 = .ok (.return_, 1) := by decide +kernel
theorem dX0_supply_0 : decode cX0_supply 0 = .ok (.aload_n 0, 1) := by decide +kernel
theorem dX0_supply_1 : decode cX0_supply 1 = .ok (.getfield 18, 3) := by decide +kernel
theorem dX0_supply_4 : decode cX0_supply 4 = .ok (.bipush 100, 2) := by decide +kernel
theorem dX0_supply_6 : decode cX0_supply 6 = .ok (.if_icmp .lt 5, 3) := by decide +kernel
theorem dX0_supply_9 : decode cX0_supply 9 = .ok (.iconst 0, 1) := by decide +kernel
theorem dX0_supply_10 : decode cX0_supply 10 = .ok (.ireturn, 1) := by decide +kernel
theorem dX0_supply_11 : decode cX0_supply 11 = .ok (.aload_n 0, 1) := by decide +kernel
theorem dX0_supply_12 : decode cX0_supply 12 = .ok (.getfield 9, 3) := by decide +kernel
theorem dX0_supply_15 : decode cX0_supply 15 = .ok (.aload_n 0, 1) := by decide +kernel
theorem dX0_supply_16 : decode cX0_supply 16 = .ok (.getfield 18, 3) := by decide +kernel
theorem dX0_supply_19 : decode cX0_supply 19 = .ok (.iload_n 1, 1) := by decide +kernel
theorem dX0_supply_20 : decode cX0_supply 20 = .ok (.iastore, 1) := by decide +kernel
theorem dX0_supply_21 : decode cX0_supply 21 = .ok (.aload_n 0, 1) := by decide +kernel
theorem dX0_supply_22 : decode cX0_supply 22 = .ok (.dup, 1) := by decide +kernel
theorem dX0_supply_23 : decode cX0_supply 23 = .ok (.getfield 18, 3) := by decide +kernel
theorem dX0_supply_26 : decode cX0_supply 26 = .ok (.iconst 1, 1) := by decide +kernel
theorem dX0_supply_27 : decode cX0_supply 27 = .ok (.iadd, 1) := by decide +kernel
theorem dX0_supply_28 : decode cX0_supply 28 = .ok (.putfield 18, 3) := by decide +kernel
theorem dX0_supply_31 : decode cX0_supply 31 = .ok (.iconst 1, 1) := by decide +kernel
theorem dX0_supply_32 : decode cX0_supply 32 = .ok (.ireturn, 1) := by decide +kernel
theorem dX0_left_0 : decode cX0_left 0 = .ok (.aload_n 0, 1) := by decide +kernel
theorem dX0_left_1 : decode cX0_left 1 = .ok (.getfield 18, 3) := by decide +kernel
theorem dX0_left_4 : decode cX0_left 4 = .ok (.aload_n 0, 1) := by decide +kernel
theorem dX0_left_5 : decode cX0_left 5 = .ok (.getfield 22, 3) := by decide +kernel
theorem dX0_left_8 : decode cX0_left 8 = .ok (.isub, 1) := by decide +kernel
theorem dX0_left_9 : decode cX0_left 9 = .ok (.ireturn, 1) := by decide +kernel
theorem dX0_readByte_0 : decode cX0_readByte 0 = .ok (.aload_n 0, 1) := by decide +kernel
theorem dX0_readByte_1 : decode cX0_readByte 1 = .ok (.getfield 22, 3) := by decide +kernel
theorem dX0_readByte_4 : decode cX0_readByte 4 = .ok (.aload_n 0, 1) := by decide +kernel
theorem dX0_readByte_5 : decode cX0_readByte 5 = .ok (.getfield 18, 3) := by decide +kernel
theorem dX0_readByte_8 : decode cX0_readByte 8 = .ok (.if_icmp .lt 8, 3) := by decide +kernel
theorem dX0_readByte_11 : decode cX0_readByte 11 = .ok (.iconst 3, 1) := by decide +kernel
theorem dX0_readByte_12 : decode cX0_readByte 12 = .ok (.invokestatic 28, 3) := by decide +kernel
theorem dX0_readByte_15 : decode cX0_readByte 15 = .ok (.ireturn, 1) := by decide +kernel
theorem dX0_readByte_16 : decode cX0_readByte 16 = .ok (.aload_n 0, 1) := by decide +kernel
theorem dX0_readByte_17 : decode cX0_readByte 17 = .ok (.getfield 9, 3) := by decide +kernel
theorem dX0_readByte_20 : decode cX0_readByte 20 = .ok (.aload_n 0, 1) := by decide +kernel
theorem dX0_readByte_21 : decode cX0_readByte 21 = .ok (.getfield 22, 3) := by decide +kernel
theorem dX0_readByte_24 : decode cX0_readByte 24 = .ok (.iaload, 1) := by decide +kernel
theorem dX0_readByte_25 : decode cX0_readByte 25 = .ok (.istore_n 1, 1) := by decide +kernel
theorem dX0_readByte_26 : decode cX0_readByte 26 = .ok (.aload_n 0, 1) := by decide +kernel
theorem dX0_readByte_27 : decode cX0_readByte 27 = .ok (.dup, 1) := by decide +kernel
theorem dX0_readByte_28 : decode cX0_readByte 28 = .ok (.getfield 22, 3) := by decide +kernel
theorem dX0_readByte_31 : decode cX0_readByte 31 = .ok (.iconst 1, 1) := by decide +kernel
theorem dX0_readByte_32 : decode cX0_readByte 32 = .ok (.iadd, 1) := by decide +kernel
theorem dX0_readByte_33 : decode cX0_readByte 33 = .ok (.putfield 22, 3) := by decide +kernel
theorem dX0_readByte_36 : decode cX0_readByte 36 = .ok (.iload_n 1, 1) := by decide +kernel
theorem dX0_readByte_37 : decode cX0_readByte 37 = .ok (.ireturn, 1) := by decide +kernel
theorem dX0_print_0 : decode cX0_print 0 = .ok (.aload_n 0, 1) := by decide +kernel
theorem dX0_print_1 : decode cX0_print 1 = .ok (.getfield 25, 3) := by decide +kernel
theorem dX0_print_4 : decode cX0_print 4 = .ok (.sipush 200, 3) := by decide +kernel
theorem dX0_print_7 : decode cX0_print 7 = .ok (.if_icmp .ge 17, 3) := by decide +kernel
theorem dX0_print_10 : decode cX0_print 10 = .ok (.aload_n 0, 1) := by decide +kernel
theorem dX0_print_11 : decode cX0_print 11 = .ok (.getfield 15, 3) := by decide +kernel
theorem dX0_print_14 : decode cX0_print 14 = .ok (.aload_n 0, 1) := by decide +kernel
theorem dX0_print_15 : decode cX0_print 15 = .ok (.getfield 25, 3) := by decide +kernel
theorem dX0_print_18 : decode cX0_print 18 = .ok (.iload_n 1, 1) := by decide +kernel
theorem dX0_print_19 : decode cX0_print 19 = .ok (.sipush 255, 3) := by decide +kernel
theorem dX0_print_22 : decode cX0_print 22 = .ok (.iand, 1) := by decide +kernel
theorem dX0_print_23 : decode cX0_print 23 = .ok (.iastore, 1) := by decide +kernel
theorem dX0_print_24 : decode cX0_print 24 = .ok (.aload_n 0, 1) := by decide +kernel
theorem dX0_print_25 : decode cX0_print 25 = .ok (.dup, 1) := by decide +kernel
theorem dX0_print_26 : decode cX0_print 26 = .ok (.getfield 25, 3) := by decide +kernel
theorem dX0_print_29 : decode cX0_print 29 = .ok (.iconst 1, 1) := by decide +kernel
theorem dX0_print_30 : decode cX0_print 30 = .ok (.iadd, 1) := by decide +kernel
theorem dX0_print_31 : decode cX0_print 31 = .ok (.putfield 25, 3) := by decide +kernel
theorem dX0_print_34 : decode cX0_print 34 = .ok (.aload_n 0, 1) := by decide +kernel
theorem dX0_print_35 : decode cX0_print 35 = .ok (.getfield 25, 3) := by decide +kernel
theorem dX0_print_38 : decode cX0_print 38 = .ok (.ireturn, 1) := by decide +kernel
theorem dX0_printedCount_0 : decode cX0_printedCount 0 = .ok (.aload_n 0, 1) := by decide +kernel
theorem dX0_printedCount_1 : decode cX0_printedCount 1 = .ok (.getfield 25, 3) := by decide +kernel
theorem dX0_printedCount_4 : decode cX0_printedCount 4 = .ok (.ireturn, 1) := by decide +kernel
theorem dX0_printedByte_0 : decode cX0_printedByte 0 = .ok (.iload_n 1, 1) := by decide +kernel
theorem dX0_printedByte_1 : decode cX0_printedByte 1 = .ok (.aload_n 0, 1) := by decide +kernel
theorem dX0_printedByte_2 : decode cX0_printedByte 2 = .ok (.getfield 25, 3) := by decide +kernel
theorem dX0_printedByte_5 : decode cX0_printedByte 5 = .ok (.sipush 200, 3) := by decide +kernel
theorem dX0_printedByte_8 : decode cX0_printedByte 8 = .ok (.invokestatic 32, 3) := by decide +kernel
theorem dX0_printedByte_11 : decode cX0_printedByte 11 = .ok (.invokestatic 38, 3) := by decide +kernel
theorem dX0_printedByte_14 : decode cX0_printedByte 14 = .ok (.ifCond .eq 12, 3) := by decide +kernel
theorem dX0_printedByte_17 : decode cX0_printedByte 17 = .ok (.aload_n 0, 1) := by decide +kernel
theorem dX0_printedByte_18 : decode cX0_printedByte 18 = .ok (.getfield 15, 3) := by decide +kernel
theorem dX0_printedByte_21 : decode cX0_printedByte 21 = .ok (.iload_n 1, 1) := by decide +kernel
theorem dX0_printedByte_22 : decode cX0_printedByte 22 = .ok (.iaload, 1) := by decide +kernel
theorem dX0_printedByte_23 : decode cX0_printedByte 23 = .ok (.goto 4, 3) := by decide +kernel
theorem dX0_printedByte_26 : decode cX0_printedByte 26 = .ok (.iconst (-1), 1) := by decide +kernel
theorem dX0_printedByte_27 : decode cX0_printedByte 27 = .ok (.ireturn, 1) := by decide +kernel
theorem dX1_init_0 : decode cX1_init 0 = .ok (.aload_n 0, 1) := by decide +kernel
theorem dX1_init_1 : decode cX1_init 1 = .ok (.invokespecial 3, 3) := by decide +kernel
theorem dX1_init_4 : decode cX1_init 4 = .ok (.aload_n 0, 1) := by decide +kernel
theorem dX1_init_5 : decode cX1_init 5 = .ok (.bipush 8, 2) := by decide +kernel
theorem dX1_init_7 : decode cX1_init 7 = .ok (.newarray .boolean, 2) := by decide +kernel
theorem dX1_init_9 : decode cX1_init 9 = .ok (.putfield 9, 3) := by decide +kernel
theorem dX1_init_12 : decode cX1_init 12 = .ok (.aload_n 0, 1) := by decide +kernel
theorem dX1_init_13 : decode cX1_init 13 = .ok (.bipush 8, 2) := by decide +kernel
theorem dX1_init_15 : decode cX1_init 15 = .ok (.newarray .int, 2) := by decide +kernel
theorem dX1_init_17 : decode cX1_init 17 = .ok (.putfield 15, 3) := by decide +kernel
theorem dX1_init_20 : decode cX1_init 20 = .ok (.aload_n 0, 1) := by decide +kernel
theorem dX1_init_21 : decode cX1_init 21 = .ok (.bipush 8, 2) := by decide +kernel
theorem dX1_init_23 : decode cX1_init 23 = .ok (.newarray .int, 2) := by decide +kernel
theorem dX1_init_25 : decode cX1_init 25 = .ok (.putfield 19, 3) := by decide +kernel
theorem dX1_init_28 : decode cX1_init 28 = .ok (.aload_n 0, 1) := by decide +kernel
theorem dX1_init_29 : decode cX1_init 29 = .ok (.bipush 8, 2) := by decide +kernel
theorem dX1_init_31 : decode cX1_init 31 = .ok (.bipush 40, 2) := by decide +kernel
theorem dX1_init_33 : decode cX1_init 33 = .ok (.multianewarray 22 2, 4) := by decide +kernel
theorem dX1_init_37 : decode cX1_init 37 = .ok (.putfield 24, 3) := by decide +kernel
theorem dX1_init_40 : decode cX1_init 40 = .ok (.aload_n 0, 1) := by decide +kernel
theorem dX1_init_41 : decode cX1_init 41 = .ok (.iconst 0, 1) := by decide +kernel
theorem dX1_init_42 : decode cX1_init 42 = .ok (.putfield 27, 3) := by decide +kernel
theorem dX1_init_45 : decode cX1_init 45 = .ok (.aload_n 0, 1) := by decide +kernel
theorem dX1_init_46 : decode cX1_init 46 = .ok (.getfield 15, 3) := by decide +kernel
theorem dX1_init_49 : decode cX1_init 49 = .ok (.iconst 3, 1) := by decide +kernel
theorem dX1_init_50 : decode cX1_init 50 = .ok (.invokestatic 31, 3) := by decide +kernel
theorem dX1_init_53 : decode cX1_init 53 = .ok (.return_, 1) := by decide +kernel
theorem dX1_isThere_0 : decode cX1_isThere 0 = .ok (.aload_n 0, 1) := by decide +kernel
theorem dX1_isThere_1 : decode cX1_isThere 1 = .ok (.getfield 9, 3) := by decide +kernel
theorem dX1_isThere_4 : decode cX1_isThere 4 = .ok (.iload_n 1, 1) := by decide +kernel
theorem dX1_isThere_5 : decode cX1_isThere 5 = .ok (.baload, 1) := by decide +kernel
theorem dX1_isThere_6 : decode cX1_isThere 6 = .ok (.ireturn, 1) := by decide +kernel
theorem dX1_lengthOf_0 : decode cX1_lengthOf 0 = .ok (.aload_n 0, 1) := by decide +kernel
theorem dX1_lengthOf_1 : decode cX1_lengthOf 1 = .ok (.getfield 19, 3) := by decide +kernel
theorem dX1_lengthOf_4 : decode cX1_lengthOf 4 = .ok (.iload_n 1, 1) := by decide +kernel
theorem dX1_lengthOf_5 : decode cX1_lengthOf 5 = .ok (.iaload, 1) := by decide +kernel
theorem dX1_lengthOf_6 : decode cX1_lengthOf 6 = .ok (.ireturn, 1) := by decide +kernel
theorem dX1_used_0 : decode cX1_used 0 = .ok (.aload_n 0, 1) := by decide +kernel
theorem dX1_used_1 : decode cX1_used 1 = .ok (.getfield 27, 3) := by decide +kernel
theorem dX1_used_4 : decode cX1_used 4 = .ok (.ireturn, 1) := by decide +kernel
theorem dX1_grants_0 : decode cX1_grants 0 = .ok (.aload_n 0, 1) := by decide +kernel
theorem dX1_grants_1 : decode cX1_grants 1 = .ok (.getfield 15, 3) := by decide +kernel
theorem dX1_grants_4 : decode cX1_grants 4 = .ok (.iload_n 1, 1) := by decide +kernel
theorem dX1_grants_5 : decode cX1_grants 5 = .ok (.iaload, 1) := by decide +kernel
theorem dX1_grants_6 : decode cX1_grants 6 = .ok (.iload_n 2, 1) := by decide +kernel
theorem dX1_grants_7 : decode cX1_grants 7 = .ok (.iand, 1) := by decide +kernel
theorem dX1_grants_8 : decode cX1_grants 8 = .ok (.ifCond .eq 7, 3) := by decide +kernel
theorem dX1_grants_11 : decode cX1_grants 11 = .ok (.iconst 1, 1) := by decide +kernel
theorem dX1_grants_12 : decode cX1_grants 12 = .ok (.goto 4, 3) := by decide +kernel
theorem dX1_grants_15 : decode cX1_grants 15 = .ok (.iconst 0, 1) := by decide +kernel
theorem dX1_grants_16 : decode cX1_grants 16 = .ok (.ireturn, 1) := by decide +kernel
theorem dX1_changePermits_0 : decode cX1_changePermits 0 = .ok (.aload_n 0, 1) := by decide +kernel
theorem dX1_changePermits_1 : decode cX1_changePermits 1 = .ok (.getfield 15, 3) := by decide +kernel
theorem dX1_changePermits_4 : decode cX1_changePermits 4 = .ok (.iload_n 1, 1) := by decide +kernel
theorem dX1_changePermits_5 : decode cX1_changePermits 5 = .ok (.iaload, 1) := by decide +kernel
theorem dX1_changePermits_6 : decode cX1_changePermits 6 = .ok (.istore_n 3, 1) := by decide +kernel
theorem dX1_changePermits_7 : decode cX1_changePermits 7 = .ok (.aload_n 0, 1) := by decide +kernel
theorem dX1_changePermits_8 : decode cX1_changePermits 8 = .ok (.getfield 15, 3) := by decide +kernel
theorem dX1_changePermits_11 : decode cX1_changePermits 11 = .ok (.iload_n 1, 1) := by decide +kernel
theorem dX1_changePermits_12 : decode cX1_changePermits 12 = .ok (.iload_n 2, 1) := by decide +kernel
theorem dX1_changePermits_13 : decode cX1_changePermits 13 = .ok (.iastore, 1) := by decide +kernel
theorem dX1_changePermits_14 : decode cX1_changePermits 14 = .ok (.iload_n 3, 1) := by decide +kernel
theorem dX1_changePermits_15 : decode cX1_changePermits 15 = .ok (.ireturn, 1) := by decide +kernel
theorem dX1_byteAt_0 : decode cX1_byteAt 0 = .ok (.iload_n 2, 1) := by decide +kernel
theorem dX1_byteAt_1 : decode cX1_byteAt 1 = .ok (.ifCond .lt 24, 3) := by decide +kernel
theorem dX1_byteAt_4 : decode cX1_byteAt 4 = .ok (.iload_n 2, 1) := by decide +kernel
theorem dX1_byteAt_5 : decode cX1_byteAt 5 = .ok (.aload_n 0, 1) := by decide +kernel
theorem dX1_byteAt_6 : decode cX1_byteAt 6 = .ok (.getfield 19, 3) := by decide +kernel
theorem dX1_byteAt_9 : decode cX1_byteAt 9 = .ok (.iload_n 1, 1) := by decide +kernel
theorem dX1_byteAt_10 : decode cX1_byteAt 10 = .ok (.iaload, 1) := by decide +kernel
theorem dX1_byteAt_11 : decode cX1_byteAt 11 = .ok (.if_icmp .ge 14, 3) := by decide +kernel
theorem dX1_byteAt_14 : decode cX1_byteAt 14 = .ok (.aload_n 0, 1) := by decide +kernel
theorem dX1_byteAt_15 : decode cX1_byteAt 15 = .ok (.getfield 24, 3) := by decide +kernel
theorem dX1_byteAt_18 : decode cX1_byteAt 18 = .ok (.iload_n 1, 1) := by decide +kernel
theorem dX1_byteAt_19 : decode cX1_byteAt 19 = .ok (.aaload, 1) := by decide +kernel
theorem dX1_byteAt_20 : decode cX1_byteAt 20 = .ok (.iload_n 2, 1) := by decide +kernel
theorem dX1_byteAt_21 : decode cX1_byteAt 21 = .ok (.iaload, 1) := by decide +kernel
theorem dX1_byteAt_22 : decode cX1_byteAt 22 = .ok (.goto 4, 3) := by decide +kernel
theorem dX1_byteAt_25 : decode cX1_byteAt 25 = .ok (.iconst (-1), 1) := by decide +kernel
theorem dX1_byteAt_26 : decode cX1_byteAt 26 = .ok (.ireturn, 1) := by decide +kernel
theorem dX1_create_0 : decode cX1_create 0 = .ok (.aload_n 0, 1) := by decide +kernel
theorem dX1_create_1 : decode cX1_create 1 = .ok (.getfield 9, 3) := by decide +kernel
theorem dX1_create_4 : decode cX1_create 4 = .ok (.iload_n 1, 1) := by decide +kernel
theorem dX1_create_5 : decode cX1_create 5 = .ok (.iconst 1, 1) := by decide +kernel
theorem dX1_create_6 : decode cX1_create 6 = .ok (.bastore, 1) := by decide +kernel
theorem dX1_create_7 : decode cX1_create 7 = .ok (.return_, 1) := by decide +kernel
theorem dX1_makeEmpty_0 : decode cX1_makeEmpty 0 = .ok (.aload_n 0, 1) := by decide +kernel
theorem dX1_makeEmpty_1 : decode cX1_makeEmpty 1 = .ok (.dup, 1) := by decide +kernel
theorem dX1_makeEmpty_2 : decode cX1_makeEmpty 2 = .ok (.getfield 27, 3) := by decide +kernel
theorem dX1_makeEmpty_5 : decode cX1_makeEmpty 5 = .ok (.aload_n 0, 1) := by decide +kernel
theorem dX1_makeEmpty_6 : decode cX1_makeEmpty 6 = .ok (.getfield 19, 3) := by decide +kernel
theorem dX1_makeEmpty_9 : decode cX1_makeEmpty 9 = .ok (.iload_n 1, 1) := by decide +kernel
theorem dX1_makeEmpty_10 : decode cX1_makeEmpty 10 = .ok (.iaload, 1) := by decide +kernel
theorem dX1_makeEmpty_11 : decode cX1_makeEmpty 11 = .ok (.isub, 1) := by decide +kernel
theorem dX1_makeEmpty_12 : decode cX1_makeEmpty 12 = .ok (.putfield 27, 3) := by decide +kernel
theorem dX1_makeEmpty_15 : decode cX1_makeEmpty 15 = .ok (.aload_n 0, 1) := by decide +kernel
theorem dX1_makeEmpty_16 : decode cX1_makeEmpty 16 = .ok (.getfield 19, 3) := by decide +kernel
theorem dX1_makeEmpty_19 : decode cX1_makeEmpty 19 = .ok (.iload_n 1, 1) := by decide +kernel
theorem dX1_makeEmpty_20 : decode cX1_makeEmpty 20 = .ok (.iconst 0, 1) := by decide +kernel
theorem dX1_makeEmpty_21 : decode cX1_makeEmpty 21 = .ok (.iastore, 1) := by decide +kernel
theorem dX1_makeEmpty_22 : decode cX1_makeEmpty 22 = .ok (.return_, 1) := by decide +kernel
theorem dX1_remove_0 : decode cX1_remove 0 = .ok (.aload_n 0, 1) := by decide +kernel
theorem dX1_remove_1 : decode cX1_remove 1 = .ok (.iload_n 1, 1) := by decide +kernel
theorem dX1_remove_2 : decode cX1_remove 2 = .ok (.invokevirtual 37, 3) := by decide +kernel
theorem dX1_remove_5 : decode cX1_remove 5 = .ok (.aload_n 0, 1) := by decide +kernel
theorem dX1_remove_6 : decode cX1_remove 6 = .ok (.getfield 9, 3) := by decide +kernel
theorem dX1_remove_9 : decode cX1_remove 9 = .ok (.iload_n 1, 1) := by decide +kernel
theorem dX1_remove_10 : decode cX1_remove 10 = .ok (.iconst 0, 1) := by decide +kernel
theorem dX1_remove_11 : decode cX1_remove 11 = .ok (.bastore, 1) := by decide +kernel
theorem dX1_remove_12 : decode cX1_remove 12 = .ok (.return_, 1) := by decide +kernel
theorem dX1_append_0 : decode cX1_append 0 = .ok (.aload_n 0, 1) := by decide +kernel
theorem dX1_append_1 : decode cX1_append 1 = .ok (.getfield 19, 3) := by decide +kernel
theorem dX1_append_4 : decode cX1_append 4 = .ok (.iload_n 1, 1) := by decide +kernel
theorem dX1_append_5 : decode cX1_append 5 = .ok (.iaload, 1) := by decide +kernel
theorem dX1_append_6 : decode cX1_append 6 = .ok (.istore_n 3, 1) := by decide +kernel
theorem dX1_append_7 : decode cX1_append 7 = .ok (.iload_n 3, 1) := by decide +kernel
theorem dX1_append_8 : decode cX1_append 8 = .ok (.bipush 40, 2) := by decide +kernel
theorem dX1_append_10 : decode cX1_append 10 = .ok (.if_icmp .ge 12, 3) := by decide +kernel
theorem dX1_append_13 : decode cX1_append 13 = .ok (.aload_n 0, 1) := by decide +kernel
theorem dX1_append_14 : decode cX1_append 14 = .ok (.getfield 27, 3) := by decide +kernel
theorem dX1_append_17 : decode cX1_append 17 = .ok (.bipush 120, 2) := by decide +kernel
theorem dX1_append_19 : decode cX1_append 19 = .ok (.if_icmp .lt 5, 3) := by decide +kernel
theorem dX1_append_22 : decode cX1_append 22 = .ok (.iconst 0, 1) := by decide +kernel
theorem dX1_append_23 : decode cX1_append 23 = .ok (.ireturn, 1) := by decide +kernel
theorem dX1_append_24 : decode cX1_append 24 = .ok (.aload_n 0, 1) := by decide +kernel
theorem dX1_append_25 : decode cX1_append 25 = .ok (.getfield 24, 3) := by decide +kernel
theorem dX1_append_28 : decode cX1_append 28 = .ok (.iload_n 1, 1) := by decide +kernel
theorem dX1_append_29 : decode cX1_append 29 = .ok (.aaload, 1) := by decide +kernel
theorem dX1_append_30 : decode cX1_append 30 = .ok (.iload_n 3, 1) := by decide +kernel
theorem dX1_append_31 : decode cX1_append 31 = .ok (.iload_n 2, 1) := by decide +kernel
theorem dX1_append_32 : decode cX1_append 32 = .ok (.iastore, 1) := by decide +kernel
theorem dX1_append_33 : decode cX1_append 33 = .ok (.aload_n 0, 1) := by decide +kernel
theorem dX1_append_34 : decode cX1_append 34 = .ok (.getfield 19, 3) := by decide +kernel
theorem dX1_append_37 : decode cX1_append 37 = .ok (.iload_n 1, 1) := by decide +kernel
theorem dX1_append_38 : decode cX1_append 38 = .ok (.iload_n 3, 1) := by decide +kernel
theorem dX1_append_39 : decode cX1_append 39 = .ok (.iconst 1, 1) := by decide +kernel
theorem dX1_append_40 : decode cX1_append 40 = .ok (.iadd, 1) := by decide +kernel
theorem dX1_append_41 : decode cX1_append 41 = .ok (.iastore, 1) := by decide +kernel
theorem dX1_append_42 : decode cX1_append 42 = .ok (.aload_n 0, 1) := by decide +kernel
theorem dX1_append_43 : decode cX1_append 43 = .ok (.dup, 1) := by decide +kernel
theorem dX1_append_44 : decode cX1_append 44 = .ok (.getfield 27, 3) := by decide +kernel
theorem dX1_append_47 : decode cX1_append 47 = .ok (.iconst 1, 1) := by decide +kernel
theorem dX1_append_48 : decode cX1_append 48 = .ok (.iadd, 1) := by decide +kernel
theorem dX1_append_49 : decode cX1_append 49 = .ok (.putfield 27, 3) := by decide +kernel
theorem dX1_append_52 : decode cX1_append 52 = .ok (.aload_n 0, 1) := by decide +kernel
theorem dX1_append_53 : decode cX1_append 53 = .ok (.getfield 9, 3) := by decide +kernel
theorem dX1_append_56 : decode cX1_append 56 = .ok (.iload_n 1, 1) := by decide +kernel
theorem dX1_append_57 : decode cX1_append 57 = .ok (.iconst 1, 1) := by decide +kernel
theorem dX1_append_58 : decode cX1_append 58 = .ok (.bastore, 1) := by decide +kernel
theorem dX1_append_59 : decode cX1_append 59 = .ok (.iconst 1, 1) := by decide +kernel
theorem dX1_append_60 : decode cX1_append 60 = .ok (.ireturn, 1) := by decide +kernel
theorem dX1_write_0 : decode cX1_write 0 = .ok (.iload_n 2, 1) := by decide +kernel
theorem dX1_write_1 : decode cX1_write 1 = .ok (.aload_n 0, 1) := by decide +kernel
theorem dX1_write_2 : decode cX1_write 2 = .ok (.getfield 19, 3) := by decide +kernel
theorem dX1_write_5 : decode cX1_write 5 = .ok (.iload_n 1, 1) := by decide +kernel
theorem dX1_write_6 : decode cX1_write 6 = .ok (.iaload, 1) := by decide +kernel
theorem dX1_write_7 : decode cX1_write 7 = .ok (.invokestatic 41, 3) := by decide +kernel
theorem dX1_write_10 : decode cX1_write 10 = .ok (.ifCond .ne 10, 3) := by decide +kernel
theorem dX1_write_13 : decode cX1_write 13 = .ok (.aload_n 0, 1) := by decide +kernel
theorem dX1_write_14 : decode cX1_write 14 = .ok (.iload_n 1, 1) := by decide +kernel
theorem dX1_write_15 : decode cX1_write 15 = .ok (.iload_n 3, 1) := by decide +kernel
theorem dX1_write_16 : decode cX1_write 16 = .ok (.invokevirtual 45, 3) := by decide +kernel
theorem dX1_write_19 : decode cX1_write 19 = .ok (.ireturn, 1) := by decide +kernel
theorem dX1_write_20 : decode cX1_write 20 = .ok (.aload_n 0, 1) := by decide +kernel
theorem dX1_write_21 : decode cX1_write 21 = .ok (.getfield 24, 3) := by decide +kernel
theorem dX1_write_24 : decode cX1_write 24 = .ok (.iload_n 1, 1) := by decide +kernel
theorem dX1_write_25 : decode cX1_write 25 = .ok (.aaload, 1) := by decide +kernel
theorem dX1_write_26 : decode cX1_write 26 = .ok (.iload_n 2, 1) := by decide +kernel
theorem dX1_write_27 : decode cX1_write 27 = .ok (.iload_n 3, 1) := by decide +kernel
theorem dX1_write_28 : decode cX1_write 28 = .ok (.iastore, 1) := by decide +kernel
theorem dX1_write_29 : decode cX1_write 29 = .ok (.iconst 1, 1) := by decide +kernel
theorem dX1_write_30 : decode cX1_write 30 = .ok (.ireturn, 1) := by decide +kernel
theorem dX1_move_0 : decode cX1_move 0 = .ok (.aload_n 0, 1) := by decide +kernel
theorem dX1_move_1 : decode cX1_move 1 = .ok (.dup, 1) := by decide +kernel
theorem dX1_move_2 : decode cX1_move 2 = .ok (.getfield 27, 3) := by decide +kernel
theorem dX1_move_5 : decode cX1_move 5 = .ok (.aload_n 0, 1) := by decide +kernel
theorem dX1_move_6 : decode cX1_move 6 = .ok (.getfield 19, 3) := by decide +kernel
theorem dX1_move_9 : decode cX1_move 9 = .ok (.iload_n 2, 1) := by decide +kernel
theorem dX1_move_10 : decode cX1_move 10 = .ok (.iaload, 1) := by decide +kernel
theorem dX1_move_11 : decode cX1_move 11 = .ok (.isub, 1) := by decide +kernel
theorem dX1_move_12 : decode cX1_move 12 = .ok (.putfield 27, 3) := by decide +kernel
theorem dX1_move_15 : decode cX1_move 15 = .ok (.aload_n 0, 1) := by decide +kernel
theorem dX1_move_16 : decode cX1_move 16 = .ok (.getfield 24, 3) := by decide +kernel
theorem dX1_move_19 : decode cX1_move 19 = .ok (.iload_n 1, 1) := by decide +kernel
theorem dX1_move_20 : decode cX1_move 20 = .ok (.aaload, 1) := by decide +kernel
theorem dX1_move_21 : decode cX1_move 21 = .ok (.iconst 0, 1) := by decide +kernel
theorem dX1_move_22 : decode cX1_move 22 = .ok (.aload_n 0, 1) := by decide +kernel
theorem dX1_move_23 : decode cX1_move 23 = .ok (.getfield 24, 3) := by decide +kernel
theorem dX1_move_26 : decode cX1_move 26 = .ok (.iload_n 2, 1) := by decide +kernel
theorem dX1_move_27 : decode cX1_move 27 = .ok (.aaload, 1) := by decide +kernel
theorem dX1_move_28 : decode cX1_move 28 = .ok (.iconst 0, 1) := by decide +kernel
theorem dX1_move_29 : decode cX1_move 29 = .ok (.aload_n 0, 1) := by decide +kernel
theorem dX1_move_30 : decode cX1_move 30 = .ok (.getfield 19, 3) := by decide +kernel
theorem dX1_move_33 : decode cX1_move 33 = .ok (.iload_n 1, 1) := by decide +kernel
theorem dX1_move_34 : decode cX1_move 34 = .ok (.iaload, 1) := by decide +kernel
theorem dX1_move_35 : decode cX1_move 35 = .ok (.invokestatic 48, 3) := by decide +kernel
theorem dX1_move_38 : decode cX1_move 38 = .ok (.aload_n 0, 1) := by decide +kernel
theorem dX1_move_39 : decode cX1_move 39 = .ok (.getfield 19, 3) := by decide +kernel
theorem dX1_move_42 : decode cX1_move 42 = .ok (.iload_n 2, 1) := by decide +kernel
theorem dX1_move_43 : decode cX1_move 43 = .ok (.aload_n 0, 1) := by decide +kernel
theorem dX1_move_44 : decode cX1_move 44 = .ok (.getfield 19, 3) := by decide +kernel
theorem dX1_move_47 : decode cX1_move 47 = .ok (.iload_n 1, 1) := by decide +kernel
theorem dX1_move_48 : decode cX1_move 48 = .ok (.iaload, 1) := by decide +kernel
theorem dX1_move_49 : decode cX1_move 49 = .ok (.iastore, 1) := by decide +kernel
theorem dX1_move_50 : decode cX1_move 50 = .ok (.aload_n 0, 1) := by decide +kernel
theorem dX1_move_51 : decode cX1_move 51 = .ok (.getfield 9, 3) := by decide +kernel
theorem dX1_move_54 : decode cX1_move 54 = .ok (.iload_n 2, 1) := by decide +kernel
theorem dX1_move_55 : decode cX1_move 55 = .ok (.iconst 1, 1) := by decide +kernel
theorem dX1_move_56 : decode cX1_move 56 = .ok (.bastore, 1) := by decide +kernel
theorem dX1_move_57 : decode cX1_move 57 = .ok (.aload_n 0, 1) := by decide +kernel
theorem dX1_move_58 : decode cX1_move 58 = .ok (.getfield 19, 3) := by decide +kernel
theorem dX1_move_61 : decode cX1_move 61 = .ok (.iload_n 1, 1) := by decide +kernel
theorem dX1_move_62 : decode cX1_move 62 = .ok (.iconst 0, 1) := by decide +kernel
theorem dX1_move_63 : decode cX1_move 63 = .ok (.iastore, 1) := by decide +kernel
theorem dX1_move_64 : decode cX1_move 64 = .ok (.aload_n 0, 1) := by decide +kernel
theorem dX1_move_65 : decode cX1_move 65 = .ok (.getfield 9, 3) := by decide +kernel
theorem dX1_move_68 : decode cX1_move 68 = .ok (.iload_n 1, 1) := by decide +kernel
theorem dX1_move_69 : decode cX1_move 69 = .ok (.iconst 0, 1) := by decide +kernel
theorem dX1_move_70 : decode cX1_move 70 = .ok (.bastore, 1) := by decide +kernel
theorem dX1_move_71 : decode cX1_move 71 = .ok (.return_, 1) := by decide +kernel
theorem dX2_init_0 : decode cX2_init 0 = .ok (.aload_n 0, 1) := by decide +kernel
theorem dX2_init_1 : decode cX2_init 1 = .ok (.invokespecial 3, 3) := by decide +kernel
theorem dX2_init_4 : decode cX2_init 4 = .ok (.aload_n 0, 1) := by decide +kernel
theorem dX2_init_5 : decode cX2_init 5 = .ok (.bipush 20, 2) := by decide +kernel
theorem dX2_init_7 : decode cX2_init 7 = .ok (.newarray .int, 2) := by decide +kernel
theorem dX2_init_9 : decode cX2_init 9 = .ok (.putfield 9, 3) := by decide +kernel
theorem dX2_init_12 : decode cX2_init 12 = .ok (.aload_n 0, 1) := by decide +kernel
theorem dX2_init_13 : decode cX2_init 13 = .ok (.iconst 0, 1) := by decide +kernel
theorem dX2_init_14 : decode cX2_init 14 = .ok (.putfield 15, 3) := by decide +kernel
theorem dX2_init_17 : decode cX2_init 17 = .ok (.aload_n 0, 1) := by decide +kernel
theorem dX2_init_18 : decode cX2_init 18 = .ok (.iconst 0, 1) := by decide +kernel
theorem dX2_init_19 : decode cX2_init 19 = .ok (.putfield 19, 3) := by decide +kernel
theorem dX2_init_22 : decode cX2_init 22 = .ok (.aload_n 0, 1) := by decide +kernel
theorem dX2_init_23 : decode cX2_init 23 = .ok (.iconst 0, 1) := by decide +kernel
theorem dX2_init_24 : decode cX2_init 24 = .ok (.putfield 22, 3) := by decide +kernel
theorem dX2_init_27 : decode cX2_init 27 = .ok (.aload_n 0, 1) := by decide +kernel
theorem dX2_init_28 : decode cX2_init 28 = .ok (.iconst 0, 1) := by decide +kernel
theorem dX2_init_29 : decode cX2_init 29 = .ok (.putfield 25, 3) := by decide +kernel
theorem dX2_init_32 : decode cX2_init 32 = .ok (.aload_n 0, 1) := by decide +kernel
theorem dX2_init_33 : decode cX2_init 33 = .ok (.iconst 0, 1) := by decide +kernel
theorem dX2_init_34 : decode cX2_init 34 = .ok (.putfield 28, 3) := by decide +kernel
theorem dX2_init_37 : decode cX2_init 37 = .ok (.aload_n 0, 1) := by decide +kernel
theorem dX2_init_38 : decode cX2_init 38 = .ok (.iconst 2, 1) := by decide +kernel
theorem dX2_init_39 : decode cX2_init 39 = .ok (.putfield 31, 3) := by decide +kernel
theorem dX2_init_42 : decode cX2_init 42 = .ok (.aload_n 0, 1) := by decide +kernel
theorem dX2_init_43 : decode cX2_init 43 = .ok (.iconst 0, 1) := by decide +kernel
theorem dX2_init_44 : decode cX2_init 44 = .ok (.putfield 34, 3) := by decide +kernel
theorem dX2_init_47 : decode cX2_init 47 = .ok (.aload_n 0, 1) := by decide +kernel
theorem dX2_init_48 : decode cX2_init 48 = .ok (.iconst 0, 1) := by decide +kernel
theorem dX2_init_49 : decode cX2_init 49 = .ok (.putfield 37, 3) := by decide +kernel
theorem dX2_init_52 : decode cX2_init 52 = .ok (.aload_n 0, 1) := by decide +kernel
theorem dX2_init_53 : decode cX2_init 53 = .ok (.iconst 0, 1) := by decide +kernel
theorem dX2_init_54 : decode cX2_init 54 = .ok (.putfield 40, 3) := by decide +kernel
theorem dX2_init_57 : decode cX2_init 57 = .ok (.aload_n 0, 1) := by decide +kernel
theorem dX2_init_58 : decode cX2_init 58 = .ok (.aload_n 1, 1) := by decide +kernel
theorem dX2_init_59 : decode cX2_init 59 = .ok (.putfield 43, 3) := by decide +kernel
theorem dX2_init_62 : decode cX2_init 62 = .ok (.return_, 1) := by decide +kernel
theorem dX2_begin_0 : decode cX2_begin 0 = .ok (.aload_n 0, 1) := by decide +kernel
theorem dX2_begin_1 : decode cX2_begin 1 = .ok (.iload_n 1, 1) := by decide +kernel
theorem dX2_begin_2 : decode cX2_begin 2 = .ok (.putfield 22, 3) := by decide +kernel
theorem dX2_begin_5 : decode cX2_begin 5 = .ok (.aload_n 0, 1) := by decide +kernel
theorem dX2_begin_6 : decode cX2_begin 6 = .ok (.iload_n 2, 1) := by decide +kernel
theorem dX2_begin_7 : decode cX2_begin 7 = .ok (.putfield 25, 3) := by decide +kernel
theorem dX2_begin_10 : decode cX2_begin 10 = .ok (.aload_n 0, 1) := by decide +kernel
theorem dX2_begin_11 : decode cX2_begin 11 = .ok (.iload_n 2, 1) := by decide +kernel
theorem dX2_begin_12 : decode cX2_begin 12 = .ok (.iconst 2, 1) := by decide +kernel
theorem dX2_begin_13 : decode cX2_begin 13 = .ok (.if_icmp .ne 14, 3) := by decide +kernel
theorem dX2_begin_16 : decode cX2_begin 16 = .ok (.aload_n 0, 1) := by decide +kernel
theorem dX2_begin_17 : decode cX2_begin 17 = .ok (.getfield 43, 3) := by decide +kernel
theorem dX2_begin_20 : decode cX2_begin 20 = .ok (.iload_n 1, 1) := by decide +kernel
theorem dX2_begin_21 : decode cX2_begin 21 = .ok (.invokevirtual 47, 3) := by decide +kernel
theorem dX2_begin_24 : decode cX2_begin 24 = .ok (.goto 4, 3) := by decide +kernel
theorem dX2_begin_27 : decode cX2_begin 27 = .ok (.iconst 0, 1) := by decide +kernel
theorem dX2_begin_28 : decode cX2_begin 28 = .ok (.putfield 28, 3) := by decide +kernel
theorem dX2_begin_31 : decode cX2_begin 31 = .ok (.aload_n 0, 1) := by decide +kernel
theorem dX2_begin_32 : decode cX2_begin 32 = .ok (.iconst 0, 1) := by decide +kernel
theorem dX2_begin_33 : decode cX2_begin 33 = .ok (.putfield 31, 3) := by decide +kernel
theorem dX2_begin_36 : decode cX2_begin 36 = .ok (.aload_n 0, 1) := by decide +kernel
theorem dX2_begin_37 : decode cX2_begin 37 = .ok (.iconst 0, 1) := by decide +kernel
theorem dX2_begin_38 : decode cX2_begin 38 = .ok (.putfield 19, 3) := by decide +kernel
theorem dX2_begin_41 : decode cX2_begin 41 = .ok (.aload_n 0, 1) := by decide +kernel
theorem dX2_begin_42 : decode cX2_begin 42 = .ok (.iconst 0, 1) := by decide +kernel
theorem dX2_begin_43 : decode cX2_begin 43 = .ok (.putfield 15, 3) := by decide +kernel
theorem dX2_begin_46 : decode cX2_begin 46 = .ok (.aload_n 0, 1) := by decide +kernel
theorem dX2_begin_47 : decode cX2_begin 47 = .ok (.iconst 0, 1) := by decide +kernel
theorem dX2_begin_48 : decode cX2_begin 48 = .ok (.putfield 34, 3) := by decide +kernel
theorem dX2_begin_51 : decode cX2_begin 51 = .ok (.aload_n 0, 1) := by decide +kernel
theorem dX2_begin_52 : decode cX2_begin 52 = .ok (.iconst 0, 1) := by decide +kernel
theorem dX2_begin_53 : decode cX2_begin 53 = .ok (.putfield 37, 3) := by decide +kernel
theorem dX2_begin_56 : decode cX2_begin 56 = .ok (.aload_n 0, 1) := by decide +kernel
theorem dX2_begin_57 : decode cX2_begin 57 = .ok (.iconst 0, 1) := by decide +kernel
theorem dX2_begin_58 : decode cX2_begin 58 = .ok (.putfield 40, 3) := by decide +kernel
theorem dX2_begin_61 : decode cX2_begin 61 = .ok (.return_, 1) := by decide +kernel
theorem dX2_isOpen_0 : decode cX2_isOpen 0 = .ok (.aload_n 0, 1) := by decide +kernel
theorem dX2_isOpen_1 : decode cX2_isOpen 1 = .ok (.getfield 31, 3) := by decide +kernel
theorem dX2_isOpen_4 : decode cX2_isOpen 4 = .ok (.ifCond .ne 7, 3) := by decide +kernel
theorem dX2_isOpen_7 : decode cX2_isOpen 7 = .ok (.iconst 1, 1) := by decide +kernel
theorem dX2_isOpen_8 : decode cX2_isOpen 8 = .ok (.goto 4, 3) := by decide +kernel
theorem dX2_isOpen_11 : decode cX2_isOpen 11 = .ok (.iconst 0, 1) := by decide +kernel
theorem dX2_isOpen_12 : decode cX2_isOpen 12 = .ok (.ireturn, 1) := by decide +kernel
theorem dX2_isHalf_0 : decode cX2_isHalf 0 = .ok (.aload_n 0, 1) := by decide +kernel
theorem dX2_isHalf_1 : decode cX2_isHalf 1 = .ok (.getfield 31, 3) := by decide +kernel
theorem dX2_isHalf_4 : decode cX2_isHalf 4 = .ok (.iconst 1, 1) := by decide +kernel
theorem dX2_isHalf_5 : decode cX2_isHalf 5 = .ok (.if_icmp .ne 7, 3) := by decide +kernel
theorem dX2_isHalf_8 : decode cX2_isHalf 8 = .ok (.iconst 1, 1) := by decide +kernel
theorem dX2_isHalf_9 : decode cX2_isHalf 9 = .ok (.goto 4, 3) := by decide +kernel
theorem dX2_isHalf_12 : decode cX2_isHalf 12 = .ok (.iconst 0, 1) := by decide +kernel
theorem dX2_isHalf_13 : decode cX2_isHalf 13 = .ok (.ireturn, 1) := by decide +kernel
theorem dX2_isClosed_0 : decode cX2_isClosed 0 = .ok (.aload_n 0, 1) := by decide +kernel
theorem dX2_isClosed_1 : decode cX2_isClosed 1 = .ok (.getfield 31, 3) := by decide +kernel
theorem dX2_isClosed_4 : decode cX2_isClosed 4 = .ok (.iconst 2, 1) := by decide +kernel
theorem dX2_isClosed_5 : decode cX2_isClosed 5 = .ok (.if_icmp .ne 7, 3) := by decide +kernel
theorem dX2_isClosed_8 : decode cX2_isClosed 8 = .ok (.iconst 1, 1) := by decide +kernel
theorem dX2_isClosed_9 : decode cX2_isClosed 9 = .ok (.goto 4, 3) := by decide +kernel
theorem dX2_isClosed_12 : decode cX2_isClosed 12 = .ok (.iconst 0, 1) := by decide +kernel
theorem dX2_isClosed_13 : decode cX2_isClosed 13 = .ok (.ireturn, 1) := by decide +kernel
theorem dX2_writes_0 : decode cX2_writes 0 = .ok (.aload_n 0, 1) := by decide +kernel
theorem dX2_writes_1 : decode cX2_writes 1 = .ok (.getfield 25, 3) := by decide +kernel
theorem dX2_writes_4 : decode cX2_writes 4 = .ok (.ifCond .eq 7, 3) := by decide +kernel
theorem dX2_writes_7 : decode cX2_writes 7 = .ok (.iconst 1, 1) := by decide +kernel
theorem dX2_writes_8 : decode cX2_writes 8 = .ok (.goto 4, 3) := by decide +kernel
theorem dX2_writes_11 : decode cX2_writes 11 = .ok (.iconst 0, 1) := by decide +kernel
theorem dX2_writes_12 : decode cX2_writes 12 = .ok (.ireturn, 1) := by decide +kernel
theorem dX2_holds_0 : decode cX2_holds 0 = .ok (.aload_n 0, 1) := by decide +kernel
theorem dX2_holds_1 : decode cX2_holds 1 = .ok (.getfield 31, 3) := by decide +kernel
theorem dX2_holds_4 : decode cX2_holds 4 = .ok (.iconst 2, 1) := by decide +kernel
theorem dX2_holds_5 : decode cX2_holds 5 = .ok (.if_icmp .eq 15, 3) := by decide +kernel
theorem dX2_holds_8 : decode cX2_holds 8 = .ok (.aload_n 0, 1) := by decide +kernel
theorem dX2_holds_9 : decode cX2_holds 9 = .ok (.getfield 22, 3) := by decide +kernel
theorem dX2_holds_12 : decode cX2_holds 12 = .ok (.iload_n 1, 1) := by decide +kernel
theorem dX2_holds_13 : decode cX2_holds 13 = .ok (.if_icmp .ne 7, 3) := by decide +kernel
theorem dX2_holds_16 : decode cX2_holds 16 = .ok (.iconst 1, 1) := by decide +kernel
theorem dX2_holds_17 : decode cX2_holds 17 = .ok (.goto 4, 3) := by decide +kernel
theorem dX2_holds_20 : decode cX2_holds 20 = .ok (.iconst 0, 1) := by decide +kernel
theorem dX2_holds_21 : decode cX2_holds 21 = .ok (.ireturn, 1) := by decide +kernel
theorem dX2_becomeHalf_0 : decode cX2_becomeHalf 0 = .ok (.aload_n 0, 1) := by decide +kernel
theorem dX2_becomeHalf_1 : decode cX2_becomeHalf 1 = .ok (.getfield 31, 3) := by decide +kernel
theorem dX2_becomeHalf_4 : decode cX2_becomeHalf 4 = .ok (.ifCond .ne 10, 3) := by decide +kernel
theorem dX2_becomeHalf_7 : decode cX2_becomeHalf 7 = .ok (.aload_n 0, 1) := by decide +kernel
theorem dX2_becomeHalf_8 : decode cX2_becomeHalf 8 = .ok (.getfield 25, 3) := by decide +kernel
theorem dX2_becomeHalf_11 : decode cX2_becomeHalf 11 = .ok (.ifCond .eq 5, 3) := by decide +kernel
theorem dX2_becomeHalf_14 : decode cX2_becomeHalf 14 = .ok (.iconst 0, 1) := by decide +kernel
theorem dX2_becomeHalf_15 : decode cX2_becomeHalf 15 = .ok (.ireturn, 1) := by decide +kernel
theorem dX2_becomeHalf_16 : decode cX2_becomeHalf 16 = .ok (.aload_n 0, 1) := by decide +kernel
theorem dX2_becomeHalf_17 : decode cX2_becomeHalf 17 = .ok (.iconst 1, 1) := by decide +kernel
theorem dX2_becomeHalf_18 : decode cX2_becomeHalf 18 = .ok (.putfield 31, 3) := by decide +kernel
theorem dX2_becomeHalf_21 : decode cX2_becomeHalf 21 = .ok (.iconst 1, 1) := by decide +kernel
theorem dX2_becomeHalf_22 : decode cX2_becomeHalf 22 = .ok (.ireturn, 1) := by decide +kernel
theorem dX2_endReading_0 : decode cX2_endReading 0 = .ok (.aload_n 0, 1) := by decide +kernel
theorem dX2_endReading_1 : decode cX2_endReading 1 = .ok (.iconst 2, 1) := by decide +kernel
theorem dX2_endReading_2 : decode cX2_endReading 2 = .ok (.putfield 31, 3) := by decide +kernel
theorem dX2_endReading_5 : decode cX2_endReading 5 = .ok (.return_, 1) := by decide +kernel
theorem dX2_close_0 : decode cX2_close 0 = .ok (.aload_n 0, 1) := by decide +kernel
theorem dX2_close_1 : decode cX2_close 1 = .ok (.getfield 31, 3) := by decide +kernel
theorem dX2_close_4 : decode cX2_close 4 = .ok (.ifCond .ne 10, 3) := by decide +kernel
theorem dX2_close_7 : decode cX2_close 7 = .ok (.aload_n 0, 1) := by decide +kernel
theorem dX2_close_8 : decode cX2_close 8 = .ok (.invokevirtual 53, 3) := by decide +kernel
theorem dX2_close_11 : decode cX2_close 11 = .ok (.goto 4, 3) := by decide +kernel
theorem dX2_close_14 : decode cX2_close 14 = .ok (.iconst 0, 1) := by decide +kernel
theorem dX2_close_15 : decode cX2_close 15 = .ok (.istore_n 1, 1) := by decide +kernel
theorem dX2_close_16 : decode cX2_close 16 = .ok (.aload_n 0, 1) := by decide +kernel
theorem dX2_close_17 : decode cX2_close 17 = .ok (.iconst 2, 1) := by decide +kernel
theorem dX2_close_18 : decode cX2_close 18 = .ok (.putfield 31, 3) := by decide +kernel
theorem dX2_close_21 : decode cX2_close 21 = .ok (.iload_n 1, 1) := by decide +kernel
theorem dX2_close_22 : decode cX2_close 22 = .ok (.ireturn, 1) := by decide +kernel
theorem dX2_put_0 : decode cX2_put 0 = .ok (.aload_n 0, 1) := by decide +kernel
theorem dX2_put_1 : decode cX2_put 1 = .ok (.getfield 31, 3) := by decide +kernel
theorem dX2_put_4 : decode cX2_put 4 = .ok (.ifCond .ne 19, 3) := by decide +kernel
theorem dX2_put_7 : decode cX2_put 7 = .ok (.aload_n 0, 1) := by decide +kernel
theorem dX2_put_8 : decode cX2_put 8 = .ok (.invokevirtual 57, 3) := by decide +kernel
theorem dX2_put_11 : decode cX2_put 11 = .ok (.ifCond .eq 12, 3) := by decide +kernel
theorem dX2_put_14 : decode cX2_put 14 = .ok (.aload_n 0, 1) := by decide +kernel
theorem dX2_put_15 : decode cX2_put 15 = .ok (.getfield 15, 3) := by decide +kernel
theorem dX2_put_18 : decode cX2_put 18 = .ok (.bipush 20, 2) := by decide +kernel
theorem dX2_put_20 : decode cX2_put 20 = .ok (.if_icmp .lt 8, 3) := by decide +kernel
theorem dX2_put_23 : decode cX2_put 23 = .ok (.iconst 4, 1) := by decide +kernel
theorem dX2_put_24 : decode cX2_put 24 = .ok (.invokestatic 61, 3) := by decide +kernel
theorem dX2_put_27 : decode cX2_put 27 = .ok (.ireturn, 1) := by decide +kernel
theorem dX2_put_28 : decode cX2_put 28 = .ok (.iload_n 1, 1) := by decide +kernel
theorem dX2_put_29 : decode cX2_put 29 = .ok (.sipush 255, 3) := by decide +kernel
theorem dX2_put_32 : decode cX2_put 32 = .ok (.iand, 1) := by decide +kernel
theorem dX2_put_33 : decode cX2_put 33 = .ok (.istore_n 2, 1) := by decide +kernel
theorem dX2_put_34 : decode cX2_put 34 = .ok (.aload_n 0, 1) := by decide +kernel
theorem dX2_put_35 : decode cX2_put 35 = .ok (.getfield 9, 3) := by decide +kernel
theorem dX2_put_38 : decode cX2_put 38 = .ok (.aload_n 0, 1) := by decide +kernel
theorem dX2_put_39 : decode cX2_put 39 = .ok (.getfield 15, 3) := by decide +kernel
theorem dX2_put_42 : decode cX2_put 42 = .ok (.iload_n 2, 1) := by decide +kernel
theorem dX2_put_43 : decode cX2_put 43 = .ok (.iastore, 1) := by decide +kernel
theorem dX2_put_44 : decode cX2_put 44 = .ok (.aload_n 0, 1) := by decide +kernel
theorem dX2_put_45 : decode cX2_put 45 = .ok (.dup, 1) := by decide +kernel
theorem dX2_put_46 : decode cX2_put 46 = .ok (.getfield 15, 3) := by decide +kernel
theorem dX2_put_49 : decode cX2_put 49 = .ok (.iconst 1, 1) := by decide +kernel
theorem dX2_put_50 : decode cX2_put 50 = .ok (.iadd, 1) := by decide +kernel
theorem dX2_put_51 : decode cX2_put 51 = .ok (.putfield 15, 3) := by decide +kernel
theorem dX2_put_54 : decode cX2_put 54 = .ok (.aload_n 0, 1) := by decide +kernel
theorem dX2_put_55 : decode cX2_put 55 = .ok (.dup, 1) := by decide +kernel
theorem dX2_put_56 : decode cX2_put 56 = .ok (.getfield 34, 3) := by decide +kernel
theorem dX2_put_59 : decode cX2_put 59 = .ok (.iconst 1, 1) := by decide +kernel
theorem dX2_put_60 : decode cX2_put 60 = .ok (.iadd, 1) := by decide +kernel
theorem dX2_put_61 : decode cX2_put 61 = .ok (.putfield 34, 3) := by decide +kernel
theorem dX2_put_64 : decode cX2_put 64 = .ok (.aload_n 0, 1) := by decide +kernel
theorem dX2_put_65 : decode cX2_put 65 = .ok (.iload_n 2, 1) := by decide +kernel
theorem dX2_put_66 : decode cX2_put 66 = .ok (.invokevirtual 64, 3) := by decide +kernel
theorem dX2_put_69 : decode cX2_put 69 = .ok (.ifCond .eq 10, 3) := by decide +kernel
theorem dX2_put_72 : decode cX2_put 72 = .ok (.aload_n 0, 1) := by decide +kernel
theorem dX2_put_73 : decode cX2_put 73 = .ok (.invokevirtual 53, 3) := by decide +kernel
theorem dX2_put_76 : decode cX2_put 76 = .ok (.goto 4, 3) := by decide +kernel
theorem dX2_put_79 : decode cX2_put 79 = .ok (.iconst 0, 1) := by decide +kernel
theorem dX2_put_80 : decode cX2_put 80 = .ok (.ireturn, 1) := by decide +kernel
theorem dX2_isDue_0 : decode cX2_isDue 0 = .ok (.aload_n 0, 1) := by decide +kernel
theorem dX2_isDue_1 : decode cX2_isDue 1 = .ok (.getfield 19, 3) := by decide +kernel
theorem dX2_isDue_4 : decode cX2_isDue 4 = .ok (.iconst 1, 1) := by decide +kernel
theorem dX2_isDue_5 : decode cX2_isDue 5 = .ok (.if_icmp .ne 24, 3) := by decide +kernel
theorem dX2_isDue_8 : decode cX2_isDue 8 = .ok (.iload_n 1, 1) := by decide +kernel
theorem dX2_isDue_9 : decode cX2_isDue 9 = .ok (.bipush 10, 2) := by decide +kernel
theorem dX2_isDue_11 : decode cX2_isDue 11 = .ok (.if_icmp .eq 12, 3) := by decide +kernel
theorem dX2_isDue_14 : decode cX2_isDue 14 = .ok (.aload_n 0, 1) := by decide +kernel
theorem dX2_isDue_15 : decode cX2_isDue 15 = .ok (.getfield 15, 3) := by decide +kernel
theorem dX2_isDue_18 : decode cX2_isDue 18 = .ok (.bipush 20, 2) := by decide +kernel
theorem dX2_isDue_20 : decode cX2_isDue 20 = .ok (.if_icmp .lt 7, 3) := by decide +kernel
theorem dX2_isDue_23 : decode cX2_isDue 23 = .ok (.iconst 1, 1) := by decide +kernel
theorem dX2_isDue_24 : decode cX2_isDue 24 = .ok (.goto 4, 3) := by decide +kernel
theorem dX2_isDue_27 : decode cX2_isDue 27 = .ok (.iconst 0, 1) := by decide +kernel
theorem dX2_isDue_28 : decode cX2_isDue 28 = .ok (.ireturn, 1) := by decide +kernel
theorem dX2_isDue_29 : decode cX2_isDue 29 = .ok (.aload_n 0, 1) := by decide +kernel
theorem dX2_isDue_30 : decode cX2_isDue 30 = .ok (.getfield 19, 3) := by decide +kernel
theorem dX2_isDue_33 : decode cX2_isDue 33 = .ok (.ifCond .eq 14, 3) := by decide +kernel
theorem dX2_isDue_36 : decode cX2_isDue 36 = .ok (.aload_n 0, 1) := by decide +kernel
theorem dX2_isDue_37 : decode cX2_isDue 37 = .ok (.getfield 15, 3) := by decide +kernel
theorem dX2_isDue_40 : decode cX2_isDue 40 = .ok (.aload_n 0, 1) := by decide +kernel
theorem dX2_isDue_41 : decode cX2_isDue 41 = .ok (.getfield 19, 3) := by decide +kernel
theorem dX2_isDue_44 : decode cX2_isDue 44 = .ok (.if_icmp .lt 7, 3) := by decide +kernel
theorem dX2_isDue_47 : decode cX2_isDue 47 = .ok (.iconst 1, 1) := by decide +kernel
theorem dX2_isDue_48 : decode cX2_isDue 48 = .ok (.goto 4, 3) := by decide +kernel
theorem dX2_isDue_51 : decode cX2_isDue 51 = .ok (.iconst 0, 1) := by decide +kernel
theorem dX2_isDue_52 : decode cX2_isDue 52 = .ok (.ireturn, 1) := by decide +kernel
theorem dX2_flush_0 : decode cX2_flush 0 = .ok (.aload_n 0, 1) := by decide +kernel
theorem dX2_flush_1 : decode cX2_flush 1 = .ok (.getfield 31, 3) := by decide +kernel
theorem dX2_flush_4 : decode cX2_flush 4 = .ok (.ifCond .eq 8, 3) := by decide +kernel
theorem dX2_flush_7 : decode cX2_flush 7 = .ok (.iconst 4, 1) := by decide +kernel
theorem dX2_flush_8 : decode cX2_flush 8 = .ok (.invokestatic 61, 3) := by decide +kernel
theorem dX2_flush_11 : decode cX2_flush 11 = .ok (.ireturn, 1) := by decide +kernel
theorem dX2_flush_12 : decode cX2_flush 12 = .ok (.iconst 0, 1) := by decide +kernel
theorem dX2_flush_13 : decode cX2_flush 13 = .ok (.istore_n 1, 1) := by decide +kernel
theorem dX2_flush_14 : decode cX2_flush 14 = .ok (.iload_n 1, 1) := by decide +kernel
theorem dX2_flush_15 : decode cX2_flush 15 = .ok (.aload_n 0, 1) := by decide +kernel
theorem dX2_flush_16 : decode cX2_flush 16 = .ok (.getfield 15, 3) := by decide +kernel
theorem dX2_flush_19 : decode cX2_flush 19 = .ok (.if_icmp .ge 43, 3) := by decide +kernel
theorem dX2_flush_22 : decode cX2_flush 22 = .ok (.aload_n 0, 1) := by decide +kernel
theorem dX2_flush_23 : decode cX2_flush 23 = .ok (.getfield 43, 3) := by decide +kernel
theorem dX2_flush_26 : decode cX2_flush 26 = .ok (.aload_n 0, 1) := by decide +kernel
theorem dX2_flush_27 : decode cX2_flush 27 = .ok (.getfield 22, 3) := by decide +kernel
theorem dX2_flush_30 : decode cX2_flush 30 = .ok (.aload_n 0, 1) := by decide +kernel
theorem dX2_flush_31 : decode cX2_flush 31 = .ok (.getfield 28, 3) := by decide +kernel
theorem dX2_flush_34 : decode cX2_flush 34 = .ok (.aload_n 0, 1) := by decide +kernel
theorem dX2_flush_35 : decode cX2_flush 35 = .ok (.getfield 9, 3) := by decide +kernel
theorem dX2_flush_38 : decode cX2_flush 38 = .ok (.iload_n 1, 1) := by decide +kernel
theorem dX2_flush_39 : decode cX2_flush 39 = .ok (.iaload, 1) := by decide +kernel
theorem dX2_flush_40 : decode cX2_flush 40 = .ok (.invokevirtual 68, 3) := by decide +kernel
theorem dX2_flush_43 : decode cX2_flush 43 = .ok (.ifCond .eq 19, 3) := by decide +kernel
theorem dX2_flush_46 : decode cX2_flush 46 = .ok (.iinc 1 1, 3) := by decide +kernel
theorem dX2_flush_49 : decode cX2_flush 49 = .ok (.aload_n 0, 1) := by decide +kernel
theorem dX2_flush_50 : decode cX2_flush 50 = .ok (.dup, 1) := by decide +kernel
theorem dX2_flush_51 : decode cX2_flush 51 = .ok (.getfield 28, 3) := by decide +kernel
theorem dX2_flush_54 : decode cX2_flush 54 = .ok (.iconst 1, 1) := by decide +kernel
theorem dX2_flush_55 : decode cX2_flush 55 = .ok (.iadd, 1) := by decide +kernel
theorem dX2_flush_56 : decode cX2_flush 56 = .ok (.putfield 28, 3) := by decide +kernel
theorem dX2_flush_59 : decode cX2_flush 59 = .ok (.goto (-45), 3) := by decide +kernel
theorem dX2_flush_62 : decode cX2_flush 62 = .ok (.iload_n 1, 1) := by decide +kernel
theorem dX2_flush_63 : decode cX2_flush 63 = .ok (.aload_n 0, 1) := by decide +kernel
theorem dX2_flush_64 : decode cX2_flush 64 = .ok (.getfield 15, 3) := by decide +kernel
theorem dX2_flush_67 : decode cX2_flush 67 = .ok (.if_icmp .ne 7, 3) := by decide +kernel
theorem dX2_flush_70 : decode cX2_flush 70 = .ok (.iconst 0, 1) := by decide +kernel
theorem dX2_flush_71 : decode cX2_flush 71 = .ok (.goto 7, 3) := by decide +kernel
theorem dX2_flush_74 : decode cX2_flush 74 = .ok (.iconst 5, 1) := by decide +kernel
theorem dX2_flush_75 : decode cX2_flush 75 = .ok (.invokestatic 61, 3) := by decide +kernel
theorem dX2_flush_78 : decode cX2_flush 78 = .ok (.istore_n 2, 1) := by decide +kernel
theorem dX2_flush_79 : decode cX2_flush 79 = .ok (.aload_n 0, 1) := by decide +kernel
theorem dX2_flush_80 : decode cX2_flush 80 = .ok (.dup, 1) := by decide +kernel
theorem dX2_flush_81 : decode cX2_flush 81 = .ok (.getfield 40, 3) := by decide +kernel
theorem dX2_flush_84 : decode cX2_flush 84 = .ok (.iload_n 1, 1) := by decide +kernel
theorem dX2_flush_85 : decode cX2_flush 85 = .ok (.iadd, 1) := by decide +kernel
theorem dX2_flush_86 : decode cX2_flush 86 = .ok (.putfield 40, 3) := by decide +kernel
theorem dX2_flush_89 : decode cX2_flush 89 = .ok (.aload_n 0, 1) := by decide +kernel
theorem dX2_flush_90 : decode cX2_flush 90 = .ok (.iconst 0, 1) := by decide +kernel
theorem dX2_flush_91 : decode cX2_flush 91 = .ok (.putfield 15, 3) := by decide +kernel
theorem dX2_flush_94 : decode cX2_flush 94 = .ok (.iload_n 2, 1) := by decide +kernel
theorem dX2_flush_95 : decode cX2_flush 95 = .ok (.ireturn, 1) := by decide +kernel
theorem dX2_take_0 : decode cX2_take 0 = .ok (.aload_n 0, 1) := by decide +kernel
theorem dX2_take_1 : decode cX2_take 1 = .ok (.getfield 25, 3) := by decide +kernel
theorem dX2_take_4 : decode cX2_take 4 = .ok (.invokestatic 72, 3) := by decide +kernel
theorem dX2_take_7 : decode cX2_take 7 = .ok (.ifCond .ne 8, 3) := by decide +kernel
theorem dX2_take_10 : decode cX2_take 10 = .ok (.iconst 4, 1) := by decide +kernel
theorem dX2_take_11 : decode cX2_take 11 = .ok (.invokestatic 61, 3) := by decide +kernel
theorem dX2_take_14 : decode cX2_take 14 = .ok (.ireturn, 1) := by decide +kernel
theorem dX2_take_15 : decode cX2_take 15 = .ok (.aload_n 0, 1) := by decide +kernel
theorem dX2_take_16 : decode cX2_take 16 = .ok (.invokevirtual 53, 3) := by decide +kernel
theorem dX2_take_19 : decode cX2_take 19 = .ok (.istore_n 1, 1) := by decide +kernel
theorem dX2_take_20 : decode cX2_take 20 = .ok (.iload_n 1, 1) := by decide +kernel
theorem dX2_take_21 : decode cX2_take 21 = .ok (.ifCond .eq 5, 3) := by decide +kernel
theorem dX2_take_24 : decode cX2_take 24 = .ok (.iload_n 1, 1) := by decide +kernel
theorem dX2_take_25 : decode cX2_take 25 = .ok (.ireturn, 1) := by decide +kernel
theorem dX2_take_26 : decode cX2_take 26 = .ok (.aload_n 0, 1) := by decide +kernel
theorem dX2_take_27 : decode cX2_take 27 = .ok (.invokevirtual 75, 3) := by decide +kernel
theorem dX2_take_30 : decode cX2_take 30 = .ok (.istore_n 2, 1) := by decide +kernel
theorem dX2_take_31 : decode cX2_take 31 = .ok (.iload_n 2, 1) := by decide +kernel
theorem dX2_take_32 : decode cX2_take 32 = .ok (.iconst (-1), 1) := by decide +kernel
theorem dX2_take_33 : decode cX2_take 33 = .ok (.if_icmp .ne 10, 3) := by decide +kernel
theorem dX2_take_36 : decode cX2_take 36 = .ok (.iconst 3, 1) := by decide +kernel
theorem dX2_take_37 : decode cX2_take 37 = .ok (.invokestatic 61, 3) := by decide +kernel
theorem dX2_take_40 : decode cX2_take 40 = .ok (.goto 4, 3) := by decide +kernel
theorem dX2_take_43 : decode cX2_take 43 = .ok (.iload_n 2, 1) := by decide +kernel
theorem dX2_take_44 : decode cX2_take 44 = .ok (.ireturn, 1) := by decide +kernel
theorem dX2_nextByte_0 : decode cX2_nextByte 0 = .ok (.aload_n 0, 1) := by decide +kernel
theorem dX2_nextByte_1 : decode cX2_nextByte 1 = .ok (.getfield 43, 3) := by decide +kernel
theorem dX2_nextByte_4 : decode cX2_nextByte 4 = .ok (.aload_n 0, 1) := by decide +kernel
theorem dX2_nextByte_5 : decode cX2_nextByte 5 = .ok (.getfield 22, 3) := by decide +kernel
theorem dX2_nextByte_8 : decode cX2_nextByte 8 = .ok (.aload_n 0, 1) := by decide +kernel
theorem dX2_nextByte_9 : decode cX2_nextByte 9 = .ok (.getfield 28, 3) := by decide +kernel
theorem dX2_nextByte_12 : decode cX2_nextByte 12 = .ok (.invokevirtual 78, 3) := by decide +kernel
theorem dX2_nextByte_15 : decode cX2_nextByte 15 = .ok (.istore_n 1, 1) := by decide +kernel
theorem dX2_nextByte_16 : decode cX2_nextByte 16 = .ok (.iload_n 1, 1) := by decide +kernel
theorem dX2_nextByte_17 : decode cX2_nextByte 17 = .ok (.iconst (-1), 1) := by decide +kernel
theorem dX2_nextByte_18 : decode cX2_nextByte 18 = .ok (.if_icmp .eq 23, 3) := by decide +kernel
theorem dX2_nextByte_21 : decode cX2_nextByte 21 = .ok (.aload_n 0, 1) := by decide +kernel
theorem dX2_nextByte_22 : decode cX2_nextByte 22 = .ok (.dup, 1) := by decide +kernel
theorem dX2_nextByte_23 : decode cX2_nextByte 23 = .ok (.getfield 28, 3) := by decide +kernel
theorem dX2_nextByte_26 : decode cX2_nextByte 26 = .ok (.iconst 1, 1) := by decide +kernel
theorem dX2_nextByte_27 : decode cX2_nextByte 27 = .ok (.iadd, 1) := by decide +kernel
theorem dX2_nextByte_28 : decode cX2_nextByte 28 = .ok (.putfield 28, 3) := by decide +kernel
theorem dX2_nextByte_31 : decode cX2_nextByte 31 = .ok (.aload_n 0, 1) := by decide +kernel
theorem dX2_nextByte_32 : decode cX2_nextByte 32 = .ok (.dup, 1) := by decide +kernel
theorem dX2_nextByte_33 : decode cX2_nextByte 33 = .ok (.getfield 37, 3) := by decide +kernel
theorem dX2_nextByte_36 : decode cX2_nextByte 36 = .ok (.iconst 1, 1) := by decide +kernel
theorem dX2_nextByte_37 : decode cX2_nextByte 37 = .ok (.iadd, 1) := by decide +kernel
theorem dX2_nextByte_38 : decode cX2_nextByte 38 = .ok (.putfield 37, 3) := by decide +kernel
theorem dX2_nextByte_41 : decode cX2_nextByte 41 = .ok (.iload_n 1, 1) := by decide +kernel
theorem dX2_nextByte_42 : decode cX2_nextByte 42 = .ok (.ireturn, 1) := by decide +kernel
theorem dX2_seek_0 : decode cX2_seek 0 = .ok (.aload_n 0, 1) := by decide +kernel
theorem dX2_seek_1 : decode cX2_seek 1 = .ok (.invokevirtual 53, 3) := by decide +kernel
theorem dX2_seek_4 : decode cX2_seek 4 = .ok (.istore_n 2, 1) := by decide +kernel
theorem dX2_seek_5 : decode cX2_seek 5 = .ok (.iload_n 2, 1) := by decide +kernel
theorem dX2_seek_6 : decode cX2_seek 6 = .ok (.ifCond .eq 5, 3) := by decide +kernel
theorem dX2_seek_9 : decode cX2_seek 9 = .ok (.iload_n 2, 1) := by decide +kernel
theorem dX2_seek_10 : decode cX2_seek 10 = .ok (.ireturn, 1) := by decide +kernel
theorem dX2_seek_11 : decode cX2_seek 11 = .ok (.aload_n 0, 1) := by decide +kernel
theorem dX2_seek_12 : decode cX2_seek 12 = .ok (.getfield 25, 3) := by decide +kernel
theorem dX2_seek_15 : decode cX2_seek 15 = .ok (.iconst 2, 1) := by decide +kernel
theorem dX2_seek_16 : decode cX2_seek 16 = .ok (.if_icmp .eq 22, 3) := by decide +kernel
theorem dX2_seek_19 : decode cX2_seek 19 = .ok (.iload_n 1, 1) := by decide +kernel
theorem dX2_seek_20 : decode cX2_seek 20 = .ok (.ifCond .lt 18, 3) := by decide +kernel
theorem dX2_seek_23 : decode cX2_seek 23 = .ok (.iload_n 1, 1) := by decide +kernel
theorem dX2_seek_24 : decode cX2_seek 24 = .ok (.aload_n 0, 1) := by decide +kernel
theorem dX2_seek_25 : decode cX2_seek 25 = .ok (.getfield 43, 3) := by decide +kernel
theorem dX2_seek_28 : decode cX2_seek 28 = .ok (.aload_n 0, 1) := by decide +kernel
theorem dX2_seek_29 : decode cX2_seek 29 = .ok (.getfield 22, 3) := by decide +kernel
theorem dX2_seek_32 : decode cX2_seek 32 = .ok (.invokevirtual 47, 3) := by decide +kernel
theorem dX2_seek_35 : decode cX2_seek 35 = .ok (.if_icmp .le 8, 3) := by decide +kernel
theorem dX2_seek_38 : decode cX2_seek 38 = .ok (.iconst 4, 1) := by decide +kernel
theorem dX2_seek_39 : decode cX2_seek 39 = .ok (.invokestatic 61, 3) := by decide +kernel
theorem dX2_seek_42 : decode cX2_seek 42 = .ok (.ireturn, 1) := by decide +kernel
theorem dX2_seek_43 : decode cX2_seek 43 = .ok (.aload_n 0, 1) := by decide +kernel
theorem dX2_seek_44 : decode cX2_seek 44 = .ok (.iload_n 1, 1) := by decide +kernel
theorem dX2_seek_45 : decode cX2_seek 45 = .ok (.putfield 28, 3) := by decide +kernel
theorem dX2_seek_48 : decode cX2_seek 48 = .ok (.iconst 0, 1) := by decide +kernel
theorem dX2_seek_49 : decode cX2_seek 49 = .ok (.ireturn, 1) := by decide +kernel
theorem dX2_tellPlace_0 : decode cX2_tellPlace 0 = .ok (.aload_n 0, 1) := by decide +kernel
theorem dX2_tellPlace_1 : decode cX2_tellPlace 1 = .ok (.getfield 31, 3) := by decide +kernel
theorem dX2_tellPlace_4 : decode cX2_tellPlace 4 = .ok (.ifCond .ne 15, 3) := by decide +kernel
theorem dX2_tellPlace_7 : decode cX2_tellPlace 7 = .ok (.aload_n 0, 1) := by decide +kernel
theorem dX2_tellPlace_8 : decode cX2_tellPlace 8 = .ok (.getfield 28, 3) := by decide +kernel
theorem dX2_tellPlace_11 : decode cX2_tellPlace 11 = .ok (.aload_n 0, 1) := by decide +kernel
theorem dX2_tellPlace_12 : decode cX2_tellPlace 12 = .ok (.getfield 15, 3) := by decide +kernel
theorem dX2_tellPlace_15 : decode cX2_tellPlace 15 = .ok (.iadd, 1) := by decide +kernel
theorem dX2_tellPlace_16 : decode cX2_tellPlace 16 = .ok (.goto 7, 3) := by decide +kernel
theorem dX2_tellPlace_19 : decode cX2_tellPlace 19 = .ok (.iconst 4, 1) := by decide +kernel
theorem dX2_tellPlace_20 : decode cX2_tellPlace 20 = .ok (.invokestatic 61, 3) := by decide +kernel
theorem dX2_tellPlace_23 : decode cX2_tellPlace 23 = .ok (.ireturn, 1) := by decide +kernel
theorem dX2_measure_0 : decode cX2_measure 0 = .ok (.aload_n 0, 1) := by decide +kernel
theorem dX2_measure_1 : decode cX2_measure 1 = .ok (.invokevirtual 53, 3) := by decide +kernel
theorem dX2_measure_4 : decode cX2_measure 4 = .ok (.istore_n 1, 1) := by decide +kernel
theorem dX2_measure_5 : decode cX2_measure 5 = .ok (.iload_n 1, 1) := by decide +kernel
theorem dX2_measure_6 : decode cX2_measure 6 = .ok (.ifCond .ne 17, 3) := by decide +kernel
theorem dX2_measure_9 : decode cX2_measure 9 = .ok (.aload_n 0, 1) := by decide +kernel
theorem dX2_measure_10 : decode cX2_measure 10 = .ok (.getfield 43, 3) := by decide +kernel
theorem dX2_measure_13 : decode cX2_measure 13 = .ok (.aload_n 0, 1) := by decide +kernel
theorem dX2_measure_14 : decode cX2_measure 14 = .ok (.getfield 22, 3) := by decide +kernel
theorem dX2_measure_17 : decode cX2_measure 17 = .ok (.invokevirtual 47, 3) := by decide +kernel
theorem dX2_measure_20 : decode cX2_measure 20 = .ok (.goto 4, 3) := by decide +kernel
theorem dX2_measure_23 : decode cX2_measure 23 = .ok (.iload_n 1, 1) := by decide +kernel
theorem dX2_measure_24 : decode cX2_measure 24 = .ok (.ireturn, 1) := by decide +kernel
theorem dX2_changeBuffer_0 : decode cX2_changeBuffer 0 = .ok (.aload_n 0, 1) := by decide +kernel
theorem dX2_changeBuffer_1 : decode cX2_changeBuffer 1 = .ok (.invokevirtual 53, 3) := by decide +kernel
theorem dX2_changeBuffer_4 : decode cX2_changeBuffer 4 = .ok (.istore_n 2, 1) := by decide +kernel
theorem dX2_changeBuffer_5 : decode cX2_changeBuffer 5 = .ok (.iload_n 2, 1) := by decide +kernel
theorem dX2_changeBuffer_6 : decode cX2_changeBuffer 6 = .ok (.ifCond .ne 8, 3) := by decide +kernel
theorem dX2_changeBuffer_9 : decode cX2_changeBuffer 9 = .ok (.aload_n 0, 1) := by decide +kernel
theorem dX2_changeBuffer_10 : decode cX2_changeBuffer 10 = .ok (.iload_n 1, 1) := by decide +kernel
theorem dX2_changeBuffer_11 : decode cX2_changeBuffer 11 = .ok (.putfield 19, 3) := by decide +kernel
theorem dX2_changeBuffer_14 : decode cX2_changeBuffer 14 = .ok (.iload_n 2, 1) := by decide +kernel
theorem dX2_changeBuffer_15 : decode cX2_changeBuffer 15 = .ok (.ireturn, 1) := by decide +kernel
theorem dX2_fact_0 : decode cX2_fact 0 = .ok (.iload_n 1, 1) := by decide +kernel
theorem dX2_fact_1 : decode cX2_fact 1 = .ok (.tableswitch 60 0 4 #[35, 40, 45, 50, 55], 35) := by decide +kernel
theorem dX2_fact_36 : decode cX2_fact 36 = .ok (.aload_n 0, 1) := by decide +kernel
theorem dX2_fact_37 : decode cX2_fact 37 = .ok (.getfield 22, 3) := by decide +kernel
theorem dX2_fact_40 : decode cX2_fact 40 = .ok (.ireturn, 1) := by decide +kernel
theorem dX2_fact_41 : decode cX2_fact 41 = .ok (.aload_n 0, 1) := by decide +kernel
theorem dX2_fact_42 : decode cX2_fact 42 = .ok (.getfield 25, 3) := by decide +kernel
theorem dX2_fact_45 : decode cX2_fact 45 = .ok (.ireturn, 1) := by decide +kernel
theorem dX2_fact_46 : decode cX2_fact 46 = .ok (.aload_n 0, 1) := by decide +kernel
theorem dX2_fact_47 : decode cX2_fact 47 = .ok (.getfield 31, 3) := by decide +kernel
theorem dX2_fact_50 : decode cX2_fact 50 = .ok (.ireturn, 1) := by decide +kernel
theorem dX2_fact_51 : decode cX2_fact 51 = .ok (.aload_n 0, 1) := by decide +kernel
theorem dX2_fact_52 : decode cX2_fact 52 = .ok (.getfield 34, 3) := by decide +kernel
theorem dX2_fact_55 : decode cX2_fact 55 = .ok (.ireturn, 1) := by decide +kernel
theorem dX2_fact_56 : decode cX2_fact 56 = .ok (.aload_n 0, 1) := by decide +kernel
theorem dX2_fact_57 : decode cX2_fact 57 = .ok (.getfield 37, 3) := by decide +kernel
theorem dX2_fact_60 : decode cX2_fact 60 = .ok (.ireturn, 1) := by decide +kernel
theorem dX2_fact_61 : decode cX2_fact 61 = .ok (.aload_n 0, 1) := by decide +kernel
theorem dX2_fact_62 : decode cX2_fact 62 = .ok (.getfield 40, 3) := by decide +kernel
theorem dX2_fact_65 : decode cX2_fact 65 = .ok (.ireturn, 1) := by decide +kernel
theorem dX3_init_0 : decode cX3_init 0 = .ok (.aload_n 0, 1) := by decide +kernel
theorem dX3_init_1 : decode cX3_init 1 = .ok (.invokespecial 3, 3) := by decide +kernel
theorem dX3_init_4 : decode cX3_init 4 = .ok (.aload_n 0, 1) := by decide +kernel
theorem dX3_init_5 : decode cX3_init 5 = .ok (.bipush 20, 2) := by decide +kernel
theorem dX3_init_7 : decode cX3_init 7 = .ok (.anewarray 9, 3) := by decide +kernel
theorem dX3_init_10 : decode cX3_init 10 = .ok (.putfield 11, 3) := by decide +kernel
theorem dX3_init_13 : decode cX3_init 13 = .ok (.aload_n 0, 1) := by decide +kernel
theorem dX3_init_14 : decode cX3_init 14 = .ok (.iconst 0, 1) := by decide +kernel
theorem dX3_init_15 : decode cX3_init 15 = .ok (.putfield 17, 3) := by decide +kernel
theorem dX3_init_18 : decode cX3_init 18 = .ok (.aload_n 0, 1) := by decide +kernel
theorem dX3_init_19 : decode cX3_init 19 = .ok (.aload_n 1, 1) := by decide +kernel
theorem dX3_init_20 : decode cX3_init 20 = .ok (.putfield 21, 3) := by decide +kernel
theorem dX3_init_23 : decode cX3_init 23 = .ok (.iconst 0, 1) := by decide +kernel
theorem dX3_init_24 : decode cX3_init 24 = .ok (.istore_n 2, 1) := by decide +kernel
theorem dX3_init_25 : decode cX3_init 25 = .ok (.iload_n 2, 1) := by decide +kernel
theorem dX3_init_26 : decode cX3_init 26 = .ok (.bipush 20, 2) := by decide +kernel
theorem dX3_init_28 : decode cX3_init 28 = .ok (.if_icmp .ge 23, 3) := by decide +kernel
theorem dX3_init_31 : decode cX3_init 31 = .ok (.aload_n 0, 1) := by decide +kernel
theorem dX3_init_32 : decode cX3_init 32 = .ok (.getfield 11, 3) := by decide +kernel
theorem dX3_init_35 : decode cX3_init 35 = .ok (.iload_n 2, 1) := by decide +kernel
theorem dX3_init_36 : decode cX3_init 36 = .ok (.new 9, 3) := by decide +kernel
theorem dX3_init_39 : decode cX3_init 39 = .ok (.dup, 1) := by decide +kernel
theorem dX3_init_40 : decode cX3_init 40 = .ok (.aload_n 1, 1) := by decide +kernel
theorem dX3_init_41 : decode cX3_init 41 = .ok (.invokespecial 25, 3) := by decide +kernel
theorem dX3_init_44 : decode cX3_init 44 = .ok (.aastore, 1) := by decide +kernel
theorem dX3_init_45 : decode cX3_init 45 = .ok (.iinc 2 1, 3) := by decide +kernel
theorem dX3_init_48 : decode cX3_init 48 = .ok (.goto (-23), 3) := by decide +kernel
theorem dX3_init_51 : decode cX3_init 51 = .ok (.return_, 1) := by decide +kernel
theorem dX3_count_0 : decode cX3_count 0 = .ok (.aload_n 0, 1) := by decide +kernel
theorem dX3_count_1 : decode cX3_count 1 = .ok (.getfield 17, 3) := by decide +kernel
theorem dX3_count_4 : decode cX3_count 4 = .ok (.ireturn, 1) := by decide +kernel
theorem dX3_forget_0 : decode cX3_forget 0 = .ok (.aload_n 0, 1) := by decide +kernel
theorem dX3_forget_1 : decode cX3_forget 1 = .ok (.iconst 0, 1) := by decide +kernel
theorem dX3_forget_2 : decode cX3_forget 2 = .ok (.putfield 17, 3) := by decide +kernel
theorem dX3_forget_5 : decode cX3_forget 5 = .ok (.return_, 1) := by decide +kernel
theorem dX3_pick_0 : decode cX3_pick 0 = .ok (.iload_n 1, 1) := by decide +kernel
theorem dX3_pick_1 : decode cX3_pick 1 = .ok (.aload_n 0, 1) := by decide +kernel
theorem dX3_pick_2 : decode cX3_pick 2 = .ok (.getfield 17, 3) := by decide +kernel
theorem dX3_pick_5 : decode cX3_pick 5 = .ok (.invokestatic 28, 3) := by decide +kernel
theorem dX3_pick_8 : decode cX3_pick 8 = .ok (.ifCond .eq 12, 3) := by decide +kernel
theorem dX3_pick_11 : decode cX3_pick 11 = .ok (.aload_n 0, 1) := by decide +kernel
theorem dX3_pick_12 : decode cX3_pick 12 = .ok (.getfield 11, 3) := by decide +kernel
theorem dX3_pick_15 : decode cX3_pick 15 = .ok (.iload_n 1, 1) := by decide +kernel
theorem dX3_pick_16 : decode cX3_pick 16 = .ok (.aaload, 1) := by decide +kernel
theorem dX3_pick_17 : decode cX3_pick 17 = .ok (.goto 4, 3) := by decide +kernel
theorem dX3_pick_20 : decode cX3_pick 20 = .ok (.aconst_null, 1) := by decide +kernel
theorem dX3_pick_21 : decode cX3_pick 21 = .ok (.areturn, 1) := by decide +kernel
theorem dX3_open_0 : decode cX3_open 0 = .ok (.aload_n 0, 1) := by decide +kernel
theorem dX3_open_1 : decode cX3_open 1 = .ok (.iload_n 1, 1) := by decide +kernel
theorem dX3_open_2 : decode cX3_open 2 = .ok (.iload_n 2, 1) := by decide +kernel
theorem dX3_open_3 : decode cX3_open 3 = .ok (.invokevirtual 32, 3) := by decide +kernel
theorem dX3_open_6 : decode cX3_open 6 = .ok (.istore_n 3, 1) := by decide +kernel
theorem dX3_open_7 : decode cX3_open 7 = .ok (.iload_n 3, 1) := by decide +kernel
theorem dX3_open_8 : decode cX3_open 8 = .ok (.ifCond .eq 5, 3) := by decide +kernel
theorem dX3_open_11 : decode cX3_open 11 = .ok (.iload_n 3, 1) := by decide +kernel
theorem dX3_open_12 : decode cX3_open 12 = .ok (.ireturn, 1) := by decide +kernel
theorem dX3_open_13 : decode cX3_open 13 = .ok (.aload_n 0, 1) := by decide +kernel
theorem dX3_open_14 : decode cX3_open 14 = .ok (.getfield 21, 3) := by decide +kernel
theorem dX3_open_17 : decode cX3_open 17 = .ok (.iload_n 1, 1) := by decide +kernel
theorem dX3_open_18 : decode cX3_open 18 = .ok (.invokevirtual 36, 3) := by decide +kernel
theorem dX3_open_21 : decode cX3_open 21 = .ok (.iload_n 2, 1) := by decide +kernel
theorem dX3_open_22 : decode cX3_open 22 = .ok (.iconst 1, 1) := by decide +kernel
theorem dX3_open_23 : decode cX3_open 23 = .ok (.if_icmp .ne 11, 3) := by decide +kernel
theorem dX3_open_26 : decode cX3_open 26 = .ok (.aload_n 0, 1) := by decide +kernel
theorem dX3_open_27 : decode cX3_open 27 = .ok (.getfield 21, 3) := by decide +kernel
theorem dX3_open_30 : decode cX3_open 30 = .ok (.iload_n 1, 1) := by decide +kernel
theorem dX3_open_31 : decode cX3_open 31 = .ok (.invokevirtual 42, 3) := by decide +kernel
theorem dX3_open_34 : decode cX3_open 34 = .ok (.aload_n 0, 1) := by decide +kernel
theorem dX3_open_35 : decode cX3_open 35 = .ok (.getfield 11, 3) := by decide +kernel
theorem dX3_open_38 : decode cX3_open 38 = .ok (.aload_n 0, 1) := by decide +kernel
theorem dX3_open_39 : decode cX3_open 39 = .ok (.getfield 17, 3) := by decide +kernel
theorem dX3_open_42 : decode cX3_open 42 = .ok (.aaload, 1) := by decide +kernel
theorem dX3_open_43 : decode cX3_open 43 = .ok (.iload_n 1, 1) := by decide +kernel
theorem dX3_open_44 : decode cX3_open 44 = .ok (.iload_n 2, 1) := by decide +kernel
theorem dX3_open_45 : decode cX3_open 45 = .ok (.invokevirtual 45, 3) := by decide +kernel
theorem dX3_open_48 : decode cX3_open 48 = .ok (.aload_n 0, 1) := by decide +kernel
theorem dX3_open_49 : decode cX3_open 49 = .ok (.dup, 1) := by decide +kernel
theorem dX3_open_50 : decode cX3_open 50 = .ok (.getfield 17, 3) := by decide +kernel
theorem dX3_open_53 : decode cX3_open 53 = .ok (.iconst 1, 1) := by decide +kernel
theorem dX3_open_54 : decode cX3_open 54 = .ok (.iadd, 1) := by decide +kernel
theorem dX3_open_55 : decode cX3_open 55 = .ok (.putfield 17, 3) := by decide +kernel
theorem dX3_open_58 : decode cX3_open 58 = .ok (.aload_n 0, 1) := by decide +kernel
theorem dX3_open_59 : decode cX3_open 59 = .ok (.getfield 17, 3) := by decide +kernel
theorem dX3_open_62 : decode cX3_open 62 = .ok (.iconst 1, 1) := by decide +kernel
theorem dX3_open_63 : decode cX3_open 63 = .ok (.isub, 1) := by decide +kernel
theorem dX3_open_64 : decode cX3_open 64 = .ok (.ireturn, 1) := by decide +kernel
theorem dX3_refusalToOpen_0 : decode cX3_refusalToOpen 0 = .ok (.iload_n 2, 1) := by decide +kernel
theorem dX3_refusalToOpen_1 : decode cX3_refusalToOpen 1 = .ok (.ifCond .eq 7, 3) := by decide +kernel
theorem dX3_refusalToOpen_4 : decode cX3_refusalToOpen 4 = .ok (.iconst 1, 1) := by decide +kernel
theorem dX3_refusalToOpen_5 : decode cX3_refusalToOpen 5 = .ok (.goto 4, 3) := by decide +kernel
theorem dX3_refusalToOpen_8 : decode cX3_refusalToOpen 8 = .ok (.iconst 0, 1) := by decide +kernel
theorem dX3_refusalToOpen_9 : decode cX3_refusalToOpen 9 = .ok (.istore_n 3, 1) := by decide +kernel
theorem dX3_refusalToOpen_10 : decode cX3_refusalToOpen 10 = .ok (.iload_n 3, 1) := by decide +kernel
theorem dX3_refusalToOpen_11 : decode cX3_refusalToOpen 11 = .ok (.ifCond .ne 19, 3) := by decide +kernel
theorem dX3_refusalToOpen_14 : decode cX3_refusalToOpen 14 = .ok (.aload_n 0, 1) := by decide +kernel
theorem dX3_refusalToOpen_15 : decode cX3_refusalToOpen 15 = .ok (.getfield 21, 3) := by decide +kernel
theorem dX3_refusalToOpen_18 : decode cX3_refusalToOpen 18 = .ok (.iload_n 1, 1) := by decide +kernel
theorem dX3_refusalToOpen_19 : decode cX3_refusalToOpen 19 = .ok (.invokevirtual 49, 3) := by decide +kernel
theorem dX3_refusalToOpen_22 : decode cX3_refusalToOpen 22 = .ok (.ifCond .ne 8, 3) := by decide +kernel
theorem dX3_refusalToOpen_25 : decode cX3_refusalToOpen 25 = .ok (.iconst 1, 1) := by decide +kernel
theorem dX3_refusalToOpen_26 : decode cX3_refusalToOpen 26 = .ok (.invokestatic 53, 3) := by decide +kernel
theorem dX3_refusalToOpen_29 : decode cX3_refusalToOpen 29 = .ok (.ireturn, 1) := by decide +kernel
theorem dX3_refusalToOpen_30 : decode cX3_refusalToOpen 30 = .ok (.iload_n 2, 1) := by decide +kernel
theorem dX3_refusalToOpen_31 : decode cX3_refusalToOpen 31 = .ok (.invokestatic 57, 3) := by decide +kernel
theorem dX3_refusalToOpen_34 : decode cX3_refusalToOpen 34 = .ok (.ifCond .eq 15, 3) := by decide +kernel
theorem dX3_refusalToOpen_37 : decode cX3_refusalToOpen 37 = .ok (.aload_n 0, 1) := by decide +kernel
theorem dX3_refusalToOpen_38 : decode cX3_refusalToOpen 38 = .ok (.getfield 21, 3) := by decide +kernel
theorem dX3_refusalToOpen_41 : decode cX3_refusalToOpen 41 = .ok (.iload_n 1, 1) := by decide +kernel
theorem dX3_refusalToOpen_42 : decode cX3_refusalToOpen 42 = .ok (.iconst 1, 1) := by decide +kernel
theorem dX3_refusalToOpen_43 : decode cX3_refusalToOpen 43 = .ok (.invokevirtual 60, 3) := by decide +kernel
theorem dX3_refusalToOpen_46 : decode cX3_refusalToOpen 46 = .ok (.ifCond .eq 19, 3) := by decide +kernel
theorem dX3_refusalToOpen_49 : decode cX3_refusalToOpen 49 = .ok (.iload_n 3, 1) := by decide +kernel
theorem dX3_refusalToOpen_50 : decode cX3_refusalToOpen 50 = .ok (.ifCond .eq 20, 3) := by decide +kernel
theorem dX3_refusalToOpen_53 : decode cX3_refusalToOpen 53 = .ok (.aload_n 0, 1) := by decide +kernel
theorem dX3_refusalToOpen_54 : decode cX3_refusalToOpen 54 = .ok (.getfield 21, 3) := by decide +kernel
theorem dX3_refusalToOpen_57 : decode cX3_refusalToOpen 57 = .ok (.iload_n 1, 1) := by decide +kernel
theorem dX3_refusalToOpen_58 : decode cX3_refusalToOpen 58 = .ok (.iconst 2, 1) := by decide +kernel
theorem dX3_refusalToOpen_59 : decode cX3_refusalToOpen 59 = .ok (.invokevirtual 60, 3) := by decide +kernel
theorem dX3_refusalToOpen_62 : decode cX3_refusalToOpen 62 = .ok (.ifCond .ne 8, 3) := by decide +kernel
theorem dX3_refusalToOpen_65 : decode cX3_refusalToOpen 65 = .ok (.iconst 2, 1) := by decide +kernel
theorem dX3_refusalToOpen_66 : decode cX3_refusalToOpen 66 = .ok (.invokestatic 53, 3) := by decide +kernel
theorem dX3_refusalToOpen_69 : decode cX3_refusalToOpen 69 = .ok (.ireturn, 1) := by decide +kernel
theorem dX3_refusalToOpen_70 : decode cX3_refusalToOpen 70 = .ok (.aload_n 0, 1) := by decide +kernel
theorem dX3_refusalToOpen_71 : decode cX3_refusalToOpen 71 = .ok (.iload_n 1, 1) := by decide +kernel
theorem dX3_refusalToOpen_72 : decode cX3_refusalToOpen 72 = .ok (.iload_n 3, 1) := by decide +kernel
theorem dX3_refusalToOpen_73 : decode cX3_refusalToOpen 73 = .ok (.ifCond .ne 7, 3) := by decide +kernel
theorem dX3_refusalToOpen_76 : decode cX3_refusalToOpen 76 = .ok (.iconst 1, 1) := by decide +kernel
theorem dX3_refusalToOpen_77 : decode cX3_refusalToOpen 77 = .ok (.goto 4, 3) := by decide +kernel
theorem dX3_refusalToOpen_80 : decode cX3_refusalToOpen 80 = .ok (.iconst 0, 1) := by decide +kernel
theorem dX3_refusalToOpen_81 : decode cX3_refusalToOpen 81 = .ok (.invokevirtual 63, 3) := by decide +kernel
theorem dX3_refusalToOpen_84 : decode cX3_refusalToOpen 84 = .ok (.ifCond .eq 8, 3) := by decide +kernel
theorem dX3_refusalToOpen_87 : decode cX3_refusalToOpen 87 = .ok (.iconst 0, 1) := by decide +kernel
theorem dX3_refusalToOpen_88 : decode cX3_refusalToOpen 88 = .ok (.invokestatic 53, 3) := by decide +kernel
theorem dX3_refusalToOpen_91 : decode cX3_refusalToOpen 91 = .ok (.ireturn, 1) := by decide +kernel
theorem dX3_refusalToOpen_92 : decode cX3_refusalToOpen 92 = .ok (.aload_n 0, 1) := by decide +kernel
theorem dX3_refusalToOpen_93 : decode cX3_refusalToOpen 93 = .ok (.getfield 17, 3) := by decide +kernel
theorem dX3_refusalToOpen_96 : decode cX3_refusalToOpen 96 = .ok (.bipush 20, 2) := by decide +kernel
theorem dX3_refusalToOpen_98 : decode cX3_refusalToOpen 98 = .ok (.if_icmp .lt 10, 3) := by decide +kernel
theorem dX3_refusalToOpen_101 : decode cX3_refusalToOpen 101 = .ok (.iconst 5, 1) := by decide +kernel
theorem dX3_refusalToOpen_102 : decode cX3_refusalToOpen 102 = .ok (.invokestatic 53, 3) := by decide +kernel
theorem dX3_refusalToOpen_105 : decode cX3_refusalToOpen 105 = .ok (.goto 4, 3) := by decide +kernel
theorem dX3_refusalToOpen_108 : decode cX3_refusalToOpen 108 = .ok (.iconst 0, 1) := by decide +kernel
theorem dX3_refusalToOpen_109 : decode cX3_refusalToOpen 109 = .ok (.ireturn, 1) := by decide +kernel
theorem dX3_isHeld_0 : decode cX3_isHeld 0 = .ok (.iconst 0, 1) := by decide +kernel
theorem dX3_isHeld_1 : decode cX3_isHeld 1 = .ok (.istore_n 3, 1) := by decide +kernel
theorem dX3_isHeld_2 : decode cX3_isHeld 2 = .ok (.iload_n 3, 1) := by decide +kernel
theorem dX3_isHeld_3 : decode cX3_isHeld 3 = .ok (.aload_n 0, 1) := by decide +kernel
theorem dX3_isHeld_4 : decode cX3_isHeld 4 = .ok (.getfield 17, 3) := by decide +kernel
theorem dX3_isHeld_7 : decode cX3_isHeld 7 = .ok (.if_icmp .ge 40, 3) := by decide +kernel
theorem dX3_isHeld_10 : decode cX3_isHeld 10 = .ok (.aload_n 0, 1) := by decide +kernel
theorem dX3_isHeld_11 : decode cX3_isHeld 11 = .ok (.getfield 11, 3) := by decide +kernel
theorem dX3_isHeld_14 : decode cX3_isHeld 14 = .ok (.iload_n 3, 1) := by decide +kernel
theorem dX3_isHeld_15 : decode cX3_isHeld 15 = .ok (.aaload, 1) := by decide +kernel
theorem dX3_isHeld_16 : decode cX3_isHeld 16 = .ok (.iload_n 1, 1) := by decide +kernel
theorem dX3_isHeld_17 : decode cX3_isHeld 17 = .ok (.invokevirtual 67, 3) := by decide +kernel
theorem dX3_isHeld_20 : decode cX3_isHeld 20 = .ok (.ifCond .eq 21, 3) := by decide +kernel
theorem dX3_isHeld_23 : decode cX3_isHeld 23 = .ok (.aload_n 0, 1) := by decide +kernel
theorem dX3_isHeld_24 : decode cX3_isHeld 24 = .ok (.getfield 11, 3) := by decide +kernel
theorem dX3_isHeld_27 : decode cX3_isHeld 27 = .ok (.iload_n 3, 1) := by decide +kernel
theorem dX3_isHeld_28 : decode cX3_isHeld 28 = .ok (.aaload, 1) := by decide +kernel
theorem dX3_isHeld_29 : decode cX3_isHeld 29 = .ok (.invokevirtual 70, 3) := by decide +kernel
theorem dX3_isHeld_32 : decode cX3_isHeld 32 = .ok (.ifCond .ne 7, 3) := by decide +kernel
theorem dX3_isHeld_35 : decode cX3_isHeld 35 = .ok (.iload_n 2, 1) := by decide +kernel
theorem dX3_isHeld_36 : decode cX3_isHeld 36 = .ok (.ifCond .ne 5, 3) := by decide +kernel
theorem dX3_isHeld_39 : decode cX3_isHeld 39 = .ok (.iconst 1, 1) := by decide +kernel
theorem dX3_isHeld_40 : decode cX3_isHeld 40 = .ok (.ireturn, 1) := by decide +kernel
theorem dX3_isHeld_41 : decode cX3_isHeld 41 = .ok (.iinc 3 1, 3) := by decide +kernel
theorem dX3_isHeld_44 : decode cX3_isHeld 44 = .ok (.goto (-42), 3) := by decide +kernel
theorem dX3_isHeld_47 : decode cX3_isHeld 47 = .ok (.iconst 0, 1) := by decide +kernel
theorem dX3_isHeld_48 : decode cX3_isHeld 48 = .ok (.ireturn, 1) := by decide +kernel
theorem dX3_removeFile_0 : decode cX3_removeFile 0 = .ok (.aload_n 0, 1) := by decide +kernel
theorem dX3_removeFile_1 : decode cX3_removeFile 1 = .ok (.iload_n 1, 1) := by decide +kernel
theorem dX3_removeFile_2 : decode cX3_removeFile 2 = .ok (.iload_n 1, 1) := by decide +kernel
theorem dX3_removeFile_3 : decode cX3_removeFile 3 = .ok (.invokevirtual 74, 3) := by decide +kernel
theorem dX3_removeFile_6 : decode cX3_removeFile 6 = .ok (.istore_n 2, 1) := by decide +kernel
theorem dX3_removeFile_7 : decode cX3_removeFile 7 = .ok (.iload_n 2, 1) := by decide +kernel
theorem dX3_removeFile_8 : decode cX3_removeFile 8 = .ok (.ifCond .ne 11, 3) := by decide +kernel
theorem dX3_removeFile_11 : decode cX3_removeFile 11 = .ok (.aload_n 0, 1) := by decide +kernel
theorem dX3_removeFile_12 : decode cX3_removeFile 12 = .ok (.getfield 21, 3) := by decide +kernel
theorem dX3_removeFile_15 : decode cX3_removeFile 15 = .ok (.iload_n 1, 1) := by decide +kernel
theorem dX3_removeFile_16 : decode cX3_removeFile 16 = .ok (.invokevirtual 77, 3) := by decide +kernel
theorem dX3_removeFile_19 : decode cX3_removeFile 19 = .ok (.iload_n 2, 1) := by decide +kernel
theorem dX3_removeFile_20 : decode cX3_removeFile 20 = .ok (.ireturn, 1) := by decide +kernel
theorem dX3_renameFile_0 : decode cX3_renameFile 0 = .ok (.aload_n 0, 1) := by decide +kernel
theorem dX3_renameFile_1 : decode cX3_renameFile 1 = .ok (.iload_n 1, 1) := by decide +kernel
theorem dX3_renameFile_2 : decode cX3_renameFile 2 = .ok (.iload_n 2, 1) := by decide +kernel
theorem dX3_renameFile_3 : decode cX3_renameFile 3 = .ok (.invokevirtual 74, 3) := by decide +kernel
theorem dX3_renameFile_6 : decode cX3_renameFile 6 = .ok (.istore_n 3, 1) := by decide +kernel
theorem dX3_renameFile_7 : decode cX3_renameFile 7 = .ok (.iload_n 3, 1) := by decide +kernel
theorem dX3_renameFile_8 : decode cX3_renameFile 8 = .ok (.ifCond .ne 17, 3) := by decide +kernel
theorem dX3_renameFile_11 : decode cX3_renameFile 11 = .ok (.iload_n 1, 1) := by decide +kernel
theorem dX3_renameFile_12 : decode cX3_renameFile 12 = .ok (.iload_n 2, 1) := by decide +kernel
theorem dX3_renameFile_13 : decode cX3_renameFile 13 = .ok (.if_icmp .eq 12, 3) := by decide +kernel
theorem dX3_renameFile_16 : decode cX3_renameFile 16 = .ok (.aload_n 0, 1) := by decide +kernel
theorem dX3_renameFile_17 : decode cX3_renameFile 17 = .ok (.getfield 21, 3) := by decide +kernel
theorem dX3_renameFile_20 : decode cX3_renameFile 20 = .ok (.iload_n 1, 1) := by decide +kernel
theorem dX3_renameFile_21 : decode cX3_renameFile 21 = .ok (.iload_n 2, 1) := by decide +kernel
theorem dX3_renameFile_22 : decode cX3_renameFile 22 = .ok (.invokevirtual 80, 3) := by decide +kernel
theorem dX3_renameFile_25 : decode cX3_renameFile 25 = .ok (.iload_n 3, 1) := by decide +kernel
theorem dX3_renameFile_26 : decode cX3_renameFile 26 = .ok (.ireturn, 1) := by decide +kernel
theorem dX3_refusalToMove_0 : decode cX3_refusalToMove 0 = .ok (.aload_n 0, 1) := by decide +kernel
theorem dX3_refusalToMove_1 : decode cX3_refusalToMove 1 = .ok (.getfield 21, 3) := by decide +kernel
theorem dX3_refusalToMove_4 : decode cX3_refusalToMove 4 = .ok (.iload_n 1, 1) := by decide +kernel
theorem dX3_refusalToMove_5 : decode cX3_refusalToMove 5 = .ok (.invokevirtual 49, 3) := by decide +kernel
theorem dX3_refusalToMove_8 : decode cX3_refusalToMove 8 = .ok (.ifCond .ne 8, 3) := by decide +kernel
theorem dX3_refusalToMove_11 : decode cX3_refusalToMove 11 = .ok (.iconst 1, 1) := by decide +kernel
theorem dX3_refusalToMove_12 : decode cX3_refusalToMove 12 = .ok (.invokestatic 53, 3) := by decide +kernel
theorem dX3_refusalToMove_15 : decode cX3_refusalToMove 15 = .ok (.ireturn, 1) := by decide +kernel
theorem dX3_refusalToMove_16 : decode cX3_refusalToMove 16 = .ok (.aload_n 0, 1) := by decide +kernel
theorem dX3_refusalToMove_17 : decode cX3_refusalToMove 17 = .ok (.getfield 21, 3) := by decide +kernel
theorem dX3_refusalToMove_20 : decode cX3_refusalToMove 20 = .ok (.iload_n 1, 1) := by decide +kernel
theorem dX3_refusalToMove_21 : decode cX3_refusalToMove 21 = .ok (.iconst 2, 1) := by decide +kernel
theorem dX3_refusalToMove_22 : decode cX3_refusalToMove 22 = .ok (.invokevirtual 60, 3) := by decide +kernel
theorem dX3_refusalToMove_25 : decode cX3_refusalToMove 25 = .ok (.ifCond .eq 15, 3) := by decide +kernel
theorem dX3_refusalToMove_28 : decode cX3_refusalToMove 28 = .ok (.aload_n 0, 1) := by decide +kernel
theorem dX3_refusalToMove_29 : decode cX3_refusalToMove 29 = .ok (.getfield 21, 3) := by decide +kernel
theorem dX3_refusalToMove_32 : decode cX3_refusalToMove 32 = .ok (.iload_n 2, 1) := by decide +kernel
theorem dX3_refusalToMove_33 : decode cX3_refusalToMove 33 = .ok (.iconst 2, 1) := by decide +kernel
theorem dX3_refusalToMove_34 : decode cX3_refusalToMove 34 = .ok (.invokevirtual 60, 3) := by decide +kernel
theorem dX3_refusalToMove_37 : decode cX3_refusalToMove 37 = .ok (.ifCond .ne 8, 3) := by decide +kernel
theorem dX3_refusalToMove_40 : decode cX3_refusalToMove 40 = .ok (.iconst 2, 1) := by decide +kernel
theorem dX3_refusalToMove_41 : decode cX3_refusalToMove 41 = .ok (.invokestatic 53, 3) := by decide +kernel
theorem dX3_refusalToMove_44 : decode cX3_refusalToMove 44 = .ok (.ireturn, 1) := by decide +kernel
theorem dX3_refusalToMove_45 : decode cX3_refusalToMove 45 = .ok (.aload_n 0, 1) := by decide +kernel
theorem dX3_refusalToMove_46 : decode cX3_refusalToMove 46 = .ok (.iload_n 1, 1) := by decide +kernel
theorem dX3_refusalToMove_47 : decode cX3_refusalToMove 47 = .ok (.iconst 0, 1) := by decide +kernel
theorem dX3_refusalToMove_48 : decode cX3_refusalToMove 48 = .ok (.invokevirtual 63, 3) := by decide +kernel
theorem dX3_refusalToMove_51 : decode cX3_refusalToMove 51 = .ok (.ifCond .ne 12, 3) := by decide +kernel
theorem dX3_refusalToMove_54 : decode cX3_refusalToMove 54 = .ok (.aload_n 0, 1) := by decide +kernel
theorem dX3_refusalToMove_55 : decode cX3_refusalToMove 55 = .ok (.iload_n 2, 1) := by decide +kernel
theorem dX3_refusalToMove_56 : decode cX3_refusalToMove 56 = .ok (.iconst 0, 1) := by decide +kernel
theorem dX3_refusalToMove_57 : decode cX3_refusalToMove 57 = .ok (.invokevirtual 63, 3) := by decide +kernel
theorem dX3_refusalToMove_60 : decode cX3_refusalToMove 60 = .ok (.ifCond .eq 10, 3) := by decide +kernel
theorem dX3_refusalToMove_63 : decode cX3_refusalToMove 63 = .ok (.iconst 0, 1) := by decide +kernel
theorem dX3_refusalToMove_64 : decode cX3_refusalToMove 64 = .ok (.invokestatic 53, 3) := by decide +kernel
theorem dX3_refusalToMove_67 : decode cX3_refusalToMove 67 = .ok (.goto 4, 3) := by decide +kernel
theorem dX3_refusalToMove_70 : decode cX3_refusalToMove 70 = .ok (.iconst 0, 1) := by decide +kernel
theorem dX3_refusalToMove_71 : decode cX3_refusalToMove 71 = .ok (.ireturn, 1) := by decide +kernel
theorem dX3_closeBehindRun_0 : decode cX3_closeBehindRun 0 = .ok (.iconst 0, 1) := by decide +kernel
theorem dX3_closeBehindRun_1 : decode cX3_closeBehindRun 1 = .ok (.istore_n 1, 1) := by decide +kernel
theorem dX3_closeBehindRun_2 : decode cX3_closeBehindRun 2 = .ok (.iload_n 1, 1) := by decide +kernel
theorem dX3_closeBehindRun_3 : decode cX3_closeBehindRun 3 = .ok (.aload_n 0, 1) := by decide +kernel
theorem dX3_closeBehindRun_4 : decode cX3_closeBehindRun 4 = .ok (.getfield 17, 3) := by decide +kernel
theorem dX3_closeBehindRun_7 : decode cX3_closeBehindRun 7 = .ok (.if_icmp .ge 31, 3) := by decide +kernel
theorem dX3_closeBehindRun_10 : decode cX3_closeBehindRun 10 = .ok (.aload_n 0, 1) := by decide +kernel
theorem dX3_closeBehindRun_11 : decode cX3_closeBehindRun 11 = .ok (.getfield 11, 3) := by decide +kernel
theorem dX3_closeBehindRun_14 : decode cX3_closeBehindRun 14 = .ok (.iload_n 1, 1) := by decide +kernel
theorem dX3_closeBehindRun_15 : decode cX3_closeBehindRun 15 = .ok (.aaload, 1) := by decide +kernel
theorem dX3_closeBehindRun_16 : decode cX3_closeBehindRun 16 = .ok (.invokevirtual 83, 3) := by decide +kernel
theorem dX3_closeBehindRun_19 : decode cX3_closeBehindRun 19 = .ok (.ifCond .eq 13, 3) := by decide +kernel
theorem dX3_closeBehindRun_22 : decode cX3_closeBehindRun 22 = .ok (.aload_n 0, 1) := by decide +kernel
theorem dX3_closeBehindRun_23 : decode cX3_closeBehindRun 23 = .ok (.getfield 11, 3) := by decide +kernel
theorem dX3_closeBehindRun_26 : decode cX3_closeBehindRun 26 = .ok (.iload_n 1, 1) := by decide +kernel
theorem dX3_closeBehindRun_27 : decode cX3_closeBehindRun 27 = .ok (.aaload, 1) := by decide +kernel
theorem dX3_closeBehindRun_28 : decode cX3_closeBehindRun 28 = .ok (.invokevirtual 86, 3) := by decide +kernel
theorem dX3_closeBehindRun_31 : decode cX3_closeBehindRun 31 = .ok (.pop, 1) := by decide +kernel
theorem dX3_closeBehindRun_32 : decode cX3_closeBehindRun 32 = .ok (.iinc 1 1, 3) := by decide +kernel
theorem dX3_closeBehindRun_35 : decode cX3_closeBehindRun 35 = .ok (.goto (-33), 3) := by decide +kernel
theorem dX3_closeBehindRun_38 : decode cX3_closeBehindRun 38 = .ok (.return_, 1) := by decide +kernel
theorem dX4_init_0 : decode cX4_init 0 = .ok (.aload_n 0, 1) := by decide +kernel
theorem dX4_init_1 : decode cX4_init 1 = .ok (.invokespecial 3, 3) := by decide +kernel
theorem dX4_init_4 : decode cX4_init 4 = .ok (.aload_n 0, 1) := by decide +kernel
theorem dX4_init_5 : decode cX4_init 5 = .ok (.sipush 300, 3) := by decide +kernel
theorem dX4_init_8 : decode cX4_init 8 = .ok (.newarray .int, 2) := by decide +kernel
theorem dX4_init_10 : decode cX4_init 10 = .ok (.putfield 9, 3) := by decide +kernel
theorem dX4_init_13 : decode cX4_init 13 = .ok (.aload_n 0, 1) := by decide +kernel
theorem dX4_init_14 : decode cX4_init 14 = .ok (.iconst 0, 1) := by decide +kernel
theorem dX4_init_15 : decode cX4_init 15 = .ok (.putfield 15, 3) := by decide +kernel
theorem dX4_init_18 : decode cX4_init 18 = .ok (.return_, 1) := by decide +kernel
theorem dX4_count_0 : decode cX4_count 0 = .ok (.aload_n 0, 1) := by decide +kernel
theorem dX4_count_1 : decode cX4_count 1 = .ok (.getfield 15, 3) := by decide +kernel
theorem dX4_count_4 : decode cX4_count 4 = .ok (.ireturn, 1) := by decide +kernel
theorem dX4_forget_0 : decode cX4_forget 0 = .ok (.aload_n 0, 1) := by decide +kernel
theorem dX4_forget_1 : decode cX4_forget 1 = .ok (.iconst 0, 1) := by decide +kernel
theorem dX4_forget_2 : decode cX4_forget 2 = .ok (.putfield 15, 3) := by decide +kernel
theorem dX4_forget_5 : decode cX4_forget 5 = .ok (.return_, 1) := by decide +kernel
theorem dX4_note_0 : decode cX4_note 0 = .ok (.aload_n 0, 1) := by decide +kernel
theorem dX4_note_1 : decode cX4_note 1 = .ok (.getfield 15, 3) := by decide +kernel
theorem dX4_note_4 : decode cX4_note 4 = .ok (.sipush 300, 3) := by decide +kernel
theorem dX4_note_7 : decode cX4_note 7 = .ok (.if_icmp .ge 13, 3) := by decide +kernel
theorem dX4_note_10 : decode cX4_note 10 = .ok (.aload_n 0, 1) := by decide +kernel
theorem dX4_note_11 : decode cX4_note 11 = .ok (.getfield 9, 3) := by decide +kernel
theorem dX4_note_14 : decode cX4_note 14 = .ok (.aload_n 0, 1) := by decide +kernel
theorem dX4_note_15 : decode cX4_note 15 = .ok (.getfield 15, 3) := by decide +kernel
theorem dX4_note_18 : decode cX4_note 18 = .ok (.iload_n 1, 1) := by decide +kernel
theorem dX4_note_19 : decode cX4_note 19 = .ok (.iastore, 1) := by decide +kernel
theorem dX4_note_20 : decode cX4_note 20 = .ok (.aload_n 0, 1) := by decide +kernel
theorem dX4_note_21 : decode cX4_note 21 = .ok (.dup, 1) := by decide +kernel
theorem dX4_note_22 : decode cX4_note 22 = .ok (.getfield 15, 3) := by decide +kernel
theorem dX4_note_25 : decode cX4_note 25 = .ok (.iconst 1, 1) := by decide +kernel
theorem dX4_note_26 : decode cX4_note 26 = .ok (.iadd, 1) := by decide +kernel
theorem dX4_note_27 : decode cX4_note 27 = .ok (.putfield 15, 3) := by decide +kernel
theorem dX4_note_30 : decode cX4_note 30 = .ok (.return_, 1) := by decide +kernel
theorem dX4_entry_0 : decode cX4_entry 0 = .ok (.iload_n 1, 1) := by decide +kernel
theorem dX4_entry_1 : decode cX4_entry 1 = .ok (.aload_n 0, 1) := by decide +kernel
theorem dX4_entry_2 : decode cX4_entry 2 = .ok (.getfield 15, 3) := by decide +kernel
theorem dX4_entry_5 : decode cX4_entry 5 = .ok (.sipush 300, 3) := by decide +kernel
theorem dX4_entry_8 : decode cX4_entry 8 = .ok (.invokestatic 19, 3) := by decide +kernel
theorem dX4_entry_11 : decode cX4_entry 11 = .ok (.invokestatic 25, 3) := by decide +kernel
theorem dX4_entry_14 : decode cX4_entry 14 = .ok (.ifCond .eq 12, 3) := by decide +kernel
theorem dX4_entry_17 : decode cX4_entry 17 = .ok (.aload_n 0, 1) := by decide +kernel
theorem dX4_entry_18 : decode cX4_entry 18 = .ok (.getfield 9, 3) := by decide +kernel
theorem dX4_entry_21 : decode cX4_entry 21 = .ok (.iload_n 1, 1) := by decide +kernel
theorem dX4_entry_22 : decode cX4_entry 22 = .ok (.iaload, 1) := by decide +kernel
theorem dX4_entry_23 : decode cX4_entry 23 = .ok (.goto 4, 3) := by decide +kernel
theorem dX4_entry_26 : decode cX4_entry 26 = .ok (.iconst (-1), 1) := by decide +kernel
theorem dX4_entry_27 : decode cX4_entry 27 = .ok (.ireturn, 1) := by decide +kernel
theorem dX5_init_0 : decode cX5_init 0 = .ok (.aload_n 0, 1) := by decide +kernel
theorem dX5_init_1 : decode cX5_init 1 = .ok (.invokespecial 3, 3) := by decide +kernel
theorem dX5_init_4 : decode cX5_init 4 = .ok (.aload_n 0, 1) := by decide +kernel
theorem dX5_init_5 : decode cX5_init 5 = .ok (.bipush 40, 2) := by decide +kernel
theorem dX5_init_7 : decode cX5_init 7 = .ok (.newarray .int, 2) := by decide +kernel
theorem dX5_init_9 : decode cX5_init 9 = .ok (.putfield 9, 3) := by decide +kernel
theorem dX5_init_12 : decode cX5_init 12 = .ok (.aload_n 0, 1) := by decide +kernel
theorem dX5_init_13 : decode cX5_init 13 = .ok (.aconst_null, 1) := by decide +kernel
theorem dX5_init_14 : decode cX5_init 14 = .ok (.putfield 15, 3) := by decide +kernel
theorem dX5_init_17 : decode cX5_init 17 = .ok (.aload_n 0, 1) := by decide +kernel
theorem dX5_init_18 : decode cX5_init 18 = .ok (.iconst 0, 1) := by decide +kernel
theorem dX5_init_19 : decode cX5_init 19 = .ok (.putfield 19, 3) := by decide +kernel
theorem dX5_init_22 : decode cX5_init 22 = .ok (.return_, 1) := by decide +kernel
theorem dX5_begin_0 : decode cX5_begin 0 = .ok (.aload_n 0, 1) := by decide +kernel
theorem dX5_begin_1 : decode cX5_begin 1 = .ok (.aload_n 1, 1) := by decide +kernel
theorem dX5_begin_2 : decode cX5_begin 2 = .ok (.putfield 15, 3) := by decide +kernel
theorem dX5_begin_5 : decode cX5_begin 5 = .ok (.aload_n 0, 1) := by decide +kernel
theorem dX5_begin_6 : decode cX5_begin 6 = .ok (.iconst 0, 1) := by decide +kernel
theorem dX5_begin_7 : decode cX5_begin 7 = .ok (.putfield 19, 3) := by decide +kernel
theorem dX5_begin_10 : decode cX5_begin 10 = .ok (.return_, 1) := by decide +kernel
theorem dX5_length_0 : decode cX5_length 0 = .ok (.aload_n 0, 1) := by decide +kernel
theorem dX5_length_1 : decode cX5_length 1 = .ok (.getfield 19, 3) := by decide +kernel
theorem dX5_length_4 : decode cX5_length 4 = .ok (.ireturn, 1) := by decide +kernel
theorem dX5_item_0 : decode cX5_item 0 = .ok (.iload_n 1, 1) := by decide +kernel
theorem dX5_item_1 : decode cX5_item 1 = .ok (.aload_n 0, 1) := by decide +kernel
theorem dX5_item_2 : decode cX5_item 2 = .ok (.getfield 19, 3) := by decide +kernel
theorem dX5_item_5 : decode cX5_item 5 = .ok (.invokestatic 23, 3) := by decide +kernel
theorem dX5_item_8 : decode cX5_item 8 = .ok (.ifCond .eq 12, 3) := by decide +kernel
theorem dX5_item_11 : decode cX5_item 11 = .ok (.aload_n 0, 1) := by decide +kernel
theorem dX5_item_12 : decode cX5_item 12 = .ok (.getfield 9, 3) := by decide +kernel
theorem dX5_item_15 : decode cX5_item 15 = .ok (.iload_n 1, 1) := by decide +kernel
theorem dX5_item_16 : decode cX5_item 16 = .ok (.iaload, 1) := by decide +kernel
theorem dX5_item_17 : decode cX5_item 17 = .ok (.goto 4, 3) := by decide +kernel
theorem dX5_item_20 : decode cX5_item 20 = .ok (.iconst (-1), 1) := by decide +kernel
theorem dX5_item_21 : decode cX5_item 21 = .ok (.ireturn, 1) := by decide +kernel
theorem dX5_reach_0 : decode cX5_reach 0 = .ok (.aload_n 0, 1) := by decide +kernel
theorem dX5_reach_1 : decode cX5_reach 1 = .ok (.getfield 19, 3) := by decide +kernel
theorem dX5_reach_4 : decode cX5_reach 4 = .ok (.istore_n 2, 1) := by decide +kernel
theorem dX5_reach_5 : decode cX5_reach 5 = .ok (.iload_n 1, 1) := by decide +kernel
theorem dX5_reach_6 : decode cX5_reach 6 = .ok (.bipush 40, 2) := by decide +kernel
theorem dX5_reach_8 : decode cX5_reach 8 = .ok (.invokestatic 27, 3) := by decide +kernel
theorem dX5_reach_11 : decode cX5_reach 11 = .ok (.istore_n 3, 1) := by decide +kernel
theorem dX5_reach_12 : decode cX5_reach 12 = .ok (.iconst 1, 1) := by decide +kernel
theorem dX5_reach_13 : decode cX5_reach 13 = .ok (.istore 4, 2) := by decide +kernel
theorem dX5_reach_15 : decode cX5_reach 15 = .ok (.iload_n 2, 1) := by decide +kernel
theorem dX5_reach_16 : decode cX5_reach 16 = .ok (.istore 5, 2) := by decide +kernel
theorem dX5_reach_18 : decode cX5_reach 18 = .ok (.iload 4, 2) := by decide +kernel
theorem dX5_reach_20 : decode cX5_reach 20 = .ok (.ifCond .eq 21, 3) := by decide +kernel
theorem dX5_reach_23 : decode cX5_reach 23 = .ok (.iload 5, 2) := by decide +kernel
theorem dX5_reach_25 : decode cX5_reach 25 = .ok (.iload_n 3, 1) := by decide +kernel
theorem dX5_reach_26 : decode cX5_reach 26 = .ok (.if_icmp .gt 15, 3) := by decide +kernel
theorem dX5_reach_29 : decode cX5_reach 29 = .ok (.aload_n 0, 1) := by decide +kernel
theorem dX5_reach_30 : decode cX5_reach 30 = .ok (.invokevirtual 33, 3) := by decide +kernel
theorem dX5_reach_33 : decode cX5_reach 33 = .ok (.istore 4, 2) := by decide +kernel
theorem dX5_reach_35 : decode cX5_reach 35 = .ok (.iinc 5 1, 3) := by decide +kernel
theorem dX5_reach_38 : decode cX5_reach 38 = .ok (.goto (-20), 3) := by decide +kernel
theorem dX5_reach_41 : decode cX5_reach 41 = .ok (.aload_n 0, 1) := by decide +kernel
theorem dX5_reach_42 : decode cX5_reach 42 = .ok (.getfield 19, 3) := by decide +kernel
theorem dX5_reach_45 : decode cX5_reach 45 = .ok (.iload_n 2, 1) := by decide +kernel
theorem dX5_reach_46 : decode cX5_reach 46 = .ok (.isub, 1) := by decide +kernel
theorem dX5_reach_47 : decode cX5_reach 47 = .ok (.ireturn, 1) := by decide +kernel
theorem dX5_grow_0 : decode cX5_grow 0 = .ok (.aload_n 0, 1) := by decide +kernel
theorem dX5_grow_1 : decode cX5_grow 1 = .ok (.getfield 15, 3) := by decide +kernel
theorem dX5_grow_4 : decode cX5_grow 4 = .ok (.ifnull 13, 3) := by decide +kernel
theorem dX5_grow_7 : decode cX5_grow 7 = .ok (.aload_n 0, 1) := by decide +kernel
theorem dX5_grow_8 : decode cX5_grow 8 = .ok (.getfield 15, 3) := by decide +kernel
theorem dX5_grow_11 : decode cX5_grow 11 = .ok (.invokevirtual 37, 3) := by decide +kernel
theorem dX5_grow_14 : decode cX5_grow 14 = .ok (.ifCond .ne 5, 3) := by decide +kernel
theorem dX5_grow_17 : decode cX5_grow 17 = .ok (.iconst 0, 1) := by decide +kernel
theorem dX5_grow_18 : decode cX5_grow 18 = .ok (.ireturn, 1) := by decide +kernel
theorem dX5_grow_19 : decode cX5_grow 19 = .ok (.aload_n 0, 1) := by decide +kernel
theorem dX5_grow_20 : decode cX5_grow 20 = .ok (.getfield 15, 3) := by decide +kernel
theorem dX5_grow_23 : decode cX5_grow 23 = .ok (.invokevirtual 42, 3) := by decide +kernel
theorem dX5_grow_26 : decode cX5_grow 26 = .ok (.istore_n 1, 1) := by decide +kernel
theorem dX5_grow_27 : decode cX5_grow 27 = .ok (.iload_n 1, 1) := by decide +kernel
theorem dX5_grow_28 : decode cX5_grow 28 = .ok (.iconst (-1), 1) := by decide +kernel
theorem dX5_grow_29 : decode cX5_grow 29 = .ok (.if_icmp .eq 12, 3) := by decide +kernel
theorem dX5_grow_32 : decode cX5_grow 32 = .ok (.aload_n 0, 1) := by decide +kernel
theorem dX5_grow_33 : decode cX5_grow 33 = .ok (.getfield 19, 3) := by decide +kernel
theorem dX5_grow_36 : decode cX5_grow 36 = .ok (.bipush 40, 2) := by decide +kernel
theorem dX5_grow_38 : decode cX5_grow 38 = .ok (.if_icmp .lt 12, 3) := by decide +kernel
theorem dX5_grow_41 : decode cX5_grow 41 = .ok (.aload_n 0, 1) := by decide +kernel
theorem dX5_grow_42 : decode cX5_grow 42 = .ok (.getfield 15, 3) := by decide +kernel
theorem dX5_grow_45 : decode cX5_grow 45 = .ok (.invokevirtual 46, 3) := by decide +kernel
theorem dX5_grow_48 : decode cX5_grow 48 = .ok (.iconst 0, 1) := by decide +kernel
theorem dX5_grow_49 : decode cX5_grow 49 = .ok (.ireturn, 1) := by decide +kernel
theorem dX5_grow_50 : decode cX5_grow 50 = .ok (.aload_n 0, 1) := by decide +kernel
theorem dX5_grow_51 : decode cX5_grow 51 = .ok (.getfield 9, 3) := by decide +kernel
theorem dX5_grow_54 : decode cX5_grow 54 = .ok (.aload_n 0, 1) := by decide +kernel
theorem dX5_grow_55 : decode cX5_grow 55 = .ok (.getfield 19, 3) := by decide +kernel
theorem dX5_grow_58 : decode cX5_grow 58 = .ok (.iload_n 1, 1) := by decide +kernel
theorem dX5_grow_59 : decode cX5_grow 59 = .ok (.iastore, 1) := by decide +kernel
theorem dX5_grow_60 : decode cX5_grow 60 = .ok (.aload_n 0, 1) := by decide +kernel
theorem dX5_grow_61 : decode cX5_grow 61 = .ok (.dup, 1) := by decide +kernel
theorem dX5_grow_62 : decode cX5_grow 62 = .ok (.getfield 19, 3) := by decide +kernel
theorem dX5_grow_65 : decode cX5_grow 65 = .ok (.iconst 1, 1) := by decide +kernel
theorem dX5_grow_66 : decode cX5_grow 66 = .ok (.iadd, 1) := by decide +kernel
theorem dX5_grow_67 : decode cX5_grow 67 = .ok (.putfield 19, 3) := by decide +kernel
theorem dX5_grow_70 : decode cX5_grow 70 = .ok (.iconst 1, 1) := by decide +kernel
theorem dX5_grow_71 : decode cX5_grow 71 = .ok (.ireturn, 1) := by decide +kernel
theorem dX6_init_0 : decode cX6_init 0 = .ok (.aload_n 0, 1) := by decide +kernel
theorem dX6_init_1 : decode cX6_init 1 = .ok (.invokespecial 3, 3) := by decide +kernel
theorem dX6_init_4 : decode cX6_init 4 = .ok (.aload_n 0, 1) := by decide +kernel
theorem dX6_init_5 : decode cX6_init 5 = .ok (.bipush 20, 2) := by decide +kernel
theorem dX6_init_7 : decode cX6_init 7 = .ok (.anewarray 9, 3) := by decide +kernel
theorem dX6_init_10 : decode cX6_init 10 = .ok (.putfield 11, 3) := by decide +kernel
theorem dX6_init_13 : decode cX6_init 13 = .ok (.aload_n 0, 1) := by decide +kernel
theorem dX6_init_14 : decode cX6_init 14 = .ok (.iconst 0, 1) := by decide +kernel
theorem dX6_init_15 : decode cX6_init 15 = .ok (.putfield 17, 3) := by decide +kernel
theorem dX6_init_18 : decode cX6_init 18 = .ok (.iconst 0, 1) := by decide +kernel
theorem dX6_init_19 : decode cX6_init 19 = .ok (.istore_n 1, 1) := by decide +kernel
theorem dX6_init_20 : decode cX6_init 20 = .ok (.iload_n 1, 1) := by decide +kernel
theorem dX6_init_21 : decode cX6_init 21 = .ok (.bipush 20, 2) := by decide +kernel
theorem dX6_init_23 : decode cX6_init 23 = .ok (.if_icmp .ge 22, 3) := by decide +kernel
theorem dX6_init_26 : decode cX6_init 26 = .ok (.aload_n 0, 1) := by decide +kernel
theorem dX6_init_27 : decode cX6_init 27 = .ok (.getfield 11, 3) := by decide +kernel
theorem dX6_init_30 : decode cX6_init 30 = .ok (.iload_n 1, 1) := by decide +kernel
theorem dX6_init_31 : decode cX6_init 31 = .ok (.new 9, 3) := by decide +kernel
theorem dX6_init_34 : decode cX6_init 34 = .ok (.dup, 1) := by decide +kernel
theorem dX6_init_35 : decode cX6_init 35 = .ok (.invokespecial 21, 3) := by decide +kernel
theorem dX6_init_38 : decode cX6_init 38 = .ok (.aastore, 1) := by decide +kernel
theorem dX6_init_39 : decode cX6_init 39 = .ok (.iinc 1 1, 3) := by decide +kernel
theorem dX6_init_42 : decode cX6_init 42 = .ok (.goto (-22), 3) := by decide +kernel
theorem dX6_init_45 : decode cX6_init 45 = .ok (.return_, 1) := by decide +kernel
theorem dX6_count_0 : decode cX6_count 0 = .ok (.aload_n 0, 1) := by decide +kernel
theorem dX6_count_1 : decode cX6_count 1 = .ok (.getfield 17, 3) := by decide +kernel
theorem dX6_count_4 : decode cX6_count 4 = .ok (.ireturn, 1) := by decide +kernel
theorem dX6_forget_0 : decode cX6_forget 0 = .ok (.aload_n 0, 1) := by decide +kernel
theorem dX6_forget_1 : decode cX6_forget 1 = .ok (.iconst 0, 1) := by decide +kernel
theorem dX6_forget_2 : decode cX6_forget 2 = .ok (.putfield 17, 3) := by decide +kernel
theorem dX6_forget_5 : decode cX6_forget 5 = .ok (.return_, 1) := by decide +kernel
theorem dX6_pick_0 : decode cX6_pick 0 = .ok (.iload_n 1, 1) := by decide +kernel
theorem dX6_pick_1 : decode cX6_pick 1 = .ok (.aload_n 0, 1) := by decide +kernel
theorem dX6_pick_2 : decode cX6_pick 2 = .ok (.getfield 17, 3) := by decide +kernel
theorem dX6_pick_5 : decode cX6_pick 5 = .ok (.invokestatic 22, 3) := by decide +kernel
theorem dX6_pick_8 : decode cX6_pick 8 = .ok (.ifCond .eq 12, 3) := by decide +kernel
theorem dX6_pick_11 : decode cX6_pick 11 = .ok (.aload_n 0, 1) := by decide +kernel
theorem dX6_pick_12 : decode cX6_pick 12 = .ok (.getfield 11, 3) := by decide +kernel
theorem dX6_pick_15 : decode cX6_pick 15 = .ok (.iload_n 1, 1) := by decide +kernel
theorem dX6_pick_16 : decode cX6_pick 16 = .ok (.aaload, 1) := by decide +kernel
theorem dX6_pick_17 : decode cX6_pick 17 = .ok (.goto 4, 3) := by decide +kernel
theorem dX6_pick_20 : decode cX6_pick 20 = .ok (.aconst_null, 1) := by decide +kernel
theorem dX6_pick_21 : decode cX6_pick 21 = .ok (.areturn, 1) := by decide +kernel
theorem dX6_begin_0 : decode cX6_begin 0 = .ok (.aload_n 0, 1) := by decide +kernel
theorem dX6_begin_1 : decode cX6_begin 1 = .ok (.getfield 17, 3) := by decide +kernel
theorem dX6_begin_4 : decode cX6_begin 4 = .ok (.bipush 20, 2) := by decide +kernel
theorem dX6_begin_6 : decode cX6_begin 6 = .ok (.if_icmp .ge 10, 3) := by decide +kernel
theorem dX6_begin_9 : decode cX6_begin 9 = .ok (.aload_n 1, 1) := by decide +kernel
theorem dX6_begin_10 : decode cX6_begin 10 = .ok (.invokevirtual 26, 3) := by decide +kernel
theorem dX6_begin_13 : decode cX6_begin 13 = .ok (.ifCond .ne 8, 3) := by decide +kernel
theorem dX6_begin_16 : decode cX6_begin 16 = .ok (.iconst 4, 1) := by decide +kernel
theorem dX6_begin_17 : decode cX6_begin 17 = .ok (.invokestatic 32, 3) := by decide +kernel
theorem dX6_begin_20 : decode cX6_begin 20 = .ok (.ireturn, 1) := by decide +kernel
theorem dX6_begin_21 : decode cX6_begin 21 = .ok (.aload_n 0, 1) := by decide +kernel
theorem dX6_begin_22 : decode cX6_begin 22 = .ok (.getfield 11, 3) := by decide +kernel
theorem dX6_begin_25 : decode cX6_begin 25 = .ok (.aload_n 0, 1) := by decide +kernel
theorem dX6_begin_26 : decode cX6_begin 26 = .ok (.getfield 17, 3) := by decide +kernel
theorem dX6_begin_29 : decode cX6_begin 29 = .ok (.aaload, 1) := by decide +kernel
theorem dX6_begin_30 : decode cX6_begin 30 = .ok (.aload_n 1, 1) := by decide +kernel
theorem dX6_begin_31 : decode cX6_begin 31 = .ok (.invokevirtual 36, 3) := by decide +kernel
theorem dX6_begin_34 : decode cX6_begin 34 = .ok (.aload_n 0, 1) := by decide +kernel
theorem dX6_begin_35 : decode cX6_begin 35 = .ok (.dup, 1) := by decide +kernel
theorem dX6_begin_36 : decode cX6_begin 36 = .ok (.getfield 17, 3) := by decide +kernel
theorem dX6_begin_39 : decode cX6_begin 39 = .ok (.iconst 1, 1) := by decide +kernel
theorem dX6_begin_40 : decode cX6_begin 40 = .ok (.iadd, 1) := by decide +kernel
theorem dX6_begin_41 : decode cX6_begin 41 = .ok (.putfield 17, 3) := by decide +kernel
theorem dX6_begin_44 : decode cX6_begin 44 = .ok (.aload_n 0, 1) := by decide +kernel
theorem dX6_begin_45 : decode cX6_begin 45 = .ok (.getfield 17, 3) := by decide +kernel
theorem dX6_begin_48 : decode cX6_begin 48 = .ok (.iconst 1, 1) := by decide +kernel
theorem dX6_begin_49 : decode cX6_begin 49 = .ok (.isub, 1) := by decide +kernel
theorem dX6_begin_50 : decode cX6_begin 50 = .ok (.ireturn, 1) := by decide +kernel
theorem dX7_init_0 : decode cX7_init 0 = .ok (.aload_n 0, 1) := by decide +kernel
theorem dX7_init_1 : decode cX7_init 1 = .ok (.invokespecial 3, 3) := by decide +kernel
theorem dX7_init_4 : decode cX7_init 4 = .ok (.aload_n 0, 1) := by decide +kernel
theorem dX7_init_5 : decode cX7_init 5 = .ok (.bipush 60, 2) := by decide +kernel
theorem dX7_init_7 : decode cX7_init 7 = .ok (.newarray .int, 2) := by decide +kernel
theorem dX7_init_9 : decode cX7_init 9 = .ok (.putfield 9, 3) := by decide +kernel
theorem dX7_init_12 : decode cX7_init 12 = .ok (.aload_n 0, 1) := by decide +kernel
theorem dX7_init_13 : decode cX7_init 13 = .ok (.bipush 60, 2) := by decide +kernel
theorem dX7_init_15 : decode cX7_init 15 = .ok (.newarray .int, 2) := by decide +kernel
theorem dX7_init_17 : decode cX7_init 17 = .ok (.putfield 15, 3) := by decide +kernel
theorem dX7_init_20 : decode cX7_init 20 = .ok (.aload_n 0, 1) := by decide +kernel
theorem dX7_init_21 : decode cX7_init 21 = .ok (.bipush 60, 2) := by decide +kernel
theorem dX7_init_23 : decode cX7_init 23 = .ok (.newarray .int, 2) := by decide +kernel
theorem dX7_init_25 : decode cX7_init 25 = .ok (.putfield 18, 3) := by decide +kernel
theorem dX7_init_28 : decode cX7_init 28 = .ok (.aload_n 0, 1) := by decide +kernel
theorem dX7_init_29 : decode cX7_init 29 = .ok (.bipush 60, 2) := by decide +kernel
theorem dX7_init_31 : decode cX7_init 31 = .ok (.newarray .int, 2) := by decide +kernel
theorem dX7_init_33 : decode cX7_init 33 = .ok (.putfield 21, 3) := by decide +kernel
theorem dX7_init_36 : decode cX7_init 36 = .ok (.aload_n 0, 1) := by decide +kernel
theorem dX7_init_37 : decode cX7_init 37 = .ok (.iconst 0, 1) := by decide +kernel
theorem dX7_init_38 : decode cX7_init 38 = .ok (.putfield 24, 3) := by decide +kernel
theorem dX7_init_41 : decode cX7_init 41 = .ok (.return_, 1) := by decide +kernel
theorem dX7_length_0 : decode cX7_length 0 = .ok (.aload_n 0, 1) := by decide +kernel
theorem dX7_length_1 : decode cX7_length 1 = .ok (.getfield 24, 3) := by decide +kernel
theorem dX7_length_4 : decode cX7_length 4 = .ok (.ireturn, 1) := by decide +kernel
theorem dX7_forget_0 : decode cX7_forget 0 = .ok (.aload_n 0, 1) := by decide +kernel
theorem dX7_forget_1 : decode cX7_forget 1 = .ok (.iconst 0, 1) := by decide +kernel
theorem dX7_forget_2 : decode cX7_forget 2 = .ok (.putfield 24, 3) := by decide +kernel
theorem dX7_forget_5 : decode cX7_forget 5 = .ok (.return_, 1) := by decide +kernel
theorem dX7_allows_0 : decode cX7_allows 0 = .ok (.aload_n 0, 1) := by decide +kernel
theorem dX7_allows_1 : decode cX7_allows 1 = .ok (.iload_n 2, 1) := by decide +kernel
theorem dX7_allows_2 : decode cX7_allows 2 = .ok (.getstatic 28, 3) := by decide +kernel
theorem dX7_allows_5 : decode cX7_allows 5 = .ok (.iload_n 1, 1) := by decide +kernel
theorem dX7_allows_6 : decode cX7_allows 6 = .ok (.iaload, 1) := by decide +kernel
theorem dX7_allows_7 : decode cX7_allows 7 = .ok (.invokevirtual 31, 3) := by decide +kernel
theorem dX7_allows_10 : decode cX7_allows 10 = .ok (.ifCond .eq 34, 3) := by decide +kernel
theorem dX7_allows_13 : decode cX7_allows 13 = .ok (.aload_n 0, 1) := by decide +kernel
theorem dX7_allows_14 : decode cX7_allows 14 = .ok (.iload_n 3, 1) := by decide +kernel
theorem dX7_allows_15 : decode cX7_allows 15 = .ok (.getstatic 35, 3) := by decide +kernel
theorem dX7_allows_18 : decode cX7_allows 18 = .ok (.iload_n 1, 1) := by decide +kernel
theorem dX7_allows_19 : decode cX7_allows 19 = .ok (.iaload, 1) := by decide +kernel
theorem dX7_allows_20 : decode cX7_allows 20 = .ok (.invokevirtual 31, 3) := by decide +kernel
theorem dX7_allows_23 : decode cX7_allows 23 = .ok (.ifCond .eq 21, 3) := by decide +kernel
theorem dX7_allows_26 : decode cX7_allows 26 = .ok (.aload_n 0, 1) := by decide +kernel
theorem dX7_allows_27 : decode cX7_allows 27 = .ok (.iload 4, 2) := by decide +kernel
theorem dX7_allows_29 : decode cX7_allows 29 = .ok (.getstatic 38, 3) := by decide +kernel
theorem dX7_allows_32 : decode cX7_allows 32 = .ok (.iload_n 1, 1) := by decide +kernel
theorem dX7_allows_33 : decode cX7_allows 33 = .ok (.iaload, 1) := by decide +kernel
theorem dX7_allows_34 : decode cX7_allows 34 = .ok (.invokevirtual 31, 3) := by decide +kernel
theorem dX7_allows_37 : decode cX7_allows 37 = .ok (.ifCond .eq 7, 3) := by decide +kernel
theorem dX7_allows_40 : decode cX7_allows 40 = .ok (.iconst 1, 1) := by decide +kernel
theorem dX7_allows_41 : decode cX7_allows 41 = .ok (.goto 4, 3) := by decide +kernel
theorem dX7_allows_44 : decode cX7_allows 44 = .ok (.iconst 0, 1) := by decide +kernel
theorem dX7_allows_45 : decode cX7_allows 45 = .ok (.ireturn, 1) := by decide +kernel
theorem dX7_fits_0 : decode cX7_fits 0 = .ok (.iload_n 2, 1) := by decide +kernel
theorem dX7_fits_1 : decode cX7_fits 1 = .ok (.iconst (-1), 1) := by decide +kernel
theorem dX7_fits_2 : decode cX7_fits 2 = .ok (.if_icmp .eq 22, 3) := by decide +kernel
theorem dX7_fits_5 : decode cX7_fits 5 = .ok (.iload_n 1, 1) := by decide +kernel
theorem dX7_fits_6 : decode cX7_fits 6 = .ok (.iload_n 2, 1) := by decide +kernel
theorem dX7_fits_7 : decode cX7_fits 7 = .ok (.ifCond .ne 10, 3) := by decide +kernel
theorem dX7_fits_10 : decode cX7_fits 10 = .ok (.aload_n 0, 1) := by decide +kernel
theorem dX7_fits_11 : decode cX7_fits 11 = .ok (.getfield 24, 3) := by decide +kernel
theorem dX7_fits_14 : decode cX7_fits 14 = .ok (.goto 4, 3) := by decide +kernel
theorem dX7_fits_17 : decode cX7_fits 17 = .ok (.iload_n 2, 1) := by decide +kernel
theorem dX7_fits_18 : decode cX7_fits 18 = .ok (.invokestatic 41, 3) := by decide +kernel
theorem dX7_fits_21 : decode cX7_fits 21 = .ok (.ifCond .eq 7, 3) := by decide +kernel
theorem dX7_fits_24 : decode cX7_fits 24 = .ok (.iconst 1, 1) := by decide +kernel
theorem dX7_fits_25 : decode cX7_fits 25 = .ok (.goto 4, 3) := by decide +kernel
theorem dX7_fits_28 : decode cX7_fits 28 = .ok (.iconst 0, 1) := by decide +kernel
theorem dX7_fits_29 : decode cX7_fits 29 = .ok (.ireturn, 1) := by decide +kernel
theorem dX7_add_0 : decode cX7_add 0 = .ok (.aload_n 0, 1) := by decide +kernel
theorem dX7_add_1 : decode cX7_add 1 = .ok (.getfield 24, 3) := by decide +kernel
theorem dX7_add_4 : decode cX7_add 4 = .ok (.bipush 60, 2) := by decide +kernel
theorem dX7_add_6 : decode cX7_add 6 = .ok (.if_icmp .lt 6, 3) := by decide +kernel
theorem dX7_add_9 : decode cX7_add 9 = .ok (.bipush (-3), 2) := by decide +kernel
theorem dX7_add_11 : decode cX7_add 11 = .ok (.ireturn, 1) := by decide +kernel
theorem dX7_add_12 : decode cX7_add 12 = .ok (.aload_n 0, 1) := by decide +kernel
theorem dX7_add_13 : decode cX7_add 13 = .ok (.getfield 9, 3) := by decide +kernel
theorem dX7_add_16 : decode cX7_add 16 = .ok (.aload_n 0, 1) := by decide +kernel
theorem dX7_add_17 : decode cX7_add 17 = .ok (.getfield 24, 3) := by decide +kernel
theorem dX7_add_20 : decode cX7_add 20 = .ok (.iload_n 1, 1) := by decide +kernel
theorem dX7_add_21 : decode cX7_add 21 = .ok (.iastore, 1) := by decide +kernel
theorem dX7_add_22 : decode cX7_add 22 = .ok (.aload_n 0, 1) := by decide +kernel
theorem dX7_add_23 : decode cX7_add 23 = .ok (.getfield 15, 3) := by decide +kernel
theorem dX7_add_26 : decode cX7_add 26 = .ok (.aload_n 0, 1) := by decide +kernel
theorem dX7_add_27 : decode cX7_add 27 = .ok (.getfield 24, 3) := by decide +kernel
theorem dX7_add_30 : decode cX7_add 30 = .ok (.iload_n 2, 1) := by decide +kernel
theorem dX7_add_31 : decode cX7_add 31 = .ok (.iastore, 1) := by decide +kernel
theorem dX7_add_32 : decode cX7_add 32 = .ok (.aload_n 0, 1) := by decide +kernel
theorem dX7_add_33 : decode cX7_add 33 = .ok (.getfield 18, 3) := by decide +kernel
theorem dX7_add_36 : decode cX7_add 36 = .ok (.aload_n 0, 1) := by decide +kernel
theorem dX7_add_37 : decode cX7_add 37 = .ok (.getfield 24, 3) := by decide +kernel
theorem dX7_add_40 : decode cX7_add 40 = .ok (.iload_n 3, 1) := by decide +kernel
theorem dX7_add_41 : decode cX7_add 41 = .ok (.iastore, 1) := by decide +kernel
theorem dX7_add_42 : decode cX7_add 42 = .ok (.aload_n 0, 1) := by decide +kernel
theorem dX7_add_43 : decode cX7_add 43 = .ok (.getfield 21, 3) := by decide +kernel
theorem dX7_add_46 : decode cX7_add 46 = .ok (.aload_n 0, 1) := by decide +kernel
theorem dX7_add_47 : decode cX7_add 47 = .ok (.getfield 24, 3) := by decide +kernel
theorem dX7_add_50 : decode cX7_add 50 = .ok (.iload 4, 2) := by decide +kernel
theorem dX7_add_52 : decode cX7_add 52 = .ok (.iastore, 1) := by decide +kernel
theorem dX7_add_53 : decode cX7_add 53 = .ok (.aload_n 0, 1) := by decide +kernel
theorem dX7_add_54 : decode cX7_add 54 = .ok (.dup, 1) := by decide +kernel
theorem dX7_add_55 : decode cX7_add 55 = .ok (.getfield 24, 3) := by decide +kernel
theorem dX7_add_58 : decode cX7_add 58 = .ok (.iconst 1, 1) := by decide +kernel
theorem dX7_add_59 : decode cX7_add 59 = .ok (.iadd, 1) := by decide +kernel
theorem dX7_add_60 : decode cX7_add 60 = .ok (.putfield 24, 3) := by decide +kernel
theorem dX7_add_63 : decode cX7_add 63 = .ok (.aload_n 0, 1) := by decide +kernel
theorem dX7_add_64 : decode cX7_add 64 = .ok (.getfield 24, 3) := by decide +kernel
theorem dX7_add_67 : decode cX7_add 67 = .ok (.iconst 1, 1) := by decide +kernel
theorem dX7_add_68 : decode cX7_add 68 = .ok (.isub, 1) := by decide +kernel
theorem dX7_add_69 : decode cX7_add 69 = .ok (.ireturn, 1) := by decide +kernel
theorem dX7_code_0 : decode cX7_code 0 = .ok (.aload_n 0, 1) := by decide +kernel
theorem dX7_code_1 : decode cX7_code 1 = .ok (.getfield 9, 3) := by decide +kernel
theorem dX7_code_4 : decode cX7_code 4 = .ok (.iload_n 1, 1) := by decide +kernel
theorem dX7_code_5 : decode cX7_code 5 = .ok (.iaload, 1) := by decide +kernel
theorem dX7_code_6 : decode cX7_code 6 = .ok (.ireturn, 1) := by decide +kernel
theorem dX7_first_0 : decode cX7_first 0 = .ok (.aload_n 0, 1) := by decide +kernel
theorem dX7_first_1 : decode cX7_first 1 = .ok (.getfield 15, 3) := by decide +kernel
theorem dX7_first_4 : decode cX7_first 4 = .ok (.iload_n 1, 1) := by decide +kernel
theorem dX7_first_5 : decode cX7_first 5 = .ok (.iaload, 1) := by decide +kernel
theorem dX7_first_6 : decode cX7_first 6 = .ok (.ireturn, 1) := by decide +kernel
theorem dX7_second_0 : decode cX7_second 0 = .ok (.aload_n 0, 1) := by decide +kernel
theorem dX7_second_1 : decode cX7_second 1 = .ok (.getfield 18, 3) := by decide +kernel
theorem dX7_second_4 : decode cX7_second 4 = .ok (.iload_n 1, 1) := by decide +kernel
theorem dX7_second_5 : decode cX7_second 5 = .ok (.iaload, 1) := by decide +kernel
theorem dX7_second_6 : decode cX7_second 6 = .ok (.ireturn, 1) := by decide +kernel
theorem dX7_third_0 : decode cX7_third 0 = .ok (.aload_n 0, 1) := by decide +kernel
theorem dX7_third_1 : decode cX7_third 1 = .ok (.getfield 21, 3) := by decide +kernel
theorem dX7_third_4 : decode cX7_third 4 = .ok (.iload_n 1, 1) := by decide +kernel
theorem dX7_third_5 : decode cX7_third 5 = .ok (.iaload, 1) := by decide +kernel
theorem dX7_third_6 : decode cX7_third 6 = .ok (.ireturn, 1) := by decide +kernel
theorem dX8_init_0 : decode cX8_init 0 = .ok (.aload_n 0, 1) := by decide +kernel
theorem dX8_init_1 : decode cX8_init 1 = .ok (.invokespecial 3, 3) := by decide +kernel
theorem dX8_init_4 : decode cX8_init 4 = .ok (.aload_n 0, 1) := by decide +kernel
theorem dX8_init_5 : decode cX8_init 5 = .ok (.bipush 6, 2) := by decide +kernel
theorem dX8_init_7 : decode cX8_init 7 = .ok (.newarray .int, 2) := by decide +kernel
theorem dX8_init_9 : decode cX8_init 9 = .ok (.putfield 9, 3) := by decide +kernel
theorem dX8_init_12 : decode cX8_init 12 = .ok (.aload_n 0, 1) := by decide +kernel
theorem dX8_init_13 : decode cX8_init 13 = .ok (.bipush 6, 2) := by decide +kernel
theorem dX8_init_15 : decode cX8_init 15 = .ok (.newarray .int, 2) := by decide +kernel
theorem dX8_init_17 : decode cX8_init 17 = .ok (.putfield 15, 3) := by decide +kernel
theorem dX8_init_20 : decode cX8_init 20 = .ok (.aload_n 0, 1) := by decide +kernel
theorem dX8_init_21 : decode cX8_init 21 = .ok (.iconst 0, 1) := by decide +kernel
theorem dX8_init_22 : decode cX8_init 22 = .ok (.putfield 18, 3) := by decide +kernel
theorem dX8_init_25 : decode cX8_init 25 = .ok (.aload_n 0, 1) := by decide +kernel
theorem dX8_init_26 : decode cX8_init 26 = .ok (.iconst 0, 1) := by decide +kernel
theorem dX8_init_27 : decode cX8_init 27 = .ok (.putfield 22, 3) := by decide +kernel
theorem dX8_init_30 : decode cX8_init 30 = .ok (.aload_n 0, 1) := by decide +kernel
theorem dX8_init_31 : decode cX8_init 31 = .ok (.iconst (-1), 1) := by decide +kernel
theorem dX8_init_32 : decode cX8_init 32 = .ok (.putfield 25, 3) := by decide +kernel
theorem dX8_init_35 : decode cX8_init 35 = .ok (.aload_n 0, 1) := by decide +kernel
theorem dX8_init_36 : decode cX8_init 36 = .ok (.iconst 0, 1) := by decide +kernel
theorem dX8_init_37 : decode cX8_init 37 = .ok (.putfield 28, 3) := by decide +kernel
theorem dX8_init_40 : decode cX8_init 40 = .ok (.aload_n 0, 1) := by decide +kernel
theorem dX8_init_41 : decode cX8_init 41 = .ok (.aload_n 1, 1) := by decide +kernel
theorem dX8_init_42 : decode cX8_init 42 = .ok (.putfield 31, 3) := by decide +kernel
theorem dX8_init_45 : decode cX8_init 45 = .ok (.aload_n 0, 1) := by decide +kernel
theorem dX8_init_46 : decode cX8_init 46 = .ok (.aload_n 2, 1) := by decide +kernel
theorem dX8_init_47 : decode cX8_init 47 = .ok (.putfield 35, 3) := by decide +kernel
theorem dX8_init_50 : decode cX8_init 50 = .ok (.aload_n 0, 1) := by decide +kernel
theorem dX8_init_51 : decode cX8_init 51 = .ok (.aload_n 3, 1) := by decide +kernel
theorem dX8_init_52 : decode cX8_init 52 = .ok (.putfield 39, 3) := by decide +kernel
theorem dX8_init_55 : decode cX8_init 55 = .ok (.aload_n 0, 1) := by decide +kernel
theorem dX8_init_56 : decode cX8_init 56 = .ok (.aload 4, 2) := by decide +kernel
theorem dX8_init_58 : decode cX8_init 58 = .ok (.putfield 43, 3) := by decide +kernel
theorem dX8_init_61 : decode cX8_init 61 = .ok (.aload_n 0, 1) := by decide +kernel
theorem dX8_init_62 : decode cX8_init 62 = .ok (.aload 5, 2) := by decide +kernel
theorem dX8_init_64 : decode cX8_init 64 = .ok (.putfield 47, 3) := by decide +kernel
theorem dX8_init_67 : decode cX8_init 67 = .ok (.return_, 1) := by decide +kernel
theorem dX8_outcome_0 : decode cX8_outcome 0 = .ok (.aload_n 0, 1) := by decide +kernel
theorem dX8_outcome_1 : decode cX8_outcome 1 = .ok (.getfield 22, 3) := by decide +kernel
theorem dX8_outcome_4 : decode cX8_outcome 4 = .ok (.ireturn, 1) := by decide +kernel
theorem dX8_failedNode_0 : decode cX8_failedNode 0 = .ok (.aload_n 0, 1) := by decide +kernel
theorem dX8_failedNode_1 : decode cX8_failedNode 1 = .ok (.getfield 18, 3) := by decide +kernel
theorem dX8_failedNode_4 : decode cX8_failedNode 4 = .ok (.iconst 3, 1) := by decide +kernel
theorem dX8_failedNode_5 : decode cX8_failedNode 5 = .ok (.if_icmp .ne 10, 3) := by decide +kernel
theorem dX8_failedNode_8 : decode cX8_failedNode 8 = .ok (.aload_n 0, 1) := by decide +kernel
theorem dX8_failedNode_9 : decode cX8_failedNode 9 = .ok (.getfield 25, 3) := by decide +kernel
theorem dX8_failedNode_12 : decode cX8_failedNode 12 = .ok (.goto 4, 3) := by decide +kernel
theorem dX8_failedNode_15 : decode cX8_failedNode 15 = .ok (.iconst (-1), 1) := by decide +kernel
theorem dX8_failedNode_16 : decode cX8_failedNode 16 = .ok (.ireturn, 1) := by decide +kernel
theorem dX8_steps_0 : decode cX8_steps 0 = .ok (.aload_n 0, 1) := by decide +kernel
theorem dX8_steps_1 : decode cX8_steps 1 = .ok (.getfield 28, 3) := by decide +kernel
theorem dX8_steps_4 : decode cX8_steps 4 = .ok (.ireturn, 1) := by decide +kernel
theorem dX8_perform_0 : decode cX8_perform 0 = .ok (.aload_n 0, 1) := by decide +kernel
theorem dX8_perform_1 : decode cX8_perform 1 = .ok (.getfield 9, 3) := by decide +kernel
theorem dX8_perform_4 : decode cX8_perform 4 = .ok (.iconst 0, 1) := by decide +kernel
theorem dX8_perform_5 : decode cX8_perform 5 = .ok (.invokestatic 51, 3) := by decide +kernel
theorem dX8_perform_8 : decode cX8_perform 8 = .ok (.aload_n 0, 1) := by decide +kernel
theorem dX8_perform_9 : decode cX8_perform 9 = .ok (.getfield 15, 3) := by decide +kernel
theorem dX8_perform_12 : decode cX8_perform 12 = .ok (.iconst 0, 1) := by decide +kernel
theorem dX8_perform_13 : decode cX8_perform 13 = .ok (.invokestatic 51, 3) := by decide +kernel
theorem dX8_perform_16 : decode cX8_perform 16 = .ok (.aload_n 0, 1) := by decide +kernel
theorem dX8_perform_17 : decode cX8_perform 17 = .ok (.getfield 39, 3) := by decide +kernel
theorem dX8_perform_20 : decode cX8_perform 20 = .ok (.invokevirtual 57, 3) := by decide +kernel
theorem dX8_perform_23 : decode cX8_perform 23 = .ok (.aload_n 0, 1) := by decide +kernel
theorem dX8_perform_24 : decode cX8_perform 24 = .ok (.getfield 43, 3) := by decide +kernel
theorem dX8_perform_27 : decode cX8_perform 27 = .ok (.invokevirtual 62, 3) := by decide +kernel
theorem dX8_perform_30 : decode cX8_perform 30 = .ok (.aload_n 0, 1) := by decide +kernel
theorem dX8_perform_31 : decode cX8_perform 31 = .ok (.getfield 47, 3) := by decide +kernel
theorem dX8_perform_34 : decode cX8_perform 34 = .ok (.invokevirtual 65, 3) := by decide +kernel
theorem dX8_perform_37 : decode cX8_perform 37 = .ok (.aload_n 0, 1) := by decide +kernel
theorem dX8_perform_38 : decode cX8_perform 38 = .ok (.iconst 0, 1) := by decide +kernel
theorem dX8_perform_39 : decode cX8_perform 39 = .ok (.putfield 28, 3) := by decide +kernel
theorem dX8_perform_42 : decode cX8_perform 42 = .ok (.aload_n 0, 1) := by decide +kernel
theorem dX8_perform_43 : decode cX8_perform 43 = .ok (.iload_n 1, 1) := by decide +kernel
theorem dX8_perform_44 : decode cX8_perform 44 = .ok (.iconst 1, 1) := by decide +kernel
theorem dX8_perform_45 : decode cX8_perform 45 = .ok (.invokevirtual 68, 3) := by decide +kernel
theorem dX8_perform_48 : decode cX8_perform 48 = .ok (.pop, 1) := by decide +kernel
theorem dX8_perform_49 : decode cX8_perform 49 = .ok (.aload_n 0, 1) := by decide +kernel
theorem dX8_perform_50 : decode cX8_perform 50 = .ok (.getfield 39, 3) := by decide +kernel
theorem dX8_perform_53 : decode cX8_perform 53 = .ok (.invokevirtual 72, 3) := by decide +kernel
theorem dX8_perform_56 : decode cX8_perform 56 = .ok (.aload_n 0, 1) := by decide +kernel
theorem dX8_perform_57 : decode cX8_perform 57 = .ok (.getfield 18, 3) := by decide +kernel
theorem dX8_perform_60 : decode cX8_perform 60 = .ok (.ireturn, 1) := by decide +kernel
theorem dX8_work_0 : decode cX8_work 0 = .ok (.aload_n 0, 1) := by decide +kernel
theorem dX8_work_1 : decode cX8_work 1 = .ok (.getfield 28, 3) := by decide +kernel
theorem dX8_work_4 : decode cX8_work 4 = .ok (.sipush 600, 3) := by decide +kernel
theorem dX8_work_7 : decode cX8_work 7 = .ok (.if_icmp .ge 9, 3) := by decide +kernel
theorem dX8_work_10 : decode cX8_work 10 = .ok (.iload_n 2, 1) := by decide +kernel
theorem dX8_work_11 : decode cX8_work 11 = .ok (.bipush 60, 2) := by decide +kernel
theorem dX8_work_13 : decode cX8_work 13 = .ok (.if_icmp .le 8, 3) := by decide +kernel
theorem dX8_work_16 : decode cX8_work 16 = .ok (.aload_n 0, 1) := by decide +kernel
theorem dX8_work_17 : decode cX8_work 17 = .ok (.invokevirtual 75, 3) := by decide +kernel
theorem dX8_work_20 : decode cX8_work 20 = .ok (.ireturn, 1) := by decide +kernel
theorem dX8_work_21 : decode cX8_work 21 = .ok (.aload_n 0, 1) := by decide +kernel
theorem dX8_work_22 : decode cX8_work 22 = .ok (.dup, 1) := by decide +kernel
theorem dX8_work_23 : decode cX8_work 23 = .ok (.getfield 28, 3) := by decide +kernel
theorem dX8_work_26 : decode cX8_work 26 = .ok (.iconst 1, 1) := by decide +kernel
theorem dX8_work_27 : decode cX8_work 27 = .ok (.iadd, 1) := by decide +kernel
theorem dX8_work_28 : decode cX8_work 28 = .ok (.putfield 28, 3) := by decide +kernel
theorem dX8_work_31 : decode cX8_work 31 = .ok (.aload_n 0, 1) := by decide +kernel
theorem dX8_work_32 : decode cX8_work 32 = .ok (.getfield 31, 3) := by decide +kernel
theorem dX8_work_35 : decode cX8_work 35 = .ok (.iload_n 1, 1) := by decide +kernel
theorem dX8_work_36 : decode cX8_work 36 = .ok (.invokevirtual 79, 3) := by decide +kernel
theorem dX8_work_39 : decode cX8_work 39 = .ok (.tableswitch 322 0 28 #[129, 143, 174, 202, 322, 181, 322, 322, 188, 195, 181, 322, 322, 322, 322, 202, 202, 208, 202, 215, 208, 257, 257, 208, 264, 208, 278, 285, 315], 129) := by decide +kernel
theorem dX8_work_168 : decode cX8_work 168 = .ok (.aload_n 0, 1) := by decide +kernel
theorem dX8_work_169 : decode cX8_work 169 = .ok (.iconst 0, 1) := by decide +kernel
theorem dX8_work_170 : decode cX8_work 170 = .ok (.aload_n 0, 1) := by decide +kernel
theorem dX8_work_171 : decode cX8_work 171 = .ok (.getfield 31, 3) := by decide +kernel
theorem dX8_work_174 : decode cX8_work 174 = .ok (.iload_n 1, 1) := by decide +kernel
theorem dX8_work_175 : decode cX8_work 175 = .ok (.invokevirtual 85, 3) := by decide +kernel
theorem dX8_work_178 : decode cX8_work 178 = .ok (.invokevirtual 88, 3) := by decide +kernel
theorem dX8_work_181 : decode cX8_work 181 = .ok (.ireturn, 1) := by decide +kernel
theorem dX8_work_182 : decode cX8_work 182 = .ok (.aload_n 0, 1) := by decide +kernel
theorem dX8_work_183 : decode cX8_work 183 = .ok (.aload_n 0, 1) := by decide +kernel
theorem dX8_work_184 : decode cX8_work 184 = .ok (.getfield 9, 3) := by decide +kernel
theorem dX8_work_187 : decode cX8_work 187 = .ok (.aload_n 0, 1) := by decide +kernel
theorem dX8_work_188 : decode cX8_work 188 = .ok (.getfield 31, 3) := by decide +kernel
theorem dX8_work_191 : decode cX8_work 191 = .ok (.iload_n 1, 1) := by decide +kernel
theorem dX8_work_192 : decode cX8_work 192 = .ok (.invokevirtual 85, 3) := by decide +kernel
theorem dX8_work_195 : decode cX8_work 195 = .ok (.iaload, 1) := by decide +kernel
theorem dX8_work_196 : decode cX8_work 196 = .ok (.aload_n 0, 1) := by decide +kernel
theorem dX8_work_197 : decode cX8_work 197 = .ok (.getfield 15, 3) := by decide +kernel
theorem dX8_work_200 : decode cX8_work 200 = .ok (.aload_n 0, 1) := by decide +kernel
theorem dX8_work_201 : decode cX8_work 201 = .ok (.getfield 31, 3) := by decide +kernel
theorem dX8_work_204 : decode cX8_work 204 = .ok (.iload_n 1, 1) := by decide +kernel
theorem dX8_work_205 : decode cX8_work 205 = .ok (.invokevirtual 85, 3) := by decide +kernel
theorem dX8_work_208 : decode cX8_work 208 = .ok (.iaload, 1) := by decide +kernel
theorem dX8_work_209 : decode cX8_work 209 = .ok (.invokevirtual 88, 3) := by decide +kernel
theorem dX8_work_212 : decode cX8_work 212 = .ok (.ireturn, 1) := by decide +kernel
theorem dX8_work_213 : decode cX8_work 213 = .ok (.aload_n 0, 1) := by decide +kernel
theorem dX8_work_214 : decode cX8_work 214 = .ok (.iload_n 1, 1) := by decide +kernel
theorem dX8_work_215 : decode cX8_work 215 = .ok (.iload_n 2, 1) := by decide +kernel
theorem dX8_work_216 : decode cX8_work 216 = .ok (.invokevirtual 91, 3) := by decide +kernel
theorem dX8_work_219 : decode cX8_work 219 = .ok (.ireturn, 1) := by decide +kernel
theorem dX8_work_220 : decode cX8_work 220 = .ok (.aload_n 0, 1) := by decide +kernel
theorem dX8_work_221 : decode cX8_work 221 = .ok (.iload_n 1, 1) := by decide +kernel
theorem dX8_work_222 : decode cX8_work 222 = .ok (.iload_n 2, 1) := by decide +kernel
theorem dX8_work_223 : decode cX8_work 223 = .ok (.invokevirtual 94, 3) := by decide +kernel
theorem dX8_work_226 : decode cX8_work 226 = .ok (.ireturn, 1) := by decide +kernel
theorem dX8_work_227 : decode cX8_work 227 = .ok (.aload_n 0, 1) := by decide +kernel
theorem dX8_work_228 : decode cX8_work 228 = .ok (.iload_n 1, 1) := by decide +kernel
theorem dX8_work_229 : decode cX8_work 229 = .ok (.iload_n 2, 1) := by decide +kernel
theorem dX8_work_230 : decode cX8_work 230 = .ok (.invokevirtual 97, 3) := by decide +kernel
theorem dX8_work_233 : decode cX8_work 233 = .ok (.ireturn, 1) := by decide +kernel
theorem dX8_work_234 : decode cX8_work 234 = .ok (.aload_n 0, 1) := by decide +kernel
theorem dX8_work_235 : decode cX8_work 235 = .ok (.iload_n 1, 1) := by decide +kernel
theorem dX8_work_236 : decode cX8_work 236 = .ok (.iload_n 2, 1) := by decide +kernel
theorem dX8_work_237 : decode cX8_work 237 = .ok (.invokevirtual 100, 3) := by decide +kernel
theorem dX8_work_240 : decode cX8_work 240 = .ok (.ireturn, 1) := by decide +kernel
theorem dX8_work_241 : decode cX8_work 241 = .ok (.aload_n 0, 1) := by decide +kernel
theorem dX8_work_242 : decode cX8_work 242 = .ok (.iload_n 1, 1) := by decide +kernel
theorem dX8_work_243 : decode cX8_work 243 = .ok (.invokevirtual 103, 3) := by decide +kernel
theorem dX8_work_246 : decode cX8_work 246 = .ok (.ireturn, 1) := by decide +kernel
end
section
theorem dX8_work_247 : decode cX8_work 247 = .ok (.aload_n 0, 1) := by decide +kernel
theorem dX8_work_248 : decode cX8_work 248 = .ok (.iload_n 1, 1) := by decide +kernel
theorem dX8_work_249 : decode cX8_work 249 = .ok (.iload_n 2, 1) := by decide +kernel
theorem dX8_work_250 : decode cX8_work 250 = .ok (.invokevirtual 107, 3) := by decide +kernel
theorem dX8_work_253 : decode cX8_work 253 = .ok (.ireturn, 1) := by decide +kernel
theorem dX8_work_254 : decode cX8_work 254 = .ok (.aload_n 0, 1) := by decide +kernel
theorem dX8_work_255 : decode cX8_work 255 = .ok (.aload_n 0, 1) := by decide +kernel
theorem dX8_work_256 : decode cX8_work 256 = .ok (.getfield 31, 3) := by decide +kernel
theorem dX8_work_259 : decode cX8_work 259 = .ok (.iload_n 1, 1) := by decide +kernel
theorem dX8_work_260 : decode cX8_work 260 = .ok (.invokevirtual 85, 3) := by decide +kernel
theorem dX8_work_263 : decode cX8_work 263 = .ok (.iload_n 2, 1) := by decide +kernel
theorem dX8_work_264 : decode cX8_work 264 = .ok (.iconst 1, 1) := by decide +kernel
theorem dX8_work_265 : decode cX8_work 265 = .ok (.iadd, 1) := by decide +kernel
theorem dX8_work_266 : decode cX8_work 266 = .ok (.invokevirtual 68, 3) := by decide +kernel
theorem dX8_work_269 : decode cX8_work 269 = .ok (.ifCond .eq 25, 3) := by decide +kernel
theorem dX8_work_272 : decode cX8_work 272 = .ok (.aload_n 0, 1) := by decide +kernel
theorem dX8_work_273 : decode cX8_work 273 = .ok (.aload_n 0, 1) := by decide +kernel
theorem dX8_work_274 : decode cX8_work 274 = .ok (.getfield 31, 3) := by decide +kernel
theorem dX8_work_277 : decode cX8_work 277 = .ok (.iload_n 1, 1) := by decide +kernel
theorem dX8_work_278 : decode cX8_work 278 = .ok (.invokevirtual 110, 3) := by decide +kernel
theorem dX8_work_281 : decode cX8_work 281 = .ok (.iload_n 2, 1) := by decide +kernel
theorem dX8_work_282 : decode cX8_work 282 = .ok (.iconst 1, 1) := by decide +kernel
theorem dX8_work_283 : decode cX8_work 283 = .ok (.iadd, 1) := by decide +kernel
theorem dX8_work_284 : decode cX8_work 284 = .ok (.invokevirtual 68, 3) := by decide +kernel
theorem dX8_work_287 : decode cX8_work 287 = .ok (.ifCond .eq 7, 3) := by decide +kernel
theorem dX8_work_290 : decode cX8_work 290 = .ok (.iconst 1, 1) := by decide +kernel
theorem dX8_work_291 : decode cX8_work 291 = .ok (.goto 4, 3) := by decide +kernel
theorem dX8_work_294 : decode cX8_work 294 = .ok (.iconst 0, 1) := by decide +kernel
theorem dX8_work_295 : decode cX8_work 295 = .ok (.ireturn, 1) := by decide +kernel
theorem dX8_work_296 : decode cX8_work 296 = .ok (.aload_n 0, 1) := by decide +kernel
theorem dX8_work_297 : decode cX8_work 297 = .ok (.iload_n 1, 1) := by decide +kernel
theorem dX8_work_298 : decode cX8_work 298 = .ok (.iload_n 2, 1) := by decide +kernel
theorem dX8_work_299 : decode cX8_work 299 = .ok (.invokevirtual 113, 3) := by decide +kernel
theorem dX8_work_302 : decode cX8_work 302 = .ok (.ireturn, 1) := by decide +kernel
theorem dX8_work_303 : decode cX8_work 303 = .ok (.aload_n 0, 1) := by decide +kernel
theorem dX8_work_304 : decode cX8_work 304 = .ok (.aload_n 0, 1) := by decide +kernel
theorem dX8_work_305 : decode cX8_work 305 = .ok (.getfield 31, 3) := by decide +kernel
theorem dX8_work_308 : decode cX8_work 308 = .ok (.iload_n 1, 1) := by decide +kernel
theorem dX8_work_309 : decode cX8_work 309 = .ok (.invokevirtual 85, 3) := by decide +kernel
theorem dX8_work_312 : decode cX8_work 312 = .ok (.iload_n 1, 1) := by decide +kernel
theorem dX8_work_313 : decode cX8_work 313 = .ok (.invokevirtual 116, 3) := by decide +kernel
theorem dX8_work_316 : decode cX8_work 316 = .ok (.ireturn, 1) := by decide +kernel
theorem dX8_work_317 : decode cX8_work 317 = .ok (.aload_n 0, 1) := by decide +kernel
theorem dX8_work_318 : decode cX8_work 318 = .ok (.iload_n 1, 1) := by decide +kernel
theorem dX8_work_319 : decode cX8_work 319 = .ok (.iload_n 2, 1) := by decide +kernel
theorem dX8_work_320 : decode cX8_work 320 = .ok (.invokevirtual 119, 3) := by decide +kernel
theorem dX8_work_323 : decode cX8_work 323 = .ok (.ireturn, 1) := by decide +kernel
theorem dX8_work_324 : decode cX8_work 324 = .ok (.aload_n 0, 1) := by decide +kernel
theorem dX8_work_325 : decode cX8_work 325 = .ok (.aload_n 0, 1) := by decide +kernel
theorem dX8_work_326 : decode cX8_work 326 = .ok (.getfield 31, 3) := by decide +kernel
theorem dX8_work_329 : decode cX8_work 329 = .ok (.iload_n 1, 1) := by decide +kernel
theorem dX8_work_330 : decode cX8_work 330 = .ok (.invokevirtual 85, 3) := by decide +kernel
theorem dX8_work_333 : decode cX8_work 333 = .ok (.iload_n 2, 1) := by decide +kernel
theorem dX8_work_334 : decode cX8_work 334 = .ok (.iconst 1, 1) := by decide +kernel
theorem dX8_work_335 : decode cX8_work 335 = .ok (.iadd, 1) := by decide +kernel
theorem dX8_work_336 : decode cX8_work 336 = .ok (.invokevirtual 68, 3) := by decide +kernel
theorem dX8_work_339 : decode cX8_work 339 = .ok (.pop, 1) := by decide +kernel
theorem dX8_work_340 : decode cX8_work 340 = .ok (.aload_n 0, 1) := by decide +kernel
theorem dX8_work_341 : decode cX8_work 341 = .ok (.aload_n 0, 1) := by decide +kernel
theorem dX8_work_342 : decode cX8_work 342 = .ok (.getfield 31, 3) := by decide +kernel
theorem dX8_work_345 : decode cX8_work 345 = .ok (.iload_n 1, 1) := by decide +kernel
theorem dX8_work_346 : decode cX8_work 346 = .ok (.invokevirtual 110, 3) := by decide +kernel
theorem dX8_work_349 : decode cX8_work 349 = .ok (.iload_n 2, 1) := by decide +kernel
theorem dX8_work_350 : decode cX8_work 350 = .ok (.invokevirtual 122, 3) := by decide +kernel
theorem dX8_work_353 : decode cX8_work 353 = .ok (.ireturn, 1) := by decide +kernel
theorem dX8_work_354 : decode cX8_work 354 = .ok (.aload_n 0, 1) := by decide +kernel
theorem dX8_work_355 : decode cX8_work 355 = .ok (.iload_n 1, 1) := by decide +kernel
theorem dX8_work_356 : decode cX8_work 356 = .ok (.iload_n 2, 1) := by decide +kernel
theorem dX8_work_357 : decode cX8_work 357 = .ok (.invokevirtual 125, 3) := by decide +kernel
theorem dX8_work_360 : decode cX8_work 360 = .ok (.ireturn, 1) := by decide +kernel
theorem dX8_work_361 : decode cX8_work 361 = .ok (.aload_n 0, 1) := by decide +kernel
theorem dX8_work_362 : decode cX8_work 362 = .ok (.iload_n 1, 1) := by decide +kernel
theorem dX8_work_363 : decode cX8_work 363 = .ok (.iload_n 2, 1) := by decide +kernel
theorem dX8_work_364 : decode cX8_work 364 = .ok (.invokevirtual 128, 3) := by decide +kernel
theorem dX8_work_367 : decode cX8_work 367 = .ok (.ireturn, 1) := by decide +kernel
theorem dX8_give_0 : decode cX8_give 0 = .ok (.aload_n 0, 1) := by decide +kernel
theorem dX8_give_1 : decode cX8_give 1 = .ok (.iload_n 1, 1) := by decide +kernel
theorem dX8_give_2 : decode cX8_give 2 = .ok (.putfield 18, 3) := by decide +kernel
theorem dX8_give_5 : decode cX8_give 5 = .ok (.aload_n 0, 1) := by decide +kernel
theorem dX8_give_6 : decode cX8_give 6 = .ok (.iload_n 2, 1) := by decide +kernel
theorem dX8_give_7 : decode cX8_give 7 = .ok (.putfield 22, 3) := by decide +kernel
theorem dX8_give_10 : decode cX8_give 10 = .ok (.iconst 1, 1) := by decide +kernel
theorem dX8_give_11 : decode cX8_give 11 = .ok (.ireturn, 1) := by decide +kernel
theorem dX8_fail_0 : decode cX8_fail 0 = .ok (.aload_n 0, 1) := by decide +kernel
theorem dX8_fail_1 : decode cX8_fail 1 = .ok (.iconst 3, 1) := by decide +kernel
theorem dX8_fail_2 : decode cX8_fail 2 = .ok (.putfield 18, 3) := by decide +kernel
theorem dX8_fail_5 : decode cX8_fail 5 = .ok (.aload_n 0, 1) := by decide +kernel
theorem dX8_fail_6 : decode cX8_fail 6 = .ok (.iload_n 1, 1) := by decide +kernel
theorem dX8_fail_7 : decode cX8_fail 7 = .ok (.putfield 22, 3) := by decide +kernel
theorem dX8_fail_10 : decode cX8_fail 10 = .ok (.aload_n 0, 1) := by decide +kernel
theorem dX8_fail_11 : decode cX8_fail 11 = .ok (.iload_n 2, 1) := by decide +kernel
theorem dX8_fail_12 : decode cX8_fail 12 = .ok (.putfield 25, 3) := by decide +kernel
theorem dX8_fail_15 : decode cX8_fail 15 = .ok (.iconst 0, 1) := by decide +kernel
theorem dX8_fail_16 : decode cX8_fail 16 = .ok (.ireturn, 1) := by decide +kernel
theorem dX8_stop_0 : decode cX8_stop 0 = .ok (.aload_n 0, 1) := by decide +kernel
theorem dX8_stop_1 : decode cX8_stop 1 = .ok (.iconst 5, 1) := by decide +kernel
theorem dX8_stop_2 : decode cX8_stop 2 = .ok (.putfield 18, 3) := by decide +kernel
theorem dX8_stop_5 : decode cX8_stop 5 = .ok (.aload_n 0, 1) := by decide +kernel
theorem dX8_stop_6 : decode cX8_stop 6 = .ok (.iconst 0, 1) := by decide +kernel
theorem dX8_stop_7 : decode cX8_stop 7 = .ok (.putfield 22, 3) := by decide +kernel
theorem dX8_stop_10 : decode cX8_stop 10 = .ok (.iconst 0, 1) := by decide +kernel
theorem dX8_stop_11 : decode cX8_stop 11 = .ok (.ireturn, 1) := by decide +kernel
theorem dX8_settle_0 : decode cX8_settle 0 = .ok (.iload_n 3, 1) := by decide +kernel
theorem dX8_settle_1 : decode cX8_settle 1 = .ok (.ifCond .ge 15, 3) := by decide +kernel
theorem dX8_settle_4 : decode cX8_settle 4 = .ok (.aload_n 0, 1) := by decide +kernel
theorem dX8_settle_5 : decode cX8_settle 5 = .ok (.iload_n 3, 1) := by decide +kernel
theorem dX8_settle_6 : decode cX8_settle 6 = .ok (.invokestatic 131, 3) := by decide +kernel
theorem dX8_settle_9 : decode cX8_settle 9 = .ok (.iload_n 1, 1) := by decide +kernel
theorem dX8_settle_10 : decode cX8_settle 10 = .ok (.invokevirtual 116, 3) := by decide +kernel
theorem dX8_settle_13 : decode cX8_settle 13 = .ok (.goto 9, 3) := by decide +kernel
theorem dX8_settle_16 : decode cX8_settle 16 = .ok (.aload_n 0, 1) := by decide +kernel
theorem dX8_settle_17 : decode cX8_settle 17 = .ok (.iload_n 2, 1) := by decide +kernel
theorem dX8_settle_18 : decode cX8_settle 18 = .ok (.iload_n 3, 1) := by decide +kernel
theorem dX8_settle_19 : decode cX8_settle 19 = .ok (.invokevirtual 88, 3) := by decide +kernel
theorem dX8_settle_22 : decode cX8_settle 22 = .ok (.ireturn, 1) := by decide +kernel
theorem dX8_act_0 : decode cX8_act 0 = .ok (.iload_n 3, 1) := by decide +kernel
theorem dX8_act_1 : decode cX8_act 1 = .ok (.ifCond .lt 11, 3) := by decide +kernel
theorem dX8_act_4 : decode cX8_act 4 = .ok (.aload_n 0, 1) := by decide +kernel
theorem dX8_act_5 : decode cX8_act 5 = .ok (.getfield 47, 3) := by decide +kernel
theorem dX8_act_8 : decode cX8_act 8 = .ok (.iload_n 1, 1) := by decide +kernel
theorem dX8_act_9 : decode cX8_act 9 = .ok (.invokevirtual 134, 3) := by decide +kernel
theorem dX8_act_12 : decode cX8_act 12 = .ok (.aload_n 0, 1) := by decide +kernel
theorem dX8_act_13 : decode cX8_act 13 = .ok (.iload_n 1, 1) := by decide +kernel
theorem dX8_act_14 : decode cX8_act 14 = .ok (.iload_n 2, 1) := by decide +kernel
theorem dX8_act_15 : decode cX8_act 15 = .ok (.iload_n 3, 1) := by decide +kernel
theorem dX8_act_16 : decode cX8_act 16 = .ok (.invokevirtual 138, 3) := by decide +kernel
theorem dX8_act_19 : decode cX8_act 19 = .ok (.ireturn, 1) := by decide +kernel
theorem dX8_workToNumber_0 : decode cX8_workToNumber 0 = .ok (.aload_n 0, 1) := by decide +kernel
theorem dX8_workToNumber_1 : decode cX8_workToNumber 1 = .ok (.iload_n 1, 1) := by decide +kernel
theorem dX8_workToNumber_2 : decode cX8_workToNumber 2 = .ok (.iload_n 3, 1) := by decide +kernel
theorem dX8_workToNumber_3 : decode cX8_workToNumber 3 = .ok (.iconst 1, 1) := by decide +kernel
theorem dX8_workToNumber_4 : decode cX8_workToNumber 4 = .ok (.iadd, 1) := by decide +kernel
theorem dX8_workToNumber_5 : decode cX8_workToNumber 5 = .ok (.invokevirtual 68, 3) := by decide +kernel
theorem dX8_workToNumber_8 : decode cX8_workToNumber 8 = .ok (.ifCond .eq 23, 3) := by decide +kernel
theorem dX8_workToNumber_11 : decode cX8_workToNumber 11 = .ok (.aload_n 0, 1) := by decide +kernel
theorem dX8_workToNumber_12 : decode cX8_workToNumber 12 = .ok (.getfield 18, 3) := by decide +kernel
theorem dX8_workToNumber_15 : decode cX8_workToNumber 15 = .ok (.ifCond .eq 12, 3) := by decide +kernel
theorem dX8_workToNumber_18 : decode cX8_workToNumber 18 = .ok (.aload_n 0, 1) := by decide +kernel
theorem dX8_workToNumber_19 : decode cX8_workToNumber 19 = .ok (.iconst 4, 1) := by decide +kernel
theorem dX8_workToNumber_20 : decode cX8_workToNumber 20 = .ok (.iload_n 2, 1) := by decide +kernel
theorem dX8_workToNumber_21 : decode cX8_workToNumber 21 = .ok (.invokevirtual 116, 3) := by decide +kernel
theorem dX8_workToNumber_24 : decode cX8_workToNumber 24 = .ok (.ifCond .eq 7, 3) := by decide +kernel
theorem dX8_workToNumber_27 : decode cX8_workToNumber 27 = .ok (.iconst 1, 1) := by decide +kernel
theorem dX8_workToNumber_28 : decode cX8_workToNumber 28 = .ok (.goto 4, 3) := by decide +kernel
theorem dX8_workToNumber_31 : decode cX8_workToNumber 31 = .ok (.iconst 0, 1) := by decide +kernel
theorem dX8_workToNumber_32 : decode cX8_workToNumber 32 = .ok (.ireturn, 1) := by decide +kernel
theorem dX8_workToHandle_0 : decode cX8_workToHandle 0 = .ok (.aload_n 0, 1) := by decide +kernel
theorem dX8_workToHandle_1 : decode cX8_workToHandle 1 = .ok (.iload_n 1, 1) := by decide +kernel
theorem dX8_workToHandle_2 : decode cX8_workToHandle 2 = .ok (.iload_n 3, 1) := by decide +kernel
theorem dX8_workToHandle_3 : decode cX8_workToHandle 3 = .ok (.iconst 1, 1) := by decide +kernel
theorem dX8_workToHandle_4 : decode cX8_workToHandle 4 = .ok (.iadd, 1) := by decide +kernel
theorem dX8_workToHandle_5 : decode cX8_workToHandle 5 = .ok (.invokevirtual 68, 3) := by decide +kernel
theorem dX8_workToHandle_8 : decode cX8_workToHandle 8 = .ok (.ifCond .ne 5, 3) := by decide +kernel
theorem dX8_workToHandle_11 : decode cX8_workToHandle 11 = .ok (.aconst_null, 1) := by decide +kernel
theorem dX8_workToHandle_12 : decode cX8_workToHandle 12 = .ok (.areturn, 1) := by decide +kernel
theorem dX8_workToHandle_13 : decode cX8_workToHandle 13 = .ok (.aload_n 0, 1) := by decide +kernel
theorem dX8_workToHandle_14 : decode cX8_workToHandle 14 = .ok (.getfield 18, 3) := by decide +kernel
theorem dX8_workToHandle_17 : decode cX8_workToHandle 17 = .ok (.iconst 1, 1) := by decide +kernel
theorem dX8_workToHandle_18 : decode cX8_workToHandle 18 = .ok (.if_icmp .ne 17, 3) := by decide +kernel
theorem dX8_workToHandle_21 : decode cX8_workToHandle 21 = .ok (.aload_n 0, 1) := by decide +kernel
theorem dX8_workToHandle_22 : decode cX8_workToHandle 22 = .ok (.getfield 39, 3) := by decide +kernel
theorem dX8_workToHandle_25 : decode cX8_workToHandle 25 = .ok (.aload_n 0, 1) := by decide +kernel
theorem dX8_workToHandle_26 : decode cX8_workToHandle 26 = .ok (.getfield 22, 3) := by decide +kernel
theorem dX8_workToHandle_29 : decode cX8_workToHandle 29 = .ok (.invokevirtual 142, 3) := by decide +kernel
theorem dX8_workToHandle_32 : decode cX8_workToHandle 32 = .ok (.goto 4, 3) := by decide +kernel
theorem dX8_workToHandle_35 : decode cX8_workToHandle 35 = .ok (.aconst_null, 1) := by decide +kernel
theorem dX8_workToHandle_36 : decode cX8_workToHandle 36 = .ok (.astore 4, 2) := by decide +kernel
theorem dX8_workToHandle_38 : decode cX8_workToHandle 38 = .ok (.aload 4, 2) := by decide +kernel
theorem dX8_workToHandle_40 : decode cX8_workToHandle 40 = .ok (.ifnonnull 10, 3) := by decide +kernel
theorem dX8_workToHandle_43 : decode cX8_workToHandle 43 = .ok (.aload_n 0, 1) := by decide +kernel
theorem dX8_workToHandle_44 : decode cX8_workToHandle 44 = .ok (.iconst 4, 1) := by decide +kernel
theorem dX8_workToHandle_45 : decode cX8_workToHandle 45 = .ok (.iload_n 2, 1) := by decide +kernel
theorem dX8_workToHandle_46 : decode cX8_workToHandle 46 = .ok (.invokevirtual 116, 3) := by decide +kernel
theorem dX8_workToHandle_49 : decode cX8_workToHandle 49 = .ok (.pop, 1) := by decide +kernel
theorem dX8_workToHandle_50 : decode cX8_workToHandle 50 = .ok (.aload 4, 2) := by decide +kernel
theorem dX8_workToHandle_52 : decode cX8_workToHandle 52 = .ok (.areturn, 1) := by decide +kernel
theorem dX8_workToList_0 : decode cX8_workToList 0 = .ok (.aload_n 0, 1) := by decide +kernel
theorem dX8_workToList_1 : decode cX8_workToList 1 = .ok (.iload_n 1, 1) := by decide +kernel
theorem dX8_workToList_2 : decode cX8_workToList 2 = .ok (.iload_n 3, 1) := by decide +kernel
theorem dX8_workToList_3 : decode cX8_workToList 3 = .ok (.iconst 1, 1) := by decide +kernel
theorem dX8_workToList_4 : decode cX8_workToList 4 = .ok (.iadd, 1) := by decide +kernel
theorem dX8_workToList_5 : decode cX8_workToList 5 = .ok (.invokevirtual 68, 3) := by decide +kernel
theorem dX8_workToList_8 : decode cX8_workToList 8 = .ok (.ifCond .ne 5, 3) := by decide +kernel
theorem dX8_workToList_11 : decode cX8_workToList 11 = .ok (.aconst_null, 1) := by decide +kernel
theorem dX8_workToList_12 : decode cX8_workToList 12 = .ok (.areturn, 1) := by decide +kernel
theorem dX8_workToList_13 : decode cX8_workToList 13 = .ok (.aload_n 0, 1) := by decide +kernel
theorem dX8_workToList_14 : decode cX8_workToList 14 = .ok (.getfield 18, 3) := by decide +kernel
theorem dX8_workToList_17 : decode cX8_workToList 17 = .ok (.iconst 2, 1) := by decide +kernel
theorem dX8_workToList_18 : decode cX8_workToList 18 = .ok (.if_icmp .ne 17, 3) := by decide +kernel
theorem dX8_workToList_21 : decode cX8_workToList 21 = .ok (.aload_n 0, 1) := by decide +kernel
theorem dX8_workToList_22 : decode cX8_workToList 22 = .ok (.getfield 43, 3) := by decide +kernel
theorem dX8_workToList_25 : decode cX8_workToList 25 = .ok (.aload_n 0, 1) := by decide +kernel
theorem dX8_workToList_26 : decode cX8_workToList 26 = .ok (.getfield 22, 3) := by decide +kernel
theorem dX8_workToList_29 : decode cX8_workToList 29 = .ok (.invokevirtual 146, 3) := by decide +kernel
theorem dX8_workToList_32 : decode cX8_workToList 32 = .ok (.goto 4, 3) := by decide +kernel
theorem dX8_workToList_35 : decode cX8_workToList 35 = .ok (.aconst_null, 1) := by decide +kernel
theorem dX8_workToList_36 : decode cX8_workToList 36 = .ok (.astore 4, 2) := by decide +kernel
theorem dX8_workToList_38 : decode cX8_workToList 38 = .ok (.aload 4, 2) := by decide +kernel
theorem dX8_workToList_40 : decode cX8_workToList 40 = .ok (.ifnonnull 10, 3) := by decide +kernel
theorem dX8_workToList_43 : decode cX8_workToList 43 = .ok (.aload_n 0, 1) := by decide +kernel
theorem dX8_workToList_44 : decode cX8_workToList 44 = .ok (.iconst 4, 1) := by decide +kernel
theorem dX8_workToList_45 : decode cX8_workToList 45 = .ok (.iload_n 2, 1) := by decide +kernel
theorem dX8_workToList_46 : decode cX8_workToList 46 = .ok (.invokevirtual 116, 3) := by decide +kernel
theorem dX8_workToList_49 : decode cX8_workToList 49 = .ok (.pop, 1) := by decide +kernel
theorem dX8_workToList_50 : decode cX8_workToList 50 = .ok (.aload 4, 2) := by decide +kernel
theorem dX8_workToList_52 : decode cX8_workToList 52 = .ok (.areturn, 1) := by decide +kernel
theorem dX8_assign_0 : decode cX8_assign 0 = .ok (.aload_n 0, 1) := by decide +kernel
theorem dX8_assign_1 : decode cX8_assign 1 = .ok (.getfield 9, 3) := by decide +kernel
theorem dX8_assign_4 : decode cX8_assign 4 = .ok (.iload_n 1, 1) := by decide +kernel
theorem dX8_assign_5 : decode cX8_assign 5 = .ok (.iload_n 2, 1) := by decide +kernel
theorem dX8_assign_6 : decode cX8_assign 6 = .ok (.iastore, 1) := by decide +kernel
theorem dX8_assign_7 : decode cX8_assign 7 = .ok (.aload_n 0, 1) := by decide +kernel
theorem dX8_assign_8 : decode cX8_assign 8 = .ok (.getfield 15, 3) := by decide +kernel
theorem dX8_assign_11 : decode cX8_assign 11 = .ok (.iload_n 1, 1) := by decide +kernel
theorem dX8_assign_12 : decode cX8_assign 12 = .ok (.iload_n 3, 1) := by decide +kernel
theorem dX8_assign_13 : decode cX8_assign 13 = .ok (.iastore, 1) := by decide +kernel
theorem dX8_assign_14 : decode cX8_assign 14 = .ok (.return_, 1) := by decide +kernel
theorem dX8_workSet_0 : decode cX8_workSet 0 = .ok (.aload_n 0, 1) := by decide +kernel
theorem dX8_workSet_1 : decode cX8_workSet 1 = .ok (.aload_n 0, 1) := by decide +kernel
theorem dX8_workSet_2 : decode cX8_workSet 2 = .ok (.getfield 31, 3) := by decide +kernel
theorem dX8_workSet_5 : decode cX8_workSet 5 = .ok (.iload_n 1, 1) := by decide +kernel
theorem dX8_workSet_6 : decode cX8_workSet 6 = .ok (.invokevirtual 110, 3) := by decide +kernel
theorem dX8_workSet_9 : decode cX8_workSet 9 = .ok (.iload_n 2, 1) := by decide +kernel
theorem dX8_workSet_10 : decode cX8_workSet 10 = .ok (.iconst 1, 1) := by decide +kernel
theorem dX8_workSet_11 : decode cX8_workSet 11 = .ok (.iadd, 1) := by decide +kernel
theorem dX8_workSet_12 : decode cX8_workSet 12 = .ok (.invokevirtual 68, 3) := by decide +kernel
theorem dX8_workSet_15 : decode cX8_workSet 15 = .ok (.ifCond .ne 5, 3) := by decide +kernel
theorem dX8_workSet_18 : decode cX8_workSet 18 = .ok (.iconst 0, 1) := by decide +kernel
theorem dX8_workSet_19 : decode cX8_workSet 19 = .ok (.ireturn, 1) := by decide +kernel
theorem dX8_workSet_20 : decode cX8_workSet 20 = .ok (.aload_n 0, 1) := by decide +kernel
theorem dX8_workSet_21 : decode cX8_workSet 21 = .ok (.aload_n 0, 1) := by decide +kernel
theorem dX8_workSet_22 : decode cX8_workSet 22 = .ok (.getfield 31, 3) := by decide +kernel
theorem dX8_workSet_25 : decode cX8_workSet 25 = .ok (.iload_n 1, 1) := by decide +kernel
theorem dX8_workSet_26 : decode cX8_workSet 26 = .ok (.invokevirtual 85, 3) := by decide +kernel
theorem dX8_workSet_29 : decode cX8_workSet 29 = .ok (.aload_n 0, 1) := by decide +kernel
theorem dX8_workSet_30 : decode cX8_workSet 30 = .ok (.getfield 18, 3) := by decide +kernel
theorem dX8_workSet_33 : decode cX8_workSet 33 = .ok (.aload_n 0, 1) := by decide +kernel
theorem dX8_workSet_34 : decode cX8_workSet 34 = .ok (.getfield 22, 3) := by decide +kernel
theorem dX8_workSet_37 : decode cX8_workSet 37 = .ok (.invokevirtual 149, 3) := by decide +kernel
theorem dX8_workSet_40 : decode cX8_workSet 40 = .ok (.iconst 1, 1) := by decide +kernel
theorem dX8_workSet_41 : decode cX8_workSet 41 = .ok (.ireturn, 1) := by decide +kernel
theorem dX8_workHandle_0 : decode cX8_workHandle 0 = .ok (.aload_n 0, 1) := by decide +kernel
theorem dX8_workHandle_1 : decode cX8_workHandle 1 = .ok (.aload_n 0, 1) := by decide +kernel
theorem dX8_workHandle_2 : decode cX8_workHandle 2 = .ok (.getfield 31, 3) := by decide +kernel
theorem dX8_workHandle_5 : decode cX8_workHandle 5 = .ok (.iload_n 1, 1) := by decide +kernel
theorem dX8_workHandle_6 : decode cX8_workHandle 6 = .ok (.invokevirtual 85, 3) := by decide +kernel
theorem dX8_workHandle_9 : decode cX8_workHandle 9 = .ok (.iload_n 1, 1) := by decide +kernel
theorem dX8_workHandle_10 : decode cX8_workHandle 10 = .ok (.iload_n 2, 1) := by decide +kernel
theorem dX8_workHandle_11 : decode cX8_workHandle 11 = .ok (.invokevirtual 153, 3) := by decide +kernel
theorem dX8_workHandle_14 : decode cX8_workHandle 14 = .ok (.astore_n 3, 1) := by decide +kernel
theorem dX8_workHandle_15 : decode cX8_workHandle 15 = .ok (.aload_n 3, 1) := by decide +kernel
theorem dX8_workHandle_16 : decode cX8_workHandle 16 = .ok (.ifnonnull 5, 3) := by decide +kernel
theorem dX8_workHandle_19 : decode cX8_workHandle 19 = .ok (.iconst 0, 1) := by decide +kernel
theorem dX8_workHandle_20 : decode cX8_workHandle 20 = .ok (.ireturn, 1) := by decide +kernel
theorem dX8_workHandle_21 : decode cX8_workHandle 21 = .ok (.aload_n 0, 1) := by decide +kernel
theorem dX8_workHandle_22 : decode cX8_workHandle 22 = .ok (.getfield 31, 3) := by decide +kernel
theorem dX8_workHandle_25 : decode cX8_workHandle 25 = .ok (.iload_n 1, 1) := by decide +kernel
theorem dX8_workHandle_26 : decode cX8_workHandle 26 = .ok (.invokevirtual 79, 3) := by decide +kernel
theorem dX8_workHandle_29 : decode cX8_workHandle 29 = .ok (.tableswitch 143 4 14 #[59, 143, 76, 87, 143, 143, 143, 102, 113, 124, 143], 59) := by decide +kernel
theorem dX8_workHandle_88 : decode cX8_workHandle 88 = .ok (.aload_n 0, 1) := by decide +kernel
theorem dX8_workHandle_89 : decode cX8_workHandle 89 = .ok (.iload_n 1, 1) := by decide +kernel
theorem dX8_workHandle_90 : decode cX8_workHandle 90 = .ok (.aload_n 3, 1) := by decide +kernel
theorem dX8_workHandle_91 : decode cX8_workHandle 91 = .ok (.invokevirtual 157, 3) := by decide +kernel
theorem dX8_workHandle_94 : decode cX8_workHandle 94 = .ok (.aload_n 0, 1) := by decide +kernel
theorem dX8_workHandle_95 : decode cX8_workHandle 95 = .ok (.iload_n 1, 1) := by decide +kernel
theorem dX8_workHandle_96 : decode cX8_workHandle 96 = .ok (.iconst 0, 1) := by decide +kernel
theorem dX8_workHandle_97 : decode cX8_workHandle 97 = .ok (.aload_n 3, 1) := by decide +kernel
theorem dX8_workHandle_98 : decode cX8_workHandle 98 = .ok (.invokevirtual 161, 3) := by decide +kernel
theorem dX8_workHandle_101 : decode cX8_workHandle 101 = .ok (.invokevirtual 138, 3) := by decide +kernel
theorem dX8_workHandle_104 : decode cX8_workHandle 104 = .ok (.ireturn, 1) := by decide +kernel
theorem dX8_workHandle_105 : decode cX8_workHandle 105 = .ok (.aload_n 0, 1) := by decide +kernel
theorem dX8_workHandle_106 : decode cX8_workHandle 106 = .ok (.iload_n 1, 1) := by decide +kernel
theorem dX8_workHandle_107 : decode cX8_workHandle 107 = .ok (.iconst 0, 1) := by decide +kernel
theorem dX8_workHandle_108 : decode cX8_workHandle 108 = .ok (.aload_n 3, 1) := by decide +kernel
theorem dX8_workHandle_109 : decode cX8_workHandle 109 = .ok (.invokevirtual 167, 3) := by decide +kernel
theorem dX8_workHandle_112 : decode cX8_workHandle 112 = .ok (.invokevirtual 170, 3) := by decide +kernel
theorem dX8_workHandle_115 : decode cX8_workHandle 115 = .ok (.ireturn, 1) := by decide +kernel
theorem dX8_workHandle_116 : decode cX8_workHandle 116 = .ok (.aload_n 0, 1) := by decide +kernel
theorem dX8_workHandle_117 : decode cX8_workHandle 117 = .ok (.iload_n 1, 1) := by decide +kernel
theorem dX8_workHandle_118 : decode cX8_workHandle 118 = .ok (.iconst 2, 1) := by decide +kernel
theorem dX8_workHandle_119 : decode cX8_workHandle 119 = .ok (.aload_n 0, 1) := by decide +kernel
theorem dX8_workHandle_120 : decode cX8_workHandle 120 = .ok (.getfield 43, 3) := by decide +kernel
theorem dX8_workHandle_123 : decode cX8_workHandle 123 = .ok (.aload_n 3, 1) := by decide +kernel
theorem dX8_workHandle_124 : decode cX8_workHandle 124 = .ok (.invokevirtual 173, 3) := by decide +kernel
theorem dX8_workHandle_127 : decode cX8_workHandle 127 = .ok (.invokevirtual 138, 3) := by decide +kernel
theorem dX8_workHandle_130 : decode cX8_workHandle 130 = .ok (.ireturn, 1) := by decide +kernel
theorem dX8_workHandle_131 : decode cX8_workHandle 131 = .ok (.aload_n 0, 1) := by decide +kernel
theorem dX8_workHandle_132 : decode cX8_workHandle 132 = .ok (.iload_n 1, 1) := by decide +kernel
theorem dX8_workHandle_133 : decode cX8_workHandle 133 = .ok (.iconst 0, 1) := by decide +kernel
theorem dX8_workHandle_134 : decode cX8_workHandle 134 = .ok (.aload_n 3, 1) := by decide +kernel
theorem dX8_workHandle_135 : decode cX8_workHandle 135 = .ok (.invokevirtual 177, 3) := by decide +kernel
theorem dX8_workHandle_138 : decode cX8_workHandle 138 = .ok (.invokevirtual 138, 3) := by decide +kernel
theorem dX8_workHandle_141 : decode cX8_workHandle 141 = .ok (.ireturn, 1) := by decide +kernel
theorem dX8_workHandle_142 : decode cX8_workHandle 142 = .ok (.aload_n 0, 1) := by decide +kernel
theorem dX8_workHandle_143 : decode cX8_workHandle 143 = .ok (.iload_n 1, 1) := by decide +kernel
theorem dX8_workHandle_144 : decode cX8_workHandle 144 = .ok (.iconst 0, 1) := by decide +kernel
theorem dX8_workHandle_145 : decode cX8_workHandle 145 = .ok (.aload_n 3, 1) := by decide +kernel
theorem dX8_workHandle_146 : decode cX8_workHandle 146 = .ok (.invokevirtual 180, 3) := by decide +kernel
theorem dX8_workHandle_149 : decode cX8_workHandle 149 = .ok (.invokevirtual 138, 3) := by decide +kernel
theorem dX8_workHandle_152 : decode cX8_workHandle 152 = .ok (.ireturn, 1) := by decide +kernel
theorem dX8_workHandle_153 : decode cX8_workHandle 153 = .ok (.aload_n 0, 1) := by decide +kernel
theorem dX8_workHandle_154 : decode cX8_workHandle 154 = .ok (.iload_n 1, 1) := by decide +kernel
theorem dX8_workHandle_155 : decode cX8_workHandle 155 = .ok (.iconst 0, 1) := by decide +kernel
theorem dX8_workHandle_156 : decode cX8_workHandle 156 = .ok (.aload_n 3, 1) := by decide +kernel
theorem dX8_workHandle_157 : decode cX8_workHandle 157 = .ok (.aload_n 0, 1) := by decide +kernel
theorem dX8_workHandle_158 : decode cX8_workHandle 158 = .ok (.getfield 31, 3) := by decide +kernel
theorem dX8_workHandle_161 : decode cX8_workHandle 161 = .ok (.iload_n 1, 1) := by decide +kernel
theorem dX8_workHandle_162 : decode cX8_workHandle 162 = .ok (.invokevirtual 110, 3) := by decide +kernel
theorem dX8_workHandle_165 : decode cX8_workHandle 165 = .ok (.invokevirtual 183, 3) := by decide +kernel
theorem dX8_workHandle_168 : decode cX8_workHandle 168 = .ok (.invokevirtual 170, 3) := by decide +kernel
theorem dX8_workHandle_171 : decode cX8_workHandle 171 = .ok (.ireturn, 1) := by decide +kernel
theorem dX8_workHandle_172 : decode cX8_workHandle 172 = .ok (.aload_n 0, 1) := by decide +kernel
theorem dX8_workHandle_173 : decode cX8_workHandle 173 = .ok (.iload_n 1, 1) := by decide +kernel
theorem dX8_workHandle_174 : decode cX8_workHandle 174 = .ok (.iconst 0, 1) := by decide +kernel
theorem dX8_workHandle_175 : decode cX8_workHandle 175 = .ok (.aload_n 3, 1) := by decide +kernel
theorem dX8_workHandle_176 : decode cX8_workHandle 176 = .ok (.invokevirtual 186, 3) := by decide +kernel
theorem dX8_workHandle_179 : decode cX8_workHandle 179 = .ok (.invokevirtual 170, 3) := by decide +kernel
theorem dX8_workHandle_182 : decode cX8_workHandle 182 = .ok (.ireturn, 1) := by decide +kernel
theorem dX8_noteClosing_0 : decode cX8_noteClosing 0 = .ok (.aload_n 2, 1) := by decide +kernel
theorem dX8_noteClosing_1 : decode cX8_noteClosing 1 = .ok (.invokevirtual 189, 3) := by decide +kernel
theorem dX8_noteClosing_4 : decode cX8_noteClosing 4 = .ok (.ifCond .ne 11, 3) := by decide +kernel
theorem dX8_noteClosing_7 : decode cX8_noteClosing 7 = .ok (.aload_n 0, 1) := by decide +kernel
theorem dX8_noteClosing_8 : decode cX8_noteClosing 8 = .ok (.getfield 47, 3) := by decide +kernel
theorem dX8_noteClosing_11 : decode cX8_noteClosing 11 = .ok (.iload_n 1, 1) := by decide +kernel
theorem dX8_noteClosing_12 : decode cX8_noteClosing 12 = .ok (.invokevirtual 134, 3) := by decide +kernel
theorem dX8_noteClosing_15 : decode cX8_noteClosing 15 = .ok (.return_, 1) := by decide +kernel
theorem dX8_workHandleAndNumber_0 : decode cX8_workHandleAndNumber 0 = .ok (.aload_n 0, 1) := by decide +kernel
theorem dX8_workHandleAndNumber_1 : decode cX8_workHandleAndNumber 1 = .ok (.aload_n 0, 1) := by decide +kernel
theorem dX8_workHandleAndNumber_2 : decode cX8_workHandleAndNumber 2 = .ok (.getfield 31, 3) := by decide +kernel
theorem dX8_workHandleAndNumber_5 : decode cX8_workHandleAndNumber 5 = .ok (.iload_n 1, 1) := by decide +kernel
theorem dX8_workHandleAndNumber_6 : decode cX8_workHandleAndNumber 6 = .ok (.invokevirtual 85, 3) := by decide +kernel
theorem dX8_workHandleAndNumber_9 : decode cX8_workHandleAndNumber 9 = .ok (.iload_n 1, 1) := by decide +kernel
theorem dX8_workHandleAndNumber_10 : decode cX8_workHandleAndNumber 10 = .ok (.iload_n 2, 1) := by decide +kernel
theorem dX8_workHandleAndNumber_11 : decode cX8_workHandleAndNumber 11 = .ok (.invokevirtual 153, 3) := by decide +kernel
theorem dX8_workHandleAndNumber_14 : decode cX8_workHandleAndNumber 14 = .ok (.astore_n 3, 1) := by decide +kernel
theorem dX8_workHandleAndNumber_15 : decode cX8_workHandleAndNumber 15 = .ok (.aload_n 3, 1) := by decide +kernel
theorem dX8_workHandleAndNumber_16 : decode cX8_workHandleAndNumber 16 = .ok (.ifnull 20, 3) := by decide +kernel
theorem dX8_workHandleAndNumber_19 : decode cX8_workHandleAndNumber 19 = .ok (.aload_n 0, 1) := by decide +kernel
theorem dX8_workHandleAndNumber_20 : decode cX8_workHandleAndNumber 20 = .ok (.aload_n 0, 1) := by decide +kernel
theorem dX8_workHandleAndNumber_21 : decode cX8_workHandleAndNumber 21 = .ok (.getfield 31, 3) := by decide +kernel
theorem dX8_workHandleAndNumber_24 : decode cX8_workHandleAndNumber 24 = .ok (.iload_n 1, 1) := by decide +kernel
theorem dX8_workHandleAndNumber_25 : decode cX8_workHandleAndNumber 25 = .ok (.invokevirtual 110, 3) := by decide +kernel
theorem dX8_workHandleAndNumber_28 : decode cX8_workHandleAndNumber 28 = .ok (.iload_n 1, 1) := by decide +kernel
theorem dX8_workHandleAndNumber_29 : decode cX8_workHandleAndNumber 29 = .ok (.iload_n 2, 1) := by decide +kernel
theorem dX8_workHandleAndNumber_30 : decode cX8_workHandleAndNumber 30 = .ok (.invokevirtual 192, 3) := by decide +kernel
theorem dX8_workHandleAndNumber_33 : decode cX8_workHandleAndNumber 33 = .ok (.ifCond .ne 5, 3) := by decide +kernel
theorem dX8_workHandleAndNumber_36 : decode cX8_workHandleAndNumber 36 = .ok (.iconst 0, 1) := by decide +kernel
theorem dX8_workHandleAndNumber_37 : decode cX8_workHandleAndNumber 37 = .ok (.ireturn, 1) := by decide +kernel
theorem dX8_workHandleAndNumber_38 : decode cX8_workHandleAndNumber 38 = .ok (.aload_n 0, 1) := by decide +kernel
theorem dX8_workHandleAndNumber_39 : decode cX8_workHandleAndNumber 39 = .ok (.getfield 31, 3) := by decide +kernel
theorem dX8_workHandleAndNumber_42 : decode cX8_workHandleAndNumber 42 = .ok (.iload_n 1, 1) := by decide +kernel
theorem dX8_workHandleAndNumber_43 : decode cX8_workHandleAndNumber 43 = .ok (.invokevirtual 79, 3) := by decide +kernel
theorem dX8_workHandleAndNumber_46 : decode cX8_workHandleAndNumber 46 = .ok (.iconst 5, 1) := by decide +kernel
theorem dX8_workHandleAndNumber_47 : decode cX8_workHandleAndNumber 47 = .ok (.if_icmp .ne 14, 3) := by decide +kernel
theorem dX8_workHandleAndNumber_50 : decode cX8_workHandleAndNumber 50 = .ok (.aload_n 3, 1) := by decide +kernel
theorem dX8_workHandleAndNumber_51 : decode cX8_workHandleAndNumber 51 = .ok (.aload_n 0, 1) := by decide +kernel
theorem dX8_workHandleAndNumber_52 : decode cX8_workHandleAndNumber 52 = .ok (.getfield 22, 3) := by decide +kernel
theorem dX8_workHandleAndNumber_55 : decode cX8_workHandleAndNumber 55 = .ok (.invokevirtual 195, 3) := by decide +kernel
theorem dX8_workHandleAndNumber_58 : decode cX8_workHandleAndNumber 58 = .ok (.goto 11, 3) := by decide +kernel
theorem dX8_workHandleAndNumber_61 : decode cX8_workHandleAndNumber 61 = .ok (.aload_n 3, 1) := by decide +kernel
theorem dX8_workHandleAndNumber_62 : decode cX8_workHandleAndNumber 62 = .ok (.aload_n 0, 1) := by decide +kernel
theorem dX8_workHandleAndNumber_63 : decode cX8_workHandleAndNumber 63 = .ok (.getfield 22, 3) := by decide +kernel
theorem dX8_workHandleAndNumber_66 : decode cX8_workHandleAndNumber 66 = .ok (.invokevirtual 198, 3) := by decide +kernel
theorem dX8_workHandleAndNumber_69 : decode cX8_workHandleAndNumber 69 = .ok (.istore 4, 2) := by decide +kernel
theorem dX8_workHandleAndNumber_71 : decode cX8_workHandleAndNumber 71 = .ok (.aload_n 0, 1) := by decide +kernel
theorem dX8_workHandleAndNumber_72 : decode cX8_workHandleAndNumber 72 = .ok (.iload_n 1, 1) := by decide +kernel
theorem dX8_workHandleAndNumber_73 : decode cX8_workHandleAndNumber 73 = .ok (.iconst 0, 1) := by decide +kernel
theorem dX8_workHandleAndNumber_74 : decode cX8_workHandleAndNumber 74 = .ok (.iload 4, 2) := by decide +kernel
theorem dX8_workHandleAndNumber_76 : decode cX8_workHandleAndNumber 76 = .ok (.invokevirtual 170, 3) := by decide +kernel
theorem dX8_workHandleAndNumber_79 : decode cX8_workHandleAndNumber 79 = .ok (.ireturn, 1) := by decide +kernel
theorem dX8_workItem_0 : decode cX8_workItem 0 = .ok (.aload_n 0, 1) := by decide +kernel
theorem dX8_workItem_1 : decode cX8_workItem 1 = .ok (.aload_n 0, 1) := by decide +kernel
theorem dX8_workItem_2 : decode cX8_workItem 2 = .ok (.getfield 31, 3) := by decide +kernel
theorem dX8_workItem_5 : decode cX8_workItem 5 = .ok (.iload_n 1, 1) := by decide +kernel
theorem dX8_workItem_6 : decode cX8_workItem 6 = .ok (.invokevirtual 85, 3) := by decide +kernel
theorem dX8_workItem_9 : decode cX8_workItem 9 = .ok (.iload_n 1, 1) := by decide +kernel
theorem dX8_workItem_10 : decode cX8_workItem 10 = .ok (.iload_n 2, 1) := by decide +kernel
theorem dX8_workItem_11 : decode cX8_workItem 11 = .ok (.invokevirtual 201, 3) := by decide +kernel
theorem dX8_workItem_14 : decode cX8_workItem 14 = .ok (.astore_n 3, 1) := by decide +kernel
theorem dX8_workItem_15 : decode cX8_workItem 15 = .ok (.aload_n 3, 1) := by decide +kernel
theorem dX8_workItem_16 : decode cX8_workItem 16 = .ok (.ifnull 20, 3) := by decide +kernel
theorem dX8_workItem_19 : decode cX8_workItem 19 = .ok (.aload_n 0, 1) := by decide +kernel
theorem dX8_workItem_20 : decode cX8_workItem 20 = .ok (.aload_n 0, 1) := by decide +kernel
theorem dX8_workItem_21 : decode cX8_workItem 21 = .ok (.getfield 31, 3) := by decide +kernel
theorem dX8_workItem_24 : decode cX8_workItem 24 = .ok (.iload_n 1, 1) := by decide +kernel
theorem dX8_workItem_25 : decode cX8_workItem 25 = .ok (.invokevirtual 110, 3) := by decide +kernel
theorem dX8_workItem_28 : decode cX8_workItem 28 = .ok (.iload_n 1, 1) := by decide +kernel
theorem dX8_workItem_29 : decode cX8_workItem 29 = .ok (.iload_n 2, 1) := by decide +kernel
theorem dX8_workItem_30 : decode cX8_workItem 30 = .ok (.invokevirtual 192, 3) := by decide +kernel
theorem dX8_workItem_33 : decode cX8_workItem 33 = .ok (.ifCond .ne 5, 3) := by decide +kernel
theorem dX8_workItem_36 : decode cX8_workItem 36 = .ok (.iconst 0, 1) := by decide +kernel
theorem dX8_workItem_37 : decode cX8_workItem 37 = .ok (.ireturn, 1) := by decide +kernel
theorem dX8_workItem_38 : decode cX8_workItem 38 = .ok (.aload_n 0, 1) := by decide +kernel
theorem dX8_workItem_39 : decode cX8_workItem 39 = .ok (.getfield 22, 3) := by decide +kernel
theorem dX8_workItem_42 : decode cX8_workItem 42 = .ok (.istore 4, 2) := by decide +kernel
theorem dX8_workItem_44 : decode cX8_workItem 44 = .ok (.iload 4, 2) := by decide +kernel
theorem dX8_workItem_46 : decode cX8_workItem 46 = .ok (.ifCond .ge 10, 3) := by decide +kernel
theorem dX8_workItem_49 : decode cX8_workItem 49 = .ok (.aload_n 0, 1) := by decide +kernel
theorem dX8_workItem_50 : decode cX8_workItem 50 = .ok (.iconst 4, 1) := by decide +kernel
theorem dX8_workItem_51 : decode cX8_workItem 51 = .ok (.iload_n 1, 1) := by decide +kernel
theorem dX8_workItem_52 : decode cX8_workItem 52 = .ok (.invokevirtual 116, 3) := by decide +kernel
theorem dX8_workItem_55 : decode cX8_workItem 55 = .ok (.ireturn, 1) := by decide +kernel
theorem dX8_workItem_56 : decode cX8_workItem 56 = .ok (.aload_n 0, 1) := by decide +kernel
theorem dX8_workItem_57 : decode cX8_workItem 57 = .ok (.iload_n 1, 1) := by decide +kernel
theorem dX8_workItem_58 : decode cX8_workItem 58 = .ok (.aload_n 3, 1) := by decide +kernel
theorem dX8_workItem_59 : decode cX8_workItem 59 = .ok (.iload 4, 2) := by decide +kernel
theorem dX8_workItem_61 : decode cX8_workItem 61 = .ok (.invokevirtual 205, 3) := by decide +kernel
theorem dX8_workItem_64 : decode cX8_workItem 64 = .ok (.invokevirtual 210, 3) := by decide +kernel
theorem dX8_workItem_67 : decode cX8_workItem 67 = .ok (.aload_n 0, 1) := by decide +kernel
theorem dX8_workItem_68 : decode cX8_workItem 68 = .ok (.iconst 0, 1) := by decide +kernel
theorem dX8_workItem_69 : decode cX8_workItem 69 = .ok (.aload_n 3, 1) := by decide +kernel
theorem dX8_workItem_70 : decode cX8_workItem 70 = .ok (.iload 4, 2) := by decide +kernel
theorem dX8_workItem_72 : decode cX8_workItem 72 = .ok (.invokevirtual 214, 3) := by decide +kernel
theorem dX8_workItem_75 : decode cX8_workItem 75 = .ok (.invokevirtual 88, 3) := by decide +kernel
theorem dX8_workItem_78 : decode cX8_workItem 78 = .ok (.ireturn, 1) := by decide +kernel
theorem dX8_workLength_0 : decode cX8_workLength 0 = .ok (.aload_n 0, 1) := by decide +kernel
theorem dX8_workLength_1 : decode cX8_workLength 1 = .ok (.aload_n 0, 1) := by decide +kernel
theorem dX8_workLength_2 : decode cX8_workLength 2 = .ok (.getfield 31, 3) := by decide +kernel
theorem dX8_workLength_5 : decode cX8_workLength 5 = .ok (.iload_n 1, 1) := by decide +kernel
theorem dX8_workLength_6 : decode cX8_workLength 6 = .ok (.invokevirtual 85, 3) := by decide +kernel
theorem dX8_workLength_9 : decode cX8_workLength 9 = .ok (.iload_n 1, 1) := by decide +kernel
theorem dX8_workLength_10 : decode cX8_workLength 10 = .ok (.iload_n 2, 1) := by decide +kernel
theorem dX8_workLength_11 : decode cX8_workLength 11 = .ok (.invokevirtual 201, 3) := by decide +kernel
theorem dX8_workLength_14 : decode cX8_workLength 14 = .ok (.astore_n 3, 1) := by decide +kernel
theorem dX8_workLength_15 : decode cX8_workLength 15 = .ok (.aload_n 3, 1) := by decide +kernel
theorem dX8_workLength_16 : decode cX8_workLength 16 = .ok (.ifnonnull 5, 3) := by decide +kernel
theorem dX8_workLength_19 : decode cX8_workLength 19 = .ok (.iconst 0, 1) := by decide +kernel
theorem dX8_workLength_20 : decode cX8_workLength 20 = .ok (.ireturn, 1) := by decide +kernel
theorem dX8_workLength_21 : decode cX8_workLength 21 = .ok (.aload_n 0, 1) := by decide +kernel
theorem dX8_workLength_22 : decode cX8_workLength 22 = .ok (.iload_n 1, 1) := by decide +kernel
theorem dX8_workLength_23 : decode cX8_workLength 23 = .ok (.aload_n 3, 1) := by decide +kernel
theorem dX8_workLength_24 : decode cX8_workLength 24 = .ok (.bipush 40, 2) := by decide +kernel
theorem dX8_workLength_26 : decode cX8_workLength 26 = .ok (.invokevirtual 205, 3) := by decide +kernel
theorem dX8_workLength_29 : decode cX8_workLength 29 = .ok (.invokevirtual 210, 3) := by decide +kernel
theorem dX8_workLength_32 : decode cX8_workLength 32 = .ok (.aload_n 0, 1) := by decide +kernel
theorem dX8_workLength_33 : decode cX8_workLength 33 = .ok (.iconst 0, 1) := by decide +kernel
theorem dX8_workLength_34 : decode cX8_workLength 34 = .ok (.aload_n 3, 1) := by decide +kernel
theorem dX8_workLength_35 : decode cX8_workLength 35 = .ok (.invokevirtual 217, 3) := by decide +kernel
theorem dX8_workLength_38 : decode cX8_workLength 38 = .ok (.invokevirtual 88, 3) := by decide +kernel
theorem dX8_workLength_41 : decode cX8_workLength 41 = .ok (.ireturn, 1) := by decide +kernel
theorem dX8_noteTimes_0 : decode cX8_noteTimes 0 = .ok (.iconst 0, 1) := by decide +kernel
theorem dX8_noteTimes_1 : decode cX8_noteTimes 1 = .ok (.istore_n 3, 1) := by decide +kernel
theorem dX8_noteTimes_2 : decode cX8_noteTimes 2 = .ok (.iload_n 3, 1) := by decide +kernel
theorem dX8_noteTimes_3 : decode cX8_noteTimes 3 = .ok (.iload_n 2, 1) := by decide +kernel
theorem dX8_noteTimes_4 : decode cX8_noteTimes 4 = .ok (.if_icmp .ge 17, 3) := by decide +kernel
theorem dX8_noteTimes_7 : decode cX8_noteTimes 7 = .ok (.aload_n 0, 1) := by decide +kernel
theorem dX8_noteTimes_8 : decode cX8_noteTimes 8 = .ok (.getfield 47, 3) := by decide +kernel
theorem dX8_noteTimes_11 : decode cX8_noteTimes 11 = .ok (.iload_n 1, 1) := by decide +kernel
theorem dX8_noteTimes_12 : decode cX8_noteTimes 12 = .ok (.invokevirtual 134, 3) := by decide +kernel
theorem dX8_noteTimes_15 : decode cX8_noteTimes 15 = .ok (.iinc 3 1, 3) := by decide +kernel
theorem dX8_noteTimes_18 : decode cX8_noteTimes 18 = .ok (.goto (-16), 3) := by decide +kernel
theorem dX8_noteTimes_21 : decode cX8_noteTimes 21 = .ok (.return_, 1) := by decide +kernel
theorem dX8_actAlone_0 : decode cX8_actAlone 0 = .ok (.aload_n 0, 1) := by decide +kernel
theorem dX8_actAlone_1 : decode cX8_actAlone 1 = .ok (.getfield 31, 3) := by decide +kernel
theorem dX8_actAlone_4 : decode cX8_actAlone 4 = .ok (.iload_n 1, 1) := by decide +kernel
theorem dX8_actAlone_5 : decode cX8_actAlone 5 = .ok (.invokevirtual 85, 3) := by decide +kernel
theorem dX8_actAlone_8 : decode cX8_actAlone 8 = .ok (.istore_n 2, 1) := by decide +kernel
theorem dX8_actAlone_9 : decode cX8_actAlone 9 = .ok (.aload_n 0, 1) := by decide +kernel
theorem dX8_actAlone_10 : decode cX8_actAlone 10 = .ok (.getfield 31, 3) := by decide +kernel
theorem dX8_actAlone_13 : decode cX8_actAlone 13 = .ok (.iload_n 1, 1) := by decide +kernel
theorem dX8_actAlone_14 : decode cX8_actAlone 14 = .ok (.invokevirtual 110, 3) := by decide +kernel
theorem dX8_actAlone_17 : decode cX8_actAlone 17 = .ok (.istore_n 3, 1) := by decide +kernel
theorem dX8_actAlone_18 : decode cX8_actAlone 18 = .ok (.aload_n 0, 1) := by decide +kernel
theorem dX8_actAlone_19 : decode cX8_actAlone 19 = .ok (.getfield 31, 3) := by decide +kernel
theorem dX8_actAlone_22 : decode cX8_actAlone 22 = .ok (.iload_n 1, 1) := by decide +kernel
theorem dX8_actAlone_23 : decode cX8_actAlone 23 = .ok (.invokevirtual 79, 3) := by decide +kernel
theorem dX8_actAlone_26 : decode cX8_actAlone 26 = .ok (.lookupswitch 109 #[(3, 42), (15, 58), (16, 73), (18, 109)], 42) := by decide +kernel
theorem dX8_actAlone_68 : decode cX8_actAlone 68 = .ok (.aload_n 0, 1) := by decide +kernel
theorem dX8_actAlone_69 : decode cX8_actAlone 69 = .ok (.iload_n 1, 1) := by decide +kernel
theorem dX8_actAlone_70 : decode cX8_actAlone 70 = .ok (.iconst 1, 1) := by decide +kernel
theorem dX8_actAlone_71 : decode cX8_actAlone 71 = .ok (.aload_n 0, 1) := by decide +kernel
theorem dX8_actAlone_72 : decode cX8_actAlone 72 = .ok (.getfield 39, 3) := by decide +kernel
theorem dX8_actAlone_75 : decode cX8_actAlone 75 = .ok (.iload_n 2, 1) := by decide +kernel
theorem dX8_actAlone_76 : decode cX8_actAlone 76 = .ok (.iload_n 3, 1) := by decide +kernel
theorem dX8_actAlone_77 : decode cX8_actAlone 77 = .ok (.invokevirtual 220, 3) := by decide +kernel
theorem dX8_actAlone_80 : decode cX8_actAlone 80 = .ok (.invokevirtual 170, 3) := by decide +kernel
theorem dX8_actAlone_83 : decode cX8_actAlone 83 = .ok (.ireturn, 1) := by decide +kernel
theorem dX8_actAlone_84 : decode cX8_actAlone 84 = .ok (.aload_n 0, 1) := by decide +kernel
theorem dX8_actAlone_85 : decode cX8_actAlone 85 = .ok (.iload_n 1, 1) := by decide +kernel
theorem dX8_actAlone_86 : decode cX8_actAlone 86 = .ok (.iconst 0, 1) := by decide +kernel
theorem dX8_actAlone_87 : decode cX8_actAlone 87 = .ok (.aload_n 0, 1) := by decide +kernel
theorem dX8_actAlone_88 : decode cX8_actAlone 88 = .ok (.getfield 39, 3) := by decide +kernel
theorem dX8_actAlone_91 : decode cX8_actAlone 91 = .ok (.iload_n 2, 1) := by decide +kernel
theorem dX8_actAlone_92 : decode cX8_actAlone 92 = .ok (.invokevirtual 224, 3) := by decide +kernel
theorem dX8_actAlone_95 : decode cX8_actAlone 95 = .ok (.invokevirtual 170, 3) := by decide +kernel
theorem dX8_actAlone_98 : decode cX8_actAlone 98 = .ok (.ireturn, 1) := by decide +kernel
theorem dX8_actAlone_99 : decode cX8_actAlone 99 = .ok (.aload_n 0, 1) := by decide +kernel
theorem dX8_actAlone_100 : decode cX8_actAlone 100 = .ok (.getfield 39, 3) := by decide +kernel
theorem dX8_actAlone_103 : decode cX8_actAlone 103 = .ok (.iload_n 2, 1) := by decide +kernel
theorem dX8_actAlone_104 : decode cX8_actAlone 104 = .ok (.iload_n 3, 1) := by decide +kernel
theorem dX8_actAlone_105 : decode cX8_actAlone 105 = .ok (.invokevirtual 227, 3) := by decide +kernel
theorem dX8_actAlone_108 : decode cX8_actAlone 108 = .ok (.istore 4, 2) := by decide +kernel
theorem dX8_actAlone_110 : decode cX8_actAlone 110 = .ok (.iload_n 2, 1) := by decide +kernel
theorem dX8_actAlone_111 : decode cX8_actAlone 111 = .ok (.iload_n 3, 1) := by decide +kernel
theorem dX8_actAlone_112 : decode cX8_actAlone 112 = .ok (.if_icmp .ne 14, 3) := by decide +kernel
theorem dX8_actAlone_115 : decode cX8_actAlone 115 = .ok (.aload_n 0, 1) := by decide +kernel
theorem dX8_actAlone_116 : decode cX8_actAlone 116 = .ok (.iload_n 1, 1) := by decide +kernel
theorem dX8_actAlone_117 : decode cX8_actAlone 117 = .ok (.iconst 0, 1) := by decide +kernel
theorem dX8_actAlone_118 : decode cX8_actAlone 118 = .ok (.iload 4, 2) := by decide +kernel
theorem dX8_actAlone_120 : decode cX8_actAlone 120 = .ok (.invokevirtual 138, 3) := by decide +kernel
theorem dX8_actAlone_123 : decode cX8_actAlone 123 = .ok (.goto 11, 3) := by decide +kernel
theorem dX8_actAlone_126 : decode cX8_actAlone 126 = .ok (.aload_n 0, 1) := by decide +kernel
theorem dX8_actAlone_127 : decode cX8_actAlone 127 = .ok (.iload_n 1, 1) := by decide +kernel
theorem dX8_actAlone_128 : decode cX8_actAlone 128 = .ok (.iconst 0, 1) := by decide +kernel
theorem dX8_actAlone_129 : decode cX8_actAlone 129 = .ok (.iload 4, 2) := by decide +kernel
theorem dX8_actAlone_131 : decode cX8_actAlone 131 = .ok (.invokevirtual 170, 3) := by decide +kernel
theorem dX8_actAlone_134 : decode cX8_actAlone 134 = .ok (.ireturn, 1) := by decide +kernel
theorem dX8_actAlone_135 : decode cX8_actAlone 135 = .ok (.aload_n 0, 1) := by decide +kernel
theorem dX8_actAlone_136 : decode cX8_actAlone 136 = .ok (.iload_n 1, 1) := by decide +kernel
theorem dX8_actAlone_137 : decode cX8_actAlone 137 = .ok (.iconst 0, 1) := by decide +kernel
theorem dX8_actAlone_138 : decode cX8_actAlone 138 = .ok (.aload_n 0, 1) := by decide +kernel
theorem dX8_actAlone_139 : decode cX8_actAlone 139 = .ok (.getfield 35, 3) := by decide +kernel
theorem dX8_actAlone_142 : decode cX8_actAlone 142 = .ok (.invokevirtual 230, 3) := by decide +kernel
theorem dX8_actAlone_145 : decode cX8_actAlone 145 = .ok (.invokevirtual 170, 3) := by decide +kernel
theorem dX8_actAlone_148 : decode cX8_actAlone 148 = .ok (.ireturn, 1) := by decide +kernel
theorem dX8_workNumberFirst_0 : decode cX8_workNumberFirst 0 = .ok (.aload_n 0, 1) := by decide +kernel
theorem dX8_workNumberFirst_1 : decode cX8_workNumberFirst 1 = .ok (.aload_n 0, 1) := by decide +kernel
theorem dX8_workNumberFirst_2 : decode cX8_workNumberFirst 2 = .ok (.getfield 31, 3) := by decide +kernel
theorem dX8_workNumberFirst_5 : decode cX8_workNumberFirst 5 = .ok (.iload_n 1, 1) := by decide +kernel
theorem dX8_workNumberFirst_6 : decode cX8_workNumberFirst 6 = .ok (.invokevirtual 85, 3) := by decide +kernel
theorem dX8_workNumberFirst_9 : decode cX8_workNumberFirst 9 = .ok (.iload_n 1, 1) := by decide +kernel
theorem dX8_workNumberFirst_10 : decode cX8_workNumberFirst 10 = .ok (.iload_n 2, 1) := by decide +kernel
theorem dX8_workNumberFirst_11 : decode cX8_workNumberFirst 11 = .ok (.invokevirtual 192, 3) := by decide +kernel
theorem dX8_workNumberFirst_14 : decode cX8_workNumberFirst 14 = .ok (.ifCond .ne 5, 3) := by decide +kernel
theorem dX8_workNumberFirst_17 : decode cX8_workNumberFirst 17 = .ok (.iconst 0, 1) := by decide +kernel
theorem dX8_workNumberFirst_18 : decode cX8_workNumberFirst 18 = .ok (.ireturn, 1) := by decide +kernel
theorem dX8_workNumberFirst_19 : decode cX8_workNumberFirst 19 = .ok (.aload_n 0, 1) := by decide +kernel
theorem dX8_workNumberFirst_20 : decode cX8_workNumberFirst 20 = .ok (.getfield 31, 3) := by decide +kernel
theorem dX8_workNumberFirst_23 : decode cX8_workNumberFirst 23 = .ok (.iload_n 1, 1) := by decide +kernel
theorem dX8_workNumberFirst_24 : decode cX8_workNumberFirst 24 = .ok (.invokevirtual 79, 3) := by decide +kernel
theorem dX8_workNumberFirst_27 : decode cX8_workNumberFirst 27 = .ok (.tableswitch 108 17 25 #[49, 108, 108, 74, 108, 108, 108, 108, 67], 49) := by decide +kernel
theorem dX8_workNumberFirst_76 : decode cX8_workNumberFirst 76 = .ok (.aload_n 0, 1) := by decide +kernel
theorem dX8_workNumberFirst_77 : decode cX8_workNumberFirst 77 = .ok (.iload_n 1, 1) := by decide +kernel
theorem dX8_workNumberFirst_78 : decode cX8_workNumberFirst 78 = .ok (.iconst 0, 1) := by decide +kernel
theorem dX8_workNumberFirst_79 : decode cX8_workNumberFirst 79 = .ok (.aload_n 0, 1) := by decide +kernel
theorem dX8_workNumberFirst_80 : decode cX8_workNumberFirst 80 = .ok (.getfield 35, 3) := by decide +kernel
theorem dX8_workNumberFirst_83 : decode cX8_workNumberFirst 83 = .ok (.aload_n 0, 1) := by decide +kernel
theorem dX8_workNumberFirst_84 : decode cX8_workNumberFirst 84 = .ok (.getfield 22, 3) := by decide +kernel
theorem dX8_workNumberFirst_87 : decode cX8_workNumberFirst 87 = .ok (.invokevirtual 235, 3) := by decide +kernel
theorem dX8_workNumberFirst_90 : decode cX8_workNumberFirst 90 = .ok (.invokevirtual 170, 3) := by decide +kernel
theorem dX8_workNumberFirst_93 : decode cX8_workNumberFirst 93 = .ok (.ireturn, 1) := by decide +kernel
theorem dX8_workNumberFirst_94 : decode cX8_workNumberFirst 94 = .ok (.aload_n 0, 1) := by decide +kernel
theorem dX8_workNumberFirst_95 : decode cX8_workNumberFirst 95 = .ok (.iconst 4, 1) := by decide +kernel
theorem dX8_workNumberFirst_96 : decode cX8_workNumberFirst 96 = .ok (.putfield 18, 3) := by decide +kernel
theorem dX8_workNumberFirst_99 : decode cX8_workNumberFirst 99 = .ok (.iconst 0, 1) := by decide +kernel
theorem dX8_workNumberFirst_100 : decode cX8_workNumberFirst 100 = .ok (.ireturn, 1) := by decide +kernel
theorem dX8_workNumberFirst_101 : decode cX8_workNumberFirst 101 = .ok (.aload_n 0, 1) := by decide +kernel
theorem dX8_workNumberFirst_102 : decode cX8_workNumberFirst 102 = .ok (.aload_n 0, 1) := by decide +kernel
theorem dX8_workNumberFirst_103 : decode cX8_workNumberFirst 103 = .ok (.getfield 22, 3) := by decide +kernel
theorem dX8_workNumberFirst_106 : decode cX8_workNumberFirst 106 = .ok (.ifCond .eq 14, 3) := by decide +kernel
theorem dX8_workNumberFirst_109 : decode cX8_workNumberFirst 109 = .ok (.aload_n 0, 1) := by decide +kernel
theorem dX8_workNumberFirst_110 : decode cX8_workNumberFirst 110 = .ok (.getfield 31, 3) := by decide +kernel
theorem dX8_workNumberFirst_113 : decode cX8_workNumberFirst 113 = .ok (.iload_n 1, 1) := by decide +kernel
theorem dX8_workNumberFirst_114 : decode cX8_workNumberFirst 114 = .ok (.invokevirtual 110, 3) := by decide +kernel
theorem dX8_workNumberFirst_117 : decode cX8_workNumberFirst 117 = .ok (.goto 11, 3) := by decide +kernel
theorem dX8_workNumberFirst_120 : decode cX8_workNumberFirst 120 = .ok (.aload_n 0, 1) := by decide +kernel
theorem dX8_workNumberFirst_121 : decode cX8_workNumberFirst 121 = .ok (.getfield 31, 3) := by decide +kernel
theorem dX8_workNumberFirst_124 : decode cX8_workNumberFirst 124 = .ok (.iload_n 1, 1) := by decide +kernel
theorem dX8_workNumberFirst_125 : decode cX8_workNumberFirst 125 = .ok (.invokevirtual 238, 3) := by decide +kernel
theorem dX8_workNumberFirst_128 : decode cX8_workNumberFirst 128 = .ok (.iload_n 2, 1) := by decide +kernel
theorem dX8_workNumberFirst_129 : decode cX8_workNumberFirst 129 = .ok (.iconst 1, 1) := by decide +kernel
theorem dX8_workNumberFirst_130 : decode cX8_workNumberFirst 130 = .ok (.iadd, 1) := by decide +kernel
theorem dX8_workNumberFirst_131 : decode cX8_workNumberFirst 131 = .ok (.invokevirtual 68, 3) := by decide +kernel
theorem dX8_workNumberFirst_134 : decode cX8_workNumberFirst 134 = .ok (.ireturn, 1) := by decide +kernel
theorem dX8_workNumberFirst_135 : decode cX8_workNumberFirst 135 = .ok (.aload_n 0, 1) := by decide +kernel
theorem dX8_workNumberFirst_136 : decode cX8_workNumberFirst 136 = .ok (.aload_n 0, 1) := by decide +kernel
theorem dX8_workNumberFirst_137 : decode cX8_workNumberFirst 137 = .ok (.getfield 31, 3) := by decide +kernel
theorem dX8_workNumberFirst_140 : decode cX8_workNumberFirst 140 = .ok (.iload_n 1, 1) := by decide +kernel
theorem dX8_workNumberFirst_141 : decode cX8_workNumberFirst 141 = .ok (.invokevirtual 110, 3) := by decide +kernel
theorem dX8_workNumberFirst_144 : decode cX8_workNumberFirst 144 = .ok (.aload_n 0, 1) := by decide +kernel
theorem dX8_workNumberFirst_145 : decode cX8_workNumberFirst 145 = .ok (.getfield 22, 3) := by decide +kernel
theorem dX8_workNumberFirst_148 : decode cX8_workNumberFirst 148 = .ok (.iload_n 2, 1) := by decide +kernel
theorem dX8_workNumberFirst_149 : decode cX8_workNumberFirst 149 = .ok (.invokevirtual 241, 3) := by decide +kernel
theorem dX8_workNumberFirst_152 : decode cX8_workNumberFirst 152 = .ok (.ireturn, 1) := by decide +kernel
theorem dX8_workTimes_0 : decode cX8_workTimes 0 = .ok (.iload_n 2, 1) := by decide +kernel
theorem dX8_workTimes_1 : decode cX8_workTimes 1 = .ok (.sipush 600, 3) := by decide +kernel
theorem dX8_workTimes_4 : decode cX8_workTimes 4 = .ok (.invokestatic 244, 3) := by decide +kernel
theorem dX8_workTimes_7 : decode cX8_workTimes 7 = .ok (.istore 4, 2) := by decide +kernel
theorem dX8_workTimes_9 : decode cX8_workTimes 9 = .ok (.iconst 0, 1) := by decide +kernel
theorem dX8_workTimes_10 : decode cX8_workTimes 10 = .ok (.istore 5, 2) := by decide +kernel
theorem dX8_workTimes_12 : decode cX8_workTimes 12 = .ok (.iload 5, 2) := by decide +kernel
theorem dX8_workTimes_14 : decode cX8_workTimes 14 = .ok (.iload 4, 2) := by decide +kernel
theorem dX8_workTimes_16 : decode cX8_workTimes 16 = .ok (.if_icmp .ge 22, 3) := by decide +kernel
theorem dX8_workTimes_19 : decode cX8_workTimes 19 = .ok (.aload_n 0, 1) := by decide +kernel
theorem dX8_workTimes_20 : decode cX8_workTimes 20 = .ok (.iload_n 1, 1) := by decide +kernel
theorem dX8_workTimes_21 : decode cX8_workTimes 21 = .ok (.iload_n 3, 1) := by decide +kernel
theorem dX8_workTimes_22 : decode cX8_workTimes 22 = .ok (.iconst 1, 1) := by decide +kernel
theorem dX8_workTimes_23 : decode cX8_workTimes 23 = .ok (.iadd, 1) := by decide +kernel
theorem dX8_workTimes_24 : decode cX8_workTimes 24 = .ok (.invokevirtual 68, 3) := by decide +kernel
theorem dX8_workTimes_27 : decode cX8_workTimes 27 = .ok (.ifCond .ne 5, 3) := by decide +kernel
theorem dX8_workTimes_30 : decode cX8_workTimes 30 = .ok (.iconst 0, 1) := by decide +kernel
theorem dX8_workTimes_31 : decode cX8_workTimes 31 = .ok (.ireturn, 1) := by decide +kernel
theorem dX8_workTimes_32 : decode cX8_workTimes 32 = .ok (.iinc 5 1, 3) := by decide +kernel
theorem dX8_workTimes_35 : decode cX8_workTimes 35 = .ok (.goto (-23), 3) := by decide +kernel
theorem dX8_workTimes_38 : decode cX8_workTimes 38 = .ok (.aload_n 0, 1) := by decide +kernel
theorem dX8_workTimes_39 : decode cX8_workTimes 39 = .ok (.iconst 0, 1) := by decide +kernel
theorem dX8_workTimes_40 : decode cX8_workTimes 40 = .ok (.iconst 0, 1) := by decide +kernel
theorem dX8_workTimes_41 : decode cX8_workTimes 41 = .ok (.invokevirtual 88, 3) := by decide +kernel
theorem dX8_workTimes_44 : decode cX8_workTimes 44 = .ok (.ireturn, 1) := by decide +kernel
theorem dX8_workTwoNumbers_0 : decode cX8_workTwoNumbers 0 = .ok (.aload_n 0, 1) := by decide +kernel
theorem dX8_workTwoNumbers_1 : decode cX8_workTwoNumbers 1 = .ok (.aload_n 0, 1) := by decide +kernel
theorem dX8_workTwoNumbers_2 : decode cX8_workTwoNumbers 2 = .ok (.getfield 31, 3) := by decide +kernel
theorem dX8_workTwoNumbers_5 : decode cX8_workTwoNumbers 5 = .ok (.iload_n 1, 1) := by decide +kernel
theorem dX8_workTwoNumbers_6 : decode cX8_workTwoNumbers 6 = .ok (.invokevirtual 85, 3) := by decide +kernel
theorem dX8_workTwoNumbers_9 : decode cX8_workTwoNumbers 9 = .ok (.iload_n 1, 1) := by decide +kernel
theorem dX8_workTwoNumbers_10 : decode cX8_workTwoNumbers 10 = .ok (.iload_n 2, 1) := by decide +kernel
theorem dX8_workTwoNumbers_11 : decode cX8_workTwoNumbers 11 = .ok (.invokevirtual 192, 3) := by decide +kernel
theorem dX8_workTwoNumbers_14 : decode cX8_workTwoNumbers 14 = .ok (.ifCond .ne 5, 3) := by decide +kernel
theorem dX8_workTwoNumbers_17 : decode cX8_workTwoNumbers 17 = .ok (.iconst 0, 1) := by decide +kernel
theorem dX8_workTwoNumbers_18 : decode cX8_workTwoNumbers 18 = .ok (.ireturn, 1) := by decide +kernel
theorem dX8_workTwoNumbers_19 : decode cX8_workTwoNumbers 19 = .ok (.aload_n 0, 1) := by decide +kernel
theorem dX8_workTwoNumbers_20 : decode cX8_workTwoNumbers 20 = .ok (.getfield 22, 3) := by decide +kernel
theorem dX8_workTwoNumbers_23 : decode cX8_workTwoNumbers 23 = .ok (.istore_n 3, 1) := by decide +kernel
theorem dX8_workTwoNumbers_24 : decode cX8_workTwoNumbers 24 = .ok (.aload_n 0, 1) := by decide +kernel
theorem dX8_workTwoNumbers_25 : decode cX8_workTwoNumbers 25 = .ok (.aload_n 0, 1) := by decide +kernel
theorem dX8_workTwoNumbers_26 : decode cX8_workTwoNumbers 26 = .ok (.getfield 31, 3) := by decide +kernel
theorem dX8_workTwoNumbers_29 : decode cX8_workTwoNumbers 29 = .ok (.iload_n 1, 1) := by decide +kernel
theorem dX8_workTwoNumbers_30 : decode cX8_workTwoNumbers 30 = .ok (.invokevirtual 110, 3) := by decide +kernel
theorem dX8_workTwoNumbers_33 : decode cX8_workTwoNumbers 33 = .ok (.iload_n 1, 1) := by decide +kernel
theorem dX8_workTwoNumbers_34 : decode cX8_workTwoNumbers 34 = .ok (.iload_n 2, 1) := by decide +kernel
theorem dX8_workTwoNumbers_35 : decode cX8_workTwoNumbers 35 = .ok (.invokevirtual 192, 3) := by decide +kernel
theorem dX8_workTwoNumbers_38 : decode cX8_workTwoNumbers 38 = .ok (.ifCond .ne 5, 3) := by decide +kernel
theorem dX8_workTwoNumbers_41 : decode cX8_workTwoNumbers 41 = .ok (.iconst 0, 1) := by decide +kernel
theorem dX8_workTwoNumbers_42 : decode cX8_workTwoNumbers 42 = .ok (.ireturn, 1) := by decide +kernel
theorem dX8_workTwoNumbers_43 : decode cX8_workTwoNumbers 43 = .ok (.aload_n 0, 1) := by decide +kernel
theorem dX8_workTwoNumbers_44 : decode cX8_workTwoNumbers 44 = .ok (.getfield 22, 3) := by decide +kernel
theorem dX8_workTwoNumbers_47 : decode cX8_workTwoNumbers 47 = .ok (.istore 4, 2) := by decide +kernel
theorem dX8_workTwoNumbers_49 : decode cX8_workTwoNumbers 49 = .ok (.aload_n 0, 1) := by decide +kernel
theorem dX8_workTwoNumbers_50 : decode cX8_workTwoNumbers 50 = .ok (.getfield 31, 3) := by decide +kernel
theorem dX8_workTwoNumbers_53 : decode cX8_workTwoNumbers 53 = .ok (.iload_n 1, 1) := by decide +kernel
theorem dX8_workTwoNumbers_54 : decode cX8_workTwoNumbers 54 = .ok (.invokevirtual 79, 3) := by decide +kernel
theorem dX8_workTwoNumbers_57 : decode cX8_workTwoNumbers 57 = .ok (.bipush 21, 2) := by decide +kernel
theorem dX8_workTwoNumbers_59 : decode cX8_workTwoNumbers 59 = .ok (.if_icmp .ne 20, 3) := by decide +kernel
theorem dX8_workTwoNumbers_62 : decode cX8_workTwoNumbers 62 = .ok (.aload_n 0, 1) := by decide +kernel
theorem dX8_workTwoNumbers_63 : decode cX8_workTwoNumbers 63 = .ok (.iconst 0, 1) := by decide +kernel
theorem dX8_workTwoNumbers_64 : decode cX8_workTwoNumbers 64 = .ok (.iload_n 3, 1) := by decide +kernel
theorem dX8_workTwoNumbers_65 : decode cX8_workTwoNumbers 65 = .ok (.iload 4, 2) := by decide +kernel
theorem dX8_workTwoNumbers_67 : decode cX8_workTwoNumbers 67 = .ok (.if_icmp .ge 7, 3) := by decide +kernel
theorem dX8_workTwoNumbers_70 : decode cX8_workTwoNumbers 70 = .ok (.iconst 1, 1) := by decide +kernel
theorem dX8_workTwoNumbers_71 : decode cX8_workTwoNumbers 71 = .ok (.goto 4, 3) := by decide +kernel
theorem dX8_workTwoNumbers_74 : decode cX8_workTwoNumbers 74 = .ok (.iconst 0, 1) := by decide +kernel
theorem dX8_workTwoNumbers_75 : decode cX8_workTwoNumbers 75 = .ok (.invokevirtual 88, 3) := by decide +kernel
theorem dX8_workTwoNumbers_78 : decode cX8_workTwoNumbers 78 = .ok (.ireturn, 1) := by decide +kernel
theorem dX8_workTwoNumbers_79 : decode cX8_workTwoNumbers 79 = .ok (.aload_n 0, 1) := by decide +kernel
theorem dX8_workTwoNumbers_80 : decode cX8_workTwoNumbers 80 = .ok (.iconst 0, 1) := by decide +kernel
theorem dX8_workTwoNumbers_81 : decode cX8_workTwoNumbers 81 = .ok (.iload_n 3, 1) := by decide +kernel
theorem dX8_workTwoNumbers_82 : decode cX8_workTwoNumbers 82 = .ok (.iload 4, 2) := by decide +kernel
theorem dX8_workTwoNumbers_84 : decode cX8_workTwoNumbers 84 = .ok (.iadd, 1) := by decide +kernel
theorem dX8_workTwoNumbers_85 : decode cX8_workTwoNumbers 85 = .ok (.invokevirtual 88, 3) := by decide +kernel
theorem dX8_workTwoNumbers_88 : decode cX8_workTwoNumbers 88 = .ok (.ireturn, 1) := by decide +kernel
theorem dX8_workCatch_0 : decode cX8_workCatch 0 = .ok (.aload_n 0, 1) := by decide +kernel
theorem dX8_workCatch_1 : decode cX8_workCatch 1 = .ok (.aload_n 0, 1) := by decide +kernel
theorem dX8_workCatch_2 : decode cX8_workCatch 2 = .ok (.getfield 31, 3) := by decide +kernel
theorem dX8_workCatch_5 : decode cX8_workCatch 5 = .ok (.iload_n 1, 1) := by decide +kernel
theorem dX8_workCatch_6 : decode cX8_workCatch 6 = .ok (.invokevirtual 85, 3) := by decide +kernel
theorem dX8_workCatch_9 : decode cX8_workCatch 9 = .ok (.iload_n 2, 1) := by decide +kernel
theorem dX8_workCatch_10 : decode cX8_workCatch 10 = .ok (.iconst 1, 1) := by decide +kernel
theorem dX8_workCatch_11 : decode cX8_workCatch 11 = .ok (.iadd, 1) := by decide +kernel
theorem dX8_workCatch_12 : decode cX8_workCatch 12 = .ok (.invokevirtual 68, 3) := by decide +kernel
theorem dX8_workCatch_15 : decode cX8_workCatch 15 = .ok (.ifCond .eq 5, 3) := by decide +kernel
theorem dX8_workCatch_18 : decode cX8_workCatch 18 = .ok (.iconst 1, 1) := by decide +kernel
theorem dX8_workCatch_19 : decode cX8_workCatch 19 = .ok (.ireturn, 1) := by decide +kernel
theorem dX8_workCatch_20 : decode cX8_workCatch 20 = .ok (.aload_n 0, 1) := by decide +kernel
theorem dX8_workCatch_21 : decode cX8_workCatch 21 = .ok (.getfield 18, 3) := by decide +kernel
theorem dX8_workCatch_24 : decode cX8_workCatch 24 = .ok (.iconst 3, 1) := by decide +kernel
theorem dX8_workCatch_25 : decode cX8_workCatch 25 = .ok (.if_icmp .ne 21, 3) := by decide +kernel
theorem dX8_workCatch_28 : decode cX8_workCatch 28 = .ok (.aload_n 0, 1) := by decide +kernel
theorem dX8_workCatch_29 : decode cX8_workCatch 29 = .ok (.getfield 31, 3) := by decide +kernel
theorem dX8_workCatch_32 : decode cX8_workCatch 32 = .ok (.iload_n 1, 1) := by decide +kernel
theorem dX8_workCatch_33 : decode cX8_workCatch 33 = .ok (.invokevirtual 238, 3) := by decide +kernel
theorem dX8_workCatch_36 : decode cX8_workCatch 36 = .ok (.aload_n 0, 1) := by decide +kernel
theorem dX8_workCatch_37 : decode cX8_workCatch 37 = .ok (.getfield 22, 3) := by decide +kernel
theorem dX8_workCatch_40 : decode cX8_workCatch 40 = .ok (.ishr, 1) := by decide +kernel
theorem dX8_workCatch_41 : decode cX8_workCatch 41 = .ok (.iconst 1, 1) := by decide +kernel
theorem dX8_workCatch_42 : decode cX8_workCatch 42 = .ok (.iand, 1) := by decide +kernel
theorem dX8_workCatch_43 : decode cX8_workCatch 43 = .ok (.ifCond .ne 5, 3) := by decide +kernel
theorem dX8_workCatch_46 : decode cX8_workCatch 46 = .ok (.iconst 0, 1) := by decide +kernel
theorem dX8_workCatch_47 : decode cX8_workCatch 47 = .ok (.ireturn, 1) := by decide +kernel
theorem dX8_workCatch_48 : decode cX8_workCatch 48 = .ok (.aload_n 0, 1) := by decide +kernel
theorem dX8_workCatch_49 : decode cX8_workCatch 49 = .ok (.iconst 0, 1) := by decide +kernel
theorem dX8_workCatch_50 : decode cX8_workCatch 50 = .ok (.iconst 0, 1) := by decide +kernel
theorem dX8_workCatch_51 : decode cX8_workCatch 51 = .ok (.aload_n 0, 1) := by decide +kernel
theorem dX8_workCatch_52 : decode cX8_workCatch 52 = .ok (.getfield 22, 3) := by decide +kernel
theorem dX8_workCatch_55 : decode cX8_workCatch 55 = .ok (.invokevirtual 149, 3) := by decide +kernel
theorem dX8_workCatch_58 : decode cX8_workCatch 58 = .ok (.aload_n 0, 1) := by decide +kernel
theorem dX8_workCatch_59 : decode cX8_workCatch 59 = .ok (.aload_n 0, 1) := by decide +kernel
theorem dX8_workCatch_60 : decode cX8_workCatch 60 = .ok (.getfield 31, 3) := by decide +kernel
theorem dX8_workCatch_63 : decode cX8_workCatch 63 = .ok (.iload_n 1, 1) := by decide +kernel
theorem dX8_workCatch_64 : decode cX8_workCatch 64 = .ok (.invokevirtual 110, 3) := by decide +kernel
theorem dX8_workCatch_67 : decode cX8_workCatch 67 = .ok (.iload_n 2, 1) := by decide +kernel
theorem dX8_workCatch_68 : decode cX8_workCatch 68 = .ok (.iconst 1, 1) := by decide +kernel
theorem dX8_workCatch_69 : decode cX8_workCatch 69 = .ok (.iadd, 1) := by decide +kernel
theorem dX8_workCatch_70 : decode cX8_workCatch 70 = .ok (.invokevirtual 68, 3) := by decide +kernel
theorem dX8_workCatch_73 : decode cX8_workCatch 73 = .ok (.ireturn, 1) := by decide +kernel
theorem dX8_workBracket_0 : decode cX8_workBracket 0 = .ok (.aload_n 0, 1) := by decide +kernel
theorem dX8_workBracket_1 : decode cX8_workBracket 1 = .ok (.aload_n 0, 1) := by decide +kernel
theorem dX8_workBracket_2 : decode cX8_workBracket 2 = .ok (.getfield 31, 3) := by decide +kernel
theorem dX8_workBracket_5 : decode cX8_workBracket 5 = .ok (.iload_n 1, 1) := by decide +kernel
theorem dX8_workBracket_6 : decode cX8_workBracket 6 = .ok (.invokevirtual 85, 3) := by decide +kernel
theorem dX8_workBracket_9 : decode cX8_workBracket 9 = .ok (.iload_n 2, 1) := by decide +kernel
theorem dX8_workBracket_10 : decode cX8_workBracket 10 = .ok (.iconst 1, 1) := by decide +kernel
theorem dX8_workBracket_11 : decode cX8_workBracket 11 = .ok (.iadd, 1) := by decide +kernel
theorem dX8_workBracket_12 : decode cX8_workBracket 12 = .ok (.invokevirtual 68, 3) := by decide +kernel
theorem dX8_workBracket_15 : decode cX8_workBracket 15 = .ok (.ifCond .ne 5, 3) := by decide +kernel
theorem dX8_workBracket_18 : decode cX8_workBracket 18 = .ok (.iconst 0, 1) := by decide +kernel
theorem dX8_workBracket_19 : decode cX8_workBracket 19 = .ok (.ireturn, 1) := by decide +kernel
theorem dX8_workBracket_20 : decode cX8_workBracket 20 = .ok (.aload_n 0, 1) := by decide +kernel
theorem dX8_workBracket_21 : decode cX8_workBracket 21 = .ok (.getfield 18, 3) := by decide +kernel
theorem dX8_workBracket_24 : decode cX8_workBracket 24 = .ok (.istore_n 3, 1) := by decide +kernel
theorem dX8_workBracket_25 : decode cX8_workBracket 25 = .ok (.aload_n 0, 1) := by decide +kernel
theorem dX8_workBracket_26 : decode cX8_workBracket 26 = .ok (.getfield 22, 3) := by decide +kernel
theorem dX8_workBracket_29 : decode cX8_workBracket 29 = .ok (.istore 4, 2) := by decide +kernel
theorem dX8_workBracket_31 : decode cX8_workBracket 31 = .ok (.aload_n 0, 1) := by decide +kernel
theorem dX8_workBracket_32 : decode cX8_workBracket 32 = .ok (.iconst 5, 1) := by decide +kernel
theorem dX8_workBracket_33 : decode cX8_workBracket 33 = .ok (.iload_n 3, 1) := by decide +kernel
theorem dX8_workBracket_34 : decode cX8_workBracket 34 = .ok (.iload 4, 2) := by decide +kernel
theorem dX8_workBracket_36 : decode cX8_workBracket 36 = .ok (.invokevirtual 149, 3) := by decide +kernel
theorem dX8_workBracket_39 : decode cX8_workBracket 39 = .ok (.aload_n 0, 1) := by decide +kernel
theorem dX8_workBracket_40 : decode cX8_workBracket 40 = .ok (.aload_n 0, 1) := by decide +kernel
theorem dX8_workBracket_41 : decode cX8_workBracket 41 = .ok (.getfield 31, 3) := by decide +kernel
theorem dX8_workBracket_44 : decode cX8_workBracket 44 = .ok (.iload_n 1, 1) := by decide +kernel
theorem dX8_workBracket_45 : decode cX8_workBracket 45 = .ok (.invokevirtual 238, 3) := by decide +kernel
theorem dX8_workBracket_48 : decode cX8_workBracket 48 = .ok (.iload_n 2, 1) := by decide +kernel
theorem dX8_workBracket_49 : decode cX8_workBracket 49 = .ok (.iconst 1, 1) := by decide +kernel
theorem dX8_workBracket_50 : decode cX8_workBracket 50 = .ok (.iadd, 1) := by decide +kernel
theorem dX8_workBracket_51 : decode cX8_workBracket 51 = .ok (.invokevirtual 68, 3) := by decide +kernel
theorem dX8_workBracket_54 : decode cX8_workBracket 54 = .ok (.pop, 1) := by decide +kernel
theorem dX8_workBracket_55 : decode cX8_workBracket 55 = .ok (.aload_n 0, 1) := by decide +kernel
theorem dX8_workBracket_56 : decode cX8_workBracket 56 = .ok (.iconst 5, 1) := by decide +kernel
theorem dX8_workBracket_57 : decode cX8_workBracket 57 = .ok (.iload_n 3, 1) := by decide +kernel
theorem dX8_workBracket_58 : decode cX8_workBracket 58 = .ok (.iload 4, 2) := by decide +kernel
theorem dX8_workBracket_60 : decode cX8_workBracket 60 = .ok (.invokevirtual 149, 3) := by decide +kernel
theorem dX8_workBracket_63 : decode cX8_workBracket 63 = .ok (.aload_n 0, 1) := by decide +kernel
theorem dX8_workBracket_64 : decode cX8_workBracket 64 = .ok (.aload_n 0, 1) := by decide +kernel
theorem dX8_workBracket_65 : decode cX8_workBracket 65 = .ok (.getfield 31, 3) := by decide +kernel
theorem dX8_workBracket_68 : decode cX8_workBracket 68 = .ok (.iload_n 1, 1) := by decide +kernel
theorem dX8_workBracket_69 : decode cX8_workBracket 69 = .ok (.invokevirtual 110, 3) := by decide +kernel
theorem dX8_workBracket_72 : decode cX8_workBracket 72 = .ok (.iload_n 2, 1) := by decide +kernel
theorem dX8_workBracket_73 : decode cX8_workBracket 73 = .ok (.invokevirtual 122, 3) := by decide +kernel
theorem dX8_workBracket_76 : decode cX8_workBracket 76 = .ok (.ireturn, 1) := by decide +kernel
theorem dX8_workEnd_0 : decode cX8_workEnd 0 = .ok (.aload_n 0, 1) := by decide +kernel
theorem dX8_workEnd_1 : decode cX8_workEnd 1 = .ok (.getfield 18, 3) := by decide +kernel
theorem dX8_workEnd_4 : decode cX8_workEnd 4 = .ok (.iconst 5, 1) := by decide +kernel
theorem dX8_workEnd_5 : decode cX8_workEnd 5 = .ok (.if_icmp .ne 5, 3) := by decide +kernel
theorem dX8_workEnd_8 : decode cX8_workEnd 8 = .ok (.iconst 0, 1) := by decide +kernel
theorem dX8_workEnd_9 : decode cX8_workEnd 9 = .ok (.ireturn, 1) := by decide +kernel
theorem dX8_workEnd_10 : decode cX8_workEnd 10 = .ok (.aload_n 0, 1) := by decide +kernel
theorem dX8_workEnd_11 : decode cX8_workEnd 11 = .ok (.getfield 18, 3) := by decide +kernel
theorem dX8_workEnd_14 : decode cX8_workEnd 14 = .ok (.istore_n 3, 1) := by decide +kernel
theorem dX8_workEnd_15 : decode cX8_workEnd 15 = .ok (.aload_n 0, 1) := by decide +kernel
theorem dX8_workEnd_16 : decode cX8_workEnd 16 = .ok (.getfield 22, 3) := by decide +kernel
theorem dX8_workEnd_19 : decode cX8_workEnd 19 = .ok (.istore 4, 2) := by decide +kernel
theorem dX8_workEnd_21 : decode cX8_workEnd 21 = .ok (.aload_n 0, 1) := by decide +kernel
theorem dX8_workEnd_22 : decode cX8_workEnd 22 = .ok (.getfield 25, 3) := by decide +kernel
theorem dX8_workEnd_25 : decode cX8_workEnd 25 = .ok (.istore 5, 2) := by decide +kernel
theorem dX8_workEnd_27 : decode cX8_workEnd 27 = .ok (.aload_n 0, 1) := by decide +kernel
theorem dX8_workEnd_28 : decode cX8_workEnd 28 = .ok (.iload_n 1, 1) := by decide +kernel
theorem dX8_workEnd_29 : decode cX8_workEnd 29 = .ok (.iload_n 2, 1) := by decide +kernel
theorem dX8_workEnd_30 : decode cX8_workEnd 30 = .ok (.iconst 1, 1) := by decide +kernel
theorem dX8_workEnd_31 : decode cX8_workEnd 31 = .ok (.iadd, 1) := by decide +kernel
theorem dX8_workEnd_32 : decode cX8_workEnd 32 = .ok (.invokevirtual 68, 3) := by decide +kernel
theorem dX8_workEnd_35 : decode cX8_workEnd 35 = .ok (.ifCond .ne 5, 3) := by decide +kernel
theorem dX8_workEnd_38 : decode cX8_workEnd 38 = .ok (.iconst 0, 1) := by decide +kernel
theorem dX8_workEnd_39 : decode cX8_workEnd 39 = .ok (.ireturn, 1) := by decide +kernel
theorem dX8_workEnd_40 : decode cX8_workEnd 40 = .ok (.aload_n 0, 1) := by decide +kernel
theorem dX8_workEnd_41 : decode cX8_workEnd 41 = .ok (.iload_n 3, 1) := by decide +kernel
theorem dX8_workEnd_42 : decode cX8_workEnd 42 = .ok (.putfield 18, 3) := by decide +kernel
theorem dX8_workEnd_45 : decode cX8_workEnd 45 = .ok (.aload_n 0, 1) := by decide +kernel
theorem dX8_workEnd_46 : decode cX8_workEnd 46 = .ok (.iload 4, 2) := by decide +kernel
theorem dX8_workEnd_48 : decode cX8_workEnd 48 = .ok (.putfield 22, 3) := by decide +kernel
theorem dX8_workEnd_51 : decode cX8_workEnd 51 = .ok (.aload_n 0, 1) := by decide +kernel
theorem dX8_workEnd_52 : decode cX8_workEnd 52 = .ok (.iload 5, 2) := by decide +kernel
theorem dX8_workEnd_54 : decode cX8_workEnd 54 = .ok (.putfield 25, 3) := by decide +kernel
theorem dX8_workEnd_57 : decode cX8_workEnd 57 = .ok (.aload_n 0, 1) := by decide +kernel
theorem dX8_workEnd_58 : decode cX8_workEnd 58 = .ok (.getfield 18, 3) := by decide +kernel
theorem dX8_workEnd_61 : decode cX8_workEnd 61 = .ok (.iconst 2, 1) := by decide +kernel
theorem dX8_workEnd_62 : decode cX8_workEnd 62 = .ok (.if_icmp .gt 7, 3) := by decide +kernel
theorem dX8_workEnd_65 : decode cX8_workEnd 65 = .ok (.iconst 1, 1) := by decide +kernel
theorem dX8_workEnd_66 : decode cX8_workEnd 66 = .ok (.goto 4, 3) := by decide +kernel
theorem dX8_workEnd_69 : decode cX8_workEnd 69 = .ok (.iconst 0, 1) := by decide +kernel
theorem dX8_workEnd_70 : decode cX8_workEnd 70 = .ok (.ireturn, 1) := by decide +kernel
theorem dX9_init_0 : decode cX9_init 0 = .ok (.aload_n 0, 1) := by decide +kernel
theorem dX9_init_1 : decode cX9_init 1 = .ok (.invokespecial 1, 3) := by decide +kernel
theorem dX9_init_4 : decode cX9_init 4 = .ok (.aload_n 0, 1) := by decide +kernel
theorem dX9_init_5 : decode cX9_init 5 = .ok (.new 7, 3) := by decide +kernel
theorem dX9_init_8 : decode cX9_init 8 = .ok (.dup, 1) := by decide +kernel
theorem dX9_init_9 : decode cX9_init 9 = .ok (.invokespecial 9, 3) := by decide +kernel
theorem dX9_init_12 : decode cX9_init 12 = .ok (.putfield 10, 3) := by decide +kernel
theorem dX9_init_15 : decode cX9_init 15 = .ok (.aload_n 0, 1) := by decide +kernel
theorem dX9_init_16 : decode cX9_init 16 = .ok (.new 16, 3) := by decide +kernel
theorem dX9_init_19 : decode cX9_init 19 = .ok (.dup, 1) := by decide +kernel
theorem dX9_init_20 : decode cX9_init 20 = .ok (.invokespecial 18, 3) := by decide +kernel
theorem dX9_init_23 : decode cX9_init 23 = .ok (.putfield 19, 3) := by decide +kernel
theorem dX9_init_26 : decode cX9_init 26 = .ok (.aload_n 0, 1) := by decide +kernel
theorem dX9_init_27 : decode cX9_init 27 = .ok (.new 23, 3) := by decide +kernel
theorem dX9_init_30 : decode cX9_init 30 = .ok (.dup, 1) := by decide +kernel
theorem dX9_init_31 : decode cX9_init 31 = .ok (.invokespecial 25, 3) := by decide +kernel
theorem dX9_init_34 : decode cX9_init 34 = .ok (.putfield 26, 3) := by decide +kernel
theorem dX9_init_37 : decode cX9_init 37 = .ok (.aload_n 0, 1) := by decide +kernel
theorem dX9_init_38 : decode cX9_init 38 = .ok (.new 30, 3) := by decide +kernel
theorem dX9_init_41 : decode cX9_init 41 = .ok (.dup, 1) := by decide +kernel
theorem dX9_init_42 : decode cX9_init 42 = .ok (.aload_n 0, 1) := by decide +kernel
theorem dX9_init_43 : decode cX9_init 43 = .ok (.getfield 10, 3) := by decide +kernel
theorem dX9_init_46 : decode cX9_init 46 = .ok (.invokespecial 32, 3) := by decide +kernel
theorem dX9_init_49 : decode cX9_init 49 = .ok (.putfield 35, 3) := by decide +kernel
theorem dX9_init_52 : decode cX9_init 52 = .ok (.aload_n 0, 1) := by decide +kernel
theorem dX9_init_53 : decode cX9_init 53 = .ok (.new 39, 3) := by decide +kernel
theorem dX9_init_56 : decode cX9_init 56 = .ok (.dup, 1) := by decide +kernel
theorem dX9_init_57 : decode cX9_init 57 = .ok (.invokespecial 41, 3) := by decide +kernel
theorem dX9_init_60 : decode cX9_init 60 = .ok (.putfield 42, 3) := by decide +kernel
theorem dX9_init_63 : decode cX9_init 63 = .ok (.aload_n 0, 1) := by decide +kernel
theorem dX9_init_64 : decode cX9_init 64 = .ok (.new 46, 3) := by decide +kernel
theorem dX9_init_67 : decode cX9_init 67 = .ok (.dup, 1) := by decide +kernel
theorem dX9_init_68 : decode cX9_init 68 = .ok (.invokespecial 48, 3) := by decide +kernel
theorem dX9_init_71 : decode cX9_init 71 = .ok (.putfield 49, 3) := by decide +kernel
theorem dX9_init_74 : decode cX9_init 74 = .ok (.aload_n 0, 1) := by decide +kernel
theorem dX9_init_75 : decode cX9_init 75 = .ok (.new 53, 3) := by decide +kernel
theorem dX9_init_78 : decode cX9_init 78 = .ok (.dup, 1) := by decide +kernel
theorem dX9_init_79 : decode cX9_init 79 = .ok (.aload_n 0, 1) := by decide +kernel
theorem dX9_init_80 : decode cX9_init 80 = .ok (.getfield 26, 3) := by decide +kernel
theorem dX9_init_83 : decode cX9_init 83 = .ok (.aload_n 0, 1) := by decide +kernel
theorem dX9_init_84 : decode cX9_init 84 = .ok (.getfield 19, 3) := by decide +kernel
theorem dX9_init_87 : decode cX9_init 87 = .ok (.aload_n 0, 1) := by decide +kernel
theorem dX9_init_88 : decode cX9_init 88 = .ok (.getfield 35, 3) := by decide +kernel
theorem dX9_init_91 : decode cX9_init 91 = .ok (.aload_n 0, 1) := by decide +kernel
theorem dX9_init_92 : decode cX9_init 92 = .ok (.getfield 42, 3) := by decide +kernel
theorem dX9_init_95 : decode cX9_init 95 = .ok (.aload_n 0, 1) := by decide +kernel
theorem dX9_init_96 : decode cX9_init 96 = .ok (.getfield 49, 3) := by decide +kernel
theorem dX9_init_99 : decode cX9_init 99 = .ok (.invokespecial 55, 3) := by decide +kernel
theorem dX9_init_102 : decode cX9_init 102 = .ok (.putfield 58, 3) := by decide +kernel
theorem dX9_init_105 : decode cX9_init 105 = .ok (.return_, 1) := by decide +kernel
theorem dX9_lay_0 : decode cX9_lay 0 = .ok (.iload_n 1, 1) := by decide +kernel
theorem dX9_lay_1 : decode cX9_lay 1 = .ok (.bipush 8, 2) := by decide +kernel
theorem dX9_lay_3 : decode cX9_lay 3 = .ok (.invokestatic 62, 3) := by decide +kernel
theorem dX9_lay_6 : decode cX9_lay 6 = .ok (.ifCond .eq 13, 3) := by decide +kernel
theorem dX9_lay_9 : decode cX9_lay 9 = .ok (.iload_n 2, 1) := by decide +kernel
theorem dX9_lay_10 : decode cX9_lay 10 = .ok (.sipush 256, 3) := by decide +kernel
theorem dX9_lay_13 : decode cX9_lay 13 = .ok (.invokestatic 62, 3) := by decide +kernel
theorem dX9_lay_16 : decode cX9_lay 16 = .ok (.ifCond .ne 6, 3) := by decide +kernel
theorem dX9_lay_19 : decode cX9_lay 19 = .ok (.bipush (-2), 2) := by decide +kernel
theorem dX9_lay_21 : decode cX9_lay 21 = .ok (.ireturn, 1) := by decide +kernel
theorem dX9_lay_22 : decode cX9_lay 22 = .ok (.aload_n 0, 1) := by decide +kernel
theorem dX9_lay_23 : decode cX9_lay 23 = .ok (.getfield 10, 3) := by decide +kernel
theorem dX9_lay_26 : decode cX9_lay 26 = .ok (.iload_n 1, 1) := by decide +kernel
theorem dX9_lay_27 : decode cX9_lay 27 = .ok (.iload_n 2, 1) := by decide +kernel
theorem dX9_lay_28 : decode cX9_lay 28 = .ok (.invokevirtual 66, 3) := by decide +kernel
theorem dX9_lay_31 : decode cX9_lay 31 = .ok (.ifCond .eq 14, 3) := by decide +kernel
theorem dX9_lay_34 : decode cX9_lay 34 = .ok (.aload_n 0, 1) := by decide +kernel
theorem dX9_lay_35 : decode cX9_lay 35 = .ok (.getfield 10, 3) := by decide +kernel
theorem dX9_lay_38 : decode cX9_lay 38 = .ok (.iload_n 1, 1) := by decide +kernel
theorem dX9_lay_39 : decode cX9_lay 39 = .ok (.invokevirtual 69, 3) := by decide +kernel
theorem dX9_lay_42 : decode cX9_lay 42 = .ok (.goto 5, 3) := by decide +kernel
theorem dX9_lay_45 : decode cX9_lay 45 = .ok (.bipush (-3), 2) := by decide +kernel
theorem dX9_lay_47 : decode cX9_lay 47 = .ok (.ireturn, 1) := by decide +kernel
theorem dX9_there_0 : decode cX9_there 0 = .ok (.iload_n 1, 1) := by decide +kernel
theorem dX9_there_1 : decode cX9_there 1 = .ok (.bipush 8, 2) := by decide +kernel
theorem dX9_there_3 : decode cX9_there 3 = .ok (.invokestatic 62, 3) := by decide +kernel
theorem dX9_there_6 : decode cX9_there 6 = .ok (.ifCond .ne 6, 3) := by decide +kernel
theorem dX9_there_9 : decode cX9_there 9 = .ok (.bipush (-2), 2) := by decide +kernel
theorem dX9_there_11 : decode cX9_there 11 = .ok (.ireturn, 1) := by decide +kernel
theorem dX9_there_12 : decode cX9_there 12 = .ok (.aload_n 0, 1) := by decide +kernel
theorem dX9_there_13 : decode cX9_there 13 = .ok (.getfield 10, 3) := by decide +kernel
theorem dX9_there_16 : decode cX9_there 16 = .ok (.iload_n 1, 1) := by decide +kernel
theorem dX9_there_17 : decode cX9_there 17 = .ok (.invokevirtual 73, 3) := by decide +kernel
theorem dX9_there_20 : decode cX9_there 20 = .ok (.ifCond .eq 7, 3) := by decide +kernel
theorem dX9_there_23 : decode cX9_there 23 = .ok (.iconst 1, 1) := by decide +kernel
theorem dX9_there_24 : decode cX9_there 24 = .ok (.goto 4, 3) := by decide +kernel
theorem dX9_there_27 : decode cX9_there 27 = .ok (.iconst 0, 1) := by decide +kernel
theorem dX9_there_28 : decode cX9_there 28 = .ok (.istore_n 3, 1) := by decide +kernel
theorem dX9_there_29 : decode cX9_there 29 = .ok (.iload_n 2, 1) := by decide +kernel
theorem dX9_there_30 : decode cX9_there 30 = .ok (.ifCond .eq 14, 3) := by decide +kernel
theorem dX9_there_33 : decode cX9_there 33 = .ok (.aload_n 0, 1) := by decide +kernel
theorem dX9_there_34 : decode cX9_there 34 = .ok (.getfield 10, 3) := by decide +kernel
theorem dX9_there_37 : decode cX9_there 37 = .ok (.iload_n 1, 1) := by decide +kernel
theorem dX9_there_38 : decode cX9_there 38 = .ok (.invokevirtual 77, 3) := by decide +kernel
theorem dX9_there_41 : decode cX9_there 41 = .ok (.goto 11, 3) := by decide +kernel
theorem dX9_there_44 : decode cX9_there 44 = .ok (.aload_n 0, 1) := by decide +kernel
theorem dX9_there_45 : decode cX9_there 45 = .ok (.getfield 10, 3) := by decide +kernel
theorem dX9_there_48 : decode cX9_there 48 = .ok (.iload_n 1, 1) := by decide +kernel
theorem dX9_there_49 : decode cX9_there 49 = .ok (.invokevirtual 81, 3) := by decide +kernel
theorem dX9_there_52 : decode cX9_there 52 = .ok (.iload_n 3, 1) := by decide +kernel
theorem dX9_there_53 : decode cX9_there 53 = .ok (.ireturn, 1) := by decide +kernel
theorem dX9_permit_0 : decode cX9_permit 0 = .ok (.iload_n 1, 1) := by decide +kernel
theorem dX9_permit_1 : decode cX9_permit 1 = .ok (.bipush 8, 2) := by decide +kernel
theorem dX9_permit_3 : decode cX9_permit 3 = .ok (.invokestatic 62, 3) := by decide +kernel
theorem dX9_permit_6 : decode cX9_permit 6 = .ok (.ifCond .eq 11, 3) := by decide +kernel
theorem dX9_permit_9 : decode cX9_permit 9 = .ok (.iload_n 2, 1) := by decide +kernel
theorem dX9_permit_10 : decode cX9_permit 10 = .ok (.iconst 4, 1) := by decide +kernel
theorem dX9_permit_11 : decode cX9_permit 11 = .ok (.invokestatic 62, 3) := by decide +kernel
theorem dX9_permit_14 : decode cX9_permit 14 = .ok (.ifCond .ne 6, 3) := by decide +kernel
theorem dX9_permit_17 : decode cX9_permit 17 = .ok (.bipush (-2), 2) := by decide +kernel
theorem dX9_permit_19 : decode cX9_permit 19 = .ok (.ireturn, 1) := by decide +kernel
theorem dX9_permit_20 : decode cX9_permit 20 = .ok (.aload_n 0, 1) := by decide +kernel
theorem dX9_permit_21 : decode cX9_permit 21 = .ok (.getfield 10, 3) := by decide +kernel
theorem dX9_permit_24 : decode cX9_permit 24 = .ok (.iload_n 1, 1) := by decide +kernel
theorem dX9_permit_25 : decode cX9_permit 25 = .ok (.iload_n 2, 1) := by decide +kernel
theorem dX9_permit_26 : decode cX9_permit 26 = .ok (.invokevirtual 84, 3) := by decide +kernel
theorem dX9_permit_29 : decode cX9_permit 29 = .ok (.ireturn, 1) := by decide +kernel
theorem dX9_input_0 : decode cX9_input 0 = .ok (.iload_n 1, 1) := by decide +kernel
theorem dX9_input_1 : decode cX9_input 1 = .ok (.sipush 256, 3) := by decide +kernel
theorem dX9_input_4 : decode cX9_input 4 = .ok (.invokestatic 62, 3) := by decide +kernel
theorem dX9_input_7 : decode cX9_input 7 = .ok (.ifCond .ne 6, 3) := by decide +kernel
theorem dX9_input_10 : decode cX9_input 10 = .ok (.bipush (-2), 2) := by decide +kernel
theorem dX9_input_12 : decode cX9_input 12 = .ok (.ireturn, 1) := by decide +kernel
theorem dX9_input_13 : decode cX9_input 13 = .ok (.aload_n 0, 1) := by decide +kernel
theorem dX9_input_14 : decode cX9_input 14 = .ok (.getfield 19, 3) := by decide +kernel
theorem dX9_input_17 : decode cX9_input 17 = .ok (.iload_n 1, 1) := by decide +kernel
theorem dX9_input_18 : decode cX9_input 18 = .ok (.invokevirtual 88, 3) := by decide +kernel
theorem dX9_input_21 : decode cX9_input 21 = .ok (.ifCond .eq 13, 3) := by decide +kernel
theorem dX9_input_24 : decode cX9_input 24 = .ok (.aload_n 0, 1) := by decide +kernel
theorem dX9_input_25 : decode cX9_input 25 = .ok (.getfield 19, 3) := by decide +kernel
theorem dX9_input_28 : decode cX9_input 28 = .ok (.invokevirtual 91, 3) := by decide +kernel
theorem dX9_input_31 : decode cX9_input 31 = .ok (.goto 5, 3) := by decide +kernel
theorem dX9_input_34 : decode cX9_input 34 = .ok (.bipush (-3), 2) := by decide +kernel
theorem dX9_input_36 : decode cX9_input 36 = .ok (.ireturn, 1) := by decide +kernel
theorem dX9_node_0 : decode cX9_node 0 = .ok (.iload_n 1, 1) := by decide +kernel
theorem dX9_node_1 : decode cX9_node 1 = .ok (.bipush 29, 2) := by decide +kernel
theorem dX9_node_3 : decode cX9_node 3 = .ok (.invokestatic 62, 3) := by decide +kernel
theorem dX9_node_6 : decode cX9_node 6 = .ok (.ifCond .eq 18, 3) := by decide +kernel
theorem dX9_node_9 : decode cX9_node 9 = .ok (.aload_n 0, 1) := by decide +kernel
theorem dX9_node_10 : decode cX9_node 10 = .ok (.getfield 26, 3) := by decide +kernel
theorem dX9_node_13 : decode cX9_node 13 = .ok (.iload_n 1, 1) := by decide +kernel
theorem dX9_node_14 : decode cX9_node 14 = .ok (.iload_n 2, 1) := by decide +kernel
theorem dX9_node_15 : decode cX9_node 15 = .ok (.iload_n 3, 1) := by decide +kernel
theorem dX9_node_16 : decode cX9_node 16 = .ok (.iload 4, 2) := by decide +kernel
theorem dX9_node_18 : decode cX9_node 18 = .ok (.invokevirtual 95, 3) := by decide +kernel
theorem dX9_node_21 : decode cX9_node 21 = .ok (.ifCond .ne 6, 3) := by decide +kernel
theorem dX9_node_24 : decode cX9_node 24 = .ok (.bipush (-2), 2) := by decide +kernel
theorem dX9_node_26 : decode cX9_node 26 = .ok (.ireturn, 1) := by decide +kernel
theorem dX9_node_27 : decode cX9_node 27 = .ok (.aload_n 0, 1) := by decide +kernel
theorem dX9_node_28 : decode cX9_node 28 = .ok (.getfield 26, 3) := by decide +kernel
theorem dX9_node_31 : decode cX9_node 31 = .ok (.iload_n 1, 1) := by decide +kernel
theorem dX9_node_32 : decode cX9_node 32 = .ok (.iload_n 2, 1) := by decide +kernel
theorem dX9_node_33 : decode cX9_node 33 = .ok (.iload_n 3, 1) := by decide +kernel
theorem dX9_node_34 : decode cX9_node 34 = .ok (.iload 4, 2) := by decide +kernel
theorem dX9_node_36 : decode cX9_node 36 = .ok (.invokevirtual 99, 3) := by decide +kernel
theorem dX9_node_39 : decode cX9_node 39 = .ok (.ireturn, 1) := by decide +kernel
theorem dX9_clear_0 : decode cX9_clear 0 = .ok (.aload_n 0, 1) := by decide +kernel
theorem dX9_clear_1 : decode cX9_clear 1 = .ok (.getfield 26, 3) := by decide +kernel
theorem dX9_clear_4 : decode cX9_clear 4 = .ok (.invokevirtual 103, 3) := by decide +kernel
theorem dX9_clear_7 : decode cX9_clear 7 = .ok (.istore_n 1, 1) := by decide +kernel
theorem dX9_clear_8 : decode cX9_clear 8 = .ok (.aload_n 0, 1) := by decide +kernel
theorem dX9_clear_9 : decode cX9_clear 9 = .ok (.getfield 26, 3) := by decide +kernel
theorem dX9_clear_12 : decode cX9_clear 12 = .ok (.invokevirtual 106, 3) := by decide +kernel
theorem dX9_clear_15 : decode cX9_clear 15 = .ok (.aload_n 0, 1) := by decide +kernel
theorem dX9_clear_16 : decode cX9_clear 16 = .ok (.getfield 19, 3) := by decide +kernel
theorem dX9_clear_19 : decode cX9_clear 19 = .ok (.invokevirtual 109, 3) := by decide +kernel
theorem dX9_clear_22 : decode cX9_clear 22 = .ok (.iload_n 1, 1) := by decide +kernel
theorem dX9_clear_23 : decode cX9_clear 23 = .ok (.ireturn, 1) := by decide +kernel
theorem dX9_run_0 : decode cX9_run 0 = .ok (.iload_n 1, 1) := by decide +kernel
theorem dX9_run_1 : decode cX9_run 1 = .ok (.aload_n 0, 1) := by decide +kernel
theorem dX9_run_2 : decode cX9_run 2 = .ok (.getfield 26, 3) := by decide +kernel
theorem dX9_run_5 : decode cX9_run 5 = .ok (.invokevirtual 103, 3) := by decide +kernel
theorem dX9_run_8 : decode cX9_run 8 = .ok (.invokestatic 62, 3) := by decide +kernel
theorem dX9_run_11 : decode cX9_run 11 = .ok (.ifCond .ne 6, 3) := by decide +kernel
theorem dX9_run_14 : decode cX9_run 14 = .ok (.bipush (-2), 2) := by decide +kernel
theorem dX9_run_16 : decode cX9_run 16 = .ok (.ireturn, 1) := by decide +kernel
theorem dX9_run_17 : decode cX9_run 17 = .ok (.aload_n 0, 1) := by decide +kernel
theorem dX9_run_18 : decode cX9_run 18 = .ok (.getfield 58, 3) := by decide +kernel
theorem dX9_run_21 : decode cX9_run 21 = .ok (.iload_n 1, 1) := by decide +kernel
theorem dX9_run_22 : decode cX9_run 22 = .ok (.invokevirtual 110, 3) := by decide +kernel
theorem dX9_run_25 : decode cX9_run 25 = .ok (.ireturn, 1) := by decide +kernel
theorem dX9_value_0 : decode cX9_value 0 = .ok (.aload_n 0, 1) := by decide +kernel
theorem dX9_value_1 : decode cX9_value 1 = .ok (.getfield 58, 3) := by decide +kernel
theorem dX9_value_4 : decode cX9_value 4 = .ok (.invokevirtual 113, 3) := by decide +kernel
theorem dX9_value_7 : decode cX9_value 7 = .ok (.ireturn, 1) := by decide +kernel
theorem dX9_where_0 : decode cX9_where 0 = .ok (.aload_n 0, 1) := by decide +kernel
theorem dX9_where_1 : decode cX9_where 1 = .ok (.getfield 58, 3) := by decide +kernel
theorem dX9_where_4 : decode cX9_where 4 = .ok (.invokevirtual 116, 3) := by decide +kernel
theorem dX9_where_7 : decode cX9_where 7 = .ok (.ireturn, 1) := by decide +kernel
theorem dX9_worked_0 : decode cX9_worked 0 = .ok (.aload_n 0, 1) := by decide +kernel
theorem dX9_worked_1 : decode cX9_worked 1 = .ok (.getfield 58, 3) := by decide +kernel
theorem dX9_worked_4 : decode cX9_worked 4 = .ok (.invokevirtual 119, 3) := by decide +kernel
theorem dX9_worked_7 : decode cX9_worked 7 = .ok (.ireturn, 1) := by decide +kernel
theorem dX9_order_0 : decode cX9_order 0 = .ok (.aload_n 0, 1) := by decide +kernel
theorem dX9_order_1 : decode cX9_order 1 = .ok (.getfield 49, 3) := by decide +kernel
theorem dX9_order_4 : decode cX9_order 4 = .ok (.iload_n 1, 1) := by decide +kernel
theorem dX9_order_5 : decode cX9_order 5 = .ok (.invokevirtual 122, 3) := by decide +kernel
theorem dX9_order_8 : decode cX9_order 8 = .ok (.ireturn, 1) := by decide +kernel
theorem dX9_handle_0 : decode cX9_handle 0 = .ok (.iload_n 2, 1) := by decide +kernel
theorem dX9_handle_1 : decode cX9_handle 1 = .ok (.bipush 6, 2) := by decide +kernel
theorem dX9_handle_3 : decode cX9_handle 3 = .ok (.invokestatic 62, 3) := by decide +kernel
theorem dX9_handle_6 : decode cX9_handle 6 = .ok (.ifCond .ne 6, 3) := by decide +kernel
theorem dX9_handle_9 : decode cX9_handle 9 = .ok (.bipush (-2), 2) := by decide +kernel
theorem dX9_handle_11 : decode cX9_handle 11 = .ok (.ireturn, 1) := by decide +kernel
theorem dX9_handle_12 : decode cX9_handle 12 = .ok (.aload_n 0, 1) := by decide +kernel
theorem dX9_handle_13 : decode cX9_handle 13 = .ok (.getfield 35, 3) := by decide +kernel
theorem dX9_handle_16 : decode cX9_handle 16 = .ok (.iload_n 1, 1) := by decide +kernel
theorem dX9_handle_17 : decode cX9_handle 17 = .ok (.invokevirtual 127, 3) := by decide +kernel
theorem dX9_handle_20 : decode cX9_handle 20 = .ok (.astore_n 3, 1) := by decide +kernel
theorem dX9_handle_21 : decode cX9_handle 21 = .ok (.aload_n 3, 1) := by decide +kernel
theorem dX9_handle_22 : decode cX9_handle 22 = .ok (.ifnonnull 7, 3) := by decide +kernel
theorem dX9_handle_25 : decode cX9_handle 25 = .ok (.iconst (-1), 1) := by decide +kernel
theorem dX9_handle_26 : decode cX9_handle 26 = .ok (.goto 8, 3) := by decide +kernel
theorem dX9_handle_29 : decode cX9_handle 29 = .ok (.aload_n 3, 1) := by decide +kernel
theorem dX9_handle_30 : decode cX9_handle 30 = .ok (.iload_n 2, 1) := by decide +kernel
theorem dX9_handle_31 : decode cX9_handle 31 = .ok (.invokevirtual 131, 3) := by decide +kernel
theorem dX9_handle_34 : decode cX9_handle 34 = .ok (.ireturn, 1) := by decide +kernel
theorem dX9_content_0 : decode cX9_content 0 = .ok (.iload_n 1, 1) := by decide +kernel
theorem dX9_content_1 : decode cX9_content 1 = .ok (.bipush 8, 2) := by decide +kernel
theorem dX9_content_3 : decode cX9_content 3 = .ok (.invokestatic 62, 3) := by decide +kernel
theorem dX9_content_6 : decode cX9_content 6 = .ok (.ifCond .eq 15, 3) := by decide +kernel
theorem dX9_content_9 : decode cX9_content 9 = .ok (.aload_n 0, 1) := by decide +kernel
theorem dX9_content_10 : decode cX9_content 10 = .ok (.getfield 10, 3) := by decide +kernel
theorem dX9_content_13 : decode cX9_content 13 = .ok (.iload_n 1, 1) := by decide +kernel
theorem dX9_content_14 : decode cX9_content 14 = .ok (.iload_n 2, 1) := by decide +kernel
theorem dX9_content_15 : decode cX9_content 15 = .ok (.invokevirtual 134, 3) := by decide +kernel
theorem dX9_content_18 : decode cX9_content 18 = .ok (.goto 5, 3) := by decide +kernel
theorem dX9_content_21 : decode cX9_content 21 = .ok (.bipush (-2), 2) := by decide +kernel
theorem dX9_content_23 : decode cX9_content 23 = .ok (.ireturn, 1) := by decide +kernel
theorem dX9_size_0 : decode cX9_size 0 = .ok (.iload_n 1, 1) := by decide +kernel
theorem dX9_size_1 : decode cX9_size 1 = .ok (.bipush 8, 2) := by decide +kernel
theorem dX9_size_3 : decode cX9_size 3 = .ok (.invokestatic 62, 3) := by decide +kernel
theorem dX9_size_6 : decode cX9_size 6 = .ok (.ifCond .ne 6, 3) := by decide +kernel
theorem dX9_size_9 : decode cX9_size 9 = .ok (.bipush (-2), 2) := by decide +kernel
theorem dX9_size_11 : decode cX9_size 11 = .ok (.ireturn, 1) := by decide +kernel
theorem dX9_size_12 : decode cX9_size 12 = .ok (.aload_n 0, 1) := by decide +kernel
theorem dX9_size_13 : decode cX9_size 13 = .ok (.getfield 10, 3) := by decide +kernel
theorem dX9_size_16 : decode cX9_size 16 = .ok (.iload_n 1, 1) := by decide +kernel
theorem dX9_size_17 : decode cX9_size 17 = .ok (.invokevirtual 73, 3) := by decide +kernel
theorem dX9_size_20 : decode cX9_size 20 = .ok (.ifCond .eq 14, 3) := by decide +kernel
theorem dX9_size_23 : decode cX9_size 23 = .ok (.aload_n 0, 1) := by decide +kernel
theorem dX9_size_24 : decode cX9_size 24 = .ok (.getfield 10, 3) := by decide +kernel
theorem dX9_size_27 : decode cX9_size 27 = .ok (.iload_n 1, 1) := by decide +kernel
theorem dX9_size_28 : decode cX9_size 28 = .ok (.invokevirtual 69, 3) := by decide +kernel
theorem dX9_size_31 : decode cX9_size 31 = .ok (.goto 4, 3) := by decide +kernel
theorem dX9_size_34 : decode cX9_size 34 = .ok (.iconst (-1), 1) := by decide +kernel
theorem dX9_size_35 : decode cX9_size 35 = .ok (.ireturn, 1) := by decide +kernel
theorem dX9_printed_0 : decode cX9_printed 0 = .ok (.aload_n 0, 1) := by decide +kernel
theorem dX9_printed_1 : decode cX9_printed 1 = .ok (.getfield 19, 3) := by decide +kernel
theorem dX9_printed_4 : decode cX9_printed 4 = .ok (.iload_n 1, 1) := by decide +kernel
theorem dX9_printed_5 : decode cX9_printed 5 = .ok (.invokevirtual 137, 3) := by decide +kernel
theorem dX9_printed_8 : decode cX9_printed 8 = .ok (.ireturn, 1) := by decide +kernel
theorem dX9_told_0 : decode cX9_told 0 = .ok (.iload_n 1, 1) := by decide +kernel
theorem dX9_told_1 : decode cX9_told 1 = .ok (.tableswitch 99 0 6 #[43, 51, 59, 67, 75, 83, 91], 43) := by decide +kernel
theorem dX9_told_44 : decode cX9_told 44 = .ok (.aload_n 0, 1) := by decide +kernel
theorem dX9_told_45 : decode cX9_told 45 = .ok (.getfield 26, 3) := by decide +kernel
theorem dX9_told_48 : decode cX9_told 48 = .ok (.invokevirtual 103, 3) := by decide +kernel
theorem dX9_told_51 : decode cX9_told 51 = .ok (.ireturn, 1) := by decide +kernel
theorem dX9_told_52 : decode cX9_told 52 = .ok (.aload_n 0, 1) := by decide +kernel
theorem dX9_told_53 : decode cX9_told 53 = .ok (.getfield 19, 3) := by decide +kernel
theorem dX9_told_56 : decode cX9_told 56 = .ok (.invokevirtual 91, 3) := by decide +kernel
theorem dX9_told_59 : decode cX9_told 59 = .ok (.ireturn, 1) := by decide +kernel
theorem dX9_told_60 : decode cX9_told 60 = .ok (.aload_n 0, 1) := by decide +kernel
theorem dX9_told_61 : decode cX9_told 61 = .ok (.getfield 19, 3) := by decide +kernel
theorem dX9_told_64 : decode cX9_told 64 = .ok (.invokevirtual 140, 3) := by decide +kernel
theorem dX9_told_67 : decode cX9_told 67 = .ok (.ireturn, 1) := by decide +kernel
theorem dX9_told_68 : decode cX9_told 68 = .ok (.aload_n 0, 1) := by decide +kernel
theorem dX9_told_69 : decode cX9_told 69 = .ok (.getfield 10, 3) := by decide +kernel
theorem dX9_told_72 : decode cX9_told 72 = .ok (.invokevirtual 143, 3) := by decide +kernel
theorem dX9_told_75 : decode cX9_told 75 = .ok (.ireturn, 1) := by decide +kernel
theorem dX9_told_76 : decode cX9_told 76 = .ok (.aload_n 0, 1) := by decide +kernel
theorem dX9_told_77 : decode cX9_told 77 = .ok (.getfield 35, 3) := by decide +kernel
theorem dX9_told_80 : decode cX9_told 80 = .ok (.invokevirtual 146, 3) := by decide +kernel
theorem dX9_told_83 : decode cX9_told 83 = .ok (.ireturn, 1) := by decide +kernel
theorem dX9_told_84 : decode cX9_told 84 = .ok (.aload_n 0, 1) := by decide +kernel
theorem dX9_told_85 : decode cX9_told 85 = .ok (.getfield 42, 3) := by decide +kernel
theorem dX9_told_88 : decode cX9_told 88 = .ok (.invokevirtual 149, 3) := by decide +kernel
theorem dX9_told_91 : decode cX9_told 91 = .ok (.ireturn, 1) := by decide +kernel
theorem dX9_told_92 : decode cX9_told 92 = .ok (.aload_n 0, 1) := by decide +kernel
theorem dX9_told_93 : decode cX9_told 93 = .ok (.getfield 49, 3) := by decide +kernel
theorem dX9_told_96 : decode cX9_told 96 = .ok (.invokevirtual 150, 3) := by decide +kernel
theorem dX9_told_99 : decode cX9_told 99 = .ok (.ireturn, 1) := by decide +kernel
theorem dX9_told_100 : decode cX9_told 100 = .ok (.bipush (-2), 2) := by decide +kernel
theorem dX9_told_102 : decode cX9_told 102 = .ok (.ireturn, 1) := by decide +kernel
theorem dX9_within_0 : decode cX9_within 0 = .ok (.iload_n 0, 1) := by decide +kernel
theorem dX9_within_1 : decode cX9_within 1 = .ok (.ifCond .lt 12, 3) := by decide +kernel
theorem dX9_within_4 : decode cX9_within 4 = .ok (.iload_n 0, 1) := by decide +kernel
theorem dX9_within_5 : decode cX9_within 5 = .ok (.iload_n 1, 1) := by decide +kernel
theorem dX9_within_6 : decode cX9_within 6 = .ok (.if_icmp .ge 7, 3) := by decide +kernel
theorem dX9_within_9 : decode cX9_within 9 = .ok (.iconst 1, 1) := by decide +kernel
theorem dX9_within_10 : decode cX9_within 10 = .ok (.goto 4, 3) := by decide +kernel
theorem dX9_within_13 : decode cX9_within 13 = .ok (.iconst 0, 1) := by decide +kernel
theorem dX9_within_14 : decode cX9_within 14 = .ok (.ireturn, 1) := by decide +kernel
theorem dX9_mayTake_0 : decode cX9_mayTake 0 = .ok (.iload_n 0, 1) := by decide +kernel
theorem dX9_mayTake_1 : decode cX9_mayTake 1 = .ok (.iconst 1, 1) := by decide +kernel
theorem dX9_mayTake_2 : decode cX9_mayTake 2 = .ok (.if_icmp .eq 12, 3) := by decide +kernel
theorem dX9_mayTake_5 : decode cX9_mayTake 5 = .ok (.iload_n 0, 1) := by decide +kernel
theorem dX9_mayTake_6 : decode cX9_mayTake 6 = .ok (.iconst 2, 1) := by decide +kernel
theorem dX9_mayTake_7 : decode cX9_mayTake 7 = .ok (.if_icmp .eq 7, 3) := by decide +kernel
theorem dX9_mayTake_10 : decode cX9_mayTake 10 = .ok (.iconst 1, 1) := by decide +kernel
theorem dX9_mayTake_11 : decode cX9_mayTake 11 = .ok (.goto 4, 3) := by decide +kernel
theorem dX9_mayTake_14 : decode cX9_mayTake 14 = .ok (.iconst 0, 1) := by decide +kernel
theorem dX9_mayTake_15 : decode cX9_mayTake 15 = .ok (.ireturn, 1) := by decide +kernel
theorem dX9_turned_0 : decode cX9_turned 0 = .ok (.iconst (-1), 1) := by decide +kernel
theorem dX9_turned_1 : decode cX9_turned 1 = .ok (.iload_n 0, 1) := by decide +kernel
theorem dX9_turned_2 : decode cX9_turned 2 = .ok (.isub, 1) := by decide +kernel
theorem dX9_turned_3 : decode cX9_turned 3 = .ok (.ireturn, 1) := by decide +kernel
theorem dX10_init_0 : decode cX10_init 0 = .ok (.aload_n 0, 1) := by decide +kernel
theorem dX10_init_1 : decode cX10_init 1 = .ok (.invokespecial 1, 3) := by decide +kernel
theorem dX10_init_4 : decode cX10_init 4 = .ok (.aload_n 0, 1) := by decide +kernel
theorem dX10_init_5 : decode cX10_init 5 = .ok (.bipush 8, 2) := by decide +kernel
theorem dX10_init_7 : decode cX10_init 7 = .ok (.newarray .boolean, 2) := by decide +kernel
theorem dX10_init_9 : decode cX10_init 9 = .ok (.putfield 7, 3) := by decide +kernel
theorem dX10_init_12 : decode cX10_init 12 = .ok (.aload_n 0, 1) := by decide +kernel
theorem dX10_init_13 : decode cX10_init 13 = .ok (.bipush 8, 2) := by decide +kernel
theorem dX10_init_15 : decode cX10_init 15 = .ok (.newarray .int, 2) := by decide +kernel
theorem dX10_init_17 : decode cX10_init 17 = .ok (.putfield 13, 3) := by decide +kernel
theorem dX10_init_20 : decode cX10_init 20 = .ok (.aload_n 0, 1) := by decide +kernel
theorem dX10_init_21 : decode cX10_init 21 = .ok (.sipush 320, 3) := by decide +kernel
theorem dX10_init_24 : decode cX10_init 24 = .ok (.newarray .byte, 2) := by decide +kernel
theorem dX10_init_26 : decode cX10_init 26 = .ok (.putfield 17, 3) := by decide +kernel
theorem dX10_init_29 : decode cX10_init 29 = .ok (.aload_n 0, 1) := by decide +kernel
theorem dX10_init_30 : decode cX10_init 30 = .ok (.bipush 8, 2) := by decide +kernel
theorem dX10_init_32 : decode cX10_init 32 = .ok (.newarray .int, 2) := by decide +kernel
theorem dX10_init_34 : decode cX10_init 34 = .ok (.dup, 1) := by decide +kernel
theorem dX10_init_35 : decode cX10_init 35 = .ok (.iconst 0, 1) := by decide +kernel
theorem dX10_init_36 : decode cX10_init 36 = .ok (.iconst 3, 1) := by decide +kernel
theorem dX10_init_37 : decode cX10_init 37 = .ok (.iastore, 1) := by decide +kernel
theorem dX10_init_38 : decode cX10_init 38 = .ok (.dup, 1) := by decide +kernel
theorem dX10_init_39 : decode cX10_init 39 = .ok (.iconst 1, 1) := by decide +kernel
theorem dX10_init_40 : decode cX10_init 40 = .ok (.iconst 3, 1) := by decide +kernel
theorem dX10_init_41 : decode cX10_init 41 = .ok (.iastore, 1) := by decide +kernel
theorem dX10_init_42 : decode cX10_init 42 = .ok (.dup, 1) := by decide +kernel
theorem dX10_init_43 : decode cX10_init 43 = .ok (.iconst 2, 1) := by decide +kernel
theorem dX10_init_44 : decode cX10_init 44 = .ok (.iconst 3, 1) := by decide +kernel
theorem dX10_init_45 : decode cX10_init 45 = .ok (.iastore, 1) := by decide +kernel
theorem dX10_init_46 : decode cX10_init 46 = .ok (.dup, 1) := by decide +kernel
theorem dX10_init_47 : decode cX10_init 47 = .ok (.iconst 3, 1) := by decide +kernel
theorem dX10_init_48 : decode cX10_init 48 = .ok (.iconst 3, 1) := by decide +kernel
theorem dX10_init_49 : decode cX10_init 49 = .ok (.iastore, 1) := by decide +kernel
theorem dX10_init_50 : decode cX10_init 50 = .ok (.dup, 1) := by decide +kernel
theorem dX10_init_51 : decode cX10_init 51 = .ok (.iconst 4, 1) := by decide +kernel
theorem dX10_init_52 : decode cX10_init 52 = .ok (.iconst 3, 1) := by decide +kernel
theorem dX10_init_53 : decode cX10_init 53 = .ok (.iastore, 1) := by decide +kernel
theorem dX10_init_54 : decode cX10_init 54 = .ok (.dup, 1) := by decide +kernel
theorem dX10_init_55 : decode cX10_init 55 = .ok (.iconst 5, 1) := by decide +kernel
theorem dX10_init_56 : decode cX10_init 56 = .ok (.iconst 3, 1) := by decide +kernel
theorem dX10_init_57 : decode cX10_init 57 = .ok (.iastore, 1) := by decide +kernel
theorem dX10_init_58 : decode cX10_init 58 = .ok (.dup, 1) := by decide +kernel
theorem dX10_init_59 : decode cX10_init 59 = .ok (.bipush 6, 2) := by decide +kernel
theorem dX10_init_61 : decode cX10_init 61 = .ok (.iconst 3, 1) := by decide +kernel
theorem dX10_init_62 : decode cX10_init 62 = .ok (.iastore, 1) := by decide +kernel
theorem dX10_init_63 : decode cX10_init 63 = .ok (.dup, 1) := by decide +kernel
theorem dX10_init_64 : decode cX10_init 64 = .ok (.bipush 7, 2) := by decide +kernel
theorem dX10_init_66 : decode cX10_init 66 = .ok (.iconst 3, 1) := by decide +kernel
theorem dX10_init_67 : decode cX10_init 67 = .ok (.iastore, 1) := by decide +kernel
theorem dX10_init_68 : decode cX10_init 68 = .ok (.putfield 21, 3) := by decide +kernel
theorem dX10_init_71 : decode cX10_init 71 = .ok (.aload_n 0, 1) := by decide +kernel
theorem dX10_init_72 : decode cX10_init 72 = .ok (.bipush 100, 2) := by decide +kernel
theorem dX10_init_74 : decode cX10_init 74 = .ok (.newarray .byte, 2) := by decide +kernel
theorem dX10_init_76 : decode cX10_init 76 = .ok (.putfield 24, 3) := by decide +kernel
theorem dX10_init_79 : decode cX10_init 79 = .ok (.aload_n 0, 1) := by decide +kernel
theorem dX10_init_80 : decode cX10_init 80 = .ok (.sipush 200, 3) := by decide +kernel
theorem dX10_init_83 : decode cX10_init 83 = .ok (.newarray .byte, 2) := by decide +kernel
theorem dX10_init_85 : decode cX10_init 85 = .ok (.putfield 27, 3) := by decide +kernel
theorem dX10_init_88 : decode cX10_init 88 = .ok (.aload_n 0, 1) := by decide +kernel
theorem dX10_init_89 : decode cX10_init 89 = .ok (.bipush 60, 2) := by decide +kernel
theorem dX10_init_91 : decode cX10_init 91 = .ok (.newarray .int, 2) := by decide +kernel
theorem dX10_init_93 : decode cX10_init 93 = .ok (.putfield 30, 3) := by decide +kernel
theorem dX10_init_96 : decode cX10_init 96 = .ok (.aload_n 0, 1) := by decide +kernel
theorem dX10_init_97 : decode cX10_init 97 = .ok (.bipush 60, 2) := by decide +kernel
theorem dX10_init_99 : decode cX10_init 99 = .ok (.newarray .int, 2) := by decide +kernel
theorem dX10_init_101 : decode cX10_init 101 = .ok (.putfield 33, 3) := by decide +kernel
theorem dX10_init_104 : decode cX10_init 104 = .ok (.aload_n 0, 1) := by decide +kernel
theorem dX10_init_105 : decode cX10_init 105 = .ok (.bipush 60, 2) := by decide +kernel
theorem dX10_init_107 : decode cX10_init 107 = .ok (.newarray .int, 2) := by decide +kernel
theorem dX10_init_109 : decode cX10_init 109 = .ok (.putfield 36, 3) := by decide +kernel
theorem dX10_init_112 : decode cX10_init 112 = .ok (.aload_n 0, 1) := by decide +kernel
theorem dX10_init_113 : decode cX10_init 113 = .ok (.bipush 60, 2) := by decide +kernel
theorem dX10_init_115 : decode cX10_init 115 = .ok (.newarray .int, 2) := by decide +kernel
theorem dX10_init_117 : decode cX10_init 117 = .ok (.putfield 39, 3) := by decide +kernel
theorem dX10_init_120 : decode cX10_init 120 = .ok (.aload_n 0, 1) := by decide +kernel
theorem dX10_init_121 : decode cX10_init 121 = .ok (.bipush 6, 2) := by decide +kernel
theorem dX10_init_123 : decode cX10_init 123 = .ok (.newarray .int, 2) := by decide +kernel
theorem dX10_init_125 : decode cX10_init 125 = .ok (.putfield 42, 3) := by decide +kernel
theorem dX10_init_128 : decode cX10_init 128 = .ok (.aload_n 0, 1) := by decide +kernel
theorem dX10_init_129 : decode cX10_init 129 = .ok (.bipush 6, 2) := by decide +kernel
theorem dX10_init_131 : decode cX10_init 131 = .ok (.newarray .int, 2) := by decide +kernel
theorem dX10_init_133 : decode cX10_init 133 = .ok (.putfield 45, 3) := by decide +kernel
theorem dX10_init_136 : decode cX10_init 136 = .ok (.aload_n 0, 1) := by decide +kernel
theorem dX10_init_137 : decode cX10_init 137 = .ok (.bipush 20, 2) := by decide +kernel
theorem dX10_init_139 : decode cX10_init 139 = .ok (.newarray .int, 2) := by decide +kernel
theorem dX10_init_141 : decode cX10_init 141 = .ok (.putfield 48, 3) := by decide +kernel
theorem dX10_init_144 : decode cX10_init 144 = .ok (.aload_n 0, 1) := by decide +kernel
theorem dX10_init_145 : decode cX10_init 145 = .ok (.bipush 20, 2) := by decide +kernel
theorem dX10_init_147 : decode cX10_init 147 = .ok (.newarray .int, 2) := by decide +kernel
theorem dX10_init_149 : decode cX10_init 149 = .ok (.putfield 51, 3) := by decide +kernel
theorem dX10_init_152 : decode cX10_init 152 = .ok (.aload_n 0, 1) := by decide +kernel
theorem dX10_init_153 : decode cX10_init 153 = .ok (.bipush 20, 2) := by decide +kernel
theorem dX10_init_155 : decode cX10_init 155 = .ok (.newarray .int, 2) := by decide +kernel
theorem dX10_init_157 : decode cX10_init 157 = .ok (.putfield 54, 3) := by decide +kernel
theorem dX10_init_160 : decode cX10_init 160 = .ok (.aload_n 0, 1) := by decide +kernel
theorem dX10_init_161 : decode cX10_init 161 = .ok (.bipush 20, 2) := by decide +kernel
theorem dX10_init_163 : decode cX10_init 163 = .ok (.newarray .int, 2) := by decide +kernel
theorem dX10_init_165 : decode cX10_init 165 = .ok (.putfield 57, 3) := by decide +kernel
theorem dX10_init_168 : decode cX10_init 168 = .ok (.aload_n 0, 1) := by decide +kernel
theorem dX10_init_169 : decode cX10_init 169 = .ok (.bipush 20, 2) := by decide +kernel
theorem dX10_init_171 : decode cX10_init 171 = .ok (.newarray .int, 2) := by decide +kernel
theorem dX10_init_173 : decode cX10_init 173 = .ok (.putfield 60, 3) := by decide +kernel
theorem dX10_init_176 : decode cX10_init 176 = .ok (.aload_n 0, 1) := by decide +kernel
theorem dX10_init_177 : decode cX10_init 177 = .ok (.bipush 20, 2) := by decide +kernel
theorem dX10_init_179 : decode cX10_init 179 = .ok (.newarray .int, 2) := by decide +kernel
theorem dX10_init_181 : decode cX10_init 181 = .ok (.putfield 63, 3) := by decide +kernel
theorem dX10_init_184 : decode cX10_init 184 = .ok (.aload_n 0, 1) := by decide +kernel
theorem dX10_init_185 : decode cX10_init 185 = .ok (.bipush 20, 2) := by decide +kernel
theorem dX10_init_187 : decode cX10_init 187 = .ok (.newarray .int, 2) := by decide +kernel
theorem dX10_init_189 : decode cX10_init 189 = .ok (.putfield 66, 3) := by decide +kernel
theorem dX10_init_192 : decode cX10_init 192 = .ok (.aload_n 0, 1) := by decide +kernel
theorem dX10_init_193 : decode cX10_init 193 = .ok (.sipush 400, 3) := by decide +kernel
theorem dX10_init_196 : decode cX10_init 196 = .ok (.newarray .byte, 2) := by decide +kernel
theorem dX10_init_198 : decode cX10_init 198 = .ok (.putfield 69, 3) := by decide +kernel
theorem dX10_init_201 : decode cX10_init 201 = .ok (.aload_n 0, 1) := by decide +kernel
theorem dX10_init_202 : decode cX10_init 202 = .ok (.bipush 20, 2) := by decide +kernel
theorem dX10_init_204 : decode cX10_init 204 = .ok (.newarray .int, 2) := by decide +kernel
theorem dX10_init_206 : decode cX10_init 206 = .ok (.putfield 72, 3) := by decide +kernel
theorem dX10_init_209 : decode cX10_init 209 = .ok (.aload_n 0, 1) := by decide +kernel
theorem dX10_init_210 : decode cX10_init 210 = .ok (.bipush 20, 2) := by decide +kernel
theorem dX10_init_212 : decode cX10_init 212 = .ok (.newarray .int, 2) := by decide +kernel
theorem dX10_init_214 : decode cX10_init 214 = .ok (.putfield 75, 3) := by decide +kernel
theorem dX10_init_217 : decode cX10_init 217 = .ok (.aload_n 0, 1) := by decide +kernel
theorem dX10_init_218 : decode cX10_init 218 = .ok (.bipush 20, 2) := by decide +kernel
theorem dX10_init_220 : decode cX10_init 220 = .ok (.newarray .int, 2) := by decide +kernel
theorem dX10_init_222 : decode cX10_init 222 = .ok (.putfield 78, 3) := by decide +kernel
theorem dX10_init_225 : decode cX10_init 225 = .ok (.aload_n 0, 1) := by decide +kernel
theorem dX10_init_226 : decode cX10_init 226 = .ok (.bipush 20, 2) := by decide +kernel
theorem dX10_init_228 : decode cX10_init 228 = .ok (.newarray .int, 2) := by decide +kernel
theorem dX10_init_230 : decode cX10_init 230 = .ok (.putfield 81, 3) := by decide +kernel
theorem dX10_init_233 : decode cX10_init 233 = .ok (.aload_n 0, 1) := by decide +kernel
theorem dX10_init_234 : decode cX10_init 234 = .ok (.bipush 20, 2) := by decide +kernel
theorem dX10_init_236 : decode cX10_init 236 = .ok (.newarray .int, 2) := by decide +kernel
theorem dX10_init_238 : decode cX10_init 238 = .ok (.putfield 84, 3) := by decide +kernel
theorem dX10_init_241 : decode cX10_init 241 = .ok (.aload_n 0, 1) := by decide +kernel
theorem dX10_init_242 : decode cX10_init 242 = .ok (.sipush 800, 3) := by decide +kernel
theorem dX10_init_245 : decode cX10_init 245 = .ok (.newarray .byte, 2) := by decide +kernel
theorem dX10_init_247 : decode cX10_init 247 = .ok (.putfield 87, 3) := by decide +kernel
theorem dX10_init_250 : decode cX10_init 250 = .ok (.aload_n 0, 1) := by decide +kernel
theorem dX10_init_251 : decode cX10_init 251 = .ok (.bipush 20, 2) := by decide +kernel
theorem dX10_init_253 : decode cX10_init 253 = .ok (.newarray .boolean, 2) := by decide +kernel
theorem dX10_init_255 : decode cX10_init 255 = .ok (.putfield 90, 3) := by decide +kernel
theorem dX10_init_258 : decode cX10_init 258 = .ok (.aload_n 0, 1) := by decide +kernel
theorem dX10_init_259 : decode cX10_init 259 = .ok (.sipush 300, 3) := by decide +kernel
theorem dX10_init_262 : decode cX10_init 262 = .ok (.newarray .int, 2) := by decide +kernel
theorem dX10_init_264 : decode cX10_init 264 = .ok (.putfield 93, 3) := by decide +kernel
theorem dX10_init_267 : decode cX10_init 267 = .ok (.aload_n 0, 1) := by decide +kernel
theorem dX10_init_268 : decode cX10_init 268 = .ok (.iconst (-1), 1) := by decide +kernel
theorem dX10_init_269 : decode cX10_init 269 = .ok (.putfield 96, 3) := by decide +kernel
theorem dX10_init_272 : decode cX10_init 272 = .ok (.aload_n 0, 1) := by decide +kernel
theorem dX10_init_273 : decode cX10_init 273 = .ok (.bipush 64, 2) := by decide +kernel
theorem dX10_init_275 : decode cX10_init 275 = .ok (.newarray .int, 2) := by decide +kernel
theorem dX10_init_277 : decode cX10_init 277 = .ok (.putfield 100, 3) := by decide +kernel
theorem dX10_init_280 : decode cX10_init 280 = .ok (.aload_n 0, 1) := by decide +kernel
theorem dX10_init_281 : decode cX10_init 281 = .ok (.bipush 64, 2) := by decide +kernel
theorem dX10_init_283 : decode cX10_init 283 = .ok (.newarray .int, 2) := by decide +kernel
theorem dX10_init_285 : decode cX10_init 285 = .ok (.putfield 103, 3) := by decide +kernel
theorem dX10_init_288 : decode cX10_init 288 = .ok (.aload_n 0, 1) := by decide +kernel
theorem dX10_init_289 : decode cX10_init 289 = .ok (.bipush 64, 2) := by decide +kernel
theorem dX10_init_291 : decode cX10_init 291 = .ok (.newarray .int, 2) := by decide +kernel
theorem dX10_init_293 : decode cX10_init 293 = .ok (.putfield 106, 3) := by decide +kernel
theorem dX10_init_296 : decode cX10_init 296 = .ok (.aload_n 0, 1) := by decide +kernel
theorem dX10_init_297 : decode cX10_init 297 = .ok (.bipush 64, 2) := by decide +kernel
theorem dX10_init_299 : decode cX10_init 299 = .ok (.newarray .int, 2) := by decide +kernel
theorem dX10_init_301 : decode cX10_init 301 = .ok (.putfield 109, 3) := by decide +kernel
theorem dX10_init_304 : decode cX10_init 304 = .ok (.aload_n 0, 1) := by decide +kernel
theorem dX10_init_305 : decode cX10_init 305 = .ok (.bipush 64, 2) := by decide +kernel
theorem dX10_init_307 : decode cX10_init 307 = .ok (.newarray .int, 2) := by decide +kernel
theorem dX10_init_309 : decode cX10_init 309 = .ok (.putfield 112, 3) := by decide +kernel
theorem dX10_init_312 : decode cX10_init 312 = .ok (.aload_n 0, 1) := by decide +kernel
theorem dX10_init_313 : decode cX10_init 313 = .ok (.bipush 64, 2) := by decide +kernel
theorem dX10_init_315 : decode cX10_init 315 = .ok (.newarray .int, 2) := by decide +kernel
theorem dX10_init_317 : decode cX10_init 317 = .ok (.putfield 115, 3) := by decide +kernel
theorem dX10_init_320 : decode cX10_init 320 = .ok (.aload_n 0, 1) := by decide +kernel
theorem dX10_init_321 : decode cX10_init 321 = .ok (.bipush 64, 2) := by decide +kernel
theorem dX10_init_323 : decode cX10_init 323 = .ok (.newarray .int, 2) := by decide +kernel
theorem dX10_init_325 : decode cX10_init 325 = .ok (.putfield 118, 3) := by decide +kernel
theorem dX10_init_328 : decode cX10_init 328 = .ok (.aload_n 0, 1) := by decide +kernel
theorem dX10_init_329 : decode cX10_init 329 = .ok (.bipush 64, 2) := by decide +kernel
theorem dX10_init_331 : decode cX10_init 331 = .ok (.newarray .int, 2) := by decide +kernel
theorem dX10_init_333 : decode cX10_init 333 = .ok (.putfield 121, 3) := by decide +kernel
theorem dX10_init_336 : decode cX10_init 336 = .ok (.aload_n 0, 1) := by decide +kernel
theorem dX10_init_337 : decode cX10_init 337 = .ok (.bipush 64, 2) := by decide +kernel
theorem dX10_init_339 : decode cX10_init 339 = .ok (.newarray .int, 2) := by decide +kernel
theorem dX10_init_341 : decode cX10_init 341 = .ok (.putfield 124, 3) := by decide +kernel
theorem dX10_init_344 : decode cX10_init 344 = .ok (.return_, 1) := by decide +kernel
theorem dX10_in_0 : decode cX10_in 0 = .ok (.iload_n 0, 1) := by decide +kernel
theorem dX10_in_1 : decode cX10_in 1 = .ok (.iload_n 1, 1) := by decide +kernel
theorem dX10_in_2 : decode cX10_in 2 = .ok (.if_icmp .lt 12, 3) := by decide +kernel
theorem dX10_in_5 : decode cX10_in 5 = .ok (.iload_n 0, 1) := by decide +kernel
theorem dX10_in_6 : decode cX10_in 6 = .ok (.iload_n 2, 1) := by decide +kernel
theorem dX10_in_7 : decode cX10_in 7 = .ok (.if_icmp .gt 7, 3) := by decide +kernel
theorem dX10_in_10 : decode cX10_in 10 = .ok (.iconst 1, 1) := by decide +kernel
theorem dX10_in_11 : decode cX10_in 11 = .ok (.goto 4, 3) := by decide +kernel
theorem dX10_in_14 : decode cX10_in 14 = .ok (.iconst 0, 1) := by decide +kernel
theorem dX10_in_15 : decode cX10_in 15 = .ok (.ireturn, 1) := by decide +kernel
theorem dX10_allBytes_0 : decode cX10_allBytes 0 = .ok (.iconst 0, 1) := by decide +kernel
theorem dX10_allBytes_1 : decode cX10_allBytes 1 = .ok (.istore_n 1, 1) := by decide +kernel
theorem dX10_allBytes_2 : decode cX10_allBytes 2 = .ok (.iconst 0, 1) := by decide +kernel
theorem dX10_allBytes_3 : decode cX10_allBytes 3 = .ok (.istore_n 2, 1) := by decide +kernel
theorem dX10_allBytes_4 : decode cX10_allBytes 4 = .ok (.iload_n 2, 1) := by decide +kernel
theorem dX10_allBytes_5 : decode cX10_allBytes 5 = .ok (.bipush 8, 2) := by decide +kernel
theorem dX10_allBytes_7 : decode cX10_allBytes 7 = .ok (.if_icmp .ge 31, 3) := by decide +kernel
theorem dX10_allBytes_10 : decode cX10_allBytes 10 = .ok (.iload_n 1, 1) := by decide +kernel
theorem dX10_allBytes_11 : decode cX10_allBytes 11 = .ok (.aload_n 0, 1) := by decide +kernel
theorem dX10_allBytes_12 : decode cX10_allBytes 12 = .ok (.getfield 7, 3) := by decide +kernel
theorem dX10_allBytes_15 : decode cX10_allBytes 15 = .ok (.iload_n 2, 1) := by decide +kernel
theorem dX10_allBytes_16 : decode cX10_allBytes 16 = .ok (.baload, 1) := by decide +kernel
theorem dX10_allBytes_17 : decode cX10_allBytes 17 = .ok (.ifCond .eq 12, 3) := by decide +kernel
theorem dX10_allBytes_20 : decode cX10_allBytes 20 = .ok (.aload_n 0, 1) := by decide +kernel
theorem dX10_allBytes_21 : decode cX10_allBytes 21 = .ok (.getfield 13, 3) := by decide +kernel
theorem dX10_allBytes_24 : decode cX10_allBytes 24 = .ok (.iload_n 2, 1) := by decide +kernel
theorem dX10_allBytes_25 : decode cX10_allBytes 25 = .ok (.iaload, 1) := by decide +kernel
theorem dX10_allBytes_26 : decode cX10_allBytes 26 = .ok (.goto 4, 3) := by decide +kernel
theorem dX10_allBytes_29 : decode cX10_allBytes 29 = .ok (.iconst 0, 1) := by decide +kernel
theorem dX10_allBytes_30 : decode cX10_allBytes 30 = .ok (.iadd, 1) := by decide +kernel
theorem dX10_allBytes_31 : decode cX10_allBytes 31 = .ok (.istore_n 1, 1) := by decide +kernel
theorem dX10_allBytes_32 : decode cX10_allBytes 32 = .ok (.iinc 2 1, 3) := by decide +kernel
theorem dX10_allBytes_35 : decode cX10_allBytes 35 = .ok (.goto (-31), 3) := by decide +kernel
theorem dX10_allBytes_38 : decode cX10_allBytes 38 = .ok (.iload_n 1, 1) := by decide +kernel
theorem dX10_allBytes_39 : decode cX10_allBytes 39 = .ok (.ireturn, 1) := by decide +kernel
theorem dX10_lay_0 : decode cX10_lay 0 = .ok (.iload_n 1, 1) := by decide +kernel
theorem dX10_lay_1 : decode cX10_lay 1 = .ok (.iconst 0, 1) := by decide +kernel
theorem dX10_lay_2 : decode cX10_lay 2 = .ok (.bipush 7, 2) := by decide +kernel
theorem dX10_lay_4 : decode cX10_lay 4 = .ok (.invokestatic 127, 3) := by decide +kernel
theorem dX10_lay_7 : decode cX10_lay 7 = .ok (.ifCond .eq 14, 3) := by decide +kernel
theorem dX10_lay_10 : decode cX10_lay 10 = .ok (.iload_n 2, 1) := by decide +kernel
theorem dX10_lay_11 : decode cX10_lay 11 = .ok (.iconst 0, 1) := by decide +kernel
theorem dX10_lay_12 : decode cX10_lay 12 = .ok (.sipush 255, 3) := by decide +kernel
theorem dX10_lay_15 : decode cX10_lay 15 = .ok (.invokestatic 127, 3) := by decide +kernel
theorem dX10_lay_18 : decode cX10_lay 18 = .ok (.ifCond .ne 6, 3) := by decide +kernel
theorem dX10_lay_21 : decode cX10_lay 21 = .ok (.bipush (-2), 2) := by decide +kernel
theorem dX10_lay_23 : decode cX10_lay 23 = .ok (.ireturn, 1) := by decide +kernel
theorem dX10_lay_24 : decode cX10_lay 24 = .ok (.aload_n 0, 1) := by decide +kernel
theorem dX10_lay_25 : decode cX10_lay 25 = .ok (.getfield 7, 3) := by decide +kernel
theorem dX10_lay_28 : decode cX10_lay 28 = .ok (.iload_n 1, 1) := by decide +kernel
theorem dX10_lay_29 : decode cX10_lay 29 = .ok (.baload, 1) := by decide +kernel
theorem dX10_lay_30 : decode cX10_lay 30 = .ok (.ifCond .eq 12, 3) := by decide +kernel
theorem dX10_lay_33 : decode cX10_lay 33 = .ok (.aload_n 0, 1) := by decide +kernel
theorem dX10_lay_34 : decode cX10_lay 34 = .ok (.getfield 13, 3) := by decide +kernel
theorem dX10_lay_37 : decode cX10_lay 37 = .ok (.iload_n 1, 1) := by decide +kernel
theorem dX10_lay_38 : decode cX10_lay 38 = .ok (.iaload, 1) := by decide +kernel
theorem dX10_lay_39 : decode cX10_lay 39 = .ok (.goto 4, 3) := by decide +kernel
theorem dX10_lay_42 : decode cX10_lay 42 = .ok (.iconst 0, 1) := by decide +kernel
theorem dX10_lay_43 : decode cX10_lay 43 = .ok (.istore_n 3, 1) := by decide +kernel
theorem dX10_lay_44 : decode cX10_lay 44 = .ok (.iload_n 3, 1) := by decide +kernel
theorem dX10_lay_45 : decode cX10_lay 45 = .ok (.bipush 40, 2) := by decide +kernel
theorem dX10_lay_47 : decode cX10_lay 47 = .ok (.if_icmp .eq 12, 3) := by decide +kernel
theorem dX10_lay_50 : decode cX10_lay 50 = .ok (.aload_n 0, 1) := by decide +kernel
theorem dX10_lay_51 : decode cX10_lay 51 = .ok (.invokevirtual 131, 3) := by decide +kernel
theorem dX10_lay_54 : decode cX10_lay 54 = .ok (.bipush 120, 2) := by decide +kernel
theorem dX10_lay_56 : decode cX10_lay 56 = .ok (.if_icmp .ne 6, 3) := by decide +kernel
theorem dX10_lay_59 : decode cX10_lay 59 = .ok (.bipush (-3), 2) := by decide +kernel
theorem dX10_lay_61 : decode cX10_lay 61 = .ok (.ireturn, 1) := by decide +kernel
theorem dX10_lay_62 : decode cX10_lay 62 = .ok (.aload_n 0, 1) := by decide +kernel
theorem dX10_lay_63 : decode cX10_lay 63 = .ok (.getfield 7, 3) := by decide +kernel
theorem dX10_lay_66 : decode cX10_lay 66 = .ok (.iload_n 1, 1) := by decide +kernel
theorem dX10_lay_67 : decode cX10_lay 67 = .ok (.iconst 1, 1) := by decide +kernel
theorem dX10_lay_68 : decode cX10_lay 68 = .ok (.bastore, 1) := by decide +kernel
theorem dX10_lay_69 : decode cX10_lay 69 = .ok (.aload_n 0, 1) := by decide +kernel
theorem dX10_lay_70 : decode cX10_lay 70 = .ok (.getfield 17, 3) := by decide +kernel
theorem dX10_lay_73 : decode cX10_lay 73 = .ok (.bipush 40, 2) := by decide +kernel
theorem dX10_lay_75 : decode cX10_lay 75 = .ok (.iload_n 1, 1) := by decide +kernel
theorem dX10_lay_76 : decode cX10_lay 76 = .ok (.imul, 1) := by decide +kernel
theorem dX10_lay_77 : decode cX10_lay 77 = .ok (.iload_n 3, 1) := by decide +kernel
theorem dX10_lay_78 : decode cX10_lay 78 = .ok (.iadd, 1) := by decide +kernel
theorem dX10_lay_79 : decode cX10_lay 79 = .ok (.iload_n 2, 1) := by decide +kernel
theorem dX10_lay_80 : decode cX10_lay 80 = .ok (.i2b, 1) := by decide +kernel
theorem dX10_lay_81 : decode cX10_lay 81 = .ok (.bastore, 1) := by decide +kernel
theorem dX10_lay_82 : decode cX10_lay 82 = .ok (.aload_n 0, 1) := by decide +kernel
theorem dX10_lay_83 : decode cX10_lay 83 = .ok (.getfield 13, 3) := by decide +kernel
theorem dX10_lay_86 : decode cX10_lay 86 = .ok (.iload_n 1, 1) := by decide +kernel
theorem dX10_lay_87 : decode cX10_lay 87 = .ok (.iload_n 3, 1) := by decide +kernel
theorem dX10_lay_88 : decode cX10_lay 88 = .ok (.iconst 1, 1) := by decide +kernel
theorem dX10_lay_89 : decode cX10_lay 89 = .ok (.iadd, 1) := by decide +kernel
theorem dX10_lay_90 : decode cX10_lay 90 = .ok (.iastore, 1) := by decide +kernel
theorem dX10_lay_91 : decode cX10_lay 91 = .ok (.iload_n 3, 1) := by decide +kernel
theorem dX10_lay_92 : decode cX10_lay 92 = .ok (.iconst 1, 1) := by decide +kernel
theorem dX10_lay_93 : decode cX10_lay 93 = .ok (.iadd, 1) := by decide +kernel
theorem dX10_lay_94 : decode cX10_lay 94 = .ok (.ireturn, 1) := by decide +kernel
theorem dX10_there_0 : decode cX10_there 0 = .ok (.iload_n 1, 1) := by decide +kernel
theorem dX10_there_1 : decode cX10_there 1 = .ok (.iconst 0, 1) := by decide +kernel
theorem dX10_there_2 : decode cX10_there 2 = .ok (.bipush 7, 2) := by decide +kernel
theorem dX10_there_4 : decode cX10_there 4 = .ok (.invokestatic 127, 3) := by decide +kernel
theorem dX10_there_7 : decode cX10_there 7 = .ok (.ifCond .ne 6, 3) := by decide +kernel
theorem dX10_there_10 : decode cX10_there 10 = .ok (.bipush (-2), 2) := by decide +kernel
theorem dX10_there_12 : decode cX10_there 12 = .ok (.ireturn, 1) := by decide +kernel
theorem dX10_there_13 : decode cX10_there 13 = .ok (.aload_n 0, 1) := by decide +kernel
theorem dX10_there_14 : decode cX10_there 14 = .ok (.getfield 7, 3) := by decide +kernel
theorem dX10_there_17 : decode cX10_there 17 = .ok (.iload_n 1, 1) := by decide +kernel
theorem dX10_there_18 : decode cX10_there 18 = .ok (.baload, 1) := by decide +kernel
theorem dX10_there_19 : decode cX10_there 19 = .ok (.istore_n 3, 1) := by decide +kernel
theorem dX10_there_20 : decode cX10_there 20 = .ok (.iload_n 2, 1) := by decide +kernel
theorem dX10_there_21 : decode cX10_there 21 = .ok (.iload_n 3, 1) := by decide +kernel
theorem dX10_there_22 : decode cX10_there 22 = .ok (.if_icmp .eq 17, 3) := by decide +kernel
theorem dX10_there_25 : decode cX10_there 25 = .ok (.aload_n 0, 1) := by decide +kernel
theorem dX10_there_26 : decode cX10_there 26 = .ok (.getfield 7, 3) := by decide +kernel
theorem dX10_there_29 : decode cX10_there 29 = .ok (.iload_n 1, 1) := by decide +kernel
theorem dX10_there_30 : decode cX10_there 30 = .ok (.iload_n 2, 1) := by decide +kernel
theorem dX10_there_31 : decode cX10_there 31 = .ok (.bastore, 1) := by decide +kernel
theorem dX10_there_32 : decode cX10_there 32 = .ok (.aload_n 0, 1) := by decide +kernel
theorem dX10_there_33 : decode cX10_there 33 = .ok (.getfield 13, 3) := by decide +kernel
theorem dX10_there_36 : decode cX10_there 36 = .ok (.iload_n 1, 1) := by decide +kernel
theorem dX10_there_37 : decode cX10_there 37 = .ok (.iconst 0, 1) := by decide +kernel
theorem dX10_there_38 : decode cX10_there 38 = .ok (.iastore, 1) := by decide +kernel
theorem dX10_there_39 : decode cX10_there 39 = .ok (.iload_n 3, 1) := by decide +kernel
theorem dX10_there_40 : decode cX10_there 40 = .ok (.ifCond .eq 7, 3) := by decide +kernel
theorem dX10_there_43 : decode cX10_there 43 = .ok (.iconst 1, 1) := by decide +kernel
theorem dX10_there_44 : decode cX10_there 44 = .ok (.goto 4, 3) := by decide +kernel
theorem dX10_there_47 : decode cX10_there 47 = .ok (.iconst 0, 1) := by decide +kernel
theorem dX10_there_48 : decode cX10_there 48 = .ok (.ireturn, 1) := by decide +kernel
theorem dX10_permit_0 : decode cX10_permit 0 = .ok (.iload_n 1, 1) := by decide +kernel
theorem dX10_permit_1 : decode cX10_permit 1 = .ok (.iconst 0, 1) := by decide +kernel
theorem dX10_permit_2 : decode cX10_permit 2 = .ok (.bipush 7, 2) := by decide +kernel
theorem dX10_permit_4 : decode cX10_permit 4 = .ok (.invokestatic 127, 3) := by decide +kernel
theorem dX10_permit_7 : decode cX10_permit 7 = .ok (.ifCond .eq 12, 3) := by decide +kernel
theorem dX10_permit_10 : decode cX10_permit 10 = .ok (.iload_n 2, 1) := by decide +kernel
theorem dX10_permit_11 : decode cX10_permit 11 = .ok (.iconst 0, 1) := by decide +kernel
theorem dX10_permit_12 : decode cX10_permit 12 = .ok (.iconst 3, 1) := by decide +kernel
theorem dX10_permit_13 : decode cX10_permit 13 = .ok (.invokestatic 127, 3) := by decide +kernel
theorem dX10_permit_16 : decode cX10_permit 16 = .ok (.ifCond .ne 6, 3) := by decide +kernel
theorem dX10_permit_19 : decode cX10_permit 19 = .ok (.bipush (-2), 2) := by decide +kernel
theorem dX10_permit_21 : decode cX10_permit 21 = .ok (.ireturn, 1) := by decide +kernel
theorem dX10_permit_22 : decode cX10_permit 22 = .ok (.aload_n 0, 1) := by decide +kernel
theorem dX10_permit_23 : decode cX10_permit 23 = .ok (.getfield 21, 3) := by decide +kernel
theorem dX10_permit_26 : decode cX10_permit 26 = .ok (.iload_n 1, 1) := by decide +kernel
theorem dX10_permit_27 : decode cX10_permit 27 = .ok (.iaload, 1) := by decide +kernel
theorem dX10_permit_28 : decode cX10_permit 28 = .ok (.istore_n 3, 1) := by decide +kernel
theorem dX10_permit_29 : decode cX10_permit 29 = .ok (.aload_n 0, 1) := by decide +kernel
theorem dX10_permit_30 : decode cX10_permit 30 = .ok (.getfield 21, 3) := by decide +kernel
theorem dX10_permit_33 : decode cX10_permit 33 = .ok (.iload_n 1, 1) := by decide +kernel
theorem dX10_permit_34 : decode cX10_permit 34 = .ok (.iload_n 2, 1) := by decide +kernel
theorem dX10_permit_35 : decode cX10_permit 35 = .ok (.iastore, 1) := by decide +kernel
theorem dX10_permit_36 : decode cX10_permit 36 = .ok (.iload_n 3, 1) := by decide +kernel
theorem dX10_permit_37 : decode cX10_permit 37 = .ok (.ireturn, 1) := by decide +kernel
theorem dX10_input_0 : decode cX10_input 0 = .ok (.iload_n 1, 1) := by decide +kernel
theorem dX10_input_1 : decode cX10_input 1 = .ok (.iconst 0, 1) := by decide +kernel
theorem dX10_input_2 : decode cX10_input 2 = .ok (.sipush 255, 3) := by decide +kernel
theorem dX10_input_5 : decode cX10_input 5 = .ok (.invokestatic 127, 3) := by decide +kernel
theorem dX10_input_8 : decode cX10_input 8 = .ok (.ifCond .ne 6, 3) := by decide +kernel
theorem dX10_input_11 : decode cX10_input 11 = .ok (.bipush (-2), 2) := by decide +kernel
theorem dX10_input_13 : decode cX10_input 13 = .ok (.ireturn, 1) := by decide +kernel
theorem dX10_input_14 : decode cX10_input 14 = .ok (.aload_n 0, 1) := by decide +kernel
theorem dX10_input_15 : decode cX10_input 15 = .ok (.getfield 135, 3) := by decide +kernel
theorem dX10_input_18 : decode cX10_input 18 = .ok (.bipush 100, 2) := by decide +kernel
theorem dX10_input_20 : decode cX10_input 20 = .ok (.if_icmp .ne 6, 3) := by decide +kernel
theorem dX10_input_23 : decode cX10_input 23 = .ok (.bipush (-3), 2) := by decide +kernel
theorem dX10_input_25 : decode cX10_input 25 = .ok (.ireturn, 1) := by decide +kernel
theorem dX10_input_26 : decode cX10_input 26 = .ok (.aload_n 0, 1) := by decide +kernel
theorem dX10_input_27 : decode cX10_input 27 = .ok (.getfield 24, 3) := by decide +kernel
theorem dX10_input_30 : decode cX10_input 30 = .ok (.aload_n 0, 1) := by decide +kernel
theorem dX10_input_31 : decode cX10_input 31 = .ok (.getfield 135, 3) := by decide +kernel
theorem dX10_input_34 : decode cX10_input 34 = .ok (.iload_n 1, 1) := by decide +kernel
theorem dX10_input_35 : decode cX10_input 35 = .ok (.i2b, 1) := by decide +kernel
theorem dX10_input_36 : decode cX10_input 36 = .ok (.bastore, 1) := by decide +kernel
theorem dX10_input_37 : decode cX10_input 37 = .ok (.aload_n 0, 1) := by decide +kernel
theorem dX10_input_38 : decode cX10_input 38 = .ok (.dup, 1) := by decide +kernel
theorem dX10_input_39 : decode cX10_input 39 = .ok (.getfield 135, 3) := by decide +kernel
theorem dX10_input_42 : decode cX10_input 42 = .ok (.iconst 1, 1) := by decide +kernel
theorem dX10_input_43 : decode cX10_input 43 = .ok (.iadd, 1) := by decide +kernel
theorem dX10_input_44 : decode cX10_input 44 = .ok (.putfield 135, 3) := by decide +kernel
theorem dX10_input_47 : decode cX10_input 47 = .ok (.aload_n 0, 1) := by decide +kernel
theorem dX10_input_48 : decode cX10_input 48 = .ok (.getfield 135, 3) := by decide +kernel
theorem dX10_input_51 : decode cX10_input 51 = .ok (.aload_n 0, 1) := by decide +kernel
theorem dX10_input_52 : decode cX10_input 52 = .ok (.getfield 138, 3) := by decide +kernel
theorem dX10_input_55 : decode cX10_input 55 = .ok (.isub, 1) := by decide +kernel
theorem dX10_input_56 : decode cX10_input 56 = .ok (.ireturn, 1) := by decide +kernel
theorem dX10_isNode_0 : decode cX10_isNode 0 = .ok (.iload_n 1, 1) := by decide +kernel
theorem dX10_isNode_1 : decode cX10_isNode 1 = .ok (.iconst 0, 1) := by decide +kernel
theorem dX10_isNode_2 : decode cX10_isNode 2 = .ok (.aload_n 0, 1) := by decide +kernel
theorem dX10_isNode_3 : decode cX10_isNode 3 = .ok (.getfield 141, 3) := by decide +kernel
theorem dX10_isNode_6 : decode cX10_isNode 6 = .ok (.iconst 1, 1) := by decide +kernel
theorem dX10_isNode_7 : decode cX10_isNode 7 = .ok (.isub, 1) := by decide +kernel
theorem dX10_isNode_8 : decode cX10_isNode 8 = .ok (.invokestatic 127, 3) := by decide +kernel
theorem dX10_isNode_11 : decode cX10_isNode 11 = .ok (.ireturn, 1) := by decide +kernel
theorem dX10_areParts_0 : decode cX10_areParts 0 = .ok (.iload_n 1, 1) := by decide +kernel
theorem dX10_areParts_1 : decode cX10_areParts 1 = .ok (.tableswitch 324 0 28 #[131, 133, 140, 163, 188, 324, 188, 188, 324, 188, 324, 188, 188, 194, 188, 218, 226, 188, 131, 324, 252, 324, 324, 324, 283, 188, 291, 324, 252], 131) := by decide +kernel
theorem dX10_areParts_132 : decode cX10_areParts 132 = .ok (.iconst 1, 1) := by decide +kernel
theorem dX10_areParts_133 : decode cX10_areParts 133 = .ok (.ireturn, 1) := by decide +kernel
theorem dX10_areParts_134 : decode cX10_areParts 134 = .ok (.iload_n 2, 1) := by decide +kernel
theorem dX10_areParts_135 : decode cX10_areParts 135 = .ok (.iconst 0, 1) := by decide +kernel
theorem dX10_areParts_136 : decode cX10_areParts 136 = .ok (.iconst 5, 1) := by decide +kernel
theorem dX10_areParts_137 : decode cX10_areParts 137 = .ok (.invokestatic 127, 3) := by decide +kernel
theorem dX10_areParts_140 : decode cX10_areParts 140 = .ok (.ireturn, 1) := by decide +kernel
theorem dX10_areParts_141 : decode cX10_areParts 141 = .ok (.iload_n 2, 1) := by decide +kernel
theorem dX10_areParts_142 : decode cX10_areParts 142 = .ok (.iconst 0, 1) := by decide +kernel
theorem dX10_areParts_143 : decode cX10_areParts 143 = .ok (.iconst 5, 1) := by decide +kernel
theorem dX10_areParts_144 : decode cX10_areParts 144 = .ok (.invokestatic 127, 3) := by decide +kernel
theorem dX10_areParts_147 : decode cX10_areParts 147 = .ok (.ifCond .eq 15, 3) := by decide +kernel
theorem dX10_areParts_150 : decode cX10_areParts 150 = .ok (.aload_n 0, 1) := by decide +kernel
theorem dX10_areParts_151 : decode cX10_areParts 151 = .ok (.iload_n 3, 1) := by decide +kernel
theorem dX10_areParts_152 : decode cX10_areParts 152 = .ok (.invokevirtual 144, 3) := by decide +kernel
theorem dX10_areParts_155 : decode cX10_areParts 155 = .ok (.ifCond .eq 7, 3) := by decide +kernel
theorem dX10_areParts_158 : decode cX10_areParts 158 = .ok (.iconst 1, 1) := by decide +kernel
theorem dX10_areParts_159 : decode cX10_areParts 159 = .ok (.goto 4, 3) := by decide +kernel
theorem dX10_areParts_162 : decode cX10_areParts 162 = .ok (.iconst 0, 1) := by decide +kernel
theorem dX10_areParts_163 : decode cX10_areParts 163 = .ok (.ireturn, 1) := by decide +kernel
theorem dX10_areParts_164 : decode cX10_areParts 164 = .ok (.iload_n 2, 1) := by decide +kernel
theorem dX10_areParts_165 : decode cX10_areParts 165 = .ok (.iconst 0, 1) := by decide +kernel
theorem dX10_areParts_166 : decode cX10_areParts 166 = .ok (.bipush 7, 2) := by decide +kernel
theorem dX10_areParts_168 : decode cX10_areParts 168 = .ok (.invokestatic 127, 3) := by decide +kernel
theorem dX10_areParts_171 : decode cX10_areParts 171 = .ok (.ifCond .eq 16, 3) := by decide +kernel
theorem dX10_areParts_174 : decode cX10_areParts 174 = .ok (.iload_n 3, 1) := by decide +kernel
theorem dX10_areParts_175 : decode cX10_areParts 175 = .ok (.iconst 0, 1) := by decide +kernel
theorem dX10_areParts_176 : decode cX10_areParts 176 = .ok (.iconst 3, 1) := by decide +kernel
theorem dX10_areParts_177 : decode cX10_areParts 177 = .ok (.invokestatic 127, 3) := by decide +kernel
theorem dX10_areParts_180 : decode cX10_areParts 180 = .ok (.ifCond .eq 7, 3) := by decide +kernel
theorem dX10_areParts_183 : decode cX10_areParts 183 = .ok (.iconst 1, 1) := by decide +kernel
theorem dX10_areParts_184 : decode cX10_areParts 184 = .ok (.goto 4, 3) := by decide +kernel
theorem dX10_areParts_187 : decode cX10_areParts 187 = .ok (.iconst 0, 1) := by decide +kernel
theorem dX10_areParts_188 : decode cX10_areParts 188 = .ok (.ireturn, 1) := by decide +kernel
theorem dX10_areParts_189 : decode cX10_areParts 189 = .ok (.aload_n 0, 1) := by decide +kernel
end
section
theorem dX10_areParts_190 : decode cX10_areParts 190 = .ok (.iload_n 2, 1) := by decide +kernel
theorem dX10_areParts_191 : decode cX10_areParts 191 = .ok (.invokevirtual 144, 3) := by decide +kernel
theorem dX10_areParts_194 : decode cX10_areParts 194 = .ok (.ireturn, 1) := by decide +kernel
theorem dX10_areParts_195 : decode cX10_areParts 195 = .ok (.aload_n 0, 1) := by decide +kernel
theorem dX10_areParts_196 : decode cX10_areParts 196 = .ok (.iload_n 2, 1) := by decide +kernel
theorem dX10_areParts_197 : decode cX10_areParts 197 = .ok (.invokevirtual 144, 3) := by decide +kernel
theorem dX10_areParts_200 : decode cX10_areParts 200 = .ok (.ifCond .eq 17, 3) := by decide +kernel
theorem dX10_areParts_203 : decode cX10_areParts 203 = .ok (.iload_n 3, 1) := by decide +kernel
theorem dX10_areParts_204 : decode cX10_areParts 204 = .ok (.iconst 0, 1) := by decide +kernel
theorem dX10_areParts_205 : decode cX10_areParts 205 = .ok (.bipush 9, 2) := by decide +kernel
theorem dX10_areParts_207 : decode cX10_areParts 207 = .ok (.invokestatic 127, 3) := by decide +kernel
theorem dX10_areParts_210 : decode cX10_areParts 210 = .ok (.ifCond .eq 7, 3) := by decide +kernel
theorem dX10_areParts_213 : decode cX10_areParts 213 = .ok (.iconst 1, 1) := by decide +kernel
theorem dX10_areParts_214 : decode cX10_areParts 214 = .ok (.goto 4, 3) := by decide +kernel
theorem dX10_areParts_217 : decode cX10_areParts 217 = .ok (.iconst 0, 1) := by decide +kernel
theorem dX10_areParts_218 : decode cX10_areParts 218 = .ok (.ireturn, 1) := by decide +kernel
theorem dX10_areParts_219 : decode cX10_areParts 219 = .ok (.iload_n 2, 1) := by decide +kernel
theorem dX10_areParts_220 : decode cX10_areParts 220 = .ok (.iconst 0, 1) := by decide +kernel
theorem dX10_areParts_221 : decode cX10_areParts 221 = .ok (.bipush 7, 2) := by decide +kernel
theorem dX10_areParts_223 : decode cX10_areParts 223 = .ok (.invokestatic 127, 3) := by decide +kernel
theorem dX10_areParts_226 : decode cX10_areParts 226 = .ok (.ireturn, 1) := by decide +kernel
theorem dX10_areParts_227 : decode cX10_areParts 227 = .ok (.iload_n 2, 1) := by decide +kernel
theorem dX10_areParts_228 : decode cX10_areParts 228 = .ok (.iconst 0, 1) := by decide +kernel
theorem dX10_areParts_229 : decode cX10_areParts 229 = .ok (.bipush 7, 2) := by decide +kernel
theorem dX10_areParts_231 : decode cX10_areParts 231 = .ok (.invokestatic 127, 3) := by decide +kernel
theorem dX10_areParts_234 : decode cX10_areParts 234 = .ok (.ifCond .eq 17, 3) := by decide +kernel
theorem dX10_areParts_237 : decode cX10_areParts 237 = .ok (.iload_n 3, 1) := by decide +kernel
theorem dX10_areParts_238 : decode cX10_areParts 238 = .ok (.iconst 0, 1) := by decide +kernel
theorem dX10_areParts_239 : decode cX10_areParts 239 = .ok (.bipush 7, 2) := by decide +kernel
theorem dX10_areParts_241 : decode cX10_areParts 241 = .ok (.invokestatic 127, 3) := by decide +kernel
theorem dX10_areParts_244 : decode cX10_areParts 244 = .ok (.ifCond .eq 7, 3) := by decide +kernel
theorem dX10_areParts_247 : decode cX10_areParts 247 = .ok (.iconst 1, 1) := by decide +kernel
theorem dX10_areParts_248 : decode cX10_areParts 248 = .ok (.goto 4, 3) := by decide +kernel
theorem dX10_areParts_251 : decode cX10_areParts 251 = .ok (.iconst 0, 1) := by decide +kernel
theorem dX10_areParts_252 : decode cX10_areParts 252 = .ok (.ireturn, 1) := by decide +kernel
theorem dX10_areParts_253 : decode cX10_areParts 253 = .ok (.aload_n 0, 1) := by decide +kernel
theorem dX10_areParts_254 : decode cX10_areParts 254 = .ok (.iload_n 2, 1) := by decide +kernel
theorem dX10_areParts_255 : decode cX10_areParts 255 = .ok (.invokevirtual 144, 3) := by decide +kernel
theorem dX10_areParts_258 : decode cX10_areParts 258 = .ok (.ifCond .eq 24, 3) := by decide +kernel
theorem dX10_areParts_261 : decode cX10_areParts 261 = .ok (.aload_n 0, 1) := by decide +kernel
theorem dX10_areParts_262 : decode cX10_areParts 262 = .ok (.iload_n 3, 1) := by decide +kernel
theorem dX10_areParts_263 : decode cX10_areParts 263 = .ok (.invokevirtual 144, 3) := by decide +kernel
theorem dX10_areParts_266 : decode cX10_areParts 266 = .ok (.ifCond .eq 16, 3) := by decide +kernel
theorem dX10_areParts_269 : decode cX10_areParts 269 = .ok (.aload_n 0, 1) := by decide +kernel
theorem dX10_areParts_270 : decode cX10_areParts 270 = .ok (.iload 4, 2) := by decide +kernel
theorem dX10_areParts_272 : decode cX10_areParts 272 = .ok (.invokevirtual 144, 3) := by decide +kernel
theorem dX10_areParts_275 : decode cX10_areParts 275 = .ok (.ifCond .eq 7, 3) := by decide +kernel
theorem dX10_areParts_278 : decode cX10_areParts 278 = .ok (.iconst 1, 1) := by decide +kernel
theorem dX10_areParts_279 : decode cX10_areParts 279 = .ok (.goto 4, 3) := by decide +kernel
theorem dX10_areParts_282 : decode cX10_areParts 282 = .ok (.iconst 0, 1) := by decide +kernel
theorem dX10_areParts_283 : decode cX10_areParts 283 = .ok (.ireturn, 1) := by decide +kernel
theorem dX10_areParts_284 : decode cX10_areParts 284 = .ok (.iload_n 2, 1) := by decide +kernel
theorem dX10_areParts_285 : decode cX10_areParts 285 = .ok (.iconst 0, 1) := by decide +kernel
theorem dX10_areParts_286 : decode cX10_areParts 286 = .ok (.bipush 6, 2) := by decide +kernel
theorem dX10_areParts_288 : decode cX10_areParts 288 = .ok (.invokestatic 127, 3) := by decide +kernel
theorem dX10_areParts_291 : decode cX10_areParts 291 = .ok (.ireturn, 1) := by decide +kernel
theorem dX10_areParts_292 : decode cX10_areParts 292 = .ok (.aload_n 0, 1) := by decide +kernel
theorem dX10_areParts_293 : decode cX10_areParts 293 = .ok (.iload_n 2, 1) := by decide +kernel
theorem dX10_areParts_294 : decode cX10_areParts 294 = .ok (.invokevirtual 144, 3) := by decide +kernel
theorem dX10_areParts_297 : decode cX10_areParts 297 = .ok (.ifCond .eq 26, 3) := by decide +kernel
theorem dX10_areParts_300 : decode cX10_areParts 300 = .ok (.aload_n 0, 1) := by decide +kernel
theorem dX10_areParts_301 : decode cX10_areParts 301 = .ok (.iload_n 3, 1) := by decide +kernel
theorem dX10_areParts_302 : decode cX10_areParts 302 = .ok (.invokevirtual 144, 3) := by decide +kernel
theorem dX10_areParts_305 : decode cX10_areParts 305 = .ok (.ifCond .eq 18, 3) := by decide +kernel
theorem dX10_areParts_308 : decode cX10_areParts 308 = .ok (.iload 4, 2) := by decide +kernel
theorem dX10_areParts_310 : decode cX10_areParts 310 = .ok (.iconst 0, 1) := by decide +kernel
theorem dX10_areParts_311 : decode cX10_areParts 311 = .ok (.bipush 127, 2) := by decide +kernel
theorem dX10_areParts_313 : decode cX10_areParts 313 = .ok (.invokestatic 127, 3) := by decide +kernel
theorem dX10_areParts_316 : decode cX10_areParts 316 = .ok (.ifCond .eq 7, 3) := by decide +kernel
theorem dX10_areParts_319 : decode cX10_areParts 319 = .ok (.iconst 1, 1) := by decide +kernel
theorem dX10_areParts_320 : decode cX10_areParts 320 = .ok (.goto 4, 3) := by decide +kernel
theorem dX10_areParts_323 : decode cX10_areParts 323 = .ok (.iconst 0, 1) := by decide +kernel
theorem dX10_areParts_324 : decode cX10_areParts 324 = .ok (.ireturn, 1) := by decide +kernel
theorem dX10_areParts_325 : decode cX10_areParts 325 = .ok (.aload_n 0, 1) := by decide +kernel
theorem dX10_areParts_326 : decode cX10_areParts 326 = .ok (.iload_n 2, 1) := by decide +kernel
theorem dX10_areParts_327 : decode cX10_areParts 327 = .ok (.invokevirtual 144, 3) := by decide +kernel
theorem dX10_areParts_330 : decode cX10_areParts 330 = .ok (.ifCond .eq 15, 3) := by decide +kernel
theorem dX10_areParts_333 : decode cX10_areParts 333 = .ok (.aload_n 0, 1) := by decide +kernel
theorem dX10_areParts_334 : decode cX10_areParts 334 = .ok (.iload_n 3, 1) := by decide +kernel
theorem dX10_areParts_335 : decode cX10_areParts 335 = .ok (.invokevirtual 144, 3) := by decide +kernel
theorem dX10_areParts_338 : decode cX10_areParts 338 = .ok (.ifCond .eq 7, 3) := by decide +kernel
theorem dX10_areParts_341 : decode cX10_areParts 341 = .ok (.iconst 1, 1) := by decide +kernel
theorem dX10_areParts_342 : decode cX10_areParts 342 = .ok (.goto 4, 3) := by decide +kernel
theorem dX10_areParts_345 : decode cX10_areParts 345 = .ok (.iconst 0, 1) := by decide +kernel
theorem dX10_areParts_346 : decode cX10_areParts 346 = .ok (.ireturn, 1) := by decide +kernel
theorem dX10_node_0 : decode cX10_node 0 = .ok (.iload_n 1, 1) := by decide +kernel
theorem dX10_node_1 : decode cX10_node 1 = .ok (.iconst 0, 1) := by decide +kernel
theorem dX10_node_2 : decode cX10_node 2 = .ok (.bipush 28, 2) := by decide +kernel
theorem dX10_node_4 : decode cX10_node 4 = .ok (.invokestatic 127, 3) := by decide +kernel
theorem dX10_node_7 : decode cX10_node 7 = .ok (.ifCond .eq 15, 3) := by decide +kernel
theorem dX10_node_10 : decode cX10_node 10 = .ok (.aload_n 0, 1) := by decide +kernel
theorem dX10_node_11 : decode cX10_node 11 = .ok (.iload_n 1, 1) := by decide +kernel
theorem dX10_node_12 : decode cX10_node 12 = .ok (.iload_n 2, 1) := by decide +kernel
theorem dX10_node_13 : decode cX10_node 13 = .ok (.iload_n 3, 1) := by decide +kernel
theorem dX10_node_14 : decode cX10_node 14 = .ok (.iload 4, 2) := by decide +kernel
theorem dX10_node_16 : decode cX10_node 16 = .ok (.invokevirtual 148, 3) := by decide +kernel
theorem dX10_node_19 : decode cX10_node 19 = .ok (.ifCond .ne 6, 3) := by decide +kernel
theorem dX10_node_22 : decode cX10_node 22 = .ok (.bipush (-2), 2) := by decide +kernel
theorem dX10_node_24 : decode cX10_node 24 = .ok (.ireturn, 1) := by decide +kernel
theorem dX10_node_25 : decode cX10_node 25 = .ok (.aload_n 0, 1) := by decide +kernel
theorem dX10_node_26 : decode cX10_node 26 = .ok (.getfield 141, 3) := by decide +kernel
theorem dX10_node_29 : decode cX10_node 29 = .ok (.bipush 60, 2) := by decide +kernel
theorem dX10_node_31 : decode cX10_node 31 = .ok (.if_icmp .ne 6, 3) := by decide +kernel
theorem dX10_node_34 : decode cX10_node 34 = .ok (.bipush (-3), 2) := by decide +kernel
theorem dX10_node_36 : decode cX10_node 36 = .ok (.ireturn, 1) := by decide +kernel
theorem dX10_node_37 : decode cX10_node 37 = .ok (.aload_n 0, 1) := by decide +kernel
theorem dX10_node_38 : decode cX10_node 38 = .ok (.getfield 30, 3) := by decide +kernel
theorem dX10_node_41 : decode cX10_node 41 = .ok (.aload_n 0, 1) := by decide +kernel
theorem dX10_node_42 : decode cX10_node 42 = .ok (.getfield 141, 3) := by decide +kernel
theorem dX10_node_45 : decode cX10_node 45 = .ok (.iload_n 1, 1) := by decide +kernel
theorem dX10_node_46 : decode cX10_node 46 = .ok (.iastore, 1) := by decide +kernel
theorem dX10_node_47 : decode cX10_node 47 = .ok (.aload_n 0, 1) := by decide +kernel
theorem dX10_node_48 : decode cX10_node 48 = .ok (.getfield 33, 3) := by decide +kernel
theorem dX10_node_51 : decode cX10_node 51 = .ok (.aload_n 0, 1) := by decide +kernel
theorem dX10_node_52 : decode cX10_node 52 = .ok (.getfield 141, 3) := by decide +kernel
theorem dX10_node_55 : decode cX10_node 55 = .ok (.iload_n 2, 1) := by decide +kernel
theorem dX10_node_56 : decode cX10_node 56 = .ok (.iastore, 1) := by decide +kernel
theorem dX10_node_57 : decode cX10_node 57 = .ok (.aload_n 0, 1) := by decide +kernel
theorem dX10_node_58 : decode cX10_node 58 = .ok (.getfield 36, 3) := by decide +kernel
theorem dX10_node_61 : decode cX10_node 61 = .ok (.aload_n 0, 1) := by decide +kernel
theorem dX10_node_62 : decode cX10_node 62 = .ok (.getfield 141, 3) := by decide +kernel
theorem dX10_node_65 : decode cX10_node 65 = .ok (.iload_n 3, 1) := by decide +kernel
theorem dX10_node_66 : decode cX10_node 66 = .ok (.iastore, 1) := by decide +kernel
theorem dX10_node_67 : decode cX10_node 67 = .ok (.aload_n 0, 1) := by decide +kernel
theorem dX10_node_68 : decode cX10_node 68 = .ok (.getfield 39, 3) := by decide +kernel
theorem dX10_node_71 : decode cX10_node 71 = .ok (.aload_n 0, 1) := by decide +kernel
theorem dX10_node_72 : decode cX10_node 72 = .ok (.getfield 141, 3) := by decide +kernel
theorem dX10_node_75 : decode cX10_node 75 = .ok (.iload 4, 2) := by decide +kernel
theorem dX10_node_77 : decode cX10_node 77 = .ok (.iastore, 1) := by decide +kernel
theorem dX10_node_78 : decode cX10_node 78 = .ok (.aload_n 0, 1) := by decide +kernel
theorem dX10_node_79 : decode cX10_node 79 = .ok (.dup, 1) := by decide +kernel
theorem dX10_node_80 : decode cX10_node 80 = .ok (.getfield 141, 3) := by decide +kernel
theorem dX10_node_83 : decode cX10_node 83 = .ok (.iconst 1, 1) := by decide +kernel
theorem dX10_node_84 : decode cX10_node 84 = .ok (.iadd, 1) := by decide +kernel
theorem dX10_node_85 : decode cX10_node 85 = .ok (.putfield 141, 3) := by decide +kernel
theorem dX10_node_88 : decode cX10_node 88 = .ok (.aload_n 0, 1) := by decide +kernel
theorem dX10_node_89 : decode cX10_node 89 = .ok (.getfield 141, 3) := by decide +kernel
theorem dX10_node_92 : decode cX10_node 92 = .ok (.iconst 1, 1) := by decide +kernel
theorem dX10_node_93 : decode cX10_node 93 = .ok (.isub, 1) := by decide +kernel
theorem dX10_node_94 : decode cX10_node 94 = .ok (.ireturn, 1) := by decide +kernel
theorem dX10_clear_0 : decode cX10_clear 0 = .ok (.aload_n 0, 1) := by decide +kernel
theorem dX10_clear_1 : decode cX10_clear 1 = .ok (.getfield 141, 3) := by decide +kernel
theorem dX10_clear_4 : decode cX10_clear 4 = .ok (.istore_n 1, 1) := by decide +kernel
theorem dX10_clear_5 : decode cX10_clear 5 = .ok (.aload_n 0, 1) := by decide +kernel
theorem dX10_clear_6 : decode cX10_clear 6 = .ok (.iconst 0, 1) := by decide +kernel
theorem dX10_clear_7 : decode cX10_clear 7 = .ok (.putfield 141, 3) := by decide +kernel
theorem dX10_clear_10 : decode cX10_clear 10 = .ok (.aload_n 0, 1) := by decide +kernel
theorem dX10_clear_11 : decode cX10_clear 11 = .ok (.iconst 0, 1) := by decide +kernel
theorem dX10_clear_12 : decode cX10_clear 12 = .ok (.putfield 135, 3) := by decide +kernel
theorem dX10_clear_15 : decode cX10_clear 15 = .ok (.aload_n 0, 1) := by decide +kernel
theorem dX10_clear_16 : decode cX10_clear 16 = .ok (.iconst 0, 1) := by decide +kernel
theorem dX10_clear_17 : decode cX10_clear 17 = .ok (.putfield 138, 3) := by decide +kernel
theorem dX10_clear_20 : decode cX10_clear 20 = .ok (.aload_n 0, 1) := by decide +kernel
theorem dX10_clear_21 : decode cX10_clear 21 = .ok (.iconst 0, 1) := by decide +kernel
theorem dX10_clear_22 : decode cX10_clear 22 = .ok (.putfield 152, 3) := by decide +kernel
theorem dX10_clear_25 : decode cX10_clear 25 = .ok (.iload_n 1, 1) := by decide +kernel
theorem dX10_clear_26 : decode cX10_clear 26 = .ok (.ireturn, 1) := by decide +kernel
theorem dX10_isHeld_0 : decode cX10_isHeld 0 = .ok (.iconst 0, 1) := by decide +kernel
theorem dX10_isHeld_1 : decode cX10_isHeld 1 = .ok (.istore_n 2, 1) := by decide +kernel
theorem dX10_isHeld_2 : decode cX10_isHeld 2 = .ok (.iload_n 2, 1) := by decide +kernel
theorem dX10_isHeld_3 : decode cX10_isHeld 3 = .ok (.aload_n 0, 1) := by decide +kernel
theorem dX10_isHeld_4 : decode cX10_isHeld 4 = .ok (.getfield 155, 3) := by decide +kernel
theorem dX10_isHeld_7 : decode cX10_isHeld 7 = .ok (.if_icmp .ge 31, 3) := by decide +kernel
theorem dX10_isHeld_10 : decode cX10_isHeld 10 = .ok (.aload_n 0, 1) := by decide +kernel
theorem dX10_isHeld_11 : decode cX10_isHeld 11 = .ok (.getfield 48, 3) := by decide +kernel
theorem dX10_isHeld_14 : decode cX10_isHeld 14 = .ok (.iload_n 2, 1) := by decide +kernel
theorem dX10_isHeld_15 : decode cX10_isHeld 15 = .ok (.iaload, 1) := by decide +kernel
theorem dX10_isHeld_16 : decode cX10_isHeld 16 = .ok (.iload_n 1, 1) := by decide +kernel
theorem dX10_isHeld_17 : decode cX10_isHeld 17 = .ok (.if_icmp .ne 15, 3) := by decide +kernel
theorem dX10_isHeld_20 : decode cX10_isHeld 20 = .ok (.aload_n 0, 1) := by decide +kernel
theorem dX10_isHeld_21 : decode cX10_isHeld 21 = .ok (.getfield 57, 3) := by decide +kernel
theorem dX10_isHeld_24 : decode cX10_isHeld 24 = .ok (.iload_n 2, 1) := by decide +kernel
theorem dX10_isHeld_25 : decode cX10_isHeld 25 = .ok (.iaload, 1) := by decide +kernel
theorem dX10_isHeld_26 : decode cX10_isHeld 26 = .ok (.iconst 2, 1) := by decide +kernel
theorem dX10_isHeld_27 : decode cX10_isHeld 27 = .ok (.if_icmp .eq 5, 3) := by decide +kernel
theorem dX10_isHeld_30 : decode cX10_isHeld 30 = .ok (.iconst 1, 1) := by decide +kernel
theorem dX10_isHeld_31 : decode cX10_isHeld 31 = .ok (.ireturn, 1) := by decide +kernel
theorem dX10_isHeld_32 : decode cX10_isHeld 32 = .ok (.iinc 2 1, 3) := by decide +kernel
theorem dX10_isHeld_35 : decode cX10_isHeld 35 = .ok (.goto (-33), 3) := by decide +kernel
theorem dX10_isHeld_38 : decode cX10_isHeld 38 = .ok (.iconst 0, 1) := by decide +kernel
theorem dX10_isHeld_39 : decode cX10_isHeld 39 = .ok (.ireturn, 1) := by decide +kernel
theorem dX10_isHeldToWrite_0 : decode cX10_isHeldToWrite 0 = .ok (.iconst 0, 1) := by decide +kernel
theorem dX10_isHeldToWrite_1 : decode cX10_isHeldToWrite 1 = .ok (.istore_n 2, 1) := by decide +kernel
theorem dX10_isHeldToWrite_2 : decode cX10_isHeldToWrite 2 = .ok (.iload_n 2, 1) := by decide +kernel
theorem dX10_isHeldToWrite_3 : decode cX10_isHeldToWrite 3 = .ok (.aload_n 0, 1) := by decide +kernel
theorem dX10_isHeldToWrite_4 : decode cX10_isHeldToWrite 4 = .ok (.getfield 155, 3) := by decide +kernel
theorem dX10_isHeldToWrite_7 : decode cX10_isHeldToWrite 7 = .ok (.if_icmp .ge 40, 3) := by decide +kernel
theorem dX10_isHeldToWrite_10 : decode cX10_isHeldToWrite 10 = .ok (.aload_n 0, 1) := by decide +kernel
theorem dX10_isHeldToWrite_11 : decode cX10_isHeldToWrite 11 = .ok (.getfield 48, 3) := by decide +kernel
theorem dX10_isHeldToWrite_14 : decode cX10_isHeldToWrite 14 = .ok (.iload_n 2, 1) := by decide +kernel
theorem dX10_isHeldToWrite_15 : decode cX10_isHeldToWrite 15 = .ok (.iaload, 1) := by decide +kernel
theorem dX10_isHeldToWrite_16 : decode cX10_isHeldToWrite 16 = .ok (.iload_n 1, 1) := by decide +kernel
theorem dX10_isHeldToWrite_17 : decode cX10_isHeldToWrite 17 = .ok (.if_icmp .ne 24, 3) := by decide +kernel
theorem dX10_isHeldToWrite_20 : decode cX10_isHeldToWrite 20 = .ok (.aload_n 0, 1) := by decide +kernel
theorem dX10_isHeldToWrite_21 : decode cX10_isHeldToWrite 21 = .ok (.getfield 57, 3) := by decide +kernel
theorem dX10_isHeldToWrite_24 : decode cX10_isHeldToWrite 24 = .ok (.iload_n 2, 1) := by decide +kernel
theorem dX10_isHeldToWrite_25 : decode cX10_isHeldToWrite 25 = .ok (.iaload, 1) := by decide +kernel
theorem dX10_isHeldToWrite_26 : decode cX10_isHeldToWrite 26 = .ok (.iconst 2, 1) := by decide +kernel
theorem dX10_isHeldToWrite_27 : decode cX10_isHeldToWrite 27 = .ok (.if_icmp .eq 14, 3) := by decide +kernel
theorem dX10_isHeldToWrite_30 : decode cX10_isHeldToWrite 30 = .ok (.aload_n 0, 1) := by decide +kernel
theorem dX10_isHeldToWrite_31 : decode cX10_isHeldToWrite 31 = .ok (.getfield 51, 3) := by decide +kernel
theorem dX10_isHeldToWrite_34 : decode cX10_isHeldToWrite 34 = .ok (.iload_n 2, 1) := by decide +kernel
theorem dX10_isHeldToWrite_35 : decode cX10_isHeldToWrite 35 = .ok (.iaload, 1) := by decide +kernel
theorem dX10_isHeldToWrite_36 : decode cX10_isHeldToWrite 36 = .ok (.ifCond .eq 5, 3) := by decide +kernel
theorem dX10_isHeldToWrite_39 : decode cX10_isHeldToWrite 39 = .ok (.iconst 1, 1) := by decide +kernel
theorem dX10_isHeldToWrite_40 : decode cX10_isHeldToWrite 40 = .ok (.ireturn, 1) := by decide +kernel
theorem dX10_isHeldToWrite_41 : decode cX10_isHeldToWrite 41 = .ok (.iinc 2 1, 3) := by decide +kernel
theorem dX10_isHeldToWrite_44 : decode cX10_isHeldToWrite 44 = .ok (.goto (-42), 3) := by decide +kernel
theorem dX10_isHeldToWrite_47 : decode cX10_isHeldToWrite 47 = .ok (.iconst 0, 1) := by decide +kernel
theorem dX10_isHeldToWrite_48 : decode cX10_isHeldToWrite 48 = .ok (.ireturn, 1) := by decide +kernel
theorem dX10_note_0 : decode cX10_note 0 = .ok (.aload_n 0, 1) := by decide +kernel
theorem dX10_note_1 : decode cX10_note 1 = .ok (.getfield 158, 3) := by decide +kernel
theorem dX10_note_4 : decode cX10_note 4 = .ok (.sipush 300, 3) := by decide +kernel
theorem dX10_note_7 : decode cX10_note 7 = .ok (.if_icmp .ge 13, 3) := by decide +kernel
theorem dX10_note_10 : decode cX10_note 10 = .ok (.aload_n 0, 1) := by decide +kernel
theorem dX10_note_11 : decode cX10_note 11 = .ok (.getfield 93, 3) := by decide +kernel
theorem dX10_note_14 : decode cX10_note 14 = .ok (.aload_n 0, 1) := by decide +kernel
theorem dX10_note_15 : decode cX10_note 15 = .ok (.getfield 158, 3) := by decide +kernel
theorem dX10_note_18 : decode cX10_note 18 = .ok (.iload_n 1, 1) := by decide +kernel
theorem dX10_note_19 : decode cX10_note 19 = .ok (.iastore, 1) := by decide +kernel
theorem dX10_note_20 : decode cX10_note 20 = .ok (.aload_n 0, 1) := by decide +kernel
theorem dX10_note_21 : decode cX10_note 21 = .ok (.dup, 1) := by decide +kernel
theorem dX10_note_22 : decode cX10_note 22 = .ok (.getfield 158, 3) := by decide +kernel
theorem dX10_note_25 : decode cX10_note 25 = .ok (.iconst 1, 1) := by decide +kernel
theorem dX10_note_26 : decode cX10_note 26 = .ok (.iadd, 1) := by decide +kernel
theorem dX10_note_27 : decode cX10_note 27 = .ok (.putfield 158, 3) := by decide +kernel
theorem dX10_note_30 : decode cX10_note 30 = .ok (.return_, 1) := by decide +kernel
theorem dX10_flush_0 : decode cX10_flush 0 = .ok (.aload_n 0, 1) := by decide +kernel
theorem dX10_flush_1 : decode cX10_flush 1 = .ok (.getfield 48, 3) := by decide +kernel
theorem dX10_flush_4 : decode cX10_flush 4 = .ok (.iload_n 1, 1) := by decide +kernel
theorem dX10_flush_5 : decode cX10_flush 5 = .ok (.iaload, 1) := by decide +kernel
theorem dX10_flush_6 : decode cX10_flush 6 = .ok (.istore_n 2, 1) := by decide +kernel
theorem dX10_flush_7 : decode cX10_flush 7 = .ok (.iconst 1, 1) := by decide +kernel
theorem dX10_flush_8 : decode cX10_flush 8 = .ok (.istore_n 3, 1) := by decide +kernel
theorem dX10_flush_9 : decode cX10_flush 9 = .ok (.iconst 0, 1) := by decide +kernel
theorem dX10_flush_10 : decode cX10_flush 10 = .ok (.istore 4, 2) := by decide +kernel
theorem dX10_flush_12 : decode cX10_flush 12 = .ok (.iload 4, 2) := by decide +kernel
theorem dX10_flush_14 : decode cX10_flush 14 = .ok (.aload_n 0, 1) := by decide +kernel
theorem dX10_flush_15 : decode cX10_flush 15 = .ok (.getfield 66, 3) := by decide +kernel
theorem dX10_flush_18 : decode cX10_flush 18 = .ok (.iload_n 1, 1) := by decide +kernel
theorem dX10_flush_19 : decode cX10_flush 19 = .ok (.iaload, 1) := by decide +kernel
theorem dX10_flush_20 : decode cX10_flush 20 = .ok (.if_icmp .ge 146, 3) := by decide +kernel
theorem dX10_flush_23 : decode cX10_flush 23 = .ok (.iload_n 3, 1) := by decide +kernel
theorem dX10_flush_24 : decode cX10_flush 24 = .ok (.ifCond .eq 142, 3) := by decide +kernel
theorem dX10_flush_27 : decode cX10_flush 27 = .ok (.aload_n 0, 1) := by decide +kernel
theorem dX10_flush_28 : decode cX10_flush 28 = .ok (.getfield 54, 3) := by decide +kernel
theorem dX10_flush_31 : decode cX10_flush 31 = .ok (.iload_n 1, 1) := by decide +kernel
theorem dX10_flush_32 : decode cX10_flush 32 = .ok (.iaload, 1) := by decide +kernel
theorem dX10_flush_33 : decode cX10_flush 33 = .ok (.aload_n 0, 1) := by decide +kernel
theorem dX10_flush_34 : decode cX10_flush 34 = .ok (.getfield 13, 3) := by decide +kernel
theorem dX10_flush_37 : decode cX10_flush 37 = .ok (.iload_n 2, 1) := by decide +kernel
theorem dX10_flush_38 : decode cX10_flush 38 = .ok (.iaload, 1) := by decide +kernel
theorem dX10_flush_39 : decode cX10_flush 39 = .ok (.if_icmp .lt 7, 3) := by decide +kernel
theorem dX10_flush_42 : decode cX10_flush 42 = .ok (.iconst 1, 1) := by decide +kernel
theorem dX10_flush_43 : decode cX10_flush 43 = .ok (.goto 4, 3) := by decide +kernel
theorem dX10_flush_46 : decode cX10_flush 46 = .ok (.iconst 0, 1) := by decide +kernel
theorem dX10_flush_47 : decode cX10_flush 47 = .ok (.istore 5, 2) := by decide +kernel
theorem dX10_flush_49 : decode cX10_flush 49 = .ok (.iload 5, 2) := by decide +kernel
theorem dX10_flush_51 : decode cX10_flush 51 = .ok (.ifCond .eq 23, 3) := by decide +kernel
theorem dX10_flush_54 : decode cX10_flush 54 = .ok (.aload_n 0, 1) := by decide +kernel
theorem dX10_flush_55 : decode cX10_flush 55 = .ok (.getfield 13, 3) := by decide +kernel
theorem dX10_flush_58 : decode cX10_flush 58 = .ok (.iload_n 2, 1) := by decide +kernel
theorem dX10_flush_59 : decode cX10_flush 59 = .ok (.iaload, 1) := by decide +kernel
theorem dX10_flush_60 : decode cX10_flush 60 = .ok (.bipush 40, 2) := by decide +kernel
theorem dX10_flush_62 : decode cX10_flush 62 = .ok (.if_icmp .ge 16, 3) := by decide +kernel
theorem dX10_flush_65 : decode cX10_flush 65 = .ok (.aload_n 0, 1) := by decide +kernel
theorem dX10_flush_66 : decode cX10_flush 66 = .ok (.invokevirtual 131, 3) := by decide +kernel
theorem dX10_flush_69 : decode cX10_flush 69 = .ok (.bipush 120, 2) := by decide +kernel
theorem dX10_flush_71 : decode cX10_flush 71 = .ok (.if_icmp .ge 7, 3) := by decide +kernel
theorem dX10_flush_74 : decode cX10_flush 74 = .ok (.iconst 1, 1) := by decide +kernel
theorem dX10_flush_75 : decode cX10_flush 75 = .ok (.goto 4, 3) := by decide +kernel
theorem dX10_flush_78 : decode cX10_flush 78 = .ok (.iconst 0, 1) := by decide +kernel
theorem dX10_flush_79 : decode cX10_flush 79 = .ok (.istore_n 3, 1) := by decide +kernel
theorem dX10_flush_80 : decode cX10_flush 80 = .ok (.iload_n 3, 1) := by decide +kernel
theorem dX10_flush_81 : decode cX10_flush 81 = .ok (.ifCond .eq 79, 3) := by decide +kernel
theorem dX10_flush_84 : decode cX10_flush 84 = .ok (.aload_n 0, 1) := by decide +kernel
theorem dX10_flush_85 : decode cX10_flush 85 = .ok (.getfield 17, 3) := by decide +kernel
theorem dX10_flush_88 : decode cX10_flush 88 = .ok (.bipush 40, 2) := by decide +kernel
theorem dX10_flush_90 : decode cX10_flush 90 = .ok (.iload_n 2, 1) := by decide +kernel
theorem dX10_flush_91 : decode cX10_flush 91 = .ok (.imul, 1) := by decide +kernel
theorem dX10_flush_92 : decode cX10_flush 92 = .ok (.aload_n 0, 1) := by decide +kernel
theorem dX10_flush_93 : decode cX10_flush 93 = .ok (.getfield 54, 3) := by decide +kernel
theorem dX10_flush_96 : decode cX10_flush 96 = .ok (.iload_n 1, 1) := by decide +kernel
theorem dX10_flush_97 : decode cX10_flush 97 = .ok (.iaload, 1) := by decide +kernel
theorem dX10_flush_98 : decode cX10_flush 98 = .ok (.iadd, 1) := by decide +kernel
theorem dX10_flush_99 : decode cX10_flush 99 = .ok (.aload_n 0, 1) := by decide +kernel
theorem dX10_flush_100 : decode cX10_flush 100 = .ok (.getfield 69, 3) := by decide +kernel
theorem dX10_flush_103 : decode cX10_flush 103 = .ok (.bipush 20, 2) := by decide +kernel
theorem dX10_flush_105 : decode cX10_flush 105 = .ok (.iload_n 1, 1) := by decide +kernel
theorem dX10_flush_106 : decode cX10_flush 106 = .ok (.imul, 1) := by decide +kernel
theorem dX10_flush_107 : decode cX10_flush 107 = .ok (.iload 4, 2) := by decide +kernel
theorem dX10_flush_109 : decode cX10_flush 109 = .ok (.iadd, 1) := by decide +kernel
theorem dX10_flush_110 : decode cX10_flush 110 = .ok (.baload, 1) := by decide +kernel
theorem dX10_flush_111 : decode cX10_flush 111 = .ok (.bastore, 1) := by decide +kernel
theorem dX10_flush_112 : decode cX10_flush 112 = .ok (.aload_n 0, 1) := by decide +kernel
theorem dX10_flush_113 : decode cX10_flush 113 = .ok (.getfield 54, 3) := by decide +kernel
theorem dX10_flush_116 : decode cX10_flush 116 = .ok (.iload_n 1, 1) := by decide +kernel
theorem dX10_flush_117 : decode cX10_flush 117 = .ok (.dup2, 1) := by decide +kernel
theorem dX10_flush_118 : decode cX10_flush 118 = .ok (.iaload, 1) := by decide +kernel
theorem dX10_flush_119 : decode cX10_flush 119 = .ok (.iconst 1, 1) := by decide +kernel
theorem dX10_flush_120 : decode cX10_flush 120 = .ok (.iadd, 1) := by decide +kernel
theorem dX10_flush_121 : decode cX10_flush 121 = .ok (.iastore, 1) := by decide +kernel
theorem dX10_flush_122 : decode cX10_flush 122 = .ok (.aload_n 0, 1) := by decide +kernel
theorem dX10_flush_123 : decode cX10_flush 123 = .ok (.getfield 13, 3) := by decide +kernel
theorem dX10_flush_126 : decode cX10_flush 126 = .ok (.iload_n 2, 1) := by decide +kernel
theorem dX10_flush_127 : decode cX10_flush 127 = .ok (.iload 5, 2) := by decide +kernel
theorem dX10_flush_129 : decode cX10_flush 129 = .ok (.ifCond .eq 14, 3) := by decide +kernel
theorem dX10_flush_132 : decode cX10_flush 132 = .ok (.aload_n 0, 1) := by decide +kernel
theorem dX10_flush_133 : decode cX10_flush 133 = .ok (.getfield 13, 3) := by decide +kernel
theorem dX10_flush_136 : decode cX10_flush 136 = .ok (.iload_n 2, 1) := by decide +kernel
theorem dX10_flush_137 : decode cX10_flush 137 = .ok (.iaload, 1) := by decide +kernel
theorem dX10_flush_138 : decode cX10_flush 138 = .ok (.iconst 1, 1) := by decide +kernel
theorem dX10_flush_139 : decode cX10_flush 139 = .ok (.iadd, 1) := by decide +kernel
theorem dX10_flush_140 : decode cX10_flush 140 = .ok (.goto 9, 3) := by decide +kernel
theorem dX10_flush_143 : decode cX10_flush 143 = .ok (.aload_n 0, 1) := by decide +kernel
theorem dX10_flush_144 : decode cX10_flush 144 = .ok (.getfield 13, 3) := by decide +kernel
theorem dX10_flush_147 : decode cX10_flush 147 = .ok (.iload_n 2, 1) := by decide +kernel
theorem dX10_flush_148 : decode cX10_flush 148 = .ok (.iaload, 1) := by decide +kernel
theorem dX10_flush_149 : decode cX10_flush 149 = .ok (.iastore, 1) := by decide +kernel
theorem dX10_flush_150 : decode cX10_flush 150 = .ok (.aload_n 0, 1) := by decide +kernel
theorem dX10_flush_151 : decode cX10_flush 151 = .ok (.getfield 78, 3) := by decide +kernel
theorem dX10_flush_154 : decode cX10_flush 154 = .ok (.iload_n 1, 1) := by decide +kernel
theorem dX10_flush_155 : decode cX10_flush 155 = .ok (.dup2, 1) := by decide +kernel
theorem dX10_flush_156 : decode cX10_flush 156 = .ok (.iaload, 1) := by decide +kernel
theorem dX10_flush_157 : decode cX10_flush 157 = .ok (.iconst 1, 1) := by decide +kernel
theorem dX10_flush_158 : decode cX10_flush 158 = .ok (.iadd, 1) := by decide +kernel
theorem dX10_flush_159 : decode cX10_flush 159 = .ok (.iastore, 1) := by decide +kernel
theorem dX10_flush_160 : decode cX10_flush 160 = .ok (.iinc 4 1, 3) := by decide +kernel
theorem dX10_flush_163 : decode cX10_flush 163 = .ok (.goto (-151), 3) := by decide +kernel
theorem dX10_flush_166 : decode cX10_flush 166 = .ok (.aload_n 0, 1) := by decide +kernel
theorem dX10_flush_167 : decode cX10_flush 167 = .ok (.getfield 66, 3) := by decide +kernel
theorem dX10_flush_170 : decode cX10_flush 170 = .ok (.iload_n 1, 1) := by decide +kernel
theorem dX10_flush_171 : decode cX10_flush 171 = .ok (.iconst 0, 1) := by decide +kernel
theorem dX10_flush_172 : decode cX10_flush 172 = .ok (.iastore, 1) := by decide +kernel
theorem dX10_flush_173 : decode cX10_flush 173 = .ok (.iload_n 3, 1) := by decide +kernel
theorem dX10_flush_174 : decode cX10_flush 174 = .ok (.ireturn, 1) := by decide +kernel
theorem dX10_openRefused_0 : decode cX10_openRefused 0 = .ok (.iload_n 2, 1) := by decide +kernel
theorem dX10_openRefused_1 : decode cX10_openRefused 1 = .ok (.ifCond .ne 14, 3) := by decide +kernel
theorem dX10_openRefused_4 : decode cX10_openRefused 4 = .ok (.aload_n 0, 1) := by decide +kernel
theorem dX10_openRefused_5 : decode cX10_openRefused 5 = .ok (.getfield 7, 3) := by decide +kernel
theorem dX10_openRefused_8 : decode cX10_openRefused 8 = .ok (.iload_n 1, 1) := by decide +kernel
theorem dX10_openRefused_9 : decode cX10_openRefused 9 = .ok (.baload, 1) := by decide +kernel
theorem dX10_openRefused_10 : decode cX10_openRefused 10 = .ok (.ifCond .ne 5, 3) := by decide +kernel
theorem dX10_openRefused_13 : decode cX10_openRefused 13 = .ok (.iconst 1, 1) := by decide +kernel
theorem dX10_openRefused_14 : decode cX10_openRefused 14 = .ok (.ireturn, 1) := by decide +kernel
theorem dX10_openRefused_15 : decode cX10_openRefused 15 = .ok (.iload_n 2, 1) := by decide +kernel
theorem dX10_openRefused_16 : decode cX10_openRefused 16 = .ok (.ifCond .eq 8, 3) := by decide +kernel
theorem dX10_openRefused_19 : decode cX10_openRefused 19 = .ok (.iload_n 2, 1) := by decide +kernel
theorem dX10_openRefused_20 : decode cX10_openRefused 20 = .ok (.iconst 3, 1) := by decide +kernel
theorem dX10_openRefused_21 : decode cX10_openRefused 21 = .ok (.if_icmp .ne 14, 3) := by decide +kernel
theorem dX10_openRefused_24 : decode cX10_openRefused 24 = .ok (.aload_n 0, 1) := by decide +kernel
theorem dX10_openRefused_25 : decode cX10_openRefused 25 = .ok (.getfield 21, 3) := by decide +kernel
theorem dX10_openRefused_28 : decode cX10_openRefused 28 = .ok (.iload_n 1, 1) := by decide +kernel
theorem dX10_openRefused_29 : decode cX10_openRefused 29 = .ok (.iaload, 1) := by decide +kernel
theorem dX10_openRefused_30 : decode cX10_openRefused 30 = .ok (.iconst 1, 1) := by decide +kernel
theorem dX10_openRefused_31 : decode cX10_openRefused 31 = .ok (.iand, 1) := by decide +kernel
theorem dX10_openRefused_32 : decode cX10_openRefused 32 = .ok (.ifCond .eq 18, 3) := by decide +kernel
theorem dX10_openRefused_35 : decode cX10_openRefused 35 = .ok (.iload_n 2, 1) := by decide +kernel
theorem dX10_openRefused_36 : decode cX10_openRefused 36 = .ok (.ifCond .eq 16, 3) := by decide +kernel
theorem dX10_openRefused_39 : decode cX10_openRefused 39 = .ok (.aload_n 0, 1) := by decide +kernel
theorem dX10_openRefused_40 : decode cX10_openRefused 40 = .ok (.getfield 21, 3) := by decide +kernel
theorem dX10_openRefused_43 : decode cX10_openRefused 43 = .ok (.iload_n 1, 1) := by decide +kernel
theorem dX10_openRefused_44 : decode cX10_openRefused 44 = .ok (.iaload, 1) := by decide +kernel
theorem dX10_openRefused_45 : decode cX10_openRefused 45 = .ok (.iconst 2, 1) := by decide +kernel
theorem dX10_openRefused_46 : decode cX10_openRefused 46 = .ok (.iand, 1) := by decide +kernel
theorem dX10_openRefused_47 : decode cX10_openRefused 47 = .ok (.ifCond .ne 5, 3) := by decide +kernel
theorem dX10_openRefused_50 : decode cX10_openRefused 50 = .ok (.iconst 2, 1) := by decide +kernel
theorem dX10_openRefused_51 : decode cX10_openRefused 51 = .ok (.ireturn, 1) := by decide +kernel
theorem dX10_openRefused_52 : decode cX10_openRefused 52 = .ok (.iload_n 2, 1) := by decide +kernel
theorem dX10_openRefused_53 : decode cX10_openRefused 53 = .ok (.ifCond .ne 14, 3) := by decide +kernel
theorem dX10_openRefused_56 : decode cX10_openRefused 56 = .ok (.aload_n 0, 1) := by decide +kernel
theorem dX10_openRefused_57 : decode cX10_openRefused 57 = .ok (.iload_n 1, 1) := by decide +kernel
theorem dX10_openRefused_58 : decode cX10_openRefused 58 = .ok (.invokevirtual 161, 3) := by decide +kernel
theorem dX10_openRefused_61 : decode cX10_openRefused 61 = .ok (.ifCond .eq 16, 3) := by decide +kernel
theorem dX10_openRefused_64 : decode cX10_openRefused 64 = .ok (.goto 11, 3) := by decide +kernel
theorem dX10_openRefused_67 : decode cX10_openRefused 67 = .ok (.aload_n 0, 1) := by decide +kernel
theorem dX10_openRefused_68 : decode cX10_openRefused 68 = .ok (.iload_n 1, 1) := by decide +kernel
theorem dX10_openRefused_69 : decode cX10_openRefused 69 = .ok (.invokevirtual 164, 3) := by decide +kernel
theorem dX10_openRefused_72 : decode cX10_openRefused 72 = .ok (.ifCond .eq 5, 3) := by decide +kernel
theorem dX10_openRefused_75 : decode cX10_openRefused 75 = .ok (.iconst 0, 1) := by decide +kernel
theorem dX10_openRefused_76 : decode cX10_openRefused 76 = .ok (.ireturn, 1) := by decide +kernel
theorem dX10_openRefused_77 : decode cX10_openRefused 77 = .ok (.aload_n 0, 1) := by decide +kernel
theorem dX10_openRefused_78 : decode cX10_openRefused 78 = .ok (.getfield 155, 3) := by decide +kernel
theorem dX10_openRefused_81 : decode cX10_openRefused 81 = .ok (.bipush 20, 2) := by decide +kernel
theorem dX10_openRefused_83 : decode cX10_openRefused 83 = .ok (.if_icmp .ne 7, 3) := by decide +kernel
theorem dX10_openRefused_86 : decode cX10_openRefused 86 = .ok (.iconst 5, 1) := by decide +kernel
theorem dX10_openRefused_87 : decode cX10_openRefused 87 = .ok (.goto 4, 3) := by decide +kernel
theorem dX10_openRefused_90 : decode cX10_openRefused 90 = .ok (.iconst (-1), 1) := by decide +kernel
theorem dX10_openRefused_91 : decode cX10_openRefused 91 = .ok (.ireturn, 1) := by decide +kernel
theorem dX10_opens_0 : decode cX10_opens 0 = .ok (.aload_n 0, 1) := by decide +kernel
theorem dX10_opens_1 : decode cX10_opens 1 = .ok (.getfield 33, 3) := by decide +kernel
theorem dX10_opens_4 : decode cX10_opens 4 = .ok (.iload_n 1, 1) := by decide +kernel
theorem dX10_opens_5 : decode cX10_opens 5 = .ok (.iaload, 1) := by decide +kernel
theorem dX10_opens_6 : decode cX10_opens 6 = .ok (.istore_n 2, 1) := by decide +kernel
theorem dX10_opens_7 : decode cX10_opens 7 = .ok (.aload_n 0, 1) := by decide +kernel
theorem dX10_opens_8 : decode cX10_opens 8 = .ok (.getfield 36, 3) := by decide +kernel
theorem dX10_opens_11 : decode cX10_opens 11 = .ok (.iload_n 1, 1) := by decide +kernel
theorem dX10_opens_12 : decode cX10_opens 12 = .ok (.iaload, 1) := by decide +kernel
theorem dX10_opens_13 : decode cX10_opens 13 = .ok (.istore_n 3, 1) := by decide +kernel
theorem dX10_opens_14 : decode cX10_opens 14 = .ok (.aload_n 0, 1) := by decide +kernel
theorem dX10_opens_15 : decode cX10_opens 15 = .ok (.iload_n 2, 1) := by decide +kernel
theorem dX10_opens_16 : decode cX10_opens 16 = .ok (.iload_n 3, 1) := by decide +kernel
theorem dX10_opens_17 : decode cX10_opens 17 = .ok (.invokevirtual 167, 3) := by decide +kernel
theorem dX10_opens_20 : decode cX10_opens 20 = .ok (.istore 4, 2) := by decide +kernel
theorem dX10_opens_22 : decode cX10_opens 22 = .ok (.iload 4, 2) := by decide +kernel
theorem dX10_opens_24 : decode cX10_opens 24 = .ok (.iconst (-1), 1) := by decide +kernel
theorem dX10_opens_25 : decode cX10_opens 25 = .ok (.if_icmp .eq 11, 3) := by decide +kernel
theorem dX10_opens_28 : decode cX10_opens 28 = .ok (.aload_n 0, 1) := by decide +kernel
theorem dX10_opens_29 : decode cX10_opens 29 = .ok (.iload_n 1, 1) := by decide +kernel
theorem dX10_opens_30 : decode cX10_opens 30 = .ok (.iload 4, 2) := by decide +kernel
theorem dX10_opens_32 : decode cX10_opens 32 = .ok (.invokevirtual 171, 3) := by decide +kernel
theorem dX10_opens_35 : decode cX10_opens 35 = .ok (.return_, 1) := by decide +kernel
theorem dX10_opens_36 : decode cX10_opens 36 = .ok (.aload_n 0, 1) := by decide +kernel
theorem dX10_opens_37 : decode cX10_opens 37 = .ok (.getfield 7, 3) := by decide +kernel
theorem dX10_opens_40 : decode cX10_opens 40 = .ok (.iload_n 2, 1) := by decide +kernel
theorem dX10_opens_41 : decode cX10_opens 41 = .ok (.baload, 1) := by decide +kernel
theorem dX10_opens_42 : decode cX10_opens 42 = .ok (.ifCond .eq 8, 3) := by decide +kernel
theorem dX10_opens_45 : decode cX10_opens 45 = .ok (.iload_n 3, 1) := by decide +kernel
theorem dX10_opens_46 : decode cX10_opens 46 = .ok (.iconst 1, 1) := by decide +kernel
theorem dX10_opens_47 : decode cX10_opens 47 = .ok (.if_icmp .ne 10, 3) := by decide +kernel
theorem dX10_opens_50 : decode cX10_opens 50 = .ok (.aload_n 0, 1) := by decide +kernel
theorem dX10_opens_51 : decode cX10_opens 51 = .ok (.getfield 13, 3) := by decide +kernel
theorem dX10_opens_54 : decode cX10_opens 54 = .ok (.iload_n 2, 1) := by decide +kernel
theorem dX10_opens_55 : decode cX10_opens 55 = .ok (.iconst 0, 1) := by decide +kernel
theorem dX10_opens_56 : decode cX10_opens 56 = .ok (.iastore, 1) := by decide +kernel
theorem dX10_opens_57 : decode cX10_opens 57 = .ok (.aload_n 0, 1) := by decide +kernel
theorem dX10_opens_58 : decode cX10_opens 58 = .ok (.getfield 7, 3) := by decide +kernel
theorem dX10_opens_61 : decode cX10_opens 61 = .ok (.iload_n 2, 1) := by decide +kernel
theorem dX10_opens_62 : decode cX10_opens 62 = .ok (.iconst 1, 1) := by decide +kernel
theorem dX10_opens_63 : decode cX10_opens 63 = .ok (.bastore, 1) := by decide +kernel
theorem dX10_opens_64 : decode cX10_opens 64 = .ok (.aload_n 0, 1) := by decide +kernel
theorem dX10_opens_65 : decode cX10_opens 65 = .ok (.getfield 155, 3) := by decide +kernel
theorem dX10_opens_68 : decode cX10_opens 68 = .ok (.istore 5, 2) := by decide +kernel
theorem dX10_opens_70 : decode cX10_opens 70 = .ok (.aload_n 0, 1) := by decide +kernel
theorem dX10_opens_71 : decode cX10_opens 71 = .ok (.getfield 48, 3) := by decide +kernel
theorem dX10_opens_74 : decode cX10_opens 74 = .ok (.iload 5, 2) := by decide +kernel
theorem dX10_opens_76 : decode cX10_opens 76 = .ok (.iload_n 2, 1) := by decide +kernel
theorem dX10_opens_77 : decode cX10_opens 77 = .ok (.iastore, 1) := by decide +kernel
theorem dX10_opens_78 : decode cX10_opens 78 = .ok (.aload_n 0, 1) := by decide +kernel
theorem dX10_opens_79 : decode cX10_opens 79 = .ok (.getfield 51, 3) := by decide +kernel
theorem dX10_opens_82 : decode cX10_opens 82 = .ok (.iload 5, 2) := by decide +kernel
theorem dX10_opens_84 : decode cX10_opens 84 = .ok (.iload_n 3, 1) := by decide +kernel
theorem dX10_opens_85 : decode cX10_opens 85 = .ok (.iastore, 1) := by decide +kernel
theorem dX10_opens_86 : decode cX10_opens 86 = .ok (.aload_n 0, 1) := by decide +kernel
theorem dX10_opens_87 : decode cX10_opens 87 = .ok (.getfield 54, 3) := by decide +kernel
theorem dX10_opens_90 : decode cX10_opens 90 = .ok (.iload 5, 2) := by decide +kernel
theorem dX10_opens_92 : decode cX10_opens 92 = .ok (.iload_n 3, 1) := by decide +kernel
theorem dX10_opens_93 : decode cX10_opens 93 = .ok (.iconst 2, 1) := by decide +kernel
theorem dX10_opens_94 : decode cX10_opens 94 = .ok (.if_icmp .ne 12, 3) := by decide +kernel
theorem dX10_opens_97 : decode cX10_opens 97 = .ok (.aload_n 0, 1) := by decide +kernel
theorem dX10_opens_98 : decode cX10_opens 98 = .ok (.getfield 13, 3) := by decide +kernel
theorem dX10_opens_101 : decode cX10_opens 101 = .ok (.iload_n 2, 1) := by decide +kernel
theorem dX10_opens_102 : decode cX10_opens 102 = .ok (.iaload, 1) := by decide +kernel
theorem dX10_opens_103 : decode cX10_opens 103 = .ok (.goto 4, 3) := by decide +kernel
theorem dX10_opens_106 : decode cX10_opens 106 = .ok (.iconst 0, 1) := by decide +kernel
theorem dX10_opens_107 : decode cX10_opens 107 = .ok (.iastore, 1) := by decide +kernel
theorem dX10_opens_108 : decode cX10_opens 108 = .ok (.aload_n 0, 1) := by decide +kernel
theorem dX10_opens_109 : decode cX10_opens 109 = .ok (.getfield 57, 3) := by decide +kernel
theorem dX10_opens_112 : decode cX10_opens 112 = .ok (.iload 5, 2) := by decide +kernel
theorem dX10_opens_114 : decode cX10_opens 114 = .ok (.iconst 0, 1) := by decide +kernel
theorem dX10_opens_115 : decode cX10_opens 115 = .ok (.iastore, 1) := by decide +kernel
theorem dX10_opens_116 : decode cX10_opens 116 = .ok (.aload_n 0, 1) := by decide +kernel
theorem dX10_opens_117 : decode cX10_opens 117 = .ok (.getfield 63, 3) := by decide +kernel
theorem dX10_opens_120 : decode cX10_opens 120 = .ok (.iload 5, 2) := by decide +kernel
theorem dX10_opens_122 : decode cX10_opens 122 = .ok (.iconst 0, 1) := by decide +kernel
theorem dX10_opens_123 : decode cX10_opens 123 = .ok (.iastore, 1) := by decide +kernel
theorem dX10_opens_124 : decode cX10_opens 124 = .ok (.aload_n 0, 1) := by decide +kernel
theorem dX10_opens_125 : decode cX10_opens 125 = .ok (.getfield 66, 3) := by decide +kernel
theorem dX10_opens_128 : decode cX10_opens 128 = .ok (.iload 5, 2) := by decide +kernel
theorem dX10_opens_130 : decode cX10_opens 130 = .ok (.iconst 0, 1) := by decide +kernel
theorem dX10_opens_131 : decode cX10_opens 131 = .ok (.iastore, 1) := by decide +kernel
theorem dX10_opens_132 : decode cX10_opens 132 = .ok (.aload_n 0, 1) := by decide +kernel
theorem dX10_opens_133 : decode cX10_opens 133 = .ok (.getfield 72, 3) := by decide +kernel
theorem dX10_opens_136 : decode cX10_opens 136 = .ok (.iload 5, 2) := by decide +kernel
theorem dX10_opens_138 : decode cX10_opens 138 = .ok (.iconst 0, 1) := by decide +kernel
theorem dX10_opens_139 : decode cX10_opens 139 = .ok (.iastore, 1) := by decide +kernel
theorem dX10_opens_140 : decode cX10_opens 140 = .ok (.aload_n 0, 1) := by decide +kernel
theorem dX10_opens_141 : decode cX10_opens 141 = .ok (.getfield 75, 3) := by decide +kernel
theorem dX10_opens_144 : decode cX10_opens 144 = .ok (.iload 5, 2) := by decide +kernel
theorem dX10_opens_146 : decode cX10_opens 146 = .ok (.iconst 0, 1) := by decide +kernel
theorem dX10_opens_147 : decode cX10_opens 147 = .ok (.iastore, 1) := by decide +kernel
theorem dX10_opens_148 : decode cX10_opens 148 = .ok (.aload_n 0, 1) := by decide +kernel
theorem dX10_opens_149 : decode cX10_opens 149 = .ok (.getfield 78, 3) := by decide +kernel
theorem dX10_opens_152 : decode cX10_opens 152 = .ok (.iload 5, 2) := by decide +kernel
theorem dX10_opens_154 : decode cX10_opens 154 = .ok (.iconst 0, 1) := by decide +kernel
theorem dX10_opens_155 : decode cX10_opens 155 = .ok (.iastore, 1) := by decide +kernel
theorem dX10_opens_156 : decode cX10_opens 156 = .ok (.aload_n 0, 1) := by decide +kernel
theorem dX10_opens_157 : decode cX10_opens 157 = .ok (.dup, 1) := by decide +kernel
theorem dX10_opens_158 : decode cX10_opens 158 = .ok (.getfield 155, 3) := by decide +kernel
theorem dX10_opens_161 : decode cX10_opens 161 = .ok (.iconst 1, 1) := by decide +kernel
theorem dX10_opens_162 : decode cX10_opens 162 = .ok (.iadd, 1) := by decide +kernel
theorem dX10_opens_163 : decode cX10_opens 163 = .ok (.putfield 155, 3) := by decide +kernel
theorem dX10_opens_166 : decode cX10_opens 166 = .ok (.aload_n 0, 1) := by decide +kernel
theorem dX10_opens_167 : decode cX10_opens 167 = .ok (.iload_n 1, 1) := by decide +kernel
theorem dX10_opens_168 : decode cX10_opens 168 = .ok (.invokevirtual 175, 3) := by decide +kernel
theorem dX10_opens_171 : decode cX10_opens 171 = .ok (.aload_n 0, 1) := by decide +kernel
theorem dX10_opens_172 : decode cX10_opens 172 = .ok (.iconst 1, 1) := by decide +kernel
theorem dX10_opens_173 : decode cX10_opens 173 = .ok (.iload 5, 2) := by decide +kernel
theorem dX10_opens_175 : decode cX10_opens 175 = .ok (.invokevirtual 179, 3) := by decide +kernel
theorem dX10_opens_178 : decode cX10_opens 178 = .ok (.return_, 1) := by decide +kernel
theorem dX10_remove_0 : decode cX10_remove 0 = .ok (.aload_n 0, 1) := by decide +kernel
theorem dX10_remove_1 : decode cX10_remove 1 = .ok (.getfield 33, 3) := by decide +kernel
theorem dX10_remove_4 : decode cX10_remove 4 = .ok (.iload_n 1, 1) := by decide +kernel
theorem dX10_remove_5 : decode cX10_remove 5 = .ok (.iaload, 1) := by decide +kernel
theorem dX10_remove_6 : decode cX10_remove 6 = .ok (.istore_n 2, 1) := by decide +kernel
theorem dX10_remove_7 : decode cX10_remove 7 = .ok (.aload_n 0, 1) := by decide +kernel
theorem dX10_remove_8 : decode cX10_remove 8 = .ok (.getfield 7, 3) := by decide +kernel
theorem dX10_remove_11 : decode cX10_remove 11 = .ok (.iload_n 2, 1) := by decide +kernel
theorem dX10_remove_12 : decode cX10_remove 12 = .ok (.baload, 1) := by decide +kernel
theorem dX10_remove_13 : decode cX10_remove 13 = .ok (.ifCond .ne 12, 3) := by decide +kernel
theorem dX10_remove_16 : decode cX10_remove 16 = .ok (.aload_n 0, 1) := by decide +kernel
theorem dX10_remove_17 : decode cX10_remove 17 = .ok (.iload_n 1, 1) := by decide +kernel
theorem dX10_remove_18 : decode cX10_remove 18 = .ok (.iconst 1, 1) := by decide +kernel
theorem dX10_remove_19 : decode cX10_remove 19 = .ok (.invokevirtual 171, 3) := by decide +kernel
theorem dX10_remove_22 : decode cX10_remove 22 = .ok (.goto 65, 3) := by decide +kernel
theorem dX10_remove_25 : decode cX10_remove 25 = .ok (.aload_n 0, 1) := by decide +kernel
theorem dX10_remove_26 : decode cX10_remove 26 = .ok (.getfield 21, 3) := by decide +kernel
theorem dX10_remove_29 : decode cX10_remove 29 = .ok (.iload_n 2, 1) := by decide +kernel
theorem dX10_remove_30 : decode cX10_remove 30 = .ok (.iaload, 1) := by decide +kernel
theorem dX10_remove_31 : decode cX10_remove 31 = .ok (.iconst 2, 1) := by decide +kernel
theorem dX10_remove_32 : decode cX10_remove 32 = .ok (.iand, 1) := by decide +kernel
theorem dX10_remove_33 : decode cX10_remove 33 = .ok (.ifCond .ne 12, 3) := by decide +kernel
theorem dX10_remove_36 : decode cX10_remove 36 = .ok (.aload_n 0, 1) := by decide +kernel
theorem dX10_remove_37 : decode cX10_remove 37 = .ok (.iload_n 1, 1) := by decide +kernel
theorem dX10_remove_38 : decode cX10_remove 38 = .ok (.iconst 2, 1) := by decide +kernel
theorem dX10_remove_39 : decode cX10_remove 39 = .ok (.invokevirtual 171, 3) := by decide +kernel
theorem dX10_remove_42 : decode cX10_remove 42 = .ok (.goto 45, 3) := by decide +kernel
theorem dX10_remove_45 : decode cX10_remove 45 = .ok (.aload_n 0, 1) := by decide +kernel
theorem dX10_remove_46 : decode cX10_remove 46 = .ok (.iload_n 2, 1) := by decide +kernel
theorem dX10_remove_47 : decode cX10_remove 47 = .ok (.invokevirtual 164, 3) := by decide +kernel
theorem dX10_remove_50 : decode cX10_remove 50 = .ok (.ifCond .eq 12, 3) := by decide +kernel
theorem dX10_remove_53 : decode cX10_remove 53 = .ok (.aload_n 0, 1) := by decide +kernel
theorem dX10_remove_54 : decode cX10_remove 54 = .ok (.iload_n 1, 1) := by decide +kernel
theorem dX10_remove_55 : decode cX10_remove 55 = .ok (.iconst 0, 1) := by decide +kernel
theorem dX10_remove_56 : decode cX10_remove 56 = .ok (.invokevirtual 171, 3) := by decide +kernel
theorem dX10_remove_59 : decode cX10_remove 59 = .ok (.goto 28, 3) := by decide +kernel
theorem dX10_remove_62 : decode cX10_remove 62 = .ok (.aload_n 0, 1) := by decide +kernel
theorem dX10_remove_63 : decode cX10_remove 63 = .ok (.getfield 7, 3) := by decide +kernel
theorem dX10_remove_66 : decode cX10_remove 66 = .ok (.iload_n 2, 1) := by decide +kernel
theorem dX10_remove_67 : decode cX10_remove 67 = .ok (.iconst 0, 1) := by decide +kernel
theorem dX10_remove_68 : decode cX10_remove 68 = .ok (.bastore, 1) := by decide +kernel
theorem dX10_remove_69 : decode cX10_remove 69 = .ok (.aload_n 0, 1) := by decide +kernel
theorem dX10_remove_70 : decode cX10_remove 70 = .ok (.getfield 13, 3) := by decide +kernel
theorem dX10_remove_73 : decode cX10_remove 73 = .ok (.iload_n 2, 1) := by decide +kernel
theorem dX10_remove_74 : decode cX10_remove 74 = .ok (.iconst 0, 1) := by decide +kernel
theorem dX10_remove_75 : decode cX10_remove 75 = .ok (.iastore, 1) := by decide +kernel
theorem dX10_remove_76 : decode cX10_remove 76 = .ok (.aload_n 0, 1) := by decide +kernel
theorem dX10_remove_77 : decode cX10_remove 77 = .ok (.iload_n 1, 1) := by decide +kernel
theorem dX10_remove_78 : decode cX10_remove 78 = .ok (.invokevirtual 175, 3) := by decide +kernel
theorem dX10_remove_81 : decode cX10_remove 81 = .ok (.aload_n 0, 1) := by decide +kernel
theorem dX10_remove_82 : decode cX10_remove 82 = .ok (.iconst 0, 1) := by decide +kernel
theorem dX10_remove_83 : decode cX10_remove 83 = .ok (.iconst 0, 1) := by decide +kernel
theorem dX10_remove_84 : decode cX10_remove 84 = .ok (.invokevirtual 179, 3) := by decide +kernel
theorem dX10_remove_87 : decode cX10_remove 87 = .ok (.return_, 1) := by decide +kernel
theorem dX10_rename_0 : decode cX10_rename 0 = .ok (.aload_n 0, 1) := by decide +kernel
theorem dX10_rename_1 : decode cX10_rename 1 = .ok (.getfield 33, 3) := by decide +kernel
theorem dX10_rename_4 : decode cX10_rename 4 = .ok (.iload_n 1, 1) := by decide +kernel
theorem dX10_rename_5 : decode cX10_rename 5 = .ok (.iaload, 1) := by decide +kernel
theorem dX10_rename_6 : decode cX10_rename 6 = .ok (.istore_n 2, 1) := by decide +kernel
theorem dX10_rename_7 : decode cX10_rename 7 = .ok (.aload_n 0, 1) := by decide +kernel
theorem dX10_rename_8 : decode cX10_rename 8 = .ok (.getfield 36, 3) := by decide +kernel
theorem dX10_rename_11 : decode cX10_rename 11 = .ok (.iload_n 1, 1) := by decide +kernel
theorem dX10_rename_12 : decode cX10_rename 12 = .ok (.iaload, 1) := by decide +kernel
theorem dX10_rename_13 : decode cX10_rename 13 = .ok (.istore_n 3, 1) := by decide +kernel
theorem dX10_rename_14 : decode cX10_rename 14 = .ok (.aload_n 0, 1) := by decide +kernel
theorem dX10_rename_15 : decode cX10_rename 15 = .ok (.getfield 7, 3) := by decide +kernel
theorem dX10_rename_18 : decode cX10_rename 18 = .ok (.iload_n 2, 1) := by decide +kernel
theorem dX10_rename_19 : decode cX10_rename 19 = .ok (.baload, 1) := by decide +kernel
theorem dX10_rename_20 : decode cX10_rename 20 = .ok (.ifCond .ne 12, 3) := by decide +kernel
theorem dX10_rename_23 : decode cX10_rename 23 = .ok (.aload_n 0, 1) := by decide +kernel
theorem dX10_rename_24 : decode cX10_rename 24 = .ok (.iload_n 1, 1) := by decide +kernel
theorem dX10_rename_25 : decode cX10_rename 25 = .ok (.iconst 1, 1) := by decide +kernel
theorem dX10_rename_26 : decode cX10_rename 26 = .ok (.invokevirtual 171, 3) := by decide +kernel
theorem dX10_rename_29 : decode cX10_rename 29 = .ok (.goto 152, 3) := by decide +kernel
theorem dX10_rename_32 : decode cX10_rename 32 = .ok (.aload_n 0, 1) := by decide +kernel
theorem dX10_rename_33 : decode cX10_rename 33 = .ok (.getfield 21, 3) := by decide +kernel
theorem dX10_rename_36 : decode cX10_rename 36 = .ok (.iload_n 2, 1) := by decide +kernel
theorem dX10_rename_37 : decode cX10_rename 37 = .ok (.iaload, 1) := by decide +kernel
theorem dX10_rename_38 : decode cX10_rename 38 = .ok (.iconst 2, 1) := by decide +kernel
theorem dX10_rename_39 : decode cX10_rename 39 = .ok (.iand, 1) := by decide +kernel
theorem dX10_rename_40 : decode cX10_rename 40 = .ok (.ifCond .eq 14, 3) := by decide +kernel
theorem dX10_rename_43 : decode cX10_rename 43 = .ok (.aload_n 0, 1) := by decide +kernel
theorem dX10_rename_44 : decode cX10_rename 44 = .ok (.getfield 21, 3) := by decide +kernel
theorem dX10_rename_47 : decode cX10_rename 47 = .ok (.iload_n 3, 1) := by decide +kernel
theorem dX10_rename_48 : decode cX10_rename 48 = .ok (.iaload, 1) := by decide +kernel
theorem dX10_rename_49 : decode cX10_rename 49 = .ok (.iconst 2, 1) := by decide +kernel
theorem dX10_rename_50 : decode cX10_rename 50 = .ok (.iand, 1) := by decide +kernel
theorem dX10_rename_51 : decode cX10_rename 51 = .ok (.ifCond .ne 12, 3) := by decide +kernel
theorem dX10_rename_54 : decode cX10_rename 54 = .ok (.aload_n 0, 1) := by decide +kernel
theorem dX10_rename_55 : decode cX10_rename 55 = .ok (.iload_n 1, 1) := by decide +kernel
theorem dX10_rename_56 : decode cX10_rename 56 = .ok (.iconst 2, 1) := by decide +kernel
theorem dX10_rename_57 : decode cX10_rename 57 = .ok (.invokevirtual 171, 3) := by decide +kernel
theorem dX10_rename_60 : decode cX10_rename 60 = .ok (.goto 121, 3) := by decide +kernel
theorem dX10_rename_63 : decode cX10_rename 63 = .ok (.aload_n 0, 1) := by decide +kernel
theorem dX10_rename_64 : decode cX10_rename 64 = .ok (.iload_n 2, 1) := by decide +kernel
theorem dX10_rename_65 : decode cX10_rename 65 = .ok (.invokevirtual 164, 3) := by decide +kernel
theorem dX10_rename_68 : decode cX10_rename 68 = .ok (.ifCond .ne 11, 3) := by decide +kernel
theorem dX10_rename_71 : decode cX10_rename 71 = .ok (.aload_n 0, 1) := by decide +kernel
theorem dX10_rename_72 : decode cX10_rename 72 = .ok (.iload_n 3, 1) := by decide +kernel
theorem dX10_rename_73 : decode cX10_rename 73 = .ok (.invokevirtual 164, 3) := by decide +kernel
theorem dX10_rename_76 : decode cX10_rename 76 = .ok (.ifCond .eq 12, 3) := by decide +kernel
theorem dX10_rename_79 : decode cX10_rename 79 = .ok (.aload_n 0, 1) := by decide +kernel
theorem dX10_rename_80 : decode cX10_rename 80 = .ok (.iload_n 1, 1) := by decide +kernel
theorem dX10_rename_81 : decode cX10_rename 81 = .ok (.iconst 0, 1) := by decide +kernel
theorem dX10_rename_82 : decode cX10_rename 82 = .ok (.invokevirtual 171, 3) := by decide +kernel
theorem dX10_rename_85 : decode cX10_rename 85 = .ok (.goto 96, 3) := by decide +kernel
theorem dX10_rename_88 : decode cX10_rename 88 = .ok (.iload_n 2, 1) := by decide +kernel
theorem dX10_rename_89 : decode cX10_rename 89 = .ok (.iload_n 3, 1) := by decide +kernel
theorem dX10_rename_90 : decode cX10_rename 90 = .ok (.if_icmp .eq 85, 3) := by decide +kernel
theorem dX10_rename_93 : decode cX10_rename 93 = .ok (.iconst 0, 1) := by decide +kernel
theorem dX10_rename_94 : decode cX10_rename 94 = .ok (.istore 4, 2) := by decide +kernel
theorem dX10_rename_96 : decode cX10_rename 96 = .ok (.iload 4, 2) := by decide +kernel
theorem dX10_rename_98 : decode cX10_rename 98 = .ok (.aload_n 0, 1) := by decide +kernel
theorem dX10_rename_99 : decode cX10_rename 99 = .ok (.getfield 13, 3) := by decide +kernel
theorem dX10_rename_102 : decode cX10_rename 102 = .ok (.iload_n 2, 1) := by decide +kernel
theorem dX10_rename_103 : decode cX10_rename 103 = .ok (.iaload, 1) := by decide +kernel
theorem dX10_rename_104 : decode cX10_rename 104 = .ok (.if_icmp .ge 33, 3) := by decide +kernel
theorem dX10_rename_107 : decode cX10_rename 107 = .ok (.aload_n 0, 1) := by decide +kernel
theorem dX10_rename_108 : decode cX10_rename 108 = .ok (.getfield 17, 3) := by decide +kernel
theorem dX10_rename_111 : decode cX10_rename 111 = .ok (.bipush 40, 2) := by decide +kernel
theorem dX10_rename_113 : decode cX10_rename 113 = .ok (.iload_n 3, 1) := by decide +kernel
theorem dX10_rename_114 : decode cX10_rename 114 = .ok (.imul, 1) := by decide +kernel
theorem dX10_rename_115 : decode cX10_rename 115 = .ok (.iload 4, 2) := by decide +kernel
theorem dX10_rename_117 : decode cX10_rename 117 = .ok (.iadd, 1) := by decide +kernel
theorem dX10_rename_118 : decode cX10_rename 118 = .ok (.aload_n 0, 1) := by decide +kernel
theorem dX10_rename_119 : decode cX10_rename 119 = .ok (.getfield 17, 3) := by decide +kernel
theorem dX10_rename_122 : decode cX10_rename 122 = .ok (.bipush 40, 2) := by decide +kernel
theorem dX10_rename_124 : decode cX10_rename 124 = .ok (.iload_n 2, 1) := by decide +kernel
theorem dX10_rename_125 : decode cX10_rename 125 = .ok (.imul, 1) := by decide +kernel
theorem dX10_rename_126 : decode cX10_rename 126 = .ok (.iload 4, 2) := by decide +kernel
theorem dX10_rename_128 : decode cX10_rename 128 = .ok (.iadd, 1) := by decide +kernel
theorem dX10_rename_129 : decode cX10_rename 129 = .ok (.baload, 1) := by decide +kernel
theorem dX10_rename_130 : decode cX10_rename 130 = .ok (.bastore, 1) := by decide +kernel
theorem dX10_rename_131 : decode cX10_rename 131 = .ok (.iinc 4 1, 3) := by decide +kernel
theorem dX10_rename_134 : decode cX10_rename 134 = .ok (.goto (-38), 3) := by decide +kernel
theorem dX10_rename_137 : decode cX10_rename 137 = .ok (.aload_n 0, 1) := by decide +kernel
theorem dX10_rename_138 : decode cX10_rename 138 = .ok (.getfield 13, 3) := by decide +kernel
theorem dX10_rename_141 : decode cX10_rename 141 = .ok (.iload_n 3, 1) := by decide +kernel
theorem dX10_rename_142 : decode cX10_rename 142 = .ok (.aload_n 0, 1) := by decide +kernel
theorem dX10_rename_143 : decode cX10_rename 143 = .ok (.getfield 13, 3) := by decide +kernel
theorem dX10_rename_146 : decode cX10_rename 146 = .ok (.iload_n 2, 1) := by decide +kernel
theorem dX10_rename_147 : decode cX10_rename 147 = .ok (.iaload, 1) := by decide +kernel
theorem dX10_rename_148 : decode cX10_rename 148 = .ok (.iastore, 1) := by decide +kernel
theorem dX10_rename_149 : decode cX10_rename 149 = .ok (.aload_n 0, 1) := by decide +kernel
theorem dX10_rename_150 : decode cX10_rename 150 = .ok (.getfield 7, 3) := by decide +kernel
theorem dX10_rename_153 : decode cX10_rename 153 = .ok (.iload_n 3, 1) := by decide +kernel
theorem dX10_rename_154 : decode cX10_rename 154 = .ok (.iconst 1, 1) := by decide +kernel
theorem dX10_rename_155 : decode cX10_rename 155 = .ok (.bastore, 1) := by decide +kernel
theorem dX10_rename_156 : decode cX10_rename 156 = .ok (.aload_n 0, 1) := by decide +kernel
theorem dX10_rename_157 : decode cX10_rename 157 = .ok (.getfield 13, 3) := by decide +kernel
theorem dX10_rename_160 : decode cX10_rename 160 = .ok (.iload_n 2, 1) := by decide +kernel
theorem dX10_rename_161 : decode cX10_rename 161 = .ok (.iconst 0, 1) := by decide +kernel
theorem dX10_rename_162 : decode cX10_rename 162 = .ok (.iastore, 1) := by decide +kernel
theorem dX10_rename_163 : decode cX10_rename 163 = .ok (.aload_n 0, 1) := by decide +kernel
theorem dX10_rename_164 : decode cX10_rename 164 = .ok (.getfield 7, 3) := by decide +kernel
theorem dX10_rename_167 : decode cX10_rename 167 = .ok (.iload_n 2, 1) := by decide +kernel
theorem dX10_rename_168 : decode cX10_rename 168 = .ok (.iconst 0, 1) := by decide +kernel
theorem dX10_rename_169 : decode cX10_rename 169 = .ok (.bastore, 1) := by decide +kernel
theorem dX10_rename_170 : decode cX10_rename 170 = .ok (.aload_n 0, 1) := by decide +kernel
theorem dX10_rename_171 : decode cX10_rename 171 = .ok (.iload_n 1, 1) := by decide +kernel
theorem dX10_rename_172 : decode cX10_rename 172 = .ok (.invokevirtual 175, 3) := by decide +kernel
theorem dX10_rename_175 : decode cX10_rename 175 = .ok (.aload_n 0, 1) := by decide +kernel
theorem dX10_rename_176 : decode cX10_rename 176 = .ok (.iconst 0, 1) := by decide +kernel
theorem dX10_rename_177 : decode cX10_rename 177 = .ok (.iconst 0, 1) := by decide +kernel
theorem dX10_rename_178 : decode cX10_rename 178 = .ok (.invokevirtual 179, 3) := by decide +kernel
theorem dX10_rename_181 : decode cX10_rename 181 = .ok (.return_, 1) := by decide +kernel
theorem dX10_gives_0 : decode cX10_gives 0 = .ok (.aload_n 0, 1) := by decide +kernel
theorem dX10_gives_1 : decode cX10_gives 1 = .ok (.iload_n 1, 1) := by decide +kernel
theorem dX10_gives_2 : decode cX10_gives 2 = .ok (.putfield 182, 3) := by decide +kernel
theorem dX10_gives_5 : decode cX10_gives 5 = .ok (.aload_n 0, 1) := by decide +kernel
theorem dX10_gives_6 : decode cX10_gives 6 = .ok (.iload_n 2, 1) := by decide +kernel
theorem dX10_gives_7 : decode cX10_gives 7 = .ok (.putfield 185, 3) := by decide +kernel
theorem dX10_gives_10 : decode cX10_gives 10 = .ok (.aload_n 0, 1) := by decide +kernel
theorem dX10_gives_11 : decode cX10_gives 11 = .ok (.dup, 1) := by decide +kernel
theorem dX10_gives_12 : decode cX10_gives 12 = .ok (.getfield 188, 3) := by decide +kernel
theorem dX10_gives_15 : decode cX10_gives 15 = .ok (.iconst 1, 1) := by decide +kernel
theorem dX10_gives_16 : decode cX10_gives 16 = .ok (.isub, 1) := by decide +kernel
theorem dX10_gives_17 : decode cX10_gives 17 = .ok (.putfield 188, 3) := by decide +kernel
theorem dX10_gives_20 : decode cX10_gives 20 = .ok (.return_, 1) := by decide +kernel
theorem dX10_fails_0 : decode cX10_fails 0 = .ok (.aload_n 0, 1) := by decide +kernel
theorem dX10_fails_1 : decode cX10_fails 1 = .ok (.iconst 1, 1) := by decide +kernel
theorem dX10_fails_2 : decode cX10_fails 2 = .ok (.putfield 191, 3) := by decide +kernel
theorem dX10_fails_5 : decode cX10_fails 5 = .ok (.aload_n 0, 1) := by decide +kernel
theorem dX10_fails_6 : decode cX10_fails 6 = .ok (.iload_n 2, 1) := by decide +kernel
theorem dX10_fails_7 : decode cX10_fails 7 = .ok (.putfield 194, 3) := by decide +kernel
theorem dX10_fails_10 : decode cX10_fails 10 = .ok (.aload_n 0, 1) := by decide +kernel
theorem dX10_fails_11 : decode cX10_fails 11 = .ok (.iload_n 1, 1) := by decide +kernel
theorem dX10_fails_12 : decode cX10_fails 12 = .ok (.putfield 197, 3) := by decide +kernel
theorem dX10_fails_15 : decode cX10_fails 15 = .ok (.aload_n 0, 1) := by decide +kernel
theorem dX10_fails_16 : decode cX10_fails 16 = .ok (.dup, 1) := by decide +kernel
theorem dX10_fails_17 : decode cX10_fails 17 = .ok (.getfield 188, 3) := by decide +kernel
theorem dX10_fails_20 : decode cX10_fails 20 = .ok (.iconst 1, 1) := by decide +kernel
theorem dX10_fails_21 : decode cX10_fails 21 = .ok (.isub, 1) := by decide +kernel
theorem dX10_fails_22 : decode cX10_fails 22 = .ok (.putfield 188, 3) := by decide +kernel
theorem dX10_fails_25 : decode cX10_fails 25 = .ok (.return_, 1) := by decide +kernel
theorem dX10_begin_0 : decode cX10_begin 0 = .ok (.aload_n 0, 1) := by decide +kernel
theorem dX10_begin_1 : decode cX10_begin 1 = .ok (.getfield 200, 3) := by decide +kernel
theorem dX10_begin_4 : decode cX10_begin 4 = .ok (.sipush 600, 3) := by decide +kernel
theorem dX10_begin_7 : decode cX10_begin 7 = .ok (.if_icmp .ne 9, 3) := by decide +kernel
theorem dX10_begin_10 : decode cX10_begin 10 = .ok (.aload_n 0, 1) := by decide +kernel
theorem dX10_begin_11 : decode cX10_begin 11 = .ok (.iconst 3, 1) := by decide +kernel
theorem dX10_begin_12 : decode cX10_begin 12 = .ok (.putfield 191, 3) := by decide +kernel
theorem dX10_begin_15 : decode cX10_begin 15 = .ok (.return_, 1) := by decide +kernel
theorem dX10_begin_16 : decode cX10_begin 16 = .ok (.aload_n 0, 1) := by decide +kernel
theorem dX10_begin_17 : decode cX10_begin 17 = .ok (.dup, 1) := by decide +kernel
theorem dX10_begin_18 : decode cX10_begin 18 = .ok (.getfield 200, 3) := by decide +kernel
theorem dX10_begin_21 : decode cX10_begin 21 = .ok (.iconst 1, 1) := by decide +kernel
theorem dX10_begin_22 : decode cX10_begin 22 = .ok (.iadd, 1) := by decide +kernel
theorem dX10_begin_23 : decode cX10_begin 23 = .ok (.putfield 200, 3) := by decide +kernel
theorem dX10_begin_26 : decode cX10_begin 26 = .ok (.aload_n 0, 1) := by decide +kernel
theorem dX10_begin_27 : decode cX10_begin 27 = .ok (.getfield 100, 3) := by decide +kernel
theorem dX10_begin_30 : decode cX10_begin 30 = .ok (.aload_n 0, 1) := by decide +kernel
theorem dX10_begin_31 : decode cX10_begin 31 = .ok (.getfield 188, 3) := by decide +kernel
theorem dX10_begin_34 : decode cX10_begin 34 = .ok (.iload_n 1, 1) := by decide +kernel
theorem dX10_begin_35 : decode cX10_begin 35 = .ok (.iastore, 1) := by decide +kernel
theorem dX10_begin_36 : decode cX10_begin 36 = .ok (.aload_n 0, 1) := by decide +kernel
theorem dX10_begin_37 : decode cX10_begin 37 = .ok (.getfield 103, 3) := by decide +kernel
theorem dX10_begin_40 : decode cX10_begin 40 = .ok (.aload_n 0, 1) := by decide +kernel
theorem dX10_begin_41 : decode cX10_begin 41 = .ok (.getfield 188, 3) := by decide +kernel
theorem dX10_begin_44 : decode cX10_begin 44 = .ok (.iconst 0, 1) := by decide +kernel
theorem dX10_begin_45 : decode cX10_begin 45 = .ok (.iastore, 1) := by decide +kernel
theorem dX10_begin_46 : decode cX10_begin 46 = .ok (.aload_n 0, 1) := by decide +kernel
theorem dX10_begin_47 : decode cX10_begin 47 = .ok (.getfield 112, 3) := by decide +kernel
theorem dX10_begin_50 : decode cX10_begin 50 = .ok (.aload_n 0, 1) := by decide +kernel
theorem dX10_begin_51 : decode cX10_begin 51 = .ok (.getfield 188, 3) := by decide +kernel
theorem dX10_begin_54 : decode cX10_begin 54 = .ok (.iconst 0, 1) := by decide +kernel
theorem dX10_begin_55 : decode cX10_begin 55 = .ok (.iastore, 1) := by decide +kernel
theorem dX10_begin_56 : decode cX10_begin 56 = .ok (.aload_n 0, 1) := by decide +kernel
theorem dX10_begin_57 : decode cX10_begin 57 = .ok (.dup, 1) := by decide +kernel
theorem dX10_begin_58 : decode cX10_begin 58 = .ok (.getfield 188, 3) := by decide +kernel
theorem dX10_begin_61 : decode cX10_begin 61 = .ok (.iconst 1, 1) := by decide +kernel
theorem dX10_begin_62 : decode cX10_begin 62 = .ok (.iadd, 1) := by decide +kernel
theorem dX10_begin_63 : decode cX10_begin 63 = .ok (.putfield 188, 3) := by decide +kernel
theorem dX10_begin_66 : decode cX10_begin 66 = .ok (.return_, 1) := by decide +kernel
theorem dX10_isSort_0 : decode cX10_isSort 0 = .ok (.aload_n 0, 1) := by decide +kernel
theorem dX10_isSort_1 : decode cX10_isSort 1 = .ok (.getfield 182, 3) := by decide +kernel
theorem dX10_isSort_4 : decode cX10_isSort 4 = .ok (.iload_n 2, 1) := by decide +kernel
theorem dX10_isSort_5 : decode cX10_isSort 5 = .ok (.if_icmp .ne 5, 3) := by decide +kernel
theorem dX10_isSort_8 : decode cX10_isSort 8 = .ok (.iconst 1, 1) := by decide +kernel
theorem dX10_isSort_9 : decode cX10_isSort 9 = .ok (.ireturn, 1) := by decide +kernel
theorem dX10_isSort_10 : decode cX10_isSort 10 = .ok (.aload_n 0, 1) := by decide +kernel
theorem dX10_isSort_11 : decode cX10_isSort 11 = .ok (.iload_n 1, 1) := by decide +kernel
theorem dX10_isSort_12 : decode cX10_isSort 12 = .ok (.iconst 4, 1) := by decide +kernel
theorem dX10_isSort_13 : decode cX10_isSort 13 = .ok (.invokevirtual 171, 3) := by decide +kernel
theorem dX10_isSort_16 : decode cX10_isSort 16 = .ok (.iconst 0, 1) := by decide +kernel
theorem dX10_isSort_17 : decode cX10_isSort 17 = .ok (.ireturn, 1) := by decide +kernel
theorem dX10_isOpen_0 : decode cX10_isOpen 0 = .ok (.aload_n 0, 1) := by decide +kernel
theorem dX10_isOpen_1 : decode cX10_isOpen 1 = .ok (.getfield 57, 3) := by decide +kernel
theorem dX10_isOpen_4 : decode cX10_isOpen 4 = .ok (.iload_n 2, 1) := by decide +kernel
theorem dX10_isOpen_5 : decode cX10_isOpen 5 = .ok (.iaload, 1) := by decide +kernel
theorem dX10_isOpen_6 : decode cX10_isOpen 6 = .ok (.ifCond .ne 5, 3) := by decide +kernel
theorem dX10_isOpen_9 : decode cX10_isOpen 9 = .ok (.iconst 1, 1) := by decide +kernel
theorem dX10_isOpen_10 : decode cX10_isOpen 10 = .ok (.ireturn, 1) := by decide +kernel
theorem dX10_isOpen_11 : decode cX10_isOpen 11 = .ok (.aload_n 0, 1) := by decide +kernel
theorem dX10_isOpen_12 : decode cX10_isOpen 12 = .ok (.iload_n 1, 1) := by decide +kernel
theorem dX10_isOpen_13 : decode cX10_isOpen 13 = .ok (.iconst 4, 1) := by decide +kernel
theorem dX10_isOpen_14 : decode cX10_isOpen 14 = .ok (.invokevirtual 171, 3) := by decide +kernel
theorem dX10_isOpen_17 : decode cX10_isOpen 17 = .ok (.iconst 0, 1) := by decide +kernel
theorem dX10_isOpen_18 : decode cX10_isOpen 18 = .ok (.ireturn, 1) := by decide +kernel
theorem dX10_work_0 : decode cX10_work 0 = .ok (.aload_n 0, 1) := by decide +kernel
theorem dX10_work_1 : decode cX10_work 1 = .ok (.getfield 188, 3) := by decide +kernel
theorem dX10_work_4 : decode cX10_work 4 = .ok (.ifCond .le 47, 3) := by decide +kernel
theorem dX10_work_7 : decode cX10_work 7 = .ok (.aload_n 0, 1) := by decide +kernel
theorem dX10_work_8 : decode cX10_work 8 = .ok (.getfield 191, 3) := by decide +kernel
theorem dX10_work_11 : decode cX10_work 11 = .ok (.iconst 3, 1) := by decide +kernel
theorem dX10_work_12 : decode cX10_work 12 = .ok (.if_icmp .eq 39, 3) := by decide +kernel
theorem dX10_work_15 : decode cX10_work 15 = .ok (.aload_n 0, 1) := by decide +kernel
theorem dX10_work_16 : decode cX10_work 16 = .ok (.getfield 188, 3) := by decide +kernel
theorem dX10_work_19 : decode cX10_work 19 = .ok (.iconst 1, 1) := by decide +kernel
theorem dX10_work_20 : decode cX10_work 20 = .ok (.isub, 1) := by decide +kernel
theorem dX10_work_21 : decode cX10_work 21 = .ok (.istore_n 1, 1) := by decide +kernel
theorem dX10_work_22 : decode cX10_work 22 = .ok (.aload_n 0, 1) := by decide +kernel
theorem dX10_work_23 : decode cX10_work 23 = .ok (.getfield 191, 3) := by decide +kernel
theorem dX10_work_26 : decode cX10_work 26 = .ok (.ifCond .eq 11, 3) := by decide +kernel
theorem dX10_work_29 : decode cX10_work 29 = .ok (.aload_n 0, 1) := by decide +kernel
theorem dX10_work_30 : decode cX10_work 30 = .ok (.iload_n 1, 1) := by decide +kernel
theorem dX10_work_31 : decode cX10_work 31 = .ok (.invokevirtual 203, 3) := by decide +kernel
theorem dX10_work_34 : decode cX10_work 34 = .ok (.goto 14, 3) := by decide +kernel
theorem dX10_work_37 : decode cX10_work 37 = .ok (.aload_n 0, 1) := by decide +kernel
theorem dX10_work_38 : decode cX10_work 38 = .ok (.iload_n 1, 1) := by decide +kernel
theorem dX10_work_39 : decode cX10_work 39 = .ok (.aload_n 0, 1) := by decide +kernel
theorem dX10_work_40 : decode cX10_work 40 = .ok (.getfield 100, 3) := by decide +kernel
theorem dX10_work_43 : decode cX10_work 43 = .ok (.iload_n 1, 1) := by decide +kernel
theorem dX10_work_44 : decode cX10_work 44 = .ok (.iaload, 1) := by decide +kernel
theorem dX10_work_45 : decode cX10_work 45 = .ok (.invokevirtual 206, 3) := by decide +kernel
theorem dX10_work_48 : decode cX10_work 48 = .ok (.goto (-48), 3) := by decide +kernel
theorem dX10_work_51 : decode cX10_work 51 = .ok (.return_, 1) := by decide +kernel
theorem dX10_go_0 : decode cX10_go 0 = .ok (.aload_n 0, 1) := by decide +kernel
theorem dX10_go_1 : decode cX10_go 1 = .ok (.getfield 103, 3) := by decide +kernel
theorem dX10_go_4 : decode cX10_go 4 = .ok (.iload_n 1, 1) := by decide +kernel
theorem dX10_go_5 : decode cX10_go 5 = .ok (.iaload, 1) := by decide +kernel
theorem dX10_go_6 : decode cX10_go 6 = .ok (.istore_n 3, 1) := by decide +kernel
theorem dX10_go_7 : decode cX10_go 7 = .ok (.aload_n 0, 1) := by decide +kernel
theorem dX10_go_8 : decode cX10_go 8 = .ok (.getfield 103, 3) := by decide +kernel
theorem dX10_go_11 : decode cX10_go 11 = .ok (.iload_n 1, 1) := by decide +kernel
theorem dX10_go_12 : decode cX10_go 12 = .ok (.iload_n 3, 1) := by decide +kernel
theorem dX10_go_13 : decode cX10_go 13 = .ok (.iconst 1, 1) := by decide +kernel
theorem dX10_go_14 : decode cX10_go 14 = .ok (.iadd, 1) := by decide +kernel
theorem dX10_go_15 : decode cX10_go 15 = .ok (.iastore, 1) := by decide +kernel
theorem dX10_go_16 : decode cX10_go 16 = .ok (.aload_n 0, 1) := by decide +kernel
theorem dX10_go_17 : decode cX10_go 17 = .ok (.getfield 30, 3) := by decide +kernel
theorem dX10_go_20 : decode cX10_go 20 = .ok (.iload_n 2, 1) := by decide +kernel
theorem dX10_go_21 : decode cX10_go 21 = .ok (.iaload, 1) := by decide +kernel
theorem dX10_go_22 : decode cX10_go 22 = .ok (.istore 4, 2) := by decide +kernel
theorem dX10_go_24 : decode cX10_go 24 = .ok (.iload 4, 2) := by decide +kernel
theorem dX10_go_26 : decode cX10_go 26 = .ok (.ifCond .ne 17, 3) := by decide +kernel
theorem dX10_go_29 : decode cX10_go 29 = .ok (.aload_n 0, 1) := by decide +kernel
theorem dX10_go_30 : decode cX10_go 30 = .ok (.iconst 0, 1) := by decide +kernel
theorem dX10_go_31 : decode cX10_go 31 = .ok (.aload_n 0, 1) := by decide +kernel
theorem dX10_go_32 : decode cX10_go 32 = .ok (.getfield 33, 3) := by decide +kernel
theorem dX10_go_35 : decode cX10_go 35 = .ok (.iload_n 2, 1) := by decide +kernel
theorem dX10_go_36 : decode cX10_go 36 = .ok (.iaload, 1) := by decide +kernel
theorem dX10_go_37 : decode cX10_go 37 = .ok (.invokevirtual 179, 3) := by decide +kernel
theorem dX10_go_40 : decode cX10_go 40 = .ok (.goto 213, 3) := by decide +kernel
theorem dX10_go_43 : decode cX10_go 43 = .ok (.iload 4, 2) := by decide +kernel
theorem dX10_go_45 : decode cX10_go 45 = .ok (.iconst 1, 1) := by decide +kernel
theorem dX10_go_46 : decode cX10_go 46 = .ok (.if_icmp .ne 32, 3) := by decide +kernel
theorem dX10_go_49 : decode cX10_go 49 = .ok (.aload_n 0, 1) := by decide +kernel
theorem dX10_go_50 : decode cX10_go 50 = .ok (.aload_n 0, 1) := by decide +kernel
theorem dX10_go_51 : decode cX10_go 51 = .ok (.getfield 42, 3) := by decide +kernel
theorem dX10_go_54 : decode cX10_go 54 = .ok (.aload_n 0, 1) := by decide +kernel
theorem dX10_go_55 : decode cX10_go 55 = .ok (.getfield 33, 3) := by decide +kernel
theorem dX10_go_58 : decode cX10_go 58 = .ok (.iload_n 2, 1) := by decide +kernel
theorem dX10_go_59 : decode cX10_go 59 = .ok (.iaload, 1) := by decide +kernel
theorem dX10_go_60 : decode cX10_go 60 = .ok (.iaload, 1) := by decide +kernel
theorem dX10_go_61 : decode cX10_go 61 = .ok (.aload_n 0, 1) := by decide +kernel
theorem dX10_go_62 : decode cX10_go 62 = .ok (.getfield 45, 3) := by decide +kernel
theorem dX10_go_65 : decode cX10_go 65 = .ok (.aload_n 0, 1) := by decide +kernel
theorem dX10_go_66 : decode cX10_go 66 = .ok (.getfield 33, 3) := by decide +kernel
theorem dX10_go_69 : decode cX10_go 69 = .ok (.iload_n 2, 1) := by decide +kernel
theorem dX10_go_70 : decode cX10_go 70 = .ok (.iaload, 1) := by decide +kernel
theorem dX10_go_71 : decode cX10_go 71 = .ok (.iaload, 1) := by decide +kernel
theorem dX10_go_72 : decode cX10_go 72 = .ok (.invokevirtual 179, 3) := by decide +kernel
theorem dX10_go_75 : decode cX10_go 75 = .ok (.goto 178, 3) := by decide +kernel
theorem dX10_go_78 : decode cX10_go 78 = .ok (.iload 4, 2) := by decide +kernel
theorem dX10_go_80 : decode cX10_go 80 = .ok (.iconst 2, 1) := by decide +kernel
theorem dX10_go_81 : decode cX10_go 81 = .ok (.if_icmp .ne 63, 3) := by decide +kernel
theorem dX10_go_84 : decode cX10_go 84 = .ok (.iload_n 3, 1) := by decide +kernel
theorem dX10_go_85 : decode cX10_go 85 = .ok (.ifCond .ne 16, 3) := by decide +kernel
theorem dX10_go_88 : decode cX10_go 88 = .ok (.aload_n 0, 1) := by decide +kernel
theorem dX10_go_89 : decode cX10_go 89 = .ok (.aload_n 0, 1) := by decide +kernel
theorem dX10_go_90 : decode cX10_go 90 = .ok (.getfield 36, 3) := by decide +kernel
theorem dX10_go_93 : decode cX10_go 93 = .ok (.iload_n 2, 1) := by decide +kernel
theorem dX10_go_94 : decode cX10_go 94 = .ok (.iaload, 1) := by decide +kernel
theorem dX10_go_95 : decode cX10_go 95 = .ok (.invokevirtual 209, 3) := by decide +kernel
theorem dX10_go_98 : decode cX10_go 98 = .ok (.goto 155, 3) := by decide +kernel
theorem dX10_go_101 : decode cX10_go 101 = .ok (.aload_n 0, 1) := by decide +kernel
theorem dX10_go_102 : decode cX10_go 102 = .ok (.getfield 42, 3) := by decide +kernel
theorem dX10_go_105 : decode cX10_go 105 = .ok (.aload_n 0, 1) := by decide +kernel
theorem dX10_go_106 : decode cX10_go 106 = .ok (.getfield 33, 3) := by decide +kernel
theorem dX10_go_109 : decode cX10_go 109 = .ok (.iload_n 2, 1) := by decide +kernel
theorem dX10_go_110 : decode cX10_go 110 = .ok (.iaload, 1) := by decide +kernel
theorem dX10_go_111 : decode cX10_go 111 = .ok (.aload_n 0, 1) := by decide +kernel
theorem dX10_go_112 : decode cX10_go 112 = .ok (.getfield 182, 3) := by decide +kernel
theorem dX10_go_115 : decode cX10_go 115 = .ok (.iastore, 1) := by decide +kernel
theorem dX10_go_116 : decode cX10_go 116 = .ok (.aload_n 0, 1) := by decide +kernel
theorem dX10_go_117 : decode cX10_go 117 = .ok (.getfield 45, 3) := by decide +kernel
theorem dX10_go_120 : decode cX10_go 120 = .ok (.aload_n 0, 1) := by decide +kernel
theorem dX10_go_121 : decode cX10_go 121 = .ok (.getfield 33, 3) := by decide +kernel
theorem dX10_go_124 : decode cX10_go 124 = .ok (.iload_n 2, 1) := by decide +kernel
theorem dX10_go_125 : decode cX10_go 125 = .ok (.iaload, 1) := by decide +kernel
theorem dX10_go_126 : decode cX10_go 126 = .ok (.aload_n 0, 1) := by decide +kernel
theorem dX10_go_127 : decode cX10_go 127 = .ok (.getfield 185, 3) := by decide +kernel
theorem dX10_go_130 : decode cX10_go 130 = .ok (.iastore, 1) := by decide +kernel
theorem dX10_go_131 : decode cX10_go 131 = .ok (.aload_n 0, 1) := by decide +kernel
theorem dX10_go_132 : decode cX10_go 132 = .ok (.dup, 1) := by decide +kernel
theorem dX10_go_133 : decode cX10_go 133 = .ok (.getfield 188, 3) := by decide +kernel
theorem dX10_go_136 : decode cX10_go 136 = .ok (.iconst 1, 1) := by decide +kernel
theorem dX10_go_137 : decode cX10_go 137 = .ok (.isub, 1) := by decide +kernel
theorem dX10_go_138 : decode cX10_go 138 = .ok (.putfield 188, 3) := by decide +kernel
theorem dX10_go_141 : decode cX10_go 141 = .ok (.goto 112, 3) := by decide +kernel
theorem dX10_go_144 : decode cX10_go 144 = .ok (.iload 4, 2) := by decide +kernel
theorem dX10_go_146 : decode cX10_go 146 = .ok (.iconst 3, 1) := by decide +kernel
theorem dX10_go_147 : decode cX10_go 147 = .ok (.if_icmp .ne 11, 3) := by decide +kernel
theorem dX10_go_150 : decode cX10_go 150 = .ok (.aload_n 0, 1) := by decide +kernel
theorem dX10_go_151 : decode cX10_go 151 = .ok (.iload_n 2, 1) := by decide +kernel
theorem dX10_go_152 : decode cX10_go 152 = .ok (.invokevirtual 212, 3) := by decide +kernel
theorem dX10_go_155 : decode cX10_go 155 = .ok (.goto 98, 3) := by decide +kernel
theorem dX10_go_158 : decode cX10_go 158 = .ok (.iload 4, 2) := by decide +kernel
theorem dX10_go_160 : decode cX10_go 160 = .ok (.bipush 14, 2) := by decide +kernel
theorem dX10_go_162 : decode cX10_go 162 = .ok (.if_icmp .gt 15, 3) := by decide +kernel
theorem dX10_go_165 : decode cX10_go 165 = .ok (.aload_n 0, 1) := by decide +kernel
theorem dX10_go_166 : decode cX10_go 166 = .ok (.iload_n 1, 1) := by decide +kernel
theorem dX10_go_167 : decode cX10_go 167 = .ok (.iload_n 2, 1) := by decide +kernel
theorem dX10_go_168 : decode cX10_go 168 = .ok (.iload 4, 2) := by decide +kernel
theorem dX10_go_170 : decode cX10_go 170 = .ok (.iload_n 3, 1) := by decide +kernel
theorem dX10_go_171 : decode cX10_go 171 = .ok (.invokevirtual 215, 3) := by decide +kernel
theorem dX10_go_174 : decode cX10_go 174 = .ok (.goto 79, 3) := by decide +kernel
theorem dX10_go_177 : decode cX10_go 177 = .ok (.iload 4, 2) := by decide +kernel
theorem dX10_go_179 : decode cX10_go 179 = .ok (.bipush 15, 2) := by decide +kernel
theorem dX10_go_181 : decode cX10_go 181 = .ok (.if_icmp .ne 11, 3) := by decide +kernel
theorem dX10_go_184 : decode cX10_go 184 = .ok (.aload_n 0, 1) := by decide +kernel
theorem dX10_go_185 : decode cX10_go 185 = .ok (.iload_n 2, 1) := by decide +kernel
theorem dX10_go_186 : decode cX10_go 186 = .ok (.invokevirtual 219, 3) := by decide +kernel
theorem dX10_go_189 : decode cX10_go 189 = .ok (.goto 64, 3) := by decide +kernel
theorem dX10_go_192 : decode cX10_go 192 = .ok (.iload 4, 2) := by decide +kernel
theorem dX10_go_194 : decode cX10_go 194 = .ok (.bipush 16, 2) := by decide +kernel
theorem dX10_go_196 : decode cX10_go 196 = .ok (.if_icmp .ne 11, 3) := by decide +kernel
theorem dX10_go_199 : decode cX10_go 199 = .ok (.aload_n 0, 1) := by decide +kernel
theorem dX10_go_200 : decode cX10_go 200 = .ok (.iload_n 2, 1) := by decide +kernel
theorem dX10_go_201 : decode cX10_go 201 = .ok (.invokevirtual 222, 3) := by decide +kernel
theorem dX10_go_204 : decode cX10_go 204 = .ok (.goto 49, 3) := by decide +kernel
theorem dX10_go_207 : decode cX10_go 207 = .ok (.iload 4, 2) := by decide +kernel
theorem dX10_go_209 : decode cX10_go 209 = .ok (.bipush 18, 2) := by decide +kernel
theorem dX10_go_211 : decode cX10_go 211 = .ok (.if_icmp .gt 14, 3) := by decide +kernel
theorem dX10_go_214 : decode cX10_go 214 = .ok (.aload_n 0, 1) := by decide +kernel
theorem dX10_go_215 : decode cX10_go 215 = .ok (.iload_n 2, 1) := by decide +kernel
theorem dX10_go_216 : decode cX10_go 216 = .ok (.iload 4, 2) := by decide +kernel
theorem dX10_go_218 : decode cX10_go 218 = .ok (.iload_n 3, 1) := by decide +kernel
theorem dX10_go_219 : decode cX10_go 219 = .ok (.invokevirtual 225, 3) := by decide +kernel
theorem dX10_go_222 : decode cX10_go 222 = .ok (.goto 31, 3) := by decide +kernel
theorem dX10_go_225 : decode cX10_go 225 = .ok (.iload 4, 2) := by decide +kernel
theorem dX10_go_227 : decode cX10_go 227 = .ok (.bipush 23, 2) := by decide +kernel
theorem dX10_go_229 : decode cX10_go 229 = .ok (.if_icmp .gt 15, 3) := by decide +kernel
theorem dX10_go_232 : decode cX10_go 232 = .ok (.aload_n 0, 1) := by decide +kernel
theorem dX10_go_233 : decode cX10_go 233 = .ok (.iload_n 1, 1) := by decide +kernel
theorem dX10_go_234 : decode cX10_go 234 = .ok (.iload_n 2, 1) := by decide +kernel
theorem dX10_go_235 : decode cX10_go 235 = .ok (.iload 4, 2) := by decide +kernel
theorem dX10_go_237 : decode cX10_go 237 = .ok (.iload_n 3, 1) := by decide +kernel
theorem dX10_go_238 : decode cX10_go 238 = .ok (.invokevirtual 229, 3) := by decide +kernel
theorem dX10_go_241 : decode cX10_go 241 = .ok (.goto 12, 3) := by decide +kernel
theorem dX10_go_244 : decode cX10_go 244 = .ok (.aload_n 0, 1) := by decide +kernel
theorem dX10_go_245 : decode cX10_go 245 = .ok (.iload_n 1, 1) := by decide +kernel
theorem dX10_go_246 : decode cX10_go 246 = .ok (.iload_n 2, 1) := by decide +kernel
theorem dX10_go_247 : decode cX10_go 247 = .ok (.iload 4, 2) := by decide +kernel
theorem dX10_go_249 : decode cX10_go 249 = .ok (.iload_n 3, 1) := by decide +kernel
theorem dX10_go_250 : decode cX10_go 250 = .ok (.invokevirtual 232, 3) := by decide +kernel
theorem dX10_go_253 : decode cX10_go 253 = .ok (.return_, 1) := by decide +kernel
theorem dX10_goTexts_0 : decode cX10_goTexts 0 = .ok (.iload_n 2, 1) := by decide +kernel
theorem dX10_goTexts_1 : decode cX10_goTexts 1 = .ok (.bipush 18, 2) := by decide +kernel
theorem dX10_goTexts_3 : decode cX10_goTexts 3 = .ok (.if_icmp .ne 61, 3) := by decide +kernel
theorem dX10_goTexts_6 : decode cX10_goTexts 6 = .ok (.aload_n 0, 1) := by decide +kernel
theorem dX10_goTexts_7 : decode cX10_goTexts 7 = .ok (.getfield 138, 3) := by decide +kernel
theorem dX10_goTexts_10 : decode cX10_goTexts 10 = .ok (.aload_n 0, 1) := by decide +kernel
theorem dX10_goTexts_11 : decode cX10_goTexts 11 = .ok (.getfield 135, 3) := by decide +kernel
theorem dX10_goTexts_14 : decode cX10_goTexts 14 = .ok (.if_icmp .ne 12, 3) := by decide +kernel
theorem dX10_goTexts_17 : decode cX10_goTexts 17 = .ok (.aload_n 0, 1) := by decide +kernel
theorem dX10_goTexts_18 : decode cX10_goTexts 18 = .ok (.iload_n 1, 1) := by decide +kernel
theorem dX10_goTexts_19 : decode cX10_goTexts 19 = .ok (.iconst 3, 1) := by decide +kernel
theorem dX10_goTexts_20 : decode cX10_goTexts 20 = .ok (.invokevirtual 171, 3) := by decide +kernel
theorem dX10_goTexts_23 : decode cX10_goTexts 23 = .ok (.goto 115, 3) := by decide +kernel
theorem dX10_goTexts_26 : decode cX10_goTexts 26 = .ok (.aload_n 0, 1) := by decide +kernel
theorem dX10_goTexts_27 : decode cX10_goTexts 27 = .ok (.dup, 1) := by decide +kernel
theorem dX10_goTexts_28 : decode cX10_goTexts 28 = .ok (.getfield 138, 3) := by decide +kernel
theorem dX10_goTexts_31 : decode cX10_goTexts 31 = .ok (.iconst 1, 1) := by decide +kernel
theorem dX10_goTexts_32 : decode cX10_goTexts 32 = .ok (.iadd, 1) := by decide +kernel
theorem dX10_goTexts_33 : decode cX10_goTexts 33 = .ok (.putfield 138, 3) := by decide +kernel
theorem dX10_goTexts_36 : decode cX10_goTexts 36 = .ok (.aload_n 0, 1) := by decide +kernel
theorem dX10_goTexts_37 : decode cX10_goTexts 37 = .ok (.iload_n 1, 1) := by decide +kernel
theorem dX10_goTexts_38 : decode cX10_goTexts 38 = .ok (.invokevirtual 175, 3) := by decide +kernel
theorem dX10_goTexts_41 : decode cX10_goTexts 41 = .ok (.aload_n 0, 1) := by decide +kernel
theorem dX10_goTexts_42 : decode cX10_goTexts 42 = .ok (.iconst 0, 1) := by decide +kernel
theorem dX10_goTexts_43 : decode cX10_goTexts 43 = .ok (.aload_n 0, 1) := by decide +kernel
theorem dX10_goTexts_44 : decode cX10_goTexts 44 = .ok (.getfield 24, 3) := by decide +kernel
theorem dX10_goTexts_47 : decode cX10_goTexts 47 = .ok (.aload_n 0, 1) := by decide +kernel
theorem dX10_goTexts_48 : decode cX10_goTexts 48 = .ok (.getfield 138, 3) := by decide +kernel
theorem dX10_goTexts_51 : decode cX10_goTexts 51 = .ok (.iconst 1, 1) := by decide +kernel
theorem dX10_goTexts_52 : decode cX10_goTexts 52 = .ok (.isub, 1) := by decide +kernel
theorem dX10_goTexts_53 : decode cX10_goTexts 53 = .ok (.baload, 1) := by decide +kernel
theorem dX10_goTexts_54 : decode cX10_goTexts 54 = .ok (.sipush 255, 3) := by decide +kernel
theorem dX10_goTexts_57 : decode cX10_goTexts 57 = .ok (.iand, 1) := by decide +kernel
theorem dX10_goTexts_58 : decode cX10_goTexts 58 = .ok (.invokevirtual 179, 3) := by decide +kernel
theorem dX10_goTexts_61 : decode cX10_goTexts 61 = .ok (.goto 77, 3) := by decide +kernel
theorem dX10_goTexts_64 : decode cX10_goTexts 64 = .ok (.iload_n 3, 1) := by decide +kernel
theorem dX10_goTexts_65 : decode cX10_goTexts 65 = .ok (.ifCond .ne 16, 3) := by decide +kernel
theorem dX10_goTexts_68 : decode cX10_goTexts 68 = .ok (.aload_n 0, 1) := by decide +kernel
theorem dX10_goTexts_69 : decode cX10_goTexts 69 = .ok (.aload_n 0, 1) := by decide +kernel
theorem dX10_goTexts_70 : decode cX10_goTexts 70 = .ok (.getfield 33, 3) := by decide +kernel
theorem dX10_goTexts_73 : decode cX10_goTexts 73 = .ok (.iload_n 1, 1) := by decide +kernel
theorem dX10_goTexts_74 : decode cX10_goTexts 74 = .ok (.iaload, 1) := by decide +kernel
theorem dX10_goTexts_75 : decode cX10_goTexts 75 = .ok (.invokevirtual 209, 3) := by decide +kernel
theorem dX10_goTexts_78 : decode cX10_goTexts 78 = .ok (.goto 60, 3) := by decide +kernel
theorem dX10_goTexts_81 : decode cX10_goTexts 81 = .ok (.aload_n 0, 1) := by decide +kernel
theorem dX10_goTexts_82 : decode cX10_goTexts 82 = .ok (.iload_n 1, 1) := by decide +kernel
theorem dX10_goTexts_83 : decode cX10_goTexts 83 = .ok (.iconst 0, 1) := by decide +kernel
theorem dX10_goTexts_84 : decode cX10_goTexts 84 = .ok (.invokevirtual 235, 3) := by decide +kernel
theorem dX10_goTexts_87 : decode cX10_goTexts 87 = .ok (.ifCond .eq 51, 3) := by decide +kernel
theorem dX10_goTexts_90 : decode cX10_goTexts 90 = .ok (.aload_n 0, 1) := by decide +kernel
theorem dX10_goTexts_91 : decode cX10_goTexts 91 = .ok (.getfield 152, 3) := by decide +kernel
theorem dX10_goTexts_94 : decode cX10_goTexts 94 = .ok (.sipush 200, 3) := by decide +kernel
theorem dX10_goTexts_97 : decode cX10_goTexts 97 = .ok (.if_icmp .ge 17, 3) := by decide +kernel
theorem dX10_goTexts_100 : decode cX10_goTexts 100 = .ok (.aload_n 0, 1) := by decide +kernel
theorem dX10_goTexts_101 : decode cX10_goTexts 101 = .ok (.getfield 27, 3) := by decide +kernel
theorem dX10_goTexts_104 : decode cX10_goTexts 104 = .ok (.aload_n 0, 1) := by decide +kernel
theorem dX10_goTexts_105 : decode cX10_goTexts 105 = .ok (.getfield 152, 3) := by decide +kernel
theorem dX10_goTexts_108 : decode cX10_goTexts 108 = .ok (.aload_n 0, 1) := by decide +kernel
theorem dX10_goTexts_109 : decode cX10_goTexts 109 = .ok (.getfield 185, 3) := by decide +kernel
theorem dX10_goTexts_112 : decode cX10_goTexts 112 = .ok (.i2b, 1) := by decide +kernel
theorem dX10_goTexts_113 : decode cX10_goTexts 113 = .ok (.bastore, 1) := by decide +kernel
theorem dX10_goTexts_114 : decode cX10_goTexts 114 = .ok (.aload_n 0, 1) := by decide +kernel
theorem dX10_goTexts_115 : decode cX10_goTexts 115 = .ok (.dup, 1) := by decide +kernel
theorem dX10_goTexts_116 : decode cX10_goTexts 116 = .ok (.getfield 152, 3) := by decide +kernel
theorem dX10_goTexts_119 : decode cX10_goTexts 119 = .ok (.iconst 1, 1) := by decide +kernel
theorem dX10_goTexts_120 : decode cX10_goTexts 120 = .ok (.iadd, 1) := by decide +kernel
theorem dX10_goTexts_121 : decode cX10_goTexts 121 = .ok (.putfield 152, 3) := by decide +kernel
theorem dX10_goTexts_124 : decode cX10_goTexts 124 = .ok (.aload_n 0, 1) := by decide +kernel
theorem dX10_goTexts_125 : decode cX10_goTexts 125 = .ok (.iload_n 1, 1) := by decide +kernel
theorem dX10_goTexts_126 : decode cX10_goTexts 126 = .ok (.invokevirtual 175, 3) := by decide +kernel
theorem dX10_goTexts_129 : decode cX10_goTexts 129 = .ok (.aload_n 0, 1) := by decide +kernel
theorem dX10_goTexts_130 : decode cX10_goTexts 130 = .ok (.iconst 0, 1) := by decide +kernel
theorem dX10_goTexts_131 : decode cX10_goTexts 131 = .ok (.aload_n 0, 1) := by decide +kernel
theorem dX10_goTexts_132 : decode cX10_goTexts 132 = .ok (.getfield 152, 3) := by decide +kernel
theorem dX10_goTexts_135 : decode cX10_goTexts 135 = .ok (.invokevirtual 179, 3) := by decide +kernel
theorem dX10_goTexts_138 : decode cX10_goTexts 138 = .ok (.return_, 1) := by decide +kernel
theorem dX10_goPlain_0 : decode cX10_goPlain 0 = .ok (.iload 4, 2) := by decide +kernel
theorem dX10_goPlain_2 : decode cX10_goPlain 2 = .ok (.ifCond .ne 16, 3) := by decide +kernel
theorem dX10_goPlain_5 : decode cX10_goPlain 5 = .ok (.aload_n 0, 1) := by decide +kernel
theorem dX10_goPlain_6 : decode cX10_goPlain 6 = .ok (.aload_n 0, 1) := by decide +kernel
theorem dX10_goPlain_7 : decode cX10_goPlain 7 = .ok (.getfield 33, 3) := by decide +kernel
theorem dX10_goPlain_10 : decode cX10_goPlain 10 = .ok (.iload_n 2, 1) := by decide +kernel
theorem dX10_goPlain_11 : decode cX10_goPlain 11 = .ok (.iaload, 1) := by decide +kernel
theorem dX10_goPlain_12 : decode cX10_goPlain 12 = .ok (.invokevirtual 209, 3) := by decide +kernel
theorem dX10_goPlain_15 : decode cX10_goPlain 15 = .ok (.goto 202, 3) := by decide +kernel
theorem dX10_goPlain_18 : decode cX10_goPlain 18 = .ok (.iload_n 3, 1) := by decide +kernel
theorem dX10_goPlain_19 : decode cX10_goPlain 19 = .ok (.bipush 19, 2) := by decide +kernel
theorem dX10_goPlain_21 : decode cX10_goPlain 21 = .ok (.if_icmp .ne 35, 3) := by decide +kernel
theorem dX10_goPlain_24 : decode cX10_goPlain 24 = .ok (.iload 4, 2) := by decide +kernel
theorem dX10_goPlain_26 : decode cX10_goPlain 26 = .ok (.iconst 1, 1) := by decide +kernel
theorem dX10_goPlain_27 : decode cX10_goPlain 27 = .ok (.if_icmp .ne 16, 3) := by decide +kernel
theorem dX10_goPlain_30 : decode cX10_goPlain 30 = .ok (.aload_n 0, 1) := by decide +kernel
theorem dX10_goPlain_31 : decode cX10_goPlain 31 = .ok (.aload_n 0, 1) := by decide +kernel
theorem dX10_goPlain_32 : decode cX10_goPlain 32 = .ok (.getfield 36, 3) := by decide +kernel
theorem dX10_goPlain_35 : decode cX10_goPlain 35 = .ok (.iload_n 2, 1) := by decide +kernel
theorem dX10_goPlain_36 : decode cX10_goPlain 36 = .ok (.iaload, 1) := by decide +kernel
theorem dX10_goPlain_37 : decode cX10_goPlain 37 = .ok (.invokevirtual 209, 3) := by decide +kernel
theorem dX10_goPlain_40 : decode cX10_goPlain 40 = .ok (.goto 177, 3) := by decide +kernel
theorem dX10_goPlain_43 : decode cX10_goPlain 43 = .ok (.aload_n 0, 1) := by decide +kernel
theorem dX10_goPlain_44 : decode cX10_goPlain 44 = .ok (.dup, 1) := by decide +kernel
theorem dX10_goPlain_45 : decode cX10_goPlain 45 = .ok (.getfield 188, 3) := by decide +kernel
theorem dX10_goPlain_48 : decode cX10_goPlain 48 = .ok (.iconst 1, 1) := by decide +kernel
theorem dX10_goPlain_49 : decode cX10_goPlain 49 = .ok (.isub, 1) := by decide +kernel
theorem dX10_goPlain_50 : decode cX10_goPlain 50 = .ok (.putfield 188, 3) := by decide +kernel
theorem dX10_goPlain_53 : decode cX10_goPlain 53 = .ok (.goto 164, 3) := by decide +kernel
theorem dX10_goPlain_56 : decode cX10_goPlain 56 = .ok (.iload_n 3, 1) := by decide +kernel
theorem dX10_goPlain_57 : decode cX10_goPlain 57 = .ok (.bipush 20, 2) := by decide +kernel
theorem dX10_goPlain_59 : decode cX10_goPlain 59 = .ok (.if_icmp .ne 60, 3) := by decide +kernel
theorem dX10_goPlain_62 : decode cX10_goPlain 62 = .ok (.iload 4, 2) := by decide +kernel
theorem dX10_goPlain_64 : decode cX10_goPlain 64 = .ok (.iconst 2, 1) := by decide +kernel
theorem dX10_goPlain_65 : decode cX10_goPlain 65 = .ok (.if_icmp .ne 16, 3) := by decide +kernel
theorem dX10_goPlain_68 : decode cX10_goPlain 68 = .ok (.aload_n 0, 1) := by decide +kernel
theorem dX10_goPlain_69 : decode cX10_goPlain 69 = .ok (.dup, 1) := by decide +kernel
theorem dX10_goPlain_70 : decode cX10_goPlain 70 = .ok (.getfield 188, 3) := by decide +kernel
theorem dX10_goPlain_73 : decode cX10_goPlain 73 = .ok (.iconst 1, 1) := by decide +kernel
theorem dX10_goPlain_74 : decode cX10_goPlain 74 = .ok (.isub, 1) := by decide +kernel
theorem dX10_goPlain_75 : decode cX10_goPlain 75 = .ok (.putfield 188, 3) := by decide +kernel
theorem dX10_goPlain_78 : decode cX10_goPlain 78 = .ok (.goto 139, 3) := by decide +kernel
theorem dX10_goPlain_81 : decode cX10_goPlain 81 = .ok (.aload_n 0, 1) := by decide +kernel
theorem dX10_goPlain_82 : decode cX10_goPlain 82 = .ok (.iload_n 2, 1) := by decide +kernel
theorem dX10_goPlain_83 : decode cX10_goPlain 83 = .ok (.iconst 0, 1) := by decide +kernel
theorem dX10_goPlain_84 : decode cX10_goPlain 84 = .ok (.invokevirtual 235, 3) := by decide +kernel
theorem dX10_goPlain_87 : decode cX10_goPlain 87 = .ok (.ifCond .eq 130, 3) := by decide +kernel
theorem dX10_goPlain_90 : decode cX10_goPlain 90 = .ok (.aload_n 0, 1) := by decide +kernel
theorem dX10_goPlain_91 : decode cX10_goPlain 91 = .ok (.aload_n 0, 1) := by decide +kernel
theorem dX10_goPlain_92 : decode cX10_goPlain 92 = .ok (.getfield 185, 3) := by decide +kernel
theorem dX10_goPlain_95 : decode cX10_goPlain 95 = .ok (.ifCond .eq 12, 3) := by decide +kernel
theorem dX10_goPlain_98 : decode cX10_goPlain 98 = .ok (.aload_n 0, 1) := by decide +kernel
theorem dX10_goPlain_99 : decode cX10_goPlain 99 = .ok (.getfield 36, 3) := by decide +kernel
theorem dX10_goPlain_102 : decode cX10_goPlain 102 = .ok (.iload_n 2, 1) := by decide +kernel
theorem dX10_goPlain_103 : decode cX10_goPlain 103 = .ok (.iaload, 1) := by decide +kernel
theorem dX10_goPlain_104 : decode cX10_goPlain 104 = .ok (.goto 9, 3) := by decide +kernel
theorem dX10_goPlain_107 : decode cX10_goPlain 107 = .ok (.aload_n 0, 1) := by decide +kernel
theorem dX10_goPlain_108 : decode cX10_goPlain 108 = .ok (.getfield 39, 3) := by decide +kernel
theorem dX10_goPlain_111 : decode cX10_goPlain 111 = .ok (.iload_n 2, 1) := by decide +kernel
theorem dX10_goPlain_112 : decode cX10_goPlain 112 = .ok (.iaload, 1) := by decide +kernel
theorem dX10_goPlain_113 : decode cX10_goPlain 113 = .ok (.invokevirtual 209, 3) := by decide +kernel
theorem dX10_goPlain_116 : decode cX10_goPlain 116 = .ok (.goto 101, 3) := by decide +kernel
theorem dX10_goPlain_119 : decode cX10_goPlain 119 = .ok (.iload_n 3, 1) := by decide +kernel
theorem dX10_goPlain_120 : decode cX10_goPlain 120 = .ok (.bipush 23, 2) := by decide +kernel
theorem dX10_goPlain_122 : decode cX10_goPlain 122 = .ok (.if_icmp .ne 14, 3) := by decide +kernel
theorem dX10_goPlain_125 : decode cX10_goPlain 125 = .ok (.aload_n 0, 1) := by decide +kernel
theorem dX10_goPlain_126 : decode cX10_goPlain 126 = .ok (.iload_n 1, 1) := by decide +kernel
theorem dX10_goPlain_127 : decode cX10_goPlain 127 = .ok (.iload_n 2, 1) := by decide +kernel
theorem dX10_goPlain_128 : decode cX10_goPlain 128 = .ok (.iload 4, 2) := by decide +kernel
theorem dX10_goPlain_130 : decode cX10_goPlain 130 = .ok (.invokevirtual 239, 3) := by decide +kernel
theorem dX10_goPlain_133 : decode cX10_goPlain 133 = .ok (.goto 84, 3) := by decide +kernel
theorem dX10_goPlain_136 : decode cX10_goPlain 136 = .ok (.aload_n 0, 1) := by decide +kernel
theorem dX10_goPlain_137 : decode cX10_goPlain 137 = .ok (.iload_n 2, 1) := by decide +kernel
theorem dX10_goPlain_138 : decode cX10_goPlain 138 = .ok (.iconst 0, 1) := by decide +kernel
theorem dX10_goPlain_139 : decode cX10_goPlain 139 = .ok (.invokevirtual 235, 3) := by decide +kernel
theorem dX10_goPlain_142 : decode cX10_goPlain 142 = .ok (.ifCond .eq 75, 3) := by decide +kernel
theorem dX10_goPlain_145 : decode cX10_goPlain 145 = .ok (.iload 4, 2) := by decide +kernel
theorem dX10_goPlain_147 : decode cX10_goPlain 147 = .ok (.iconst 1, 1) := by decide +kernel
theorem dX10_goPlain_148 : decode cX10_goPlain 148 = .ok (.if_icmp .ne 26, 3) := by decide +kernel
theorem dX10_goPlain_151 : decode cX10_goPlain 151 = .ok (.aload_n 0, 1) := by decide +kernel
theorem dX10_goPlain_152 : decode cX10_goPlain 152 = .ok (.getfield 106, 3) := by decide +kernel
theorem dX10_goPlain_155 : decode cX10_goPlain 155 = .ok (.iload_n 1, 1) := by decide +kernel
theorem dX10_goPlain_156 : decode cX10_goPlain 156 = .ok (.aload_n 0, 1) := by decide +kernel
theorem dX10_goPlain_157 : decode cX10_goPlain 157 = .ok (.getfield 185, 3) := by decide +kernel
theorem dX10_goPlain_160 : decode cX10_goPlain 160 = .ok (.iastore, 1) := by decide +kernel
theorem dX10_goPlain_161 : decode cX10_goPlain 161 = .ok (.aload_n 0, 1) := by decide +kernel
theorem dX10_goPlain_162 : decode cX10_goPlain 162 = .ok (.aload_n 0, 1) := by decide +kernel
theorem dX10_goPlain_163 : decode cX10_goPlain 163 = .ok (.getfield 36, 3) := by decide +kernel
theorem dX10_goPlain_166 : decode cX10_goPlain 166 = .ok (.iload_n 2, 1) := by decide +kernel
theorem dX10_goPlain_167 : decode cX10_goPlain 167 = .ok (.iaload, 1) := by decide +kernel
theorem dX10_goPlain_168 : decode cX10_goPlain 168 = .ok (.invokevirtual 209, 3) := by decide +kernel
theorem dX10_goPlain_171 : decode cX10_goPlain 171 = .ok (.goto 46, 3) := by decide +kernel
theorem dX10_goPlain_174 : decode cX10_goPlain 174 = .ok (.aload_n 0, 1) := by decide +kernel
theorem dX10_goPlain_175 : decode cX10_goPlain 175 = .ok (.iconst 0, 1) := by decide +kernel
theorem dX10_goPlain_176 : decode cX10_goPlain 176 = .ok (.iload_n 3, 1) := by decide +kernel
theorem dX10_goPlain_177 : decode cX10_goPlain 177 = .ok (.bipush 22, 2) := by decide +kernel
theorem dX10_goPlain_179 : decode cX10_goPlain 179 = .ok (.if_icmp .ne 17, 3) := by decide +kernel
theorem dX10_goPlain_182 : decode cX10_goPlain 182 = .ok (.aload_n 0, 1) := by decide +kernel
theorem dX10_goPlain_183 : decode cX10_goPlain 183 = .ok (.getfield 106, 3) := by decide +kernel
theorem dX10_goPlain_186 : decode cX10_goPlain 186 = .ok (.iload_n 1, 1) := by decide +kernel
theorem dX10_goPlain_187 : decode cX10_goPlain 187 = .ok (.iaload, 1) := by decide +kernel
theorem dX10_goPlain_188 : decode cX10_goPlain 188 = .ok (.aload_n 0, 1) := by decide +kernel
theorem dX10_goPlain_189 : decode cX10_goPlain 189 = .ok (.getfield 185, 3) := by decide +kernel
theorem dX10_goPlain_192 : decode cX10_goPlain 192 = .ok (.iadd, 1) := by decide +kernel
theorem dX10_goPlain_193 : decode cX10_goPlain 193 = .ok (.goto 21, 3) := by decide +kernel
theorem dX10_goPlain_196 : decode cX10_goPlain 196 = .ok (.aload_n 0, 1) := by decide +kernel
theorem dX10_goPlain_197 : decode cX10_goPlain 197 = .ok (.getfield 106, 3) := by decide +kernel
theorem dX10_goPlain_200 : decode cX10_goPlain 200 = .ok (.iload_n 1, 1) := by decide +kernel
theorem dX10_goPlain_201 : decode cX10_goPlain 201 = .ok (.iaload, 1) := by decide +kernel
theorem dX10_goPlain_202 : decode cX10_goPlain 202 = .ok (.aload_n 0, 1) := by decide +kernel
theorem dX10_goPlain_203 : decode cX10_goPlain 203 = .ok (.getfield 185, 3) := by decide +kernel
theorem dX10_goPlain_206 : decode cX10_goPlain 206 = .ok (.if_icmp .ge 7, 3) := by decide +kernel
theorem dX10_goPlain_209 : decode cX10_goPlain 209 = .ok (.iconst 1, 1) := by decide +kernel
theorem dX10_goPlain_210 : decode cX10_goPlain 210 = .ok (.goto 4, 3) := by decide +kernel
theorem dX10_goPlain_213 : decode cX10_goPlain 213 = .ok (.iconst 0, 1) := by decide +kernel
theorem dX10_goPlain_214 : decode cX10_goPlain 214 = .ok (.invokevirtual 179, 3) := by decide +kernel
theorem dX10_goPlain_217 : decode cX10_goPlain 217 = .ok (.return_, 1) := by decide +kernel
theorem dX10_goTimes_0 : decode cX10_goTimes 0 = .ok (.iload_n 3, 1) := by decide +kernel
theorem dX10_goTimes_1 : decode cX10_goTimes 1 = .ok (.iconst 1, 1) := by decide +kernel
theorem dX10_goTimes_2 : decode cX10_goTimes 2 = .ok (.if_icmp .ne 23, 3) := by decide +kernel
theorem dX10_goTimes_5 : decode cX10_goTimes 5 = .ok (.aload_n 0, 1) := by decide +kernel
theorem dX10_goTimes_6 : decode cX10_goTimes 6 = .ok (.iload_n 2, 1) := by decide +kernel
theorem dX10_goTimes_7 : decode cX10_goTimes 7 = .ok (.iconst 0, 1) := by decide +kernel
theorem dX10_goTimes_8 : decode cX10_goTimes 8 = .ok (.invokevirtual 235, 3) := by decide +kernel
theorem dX10_goTimes_11 : decode cX10_goTimes 11 = .ok (.ifCond .ne 4, 3) := by decide +kernel
theorem dX10_goTimes_14 : decode cX10_goTimes 14 = .ok (.return_, 1) := by decide +kernel
theorem dX10_goTimes_15 : decode cX10_goTimes 15 = .ok (.aload_n 0, 1) := by decide +kernel
theorem dX10_goTimes_16 : decode cX10_goTimes 16 = .ok (.getfield 106, 3) := by decide +kernel
theorem dX10_goTimes_19 : decode cX10_goTimes 19 = .ok (.iload_n 1, 1) := by decide +kernel
theorem dX10_goTimes_20 : decode cX10_goTimes 20 = .ok (.aload_n 0, 1) := by decide +kernel
theorem dX10_goTimes_21 : decode cX10_goTimes 21 = .ok (.getfield 185, 3) := by decide +kernel
theorem dX10_goTimes_24 : decode cX10_goTimes 24 = .ok (.iastore, 1) := by decide +kernel
theorem dX10_goTimes_25 : decode cX10_goTimes 25 = .ok (.aload_n 0, 1) := by decide +kernel
theorem dX10_goTimes_26 : decode cX10_goTimes 26 = .ok (.getfield 106, 3) := by decide +kernel
theorem dX10_goTimes_29 : decode cX10_goTimes 29 = .ok (.iload_n 1, 1) := by decide +kernel
theorem dX10_goTimes_30 : decode cX10_goTimes 30 = .ok (.iaload, 1) := by decide +kernel
theorem dX10_goTimes_31 : decode cX10_goTimes 31 = .ok (.ifCond .le 26, 3) := by decide +kernel
theorem dX10_goTimes_34 : decode cX10_goTimes 34 = .ok (.aload_n 0, 1) := by decide +kernel
theorem dX10_goTimes_35 : decode cX10_goTimes 35 = .ok (.getfield 106, 3) := by decide +kernel
theorem dX10_goTimes_38 : decode cX10_goTimes 38 = .ok (.iload_n 1, 1) := by decide +kernel
theorem dX10_goTimes_39 : decode cX10_goTimes 39 = .ok (.dup2, 1) := by decide +kernel
theorem dX10_goTimes_40 : decode cX10_goTimes 40 = .ok (.iaload, 1) := by decide +kernel
theorem dX10_goTimes_41 : decode cX10_goTimes 41 = .ok (.iconst 1, 1) := by decide +kernel
theorem dX10_goTimes_42 : decode cX10_goTimes 42 = .ok (.isub, 1) := by decide +kernel
theorem dX10_goTimes_43 : decode cX10_goTimes 43 = .ok (.iastore, 1) := by decide +kernel
theorem dX10_goTimes_44 : decode cX10_goTimes 44 = .ok (.aload_n 0, 1) := by decide +kernel
theorem dX10_goTimes_45 : decode cX10_goTimes 45 = .ok (.aload_n 0, 1) := by decide +kernel
theorem dX10_goTimes_46 : decode cX10_goTimes 46 = .ok (.getfield 36, 3) := by decide +kernel
theorem dX10_goTimes_49 : decode cX10_goTimes 49 = .ok (.iload_n 2, 1) := by decide +kernel
theorem dX10_goTimes_50 : decode cX10_goTimes 50 = .ok (.iaload, 1) := by decide +kernel
theorem dX10_goTimes_51 : decode cX10_goTimes 51 = .ok (.invokevirtual 209, 3) := by decide +kernel
theorem dX10_goTimes_54 : decode cX10_goTimes 54 = .ok (.goto 9, 3) := by decide +kernel
theorem dX10_goTimes_57 : decode cX10_goTimes 57 = .ok (.aload_n 0, 1) := by decide +kernel
theorem dX10_goTimes_58 : decode cX10_goTimes 58 = .ok (.iconst 0, 1) := by decide +kernel
theorem dX10_goTimes_59 : decode cX10_goTimes 59 = .ok (.iconst 0, 1) := by decide +kernel
theorem dX10_goTimes_60 : decode cX10_goTimes 60 = .ok (.invokevirtual 179, 3) := by decide +kernel
theorem dX10_goTimes_63 : decode cX10_goTimes 63 = .ok (.return_, 1) := by decide +kernel
theorem dX10_goHandles_0 : decode cX10_goHandles 0 = .ok (.iload_n 3, 1) := by decide +kernel
theorem dX10_goHandles_1 : decode cX10_goHandles 1 = .ok (.iconst 5, 1) := by decide +kernel
theorem dX10_goHandles_2 : decode cX10_goHandles 2 = .ok (.if_icmp .eq 15, 3) := by decide +kernel
theorem dX10_goHandles_5 : decode cX10_goHandles 5 = .ok (.iload_n 3, 1) := by decide +kernel
theorem dX10_goHandles_6 : decode cX10_goHandles 6 = .ok (.bipush 8, 2) := by decide +kernel
theorem dX10_goHandles_8 : decode cX10_goHandles 8 = .ok (.if_icmp .eq 9, 3) := by decide +kernel
theorem dX10_goHandles_11 : decode cX10_goHandles 11 = .ok (.iload_n 3, 1) := by decide +kernel
theorem dX10_goHandles_12 : decode cX10_goHandles 12 = .ok (.bipush 10, 2) := by decide +kernel
theorem dX10_goHandles_14 : decode cX10_goHandles 14 = .ok (.if_icmp .ne 7, 3) := by decide +kernel
theorem dX10_goHandles_17 : decode cX10_goHandles 17 = .ok (.iconst 1, 1) := by decide +kernel
theorem dX10_goHandles_18 : decode cX10_goHandles 18 = .ok (.goto 4, 3) := by decide +kernel
theorem dX10_goHandles_21 : decode cX10_goHandles 21 = .ok (.iconst 0, 1) := by decide +kernel
theorem dX10_goHandles_22 : decode cX10_goHandles 22 = .ok (.istore 5, 2) := by decide +kernel
theorem dX10_goHandles_24 : decode cX10_goHandles 24 = .ok (.iload 4, 2) := by decide +kernel
theorem dX10_goHandles_26 : decode cX10_goHandles 26 = .ok (.ifCond .ne 14, 3) := by decide +kernel
theorem dX10_goHandles_29 : decode cX10_goHandles 29 = .ok (.aload_n 0, 1) := by decide +kernel
theorem dX10_goHandles_30 : decode cX10_goHandles 30 = .ok (.aload_n 0, 1) := by decide +kernel
theorem dX10_goHandles_31 : decode cX10_goHandles 31 = .ok (.getfield 33, 3) := by decide +kernel
theorem dX10_goHandles_34 : decode cX10_goHandles 34 = .ok (.iload_n 2, 1) := by decide +kernel
theorem dX10_goHandles_35 : decode cX10_goHandles 35 = .ok (.iaload, 1) := by decide +kernel
theorem dX10_goHandles_36 : decode cX10_goHandles 36 = .ok (.invokevirtual 209, 3) := by decide +kernel
theorem dX10_goHandles_39 : decode cX10_goHandles 39 = .ok (.return_, 1) := by decide +kernel
theorem dX10_goHandles_40 : decode cX10_goHandles 40 = .ok (.iload 4, 2) := by decide +kernel
theorem dX10_goHandles_42 : decode cX10_goHandles 42 = .ok (.iconst 1, 1) := by decide +kernel
theorem dX10_goHandles_43 : decode cX10_goHandles 43 = .ok (.if_icmp .ne 48, 3) := by decide +kernel
theorem dX10_goHandles_46 : decode cX10_goHandles 46 = .ok (.iload 5, 2) := by decide +kernel
theorem dX10_goHandles_48 : decode cX10_goHandles 48 = .ok (.ifCond .eq 43, 3) := by decide +kernel
theorem dX10_goHandles_51 : decode cX10_goHandles 51 = .ok (.aload_n 0, 1) := by decide +kernel
theorem dX10_goHandles_52 : decode cX10_goHandles 52 = .ok (.iload_n 2, 1) := by decide +kernel
theorem dX10_goHandles_53 : decode cX10_goHandles 53 = .ok (.iload_n 3, 1) := by decide +kernel
theorem dX10_goHandles_54 : decode cX10_goHandles 54 = .ok (.bipush 8, 2) := by decide +kernel
theorem dX10_goHandles_56 : decode cX10_goHandles 56 = .ok (.if_icmp .ne 7, 3) := by decide +kernel
theorem dX10_goHandles_59 : decode cX10_goHandles 59 = .ok (.iconst 2, 1) := by decide +kernel
theorem dX10_goHandles_60 : decode cX10_goHandles 60 = .ok (.goto 4, 3) := by decide +kernel
theorem dX10_goHandles_63 : decode cX10_goHandles 63 = .ok (.iconst 1, 1) := by decide +kernel
theorem dX10_goHandles_64 : decode cX10_goHandles 64 = .ok (.invokevirtual 235, 3) := by decide +kernel
theorem dX10_goHandles_67 : decode cX10_goHandles 67 = .ok (.ifCond .eq 23, 3) := by decide +kernel
theorem dX10_goHandles_70 : decode cX10_goHandles 70 = .ok (.aload_n 0, 1) := by decide +kernel
theorem dX10_goHandles_71 : decode cX10_goHandles 71 = .ok (.getfield 106, 3) := by decide +kernel
theorem dX10_goHandles_74 : decode cX10_goHandles 74 = .ok (.iload_n 1, 1) := by decide +kernel
theorem dX10_goHandles_75 : decode cX10_goHandles 75 = .ok (.aload_n 0, 1) := by decide +kernel
theorem dX10_goHandles_76 : decode cX10_goHandles 76 = .ok (.getfield 185, 3) := by decide +kernel
theorem dX10_goHandles_79 : decode cX10_goHandles 79 = .ok (.iastore, 1) := by decide +kernel
theorem dX10_goHandles_80 : decode cX10_goHandles 80 = .ok (.aload_n 0, 1) := by decide +kernel
theorem dX10_goHandles_81 : decode cX10_goHandles 81 = .ok (.aload_n 0, 1) := by decide +kernel
theorem dX10_goHandles_82 : decode cX10_goHandles 82 = .ok (.getfield 36, 3) := by decide +kernel
theorem dX10_goHandles_85 : decode cX10_goHandles 85 = .ok (.iload_n 2, 1) := by decide +kernel
theorem dX10_goHandles_86 : decode cX10_goHandles 86 = .ok (.iaload, 1) := by decide +kernel
theorem dX10_goHandles_87 : decode cX10_goHandles 87 = .ok (.invokevirtual 209, 3) := by decide +kernel
theorem dX10_goHandles_90 : decode cX10_goHandles 90 = .ok (.return_, 1) := by decide +kernel
theorem dX10_goHandles_91 : decode cX10_goHandles 91 = .ok (.iload 5, 2) := by decide +kernel
theorem dX10_goHandles_93 : decode cX10_goHandles 93 = .ok (.ifCond .eq 29, 3) := by decide +kernel
theorem dX10_goHandles_96 : decode cX10_goHandles 96 = .ok (.aload_n 0, 1) := by decide +kernel
theorem dX10_goHandles_97 : decode cX10_goHandles 97 = .ok (.iload_n 2, 1) := by decide +kernel
theorem dX10_goHandles_98 : decode cX10_goHandles 98 = .ok (.iconst 0, 1) := by decide +kernel
theorem dX10_goHandles_99 : decode cX10_goHandles 99 = .ok (.invokevirtual 235, 3) := by decide +kernel
theorem dX10_goHandles_102 : decode cX10_goHandles 102 = .ok (.ifCond .eq 19, 3) := by decide +kernel
theorem dX10_goHandles_105 : decode cX10_goHandles 105 = .ok (.aload_n 0, 1) := by decide +kernel
theorem dX10_goHandles_106 : decode cX10_goHandles 106 = .ok (.iload_n 2, 1) := by decide +kernel
theorem dX10_goHandles_107 : decode cX10_goHandles 107 = .ok (.iload_n 3, 1) := by decide +kernel
theorem dX10_goHandles_108 : decode cX10_goHandles 108 = .ok (.aload_n 0, 1) := by decide +kernel
theorem dX10_goHandles_109 : decode cX10_goHandles 109 = .ok (.getfield 106, 3) := by decide +kernel
theorem dX10_goHandles_112 : decode cX10_goHandles 112 = .ok (.iload_n 1, 1) := by decide +kernel
theorem dX10_goHandles_113 : decode cX10_goHandles 113 = .ok (.iaload, 1) := by decide +kernel
theorem dX10_goHandles_114 : decode cX10_goHandles 114 = .ok (.aload_n 0, 1) := by decide +kernel
theorem dX10_goHandles_115 : decode cX10_goHandles 115 = .ok (.getfield 185, 3) := by decide +kernel
theorem dX10_goHandles_118 : decode cX10_goHandles 118 = .ok (.invokevirtual 242, 3) := by decide +kernel
theorem dX10_goHandles_121 : decode cX10_goHandles 121 = .ok (.return_, 1) := by decide +kernel
theorem dX10_goHandles_122 : decode cX10_goHandles 122 = .ok (.iload_n 3, 1) := by decide +kernel
theorem dX10_goHandles_123 : decode cX10_goHandles 123 = .ok (.bipush 9, 2) := by decide +kernel
theorem dX10_goHandles_125 : decode cX10_goHandles 125 = .ok (.if_icmp .ne 25, 3) := by decide +kernel
theorem dX10_goHandles_128 : decode cX10_goHandles 128 = .ok (.aload_n 0, 1) := by decide +kernel
theorem dX10_goHandles_129 : decode cX10_goHandles 129 = .ok (.iload_n 2, 1) := by decide +kernel
theorem dX10_goHandles_130 : decode cX10_goHandles 130 = .ok (.iconst 2, 1) := by decide +kernel
theorem dX10_goHandles_131 : decode cX10_goHandles 131 = .ok (.invokevirtual 235, 3) := by decide +kernel
theorem dX10_goHandles_134 : decode cX10_goHandles 134 = .ok (.ifCond .eq 15, 3) := by decide +kernel
theorem dX10_goHandles_137 : decode cX10_goHandles 137 = .ok (.aload_n 0, 1) := by decide +kernel
theorem dX10_goHandles_138 : decode cX10_goHandles 138 = .ok (.iload_n 2, 1) := by decide +kernel
theorem dX10_goHandles_139 : decode cX10_goHandles 139 = .ok (.aload_n 0, 1) := by decide +kernel
theorem dX10_goHandles_140 : decode cX10_goHandles 140 = .ok (.getfield 185, 3) := by decide +kernel
theorem dX10_goHandles_143 : decode cX10_goHandles 143 = .ok (.sipush 1000, 3) := by decide +kernel
theorem dX10_goHandles_146 : decode cX10_goHandles 146 = .ok (.invokevirtual 245, 3) := by decide +kernel
theorem dX10_goHandles_149 : decode cX10_goHandles 149 = .ok (.return_, 1) := by decide +kernel
theorem dX10_goHandles_150 : decode cX10_goHandles 150 = .ok (.aload_n 0, 1) := by decide +kernel
theorem dX10_goHandles_151 : decode cX10_goHandles 151 = .ok (.iload_n 2, 1) := by decide +kernel
theorem dX10_goHandles_152 : decode cX10_goHandles 152 = .ok (.iconst 1, 1) := by decide +kernel
theorem dX10_goHandles_153 : decode cX10_goHandles 153 = .ok (.invokevirtual 235, 3) := by decide +kernel
theorem dX10_goHandles_156 : decode cX10_goHandles 156 = .ok (.ifCond .ne 4, 3) := by decide +kernel
theorem dX10_goHandles_159 : decode cX10_goHandles 159 = .ok (.return_, 1) := by decide +kernel
theorem dX10_goHandles_160 : decode cX10_goHandles 160 = .ok (.aload_n 0, 1) := by decide +kernel
theorem dX10_goHandles_161 : decode cX10_goHandles 161 = .ok (.getfield 185, 3) := by decide +kernel
theorem dX10_goHandles_164 : decode cX10_goHandles 164 = .ok (.istore 6, 2) := by decide +kernel
theorem dX10_goHandles_166 : decode cX10_goHandles 166 = .ok (.iload_n 3, 1) := by decide +kernel
theorem dX10_goHandles_167 : decode cX10_goHandles 167 = .ok (.iconst 4, 1) := by decide +kernel
theorem dX10_goHandles_168 : decode cX10_goHandles 168 = .ok (.if_icmp .ne 13, 3) := by decide +kernel
theorem dX10_goHandles_171 : decode cX10_goHandles 171 = .ok (.aload_n 0, 1) := by decide +kernel
theorem dX10_goHandles_172 : decode cX10_goHandles 172 = .ok (.iload_n 2, 1) := by decide +kernel
theorem dX10_goHandles_173 : decode cX10_goHandles 173 = .ok (.iload 6, 2) := by decide +kernel
theorem dX10_goHandles_175 : decode cX10_goHandles 175 = .ok (.invokevirtual 248, 3) := by decide +kernel
theorem dX10_goHandles_178 : decode cX10_goHandles 178 = .ok (.goto 21, 3) := by decide +kernel
theorem dX10_goHandles_181 : decode cX10_goHandles 181 = .ok (.aload_n 0, 1) := by decide +kernel
theorem dX10_goHandles_182 : decode cX10_goHandles 182 = .ok (.iload_n 2, 1) := by decide +kernel
theorem dX10_goHandles_183 : decode cX10_goHandles 183 = .ok (.iload 6, 2) := by decide +kernel
theorem dX10_goHandles_185 : decode cX10_goHandles 185 = .ok (.invokevirtual 251, 3) := by decide +kernel
theorem dX10_goHandles_188 : decode cX10_goHandles 188 = .ok (.ifCond .eq 11, 3) := by decide +kernel
theorem dX10_goHandles_191 : decode cX10_goHandles 191 = .ok (.aload_n 0, 1) := by decide +kernel
theorem dX10_goHandles_192 : decode cX10_goHandles 192 = .ok (.iload_n 2, 1) := by decide +kernel
theorem dX10_goHandles_193 : decode cX10_goHandles 193 = .ok (.iload_n 3, 1) := by decide +kernel
theorem dX10_goHandles_194 : decode cX10_goHandles 194 = .ok (.iload 6, 2) := by decide +kernel
theorem dX10_goHandles_196 : decode cX10_goHandles 196 = .ok (.invokevirtual 254, 3) := by decide +kernel
theorem dX10_goHandles_199 : decode cX10_goHandles 199 = .ok (.return_, 1) := by decide +kernel
theorem dX10_pair_0 : decode cX10_pair 0 = .ok (.iload_n 2, 1) := by decide +kernel
theorem dX10_pair_1 : decode cX10_pair 1 = .ok (.bipush 8, 2) := by decide +kernel
theorem dX10_pair_3 : decode cX10_pair 3 = .ok (.if_icmp .ne 14, 3) := by decide +kernel
theorem dX10_pair_6 : decode cX10_pair 6 = .ok (.aload_n 0, 1) := by decide +kernel
theorem dX10_pair_7 : decode cX10_pair 7 = .ok (.iload_n 1, 1) := by decide +kernel
theorem dX10_pair_8 : decode cX10_pair 8 = .ok (.iload_n 3, 1) := by decide +kernel
theorem dX10_pair_9 : decode cX10_pair 9 = .ok (.iload 4, 2) := by decide +kernel
theorem dX10_pair_11 : decode cX10_pair 11 = .ok (.invokevirtual 245, 3) := by decide +kernel
theorem dX10_pair_14 : decode cX10_pair 14 = .ok (.goto 36, 3) := by decide +kernel
theorem dX10_pair_17 : decode cX10_pair 17 = .ok (.aload_n 0, 1) := by decide +kernel
theorem dX10_pair_18 : decode cX10_pair 18 = .ok (.iload_n 1, 1) := by decide +kernel
theorem dX10_pair_19 : decode cX10_pair 19 = .ok (.iload_n 3, 1) := by decide +kernel
theorem dX10_pair_20 : decode cX10_pair 20 = .ok (.invokevirtual 251, 3) := by decide +kernel
theorem dX10_pair_23 : decode cX10_pair 23 = .ok (.ifCond .eq 27, 3) := by decide +kernel
theorem dX10_pair_26 : decode cX10_pair 26 = .ok (.iload_n 2, 1) := by decide +kernel
theorem dX10_pair_27 : decode cX10_pair 27 = .ok (.iconst 5, 1) := by decide +kernel
theorem dX10_pair_28 : decode cX10_pair 28 = .ok (.if_icmp .ne 14, 3) := by decide +kernel
theorem dX10_pair_31 : decode cX10_pair 31 = .ok (.aload_n 0, 1) := by decide +kernel
theorem dX10_pair_32 : decode cX10_pair 32 = .ok (.iload_n 1, 1) := by decide +kernel
theorem dX10_pair_33 : decode cX10_pair 33 = .ok (.iload_n 3, 1) := by decide +kernel
theorem dX10_pair_34 : decode cX10_pair 34 = .ok (.iload 4, 2) := by decide +kernel
theorem dX10_pair_36 : decode cX10_pair 36 = .ok (.invokevirtual 257, 3) := by decide +kernel
theorem dX10_pair_39 : decode cX10_pair 39 = .ok (.goto 11, 3) := by decide +kernel
theorem dX10_pair_42 : decode cX10_pair 42 = .ok (.aload_n 0, 1) := by decide +kernel
theorem dX10_pair_43 : decode cX10_pair 43 = .ok (.iload_n 1, 1) := by decide +kernel
theorem dX10_pair_44 : decode cX10_pair 44 = .ok (.iload_n 3, 1) := by decide +kernel
theorem dX10_pair_45 : decode cX10_pair 45 = .ok (.iload 4, 2) := by decide +kernel
theorem dX10_pair_47 : decode cX10_pair 47 = .ok (.invokevirtual 260, 3) := by decide +kernel
theorem dX10_pair_50 : decode cX10_pair 50 = .ok (.return_, 1) := by decide +kernel
theorem dX10_close_0 : decode cX10_close 0 = .ok (.aload_n 0, 1) := by decide +kernel
theorem dX10_close_1 : decode cX10_close 1 = .ok (.getfield 57, 3) := by decide +kernel
theorem dX10_close_4 : decode cX10_close 4 = .ok (.iload_n 2, 1) := by decide +kernel
theorem dX10_close_5 : decode cX10_close 5 = .ok (.iaload, 1) := by decide +kernel
theorem dX10_close_6 : decode cX10_close 6 = .ok (.iconst 2, 1) := by decide +kernel
theorem dX10_close_7 : decode cX10_close 7 = .ok (.if_icmp .ne 10, 3) := by decide +kernel
theorem dX10_close_10 : decode cX10_close 10 = .ok (.aload_n 0, 1) := by decide +kernel
theorem dX10_close_11 : decode cX10_close 11 = .ok (.iconst 0, 1) := by decide +kernel
theorem dX10_close_12 : decode cX10_close 12 = .ok (.iconst 0, 1) := by decide +kernel
theorem dX10_close_13 : decode cX10_close 13 = .ok (.invokevirtual 179, 3) := by decide +kernel
theorem dX10_close_16 : decode cX10_close 16 = .ok (.return_, 1) := by decide +kernel
theorem dX10_close_17 : decode cX10_close 17 = .ok (.aload_n 0, 1) := by decide +kernel
theorem dX10_close_18 : decode cX10_close 18 = .ok (.getfield 57, 3) := by decide +kernel
theorem dX10_close_21 : decode cX10_close 21 = .ok (.iload_n 2, 1) := by decide +kernel
theorem dX10_close_22 : decode cX10_close 22 = .ok (.iaload, 1) := by decide +kernel
theorem dX10_close_23 : decode cX10_close 23 = .ok (.iconst 1, 1) := by decide +kernel
theorem dX10_close_24 : decode cX10_close 24 = .ok (.if_icmp .eq 11, 3) := by decide +kernel
theorem dX10_close_27 : decode cX10_close 27 = .ok (.aload_n 0, 1) := by decide +kernel
theorem dX10_close_28 : decode cX10_close 28 = .ok (.iload_n 2, 1) := by decide +kernel
theorem dX10_close_29 : decode cX10_close 29 = .ok (.invokevirtual 263, 3) := by decide +kernel
theorem dX10_close_32 : decode cX10_close 32 = .ok (.ifCond .eq 7, 3) := by decide +kernel
theorem dX10_close_35 : decode cX10_close 35 = .ok (.iconst 1, 1) := by decide +kernel
theorem dX10_close_36 : decode cX10_close 36 = .ok (.goto 4, 3) := by decide +kernel
theorem dX10_close_39 : decode cX10_close 39 = .ok (.iconst 0, 1) := by decide +kernel
theorem dX10_close_40 : decode cX10_close 40 = .ok (.istore_n 3, 1) := by decide +kernel
theorem dX10_close_41 : decode cX10_close 41 = .ok (.aload_n 0, 1) := by decide +kernel
theorem dX10_close_42 : decode cX10_close 42 = .ok (.getfield 57, 3) := by decide +kernel
theorem dX10_close_45 : decode cX10_close 45 = .ok (.iload_n 2, 1) := by decide +kernel
theorem dX10_close_46 : decode cX10_close 46 = .ok (.iconst 2, 1) := by decide +kernel
theorem dX10_close_47 : decode cX10_close 47 = .ok (.iastore, 1) := by decide +kernel
theorem dX10_close_48 : decode cX10_close 48 = .ok (.aload_n 0, 1) := by decide +kernel
theorem dX10_close_49 : decode cX10_close 49 = .ok (.iload_n 1, 1) := by decide +kernel
theorem dX10_close_50 : decode cX10_close 50 = .ok (.invokevirtual 175, 3) := by decide +kernel
theorem dX10_close_53 : decode cX10_close 53 = .ok (.iload_n 3, 1) := by decide +kernel
theorem dX10_close_54 : decode cX10_close 54 = .ok (.ifCond .eq 12, 3) := by decide +kernel
theorem dX10_close_57 : decode cX10_close 57 = .ok (.aload_n 0, 1) := by decide +kernel
theorem dX10_close_58 : decode cX10_close 58 = .ok (.iconst 0, 1) := by decide +kernel
theorem dX10_close_59 : decode cX10_close 59 = .ok (.iconst 0, 1) := by decide +kernel
theorem dX10_close_60 : decode cX10_close 60 = .ok (.invokevirtual 179, 3) := by decide +kernel
theorem dX10_close_63 : decode cX10_close 63 = .ok (.goto 9, 3) := by decide +kernel
theorem dX10_close_66 : decode cX10_close 66 = .ok (.aload_n 0, 1) := by decide +kernel
theorem dX10_close_67 : decode cX10_close 67 = .ok (.iload_n 1, 1) := by decide +kernel
theorem dX10_close_68 : decode cX10_close 68 = .ok (.iconst 5, 1) := by decide +kernel
theorem dX10_close_69 : decode cX10_close 69 = .ok (.invokevirtual 171, 3) := by decide +kernel
theorem dX10_close_72 : decode cX10_close 72 = .ok (.return_, 1) := by decide +kernel
theorem dX10_seek_0 : decode cX10_seek 0 = .ok (.aload_n 0, 1) := by decide +kernel
theorem dX10_seek_1 : decode cX10_seek 1 = .ok (.iload_n 2, 1) := by decide +kernel
theorem dX10_seek_2 : decode cX10_seek 2 = .ok (.invokevirtual 263, 3) := by decide +kernel
theorem dX10_seek_5 : decode cX10_seek 5 = .ok (.ifCond .ne 12, 3) := by decide +kernel
theorem dX10_seek_8 : decode cX10_seek 8 = .ok (.aload_n 0, 1) := by decide +kernel
theorem dX10_seek_9 : decode cX10_seek 9 = .ok (.iload_n 1, 1) := by decide +kernel
theorem dX10_seek_10 : decode cX10_seek 10 = .ok (.iconst 5, 1) := by decide +kernel
theorem dX10_seek_11 : decode cX10_seek 11 = .ok (.invokevirtual 171, 3) := by decide +kernel
theorem dX10_seek_14 : decode cX10_seek 14 = .ok (.goto 59, 3) := by decide +kernel
theorem dX10_seek_17 : decode cX10_seek 17 = .ok (.aload_n 0, 1) := by decide +kernel
theorem dX10_seek_18 : decode cX10_seek 18 = .ok (.getfield 51, 3) := by decide +kernel
theorem dX10_seek_21 : decode cX10_seek 21 = .ok (.iload_n 2, 1) := by decide +kernel
theorem dX10_seek_22 : decode cX10_seek 22 = .ok (.iaload, 1) := by decide +kernel
theorem dX10_seek_23 : decode cX10_seek 23 = .ok (.iconst 2, 1) := by decide +kernel
theorem dX10_seek_24 : decode cX10_seek 24 = .ok (.if_icmp .eq 22, 3) := by decide +kernel
theorem dX10_seek_27 : decode cX10_seek 27 = .ok (.iload_n 3, 1) := by decide +kernel
theorem dX10_seek_28 : decode cX10_seek 28 = .ok (.iconst 0, 1) := by decide +kernel
theorem dX10_seek_29 : decode cX10_seek 29 = .ok (.aload_n 0, 1) := by decide +kernel
theorem dX10_seek_30 : decode cX10_seek 30 = .ok (.getfield 13, 3) := by decide +kernel
theorem dX10_seek_33 : decode cX10_seek 33 = .ok (.aload_n 0, 1) := by decide +kernel
theorem dX10_seek_34 : decode cX10_seek 34 = .ok (.getfield 48, 3) := by decide +kernel
theorem dX10_seek_37 : decode cX10_seek 37 = .ok (.iload_n 2, 1) := by decide +kernel
theorem dX10_seek_38 : decode cX10_seek 38 = .ok (.iaload, 1) := by decide +kernel
theorem dX10_seek_39 : decode cX10_seek 39 = .ok (.iaload, 1) := by decide +kernel
theorem dX10_seek_40 : decode cX10_seek 40 = .ok (.invokestatic 127, 3) := by decide +kernel
theorem dX10_seek_43 : decode cX10_seek 43 = .ok (.ifCond .ne 12, 3) := by decide +kernel
theorem dX10_seek_46 : decode cX10_seek 46 = .ok (.aload_n 0, 1) := by decide +kernel
theorem dX10_seek_47 : decode cX10_seek 47 = .ok (.iload_n 1, 1) := by decide +kernel
theorem dX10_seek_48 : decode cX10_seek 48 = .ok (.iconst 4, 1) := by decide +kernel
theorem dX10_seek_49 : decode cX10_seek 49 = .ok (.invokevirtual 171, 3) := by decide +kernel
theorem dX10_seek_52 : decode cX10_seek 52 = .ok (.goto 21, 3) := by decide +kernel
theorem dX10_seek_55 : decode cX10_seek 55 = .ok (.aload_n 0, 1) := by decide +kernel
theorem dX10_seek_56 : decode cX10_seek 56 = .ok (.getfield 54, 3) := by decide +kernel
theorem dX10_seek_59 : decode cX10_seek 59 = .ok (.iload_n 2, 1) := by decide +kernel
theorem dX10_seek_60 : decode cX10_seek 60 = .ok (.iload_n 3, 1) := by decide +kernel
theorem dX10_seek_61 : decode cX10_seek 61 = .ok (.iastore, 1) := by decide +kernel
theorem dX10_seek_62 : decode cX10_seek 62 = .ok (.aload_n 0, 1) := by decide +kernel
theorem dX10_seek_63 : decode cX10_seek 63 = .ok (.iload_n 1, 1) := by decide +kernel
theorem dX10_seek_64 : decode cX10_seek 64 = .ok (.invokevirtual 175, 3) := by decide +kernel
theorem dX10_seek_67 : decode cX10_seek 67 = .ok (.aload_n 0, 1) := by decide +kernel
theorem dX10_seek_68 : decode cX10_seek 68 = .ok (.iconst 0, 1) := by decide +kernel
theorem dX10_seek_69 : decode cX10_seek 69 = .ok (.iconst 0, 1) := by decide +kernel
theorem dX10_seek_70 : decode cX10_seek 70 = .ok (.invokevirtual 179, 3) := by decide +kernel
theorem dX10_seek_73 : decode cX10_seek 73 = .ok (.return_, 1) := by decide +kernel
theorem dX10_putByte_0 : decode cX10_putByte 0 = .ok (.aload_n 0, 1) := by decide +kernel
theorem dX10_putByte_1 : decode cX10_putByte 1 = .ok (.getfield 51, 3) := by decide +kernel
theorem dX10_putByte_4 : decode cX10_putByte 4 = .ok (.iload_n 2, 1) := by decide +kernel
theorem dX10_putByte_5 : decode cX10_putByte 5 = .ok (.iaload, 1) := by decide +kernel
theorem dX10_putByte_6 : decode cX10_putByte 6 = .ok (.ifCond .ne 10, 3) := by decide +kernel
theorem dX10_putByte_9 : decode cX10_putByte 9 = .ok (.aload_n 0, 1) := by decide +kernel
theorem dX10_putByte_10 : decode cX10_putByte 10 = .ok (.iload_n 1, 1) := by decide +kernel
theorem dX10_putByte_11 : decode cX10_putByte 11 = .ok (.iconst 4, 1) := by decide +kernel
theorem dX10_putByte_12 : decode cX10_putByte 12 = .ok (.invokevirtual 171, 3) := by decide +kernel
theorem dX10_putByte_15 : decode cX10_putByte 15 = .ok (.return_, 1) := by decide +kernel
theorem dX10_putByte_16 : decode cX10_putByte 16 = .ok (.aload_n 0, 1) := by decide +kernel
theorem dX10_putByte_17 : decode cX10_putByte 17 = .ok (.getfield 69, 3) := by decide +kernel
theorem dX10_putByte_20 : decode cX10_putByte 20 = .ok (.bipush 20, 2) := by decide +kernel
theorem dX10_putByte_22 : decode cX10_putByte 22 = .ok (.iload_n 2, 1) := by decide +kernel
theorem dX10_putByte_23 : decode cX10_putByte 23 = .ok (.imul, 1) := by decide +kernel
theorem dX10_putByte_24 : decode cX10_putByte 24 = .ok (.aload_n 0, 1) := by decide +kernel
theorem dX10_putByte_25 : decode cX10_putByte 25 = .ok (.getfield 66, 3) := by decide +kernel
theorem dX10_putByte_28 : decode cX10_putByte 28 = .ok (.iload_n 2, 1) := by decide +kernel
theorem dX10_putByte_29 : decode cX10_putByte 29 = .ok (.iaload, 1) := by decide +kernel
theorem dX10_putByte_30 : decode cX10_putByte 30 = .ok (.iadd, 1) := by decide +kernel
theorem dX10_putByte_31 : decode cX10_putByte 31 = .ok (.iload_n 3, 1) := by decide +kernel
theorem dX10_putByte_32 : decode cX10_putByte 32 = .ok (.i2b, 1) := by decide +kernel
theorem dX10_putByte_33 : decode cX10_putByte 33 = .ok (.bastore, 1) := by decide +kernel
theorem dX10_putByte_34 : decode cX10_putByte 34 = .ok (.aload_n 0, 1) := by decide +kernel
theorem dX10_putByte_35 : decode cX10_putByte 35 = .ok (.getfield 66, 3) := by decide +kernel
theorem dX10_putByte_38 : decode cX10_putByte 38 = .ok (.iload_n 2, 1) := by decide +kernel
theorem dX10_putByte_39 : decode cX10_putByte 39 = .ok (.dup2, 1) := by decide +kernel
theorem dX10_putByte_40 : decode cX10_putByte 40 = .ok (.iaload, 1) := by decide +kernel
theorem dX10_putByte_41 : decode cX10_putByte 41 = .ok (.iconst 1, 1) := by decide +kernel
theorem dX10_putByte_42 : decode cX10_putByte 42 = .ok (.iadd, 1) := by decide +kernel
theorem dX10_putByte_43 : decode cX10_putByte 43 = .ok (.iastore, 1) := by decide +kernel
theorem dX10_putByte_44 : decode cX10_putByte 44 = .ok (.aload_n 0, 1) := by decide +kernel
theorem dX10_putByte_45 : decode cX10_putByte 45 = .ok (.getfield 72, 3) := by decide +kernel
theorem dX10_putByte_48 : decode cX10_putByte 48 = .ok (.iload_n 2, 1) := by decide +kernel
theorem dX10_putByte_49 : decode cX10_putByte 49 = .ok (.dup2, 1) := by decide +kernel
theorem dX10_putByte_50 : decode cX10_putByte 50 = .ok (.iaload, 1) := by decide +kernel
theorem dX10_putByte_51 : decode cX10_putByte 51 = .ok (.iconst 1, 1) := by decide +kernel
theorem dX10_putByte_52 : decode cX10_putByte 52 = .ok (.iadd, 1) := by decide +kernel
theorem dX10_putByte_53 : decode cX10_putByte 53 = .ok (.iastore, 1) := by decide +kernel
theorem dX10_putByte_54 : decode cX10_putByte 54 = .ok (.aload_n 0, 1) := by decide +kernel
theorem dX10_putByte_55 : decode cX10_putByte 55 = .ok (.getfield 63, 3) := by decide +kernel
theorem dX10_putByte_58 : decode cX10_putByte 58 = .ok (.iload_n 2, 1) := by decide +kernel
theorem dX10_putByte_59 : decode cX10_putByte 59 = .ok (.iaload, 1) := by decide +kernel
theorem dX10_putByte_60 : decode cX10_putByte 60 = .ok (.istore 4, 2) := by decide +kernel
theorem dX10_putByte_62 : decode cX10_putByte 62 = .ok (.iload 4, 2) := by decide +kernel
theorem dX10_putByte_64 : decode cX10_putByte 64 = .ok (.ifCond .eq 47, 3) := by decide +kernel
theorem dX10_putByte_67 : decode cX10_putByte 67 = .ok (.iload 4, 2) := by decide +kernel
theorem dX10_putByte_69 : decode cX10_putByte 69 = .ok (.iconst 1, 1) := by decide +kernel
theorem dX10_putByte_70 : decode cX10_putByte 70 = .ok (.if_icmp .ne 24, 3) := by decide +kernel
theorem dX10_putByte_73 : decode cX10_putByte 73 = .ok (.iload_n 3, 1) := by decide +kernel
theorem dX10_putByte_74 : decode cX10_putByte 74 = .ok (.sipush 255, 3) := by decide +kernel
theorem dX10_putByte_77 : decode cX10_putByte 77 = .ok (.iand, 1) := by decide +kernel
theorem dX10_putByte_78 : decode cX10_putByte 78 = .ok (.bipush 10, 2) := by decide +kernel
theorem dX10_putByte_80 : decode cX10_putByte 80 = .ok (.if_icmp .eq 31, 3) := by decide +kernel
theorem dX10_putByte_83 : decode cX10_putByte 83 = .ok (.aload_n 0, 1) := by decide +kernel
theorem dX10_putByte_84 : decode cX10_putByte 84 = .ok (.getfield 66, 3) := by decide +kernel
theorem dX10_putByte_87 : decode cX10_putByte 87 = .ok (.iload_n 2, 1) := by decide +kernel
theorem dX10_putByte_88 : decode cX10_putByte 88 = .ok (.iaload, 1) := by decide +kernel
theorem dX10_putByte_89 : decode cX10_putByte 89 = .ok (.bipush 20, 2) := by decide +kernel
theorem dX10_putByte_91 : decode cX10_putByte 91 = .ok (.if_icmp .eq 20, 3) := by decide +kernel
theorem dX10_putByte_94 : decode cX10_putByte 94 = .ok (.iload 4, 2) := by decide +kernel
theorem dX10_putByte_96 : decode cX10_putByte 96 = .ok (.iconst 1, 1) := by decide +kernel
theorem dX10_putByte_97 : decode cX10_putByte 97 = .ok (.if_icmp .le 18, 3) := by decide +kernel
theorem dX10_putByte_100 : decode cX10_putByte 100 = .ok (.aload_n 0, 1) := by decide +kernel
theorem dX10_putByte_101 : decode cX10_putByte 101 = .ok (.getfield 66, 3) := by decide +kernel
theorem dX10_putByte_104 : decode cX10_putByte 104 = .ok (.iload_n 2, 1) := by decide +kernel
theorem dX10_putByte_105 : decode cX10_putByte 105 = .ok (.iaload, 1) := by decide +kernel
theorem dX10_putByte_106 : decode cX10_putByte 106 = .ok (.iload 4, 2) := by decide +kernel
theorem dX10_putByte_108 : decode cX10_putByte 108 = .ok (.if_icmp .ne 7, 3) := by decide +kernel
theorem dX10_putByte_111 : decode cX10_putByte 111 = .ok (.iconst 1, 1) := by decide +kernel
theorem dX10_putByte_112 : decode cX10_putByte 112 = .ok (.goto 4, 3) := by decide +kernel
theorem dX10_putByte_115 : decode cX10_putByte 115 = .ok (.iconst 0, 1) := by decide +kernel
theorem dX10_putByte_116 : decode cX10_putByte 116 = .ok (.istore 5, 2) := by decide +kernel
theorem dX10_putByte_118 : decode cX10_putByte 118 = .ok (.iload 5, 2) := by decide +kernel
theorem dX10_putByte_120 : decode cX10_putByte 120 = .ok (.ifCond .eq 11, 3) := by decide +kernel
theorem dX10_putByte_123 : decode cX10_putByte 123 = .ok (.aload_n 0, 1) := by decide +kernel
theorem dX10_putByte_124 : decode cX10_putByte 124 = .ok (.iload_n 2, 1) := by decide +kernel
theorem dX10_putByte_125 : decode cX10_putByte 125 = .ok (.invokevirtual 263, 3) := by decide +kernel
theorem dX10_putByte_128 : decode cX10_putByte 128 = .ok (.ifCond .eq 17, 3) := by decide +kernel
theorem dX10_putByte_131 : decode cX10_putByte 131 = .ok (.aload_n 0, 1) := by decide +kernel
theorem dX10_putByte_132 : decode cX10_putByte 132 = .ok (.iload_n 1, 1) := by decide +kernel
theorem dX10_putByte_133 : decode cX10_putByte 133 = .ok (.invokevirtual 175, 3) := by decide +kernel
theorem dX10_putByte_136 : decode cX10_putByte 136 = .ok (.aload_n 0, 1) := by decide +kernel
theorem dX10_putByte_137 : decode cX10_putByte 137 = .ok (.iconst 0, 1) := by decide +kernel
theorem dX10_putByte_138 : decode cX10_putByte 138 = .ok (.iconst 0, 1) := by decide +kernel
theorem dX10_putByte_139 : decode cX10_putByte 139 = .ok (.invokevirtual 179, 3) := by decide +kernel
theorem dX10_putByte_142 : decode cX10_putByte 142 = .ok (.goto 9, 3) := by decide +kernel
theorem dX10_putByte_145 : decode cX10_putByte 145 = .ok (.aload_n 0, 1) := by decide +kernel
theorem dX10_putByte_146 : decode cX10_putByte 146 = .ok (.iload_n 1, 1) := by decide +kernel
theorem dX10_putByte_147 : decode cX10_putByte 147 = .ok (.iconst 5, 1) := by decide +kernel
theorem dX10_putByte_148 : decode cX10_putByte 148 = .ok (.invokevirtual 171, 3) := by decide +kernel
theorem dX10_putByte_151 : decode cX10_putByte 151 = .ok (.return_, 1) := by decide +kernel
theorem dX10_take_0 : decode cX10_take 0 = .ok (.aload_n 0, 1) := by decide +kernel
theorem dX10_take_1 : decode cX10_take 1 = .ok (.getfield 51, 3) := by decide +kernel
theorem dX10_take_4 : decode cX10_take 4 = .ok (.iload_n 2, 1) := by decide +kernel
theorem dX10_take_5 : decode cX10_take 5 = .ok (.iaload, 1) := by decide +kernel
theorem dX10_take_6 : decode cX10_take 6 = .ok (.iconst 1, 1) := by decide +kernel
theorem dX10_take_7 : decode cX10_take 7 = .ok (.if_icmp .eq 13, 3) := by decide +kernel
theorem dX10_take_10 : decode cX10_take 10 = .ok (.aload_n 0, 1) := by decide +kernel
theorem dX10_take_11 : decode cX10_take 11 = .ok (.getfield 51, 3) := by decide +kernel
theorem dX10_take_14 : decode cX10_take 14 = .ok (.iload_n 2, 1) := by decide +kernel
theorem dX10_take_15 : decode cX10_take 15 = .ok (.iaload, 1) := by decide +kernel
theorem dX10_take_16 : decode cX10_take 16 = .ok (.iconst 2, 1) := by decide +kernel
theorem dX10_take_17 : decode cX10_take 17 = .ok (.if_icmp .ne 12, 3) := by decide +kernel
theorem dX10_take_20 : decode cX10_take 20 = .ok (.aload_n 0, 1) := by decide +kernel
theorem dX10_take_21 : decode cX10_take 21 = .ok (.iload_n 1, 1) := by decide +kernel
theorem dX10_take_22 : decode cX10_take 22 = .ok (.iconst 4, 1) := by decide +kernel
theorem dX10_take_23 : decode cX10_take 23 = .ok (.invokevirtual 171, 3) := by decide +kernel
theorem dX10_take_26 : decode cX10_take 26 = .ok (.goto 106, 3) := by decide +kernel
theorem dX10_take_29 : decode cX10_take 29 = .ok (.aload_n 0, 1) := by decide +kernel
end
section
theorem dX10_take_30 : decode cX10_take 30 = .ok (.iload_n 2, 1) := by decide +kernel
theorem dX10_take_31 : decode cX10_take 31 = .ok (.invokevirtual 263, 3) := by decide +kernel
theorem dX10_take_34 : decode cX10_take 34 = .ok (.ifCond .ne 12, 3) := by decide +kernel
theorem dX10_take_37 : decode cX10_take 37 = .ok (.aload_n 0, 1) := by decide +kernel
theorem dX10_take_38 : decode cX10_take 38 = .ok (.iload_n 1, 1) := by decide +kernel
theorem dX10_take_39 : decode cX10_take 39 = .ok (.iconst 5, 1) := by decide +kernel
theorem dX10_take_40 : decode cX10_take 40 = .ok (.invokevirtual 171, 3) := by decide +kernel
theorem dX10_take_43 : decode cX10_take 43 = .ok (.goto 89, 3) := by decide +kernel
theorem dX10_take_46 : decode cX10_take 46 = .ok (.aload_n 0, 1) := by decide +kernel
theorem dX10_take_47 : decode cX10_take 47 = .ok (.getfield 54, 3) := by decide +kernel
theorem dX10_take_50 : decode cX10_take 50 = .ok (.iload_n 2, 1) := by decide +kernel
theorem dX10_take_51 : decode cX10_take 51 = .ok (.iaload, 1) := by decide +kernel
theorem dX10_take_52 : decode cX10_take 52 = .ok (.aload_n 0, 1) := by decide +kernel
theorem dX10_take_53 : decode cX10_take 53 = .ok (.getfield 13, 3) := by decide +kernel
theorem dX10_take_56 : decode cX10_take 56 = .ok (.aload_n 0, 1) := by decide +kernel
theorem dX10_take_57 : decode cX10_take 57 = .ok (.getfield 48, 3) := by decide +kernel
theorem dX10_take_60 : decode cX10_take 60 = .ok (.iload_n 2, 1) := by decide +kernel
theorem dX10_take_61 : decode cX10_take 61 = .ok (.iaload, 1) := by decide +kernel
theorem dX10_take_62 : decode cX10_take 62 = .ok (.iaload, 1) := by decide +kernel
theorem dX10_take_63 : decode cX10_take 63 = .ok (.if_icmp .lt 12, 3) := by decide +kernel
theorem dX10_take_66 : decode cX10_take 66 = .ok (.aload_n 0, 1) := by decide +kernel
theorem dX10_take_67 : decode cX10_take 67 = .ok (.iload_n 1, 1) := by decide +kernel
theorem dX10_take_68 : decode cX10_take 68 = .ok (.iconst 3, 1) := by decide +kernel
theorem dX10_take_69 : decode cX10_take 69 = .ok (.invokevirtual 171, 3) := by decide +kernel
theorem dX10_take_72 : decode cX10_take 72 = .ok (.goto 60, 3) := by decide +kernel
theorem dX10_take_75 : decode cX10_take 75 = .ok (.aload_n 0, 1) := by decide +kernel
theorem dX10_take_76 : decode cX10_take 76 = .ok (.getfield 17, 3) := by decide +kernel
theorem dX10_take_79 : decode cX10_take 79 = .ok (.bipush 40, 2) := by decide +kernel
theorem dX10_take_81 : decode cX10_take 81 = .ok (.aload_n 0, 1) := by decide +kernel
theorem dX10_take_82 : decode cX10_take 82 = .ok (.getfield 48, 3) := by decide +kernel
theorem dX10_take_85 : decode cX10_take 85 = .ok (.iload_n 2, 1) := by decide +kernel
theorem dX10_take_86 : decode cX10_take 86 = .ok (.iaload, 1) := by decide +kernel
theorem dX10_take_87 : decode cX10_take 87 = .ok (.imul, 1) := by decide +kernel
theorem dX10_take_88 : decode cX10_take 88 = .ok (.aload_n 0, 1) := by decide +kernel
theorem dX10_take_89 : decode cX10_take 89 = .ok (.getfield 54, 3) := by decide +kernel
theorem dX10_take_92 : decode cX10_take 92 = .ok (.iload_n 2, 1) := by decide +kernel
theorem dX10_take_93 : decode cX10_take 93 = .ok (.iaload, 1) := by decide +kernel
theorem dX10_take_94 : decode cX10_take 94 = .ok (.iadd, 1) := by decide +kernel
theorem dX10_take_95 : decode cX10_take 95 = .ok (.baload, 1) := by decide +kernel
theorem dX10_take_96 : decode cX10_take 96 = .ok (.sipush 255, 3) := by decide +kernel
theorem dX10_take_99 : decode cX10_take 99 = .ok (.iand, 1) := by decide +kernel
theorem dX10_take_100 : decode cX10_take 100 = .ok (.istore_n 3, 1) := by decide +kernel
theorem dX10_take_101 : decode cX10_take 101 = .ok (.aload_n 0, 1) := by decide +kernel
theorem dX10_take_102 : decode cX10_take 102 = .ok (.getfield 54, 3) := by decide +kernel
theorem dX10_take_105 : decode cX10_take 105 = .ok (.iload_n 2, 1) := by decide +kernel
theorem dX10_take_106 : decode cX10_take 106 = .ok (.dup2, 1) := by decide +kernel
theorem dX10_take_107 : decode cX10_take 107 = .ok (.iaload, 1) := by decide +kernel
theorem dX10_take_108 : decode cX10_take 108 = .ok (.iconst 1, 1) := by decide +kernel
theorem dX10_take_109 : decode cX10_take 109 = .ok (.iadd, 1) := by decide +kernel
theorem dX10_take_110 : decode cX10_take 110 = .ok (.iastore, 1) := by decide +kernel
theorem dX10_take_111 : decode cX10_take 111 = .ok (.aload_n 0, 1) := by decide +kernel
theorem dX10_take_112 : decode cX10_take 112 = .ok (.getfield 75, 3) := by decide +kernel
theorem dX10_take_115 : decode cX10_take 115 = .ok (.iload_n 2, 1) := by decide +kernel
theorem dX10_take_116 : decode cX10_take 116 = .ok (.dup2, 1) := by decide +kernel
theorem dX10_take_117 : decode cX10_take 117 = .ok (.iaload, 1) := by decide +kernel
theorem dX10_take_118 : decode cX10_take 118 = .ok (.iconst 1, 1) := by decide +kernel
theorem dX10_take_119 : decode cX10_take 119 = .ok (.iadd, 1) := by decide +kernel
theorem dX10_take_120 : decode cX10_take 120 = .ok (.iastore, 1) := by decide +kernel
theorem dX10_take_121 : decode cX10_take 121 = .ok (.aload_n 0, 1) := by decide +kernel
theorem dX10_take_122 : decode cX10_take 122 = .ok (.iload_n 1, 1) := by decide +kernel
theorem dX10_take_123 : decode cX10_take 123 = .ok (.invokevirtual 175, 3) := by decide +kernel
theorem dX10_take_126 : decode cX10_take 126 = .ok (.aload_n 0, 1) := by decide +kernel
theorem dX10_take_127 : decode cX10_take 127 = .ok (.iconst 0, 1) := by decide +kernel
theorem dX10_take_128 : decode cX10_take 128 = .ok (.iload_n 3, 1) := by decide +kernel
theorem dX10_take_129 : decode cX10_take 129 = .ok (.invokevirtual 179, 3) := by decide +kernel
theorem dX10_take_132 : decode cX10_take 132 = .ok (.return_, 1) := by decide +kernel
theorem dX10_opened_0 : decode cX10_opened 0 = .ok (.iload_n 2, 1) := by decide +kernel
theorem dX10_opened_1 : decode cX10_opened 1 = .ok (.lookupswitch 144 #[(6, 35), (7, 44), (11, 123)], 35) := by decide +kernel
theorem dX10_opened_36 : decode cX10_opened 36 = .ok (.aload_n 0, 1) := by decide +kernel
theorem dX10_opened_37 : decode cX10_opened 37 = .ok (.iload_n 1, 1) := by decide +kernel
theorem dX10_opened_38 : decode cX10_opened 38 = .ok (.iload_n 3, 1) := by decide +kernel
theorem dX10_opened_39 : decode cX10_opened 39 = .ok (.invokevirtual 266, 3) := by decide +kernel
theorem dX10_opened_42 : decode cX10_opened 42 = .ok (.goto 183, 3) := by decide +kernel
theorem dX10_opened_45 : decode cX10_opened 45 = .ok (.aload_n 0, 1) := by decide +kernel
theorem dX10_opened_46 : decode cX10_opened 46 = .ok (.getfield 51, 3) := by decide +kernel
theorem dX10_opened_49 : decode cX10_opened 49 = .ok (.iload_n 3, 1) := by decide +kernel
theorem dX10_opened_50 : decode cX10_opened 50 = .ok (.iaload, 1) := by decide +kernel
theorem dX10_opened_51 : decode cX10_opened 51 = .ok (.ifCond .eq 12, 3) := by decide +kernel
theorem dX10_opened_54 : decode cX10_opened 54 = .ok (.aload_n 0, 1) := by decide +kernel
theorem dX10_opened_55 : decode cX10_opened 55 = .ok (.iload_n 1, 1) := by decide +kernel
theorem dX10_opened_56 : decode cX10_opened 56 = .ok (.iconst 4, 1) := by decide +kernel
theorem dX10_opened_57 : decode cX10_opened 57 = .ok (.invokevirtual 171, 3) := by decide +kernel
theorem dX10_opened_60 : decode cX10_opened 60 = .ok (.goto 165, 3) := by decide +kernel
theorem dX10_opened_63 : decode cX10_opened 63 = .ok (.aload_n 0, 1) := by decide +kernel
theorem dX10_opened_64 : decode cX10_opened 64 = .ok (.getfield 57, 3) := by decide +kernel
theorem dX10_opened_67 : decode cX10_opened 67 = .ok (.iload_n 3, 1) := by decide +kernel
theorem dX10_opened_68 : decode cX10_opened 68 = .ok (.iconst 1, 1) := by decide +kernel
theorem dX10_opened_69 : decode cX10_opened 69 = .ok (.iastore, 1) := by decide +kernel
theorem dX10_opened_70 : decode cX10_opened 70 = .ok (.aload_n 0, 1) := by decide +kernel
theorem dX10_opened_71 : decode cX10_opened 71 = .ok (.getfield 81, 3) := by decide +kernel
theorem dX10_opened_74 : decode cX10_opened 74 = .ok (.aload_n 0, 1) := by decide +kernel
theorem dX10_opened_75 : decode cX10_opened 75 = .ok (.getfield 269, 3) := by decide +kernel
theorem dX10_opened_78 : decode cX10_opened 78 = .ok (.iload_n 3, 1) := by decide +kernel
theorem dX10_opened_79 : decode cX10_opened 79 = .ok (.iastore, 1) := by decide +kernel
theorem dX10_opened_80 : decode cX10_opened 80 = .ok (.aload_n 0, 1) := by decide +kernel
theorem dX10_opened_81 : decode cX10_opened 81 = .ok (.getfield 84, 3) := by decide +kernel
theorem dX10_opened_84 : decode cX10_opened 84 = .ok (.aload_n 0, 1) := by decide +kernel
theorem dX10_opened_85 : decode cX10_opened 85 = .ok (.getfield 269, 3) := by decide +kernel
theorem dX10_opened_88 : decode cX10_opened 88 = .ok (.iconst 0, 1) := by decide +kernel
theorem dX10_opened_89 : decode cX10_opened 89 = .ok (.iastore, 1) := by decide +kernel
theorem dX10_opened_90 : decode cX10_opened 90 = .ok (.aload_n 0, 1) := by decide +kernel
theorem dX10_opened_91 : decode cX10_opened 91 = .ok (.getfield 90, 3) := by decide +kernel
theorem dX10_opened_94 : decode cX10_opened 94 = .ok (.aload_n 0, 1) := by decide +kernel
theorem dX10_opened_95 : decode cX10_opened 95 = .ok (.getfield 269, 3) := by decide +kernel
theorem dX10_opened_98 : decode cX10_opened 98 = .ok (.iconst 0, 1) := by decide +kernel
theorem dX10_opened_99 : decode cX10_opened 99 = .ok (.bastore, 1) := by decide +kernel
theorem dX10_opened_100 : decode cX10_opened 100 = .ok (.aload_n 0, 1) := by decide +kernel
theorem dX10_opened_101 : decode cX10_opened 101 = .ok (.dup, 1) := by decide +kernel
theorem dX10_opened_102 : decode cX10_opened 102 = .ok (.getfield 269, 3) := by decide +kernel
theorem dX10_opened_105 : decode cX10_opened 105 = .ok (.iconst 1, 1) := by decide +kernel
theorem dX10_opened_106 : decode cX10_opened 106 = .ok (.iadd, 1) := by decide +kernel
theorem dX10_opened_107 : decode cX10_opened 107 = .ok (.putfield 269, 3) := by decide +kernel
theorem dX10_opened_110 : decode cX10_opened 110 = .ok (.aload_n 0, 1) := by decide +kernel
theorem dX10_opened_111 : decode cX10_opened 111 = .ok (.iconst 2, 1) := by decide +kernel
theorem dX10_opened_112 : decode cX10_opened 112 = .ok (.aload_n 0, 1) := by decide +kernel
theorem dX10_opened_113 : decode cX10_opened 113 = .ok (.getfield 269, 3) := by decide +kernel
theorem dX10_opened_116 : decode cX10_opened 116 = .ok (.iconst 1, 1) := by decide +kernel
theorem dX10_opened_117 : decode cX10_opened 117 = .ok (.isub, 1) := by decide +kernel
theorem dX10_opened_118 : decode cX10_opened 118 = .ok (.invokevirtual 179, 3) := by decide +kernel
theorem dX10_opened_121 : decode cX10_opened 121 = .ok (.goto 104, 3) := by decide +kernel
theorem dX10_opened_124 : decode cX10_opened 124 = .ok (.aload_n 0, 1) := by decide +kernel
theorem dX10_opened_125 : decode cX10_opened 125 = .ok (.iconst 0, 1) := by decide +kernel
theorem dX10_opened_126 : decode cX10_opened 126 = .ok (.aload_n 0, 1) := by decide +kernel
theorem dX10_opened_127 : decode cX10_opened 127 = .ok (.getfield 54, 3) := by decide +kernel
theorem dX10_opened_130 : decode cX10_opened 130 = .ok (.iload_n 3, 1) := by decide +kernel
theorem dX10_opened_131 : decode cX10_opened 131 = .ok (.iaload, 1) := by decide +kernel
theorem dX10_opened_132 : decode cX10_opened 132 = .ok (.aload_n 0, 1) := by decide +kernel
theorem dX10_opened_133 : decode cX10_opened 133 = .ok (.getfield 66, 3) := by decide +kernel
theorem dX10_opened_136 : decode cX10_opened 136 = .ok (.iload_n 3, 1) := by decide +kernel
theorem dX10_opened_137 : decode cX10_opened 137 = .ok (.iaload, 1) := by decide +kernel
theorem dX10_opened_138 : decode cX10_opened 138 = .ok (.iadd, 1) := by decide +kernel
theorem dX10_opened_139 : decode cX10_opened 139 = .ok (.invokevirtual 179, 3) := by decide +kernel
theorem dX10_opened_142 : decode cX10_opened 142 = .ok (.goto 83, 3) := by decide +kernel
theorem dX10_opened_145 : decode cX10_opened 145 = .ok (.aload_n 0, 1) := by decide +kernel
theorem dX10_opened_146 : decode cX10_opened 146 = .ok (.iload_n 3, 1) := by decide +kernel
theorem dX10_opened_147 : decode cX10_opened 147 = .ok (.invokevirtual 263, 3) := by decide +kernel
theorem dX10_opened_150 : decode cX10_opened 150 = .ok (.ifCond .ne 12, 3) := by decide +kernel
theorem dX10_opened_153 : decode cX10_opened 153 = .ok (.aload_n 0, 1) := by decide +kernel
theorem dX10_opened_154 : decode cX10_opened 154 = .ok (.iload_n 1, 1) := by decide +kernel
theorem dX10_opened_155 : decode cX10_opened 155 = .ok (.iconst 5, 1) := by decide +kernel
theorem dX10_opened_156 : decode cX10_opened 156 = .ok (.invokevirtual 171, 3) := by decide +kernel
theorem dX10_opened_159 : decode cX10_opened 159 = .ok (.goto 66, 3) := by decide +kernel
theorem dX10_opened_162 : decode cX10_opened 162 = .ok (.iload_n 2, 1) := by decide +kernel
theorem dX10_opened_163 : decode cX10_opened 163 = .ok (.bipush 12, 2) := by decide +kernel
theorem dX10_opened_165 : decode cX10_opened 165 = .ok (.if_icmp .ne 22, 3) := by decide +kernel
theorem dX10_opened_168 : decode cX10_opened 168 = .ok (.aload_n 0, 1) := by decide +kernel
theorem dX10_opened_169 : decode cX10_opened 169 = .ok (.iconst 0, 1) := by decide +kernel
theorem dX10_opened_170 : decode cX10_opened 170 = .ok (.aload_n 0, 1) := by decide +kernel
theorem dX10_opened_171 : decode cX10_opened 171 = .ok (.getfield 13, 3) := by decide +kernel
theorem dX10_opened_174 : decode cX10_opened 174 = .ok (.aload_n 0, 1) := by decide +kernel
theorem dX10_opened_175 : decode cX10_opened 175 = .ok (.getfield 48, 3) := by decide +kernel
theorem dX10_opened_178 : decode cX10_opened 178 = .ok (.iload_n 3, 1) := by decide +kernel
theorem dX10_opened_179 : decode cX10_opened 179 = .ok (.iaload, 1) := by decide +kernel
theorem dX10_opened_180 : decode cX10_opened 180 = .ok (.iaload, 1) := by decide +kernel
theorem dX10_opened_181 : decode cX10_opened 181 = .ok (.invokevirtual 179, 3) := by decide +kernel
theorem dX10_opened_184 : decode cX10_opened 184 = .ok (.goto 41, 3) := by decide +kernel
theorem dX10_opened_187 : decode cX10_opened 187 = .ok (.aload_n 0, 1) := by decide +kernel
theorem dX10_opened_188 : decode cX10_opened 188 = .ok (.getfield 63, 3) := by decide +kernel
theorem dX10_opened_191 : decode cX10_opened 191 = .ok (.iload_n 3, 1) := by decide +kernel
theorem dX10_opened_192 : decode cX10_opened 192 = .ok (.iload_n 2, 1) := by decide +kernel
theorem dX10_opened_193 : decode cX10_opened 193 = .ok (.bipush 13, 2) := by decide +kernel
theorem dX10_opened_195 : decode cX10_opened 195 = .ok (.if_icmp .ne 12, 3) := by decide +kernel
theorem dX10_opened_198 : decode cX10_opened 198 = .ok (.aload_n 0, 1) := by decide +kernel
theorem dX10_opened_199 : decode cX10_opened 199 = .ok (.getfield 36, 3) := by decide +kernel
theorem dX10_opened_202 : decode cX10_opened 202 = .ok (.iload_n 1, 1) := by decide +kernel
theorem dX10_opened_203 : decode cX10_opened 203 = .ok (.iaload, 1) := by decide +kernel
theorem dX10_opened_204 : decode cX10_opened 204 = .ok (.goto 9, 3) := by decide +kernel
theorem dX10_opened_207 : decode cX10_opened 207 = .ok (.aload_n 0, 1) := by decide +kernel
theorem dX10_opened_208 : decode cX10_opened 208 = .ok (.getfield 63, 3) := by decide +kernel
theorem dX10_opened_211 : decode cX10_opened 211 = .ok (.iload_n 3, 1) := by decide +kernel
theorem dX10_opened_212 : decode cX10_opened 212 = .ok (.iaload, 1) := by decide +kernel
theorem dX10_opened_213 : decode cX10_opened 213 = .ok (.iastore, 1) := by decide +kernel
theorem dX10_opened_214 : decode cX10_opened 214 = .ok (.aload_n 0, 1) := by decide +kernel
theorem dX10_opened_215 : decode cX10_opened 215 = .ok (.iload_n 1, 1) := by decide +kernel
theorem dX10_opened_216 : decode cX10_opened 216 = .ok (.invokevirtual 175, 3) := by decide +kernel
theorem dX10_opened_219 : decode cX10_opened 219 = .ok (.aload_n 0, 1) := by decide +kernel
theorem dX10_opened_220 : decode cX10_opened 220 = .ok (.iconst 0, 1) := by decide +kernel
theorem dX10_opened_221 : decode cX10_opened 221 = .ok (.iconst 0, 1) := by decide +kernel
theorem dX10_opened_222 : decode cX10_opened 222 = .ok (.invokevirtual 179, 3) := by decide +kernel
theorem dX10_opened_225 : decode cX10_opened 225 = .ok (.return_, 1) := by decide +kernel
theorem dX10_list_0 : decode cX10_list 0 = .ok (.iload_n 3, 1) := by decide +kernel
theorem dX10_list_1 : decode cX10_list 1 = .ok (.ifCond .ge 10, 3) := by decide +kernel
theorem dX10_list_4 : decode cX10_list 4 = .ok (.aload_n 0, 1) := by decide +kernel
theorem dX10_list_5 : decode cX10_list 5 = .ok (.iload_n 1, 1) := by decide +kernel
theorem dX10_list_6 : decode cX10_list 6 = .ok (.iconst 4, 1) := by decide +kernel
theorem dX10_list_7 : decode cX10_list 7 = .ok (.invokevirtual 171, 3) := by decide +kernel
theorem dX10_list_10 : decode cX10_list 10 = .ok (.return_, 1) := by decide +kernel
theorem dX10_list_11 : decode cX10_list 11 = .ok (.aload_n 0, 1) := by decide +kernel
theorem dX10_list_12 : decode cX10_list 12 = .ok (.getfield 81, 3) := by decide +kernel
theorem dX10_list_15 : decode cX10_list 15 = .ok (.iload_n 2, 1) := by decide +kernel
theorem dX10_list_16 : decode cX10_list 16 = .ok (.iaload, 1) := by decide +kernel
theorem dX10_list_17 : decode cX10_list 17 = .ok (.istore 4, 2) := by decide +kernel
theorem dX10_list_19 : decode cX10_list 19 = .ok (.aload_n 0, 1) := by decide +kernel
theorem dX10_list_20 : decode cX10_list 20 = .ok (.getfield 84, 3) := by decide +kernel
theorem dX10_list_23 : decode cX10_list 23 = .ok (.iload_n 2, 1) := by decide +kernel
theorem dX10_list_24 : decode cX10_list 24 = .ok (.iaload, 1) := by decide +kernel
theorem dX10_list_25 : decode cX10_list 25 = .ok (.iload_n 3, 1) := by decide +kernel
theorem dX10_list_26 : decode cX10_list 26 = .ok (.if_icmp .gt 152, 3) := by decide +kernel
theorem dX10_list_29 : decode cX10_list 29 = .ok (.aload_n 0, 1) := by decide +kernel
theorem dX10_list_30 : decode cX10_list 30 = .ok (.getfield 90, 3) := by decide +kernel
theorem dX10_list_33 : decode cX10_list 33 = .ok (.iload_n 2, 1) := by decide +kernel
theorem dX10_list_34 : decode cX10_list 34 = .ok (.baload, 1) := by decide +kernel
theorem dX10_list_35 : decode cX10_list 35 = .ok (.ifCond .ne 143, 3) := by decide +kernel
theorem dX10_list_38 : decode cX10_list 38 = .ok (.aload_n 0, 1) := by decide +kernel
theorem dX10_list_39 : decode cX10_list 39 = .ok (.getfield 57, 3) := by decide +kernel
theorem dX10_list_42 : decode cX10_list 42 = .ok (.iload 4, 2) := by decide +kernel
theorem dX10_list_44 : decode cX10_list 44 = .ok (.iaload, 1) := by decide +kernel
theorem dX10_list_45 : decode cX10_list 45 = .ok (.iconst 2, 1) := by decide +kernel
theorem dX10_list_46 : decode cX10_list 46 = .ok (.if_icmp .ne 13, 3) := by decide +kernel
theorem dX10_list_49 : decode cX10_list 49 = .ok (.aload_n 0, 1) := by decide +kernel
theorem dX10_list_50 : decode cX10_list 50 = .ok (.getfield 90, 3) := by decide +kernel
theorem dX10_list_53 : decode cX10_list 53 = .ok (.iload_n 2, 1) := by decide +kernel
theorem dX10_list_54 : decode cX10_list 54 = .ok (.iconst 1, 1) := by decide +kernel
theorem dX10_list_55 : decode cX10_list 55 = .ok (.bastore, 1) := by decide +kernel
theorem dX10_list_56 : decode cX10_list 56 = .ok (.goto (-37), 3) := by decide +kernel
theorem dX10_list_59 : decode cX10_list 59 = .ok (.aload_n 0, 1) := by decide +kernel
theorem dX10_list_60 : decode cX10_list 60 = .ok (.getfield 54, 3) := by decide +kernel
theorem dX10_list_63 : decode cX10_list 63 = .ok (.iload 4, 2) := by decide +kernel
theorem dX10_list_65 : decode cX10_list 65 = .ok (.iaload, 1) := by decide +kernel
theorem dX10_list_66 : decode cX10_list 66 = .ok (.aload_n 0, 1) := by decide +kernel
theorem dX10_list_67 : decode cX10_list 67 = .ok (.getfield 13, 3) := by decide +kernel
theorem dX10_list_70 : decode cX10_list 70 = .ok (.aload_n 0, 1) := by decide +kernel
theorem dX10_list_71 : decode cX10_list 71 = .ok (.getfield 48, 3) := by decide +kernel
theorem dX10_list_74 : decode cX10_list 74 = .ok (.iload 4, 2) := by decide +kernel
theorem dX10_list_76 : decode cX10_list 76 = .ok (.iaload, 1) := by decide +kernel
theorem dX10_list_77 : decode cX10_list 77 = .ok (.iaload, 1) := by decide +kernel
theorem dX10_list_78 : decode cX10_list 78 = .ok (.if_icmp .lt 21, 3) := by decide +kernel
theorem dX10_list_81 : decode cX10_list 81 = .ok (.aload_n 0, 1) := by decide +kernel
theorem dX10_list_82 : decode cX10_list 82 = .ok (.getfield 90, 3) := by decide +kernel
theorem dX10_list_85 : decode cX10_list 85 = .ok (.iload_n 2, 1) := by decide +kernel
theorem dX10_list_86 : decode cX10_list 86 = .ok (.iconst 1, 1) := by decide +kernel
theorem dX10_list_87 : decode cX10_list 87 = .ok (.bastore, 1) := by decide +kernel
theorem dX10_list_88 : decode cX10_list 88 = .ok (.aload_n 0, 1) := by decide +kernel
theorem dX10_list_89 : decode cX10_list 89 = .ok (.getfield 57, 3) := by decide +kernel
theorem dX10_list_92 : decode cX10_list 92 = .ok (.iload 4, 2) := by decide +kernel
theorem dX10_list_94 : decode cX10_list 94 = .ok (.iconst 2, 1) := by decide +kernel
theorem dX10_list_95 : decode cX10_list 95 = .ok (.iastore, 1) := by decide +kernel
theorem dX10_list_96 : decode cX10_list 96 = .ok (.goto (-77), 3) := by decide +kernel
theorem dX10_list_99 : decode cX10_list 99 = .ok (.aload_n 0, 1) := by decide +kernel
theorem dX10_list_100 : decode cX10_list 100 = .ok (.getfield 87, 3) := by decide +kernel
theorem dX10_list_103 : decode cX10_list 103 = .ok (.bipush 40, 2) := by decide +kernel
theorem dX10_list_105 : decode cX10_list 105 = .ok (.iload_n 2, 1) := by decide +kernel
theorem dX10_list_106 : decode cX10_list 106 = .ok (.imul, 1) := by decide +kernel
theorem dX10_list_107 : decode cX10_list 107 = .ok (.aload_n 0, 1) := by decide +kernel
theorem dX10_list_108 : decode cX10_list 108 = .ok (.getfield 84, 3) := by decide +kernel
theorem dX10_list_111 : decode cX10_list 111 = .ok (.iload_n 2, 1) := by decide +kernel
theorem dX10_list_112 : decode cX10_list 112 = .ok (.iaload, 1) := by decide +kernel
theorem dX10_list_113 : decode cX10_list 113 = .ok (.iadd, 1) := by decide +kernel
theorem dX10_list_114 : decode cX10_list 114 = .ok (.aload_n 0, 1) := by decide +kernel
theorem dX10_list_115 : decode cX10_list 115 = .ok (.getfield 17, 3) := by decide +kernel
theorem dX10_list_118 : decode cX10_list 118 = .ok (.bipush 40, 2) := by decide +kernel
theorem dX10_list_120 : decode cX10_list 120 = .ok (.aload_n 0, 1) := by decide +kernel
theorem dX10_list_121 : decode cX10_list 121 = .ok (.getfield 48, 3) := by decide +kernel
theorem dX10_list_124 : decode cX10_list 124 = .ok (.iload 4, 2) := by decide +kernel
theorem dX10_list_126 : decode cX10_list 126 = .ok (.iaload, 1) := by decide +kernel
theorem dX10_list_127 : decode cX10_list 127 = .ok (.imul, 1) := by decide +kernel
theorem dX10_list_128 : decode cX10_list 128 = .ok (.aload_n 0, 1) := by decide +kernel
theorem dX10_list_129 : decode cX10_list 129 = .ok (.getfield 54, 3) := by decide +kernel
theorem dX10_list_132 : decode cX10_list 132 = .ok (.iload 4, 2) := by decide +kernel
theorem dX10_list_134 : decode cX10_list 134 = .ok (.iaload, 1) := by decide +kernel
theorem dX10_list_135 : decode cX10_list 135 = .ok (.iadd, 1) := by decide +kernel
theorem dX10_list_136 : decode cX10_list 136 = .ok (.baload, 1) := by decide +kernel
theorem dX10_list_137 : decode cX10_list 137 = .ok (.bastore, 1) := by decide +kernel
theorem dX10_list_138 : decode cX10_list 138 = .ok (.aload_n 0, 1) := by decide +kernel
theorem dX10_list_139 : decode cX10_list 139 = .ok (.getfield 84, 3) := by decide +kernel
theorem dX10_list_142 : decode cX10_list 142 = .ok (.iload_n 2, 1) := by decide +kernel
theorem dX10_list_143 : decode cX10_list 143 = .ok (.dup2, 1) := by decide +kernel
theorem dX10_list_144 : decode cX10_list 144 = .ok (.iaload, 1) := by decide +kernel
theorem dX10_list_145 : decode cX10_list 145 = .ok (.iconst 1, 1) := by decide +kernel
theorem dX10_list_146 : decode cX10_list 146 = .ok (.iadd, 1) := by decide +kernel
theorem dX10_list_147 : decode cX10_list 147 = .ok (.iastore, 1) := by decide +kernel
theorem dX10_list_148 : decode cX10_list 148 = .ok (.aload_n 0, 1) := by decide +kernel
theorem dX10_list_149 : decode cX10_list 149 = .ok (.getfield 54, 3) := by decide +kernel
theorem dX10_list_152 : decode cX10_list 152 = .ok (.iload 4, 2) := by decide +kernel
theorem dX10_list_154 : decode cX10_list 154 = .ok (.dup2, 1) := by decide +kernel
theorem dX10_list_155 : decode cX10_list 155 = .ok (.iaload, 1) := by decide +kernel
theorem dX10_list_156 : decode cX10_list 156 = .ok (.iconst 1, 1) := by decide +kernel
theorem dX10_list_157 : decode cX10_list 157 = .ok (.iadd, 1) := by decide +kernel
theorem dX10_list_158 : decode cX10_list 158 = .ok (.iastore, 1) := by decide +kernel
theorem dX10_list_159 : decode cX10_list 159 = .ok (.aload_n 0, 1) := by decide +kernel
theorem dX10_list_160 : decode cX10_list 160 = .ok (.getfield 75, 3) := by decide +kernel
theorem dX10_list_163 : decode cX10_list 163 = .ok (.iload 4, 2) := by decide +kernel
theorem dX10_list_165 : decode cX10_list 165 = .ok (.dup2, 1) := by decide +kernel
theorem dX10_list_166 : decode cX10_list 166 = .ok (.iaload, 1) := by decide +kernel
theorem dX10_list_167 : decode cX10_list 167 = .ok (.iconst 1, 1) := by decide +kernel
theorem dX10_list_168 : decode cX10_list 168 = .ok (.iadd, 1) := by decide +kernel
theorem dX10_list_169 : decode cX10_list 169 = .ok (.iastore, 1) := by decide +kernel
theorem dX10_list_170 : decode cX10_list 170 = .ok (.aload_n 0, 1) := by decide +kernel
theorem dX10_list_171 : decode cX10_list 171 = .ok (.iload_n 1, 1) := by decide +kernel
theorem dX10_list_172 : decode cX10_list 172 = .ok (.invokevirtual 175, 3) := by decide +kernel
theorem dX10_list_175 : decode cX10_list 175 = .ok (.goto (-156), 3) := by decide +kernel
theorem dX10_list_178 : decode cX10_list 178 = .ok (.aload_n 0, 1) := by decide +kernel
theorem dX10_list_179 : decode cX10_list 179 = .ok (.iconst 0, 1) := by decide +kernel
theorem dX10_list_180 : decode cX10_list 180 = .ok (.aload_n 0, 1) := by decide +kernel
theorem dX10_list_181 : decode cX10_list 181 = .ok (.getfield 30, 3) := by decide +kernel
theorem dX10_list_184 : decode cX10_list 184 = .ok (.iload_n 1, 1) := by decide +kernel
theorem dX10_list_185 : decode cX10_list 185 = .ok (.iaload, 1) := by decide +kernel
theorem dX10_list_186 : decode cX10_list 186 = .ok (.bipush 9, 2) := by decide +kernel
theorem dX10_list_188 : decode cX10_list 188 = .ok (.if_icmp .ne 12, 3) := by decide +kernel
theorem dX10_list_191 : decode cX10_list 191 = .ok (.aload_n 0, 1) := by decide +kernel
theorem dX10_list_192 : decode cX10_list 192 = .ok (.getfield 84, 3) := by decide +kernel
theorem dX10_list_195 : decode cX10_list 195 = .ok (.iload_n 2, 1) := by decide +kernel
theorem dX10_list_196 : decode cX10_list 196 = .ok (.iaload, 1) := by decide +kernel
theorem dX10_list_197 : decode cX10_list 197 = .ok (.goto 32, 3) := by decide +kernel
theorem dX10_list_200 : decode cX10_list 200 = .ok (.iload_n 3, 1) := by decide +kernel
theorem dX10_list_201 : decode cX10_list 201 = .ok (.aload_n 0, 1) := by decide +kernel
theorem dX10_list_202 : decode cX10_list 202 = .ok (.getfield 84, 3) := by decide +kernel
theorem dX10_list_205 : decode cX10_list 205 = .ok (.iload_n 2, 1) := by decide +kernel
theorem dX10_list_206 : decode cX10_list 206 = .ok (.iaload, 1) := by decide +kernel
theorem dX10_list_207 : decode cX10_list 207 = .ok (.if_icmp .ge 21, 3) := by decide +kernel
theorem dX10_list_210 : decode cX10_list 210 = .ok (.aload_n 0, 1) := by decide +kernel
theorem dX10_list_211 : decode cX10_list 211 = .ok (.getfield 87, 3) := by decide +kernel
theorem dX10_list_214 : decode cX10_list 214 = .ok (.bipush 40, 2) := by decide +kernel
theorem dX10_list_216 : decode cX10_list 216 = .ok (.iload_n 2, 1) := by decide +kernel
theorem dX10_list_217 : decode cX10_list 217 = .ok (.imul, 1) := by decide +kernel
theorem dX10_list_218 : decode cX10_list 218 = .ok (.iload_n 3, 1) := by decide +kernel
theorem dX10_list_219 : decode cX10_list 219 = .ok (.iadd, 1) := by decide +kernel
theorem dX10_list_220 : decode cX10_list 220 = .ok (.baload, 1) := by decide +kernel
theorem dX10_list_221 : decode cX10_list 221 = .ok (.sipush 255, 3) := by decide +kernel
theorem dX10_list_224 : decode cX10_list 224 = .ok (.iand, 1) := by decide +kernel
theorem dX10_list_225 : decode cX10_list 225 = .ok (.goto 4, 3) := by decide +kernel
theorem dX10_list_228 : decode cX10_list 228 = .ok (.iconst (-1), 1) := by decide +kernel
theorem dX10_list_229 : decode cX10_list 229 = .ok (.invokevirtual 179, 3) := by decide +kernel
theorem dX10_list_232 : decode cX10_list 232 = .ok (.return_, 1) := by decide +kernel
theorem dX10_goEnds_0 : decode cX10_goEnds 0 = .ok (.iload_n 3, 1) := by decide +kernel
theorem dX10_goEnds_1 : decode cX10_goEnds 1 = .ok (.bipush 24, 2) := by decide +kernel
theorem dX10_goEnds_3 : decode cX10_goEnds 3 = .ok (.if_icmp .ne 17, 3) := by decide +kernel
theorem dX10_goEnds_6 : decode cX10_goEnds 6 = .ok (.aload_n 0, 1) := by decide +kernel
theorem dX10_goEnds_7 : decode cX10_goEnds 7 = .ok (.iload_n 2, 1) := by decide +kernel
theorem dX10_goEnds_8 : decode cX10_goEnds 8 = .ok (.aload_n 0, 1) := by decide +kernel
theorem dX10_goEnds_9 : decode cX10_goEnds 9 = .ok (.getfield 33, 3) := by decide +kernel
theorem dX10_goEnds_12 : decode cX10_goEnds 12 = .ok (.iload_n 2, 1) := by decide +kernel
theorem dX10_goEnds_13 : decode cX10_goEnds 13 = .ok (.iaload, 1) := by decide +kernel
theorem dX10_goEnds_14 : decode cX10_goEnds 14 = .ok (.invokevirtual 171, 3) := by decide +kernel
theorem dX10_goEnds_17 : decode cX10_goEnds 17 = .ok (.goto 175, 3) := by decide +kernel
theorem dX10_goEnds_20 : decode cX10_goEnds 20 = .ok (.iload 4, 2) := by decide +kernel
theorem dX10_goEnds_22 : decode cX10_goEnds 22 = .ok (.ifCond .ne 16, 3) := by decide +kernel
theorem dX10_goEnds_25 : decode cX10_goEnds 25 = .ok (.aload_n 0, 1) := by decide +kernel
theorem dX10_goEnds_26 : decode cX10_goEnds 26 = .ok (.aload_n 0, 1) := by decide +kernel
theorem dX10_goEnds_27 : decode cX10_goEnds 27 = .ok (.getfield 33, 3) := by decide +kernel
theorem dX10_goEnds_30 : decode cX10_goEnds 30 = .ok (.iload_n 2, 1) := by decide +kernel
theorem dX10_goEnds_31 : decode cX10_goEnds 31 = .ok (.iaload, 1) := by decide +kernel
theorem dX10_goEnds_32 : decode cX10_goEnds 32 = .ok (.invokevirtual 209, 3) := by decide +kernel
theorem dX10_goEnds_35 : decode cX10_goEnds 35 = .ok (.goto 157, 3) := by decide +kernel
theorem dX10_goEnds_38 : decode cX10_goEnds 38 = .ok (.iload_n 3, 1) := by decide +kernel
theorem dX10_goEnds_39 : decode cX10_goEnds 39 = .ok (.bipush 25, 2) := by decide +kernel
theorem dX10_goEnds_41 : decode cX10_goEnds 41 = .ok (.if_icmp .ne 43, 3) := by decide +kernel
theorem dX10_goEnds_44 : decode cX10_goEnds 44 = .ok (.aload_n 0, 1) := by decide +kernel
theorem dX10_goEnds_45 : decode cX10_goEnds 45 = .ok (.iload_n 2, 1) := by decide +kernel
theorem dX10_goEnds_46 : decode cX10_goEnds 46 = .ok (.iconst 0, 1) := by decide +kernel
theorem dX10_goEnds_47 : decode cX10_goEnds 47 = .ok (.invokevirtual 235, 3) := by decide +kernel
theorem dX10_goEnds_50 : decode cX10_goEnds 50 = .ok (.ifCond .eq 142, 3) := by decide +kernel
theorem dX10_goEnds_53 : decode cX10_goEnds 53 = .ok (.aload_n 0, 1) := by decide +kernel
theorem dX10_goEnds_54 : decode cX10_goEnds 54 = .ok (.iconst 2, 1) := by decide +kernel
theorem dX10_goEnds_55 : decode cX10_goEnds 55 = .ok (.putfield 191, 3) := by decide +kernel
theorem dX10_goEnds_58 : decode cX10_goEnds 58 = .ok (.aload_n 0, 1) := by decide +kernel
theorem dX10_goEnds_59 : decode cX10_goEnds 59 = .ok (.aload_n 0, 1) := by decide +kernel
theorem dX10_goEnds_60 : decode cX10_goEnds 60 = .ok (.getfield 185, 3) := by decide +kernel
theorem dX10_goEnds_63 : decode cX10_goEnds 63 = .ok (.putfield 194, 3) := by decide +kernel
theorem dX10_goEnds_66 : decode cX10_goEnds 66 = .ok (.aload_n 0, 1) := by decide +kernel
theorem dX10_goEnds_67 : decode cX10_goEnds 67 = .ok (.iconst (-1), 1) := by decide +kernel
theorem dX10_goEnds_68 : decode cX10_goEnds 68 = .ok (.putfield 197, 3) := by decide +kernel
theorem dX10_goEnds_71 : decode cX10_goEnds 71 = .ok (.aload_n 0, 1) := by decide +kernel
theorem dX10_goEnds_72 : decode cX10_goEnds 72 = .ok (.dup, 1) := by decide +kernel
theorem dX10_goEnds_73 : decode cX10_goEnds 73 = .ok (.getfield 188, 3) := by decide +kernel
theorem dX10_goEnds_76 : decode cX10_goEnds 76 = .ok (.iconst 1, 1) := by decide +kernel
theorem dX10_goEnds_77 : decode cX10_goEnds 77 = .ok (.isub, 1) := by decide +kernel
theorem dX10_goEnds_78 : decode cX10_goEnds 78 = .ok (.putfield 188, 3) := by decide +kernel
theorem dX10_goEnds_81 : decode cX10_goEnds 81 = .ok (.goto 111, 3) := by decide +kernel
theorem dX10_goEnds_84 : decode cX10_goEnds 84 = .ok (.iload_n 3, 1) := by decide +kernel
theorem dX10_goEnds_85 : decode cX10_goEnds 85 = .ok (.bipush 26, 2) := by decide +kernel
theorem dX10_goEnds_87 : decode cX10_goEnds 87 = .ok (.if_icmp .ne 16, 3) := by decide +kernel
theorem dX10_goEnds_90 : decode cX10_goEnds 90 = .ok (.aload_n 0, 1) := by decide +kernel
theorem dX10_goEnds_91 : decode cX10_goEnds 91 = .ok (.dup, 1) := by decide +kernel
theorem dX10_goEnds_92 : decode cX10_goEnds 92 = .ok (.getfield 188, 3) := by decide +kernel
theorem dX10_goEnds_95 : decode cX10_goEnds 95 = .ok (.iconst 1, 1) := by decide +kernel
theorem dX10_goEnds_96 : decode cX10_goEnds 96 = .ok (.isub, 1) := by decide +kernel
theorem dX10_goEnds_97 : decode cX10_goEnds 97 = .ok (.putfield 188, 3) := by decide +kernel
theorem dX10_goEnds_100 : decode cX10_goEnds 100 = .ok (.goto 92, 3) := by decide +kernel
theorem dX10_goEnds_103 : decode cX10_goEnds 103 = .ok (.iload_n 3, 1) := by decide +kernel
theorem dX10_goEnds_104 : decode cX10_goEnds 104 = .ok (.bipush 27, 2) := by decide +kernel
theorem dX10_goEnds_106 : decode cX10_goEnds 106 = .ok (.if_icmp .ne 19, 3) := by decide +kernel
theorem dX10_goEnds_109 : decode cX10_goEnds 109 = .ok (.aload_n 0, 1) := by decide +kernel
theorem dX10_goEnds_110 : decode cX10_goEnds 110 = .ok (.iload_n 1, 1) := by decide +kernel
theorem dX10_goEnds_111 : decode cX10_goEnds 111 = .ok (.aload_n 0, 1) := by decide +kernel
theorem dX10_goEnds_112 : decode cX10_goEnds 112 = .ok (.getfield 36, 3) := by decide +kernel
theorem dX10_goEnds_115 : decode cX10_goEnds 115 = .ok (.iload_n 2, 1) := by decide +kernel
theorem dX10_goEnds_116 : decode cX10_goEnds 116 = .ok (.iaload, 1) := by decide +kernel
theorem dX10_goEnds_117 : decode cX10_goEnds 117 = .ok (.iload 4, 2) := by decide +kernel
theorem dX10_goEnds_119 : decode cX10_goEnds 119 = .ok (.invokevirtual 272, 3) := by decide +kernel
theorem dX10_goEnds_122 : decode cX10_goEnds 122 = .ok (.goto 70, 3) := by decide +kernel
theorem dX10_goEnds_125 : decode cX10_goEnds 125 = .ok (.iload 4, 2) := by decide +kernel
theorem dX10_goEnds_127 : decode cX10_goEnds 127 = .ok (.iconst 1, 1) := by decide +kernel
theorem dX10_goEnds_128 : decode cX10_goEnds 128 = .ok (.if_icmp .ne 56, 3) := by decide +kernel
theorem dX10_goEnds_131 : decode cX10_goEnds 131 = .ok (.aload_n 0, 1) := by decide +kernel
theorem dX10_goEnds_132 : decode cX10_goEnds 132 = .ok (.getfield 106, 3) := by decide +kernel
theorem dX10_goEnds_135 : decode cX10_goEnds 135 = .ok (.iload_n 1, 1) := by decide +kernel
theorem dX10_goEnds_136 : decode cX10_goEnds 136 = .ok (.aload_n 0, 1) := by decide +kernel
theorem dX10_goEnds_137 : decode cX10_goEnds 137 = .ok (.getfield 185, 3) := by decide +kernel
theorem dX10_goEnds_140 : decode cX10_goEnds 140 = .ok (.iastore, 1) := by decide +kernel
theorem dX10_goEnds_141 : decode cX10_goEnds 141 = .ok (.aload_n 0, 1) := by decide +kernel
theorem dX10_goEnds_142 : decode cX10_goEnds 142 = .ok (.getfield 109, 3) := by decide +kernel
theorem dX10_goEnds_145 : decode cX10_goEnds 145 = .ok (.iload_n 1, 1) := by decide +kernel
theorem dX10_goEnds_146 : decode cX10_goEnds 146 = .ok (.aload_n 0, 1) := by decide +kernel
theorem dX10_goEnds_147 : decode cX10_goEnds 147 = .ok (.getfield 182, 3) := by decide +kernel
theorem dX10_goEnds_150 : decode cX10_goEnds 150 = .ok (.iastore, 1) := by decide +kernel
theorem dX10_goEnds_151 : decode cX10_goEnds 151 = .ok (.aload_n 0, 1) := by decide +kernel
theorem dX10_goEnds_152 : decode cX10_goEnds 152 = .ok (.getfield 45, 3) := by decide +kernel
theorem dX10_goEnds_155 : decode cX10_goEnds 155 = .ok (.iconst 5, 1) := by decide +kernel
theorem dX10_goEnds_156 : decode cX10_goEnds 156 = .ok (.aload_n 0, 1) := by decide +kernel
theorem dX10_goEnds_157 : decode cX10_goEnds 157 = .ok (.getfield 185, 3) := by decide +kernel
theorem dX10_goEnds_160 : decode cX10_goEnds 160 = .ok (.iastore, 1) := by decide +kernel
theorem dX10_goEnds_161 : decode cX10_goEnds 161 = .ok (.aload_n 0, 1) := by decide +kernel
theorem dX10_goEnds_162 : decode cX10_goEnds 162 = .ok (.getfield 42, 3) := by decide +kernel
theorem dX10_goEnds_165 : decode cX10_goEnds 165 = .ok (.iconst 5, 1) := by decide +kernel
theorem dX10_goEnds_166 : decode cX10_goEnds 166 = .ok (.aload_n 0, 1) := by decide +kernel
theorem dX10_goEnds_167 : decode cX10_goEnds 167 = .ok (.getfield 182, 3) := by decide +kernel
theorem dX10_goEnds_170 : decode cX10_goEnds 170 = .ok (.iastore, 1) := by decide +kernel
theorem dX10_goEnds_171 : decode cX10_goEnds 171 = .ok (.aload_n 0, 1) := by decide +kernel
theorem dX10_goEnds_172 : decode cX10_goEnds 172 = .ok (.aload_n 0, 1) := by decide +kernel
theorem dX10_goEnds_173 : decode cX10_goEnds 173 = .ok (.getfield 39, 3) := by decide +kernel
theorem dX10_goEnds_176 : decode cX10_goEnds 176 = .ok (.iload_n 2, 1) := by decide +kernel
theorem dX10_goEnds_177 : decode cX10_goEnds 177 = .ok (.iaload, 1) := by decide +kernel
theorem dX10_goEnds_178 : decode cX10_goEnds 178 = .ok (.invokevirtual 209, 3) := by decide +kernel
theorem dX10_goEnds_181 : decode cX10_goEnds 181 = .ok (.goto 11, 3) := by decide +kernel
theorem dX10_goEnds_184 : decode cX10_goEnds 184 = .ok (.aload_n 0, 1) := by decide +kernel
theorem dX10_goEnds_185 : decode cX10_goEnds 185 = .ok (.iload_n 1, 1) := by decide +kernel
theorem dX10_goEnds_186 : decode cX10_goEnds 186 = .ok (.iload_n 2, 1) := by decide +kernel
theorem dX10_goEnds_187 : decode cX10_goEnds 187 = .ok (.iload 4, 2) := by decide +kernel
theorem dX10_goEnds_189 : decode cX10_goEnds 189 = .ok (.invokevirtual 275, 3) := by decide +kernel
theorem dX10_goEnds_192 : decode cX10_goEnds 192 = .ok (.return_, 1) := by decide +kernel
theorem dX10_goFinally_0 : decode cX10_goFinally 0 = .ok (.iload_n 3, 1) := by decide +kernel
theorem dX10_goFinally_1 : decode cX10_goFinally 1 = .ok (.iconst 1, 1) := by decide +kernel
theorem dX10_goFinally_2 : decode cX10_goFinally 2 = .ok (.if_icmp .ne 31, 3) := by decide +kernel
theorem dX10_goFinally_5 : decode cX10_goFinally 5 = .ok (.aload_n 0, 1) := by decide +kernel
theorem dX10_goFinally_6 : decode cX10_goFinally 6 = .ok (.getfield 106, 3) := by decide +kernel
theorem dX10_goFinally_9 : decode cX10_goFinally 9 = .ok (.iload_n 1, 1) := by decide +kernel
theorem dX10_goFinally_10 : decode cX10_goFinally 10 = .ok (.aload_n 0, 1) := by decide +kernel
theorem dX10_goFinally_11 : decode cX10_goFinally 11 = .ok (.getfield 185, 3) := by decide +kernel
theorem dX10_goFinally_14 : decode cX10_goFinally 14 = .ok (.iastore, 1) := by decide +kernel
theorem dX10_goFinally_15 : decode cX10_goFinally 15 = .ok (.aload_n 0, 1) := by decide +kernel
theorem dX10_goFinally_16 : decode cX10_goFinally 16 = .ok (.getfield 109, 3) := by decide +kernel
theorem dX10_goFinally_19 : decode cX10_goFinally 19 = .ok (.iload_n 1, 1) := by decide +kernel
theorem dX10_goFinally_20 : decode cX10_goFinally 20 = .ok (.aload_n 0, 1) := by decide +kernel
theorem dX10_goFinally_21 : decode cX10_goFinally 21 = .ok (.getfield 182, 3) := by decide +kernel
theorem dX10_goFinally_24 : decode cX10_goFinally 24 = .ok (.iastore, 1) := by decide +kernel
theorem dX10_goFinally_25 : decode cX10_goFinally 25 = .ok (.aload_n 0, 1) := by decide +kernel
theorem dX10_goFinally_26 : decode cX10_goFinally 26 = .ok (.iload_n 2, 1) := by decide +kernel
theorem dX10_goFinally_27 : decode cX10_goFinally 27 = .ok (.invokevirtual 209, 3) := by decide +kernel
theorem dX10_goFinally_30 : decode cX10_goFinally 30 = .ok (.goto 20, 3) := by decide +kernel
theorem dX10_goFinally_33 : decode cX10_goFinally 33 = .ok (.aload_n 0, 1) := by decide +kernel
theorem dX10_goFinally_34 : decode cX10_goFinally 34 = .ok (.iload_n 1, 1) := by decide +kernel
theorem dX10_goFinally_35 : decode cX10_goFinally 35 = .ok (.aload_n 0, 1) := by decide +kernel
theorem dX10_goFinally_36 : decode cX10_goFinally 36 = .ok (.getfield 109, 3) := by decide +kernel
theorem dX10_goFinally_39 : decode cX10_goFinally 39 = .ok (.iload_n 1, 1) := by decide +kernel
theorem dX10_goFinally_40 : decode cX10_goFinally 40 = .ok (.iaload, 1) := by decide +kernel
theorem dX10_goFinally_41 : decode cX10_goFinally 41 = .ok (.aload_n 0, 1) := by decide +kernel
theorem dX10_goFinally_42 : decode cX10_goFinally 42 = .ok (.getfield 106, 3) := by decide +kernel
theorem dX10_goFinally_45 : decode cX10_goFinally 45 = .ok (.iload_n 1, 1) := by decide +kernel
theorem dX10_goFinally_46 : decode cX10_goFinally 46 = .ok (.iaload, 1) := by decide +kernel
theorem dX10_goFinally_47 : decode cX10_goFinally 47 = .ok (.invokevirtual 278, 3) := by decide +kernel
theorem dX10_goFinally_50 : decode cX10_goFinally 50 = .ok (.return_, 1) := by decide +kernel
theorem dX10_goOn_0 : decode cX10_goOn 0 = .ok (.aload_n 0, 1) := by decide +kernel
theorem dX10_goOn_1 : decode cX10_goOn 1 = .ok (.getfield 112, 3) := by decide +kernel
theorem dX10_goOn_4 : decode cX10_goOn 4 = .ok (.iload_n 1, 1) := by decide +kernel
theorem dX10_goOn_5 : decode cX10_goOn 5 = .ok (.iaload, 1) := by decide +kernel
theorem dX10_goOn_6 : decode cX10_goOn 6 = .ok (.ifCond .eq 46, 3) := by decide +kernel
theorem dX10_goOn_9 : decode cX10_goOn 9 = .ok (.aload_n 0, 1) := by decide +kernel
theorem dX10_goOn_10 : decode cX10_goOn 10 = .ok (.aload_n 0, 1) := by decide +kernel
theorem dX10_goOn_11 : decode cX10_goOn 11 = .ok (.getfield 112, 3) := by decide +kernel
theorem dX10_goOn_14 : decode cX10_goOn 14 = .ok (.iload_n 1, 1) := by decide +kernel
theorem dX10_goOn_15 : decode cX10_goOn 15 = .ok (.iaload, 1) := by decide +kernel
theorem dX10_goOn_16 : decode cX10_goOn 16 = .ok (.putfield 191, 3) := by decide +kernel
theorem dX10_goOn_19 : decode cX10_goOn 19 = .ok (.aload_n 0, 1) := by decide +kernel
theorem dX10_goOn_20 : decode cX10_goOn 20 = .ok (.aload_n 0, 1) := by decide +kernel
theorem dX10_goOn_21 : decode cX10_goOn 21 = .ok (.getfield 115, 3) := by decide +kernel
theorem dX10_goOn_24 : decode cX10_goOn 24 = .ok (.iload_n 1, 1) := by decide +kernel
theorem dX10_goOn_25 : decode cX10_goOn 25 = .ok (.iaload, 1) := by decide +kernel
theorem dX10_goOn_26 : decode cX10_goOn 26 = .ok (.putfield 194, 3) := by decide +kernel
theorem dX10_goOn_29 : decode cX10_goOn 29 = .ok (.aload_n 0, 1) := by decide +kernel
theorem dX10_goOn_30 : decode cX10_goOn 30 = .ok (.aload_n 0, 1) := by decide +kernel
theorem dX10_goOn_31 : decode cX10_goOn 31 = .ok (.getfield 118, 3) := by decide +kernel
theorem dX10_goOn_34 : decode cX10_goOn 34 = .ok (.iload_n 1, 1) := by decide +kernel
theorem dX10_goOn_35 : decode cX10_goOn 35 = .ok (.iaload, 1) := by decide +kernel
theorem dX10_goOn_36 : decode cX10_goOn 36 = .ok (.putfield 197, 3) := by decide +kernel
theorem dX10_goOn_39 : decode cX10_goOn 39 = .ok (.aload_n 0, 1) := by decide +kernel
theorem dX10_goOn_40 : decode cX10_goOn 40 = .ok (.dup, 1) := by decide +kernel
theorem dX10_goOn_41 : decode cX10_goOn 41 = .ok (.getfield 188, 3) := by decide +kernel
theorem dX10_goOn_44 : decode cX10_goOn 44 = .ok (.iconst 1, 1) := by decide +kernel
theorem dX10_goOn_45 : decode cX10_goOn 45 = .ok (.isub, 1) := by decide +kernel
theorem dX10_goOn_46 : decode cX10_goOn 46 = .ok (.putfield 188, 3) := by decide +kernel
theorem dX10_goOn_49 : decode cX10_goOn 49 = .ok (.goto 9, 3) := by decide +kernel
theorem dX10_goOn_52 : decode cX10_goOn 52 = .ok (.aload_n 0, 1) := by decide +kernel
theorem dX10_goOn_53 : decode cX10_goOn 53 = .ok (.iload_n 2, 1) := by decide +kernel
theorem dX10_goOn_54 : decode cX10_goOn 54 = .ok (.iload_n 3, 1) := by decide +kernel
theorem dX10_goOn_55 : decode cX10_goOn 55 = .ok (.invokevirtual 179, 3) := by decide +kernel
theorem dX10_goOn_58 : decode cX10_goOn 58 = .ok (.return_, 1) := by decide +kernel
theorem dX10_goBracket_0 : decode cX10_goBracket 0 = .ok (.iload_n 3, 1) := by decide +kernel
theorem dX10_goBracket_1 : decode cX10_goBracket 1 = .ok (.iconst 2, 1) := by decide +kernel
theorem dX10_goBracket_2 : decode cX10_goBracket 2 = .ok (.if_icmp .ne 60, 3) := by decide +kernel
theorem dX10_goBracket_5 : decode cX10_goBracket 5 = .ok (.aload_n 0, 1) := by decide +kernel
theorem dX10_goBracket_6 : decode cX10_goBracket 6 = .ok (.getfield 121, 3) := by decide +kernel
theorem dX10_goBracket_9 : decode cX10_goBracket 9 = .ok (.iload_n 1, 1) := by decide +kernel
theorem dX10_goBracket_10 : decode cX10_goBracket 10 = .ok (.aload_n 0, 1) := by decide +kernel
theorem dX10_goBracket_11 : decode cX10_goBracket 11 = .ok (.getfield 185, 3) := by decide +kernel
theorem dX10_goBracket_14 : decode cX10_goBracket 14 = .ok (.iastore, 1) := by decide +kernel
theorem dX10_goBracket_15 : decode cX10_goBracket 15 = .ok (.aload_n 0, 1) := by decide +kernel
theorem dX10_goBracket_16 : decode cX10_goBracket 16 = .ok (.getfield 124, 3) := by decide +kernel
theorem dX10_goBracket_19 : decode cX10_goBracket 19 = .ok (.iload_n 1, 1) := by decide +kernel
theorem dX10_goBracket_20 : decode cX10_goBracket 20 = .ok (.aload_n 0, 1) := by decide +kernel
theorem dX10_goBracket_21 : decode cX10_goBracket 21 = .ok (.getfield 182, 3) := by decide +kernel
theorem dX10_goBracket_24 : decode cX10_goBracket 24 = .ok (.iastore, 1) := by decide +kernel
theorem dX10_goBracket_25 : decode cX10_goBracket 25 = .ok (.aload_n 0, 1) := by decide +kernel
theorem dX10_goBracket_26 : decode cX10_goBracket 26 = .ok (.getfield 45, 3) := by decide +kernel
theorem dX10_goBracket_29 : decode cX10_goBracket 29 = .ok (.iconst 5, 1) := by decide +kernel
theorem dX10_goBracket_30 : decode cX10_goBracket 30 = .ok (.aload_n 0, 1) := by decide +kernel
theorem dX10_goBracket_31 : decode cX10_goBracket 31 = .ok (.getfield 106, 3) := by decide +kernel
theorem dX10_goBracket_34 : decode cX10_goBracket 34 = .ok (.iload_n 1, 1) := by decide +kernel
theorem dX10_goBracket_35 : decode cX10_goBracket 35 = .ok (.iaload, 1) := by decide +kernel
theorem dX10_goBracket_36 : decode cX10_goBracket 36 = .ok (.iastore, 1) := by decide +kernel
theorem dX10_goBracket_37 : decode cX10_goBracket 37 = .ok (.aload_n 0, 1) := by decide +kernel
theorem dX10_goBracket_38 : decode cX10_goBracket 38 = .ok (.getfield 42, 3) := by decide +kernel
theorem dX10_goBracket_41 : decode cX10_goBracket 41 = .ok (.iconst 5, 1) := by decide +kernel
theorem dX10_goBracket_42 : decode cX10_goBracket 42 = .ok (.aload_n 0, 1) := by decide +kernel
theorem dX10_goBracket_43 : decode cX10_goBracket 43 = .ok (.getfield 109, 3) := by decide +kernel
theorem dX10_goBracket_46 : decode cX10_goBracket 46 = .ok (.iload_n 1, 1) := by decide +kernel
theorem dX10_goBracket_47 : decode cX10_goBracket 47 = .ok (.iaload, 1) := by decide +kernel
theorem dX10_goBracket_48 : decode cX10_goBracket 48 = .ok (.iastore, 1) := by decide +kernel
theorem dX10_goBracket_49 : decode cX10_goBracket 49 = .ok (.aload_n 0, 1) := by decide +kernel
theorem dX10_goBracket_50 : decode cX10_goBracket 50 = .ok (.aload_n 0, 1) := by decide +kernel
theorem dX10_goBracket_51 : decode cX10_goBracket 51 = .ok (.getfield 36, 3) := by decide +kernel
theorem dX10_goBracket_54 : decode cX10_goBracket 54 = .ok (.iload_n 2, 1) := by decide +kernel
theorem dX10_goBracket_55 : decode cX10_goBracket 55 = .ok (.iaload, 1) := by decide +kernel
theorem dX10_goBracket_56 : decode cX10_goBracket 56 = .ok (.invokevirtual 209, 3) := by decide +kernel
theorem dX10_goBracket_59 : decode cX10_goBracket 59 = .ok (.goto 20, 3) := by decide +kernel
theorem dX10_goBracket_62 : decode cX10_goBracket 62 = .ok (.aload_n 0, 1) := by decide +kernel
theorem dX10_goBracket_63 : decode cX10_goBracket 63 = .ok (.iload_n 1, 1) := by decide +kernel
theorem dX10_goBracket_64 : decode cX10_goBracket 64 = .ok (.aload_n 0, 1) := by decide +kernel
theorem dX10_goBracket_65 : decode cX10_goBracket 65 = .ok (.getfield 124, 3) := by decide +kernel
theorem dX10_goBracket_68 : decode cX10_goBracket 68 = .ok (.iload_n 1, 1) := by decide +kernel
theorem dX10_goBracket_69 : decode cX10_goBracket 69 = .ok (.iaload, 1) := by decide +kernel
theorem dX10_goBracket_70 : decode cX10_goBracket 70 = .ok (.aload_n 0, 1) := by decide +kernel
theorem dX10_goBracket_71 : decode cX10_goBracket 71 = .ok (.getfield 121, 3) := by decide +kernel
theorem dX10_goBracket_74 : decode cX10_goBracket 74 = .ok (.iload_n 1, 1) := by decide +kernel
theorem dX10_goBracket_75 : decode cX10_goBracket 75 = .ok (.iaload, 1) := by decide +kernel
theorem dX10_goBracket_76 : decode cX10_goBracket 76 = .ok (.invokevirtual 278, 3) := by decide +kernel
theorem dX10_goBracket_79 : decode cX10_goBracket 79 = .ok (.return_, 1) := by decide +kernel
theorem dX10_unwind_0 : decode cX10_unwind 0 = .ok (.aload_n 0, 1) := by decide +kernel
theorem dX10_unwind_1 : decode cX10_unwind 1 = .ok (.getfield 100, 3) := by decide +kernel
theorem dX10_unwind_4 : decode cX10_unwind 4 = .ok (.iload_n 1, 1) := by decide +kernel
theorem dX10_unwind_5 : decode cX10_unwind 5 = .ok (.iaload, 1) := by decide +kernel
theorem dX10_unwind_6 : decode cX10_unwind 6 = .ok (.istore_n 2, 1) := by decide +kernel
theorem dX10_unwind_7 : decode cX10_unwind 7 = .ok (.aload_n 0, 1) := by decide +kernel
theorem dX10_unwind_8 : decode cX10_unwind 8 = .ok (.getfield 30, 3) := by decide +kernel
theorem dX10_unwind_11 : decode cX10_unwind 11 = .ok (.iload_n 2, 1) := by decide +kernel
theorem dX10_unwind_12 : decode cX10_unwind 12 = .ok (.iaload, 1) := by decide +kernel
theorem dX10_unwind_13 : decode cX10_unwind 13 = .ok (.istore_n 3, 1) := by decide +kernel
theorem dX10_unwind_14 : decode cX10_unwind 14 = .ok (.aload_n 0, 1) := by decide +kernel
theorem dX10_unwind_15 : decode cX10_unwind 15 = .ok (.getfield 103, 3) := by decide +kernel
theorem dX10_unwind_18 : decode cX10_unwind 18 = .ok (.iload_n 1, 1) := by decide +kernel
theorem dX10_unwind_19 : decode cX10_unwind 19 = .ok (.iaload, 1) := by decide +kernel
theorem dX10_unwind_20 : decode cX10_unwind 20 = .ok (.istore 4, 2) := by decide +kernel
theorem dX10_unwind_22 : decode cX10_unwind 22 = .ok (.iload_n 3, 1) := by decide +kernel
theorem dX10_unwind_23 : decode cX10_unwind 23 = .ok (.bipush 26, 2) := by decide +kernel
theorem dX10_unwind_25 : decode cX10_unwind 25 = .ok (.if_icmp .ne 74, 3) := by decide +kernel
theorem dX10_unwind_28 : decode cX10_unwind 28 = .ok (.iload 4, 2) := by decide +kernel
theorem dX10_unwind_30 : decode cX10_unwind 30 = .ok (.iconst 1, 1) := by decide +kernel
theorem dX10_unwind_31 : decode cX10_unwind 31 = .ok (.if_icmp .ne 68, 3) := by decide +kernel
theorem dX10_unwind_34 : decode cX10_unwind 34 = .ok (.aload_n 0, 1) := by decide +kernel
theorem dX10_unwind_35 : decode cX10_unwind 35 = .ok (.getfield 191, 3) := by decide +kernel
theorem dX10_unwind_38 : decode cX10_unwind 38 = .ok (.iconst 1, 1) := by decide +kernel
theorem dX10_unwind_39 : decode cX10_unwind 39 = .ok (.if_icmp .ne 60, 3) := by decide +kernel
theorem dX10_unwind_42 : decode cX10_unwind 42 = .ok (.aload_n 0, 1) := by decide +kernel
theorem dX10_unwind_43 : decode cX10_unwind 43 = .ok (.getfield 39, 3) := by decide +kernel
theorem dX10_unwind_46 : decode cX10_unwind 46 = .ok (.iload_n 2, 1) := by decide +kernel
theorem dX10_unwind_47 : decode cX10_unwind 47 = .ok (.iaload, 1) := by decide +kernel
theorem dX10_unwind_48 : decode cX10_unwind 48 = .ok (.aload_n 0, 1) := by decide +kernel
theorem dX10_unwind_49 : decode cX10_unwind 49 = .ok (.getfield 194, 3) := by decide +kernel
theorem dX10_unwind_52 : decode cX10_unwind 52 = .ok (.ishr, 1) := by decide +kernel
theorem dX10_unwind_53 : decode cX10_unwind 53 = .ok (.iconst 1, 1) := by decide +kernel
theorem dX10_unwind_54 : decode cX10_unwind 54 = .ok (.iand, 1) := by decide +kernel
theorem dX10_unwind_55 : decode cX10_unwind 55 = .ok (.iconst 1, 1) := by decide +kernel
theorem dX10_unwind_56 : decode cX10_unwind 56 = .ok (.if_icmp .ne 43, 3) := by decide +kernel
theorem dX10_unwind_59 : decode cX10_unwind 59 = .ok (.aload_n 0, 1) := by decide +kernel
theorem dX10_unwind_60 : decode cX10_unwind 60 = .ok (.getfield 42, 3) := by decide +kernel
theorem dX10_unwind_63 : decode cX10_unwind 63 = .ok (.iconst 0, 1) := by decide +kernel
theorem dX10_unwind_64 : decode cX10_unwind 64 = .ok (.iconst 0, 1) := by decide +kernel
theorem dX10_unwind_65 : decode cX10_unwind 65 = .ok (.iastore, 1) := by decide +kernel
theorem dX10_unwind_66 : decode cX10_unwind 66 = .ok (.aload_n 0, 1) := by decide +kernel
theorem dX10_unwind_67 : decode cX10_unwind 67 = .ok (.getfield 45, 3) := by decide +kernel
theorem dX10_unwind_70 : decode cX10_unwind 70 = .ok (.iconst 0, 1) := by decide +kernel
theorem dX10_unwind_71 : decode cX10_unwind 71 = .ok (.aload_n 0, 1) := by decide +kernel
theorem dX10_unwind_72 : decode cX10_unwind 72 = .ok (.getfield 194, 3) := by decide +kernel
theorem dX10_unwind_75 : decode cX10_unwind 75 = .ok (.iastore, 1) := by decide +kernel
theorem dX10_unwind_76 : decode cX10_unwind 76 = .ok (.aload_n 0, 1) := by decide +kernel
theorem dX10_unwind_77 : decode cX10_unwind 77 = .ok (.iconst 0, 1) := by decide +kernel
theorem dX10_unwind_78 : decode cX10_unwind 78 = .ok (.putfield 191, 3) := by decide +kernel
theorem dX10_unwind_81 : decode cX10_unwind 81 = .ok (.aload_n 0, 1) := by decide +kernel
theorem dX10_unwind_82 : decode cX10_unwind 82 = .ok (.getfield 103, 3) := by decide +kernel
theorem dX10_unwind_85 : decode cX10_unwind 85 = .ok (.iload_n 1, 1) := by decide +kernel
theorem dX10_unwind_86 : decode cX10_unwind 86 = .ok (.iconst 2, 1) := by decide +kernel
theorem dX10_unwind_87 : decode cX10_unwind 87 = .ok (.iastore, 1) := by decide +kernel
theorem dX10_unwind_88 : decode cX10_unwind 88 = .ok (.aload_n 0, 1) := by decide +kernel
theorem dX10_unwind_89 : decode cX10_unwind 89 = .ok (.aload_n 0, 1) := by decide +kernel
theorem dX10_unwind_90 : decode cX10_unwind 90 = .ok (.getfield 36, 3) := by decide +kernel
theorem dX10_unwind_93 : decode cX10_unwind 93 = .ok (.iload_n 2, 1) := by decide +kernel
theorem dX10_unwind_94 : decode cX10_unwind 94 = .ok (.iaload, 1) := by decide +kernel
theorem dX10_unwind_95 : decode cX10_unwind 95 = .ok (.invokevirtual 209, 3) := by decide +kernel
theorem dX10_unwind_98 : decode cX10_unwind 98 = .ok (.return_, 1) := by decide +kernel
theorem dX10_unwind_99 : decode cX10_unwind 99 = .ok (.iload_n 3, 1) := by decide +kernel
theorem dX10_unwind_100 : decode cX10_unwind 100 = .ok (.bipush 27, 2) := by decide +kernel
theorem dX10_unwind_102 : decode cX10_unwind 102 = .ok (.if_icmp .ne 9, 3) := by decide +kernel
theorem dX10_unwind_105 : decode cX10_unwind 105 = .ok (.iload 4, 2) := by decide +kernel
theorem dX10_unwind_107 : decode cX10_unwind 107 = .ok (.iconst 1, 1) := by decide +kernel
theorem dX10_unwind_108 : decode cX10_unwind 108 = .ok (.if_icmp .eq 15, 3) := by decide +kernel
theorem dX10_unwind_111 : decode cX10_unwind 111 = .ok (.iload_n 3, 1) := by decide +kernel
theorem dX10_unwind_112 : decode cX10_unwind 112 = .ok (.bipush 28, 2) := by decide +kernel
theorem dX10_unwind_114 : decode cX10_unwind 114 = .ok (.if_icmp .ne 13, 3) := by decide +kernel
theorem dX10_unwind_117 : decode cX10_unwind 117 = .ok (.iload 4, 2) := by decide +kernel
theorem dX10_unwind_119 : decode cX10_unwind 119 = .ok (.iconst 2, 1) := by decide +kernel
theorem dX10_unwind_120 : decode cX10_unwind 120 = .ok (.if_icmp .ne 7, 3) := by decide +kernel
theorem dX10_unwind_123 : decode cX10_unwind 123 = .ok (.iconst 1, 1) := by decide +kernel
theorem dX10_unwind_124 : decode cX10_unwind 124 = .ok (.goto 4, 3) := by decide +kernel
theorem dX10_unwind_127 : decode cX10_unwind 127 = .ok (.iconst 0, 1) := by decide +kernel
theorem dX10_unwind_128 : decode cX10_unwind 128 = .ok (.istore 5, 2) := by decide +kernel
theorem dX10_unwind_130 : decode cX10_unwind 130 = .ok (.iload 5, 2) := by decide +kernel
theorem dX10_unwind_132 : decode cX10_unwind 132 = .ok (.ifCond .ne 14, 3) := by decide +kernel
theorem dX10_unwind_135 : decode cX10_unwind 135 = .ok (.aload_n 0, 1) := by decide +kernel
theorem dX10_unwind_136 : decode cX10_unwind 136 = .ok (.dup, 1) := by decide +kernel
theorem dX10_unwind_137 : decode cX10_unwind 137 = .ok (.getfield 188, 3) := by decide +kernel
theorem dX10_unwind_140 : decode cX10_unwind 140 = .ok (.iconst 1, 1) := by decide +kernel
theorem dX10_unwind_141 : decode cX10_unwind 141 = .ok (.isub, 1) := by decide +kernel
theorem dX10_unwind_142 : decode cX10_unwind 142 = .ok (.putfield 188, 3) := by decide +kernel
theorem dX10_unwind_145 : decode cX10_unwind 145 = .ok (.return_, 1) := by decide +kernel
theorem dX10_unwind_146 : decode cX10_unwind 146 = .ok (.aload_n 0, 1) := by decide +kernel
theorem dX10_unwind_147 : decode cX10_unwind 147 = .ok (.getfield 112, 3) := by decide +kernel
theorem dX10_unwind_150 : decode cX10_unwind 150 = .ok (.iload_n 1, 1) := by decide +kernel
theorem dX10_unwind_151 : decode cX10_unwind 151 = .ok (.aload_n 0, 1) := by decide +kernel
theorem dX10_unwind_152 : decode cX10_unwind 152 = .ok (.getfield 191, 3) := by decide +kernel
theorem dX10_unwind_155 : decode cX10_unwind 155 = .ok (.iastore, 1) := by decide +kernel
theorem dX10_unwind_156 : decode cX10_unwind 156 = .ok (.aload_n 0, 1) := by decide +kernel
theorem dX10_unwind_157 : decode cX10_unwind 157 = .ok (.getfield 115, 3) := by decide +kernel
theorem dX10_unwind_160 : decode cX10_unwind 160 = .ok (.iload_n 1, 1) := by decide +kernel
theorem dX10_unwind_161 : decode cX10_unwind 161 = .ok (.aload_n 0, 1) := by decide +kernel
theorem dX10_unwind_162 : decode cX10_unwind 162 = .ok (.getfield 194, 3) := by decide +kernel
theorem dX10_unwind_165 : decode cX10_unwind 165 = .ok (.iastore, 1) := by decide +kernel
theorem dX10_unwind_166 : decode cX10_unwind 166 = .ok (.aload_n 0, 1) := by decide +kernel
theorem dX10_unwind_167 : decode cX10_unwind 167 = .ok (.getfield 118, 3) := by decide +kernel
theorem dX10_unwind_170 : decode cX10_unwind 170 = .ok (.iload_n 1, 1) := by decide +kernel
theorem dX10_unwind_171 : decode cX10_unwind 171 = .ok (.aload_n 0, 1) := by decide +kernel
theorem dX10_unwind_172 : decode cX10_unwind 172 = .ok (.getfield 197, 3) := by decide +kernel
theorem dX10_unwind_175 : decode cX10_unwind 175 = .ok (.iastore, 1) := by decide +kernel
theorem dX10_unwind_176 : decode cX10_unwind 176 = .ok (.aload_n 0, 1) := by decide +kernel
theorem dX10_unwind_177 : decode cX10_unwind 177 = .ok (.iconst 0, 1) := by decide +kernel
theorem dX10_unwind_178 : decode cX10_unwind 178 = .ok (.putfield 191, 3) := by decide +kernel
theorem dX10_unwind_181 : decode cX10_unwind 181 = .ok (.aload_n 0, 1) := by decide +kernel
theorem dX10_unwind_182 : decode cX10_unwind 182 = .ok (.getfield 103, 3) := by decide +kernel
theorem dX10_unwind_185 : decode cX10_unwind 185 = .ok (.iload_n 1, 1) := by decide +kernel
theorem dX10_unwind_186 : decode cX10_unwind 186 = .ok (.iload 4, 2) := by decide +kernel
theorem dX10_unwind_188 : decode cX10_unwind 188 = .ok (.iconst 1, 1) := by decide +kernel
theorem dX10_unwind_189 : decode cX10_unwind 189 = .ok (.iadd, 1) := by decide +kernel
theorem dX10_unwind_190 : decode cX10_unwind 190 = .ok (.iastore, 1) := by decide +kernel
theorem dX10_unwind_191 : decode cX10_unwind 191 = .ok (.iload_n 3, 1) := by decide +kernel
theorem dX10_unwind_192 : decode cX10_unwind 192 = .ok (.bipush 28, 2) := by decide +kernel
theorem dX10_unwind_194 : decode cX10_unwind 194 = .ok (.if_icmp .ne 27, 3) := by decide +kernel
theorem dX10_unwind_197 : decode cX10_unwind 197 = .ok (.aload_n 0, 1) := by decide +kernel
theorem dX10_unwind_198 : decode cX10_unwind 198 = .ok (.getfield 45, 3) := by decide +kernel
theorem dX10_unwind_201 : decode cX10_unwind 201 = .ok (.iconst 5, 1) := by decide +kernel
theorem dX10_unwind_202 : decode cX10_unwind 202 = .ok (.aload_n 0, 1) := by decide +kernel
theorem dX10_unwind_203 : decode cX10_unwind 203 = .ok (.getfield 106, 3) := by decide +kernel
theorem dX10_unwind_206 : decode cX10_unwind 206 = .ok (.iload_n 1, 1) := by decide +kernel
theorem dX10_unwind_207 : decode cX10_unwind 207 = .ok (.iaload, 1) := by decide +kernel
theorem dX10_unwind_208 : decode cX10_unwind 208 = .ok (.iastore, 1) := by decide +kernel
theorem dX10_unwind_209 : decode cX10_unwind 209 = .ok (.aload_n 0, 1) := by decide +kernel
theorem dX10_unwind_210 : decode cX10_unwind 210 = .ok (.getfield 42, 3) := by decide +kernel
theorem dX10_unwind_213 : decode cX10_unwind 213 = .ok (.iconst 5, 1) := by decide +kernel
theorem dX10_unwind_214 : decode cX10_unwind 214 = .ok (.aload_n 0, 1) := by decide +kernel
theorem dX10_unwind_215 : decode cX10_unwind 215 = .ok (.getfield 109, 3) := by decide +kernel
theorem dX10_unwind_218 : decode cX10_unwind 218 = .ok (.iload_n 1, 1) := by decide +kernel
theorem dX10_unwind_219 : decode cX10_unwind 219 = .ok (.iaload, 1) := by decide +kernel
theorem dX10_unwind_220 : decode cX10_unwind 220 = .ok (.iastore, 1) := by decide +kernel
theorem dX10_unwind_221 : decode cX10_unwind 221 = .ok (.aload_n 0, 1) := by decide +kernel
theorem dX10_unwind_222 : decode cX10_unwind 222 = .ok (.aload_n 0, 1) := by decide +kernel
theorem dX10_unwind_223 : decode cX10_unwind 223 = .ok (.getfield 36, 3) := by decide +kernel
theorem dX10_unwind_226 : decode cX10_unwind 226 = .ok (.iload_n 2, 1) := by decide +kernel
theorem dX10_unwind_227 : decode cX10_unwind 227 = .ok (.iaload, 1) := by decide +kernel
theorem dX10_unwind_228 : decode cX10_unwind 228 = .ok (.invokevirtual 209, 3) := by decide +kernel
theorem dX10_unwind_231 : decode cX10_unwind 231 = .ok (.return_, 1) := by decide +kernel
theorem dX10_run_0 : decode cX10_run 0 = .ok (.aload_n 0, 1) := by decide +kernel
theorem dX10_run_1 : decode cX10_run 1 = .ok (.iload_n 1, 1) := by decide +kernel
theorem dX10_run_2 : decode cX10_run 2 = .ok (.invokevirtual 144, 3) := by decide +kernel
theorem dX10_run_5 : decode cX10_run 5 = .ok (.ifCond .ne 6, 3) := by decide +kernel
theorem dX10_run_8 : decode cX10_run 8 = .ok (.bipush (-2), 2) := by decide +kernel
theorem dX10_run_10 : decode cX10_run 10 = .ok (.ireturn, 1) := by decide +kernel
theorem dX10_run_11 : decode cX10_run 11 = .ok (.iconst 0, 1) := by decide +kernel
theorem dX10_run_12 : decode cX10_run 12 = .ok (.istore_n 2, 1) := by decide +kernel
theorem dX10_run_13 : decode cX10_run 13 = .ok (.iload_n 2, 1) := by decide +kernel
theorem dX10_run_14 : decode cX10_run 14 = .ok (.bipush 6, 2) := by decide +kernel
theorem dX10_run_16 : decode cX10_run 16 = .ok (.if_icmp .ge 23, 3) := by decide +kernel
theorem dX10_run_19 : decode cX10_run 19 = .ok (.aload_n 0, 1) := by decide +kernel
theorem dX10_run_20 : decode cX10_run 20 = .ok (.getfield 45, 3) := by decide +kernel
theorem dX10_run_23 : decode cX10_run 23 = .ok (.iload_n 2, 1) := by decide +kernel
theorem dX10_run_24 : decode cX10_run 24 = .ok (.iconst 0, 1) := by decide +kernel
theorem dX10_run_25 : decode cX10_run 25 = .ok (.iastore, 1) := by decide +kernel
theorem dX10_run_26 : decode cX10_run 26 = .ok (.aload_n 0, 1) := by decide +kernel
theorem dX10_run_27 : decode cX10_run 27 = .ok (.getfield 42, 3) := by decide +kernel
theorem dX10_run_30 : decode cX10_run 30 = .ok (.iload_n 2, 1) := by decide +kernel
theorem dX10_run_31 : decode cX10_run 31 = .ok (.iconst 0, 1) := by decide +kernel
theorem dX10_run_32 : decode cX10_run 32 = .ok (.iastore, 1) := by decide +kernel
theorem dX10_run_33 : decode cX10_run 33 = .ok (.iinc 2 1, 3) := by decide +kernel
theorem dX10_run_36 : decode cX10_run 36 = .ok (.goto (-23), 3) := by decide +kernel
theorem dX10_run_39 : decode cX10_run 39 = .ok (.aload_n 0, 1) := by decide +kernel
theorem dX10_run_40 : decode cX10_run 40 = .ok (.iconst 0, 1) := by decide +kernel
theorem dX10_run_41 : decode cX10_run 41 = .ok (.putfield 155, 3) := by decide +kernel
theorem dX10_run_44 : decode cX10_run 44 = .ok (.aload_n 0, 1) := by decide +kernel
theorem dX10_run_45 : decode cX10_run 45 = .ok (.iconst 0, 1) := by decide +kernel
theorem dX10_run_46 : decode cX10_run 46 = .ok (.putfield 269, 3) := by decide +kernel
theorem dX10_run_49 : decode cX10_run 49 = .ok (.aload_n 0, 1) := by decide +kernel
theorem dX10_run_50 : decode cX10_run 50 = .ok (.iconst 0, 1) := by decide +kernel
theorem dX10_run_51 : decode cX10_run 51 = .ok (.putfield 158, 3) := by decide +kernel
theorem dX10_run_54 : decode cX10_run 54 = .ok (.aload_n 0, 1) := by decide +kernel
theorem dX10_run_55 : decode cX10_run 55 = .ok (.iconst 0, 1) := by decide +kernel
theorem dX10_run_56 : decode cX10_run 56 = .ok (.putfield 200, 3) := by decide +kernel
theorem dX10_run_59 : decode cX10_run 59 = .ok (.aload_n 0, 1) := by decide +kernel
theorem dX10_run_60 : decode cX10_run 60 = .ok (.iconst 0, 1) := by decide +kernel
theorem dX10_run_61 : decode cX10_run 61 = .ok (.putfield 191, 3) := by decide +kernel
theorem dX10_run_64 : decode cX10_run 64 = .ok (.aload_n 0, 1) := by decide +kernel
theorem dX10_run_65 : decode cX10_run 65 = .ok (.iconst 0, 1) := by decide +kernel
theorem dX10_run_66 : decode cX10_run 66 = .ok (.putfield 188, 3) := by decide +kernel
theorem dX10_run_69 : decode cX10_run 69 = .ok (.aload_n 0, 1) := by decide +kernel
theorem dX10_run_70 : decode cX10_run 70 = .ok (.iload_n 1, 1) := by decide +kernel
theorem dX10_run_71 : decode cX10_run 71 = .ok (.invokevirtual 209, 3) := by decide +kernel
theorem dX10_run_74 : decode cX10_run 74 = .ok (.aload_n 0, 1) := by decide +kernel
theorem dX10_run_75 : decode cX10_run 75 = .ok (.invokevirtual 281, 3) := by decide +kernel
theorem dX10_run_78 : decode cX10_run 78 = .ok (.aload_n 0, 1) := by decide +kernel
theorem dX10_run_79 : decode cX10_run 79 = .ok (.aload_n 0, 1) := by decide +kernel
theorem dX10_run_80 : decode cX10_run 80 = .ok (.getfield 191, 3) := by decide +kernel
theorem dX10_run_83 : decode cX10_run 83 = .ok (.iconst 1, 1) := by decide +kernel
theorem dX10_run_84 : decode cX10_run 84 = .ok (.if_icmp .ne 10, 3) := by decide +kernel
theorem dX10_run_87 : decode cX10_run 87 = .ok (.aload_n 0, 1) := by decide +kernel
theorem dX10_run_88 : decode cX10_run 88 = .ok (.getfield 197, 3) := by decide +kernel
theorem dX10_run_91 : decode cX10_run 91 = .ok (.goto 4, 3) := by decide +kernel
theorem dX10_run_94 : decode cX10_run 94 = .ok (.iconst (-1), 1) := by decide +kernel
theorem dX10_run_95 : decode cX10_run 95 = .ok (.putfield 96, 3) := by decide +kernel
theorem dX10_run_98 : decode cX10_run 98 = .ok (.aload_n 0, 1) := by decide +kernel
theorem dX10_run_99 : decode cX10_run 99 = .ok (.aload_n 0, 1) := by decide +kernel
theorem dX10_run_100 : decode cX10_run 100 = .ok (.getfield 191, 3) := by decide +kernel
theorem dX10_run_103 : decode cX10_run 103 = .ok (.ifCond .ne 10, 3) := by decide +kernel
theorem dX10_run_106 : decode cX10_run 106 = .ok (.aload_n 0, 1) := by decide +kernel
theorem dX10_run_107 : decode cX10_run 107 = .ok (.getfield 185, 3) := by decide +kernel
theorem dX10_run_110 : decode cX10_run 110 = .ok (.goto 19, 3) := by decide +kernel
theorem dX10_run_113 : decode cX10_run 113 = .ok (.aload_n 0, 1) := by decide +kernel
theorem dX10_run_114 : decode cX10_run 114 = .ok (.getfield 191, 3) := by decide +kernel
theorem dX10_run_117 : decode cX10_run 117 = .ok (.iconst 3, 1) := by decide +kernel
theorem dX10_run_118 : decode cX10_run 118 = .ok (.if_icmp .ne 7, 3) := by decide +kernel
theorem dX10_run_121 : decode cX10_run 121 = .ok (.iconst 0, 1) := by decide +kernel
theorem dX10_run_122 : decode cX10_run 122 = .ok (.goto 7, 3) := by decide +kernel
theorem dX10_run_125 : decode cX10_run 125 = .ok (.aload_n 0, 1) := by decide +kernel
theorem dX10_run_126 : decode cX10_run 126 = .ok (.getfield 194, 3) := by decide +kernel
theorem dX10_run_129 : decode cX10_run 129 = .ok (.putfield 284, 3) := by decide +kernel
theorem dX10_run_132 : decode cX10_run 132 = .ok (.aload_n 0, 1) := by decide +kernel
theorem dX10_run_133 : decode cX10_run 133 = .ok (.getfield 191, 3) := by decide +kernel
theorem dX10_run_136 : decode cX10_run 136 = .ok (.ifCond .ne 10, 3) := by decide +kernel
theorem dX10_run_139 : decode cX10_run 139 = .ok (.aload_n 0, 1) := by decide +kernel
theorem dX10_run_140 : decode cX10_run 140 = .ok (.getfield 182, 3) := by decide +kernel
theorem dX10_run_143 : decode cX10_run 143 = .ok (.goto 28, 3) := by decide +kernel
theorem dX10_run_146 : decode cX10_run 146 = .ok (.aload_n 0, 1) := by decide +kernel
theorem dX10_run_147 : decode cX10_run 147 = .ok (.getfield 191, 3) := by decide +kernel
theorem dX10_run_150 : decode cX10_run 150 = .ok (.iconst 1, 1) := by decide +kernel
theorem dX10_run_151 : decode cX10_run 151 = .ok (.if_icmp .ne 7, 3) := by decide +kernel
theorem dX10_run_154 : decode cX10_run 154 = .ok (.iconst 3, 1) := by decide +kernel
theorem dX10_run_155 : decode cX10_run 155 = .ok (.goto 16, 3) := by decide +kernel
theorem dX10_run_158 : decode cX10_run 158 = .ok (.aload_n 0, 1) := by decide +kernel
theorem dX10_run_159 : decode cX10_run 159 = .ok (.getfield 191, 3) := by decide +kernel
theorem dX10_run_162 : decode cX10_run 162 = .ok (.iconst 2, 1) := by decide +kernel
theorem dX10_run_163 : decode cX10_run 163 = .ok (.if_icmp .ne 7, 3) := by decide +kernel
theorem dX10_run_166 : decode cX10_run 166 = .ok (.iconst 4, 1) := by decide +kernel
theorem dX10_run_167 : decode cX10_run 167 = .ok (.goto 4, 3) := by decide +kernel
theorem dX10_run_170 : decode cX10_run 170 = .ok (.iconst 5, 1) := by decide +kernel
theorem dX10_run_171 : decode cX10_run 171 = .ok (.istore_n 2, 1) := by decide +kernel
theorem dX10_run_172 : decode cX10_run 172 = .ok (.iconst 0, 1) := by decide +kernel
theorem dX10_run_173 : decode cX10_run 173 = .ok (.istore_n 3, 1) := by decide +kernel
theorem dX10_run_174 : decode cX10_run 174 = .ok (.iload_n 3, 1) := by decide +kernel
theorem dX10_run_175 : decode cX10_run 175 = .ok (.aload_n 0, 1) := by decide +kernel
theorem dX10_run_176 : decode cX10_run 176 = .ok (.getfield 155, 3) := by decide +kernel
theorem dX10_run_179 : decode cX10_run 179 = .ok (.if_icmp .ge 21, 3) := by decide +kernel
theorem dX10_run_182 : decode cX10_run 182 = .ok (.aload_n 0, 1) := by decide +kernel
theorem dX10_run_183 : decode cX10_run 183 = .ok (.getfield 60, 3) := by decide +kernel
theorem dX10_run_186 : decode cX10_run 186 = .ok (.iload_n 3, 1) := by decide +kernel
theorem dX10_run_187 : decode cX10_run 187 = .ok (.aload_n 0, 1) := by decide +kernel
theorem dX10_run_188 : decode cX10_run 188 = .ok (.getfield 57, 3) := by decide +kernel
theorem dX10_run_191 : decode cX10_run 191 = .ok (.iload_n 3, 1) := by decide +kernel
theorem dX10_run_192 : decode cX10_run 192 = .ok (.iaload, 1) := by decide +kernel
theorem dX10_run_193 : decode cX10_run 193 = .ok (.iastore, 1) := by decide +kernel
theorem dX10_run_194 : decode cX10_run 194 = .ok (.iinc 3 1, 3) := by decide +kernel
theorem dX10_run_197 : decode cX10_run 197 = .ok (.goto (-23), 3) := by decide +kernel
theorem dX10_run_200 : decode cX10_run 200 = .ok (.iconst 0, 1) := by decide +kernel
theorem dX10_run_201 : decode cX10_run 201 = .ok (.istore_n 3, 1) := by decide +kernel
theorem dX10_run_202 : decode cX10_run 202 = .ok (.iload_n 3, 1) := by decide +kernel
theorem dX10_run_203 : decode cX10_run 203 = .ok (.aload_n 0, 1) := by decide +kernel
theorem dX10_run_204 : decode cX10_run 204 = .ok (.getfield 155, 3) := by decide +kernel
theorem dX10_run_207 : decode cX10_run 207 = .ok (.if_icmp .ge 40, 3) := by decide +kernel
theorem dX10_run_210 : decode cX10_run 210 = .ok (.aload_n 0, 1) := by decide +kernel
theorem dX10_run_211 : decode cX10_run 211 = .ok (.getfield 57, 3) := by decide +kernel
theorem dX10_run_214 : decode cX10_run 214 = .ok (.iload_n 3, 1) := by decide +kernel
theorem dX10_run_215 : decode cX10_run 215 = .ok (.iaload, 1) := by decide +kernel
theorem dX10_run_216 : decode cX10_run 216 = .ok (.ifCond .ne 11, 3) := by decide +kernel
theorem dX10_run_219 : decode cX10_run 219 = .ok (.aload_n 0, 1) := by decide +kernel
theorem dX10_run_220 : decode cX10_run 220 = .ok (.iload_n 3, 1) := by decide +kernel
theorem dX10_run_221 : decode cX10_run 221 = .ok (.invokevirtual 263, 3) := by decide +kernel
theorem dX10_run_224 : decode cX10_run 224 = .ok (.ifCond .eq 7, 3) := by decide +kernel
theorem dX10_run_227 : decode cX10_run 227 = .ok (.iconst 1, 1) := by decide +kernel
theorem dX10_run_228 : decode cX10_run 228 = .ok (.goto 4, 3) := by decide +kernel
theorem dX10_run_231 : decode cX10_run 231 = .ok (.iconst 0, 1) := by decide +kernel
theorem dX10_run_232 : decode cX10_run 232 = .ok (.istore 4, 2) := by decide +kernel
theorem dX10_run_234 : decode cX10_run 234 = .ok (.aload_n 0, 1) := by decide +kernel
theorem dX10_run_235 : decode cX10_run 235 = .ok (.getfield 57, 3) := by decide +kernel
theorem dX10_run_238 : decode cX10_run 238 = .ok (.iload_n 3, 1) := by decide +kernel
theorem dX10_run_239 : decode cX10_run 239 = .ok (.iconst 2, 1) := by decide +kernel
theorem dX10_run_240 : decode cX10_run 240 = .ok (.iastore, 1) := by decide +kernel
theorem dX10_run_241 : decode cX10_run 241 = .ok (.iinc 3 1, 3) := by decide +kernel
theorem dX10_run_244 : decode cX10_run 244 = .ok (.goto (-42), 3) := by decide +kernel
theorem dX10_run_247 : decode cX10_run 247 = .ok (.iload_n 2, 1) := by decide +kernel
theorem dX10_run_248 : decode cX10_run 248 = .ok (.ireturn, 1) := by decide +kernel
theorem dX10_value_0 : decode cX10_value 0 = .ok (.aload_n 0, 1) := by decide +kernel
theorem dX10_value_1 : decode cX10_value 1 = .ok (.getfield 284, 3) := by decide +kernel
theorem dX10_value_4 : decode cX10_value 4 = .ok (.ireturn, 1) := by decide +kernel
theorem dX10_where_0 : decode cX10_where 0 = .ok (.aload_n 0, 1) := by decide +kernel
theorem dX10_where_1 : decode cX10_where 1 = .ok (.getfield 96, 3) := by decide +kernel
theorem dX10_where_4 : decode cX10_where 4 = .ok (.ireturn, 1) := by decide +kernel
theorem dX10_worked_0 : decode cX10_worked 0 = .ok (.aload_n 0, 1) := by decide +kernel
theorem dX10_worked_1 : decode cX10_worked 1 = .ok (.getfield 200, 3) := by decide +kernel
theorem dX10_worked_4 : decode cX10_worked 4 = .ok (.ireturn, 1) := by decide +kernel
theorem dX10_order_0 : decode cX10_order 0 = .ok (.iload_n 1, 1) := by decide +kernel
theorem dX10_order_1 : decode cX10_order 1 = .ok (.iconst 0, 1) := by decide +kernel
theorem dX10_order_2 : decode cX10_order 2 = .ok (.aload_n 0, 1) := by decide +kernel
theorem dX10_order_3 : decode cX10_order 3 = .ok (.getfield 158, 3) := by decide +kernel
theorem dX10_order_6 : decode cX10_order 6 = .ok (.sipush 300, 3) := by decide +kernel
theorem dX10_order_9 : decode cX10_order 9 = .ok (.if_icmp .ge 10, 3) := by decide +kernel
theorem dX10_order_12 : decode cX10_order 12 = .ok (.aload_n 0, 1) := by decide +kernel
theorem dX10_order_13 : decode cX10_order 13 = .ok (.getfield 158, 3) := by decide +kernel
theorem dX10_order_16 : decode cX10_order 16 = .ok (.goto 6, 3) := by decide +kernel
theorem dX10_order_19 : decode cX10_order 19 = .ok (.sipush 300, 3) := by decide +kernel
theorem dX10_order_22 : decode cX10_order 22 = .ok (.iconst 1, 1) := by decide +kernel
theorem dX10_order_23 : decode cX10_order 23 = .ok (.isub, 1) := by decide +kernel
theorem dX10_order_24 : decode cX10_order 24 = .ok (.invokestatic 127, 3) := by decide +kernel
theorem dX10_order_27 : decode cX10_order 27 = .ok (.ifCond .eq 12, 3) := by decide +kernel
theorem dX10_order_30 : decode cX10_order 30 = .ok (.aload_n 0, 1) := by decide +kernel
theorem dX10_order_31 : decode cX10_order 31 = .ok (.getfield 93, 3) := by decide +kernel
theorem dX10_order_34 : decode cX10_order 34 = .ok (.iload_n 1, 1) := by decide +kernel
theorem dX10_order_35 : decode cX10_order 35 = .ok (.iaload, 1) := by decide +kernel
theorem dX10_order_36 : decode cX10_order 36 = .ok (.goto 4, 3) := by decide +kernel
theorem dX10_order_39 : decode cX10_order 39 = .ok (.iconst (-1), 1) := by decide +kernel
theorem dX10_order_40 : decode cX10_order 40 = .ok (.ireturn, 1) := by decide +kernel
theorem dX10_handle_0 : decode cX10_handle 0 = .ok (.iload_n 1, 1) := by decide +kernel
theorem dX10_handle_1 : decode cX10_handle 1 = .ok (.iconst 0, 1) := by decide +kernel
theorem dX10_handle_2 : decode cX10_handle 2 = .ok (.aload_n 0, 1) := by decide +kernel
theorem dX10_handle_3 : decode cX10_handle 3 = .ok (.getfield 155, 3) := by decide +kernel
theorem dX10_handle_6 : decode cX10_handle 6 = .ok (.iconst 1, 1) := by decide +kernel
theorem dX10_handle_7 : decode cX10_handle 7 = .ok (.isub, 1) := by decide +kernel
theorem dX10_handle_8 : decode cX10_handle 8 = .ok (.invokestatic 127, 3) := by decide +kernel
theorem dX10_handle_11 : decode cX10_handle 11 = .ok (.ifCond .ne 5, 3) := by decide +kernel
theorem dX10_handle_14 : decode cX10_handle 14 = .ok (.iconst (-1), 1) := by decide +kernel
theorem dX10_handle_15 : decode cX10_handle 15 = .ok (.ireturn, 1) := by decide +kernel
theorem dX10_handle_16 : decode cX10_handle 16 = .ok (.iload_n 2, 1) := by decide +kernel
theorem dX10_handle_17 : decode cX10_handle 17 = .ok (.tableswitch 81 0 5 #[39, 46, 53, 60, 67, 74], 39) := by decide +kernel
theorem dX10_handle_56 : decode cX10_handle 56 = .ok (.aload_n 0, 1) := by decide +kernel
theorem dX10_handle_57 : decode cX10_handle 57 = .ok (.getfield 48, 3) := by decide +kernel
theorem dX10_handle_60 : decode cX10_handle 60 = .ok (.iload_n 1, 1) := by decide +kernel
theorem dX10_handle_61 : decode cX10_handle 61 = .ok (.iaload, 1) := by decide +kernel
theorem dX10_handle_62 : decode cX10_handle 62 = .ok (.ireturn, 1) := by decide +kernel
theorem dX10_handle_63 : decode cX10_handle 63 = .ok (.aload_n 0, 1) := by decide +kernel
theorem dX10_handle_64 : decode cX10_handle 64 = .ok (.getfield 51, 3) := by decide +kernel
theorem dX10_handle_67 : decode cX10_handle 67 = .ok (.iload_n 1, 1) := by decide +kernel
theorem dX10_handle_68 : decode cX10_handle 68 = .ok (.iaload, 1) := by decide +kernel
theorem dX10_handle_69 : decode cX10_handle 69 = .ok (.ireturn, 1) := by decide +kernel
theorem dX10_handle_70 : decode cX10_handle 70 = .ok (.aload_n 0, 1) := by decide +kernel
theorem dX10_handle_71 : decode cX10_handle 71 = .ok (.getfield 60, 3) := by decide +kernel
theorem dX10_handle_74 : decode cX10_handle 74 = .ok (.iload_n 1, 1) := by decide +kernel
theorem dX10_handle_75 : decode cX10_handle 75 = .ok (.iaload, 1) := by decide +kernel
theorem dX10_handle_76 : decode cX10_handle 76 = .ok (.ireturn, 1) := by decide +kernel
theorem dX10_handle_77 : decode cX10_handle 77 = .ok (.aload_n 0, 1) := by decide +kernel
theorem dX10_handle_78 : decode cX10_handle 78 = .ok (.getfield 72, 3) := by decide +kernel
theorem dX10_handle_81 : decode cX10_handle 81 = .ok (.iload_n 1, 1) := by decide +kernel
theorem dX10_handle_82 : decode cX10_handle 82 = .ok (.iaload, 1) := by decide +kernel
theorem dX10_handle_83 : decode cX10_handle 83 = .ok (.ireturn, 1) := by decide +kernel
theorem dX10_handle_84 : decode cX10_handle 84 = .ok (.aload_n 0, 1) := by decide +kernel
theorem dX10_handle_85 : decode cX10_handle 85 = .ok (.getfield 75, 3) := by decide +kernel
theorem dX10_handle_88 : decode cX10_handle 88 = .ok (.iload_n 1, 1) := by decide +kernel
theorem dX10_handle_89 : decode cX10_handle 89 = .ok (.iaload, 1) := by decide +kernel
theorem dX10_handle_90 : decode cX10_handle 90 = .ok (.ireturn, 1) := by decide +kernel
theorem dX10_handle_91 : decode cX10_handle 91 = .ok (.aload_n 0, 1) := by decide +kernel
theorem dX10_handle_92 : decode cX10_handle 92 = .ok (.getfield 78, 3) := by decide +kernel
theorem dX10_handle_95 : decode cX10_handle 95 = .ok (.iload_n 1, 1) := by decide +kernel
theorem dX10_handle_96 : decode cX10_handle 96 = .ok (.iaload, 1) := by decide +kernel
theorem dX10_handle_97 : decode cX10_handle 97 = .ok (.ireturn, 1) := by decide +kernel
theorem dX10_handle_98 : decode cX10_handle 98 = .ok (.bipush (-2), 2) := by decide +kernel
theorem dX10_handle_100 : decode cX10_handle 100 = .ok (.ireturn, 1) := by decide +kernel
theorem dX10_content_0 : decode cX10_content 0 = .ok (.iload_n 1, 1) := by decide +kernel
theorem dX10_content_1 : decode cX10_content 1 = .ok (.iconst 0, 1) := by decide +kernel
theorem dX10_content_2 : decode cX10_content 2 = .ok (.bipush 7, 2) := by decide +kernel
theorem dX10_content_4 : decode cX10_content 4 = .ok (.invokestatic 127, 3) := by decide +kernel
theorem dX10_content_7 : decode cX10_content 7 = .ok (.ifCond .ne 6, 3) := by decide +kernel
theorem dX10_content_10 : decode cX10_content 10 = .ok (.bipush (-2), 2) := by decide +kernel
theorem dX10_content_12 : decode cX10_content 12 = .ok (.ireturn, 1) := by decide +kernel
theorem dX10_content_13 : decode cX10_content 13 = .ok (.aload_n 0, 1) := by decide +kernel
theorem dX10_content_14 : decode cX10_content 14 = .ok (.getfield 7, 3) := by decide +kernel
theorem dX10_content_17 : decode cX10_content 17 = .ok (.iload_n 1, 1) := by decide +kernel
theorem dX10_content_18 : decode cX10_content 18 = .ok (.baload, 1) := by decide +kernel
theorem dX10_content_19 : decode cX10_content 19 = .ok (.ifCond .eq 37, 3) := by decide +kernel
theorem dX10_content_22 : decode cX10_content 22 = .ok (.iload_n 2, 1) := by decide +kernel
theorem dX10_content_23 : decode cX10_content 23 = .ok (.iconst 0, 1) := by decide +kernel
theorem dX10_content_24 : decode cX10_content 24 = .ok (.aload_n 0, 1) := by decide +kernel
theorem dX10_content_25 : decode cX10_content 25 = .ok (.getfield 13, 3) := by decide +kernel
theorem dX10_content_28 : decode cX10_content 28 = .ok (.iload_n 1, 1) := by decide +kernel
theorem dX10_content_29 : decode cX10_content 29 = .ok (.iaload, 1) := by decide +kernel
theorem dX10_content_30 : decode cX10_content 30 = .ok (.iconst 1, 1) := by decide +kernel
theorem dX10_content_31 : decode cX10_content 31 = .ok (.isub, 1) := by decide +kernel
theorem dX10_content_32 : decode cX10_content 32 = .ok (.invokestatic 127, 3) := by decide +kernel
theorem dX10_content_35 : decode cX10_content 35 = .ok (.ifCond .eq 21, 3) := by decide +kernel
theorem dX10_content_38 : decode cX10_content 38 = .ok (.aload_n 0, 1) := by decide +kernel
theorem dX10_content_39 : decode cX10_content 39 = .ok (.getfield 17, 3) := by decide +kernel
theorem dX10_content_42 : decode cX10_content 42 = .ok (.bipush 40, 2) := by decide +kernel
theorem dX10_content_44 : decode cX10_content 44 = .ok (.iload_n 1, 1) := by decide +kernel
theorem dX10_content_45 : decode cX10_content 45 = .ok (.imul, 1) := by decide +kernel
theorem dX10_content_46 : decode cX10_content 46 = .ok (.iload_n 2, 1) := by decide +kernel
theorem dX10_content_47 : decode cX10_content 47 = .ok (.iadd, 1) := by decide +kernel
theorem dX10_content_48 : decode cX10_content 48 = .ok (.baload, 1) := by decide +kernel
theorem dX10_content_49 : decode cX10_content 49 = .ok (.sipush 255, 3) := by decide +kernel
theorem dX10_content_52 : decode cX10_content 52 = .ok (.iand, 1) := by decide +kernel
theorem dX10_content_53 : decode cX10_content 53 = .ok (.goto 4, 3) := by decide +kernel
theorem dX10_content_56 : decode cX10_content 56 = .ok (.iconst (-1), 1) := by decide +kernel
theorem dX10_content_57 : decode cX10_content 57 = .ok (.ireturn, 1) := by decide +kernel
theorem dX10_size_0 : decode cX10_size 0 = .ok (.iload_n 1, 1) := by decide +kernel
theorem dX10_size_1 : decode cX10_size 1 = .ok (.iconst 0, 1) := by decide +kernel
theorem dX10_size_2 : decode cX10_size 2 = .ok (.bipush 7, 2) := by decide +kernel
theorem dX10_size_4 : decode cX10_size 4 = .ok (.invokestatic 127, 3) := by decide +kernel
theorem dX10_size_7 : decode cX10_size 7 = .ok (.ifCond .ne 6, 3) := by decide +kernel
theorem dX10_size_10 : decode cX10_size 10 = .ok (.bipush (-2), 2) := by decide +kernel
theorem dX10_size_12 : decode cX10_size 12 = .ok (.ireturn, 1) := by decide +kernel
theorem dX10_size_13 : decode cX10_size 13 = .ok (.aload_n 0, 1) := by decide +kernel
theorem dX10_size_14 : decode cX10_size 14 = .ok (.getfield 7, 3) := by decide +kernel
theorem dX10_size_17 : decode cX10_size 17 = .ok (.iload_n 1, 1) := by decide +kernel
theorem dX10_size_18 : decode cX10_size 18 = .ok (.baload, 1) := by decide +kernel
theorem dX10_size_19 : decode cX10_size 19 = .ok (.ifCond .eq 12, 3) := by decide +kernel
theorem dX10_size_22 : decode cX10_size 22 = .ok (.aload_n 0, 1) := by decide +kernel
theorem dX10_size_23 : decode cX10_size 23 = .ok (.getfield 13, 3) := by decide +kernel
theorem dX10_size_26 : decode cX10_size 26 = .ok (.iload_n 1, 1) := by decide +kernel
theorem dX10_size_27 : decode cX10_size 27 = .ok (.iaload, 1) := by decide +kernel
theorem dX10_size_28 : decode cX10_size 28 = .ok (.goto 4, 3) := by decide +kernel
theorem dX10_size_31 : decode cX10_size 31 = .ok (.iconst (-1), 1) := by decide +kernel
theorem dX10_size_32 : decode cX10_size 32 = .ok (.ireturn, 1) := by decide +kernel
theorem dX10_printed_0 : decode cX10_printed 0 = .ok (.iload_n 1, 1) := by decide +kernel
theorem dX10_printed_1 : decode cX10_printed 1 = .ok (.iconst 0, 1) := by decide +kernel
theorem dX10_printed_2 : decode cX10_printed 2 = .ok (.aload_n 0, 1) := by decide +kernel
theorem dX10_printed_3 : decode cX10_printed 3 = .ok (.getfield 152, 3) := by decide +kernel
theorem dX10_printed_6 : decode cX10_printed 6 = .ok (.sipush 200, 3) := by decide +kernel
theorem dX10_printed_9 : decode cX10_printed 9 = .ok (.if_icmp .ge 10, 3) := by decide +kernel
theorem dX10_printed_12 : decode cX10_printed 12 = .ok (.aload_n 0, 1) := by decide +kernel
theorem dX10_printed_13 : decode cX10_printed 13 = .ok (.getfield 152, 3) := by decide +kernel
theorem dX10_printed_16 : decode cX10_printed 16 = .ok (.goto 6, 3) := by decide +kernel
theorem dX10_printed_19 : decode cX10_printed 19 = .ok (.sipush 200, 3) := by decide +kernel
theorem dX10_printed_22 : decode cX10_printed 22 = .ok (.iconst 1, 1) := by decide +kernel
theorem dX10_printed_23 : decode cX10_printed 23 = .ok (.isub, 1) := by decide +kernel
theorem dX10_printed_24 : decode cX10_printed 24 = .ok (.invokestatic 127, 3) := by decide +kernel
theorem dX10_printed_27 : decode cX10_printed 27 = .ok (.ifCond .eq 16, 3) := by decide +kernel
theorem dX10_printed_30 : decode cX10_printed 30 = .ok (.aload_n 0, 1) := by decide +kernel
theorem dX10_printed_31 : decode cX10_printed 31 = .ok (.getfield 27, 3) := by decide +kernel
theorem dX10_printed_34 : decode cX10_printed 34 = .ok (.iload_n 1, 1) := by decide +kernel
theorem dX10_printed_35 : decode cX10_printed 35 = .ok (.baload, 1) := by decide +kernel
theorem dX10_printed_36 : decode cX10_printed 36 = .ok (.sipush 255, 3) := by decide +kernel
theorem dX10_printed_39 : decode cX10_printed 39 = .ok (.iand, 1) := by decide +kernel
theorem dX10_printed_40 : decode cX10_printed 40 = .ok (.goto 4, 3) := by decide +kernel
theorem dX10_printed_43 : decode cX10_printed 43 = .ok (.iconst (-1), 1) := by decide +kernel
theorem dX10_printed_44 : decode cX10_printed 44 = .ok (.ireturn, 1) := by decide +kernel
theorem dX10_told_0 : decode cX10_told 0 = .ok (.iload_n 1, 1) := by decide +kernel
theorem dX10_told_1 : decode cX10_told 1 = .ok (.tableswitch 83 0 6 #[43, 48, 58, 63, 68, 73, 78], 43) := by decide +kernel
theorem dX10_told_44 : decode cX10_told 44 = .ok (.aload_n 0, 1) := by decide +kernel
theorem dX10_told_45 : decode cX10_told 45 = .ok (.getfield 141, 3) := by decide +kernel
theorem dX10_told_48 : decode cX10_told 48 = .ok (.ireturn, 1) := by decide +kernel
theorem dX10_told_49 : decode cX10_told 49 = .ok (.aload_n 0, 1) := by decide +kernel
theorem dX10_told_50 : decode cX10_told 50 = .ok (.getfield 135, 3) := by decide +kernel
theorem dX10_told_53 : decode cX10_told 53 = .ok (.aload_n 0, 1) := by decide +kernel
theorem dX10_told_54 : decode cX10_told 54 = .ok (.getfield 138, 3) := by decide +kernel
theorem dX10_told_57 : decode cX10_told 57 = .ok (.isub, 1) := by decide +kernel
theorem dX10_told_58 : decode cX10_told 58 = .ok (.ireturn, 1) := by decide +kernel
theorem dX10_told_59 : decode cX10_told 59 = .ok (.aload_n 0, 1) := by decide +kernel
theorem dX10_told_60 : decode cX10_told 60 = .ok (.getfield 152, 3) := by decide +kernel
theorem dX10_told_63 : decode cX10_told 63 = .ok (.ireturn, 1) := by decide +kernel
theorem dX10_told_64 : decode cX10_told 64 = .ok (.aload_n 0, 1) := by decide +kernel
theorem dX10_told_65 : decode cX10_told 65 = .ok (.invokevirtual 131, 3) := by decide +kernel
theorem dX10_told_68 : decode cX10_told 68 = .ok (.ireturn, 1) := by decide +kernel
theorem dX10_told_69 : decode cX10_told 69 = .ok (.aload_n 0, 1) := by decide +kernel
theorem dX10_told_70 : decode cX10_told 70 = .ok (.getfield 155, 3) := by decide +kernel
theorem dX10_told_73 : decode cX10_told 73 = .ok (.ireturn, 1) := by decide +kernel
theorem dX10_told_74 : decode cX10_told 74 = .ok (.aload_n 0, 1) := by decide +kernel
theorem dX10_told_75 : decode cX10_told 75 = .ok (.getfield 269, 3) := by decide +kernel
theorem dX10_told_78 : decode cX10_told 78 = .ok (.ireturn, 1) := by decide +kernel
theorem dX10_told_79 : decode cX10_told 79 = .ok (.aload_n 0, 1) := by decide +kernel
theorem dX10_told_80 : decode cX10_told 80 = .ok (.getfield 158, 3) := by decide +kernel
theorem dX10_told_83 : decode cX10_told 83 = .ok (.ireturn, 1) := by decide +kernel
theorem dX10_told_84 : decode cX10_told 84 = .ok (.bipush (-2), 2) := by decide +kernel
theorem dX10_told_86 : decode cX10_told 86 = .ok (.ireturn, 1) := by decide +kernel
theorem dJ9_min_7cf53_0 : decode cJ9_min_7cf53 0 = .ok (.iload_n 0, 1) := by decide +kernel
theorem dJ9_min_7cf53_1 : decode cJ9_min_7cf53 1 = .ok (.iload_n 1, 1) := by decide +kernel
theorem dJ9_min_7cf53_2 : decode cJ9_min_7cf53 2 = .ok (.if_icmp .gt 7, 3) := by decide +kernel
theorem dJ9_min_7cf53_5 : decode cJ9_min_7cf53 5 = .ok (.iload_n 0, 1) := by decide +kernel
theorem dJ9_min_7cf53_6 : decode cJ9_min_7cf53 6 = .ok (.goto 4, 3) := by decide +kernel
theorem dJ9_min_7cf53_9 : decode cJ9_min_7cf53 9 = .ok (.iload_n 1, 1) := by decide +kernel
theorem dJ9_min_7cf53_10 : decode cJ9_min_7cf53 10 = .ok (.ireturn, 1) := by decide +kernel
theorem dJ7_fill_53178_0 : decode cJ7_fill_53178 0 = .ok (.iconst 0, 1) := by decide +kernel
theorem dJ7_fill_53178_1 : decode cJ7_fill_53178 1 = .ok (.istore_n 2, 1) := by decide +kernel
theorem dJ7_fill_53178_2 : decode cJ7_fill_53178 2 = .ok (.aload_n 0, 1) := by decide +kernel
theorem dJ7_fill_53178_3 : decode cJ7_fill_53178 3 = .ok (.arraylength, 1) := by decide +kernel
theorem dJ7_fill_53178_4 : decode cJ7_fill_53178 4 = .ok (.istore_n 3, 1) := by decide +kernel
theorem dJ7_fill_53178_5 : decode cJ7_fill_53178 5 = .ok (.iload_n 2, 1) := by decide +kernel
theorem dJ7_fill_53178_6 : decode cJ7_fill_53178 6 = .ok (.iload_n 3, 1) := by decide +kernel
theorem dJ7_fill_53178_7 : decode cJ7_fill_53178 7 = .ok (.if_icmp .ge 13, 3) := by decide +kernel
theorem dJ7_fill_53178_10 : decode cJ7_fill_53178 10 = .ok (.aload_n 0, 1) := by decide +kernel
theorem dJ7_fill_53178_11 : decode cJ7_fill_53178 11 = .ok (.iload_n 2, 1) := by decide +kernel
theorem dJ7_fill_53178_12 : decode cJ7_fill_53178 12 = .ok (.iload_n 1, 1) := by decide +kernel
theorem dJ7_fill_53178_13 : decode cJ7_fill_53178 13 = .ok (.iastore, 1) := by decide +kernel
theorem dJ7_fill_53178_14 : decode cJ7_fill_53178 14 = .ok (.iinc 2 1, 3) := by decide +kernel
theorem dJ7_fill_53178_17 : decode cJ7_fill_53178 17 = .ok (.goto (-12), 3) := by decide +kernel
theorem dJ7_fill_53178_20 : decode cJ7_fill_53178 20 = .ok (.return_, 1) := by decide +kernel
theorem dL_law_0 : decode cL_law 0 = .ok (.new 7, 3) := by decide +kernel
theorem dL_law_3 : decode cL_law 3 = .ok (.dup, 1) := by decide +kernel
theorem dL_law_4 : decode cL_law 4 = .ok (.invokespecial 9, 3) := by decide +kernel
theorem dL_law_7 : decode cL_law 7 = .ok (.astore_n 1, 1) := by decide +kernel
theorem dL_law_8 : decode cL_law 8 = .ok (.new 10, 3) := by decide +kernel
theorem dL_law_11 : decode cL_law 11 = .ok (.dup, 1) := by decide +kernel
theorem dL_law_12 : decode cL_law 12 = .ok (.invokespecial 12, 3) := by decide +kernel
theorem dL_law_15 : decode cL_law 15 = .ok (.astore_n 2, 1) := by decide +kernel
theorem dL_law_16 : decode cL_law 16 = .ok (.iconst 0, 1) := by decide +kernel
theorem dL_law_17 : decode cL_law 17 = .ok (.istore_n 3, 1) := by decide +kernel
theorem dL_law_18 : decode cL_law 18 = .ok (.iload_n 3, 1) := by decide +kernel
theorem dL_law_19 : decode cL_law 19 = .ok (.aload_n 0, 1) := by decide +kernel
theorem dL_law_20 : decode cL_law 20 = .ok (.arraylength, 1) := by decide +kernel
theorem dL_law_21 : decode cL_law 21 = .ok (.iconst 5, 1) := by decide +kernel
theorem dL_law_22 : decode cL_law 22 = .ok (.isub, 1) := by decide +kernel
theorem dL_law_23 : decode cL_law 23 = .ok (.if_icmp .gt 519, 3) := by decide +kernel
theorem dL_law_26 : decode cL_law 26 = .ok (.aload_n 0, 1) := by decide +kernel
theorem dL_law_27 : decode cL_law 27 = .ok (.iload_n 3, 1) := by decide +kernel
theorem dL_law_28 : decode cL_law 28 = .ok (.iaload, 1) := by decide +kernel
theorem dL_law_29 : decode cL_law 29 = .ok (.bipush 15, 2) := by decide +kernel
theorem dL_law_31 : decode cL_law 31 = .ok (.iand, 1) := by decide +kernel
theorem dL_law_32 : decode cL_law 32 = .ok (.tableswitch 504 0 15 #[80, 113, 162, 195, 218, 271, 284, 307, 320, 333, 346, 369, 402, 435, 458, 481], 80) := by decide +kernel
theorem dL_law_112 : decode cL_law 112 = .ok (.aload_n 1, 1) := by decide +kernel
theorem dL_law_113 : decode cL_law 113 = .ok (.aload_n 0, 1) := by decide +kernel
theorem dL_law_114 : decode cL_law 114 = .ok (.iload_n 3, 1) := by decide +kernel
theorem dL_law_115 : decode cL_law 115 = .ok (.iconst 1, 1) := by decide +kernel
theorem dL_law_116 : decode cL_law 116 = .ok (.iadd, 1) := by decide +kernel
theorem dL_law_117 : decode cL_law 117 = .ok (.iaload, 1) := by decide +kernel
theorem dL_law_118 : decode cL_law 118 = .ok (.aload_n 0, 1) := by decide +kernel
theorem dL_law_119 : decode cL_law 119 = .ok (.iload_n 3, 1) := by decide +kernel
theorem dL_law_120 : decode cL_law 120 = .ok (.iconst 2, 1) := by decide +kernel
theorem dL_law_121 : decode cL_law 121 = .ok (.iadd, 1) := by decide +kernel
theorem dL_law_122 : decode cL_law 122 = .ok (.iaload, 1) := by decide +kernel
theorem dL_law_123 : decode cL_law 123 = .ok (.invokevirtual 13, 3) := by decide +kernel
theorem dL_law_126 : decode cL_law 126 = .ok (.pop, 1) := by decide +kernel
theorem dL_law_127 : decode cL_law 127 = .ok (.aload_n 2, 1) := by decide +kernel
theorem dL_law_128 : decode cL_law 128 = .ok (.aload_n 0, 1) := by decide +kernel
theorem dL_law_129 : decode cL_law 129 = .ok (.iload_n 3, 1) := by decide +kernel
theorem dL_law_130 : decode cL_law 130 = .ok (.iconst 1, 1) := by decide +kernel
theorem dL_law_131 : decode cL_law 131 = .ok (.iadd, 1) := by decide +kernel
theorem dL_law_132 : decode cL_law 132 = .ok (.iaload, 1) := by decide +kernel
theorem dL_law_133 : decode cL_law 133 = .ok (.aload_n 0, 1) := by decide +kernel
theorem dL_law_134 : decode cL_law 134 = .ok (.iload_n 3, 1) := by decide +kernel
theorem dL_law_135 : decode cL_law 135 = .ok (.iconst 2, 1) := by decide +kernel
theorem dL_law_136 : decode cL_law 136 = .ok (.iadd, 1) := by decide +kernel
theorem dL_law_137 : decode cL_law 137 = .ok (.iaload, 1) := by decide +kernel
theorem dL_law_138 : decode cL_law 138 = .ok (.invokevirtual 17, 3) := by decide +kernel
theorem dL_law_141 : decode cL_law 141 = .ok (.pop, 1) := by decide +kernel
theorem dL_law_142 : decode cL_law 142 = .ok (.goto 394, 3) := by decide +kernel
theorem dL_law_145 : decode cL_law 145 = .ok (.aload_n 1, 1) := by decide +kernel
theorem dL_law_146 : decode cL_law 146 = .ok (.aload_n 0, 1) := by decide +kernel
theorem dL_law_147 : decode cL_law 147 = .ok (.iload_n 3, 1) := by decide +kernel
theorem dL_law_148 : decode cL_law 148 = .ok (.iconst 1, 1) := by decide +kernel
theorem dL_law_149 : decode cL_law 149 = .ok (.iadd, 1) := by decide +kernel
theorem dL_law_150 : decode cL_law 150 = .ok (.iaload, 1) := by decide +kernel
theorem dL_law_151 : decode cL_law 151 = .ok (.aload_n 0, 1) := by decide +kernel
theorem dL_law_152 : decode cL_law 152 = .ok (.iload_n 3, 1) := by decide +kernel
theorem dL_law_153 : decode cL_law 153 = .ok (.iconst 2, 1) := by decide +kernel
theorem dL_law_154 : decode cL_law 154 = .ok (.iadd, 1) := by decide +kernel
theorem dL_law_155 : decode cL_law 155 = .ok (.iaload, 1) := by decide +kernel
theorem dL_law_156 : decode cL_law 156 = .ok (.ifCond .eq 7, 3) := by decide +kernel
theorem dL_law_159 : decode cL_law 159 = .ok (.iconst 1, 1) := by decide +kernel
theorem dL_law_160 : decode cL_law 160 = .ok (.goto 4, 3) := by decide +kernel
theorem dL_law_163 : decode cL_law 163 = .ok (.iconst 0, 1) := by decide +kernel
theorem dL_law_164 : decode cL_law 164 = .ok (.invokevirtual 18, 3) := by decide +kernel
theorem dL_law_167 : decode cL_law 167 = .ok (.pop, 1) := by decide +kernel
theorem dL_law_168 : decode cL_law 168 = .ok (.aload_n 2, 1) := by decide +kernel
theorem dL_law_169 : decode cL_law 169 = .ok (.aload_n 0, 1) := by decide +kernel
theorem dL_law_170 : decode cL_law 170 = .ok (.iload_n 3, 1) := by decide +kernel
theorem dL_law_171 : decode cL_law 171 = .ok (.iconst 1, 1) := by decide +kernel
theorem dL_law_172 : decode cL_law 172 = .ok (.iadd, 1) := by decide +kernel
theorem dL_law_173 : decode cL_law 173 = .ok (.iaload, 1) := by decide +kernel
theorem dL_law_174 : decode cL_law 174 = .ok (.aload_n 0, 1) := by decide +kernel
theorem dL_law_175 : decode cL_law 175 = .ok (.iload_n 3, 1) := by decide +kernel
theorem dL_law_176 : decode cL_law 176 = .ok (.iconst 2, 1) := by decide +kernel
theorem dL_law_177 : decode cL_law 177 = .ok (.iadd, 1) := by decide +kernel
theorem dL_law_178 : decode cL_law 178 = .ok (.iaload, 1) := by decide +kernel
theorem dL_law_179 : decode cL_law 179 = .ok (.ifCond .eq 7, 3) := by decide +kernel
theorem dL_law_182 : decode cL_law 182 = .ok (.iconst 1, 1) := by decide +kernel
theorem dL_law_183 : decode cL_law 183 = .ok (.goto 4, 3) := by decide +kernel
theorem dL_law_186 : decode cL_law 186 = .ok (.iconst 0, 1) := by decide +kernel
theorem dL_law_187 : decode cL_law 187 = .ok (.invokevirtual 22, 3) := by decide +kernel
theorem dL_law_190 : decode cL_law 190 = .ok (.pop, 1) := by decide +kernel
theorem dL_law_191 : decode cL_law 191 = .ok (.goto 345, 3) := by decide +kernel
theorem dL_law_194 : decode cL_law 194 = .ok (.aload_n 1, 1) := by decide +kernel
theorem dL_law_195 : decode cL_law 195 = .ok (.aload_n 0, 1) := by decide +kernel
theorem dL_law_196 : decode cL_law 196 = .ok (.iload_n 3, 1) := by decide +kernel
theorem dL_law_197 : decode cL_law 197 = .ok (.iconst 1, 1) := by decide +kernel
theorem dL_law_198 : decode cL_law 198 = .ok (.iadd, 1) := by decide +kernel
theorem dL_law_199 : decode cL_law 199 = .ok (.iaload, 1) := by decide +kernel
theorem dL_law_200 : decode cL_law 200 = .ok (.aload_n 0, 1) := by decide +kernel
theorem dL_law_201 : decode cL_law 201 = .ok (.iload_n 3, 1) := by decide +kernel
theorem dL_law_202 : decode cL_law 202 = .ok (.iconst 2, 1) := by decide +kernel
theorem dL_law_203 : decode cL_law 203 = .ok (.iadd, 1) := by decide +kernel
theorem dL_law_204 : decode cL_law 204 = .ok (.iaload, 1) := by decide +kernel
theorem dL_law_205 : decode cL_law 205 = .ok (.invokevirtual 23, 3) := by decide +kernel
theorem dL_law_208 : decode cL_law 208 = .ok (.aload_n 2, 1) := by decide +kernel
theorem dL_law_209 : decode cL_law 209 = .ok (.aload_n 0, 1) := by decide +kernel
theorem dL_law_210 : decode cL_law 210 = .ok (.iload_n 3, 1) := by decide +kernel
theorem dL_law_211 : decode cL_law 211 = .ok (.iconst 1, 1) := by decide +kernel
theorem dL_law_212 : decode cL_law 212 = .ok (.iadd, 1) := by decide +kernel
theorem dL_law_213 : decode cL_law 213 = .ok (.iaload, 1) := by decide +kernel
theorem dL_law_214 : decode cL_law 214 = .ok (.aload_n 0, 1) := by decide +kernel
theorem dL_law_215 : decode cL_law 215 = .ok (.iload_n 3, 1) := by decide +kernel
theorem dL_law_216 : decode cL_law 216 = .ok (.iconst 2, 1) := by decide +kernel
theorem dL_law_217 : decode cL_law 217 = .ok (.iadd, 1) := by decide +kernel
theorem dL_law_218 : decode cL_law 218 = .ok (.iaload, 1) := by decide +kernel
theorem dL_law_219 : decode cL_law 219 = .ok (.invokevirtual 26, 3) := by decide +kernel
theorem dL_law_222 : decode cL_law 222 = .ok (.if_icmp .eq 314, 3) := by decide +kernel
theorem dL_law_225 : decode cL_law 225 = .ok (.iconst 0, 1) := by decide +kernel
theorem dL_law_226 : decode cL_law 226 = .ok (.ireturn, 1) := by decide +kernel
theorem dL_law_227 : decode cL_law 227 = .ok (.aload_n 1, 1) := by decide +kernel
theorem dL_law_228 : decode cL_law 228 = .ok (.aload_n 0, 1) := by decide +kernel
theorem dL_law_229 : decode cL_law 229 = .ok (.iload_n 3, 1) := by decide +kernel
theorem dL_law_230 : decode cL_law 230 = .ok (.iconst 1, 1) := by decide +kernel
theorem dL_law_231 : decode cL_law 231 = .ok (.iadd, 1) := by decide +kernel
theorem dL_law_232 : decode cL_law 232 = .ok (.iaload, 1) := by decide +kernel
theorem dL_law_233 : decode cL_law 233 = .ok (.invokevirtual 27, 3) := by decide +kernel
theorem dL_law_236 : decode cL_law 236 = .ok (.pop, 1) := by decide +kernel
theorem dL_law_237 : decode cL_law 237 = .ok (.aload_n 2, 1) := by decide +kernel
theorem dL_law_238 : decode cL_law 238 = .ok (.aload_n 0, 1) := by decide +kernel
theorem dL_law_239 : decode cL_law 239 = .ok (.iload_n 3, 1) := by decide +kernel
theorem dL_law_240 : decode cL_law 240 = .ok (.iconst 1, 1) := by decide +kernel
theorem dL_law_241 : decode cL_law 241 = .ok (.iadd, 1) := by decide +kernel
theorem dL_law_242 : decode cL_law 242 = .ok (.iaload, 1) := by decide +kernel
theorem dL_law_243 : decode cL_law 243 = .ok (.invokevirtual 31, 3) := by decide +kernel
theorem dL_law_246 : decode cL_law 246 = .ok (.pop, 1) := by decide +kernel
theorem dL_law_247 : decode cL_law 247 = .ok (.goto 289, 3) := by decide +kernel
theorem dL_law_250 : decode cL_law 250 = .ok (.aload_n 1, 1) := by decide +kernel
theorem dL_law_251 : decode cL_law 251 = .ok (.aload_n 0, 1) := by decide +kernel
theorem dL_law_252 : decode cL_law 252 = .ok (.iload_n 3, 1) := by decide +kernel
theorem dL_law_253 : decode cL_law 253 = .ok (.iconst 1, 1) := by decide +kernel
theorem dL_law_254 : decode cL_law 254 = .ok (.iadd, 1) := by decide +kernel
theorem dL_law_255 : decode cL_law 255 = .ok (.iaload, 1) := by decide +kernel
theorem dL_law_256 : decode cL_law 256 = .ok (.aload_n 0, 1) := by decide +kernel
theorem dL_law_257 : decode cL_law 257 = .ok (.iload_n 3, 1) := by decide +kernel
theorem dL_law_258 : decode cL_law 258 = .ok (.iconst 2, 1) := by decide +kernel
theorem dL_law_259 : decode cL_law 259 = .ok (.iadd, 1) := by decide +kernel
theorem dL_law_260 : decode cL_law 260 = .ok (.iaload, 1) := by decide +kernel
theorem dL_law_261 : decode cL_law 261 = .ok (.aload_n 0, 1) := by decide +kernel
theorem dL_law_262 : decode cL_law 262 = .ok (.iload_n 3, 1) := by decide +kernel
theorem dL_law_263 : decode cL_law 263 = .ok (.iconst 3, 1) := by decide +kernel
theorem dL_law_264 : decode cL_law 264 = .ok (.iadd, 1) := by decide +kernel
theorem dL_law_265 : decode cL_law 265 = .ok (.iaload, 1) := by decide +kernel
theorem dL_law_266 : decode cL_law 266 = .ok (.aload_n 0, 1) := by decide +kernel
theorem dL_law_267 : decode cL_law 267 = .ok (.iload_n 3, 1) := by decide +kernel
theorem dL_law_268 : decode cL_law 268 = .ok (.iconst 4, 1) := by decide +kernel
theorem dL_law_269 : decode cL_law 269 = .ok (.iadd, 1) := by decide +kernel
theorem dL_law_270 : decode cL_law 270 = .ok (.iaload, 1) := by decide +kernel
theorem dL_law_271 : decode cL_law 271 = .ok (.invokevirtual 32, 3) := by decide +kernel
theorem dL_law_274 : decode cL_law 274 = .ok (.pop, 1) := by decide +kernel
theorem dL_law_275 : decode cL_law 275 = .ok (.aload_n 2, 1) := by decide +kernel
theorem dL_law_276 : decode cL_law 276 = .ok (.aload_n 0, 1) := by decide +kernel
theorem dL_law_277 : decode cL_law 277 = .ok (.iload_n 3, 1) := by decide +kernel
theorem dL_law_278 : decode cL_law 278 = .ok (.iconst 1, 1) := by decide +kernel
theorem dL_law_279 : decode cL_law 279 = .ok (.iadd, 1) := by decide +kernel
theorem dL_law_280 : decode cL_law 280 = .ok (.iaload, 1) := by decide +kernel
theorem dL_law_281 : decode cL_law 281 = .ok (.aload_n 0, 1) := by decide +kernel
theorem dL_law_282 : decode cL_law 282 = .ok (.iload_n 3, 1) := by decide +kernel
theorem dL_law_283 : decode cL_law 283 = .ok (.iconst 2, 1) := by decide +kernel
theorem dL_law_284 : decode cL_law 284 = .ok (.iadd, 1) := by decide +kernel
theorem dL_law_285 : decode cL_law 285 = .ok (.iaload, 1) := by decide +kernel
theorem dL_law_286 : decode cL_law 286 = .ok (.aload_n 0, 1) := by decide +kernel
theorem dL_law_287 : decode cL_law 287 = .ok (.iload_n 3, 1) := by decide +kernel
theorem dL_law_288 : decode cL_law 288 = .ok (.iconst 3, 1) := by decide +kernel
theorem dL_law_289 : decode cL_law 289 = .ok (.iadd, 1) := by decide +kernel
theorem dL_law_290 : decode cL_law 290 = .ok (.iaload, 1) := by decide +kernel
theorem dL_law_291 : decode cL_law 291 = .ok (.aload_n 0, 1) := by decide +kernel
theorem dL_law_292 : decode cL_law 292 = .ok (.iload_n 3, 1) := by decide +kernel
theorem dL_law_293 : decode cL_law 293 = .ok (.iconst 4, 1) := by decide +kernel
theorem dL_law_294 : decode cL_law 294 = .ok (.iadd, 1) := by decide +kernel
theorem dL_law_295 : decode cL_law 295 = .ok (.iaload, 1) := by decide +kernel
theorem dL_law_296 : decode cL_law 296 = .ok (.invokevirtual 36, 3) := by decide +kernel
theorem dL_law_299 : decode cL_law 299 = .ok (.pop, 1) := by decide +kernel
theorem dL_law_300 : decode cL_law 300 = .ok (.goto 236, 3) := by decide +kernel
theorem dL_law_303 : decode cL_law 303 = .ok (.aload_n 1, 1) := by decide +kernel
theorem dL_law_304 : decode cL_law 304 = .ok (.invokevirtual 37, 3) := by decide +kernel
theorem dL_law_307 : decode cL_law 307 = .ok (.pop, 1) := by decide +kernel
theorem dL_law_308 : decode cL_law 308 = .ok (.aload_n 2, 1) := by decide +kernel
theorem dL_law_309 : decode cL_law 309 = .ok (.invokevirtual 41, 3) := by decide +kernel
theorem dL_law_312 : decode cL_law 312 = .ok (.pop, 1) := by decide +kernel
theorem dL_law_313 : decode cL_law 313 = .ok (.goto 223, 3) := by decide +kernel
theorem dL_law_316 : decode cL_law 316 = .ok (.aload_n 1, 1) := by decide +kernel
theorem dL_law_317 : decode cL_law 317 = .ok (.aload_n 0, 1) := by decide +kernel
theorem dL_law_318 : decode cL_law 318 = .ok (.iload_n 3, 1) := by decide +kernel
theorem dL_law_319 : decode cL_law 319 = .ok (.iconst 1, 1) := by decide +kernel
theorem dL_law_320 : decode cL_law 320 = .ok (.iadd, 1) := by decide +kernel
theorem dL_law_321 : decode cL_law 321 = .ok (.iaload, 1) := by decide +kernel
theorem dL_law_322 : decode cL_law 322 = .ok (.invokevirtual 42, 3) := by decide +kernel
theorem dL_law_325 : decode cL_law 325 = .ok (.pop, 1) := by decide +kernel
theorem dL_law_326 : decode cL_law 326 = .ok (.aload_n 2, 1) := by decide +kernel
theorem dL_law_327 : decode cL_law 327 = .ok (.aload_n 0, 1) := by decide +kernel
theorem dL_law_328 : decode cL_law 328 = .ok (.iload_n 3, 1) := by decide +kernel
theorem dL_law_329 : decode cL_law 329 = .ok (.iconst 1, 1) := by decide +kernel
theorem dL_law_330 : decode cL_law 330 = .ok (.iadd, 1) := by decide +kernel
theorem dL_law_331 : decode cL_law 331 = .ok (.iaload, 1) := by decide +kernel
theorem dL_law_332 : decode cL_law 332 = .ok (.invokevirtual 45, 3) := by decide +kernel
theorem dL_law_335 : decode cL_law 335 = .ok (.pop, 1) := by decide +kernel
theorem dL_law_336 : decode cL_law 336 = .ok (.goto 200, 3) := by decide +kernel
theorem dL_law_339 : decode cL_law 339 = .ok (.aload_n 1, 1) := by decide +kernel
theorem dL_law_340 : decode cL_law 340 = .ok (.invokevirtual 46, 3) := by decide +kernel
theorem dL_law_343 : decode cL_law 343 = .ok (.pop, 1) := by decide +kernel
theorem dL_law_344 : decode cL_law 344 = .ok (.aload_n 2, 1) := by decide +kernel
theorem dL_law_345 : decode cL_law 345 = .ok (.invokevirtual 49, 3) := by decide +kernel
theorem dL_law_348 : decode cL_law 348 = .ok (.pop, 1) := by decide +kernel
theorem dL_law_349 : decode cL_law 349 = .ok (.goto 187, 3) := by decide +kernel
theorem dL_law_352 : decode cL_law 352 = .ok (.aload_n 1, 1) := by decide +kernel
theorem dL_law_353 : decode cL_law 353 = .ok (.invokevirtual 50, 3) := by decide +kernel
theorem dL_law_356 : decode cL_law 356 = .ok (.pop, 1) := by decide +kernel
theorem dL_law_357 : decode cL_law 357 = .ok (.aload_n 2, 1) := by decide +kernel
theorem dL_law_358 : decode cL_law 358 = .ok (.invokevirtual 53, 3) := by decide +kernel
theorem dL_law_361 : decode cL_law 361 = .ok (.pop, 1) := by decide +kernel
theorem dL_law_362 : decode cL_law 362 = .ok (.goto 174, 3) := by decide +kernel
theorem dL_law_365 : decode cL_law 365 = .ok (.aload_n 1, 1) := by decide +kernel
theorem dL_law_366 : decode cL_law 366 = .ok (.invokevirtual 54, 3) := by decide +kernel
theorem dL_law_369 : decode cL_law 369 = .ok (.pop, 1) := by decide +kernel
theorem dL_law_370 : decode cL_law 370 = .ok (.aload_n 2, 1) := by decide +kernel
theorem dL_law_371 : decode cL_law 371 = .ok (.invokevirtual 57, 3) := by decide +kernel
theorem dL_law_374 : decode cL_law 374 = .ok (.pop, 1) := by decide +kernel
theorem dL_law_375 : decode cL_law 375 = .ok (.goto 161, 3) := by decide +kernel
theorem dL_law_378 : decode cL_law 378 = .ok (.aload_n 1, 1) := by decide +kernel
theorem dL_law_379 : decode cL_law 379 = .ok (.aload_n 0, 1) := by decide +kernel
theorem dL_law_380 : decode cL_law 380 = .ok (.iload_n 3, 1) := by decide +kernel
theorem dL_law_381 : decode cL_law 381 = .ok (.iconst 1, 1) := by decide +kernel
theorem dL_law_382 : decode cL_law 382 = .ok (.iadd, 1) := by decide +kernel
theorem dL_law_383 : decode cL_law 383 = .ok (.iaload, 1) := by decide +kernel
theorem dL_law_384 : decode cL_law 384 = .ok (.invokevirtual 58, 3) := by decide +kernel
theorem dL_law_387 : decode cL_law 387 = .ok (.pop, 1) := by decide +kernel
theorem dL_law_388 : decode cL_law 388 = .ok (.aload_n 2, 1) := by decide +kernel
theorem dL_law_389 : decode cL_law 389 = .ok (.aload_n 0, 1) := by decide +kernel
theorem dL_law_390 : decode cL_law 390 = .ok (.iload_n 3, 1) := by decide +kernel
theorem dL_law_391 : decode cL_law 391 = .ok (.iconst 1, 1) := by decide +kernel
theorem dL_law_392 : decode cL_law 392 = .ok (.iadd, 1) := by decide +kernel
theorem dL_law_393 : decode cL_law 393 = .ok (.iaload, 1) := by decide +kernel
theorem dL_law_394 : decode cL_law 394 = .ok (.invokevirtual 61, 3) := by decide +kernel
theorem dL_law_397 : decode cL_law 397 = .ok (.pop, 1) := by decide +kernel
theorem dL_law_398 : decode cL_law 398 = .ok (.goto 138, 3) := by decide +kernel
theorem dL_law_401 : decode cL_law 401 = .ok (.aload_n 1, 1) := by decide +kernel
theorem dL_law_402 : decode cL_law 402 = .ok (.aload_n 0, 1) := by decide +kernel
theorem dL_law_403 : decode cL_law 403 = .ok (.iload_n 3, 1) := by decide +kernel
theorem dL_law_404 : decode cL_law 404 = .ok (.iconst 1, 1) := by decide +kernel
theorem dL_law_405 : decode cL_law 405 = .ok (.iadd, 1) := by decide +kernel
theorem dL_law_406 : decode cL_law 406 = .ok (.iaload, 1) := by decide +kernel
theorem dL_law_407 : decode cL_law 407 = .ok (.aload_n 0, 1) := by decide +kernel
theorem dL_law_408 : decode cL_law 408 = .ok (.iload_n 3, 1) := by decide +kernel
theorem dL_law_409 : decode cL_law 409 = .ok (.iconst 2, 1) := by decide +kernel
theorem dL_law_410 : decode cL_law 410 = .ok (.iadd, 1) := by decide +kernel
theorem dL_law_411 : decode cL_law 411 = .ok (.iaload, 1) := by decide +kernel
theorem dL_law_412 : decode cL_law 412 = .ok (.invokevirtual 62, 3) := by decide +kernel
theorem dL_law_415 : decode cL_law 415 = .ok (.pop, 1) := by decide +kernel
theorem dL_law_416 : decode cL_law 416 = .ok (.aload_n 2, 1) := by decide +kernel
theorem dL_law_417 : decode cL_law 417 = .ok (.aload_n 0, 1) := by decide +kernel
theorem dL_law_418 : decode cL_law 418 = .ok (.iload_n 3, 1) := by decide +kernel
theorem dL_law_419 : decode cL_law 419 = .ok (.iconst 1, 1) := by decide +kernel
theorem dL_law_420 : decode cL_law 420 = .ok (.iadd, 1) := by decide +kernel
theorem dL_law_421 : decode cL_law 421 = .ok (.iaload, 1) := by decide +kernel
theorem dL_law_422 : decode cL_law 422 = .ok (.aload_n 0, 1) := by decide +kernel
theorem dL_law_423 : decode cL_law 423 = .ok (.iload_n 3, 1) := by decide +kernel
theorem dL_law_424 : decode cL_law 424 = .ok (.iconst 2, 1) := by decide +kernel
theorem dL_law_425 : decode cL_law 425 = .ok (.iadd, 1) := by decide +kernel
theorem dL_law_426 : decode cL_law 426 = .ok (.iaload, 1) := by decide +kernel
theorem dL_law_427 : decode cL_law 427 = .ok (.invokevirtual 65, 3) := by decide +kernel
theorem dL_law_430 : decode cL_law 430 = .ok (.pop, 1) := by decide +kernel
theorem dL_law_431 : decode cL_law 431 = .ok (.goto 105, 3) := by decide +kernel
theorem dL_law_434 : decode cL_law 434 = .ok (.aload_n 1, 1) := by decide +kernel
theorem dL_law_435 : decode cL_law 435 = .ok (.aload_n 0, 1) := by decide +kernel
theorem dL_law_436 : decode cL_law 436 = .ok (.iload_n 3, 1) := by decide +kernel
theorem dL_law_437 : decode cL_law 437 = .ok (.iconst 1, 1) := by decide +kernel
theorem dL_law_438 : decode cL_law 438 = .ok (.iadd, 1) := by decide +kernel
theorem dL_law_439 : decode cL_law 439 = .ok (.iaload, 1) := by decide +kernel
theorem dL_law_440 : decode cL_law 440 = .ok (.aload_n 0, 1) := by decide +kernel
theorem dL_law_441 : decode cL_law 441 = .ok (.iload_n 3, 1) := by decide +kernel
theorem dL_law_442 : decode cL_law 442 = .ok (.iconst 2, 1) := by decide +kernel
theorem dL_law_443 : decode cL_law 443 = .ok (.iadd, 1) := by decide +kernel
theorem dL_law_444 : decode cL_law 444 = .ok (.iaload, 1) := by decide +kernel
theorem dL_law_445 : decode cL_law 445 = .ok (.invokevirtual 66, 3) := by decide +kernel
theorem dL_law_448 : decode cL_law 448 = .ok (.pop, 1) := by decide +kernel
theorem dL_law_449 : decode cL_law 449 = .ok (.aload_n 2, 1) := by decide +kernel
theorem dL_law_450 : decode cL_law 450 = .ok (.aload_n 0, 1) := by decide +kernel
theorem dL_law_451 : decode cL_law 451 = .ok (.iload_n 3, 1) := by decide +kernel
theorem dL_law_452 : decode cL_law 452 = .ok (.iconst 1, 1) := by decide +kernel
theorem dL_law_453 : decode cL_law 453 = .ok (.iadd, 1) := by decide +kernel
theorem dL_law_454 : decode cL_law 454 = .ok (.iaload, 1) := by decide +kernel
theorem dL_law_455 : decode cL_law 455 = .ok (.aload_n 0, 1) := by decide +kernel
theorem dL_law_456 : decode cL_law 456 = .ok (.iload_n 3, 1) := by decide +kernel
theorem dL_law_457 : decode cL_law 457 = .ok (.iconst 2, 1) := by decide +kernel
theorem dL_law_458 : decode cL_law 458 = .ok (.iadd, 1) := by decide +kernel
theorem dL_law_459 : decode cL_law 459 = .ok (.iaload, 1) := by decide +kernel
theorem dL_law_460 : decode cL_law 460 = .ok (.invokevirtual 69, 3) := by decide +kernel
theorem dL_law_463 : decode cL_law 463 = .ok (.pop, 1) := by decide +kernel
theorem dL_law_464 : decode cL_law 464 = .ok (.goto 72, 3) := by decide +kernel
theorem dL_law_467 : decode cL_law 467 = .ok (.aload_n 1, 1) := by decide +kernel
theorem dL_law_468 : decode cL_law 468 = .ok (.aload_n 0, 1) := by decide +kernel
theorem dL_law_469 : decode cL_law 469 = .ok (.iload_n 3, 1) := by decide +kernel
theorem dL_law_470 : decode cL_law 470 = .ok (.iconst 1, 1) := by decide +kernel
theorem dL_law_471 : decode cL_law 471 = .ok (.iadd, 1) := by decide +kernel
theorem dL_law_472 : decode cL_law 472 = .ok (.iaload, 1) := by decide +kernel
theorem dL_law_473 : decode cL_law 473 = .ok (.invokevirtual 70, 3) := by decide +kernel
theorem dL_law_476 : decode cL_law 476 = .ok (.pop, 1) := by decide +kernel
theorem dL_law_477 : decode cL_law 477 = .ok (.aload_n 2, 1) := by decide +kernel
theorem dL_law_478 : decode cL_law 478 = .ok (.aload_n 0, 1) := by decide +kernel
theorem dL_law_479 : decode cL_law 479 = .ok (.iload_n 3, 1) := by decide +kernel
theorem dL_law_480 : decode cL_law 480 = .ok (.iconst 1, 1) := by decide +kernel
theorem dL_law_481 : decode cL_law 481 = .ok (.iadd, 1) := by decide +kernel
theorem dL_law_482 : decode cL_law 482 = .ok (.iaload, 1) := by decide +kernel
theorem dL_law_483 : decode cL_law 483 = .ok (.invokevirtual 73, 3) := by decide +kernel
theorem dL_law_486 : decode cL_law 486 = .ok (.pop, 1) := by decide +kernel
theorem dL_law_487 : decode cL_law 487 = .ok (.goto 49, 3) := by decide +kernel
theorem dL_law_490 : decode cL_law 490 = .ok (.aload_n 1, 1) := by decide +kernel
theorem dL_law_491 : decode cL_law 491 = .ok (.aload_n 0, 1) := by decide +kernel
theorem dL_law_492 : decode cL_law 492 = .ok (.iload_n 3, 1) := by decide +kernel
theorem dL_law_493 : decode cL_law 493 = .ok (.iconst 1, 1) := by decide +kernel
theorem dL_law_494 : decode cL_law 494 = .ok (.iadd, 1) := by decide +kernel
theorem dL_law_495 : decode cL_law 495 = .ok (.iaload, 1) := by decide +kernel
theorem dL_law_496 : decode cL_law 496 = .ok (.invokevirtual 74, 3) := by decide +kernel
theorem dL_law_499 : decode cL_law 499 = .ok (.pop, 1) := by decide +kernel
theorem dL_law_500 : decode cL_law 500 = .ok (.aload_n 2, 1) := by decide +kernel
theorem dL_law_501 : decode cL_law 501 = .ok (.aload_n 0, 1) := by decide +kernel
theorem dL_law_502 : decode cL_law 502 = .ok (.iload_n 3, 1) := by decide +kernel
theorem dL_law_503 : decode cL_law 503 = .ok (.iconst 1, 1) := by decide +kernel
theorem dL_law_504 : decode cL_law 504 = .ok (.iadd, 1) := by decide +kernel
theorem dL_law_505 : decode cL_law 505 = .ok (.iaload, 1) := by decide +kernel
theorem dL_law_506 : decode cL_law 506 = .ok (.invokevirtual 77, 3) := by decide +kernel
theorem dL_law_509 : decode cL_law 509 = .ok (.pop, 1) := by decide +kernel
theorem dL_law_510 : decode cL_law 510 = .ok (.goto 26, 3) := by decide +kernel
theorem dL_law_513 : decode cL_law 513 = .ok (.aload_n 1, 1) := by decide +kernel
theorem dL_law_514 : decode cL_law 514 = .ok (.aload_n 0, 1) := by decide +kernel
theorem dL_law_515 : decode cL_law 515 = .ok (.iload_n 3, 1) := by decide +kernel
theorem dL_law_516 : decode cL_law 516 = .ok (.iconst 1, 1) := by decide +kernel
theorem dL_law_517 : decode cL_law 517 = .ok (.iadd, 1) := by decide +kernel
theorem dL_law_518 : decode cL_law 518 = .ok (.iaload, 1) := by decide +kernel
theorem dL_law_519 : decode cL_law 519 = .ok (.invokevirtual 78, 3) := by decide +kernel
theorem dL_law_522 : decode cL_law 522 = .ok (.pop, 1) := by decide +kernel
theorem dL_law_523 : decode cL_law 523 = .ok (.aload_n 2, 1) := by decide +kernel
theorem dL_law_524 : decode cL_law 524 = .ok (.aload_n 0, 1) := by decide +kernel
theorem dL_law_525 : decode cL_law 525 = .ok (.iload_n 3, 1) := by decide +kernel
theorem dL_law_526 : decode cL_law 526 = .ok (.iconst 1, 1) := by decide +kernel
theorem dL_law_527 : decode cL_law 527 = .ok (.iadd, 1) := by decide +kernel
theorem dL_law_528 : decode cL_law 528 = .ok (.iaload, 1) := by decide +kernel
theorem dL_law_529 : decode cL_law 529 = .ok (.invokevirtual 81, 3) := by decide +kernel
theorem dL_law_532 : decode cL_law 532 = .ok (.pop, 1) := by decide +kernel
theorem dL_law_533 : decode cL_law 533 = .ok (.goto 3, 3) := by decide +kernel
theorem dL_law_536 : decode cL_law 536 = .ok (.iinc 3 5, 3) := by decide +kernel
theorem dL_law_539 : decode cL_law 539 = .ok (.goto (-521), 3) := by decide +kernel
theorem dL_law_542 : decode cL_law 542 = .ok (.iconst 1, 1) := by decide +kernel
theorem dL_law_543 : decode cL_law 543 = .ok (.ireturn, 1) := by decide +kernel
end
section
/-! the logical memory: cell k, place j, an int; ad gives the heap's address of a logical cell, ca the array classes -/
abbrev io_M : Type := Nat → Nat → Int32
def io_up (σ : io_M) (k j : Nat) (v : Int32) : io_M := va_up σ k (va_up (σ k) j v)
def io_src (ad : Nat → Nat) (x : Int32) : Option Nat := if x < 0 then none else some (ad x.toNatClampNeg)
def io_rm (n : Nat) : Room := { frames := n, cells := 0, slots := 0, locals := 40 * n }
def io_bl (x : Int32) : Prop := x = 0 ∨ x = 1
def io_tys (ca : Nat → ClassId) : List (ClassId × FieldType) := [(ca 0, .int), (ca 1, .byte), (ca 2, .boolean), (ca 3, .object "InputOutput$Handle"), (ca 4, .object "InputOutput$LazyList"), (ca 5, .array .int)]
def io_one (ca : Nat → ClassId) (ad : Nat → Nat) (r : Nat → Int32) : List va_E := [
  .inr (1, [.ref (ad 89), .ref (ad 90), .ref (ad 91), .ref (ad 92), .int (r 4)]),
  .inl (ca 2, 8, .inl r),
  .inl (ca 0, 8, .inl r),
  .inl (ca 0, 8, .inl r),
  .inl (ca 5, 8, .inr (.inr (.inr (.inr (fun i => some (ad (80 + i))))))),
  .inr (0, [.ref (ad 94), .ref (ad 95), .int (r 2), .int (r 3), .int (r 4)]),
  .inl (ca 0, 100, .inl r),
  .inl (ca 0, 200, .inl r),
  .inr (7, [.ref (ad 97), .ref (ad 98), .ref (ad 99), .ref (ad 100), .int (r 4)]),
  .inl (ca 0, 60, .inl r),
  .inl (ca 0, 60, .inl r),
  .inl (ca 0, 60, .inl r),
  .inl (ca 0, 60, .inl r),
  .inr (3, [.ref (ad 88), .ref (ad 102), .int (r 2)]),
  .inl (ca 3, 20, .inr (.inr (.inr (.inr (fun i => some (ad i)))))),
  .inr (6, [.ref (ad 104), .int (r 1)]),
  .inl (ca 4, 20, .inr (.inr (.inr (.inr (fun i => some (ad (40 + i))))))),
  .inr (4, [.ref (ad 106), .int (r 1)]),
  .inl (ca 0, 300, .inl r),
  .inr (8, [.ref (ad 96), .ref (ad 93), .ref (ad 101), .ref (ad 103), .ref (ad 105), .ref (ad 108), .ref (ad 109), .int (r 7), .int (r 8), .int (r 9), .int (r 10)]),
  .inl (ca 0, 6, .inl r),
  .inl (ca 0, 6, .inl r),
  .inr (9, [.ref (ad 88), .ref (ad 93), .ref (ad 96), .ref (ad 101), .ref (ad 103), .ref (ad 105), .ref (ad 107)]),
  .inr (10, [.ref (ad 112), .ref (ad 113), .ref (ad 114), .ref (ad 115), .int (r 4), .int (r 5), .ref (ad 116), .int (r 7), .ref (ad 117), .int (r 9), .ref (ad 118), .ref (ad 119), .ref (ad 120), .ref (ad 121), .ref (ad 122), .ref (ad 123), .int (r 16), .ref (ad 124), .ref (ad 125), .ref (ad 126), .ref (ad 127), .ref (ad 128), .ref (ad 129), .ref (ad 130), .ref (ad 131), .ref (ad 132), .ref (ad 133), .ref (ad 134), .int (r 28), .ref (ad 135), .ref (ad 136), .ref (ad 137), .ref (ad 138), .int (r 33), .ref (ad 139), .int (r 35), .int (r 36), .int (r 37), .int (r 38), .ref (ad 140), .ref (ad 141), .ref (ad 142), .ref (ad 143), .ref (ad 144), .ref (ad 145), .ref (ad 146), .int (r 46), .int (r 47), .int (r 48), .int (r 49), .int (r 50), .ref (ad 147), .ref (ad 148)]),
  .inl (ca 2, 8, .inl r),
  .inl (ca 0, 8, .inl r),
  .inl (ca 1, 320, .inl r),
  .inl (ca 0, 8, .inl r),
  .inl (ca 1, 100, .inl r),
  .inl (ca 1, 200, .inl r),
  .inl (ca 0, 60, .inl r),
  .inl (ca 0, 60, .inl r),
  .inl (ca 0, 60, .inl r),
  .inl (ca 0, 60, .inl r),
  .inl (ca 0, 6, .inl r),
  .inl (ca 0, 6, .inl r),
  .inl (ca 0, 20, .inl r),
  .inl (ca 0, 20, .inl r),
  .inl (ca 0, 20, .inl r),
  .inl (ca 0, 20, .inl r),
  .inl (ca 0, 20, .inl r),
  .inl (ca 0, 20, .inl r),
  .inl (ca 0, 20, .inl r),
  .inl (ca 1, 400, .inl r),
  .inl (ca 0, 20, .inl r),
  .inl (ca 0, 20, .inl r),
  .inl (ca 0, 20, .inl r),
  .inl (ca 0, 20, .inl r),
  .inl (ca 0, 20, .inl r),
  .inl (ca 1, 800, .inl r),
  .inl (ca 2, 20, .inl r),
  .inl (ca 0, 300, .inl r),
  .inl (ca 0, 64, .inl r),
  .inl (ca 0, 64, .inl r),
  .inl (ca 0, 64, .inl r),
  .inl (ca 0, 64, .inl r),
  .inl (ca 0, 64, .inl r),
  .inl (ca 0, 64, .inl r),
  .inl (ca 0, 64, .inl r),
  .inl (ca 0, 64, .inl r),
  .inl (ca 0, 64, .inl r)]
def io_ent (ca : Nat → ClassId) (ad : Nat → Nat) (k : Nat) (r : Nat → Int32) : va_E :=
  if k < 20 then .inr (2, [.ref (ad 88), .ref (ad (20 + k)), .int (r 2), .int (r 3), .int (r 4), .int (r 5), .int (r 6), .int (r 7), .int (r 8), .int (r 9), .int (r 10)])
  else if k < 40 then .inl (ca 0, 20, .inl r)
  else if k < 60 then .inr (5, [.ref (ad (20 + k)), va_rf (io_src ad (r 1)), .int (r 2)])
  else if k < 88 then .inl (ca 0, 40, .inl r)
  else (io_one ca ad r).getD (k - 88) (.inr (0, []))
def io_mm (ca : Nat → ClassId) (ad : Nat → Nat) (σ : io_M) : va_W := (List.range 149).map (fun k => (ad k, io_ent ca ad k (σ k)))
theorem io_at {ca : Nat → ClassId} {ad : Nat → Nat} {σ : io_M} {k : Nat} (h : k < 149) : (io_mm ca ad σ)[k]? = some (ad k, io_ent ca ad k (σ k)) := by
  unfold io_mm
  rw [List.getElem?_map, List.getElem?_range h]
  rfl
theorem io_set {ca : Nat → ClassId} {ad : Nat → Nat} {σ : io_M} {k : Nat} (r' : Nat → Int32) : (io_mm ca ad σ).set k (ad k, io_ent ca ad k r') = io_mm ca ad (va_up σ k r') := by
  apply List.ext_getElem?
  intro i
  unfold io_mm
  rw [List.getElem?_set, List.getElem?_map, List.getElem?_map]
  by_cases hik : k = i
  · subst hik
    by_cases hk : k < 149
    · rw [List.getElem?_range hk]
      simp [va_up, hk]
    · have h2 : (List.range 149)[k]? = none := List.getElem?_eq_none (by simp; omega)
      rw [h2]
      simp [hk]
  · by_cases hk : i < 149
    · rw [List.getElem?_range hk]
      simp [va_up, hik, Ne.symm hik]
    · have h2 : (List.range 149)[i]? = none := List.getElem?_eq_none (by simp; omega)
      rw [h2]
      simp [hik]
theorem io_e2 {ca : Nat → ClassId} {ad : Nat → Nat} {k : Nat} (h : k < 20) (r : Nat → Int32) : io_ent ca ad k r = .inr (2, [.ref (ad 88), .ref (ad (20 + k)), .int (r 2), .int (r 3), .int (r 4), .int (r 5), .int (r 6), .int (r 7), .int (r 8), .int (r 9), .int (r 10)]) := if_pos h
theorem io_e5 {ca : Nat → ClassId} {ad : Nat → Nat} {k : Nat} (h : k < 20) (r : Nat → Int32) : io_ent ca ad (40 + k) r = .inr (5, [.ref (ad (20 + (40 + k))), va_rf (io_src ad (r 1)), .int (r 2)]) := by
  unfold io_ent
  rw [if_neg (by omega), if_neg (by omega), if_pos (by omega)]
theorem io_eB {ca : Nat → ClassId} {ad : Nat → Nat} {k : Nat} (h : k < 20) (r : Nat → Int32) : io_ent ca ad (20 + k) r = .inl (ca 0, 20, .inl r) := by
  unfold io_ent
  rw [if_neg (by omega), if_pos (by omega)]
theorem io_eI {ca : Nat → ClassId} {ad : Nat → Nat} {k : Nat} (h : k < 20) (r : Nat → Int32) : io_ent ca ad (20 + (40 + k)) r = .inl (ca 0, 40, .inl r) := by
  unfold io_ent
  rw [if_neg (by omega), if_neg (by omega), if_neg (by omega), if_pos (by omega)]
theorem io_eR {ca : Nat → ClassId} {ad : Nat → Nat} {k : Nat} (h : k < 8) (r : Nat → Int32) : io_ent ca ad (80 + k) r = .inl (ca 0, 40, .inl r) := by
  unfold io_ent
  rw [if_neg (by omega), if_neg (by omega), if_neg (by omega), if_pos (by omega)]
theorem io_e_88 {ca : Nat → ClassId} {ad : Nat → Nat} (r : Nat → Int32) : io_ent ca ad 88 r = .inr (1, [.ref (ad 89), .ref (ad 90), .ref (ad 91), .ref (ad 92), .int (r 4)]) := rfl
theorem io_e_89 {ca : Nat → ClassId} {ad : Nat → Nat} (r : Nat → Int32) : io_ent ca ad 89 r = .inl (ca 2, 8, .inl r) := rfl
theorem io_e_90 {ca : Nat → ClassId} {ad : Nat → Nat} (r : Nat → Int32) : io_ent ca ad 90 r = .inl (ca 0, 8, .inl r) := rfl
theorem io_e_91 {ca : Nat → ClassId} {ad : Nat → Nat} (r : Nat → Int32) : io_ent ca ad 91 r = .inl (ca 0, 8, .inl r) := rfl
theorem io_e_92 {ca : Nat → ClassId} {ad : Nat → Nat} (r : Nat → Int32) : io_ent ca ad 92 r = .inl (ca 5, 8, .inr (.inr (.inr (.inr (fun i => some (ad (80 + i))))))) := rfl
theorem io_e_93 {ca : Nat → ClassId} {ad : Nat → Nat} (r : Nat → Int32) : io_ent ca ad 93 r = .inr (0, [.ref (ad 94), .ref (ad 95), .int (r 2), .int (r 3), .int (r 4)]) := rfl
theorem io_e_94 {ca : Nat → ClassId} {ad : Nat → Nat} (r : Nat → Int32) : io_ent ca ad 94 r = .inl (ca 0, 100, .inl r) := rfl
theorem io_e_95 {ca : Nat → ClassId} {ad : Nat → Nat} (r : Nat → Int32) : io_ent ca ad 95 r = .inl (ca 0, 200, .inl r) := rfl
theorem io_e_96 {ca : Nat → ClassId} {ad : Nat → Nat} (r : Nat → Int32) : io_ent ca ad 96 r = .inr (7, [.ref (ad 97), .ref (ad 98), .ref (ad 99), .ref (ad 100), .int (r 4)]) := rfl
theorem io_e_97 {ca : Nat → ClassId} {ad : Nat → Nat} (r : Nat → Int32) : io_ent ca ad 97 r = .inl (ca 0, 60, .inl r) := rfl
theorem io_e_98 {ca : Nat → ClassId} {ad : Nat → Nat} (r : Nat → Int32) : io_ent ca ad 98 r = .inl (ca 0, 60, .inl r) := rfl
theorem io_e_99 {ca : Nat → ClassId} {ad : Nat → Nat} (r : Nat → Int32) : io_ent ca ad 99 r = .inl (ca 0, 60, .inl r) := rfl
theorem io_e_100 {ca : Nat → ClassId} {ad : Nat → Nat} (r : Nat → Int32) : io_ent ca ad 100 r = .inl (ca 0, 60, .inl r) := rfl
theorem io_e_101 {ca : Nat → ClassId} {ad : Nat → Nat} (r : Nat → Int32) : io_ent ca ad 101 r = .inr (3, [.ref (ad 88), .ref (ad 102), .int (r 2)]) := rfl
theorem io_e_102 {ca : Nat → ClassId} {ad : Nat → Nat} (r : Nat → Int32) : io_ent ca ad 102 r = .inl (ca 3, 20, .inr (.inr (.inr (.inr (fun i => some (ad i)))))) := rfl
theorem io_e_103 {ca : Nat → ClassId} {ad : Nat → Nat} (r : Nat → Int32) : io_ent ca ad 103 r = .inr (6, [.ref (ad 104), .int (r 1)]) := rfl
theorem io_e_104 {ca : Nat → ClassId} {ad : Nat → Nat} (r : Nat → Int32) : io_ent ca ad 104 r = .inl (ca 4, 20, .inr (.inr (.inr (.inr (fun i => some (ad (40 + i))))))) := rfl
theorem io_e_105 {ca : Nat → ClassId} {ad : Nat → Nat} (r : Nat → Int32) : io_ent ca ad 105 r = .inr (4, [.ref (ad 106), .int (r 1)]) := rfl
theorem io_e_106 {ca : Nat → ClassId} {ad : Nat → Nat} (r : Nat → Int32) : io_ent ca ad 106 r = .inl (ca 0, 300, .inl r) := rfl
theorem io_e_107 {ca : Nat → ClassId} {ad : Nat → Nat} (r : Nat → Int32) : io_ent ca ad 107 r = .inr (8, [.ref (ad 96), .ref (ad 93), .ref (ad 101), .ref (ad 103), .ref (ad 105), .ref (ad 108), .ref (ad 109), .int (r 7), .int (r 8), .int (r 9), .int (r 10)]) := rfl
theorem io_e_108 {ca : Nat → ClassId} {ad : Nat → Nat} (r : Nat → Int32) : io_ent ca ad 108 r = .inl (ca 0, 6, .inl r) := rfl
theorem io_e_109 {ca : Nat → ClassId} {ad : Nat → Nat} (r : Nat → Int32) : io_ent ca ad 109 r = .inl (ca 0, 6, .inl r) := rfl
theorem io_e_110 {ca : Nat → ClassId} {ad : Nat → Nat} (r : Nat → Int32) : io_ent ca ad 110 r = .inr (9, [.ref (ad 88), .ref (ad 93), .ref (ad 96), .ref (ad 101), .ref (ad 103), .ref (ad 105), .ref (ad 107)]) := rfl
theorem io_e_111 {ca : Nat → ClassId} {ad : Nat → Nat} (r : Nat → Int32) : io_ent ca ad 111 r = .inr (10, [.ref (ad 112), .ref (ad 113), .ref (ad 114), .ref (ad 115), .int (r 4), .int (r 5), .ref (ad 116), .int (r 7), .ref (ad 117), .int (r 9), .ref (ad 118), .ref (ad 119), .ref (ad 120), .ref (ad 121), .ref (ad 122), .ref (ad 123), .int (r 16), .ref (ad 124), .ref (ad 125), .ref (ad 126), .ref (ad 127), .ref (ad 128), .ref (ad 129), .ref (ad 130), .ref (ad 131), .ref (ad 132), .ref (ad 133), .ref (ad 134), .int (r 28), .ref (ad 135), .ref (ad 136), .ref (ad 137), .ref (ad 138), .int (r 33), .ref (ad 139), .int (r 35), .int (r 36), .int (r 37), .int (r 38), .ref (ad 140), .ref (ad 141), .ref (ad 142), .ref (ad 143), .ref (ad 144), .ref (ad 145), .ref (ad 146), .int (r 46), .int (r 47), .int (r 48), .int (r 49), .int (r 50), .ref (ad 147), .ref (ad 148)]) := rfl
theorem io_e_112 {ca : Nat → ClassId} {ad : Nat → Nat} (r : Nat → Int32) : io_ent ca ad 112 r = .inl (ca 2, 8, .inl r) := rfl
theorem io_e_113 {ca : Nat → ClassId} {ad : Nat → Nat} (r : Nat → Int32) : io_ent ca ad 113 r = .inl (ca 0, 8, .inl r) := rfl
theorem io_e_114 {ca : Nat → ClassId} {ad : Nat → Nat} (r : Nat → Int32) : io_ent ca ad 114 r = .inl (ca 1, 320, .inl r) := rfl
theorem io_e_115 {ca : Nat → ClassId} {ad : Nat → Nat} (r : Nat → Int32) : io_ent ca ad 115 r = .inl (ca 0, 8, .inl r) := rfl
theorem io_e_116 {ca : Nat → ClassId} {ad : Nat → Nat} (r : Nat → Int32) : io_ent ca ad 116 r = .inl (ca 1, 100, .inl r) := rfl
theorem io_e_117 {ca : Nat → ClassId} {ad : Nat → Nat} (r : Nat → Int32) : io_ent ca ad 117 r = .inl (ca 1, 200, .inl r) := rfl
theorem io_e_118 {ca : Nat → ClassId} {ad : Nat → Nat} (r : Nat → Int32) : io_ent ca ad 118 r = .inl (ca 0, 60, .inl r) := rfl
theorem io_e_119 {ca : Nat → ClassId} {ad : Nat → Nat} (r : Nat → Int32) : io_ent ca ad 119 r = .inl (ca 0, 60, .inl r) := rfl
theorem io_e_120 {ca : Nat → ClassId} {ad : Nat → Nat} (r : Nat → Int32) : io_ent ca ad 120 r = .inl (ca 0, 60, .inl r) := rfl
theorem io_e_121 {ca : Nat → ClassId} {ad : Nat → Nat} (r : Nat → Int32) : io_ent ca ad 121 r = .inl (ca 0, 60, .inl r) := rfl
theorem io_e_122 {ca : Nat → ClassId} {ad : Nat → Nat} (r : Nat → Int32) : io_ent ca ad 122 r = .inl (ca 0, 6, .inl r) := rfl
theorem io_e_123 {ca : Nat → ClassId} {ad : Nat → Nat} (r : Nat → Int32) : io_ent ca ad 123 r = .inl (ca 0, 6, .inl r) := rfl
theorem io_e_124 {ca : Nat → ClassId} {ad : Nat → Nat} (r : Nat → Int32) : io_ent ca ad 124 r = .inl (ca 0, 20, .inl r) := rfl
theorem io_e_125 {ca : Nat → ClassId} {ad : Nat → Nat} (r : Nat → Int32) : io_ent ca ad 125 r = .inl (ca 0, 20, .inl r) := rfl
theorem io_e_126 {ca : Nat → ClassId} {ad : Nat → Nat} (r : Nat → Int32) : io_ent ca ad 126 r = .inl (ca 0, 20, .inl r) := rfl
theorem io_e_127 {ca : Nat → ClassId} {ad : Nat → Nat} (r : Nat → Int32) : io_ent ca ad 127 r = .inl (ca 0, 20, .inl r) := rfl
theorem io_e_128 {ca : Nat → ClassId} {ad : Nat → Nat} (r : Nat → Int32) : io_ent ca ad 128 r = .inl (ca 0, 20, .inl r) := rfl
theorem io_e_129 {ca : Nat → ClassId} {ad : Nat → Nat} (r : Nat → Int32) : io_ent ca ad 129 r = .inl (ca 0, 20, .inl r) := rfl
theorem io_e_130 {ca : Nat → ClassId} {ad : Nat → Nat} (r : Nat → Int32) : io_ent ca ad 130 r = .inl (ca 0, 20, .inl r) := rfl
theorem io_e_131 {ca : Nat → ClassId} {ad : Nat → Nat} (r : Nat → Int32) : io_ent ca ad 131 r = .inl (ca 1, 400, .inl r) := rfl
theorem io_e_132 {ca : Nat → ClassId} {ad : Nat → Nat} (r : Nat → Int32) : io_ent ca ad 132 r = .inl (ca 0, 20, .inl r) := rfl
theorem io_e_133 {ca : Nat → ClassId} {ad : Nat → Nat} (r : Nat → Int32) : io_ent ca ad 133 r = .inl (ca 0, 20, .inl r) := rfl
theorem io_e_134 {ca : Nat → ClassId} {ad : Nat → Nat} (r : Nat → Int32) : io_ent ca ad 134 r = .inl (ca 0, 20, .inl r) := rfl
theorem io_e_135 {ca : Nat → ClassId} {ad : Nat → Nat} (r : Nat → Int32) : io_ent ca ad 135 r = .inl (ca 0, 20, .inl r) := rfl
theorem io_e_136 {ca : Nat → ClassId} {ad : Nat → Nat} (r : Nat → Int32) : io_ent ca ad 136 r = .inl (ca 0, 20, .inl r) := rfl
theorem io_e_137 {ca : Nat → ClassId} {ad : Nat → Nat} (r : Nat → Int32) : io_ent ca ad 137 r = .inl (ca 1, 800, .inl r) := rfl
theorem io_e_138 {ca : Nat → ClassId} {ad : Nat → Nat} (r : Nat → Int32) : io_ent ca ad 138 r = .inl (ca 2, 20, .inl r) := rfl
theorem io_e_139 {ca : Nat → ClassId} {ad : Nat → Nat} (r : Nat → Int32) : io_ent ca ad 139 r = .inl (ca 0, 300, .inl r) := rfl
theorem io_e_140 {ca : Nat → ClassId} {ad : Nat → Nat} (r : Nat → Int32) : io_ent ca ad 140 r = .inl (ca 0, 64, .inl r) := rfl
theorem io_e_141 {ca : Nat → ClassId} {ad : Nat → Nat} (r : Nat → Int32) : io_ent ca ad 141 r = .inl (ca 0, 64, .inl r) := rfl
theorem io_e_142 {ca : Nat → ClassId} {ad : Nat → Nat} (r : Nat → Int32) : io_ent ca ad 142 r = .inl (ca 0, 64, .inl r) := rfl
theorem io_e_143 {ca : Nat → ClassId} {ad : Nat → Nat} (r : Nat → Int32) : io_ent ca ad 143 r = .inl (ca 0, 64, .inl r) := rfl
theorem io_e_144 {ca : Nat → ClassId} {ad : Nat → Nat} (r : Nat → Int32) : io_ent ca ad 144 r = .inl (ca 0, 64, .inl r) := rfl
theorem io_e_145 {ca : Nat → ClassId} {ad : Nat → Nat} (r : Nat → Int32) : io_ent ca ad 145 r = .inl (ca 0, 64, .inl r) := rfl
theorem io_e_146 {ca : Nat → ClassId} {ad : Nat → Nat} (r : Nat → Int32) : io_ent ca ad 146 r = .inl (ca 0, 64, .inl r) := rfl
theorem io_e_147 {ca : Nat → ClassId} {ad : Nat → Nat} (r : Nat → Int32) : io_ent ca ad 147 r = .inl (ca 0, 64, .inl r) := rfl
theorem io_e_148 {ca : Nat → ClassId} {ad : Nat → Nat} (r : Nat → Int32) : io_ent ca ad 148 r = .inl (ca 0, 64, .inl r) := rfl
def io_b1 (j : Nat) : Int32 := ([-1, 6, 6, 8, 0, 0, 0, 0, 0, 0, 0, 0, 0, 0, 0, 8, 8, 0, -1, 0, 0, 0, 0, 0, 7, 0, 0, 0, 0] : List Int32).getD j 0
def io_b2 (j : Nat) : Int32 := ([-1, -1, 0, 4, -1, 0, -1, -1, 0, -1, 0, -1, -1, 10, -1, -1, 8, -1, -1, 0, 0, 0, 0, 0, -1, -1, 0, 0, 0] : List Int32).getD j 0
def io_b3 (j : Nat) : Int32 := ([-1, -1, -1, -1, -1, -1, -1, -1, -1, -1, -1, -1, -1, -1, -1, -1, -1, -1, -1, -1, 0, -1, -1, -1, -1, -1, 128, -1, 0] : List Int32).getD j 0
def io_T1 (A : Nat → Prop) (U : State) (H : Heap) (n : String) (f : Nat → Int32) : Prop := ∃ t : Nat, va_Z "InputOutput$Script" n "[I" (.ref t) A U H ∧ va_T .int t 29 (fun j => .int (f j)) A U H
/-- private static calls from a nest mate -/
def io_nl : List (String × Nat × MethodName) := [(RX9, 18, yX0_init), (RX9, 25, yX7_init), (RX6, 21, yX5_init), (RX9, 48, yX4_init), (RX7, 41, yX9_within), (RX3, 28, yX9_within), (RX2, 61, yX9_turned), (RX1, 41, yX9_within), (RX8, 131, yX9_turned), (RX6, 22, yX9_within), (RX5, 23, yX9_within), (RX3, 53, yX9_turned), (RX3, 57, yX9_mayTake), (RX0, 28, yX9_turned), (RX2, 72, yX9_mayTake), (RX6, 32, yX9_turned), (RX4, 25, yX9_within), (RX0, 38, yX9_within)]
def io_NN (U : State) : Prop := ∀ q ∈ io_nl, va_Nw (.methodLinkNest q.1 q.2.1 q.2.2 "InputOutput") U
def io_T (A : Nat → Prop) (U : State) (H : Heap) : Prop := io_T1 A U H "FIRST_BOUNDS" io_b1 ∧ io_T1 A U H "SECOND_BOUNDS" io_b2 ∧ io_T1 A U H "THIRD_BOUNDS" io_b3 ∧ io_NN U
theorem io_T1_to {A : Nat → Prop} {u U : State} {H H1 : Heap} {n : String} {f : Nat → Int32} (hvm : u.vm.Alike U.vm) (hq : ∀ a : Nat, a < H.size → ¬ A a → H1[a]? = H[a]?) (h : io_T1 A u H n f) : io_T1 A U H1 n f := by
  obtain ⟨t, h1, h2⟩ := h
  exact ⟨t, (va_Z.moved hvm h1).kept hq, (va_T.moved hvm h2).kept hq⟩
theorem io_T_to {A : Nat → Prop} {u U : State} {H H1 : Heap} (hW : u.WarmedH U.vm) (hq : ∀ a : Nat, a < H.size → ¬ A a → H1[a]? = H[a]?) (h : io_T A u H) : io_T A U H1 := ⟨io_T1_to hW.alike hq h.1, io_T1_to hW.alike hq h.2.1, io_T1_to hW.alike hq h.2.2.1, fun q hq => (h.2.2.2 q hq).warmM hW⟩
theorem io_T_same {A : Nat → Prop} {u U : State} {H : Heap} (hW : u.vm = U.vm) (h : io_T A u H) : io_T A U H := ⟨io_T1_to (hW ▸ Vm.Alike.refl u.vm) (fun _ _ _ => rfl) h.1, io_T1_to (hW ▸ Vm.Alike.refl u.vm) (fun _ _ _ => rfl) h.2.1, io_T1_to (hW ▸ Vm.Alike.refl u.vm) (fun _ _ _ => rfl) h.2.2.1, fun q hq => (h.2.2.2 q hq).same rfl hW⟩
/-- the world of a state: the cells, the classes, the statics -/
def io_W (D : va_G) (ca : Nat → ClassId) (ad : Nat → Nat) (A : Nat → Prop) (σ : io_M) (U : State) : Prop := va_P D vwCl (io_mm ca ad σ) U.heap ∧ va_K D vwCl (io_tys ca) U ∧ va_D A (io_mm ca ad σ) ∧ io_T A U U.heap
/-- the world on the way: heap H, memory σ, since the entry state s -/
def io_Z (D : va_G) (ca : Nat → ClassId) (ad : Nat → Nat) (A : Nat → Prop) (s : State) (H : Heap) (locs : List Loc) (σ : io_M) : Prop := va_K D vwCl (io_tys ca) s ∧ va_P D vwCl (io_mm ca ad σ) H ∧ va_D A (io_mm ca ad σ) ∧ va_S A s.heap H locs ∧ io_T A s s.heap
theorem io_Z.start {D : va_G} {ca : Nat → ClassId} {ad : Nat → Nat} {A : Nat → Prop} {s : State} {σ : io_M} (h : io_W D ca ad A σ s) : io_Z D ca ad A s s.heap [] σ := ⟨h.2.1, h.1, h.2.2.1, va_S.rf, h.2.2.2⟩
theorem io_Z.end {D : va_G} {ca : Nat → ClassId} {ad : Nat → Nat} {A : Nat → Prop} {s t : State} {H : Heap} {locs : List Loc} {σ : io_M} (Z : io_Z D ca ad A s H locs σ) (ht : t.heap = H) (hW : s.WarmedH t.vm) : io_W D ca ad A σ t := by
  refine ⟨by rw [ht]; exact Z.2.1, va_K.moved hW.alike Z.1, Z.2.2.1, io_T_to hW ?_ Z.2.2.2.2⟩
  intro a h1 h2
  rw [ht]
  exact Z.2.2.2.1.2.1 a h1 h2
theorem io_W.blind {D : va_G} {ca : Nat → ClassId} {ad : Nat → Nat} {A : Nat → Prop} {σ : io_M} {av : List Value} : FrameBlind (va_Pc av (io_W D ca ad A σ)) := fun a U g mk q => ⟨q.1, q.2.1, va_K.moved (u := U) (U := U.calling g mk a) (Vm.Alike.refl U.vm) q.2.2.1, q.2.2.2.1, io_T_same (u := U) (U := U.calling g mk a) rfl q.2.2.2.2⟩
def io_tb : List Cond := lw_tbl.filter goodWord
theorem io_good : ∀ w ∈ io_tb, goodWord w = true := fun w hw => (List.mem_filter.mp hw).2
theorem io_of {w : Cond} (i : Nat) (h : lw_tbl[i]? = some w) (hg : goodWord w = true) : w ∈ io_tb := List.mem_filter.mpr ⟨List.mem_of_getElem? h, hg⟩
theorem io_goodIn {ws : List Cond} (h : ∀ w ∈ ws, w ∈ io_tb) : GoodIn io_tb ws := fun w hw => ⟨h w hw, good_of_word (io_good w (h w hw))⟩
/-- the links of a call: its words among the tables' -/
def io_LkV (own : String) (index : Nat) (C : String) (y : MethodName) (bytes : ByteArray) (maxL : Nat) (ret : Option FieldType) (n : Nat) : Prop :=
  (y.cls = C ∧ y.cls ≠ "java/lang/invoke/MethodHandle" ∧ y.cls ≠ "java/lang/invoke/VarHandle" ∧ (parseMethodDescriptor y.desc).map (fun d => d.parameters.length) = some n) ∧
  (Cond.methodLink own index y ∈ io_tb ∧ Cond.instanceMethod y ∈ io_tb ∧ Cond.selects C y y ∈ io_tb ∧ Cond.initialized C ∈ io_tb ∧ Cond.code y bytes maxL ret ∈ io_tb)
def io_LkS (own : String) (index : Nat) (y : MethodName) (bytes : ByteArray) (maxL : Nat) (ret : Option FieldType) (n : Nat) : Prop :=
  (y.cls ≠ "java/lang/invoke/MethodHandle" ∧ y.cls ≠ "java/lang/invoke/VarHandle" ∧ (parseMethodDescriptor y.desc).map (fun d => d.parameters.length) = some n) ∧
  (Cond.methodLink own index y ∈ io_tb ∧ Cond.static y ∈ io_tb ∧ Cond.initialized y.cls ∈ io_tb ∧ Cond.code y bytes maxL ret ∈ io_tb)
def io_LkN (own : String) (index : Nat) (y : MethodName) (bytes : ByteArray) (maxL : Nat) (ret : Option FieldType) (n : Nat) : Prop :=
  (y.cls ≠ "java/lang/invoke/MethodHandle" ∧ y.cls ≠ "java/lang/invoke/VarHandle" ∧ (parseMethodDescriptor y.desc).map (fun d => d.parameters.length) = some n) ∧
  ((own, index, y) ∈ io_nl ∧ Cond.static y ∈ io_tb ∧ Cond.initialized y.cls ∈ io_tb ∧ Cond.code y bytes maxL ret ∈ io_tb)
theorem io_code_in {y : MethodName} {bytes : ByteArray} {maxL : Nat} {ret : Option FieldType} (h : Cond.code y bytes maxL ret ∈ io_tb) : GoodIn io_tb (Cond.code y bytes maxL ret :: io_tb) := io_goodIn (fun w hw => (List.mem_cons.mp hw).elim (fun e => e ▸ h) id)
section IO
variable {p : Program} {l : Launch} {e : Env} {R : Room} {s : State} {m : MethodId} {args : Array Value} {below : List Frame} {meth : Method} {c : Code} {H : Heap} {locs : List Loc} {cells slots : Nat} {Q : State → Prop} {cc : ByteArray} {pc nL : Nat} {ls : Array Slot} {rest : List Value} {D : va_G} {ca : Nat → ClassId} {ad : Nat → Nat} {A : Nat → Prop} {σ : io_M} {own : String} {index : Nat}
theorem io_cwV {C : String} {y : MethodName} {bytes : ByteArray} {maxL n N : Nat} {ret : Option FieldType} (hts : ∀ w ∈ io_tb, w.before args s = true) (hk : io_LkV own index C y bytes maxL ret n) (hR : N + 1 ≤ R.frames ∧ 8 + (maxL + 11) + 40 * N ≤ R.locals) : CallW R s args own C index y bytes maxL ret (.code y bytes maxL ret :: io_tb) (io_rm N) 0 0 n := by
  obtain ⟨hd, h1, h2, h3, h4, h5⟩ := hk
  refine cwV n hts ?_ rfl rfl rfl hd hR
  refine io_goodIn (fun w hw => ?_)
  unfold wsV at hw
  rcases List.mem_append.mp hw with hw | hw
  · simp only [List.mem_cons, List.not_mem_nil, or_false] at hw
    rcases hw with rfl | rfl | rfl | rfl <;> assumption
  · exact (io_code_in h5 w hw).1
theorem io_cwS {y : MethodName} {bytes : ByteArray} {maxL n N : Nat} {ret : Option FieldType} (hts : ∀ w ∈ io_tb, w.before args s = true) (hk : io_LkS own index y bytes maxL ret n) (hR : N + 1 ≤ R.frames ∧ 8 + (maxL + 11) + 40 * N ≤ R.locals) : CallB R s args own index y bytes maxL ret (.code y bytes maxL ret :: io_tb) (io_rm N) 0 0 n ∧ (Cond.static y).before args s = true := by
  obtain ⟨hd, h1, h2, h3, h5⟩ := hk
  exact ⟨callB_of n hts (io_code_in h5) rfl rfl rfl (hts _ h3) (hts _ h1) hd hR, hts _ h2⟩
theorem io_cwN {y : MethodName} {bytes : ByteArray} {maxL n N : Nat} {ret : Option FieldType} (hts : ∀ w ∈ io_tb, w.before args s = true) (hN : io_NN s) (hk : io_LkN own index y bytes maxL ret n) (hR : N + 1 ≤ R.frames ∧ 8 + (maxL + 11) + 40 * N ≤ R.locals) : va_CN R s args own index y "InputOutput" bytes maxL ret (.code y bytes maxL ret :: io_tb) (io_rm N) 0 0 n ∧ (Cond.static y).before args s = true ∧ True := by
  obtain ⟨hd, h1, h2, h3, h5⟩ := hk
  refine ⟨va_cnB n hts (io_code_in h5) rfl rfl rfl (hN _ h1) (hts _ h3) hd hR, hts _ h2, trivial⟩
theorem io_Zcall {t : State} {H1 : Heap} {locs1 : List Loc} {σ1 : io_M} (Z : io_Z D ca ad A s H locs σ) (ht : t.heap = H1) (hvm : s.vm.Alike t.vm) (hB : io_W D ca ad A σ1 t) (hS : va_S A s.heap H1 locs1) : io_Z D ca ad A s H1 locs1 σ1 := ⟨Z.1, by rw [← ht]; exact hB.1, hB.2.2.1, hS, Z.2.2.2.2⟩
theorem io_Zpre {U : State} (Z : io_Z D ca ad A s H locs σ) (hU : U.heap = H) (hW : s.WarmedH U.vm) : io_W D ca ad A σ U := Z.end hU hW
theorem io_runV {C : String} {T : u_T} {NF ci k : Nat} {fs : List Value} {y : MethodName} {bytes : ByteArray} {maxL n N : Nat} {ret : Option FieldType} {Qc : Array Value → State → Outcome → State → Prop} (As rest : List Value) (B : CallFix p m c cc nL s args io_tb own) (Z : io_Z D ca ad A s H locs σ)
    (hM : Met l y (.code y bytes maxL ret :: io_tb) (io_rm N) (va_Pc (.ref (ad k) :: As) (io_W D ca ad A σ)) Qc 0 0 A) (hk : io_LkV own index C y bytes maxL ret n) (hR : N + 1 ≤ R.frames ∧ 8 + (maxL + 11) + 40 * N ≤ R.locals) (hc : vwCl[ci]? = some (C, T, NF)) (hkN : k < 149) (he : io_ent ca ad k (σ k) = .inr (ci, fs))
    (hn : As.length = n) (hls : ls.size = nL) (hst : (rest.map fun v => v.category).sum ≤ 8) (hdg : decode cc pc = .ok (.invokevirtual index, 3)) (hcs : cells ≤ R.cells ∧ slots ≤ R.slots) :
    va_Run p l e R s m args below meth c H locs cells slots 0 0 (F0 m pc ls (As.reverse ++ .ref (ad k) :: rest)) rest (Qc (Value.ref (ad k) :: As).toArray) A :=
  va_runV (As := As) (rest := rest) B hM (io_cwV B.2.2.2.2 hk hR) ⟨io_W.blind, va_recv Z.1 Z.2.1 hc ((io_at hkN).trans (by rw [he])), fun U hU hW => ⟨rfl, io_Zpre Z hU hW⟩⟩ rfl hn hls rfl (lv_room hst) hdg hcs
theorem io_runS {y : MethodName} {bytes : ByteArray} {maxL n N : Nat} {ret : Option FieldType} {Qc : Array Value → State → Outcome → State → Prop} (As rest : List Value) (B : CallFix p m c cc nL s args io_tb own) (Z : io_Z D ca ad A s H locs σ)
    (hM : Met l y (.code y bytes maxL ret :: io_tb) (io_rm N) (va_Pc As (io_W D ca ad A σ)) Qc 0 0 A) (hk : io_LkS own index y bytes maxL ret n) (hR : N + 1 ≤ R.frames ∧ 8 + (maxL + 11) + 40 * N ≤ R.locals)
    (hn : As.length = n) (hls : ls.size = nL) (hst : (rest.map fun v => v.category).sum ≤ 8) (hdg : decode cc pc = .ok (.invokestatic index, 3)) (hcs : cells ≤ R.cells ∧ slots ≤ R.slots) :
    va_Run p l e R s m args below meth c H locs cells slots 0 0 (F0 m pc ls (As.reverse ++ rest)) rest (Qc As.toArray) A :=
  va_runS (As := As) (rest := rest) B hM (io_cwS B.2.2.2.2 hk hR) ⟨io_W.blind, fun U hU hW => ⟨rfl, io_Zpre Z hU hW⟩⟩ rfl hn hls rfl (lv_room hst) hdg hcs
theorem io_runN {y : MethodName} {bytes : ByteArray} {maxL n N : Nat} {ret : Option FieldType} {Qc : Array Value → State → Outcome → State → Prop} (As rest : List Value) (B : CallFix p m c cc nL s args io_tb own) (Z : io_Z D ca ad A s H locs σ)
    (hM : Met l y (.code y bytes maxL ret :: io_tb) (io_rm N) (va_Pc As (io_W D ca ad A σ)) Qc 0 0 A) (hk : io_LkN own index y bytes maxL ret n) (hR : N + 1 ≤ R.frames ∧ 8 + (maxL + 11) + 40 * N ≤ R.locals)
    (hn : As.length = n) (hls : ls.size = nL) (hst : (rest.map fun v => v.category).sum ≤ 8) (hdg : decode cc pc = .ok (.invokestatic index, 3)) (hcs : cells ≤ R.cells ∧ slots ≤ R.slots) :
    va_Run p l e R s m args below meth c H locs cells slots 0 0 (F0 m pc ls (As.reverse ++ rest)) rest (Qc As.toArray) A :=
  va_runSN (As := As) (rest := rest) B hM (io_cwN B.2.2.2.2 Z.2.2.2.2.2.2.2 hk hR) ⟨io_W.blind, fun U hU hW => ⟨rfl, io_Zpre Z hU hW⟩⟩ rfl hn hls rfl (lv_room hst) hdg hcs
theorem io_call_i {post : Int32 → io_M → Prop} {st0 : List Value} {a : Array Value} (Z : io_Z D ca ad A s H locs σ) (hr : va_Run p l e R s m args below meth c H locs cells slots 0 0 (F0 m pc ls st0) rest (va_Qi post (io_W D ca ad A) A a) A)
    (kk : ∀ (r : Int32) (σ1 : io_M) (H1 : Heap) (locs1 : List Loc), post r σ1 → io_Z D ca ad A s H1 locs1 σ1 → W p l e R s m args below meth c H1 locs1 cells slots Q (F0 m (pc + 3) ls (.int r :: rest))) : W p l e R s m args below meth c H locs cells slots Q (F0 m pc ls st0) :=
  va_calli hr Z.2.2.2.1 (fun _ _ h => h) (fun _ h => h) (fun r u t H1 locs1 ht hvm hp hB _ _ hS => kk r u H1 locs1 hp (io_Zcall Z ht hvm hB hS))
theorem io_call_q {post : Option Nat → io_M → Prop} {st0 : List Value} {a : Array Value} (Z : io_Z D ca ad A s H locs σ) (hr : va_Run p l e R s m args below meth c H locs cells slots 0 0 (F0 m pc ls st0) rest (va_Qq post (io_W D ca ad A) A a) A)
    (kk : ∀ (r : Option Nat) (σ1 : io_M) (H1 : Heap) (locs1 : List Loc), post r σ1 → io_Z D ca ad A s H1 locs1 σ1 → W p l e R s m args below meth c H1 locs1 cells slots Q (F0 m (pc + 3) ls (va_rf r :: rest))) : W p l e R s m args below meth c H locs cells slots Q (F0 m pc ls st0) :=
  va_callq hr Z.2.2.2.1 (fun _ _ h => h) (fun _ h => h) (fun r u t H1 locs1 ht hvm hp hB _ _ hS => kk r u H1 locs1 hp (io_Zcall Z ht hvm hB hS))
theorem io_call_v {post : io_M → Prop} {st0 : List Value} {a : Array Value} (Z : io_Z D ca ad A s H locs σ) (hr : va_Run p l e R s m args below meth c H locs cells slots 0 0 (F0 m pc ls st0) rest (va_Qv post (io_W D ca ad A) A a) A)
    (kk : ∀ (σ1 : io_M) (H1 : Heap) (locs1 : List Loc), post σ1 → io_Z D ca ad A s H1 locs1 σ1 → W p l e R s m args below meth c H1 locs1 cells slots Q (F0 m (pc + 3) ls (rest))) : W p l e R s m args below meth c H locs cells slots Q (F0 m pc ls st0) :=
  va_callv hr Z.2.2.2.1 (fun _ _ h => h) (fun _ h => h) (fun u t H1 locs1 ht hvm hp hB _ _ hS => kk u H1 locs1 hp (io_Zcall Z ht hvm hB hS))
theorem io_get {C : String} {T : u_T} {NF ci : Nat} (B : CallFix p m c cc nL s args io_tb own) (Z : io_Z D ca ad A s H locs σ) (hc : vwCl[ci]? = some (C, T, NF)) (hin : ∀ w ∈ u_ws C T NF, w ∈ io_tb) (k : Nat) (hk : k < 149) {fs : List Value} (he : io_ent ca ad k (σ k) = .inr (ci, fs)) (j : Nat) (hj : j < NF) (hw : Cond.fieldLink own index (T j).1 (T j).2.1 (T j).2.2.1 ∈ io_tb) {v : Value} (hv : fs[j]? = some v) (hdg : decode cc pc = .ok (.getfield index, 3))
    (kk : W p l e R s m args below meth c H locs cells slots Q (F0 m (pc + 3) ls (v :: rest))) : W p l e R s m args below meth c H locs cells slots Q (F0 m pc ls (.ref (ad k) :: rest)) :=
  va_get B.1 B.2.1 B.2.2.2.2 hin B.2.2.2.1 Z.1 Z.2.1 k ((io_at hk).trans (by rw [he])) hc j hj (B.2.2.2.2 _ hw) (fun _ h => h) hv hdg kk
theorem io_put {C : String} {T : u_T} {NF ci : Nat} (B : CallFix p m c cc nL s args io_tb own) (Z : io_Z D ca ad A s H locs σ) (hc : vwCl[ci]? = some (C, T, NF)) (hin : ∀ w ∈ u_ws C T NF, w ∈ io_tb) (ty0 : Nat → FieldType) (hty : ∀ k, k < NF → parseFieldDescriptor (T k).2.2.1 = some (ty0 k)) (hnm : ∀ a, a < NF → ∀ b, b < NF → a ≠ b → (T a).2.1 ≠ (T b).2.1) (k : Nat) (hk : k < 149) {fs : List Value} (he : io_ent ca ad k (σ k) = .inr (ci, fs)) (j : Nat) (hj : j < NF) (hw : Cond.fieldLink own index (T j).1 (T j).2.1 (T j).2.2.1 ∈ io_tb) (hfin : (T j).2.2.2 = false) {ty : FieldType} {v : Value} {x : Int32} (hd : parseFieldDescriptor (T j).2.2.1 = some ty) (hn : narrow ty v = v) (hfit : fits ty v = true) (hl : j < fs.length) (he2 : io_ent ca ad k (va_up (σ k) j x) = .inr (ci, fs.set j v)) (hdg : decode cc pc = .ok (.putfield index, 3))
    (kk : ∀ (σ1 : io_M) (H1 : Heap) (locs1 : List Loc), σ1 = io_up σ k j x → io_Z D ca ad A s H1 locs1 σ1 → W p l e R s m args below meth c H1 locs1 cells slots Q (F0 m (pc + 3) ls rest)) : W p l e R s m args below meth c H locs cells slots Q (F0 m pc ls (v :: .ref (ad k) :: rest)) := by
  refine va_put B.1 B.2.1 B.2.2.2.2 hin ty0 hty hnm B.2.2.2.1 Z.1 Z.2.1 Z.2.2.1 Z.2.2.2.1 k ((io_at hk).trans (by rw [he])) hc j hj (B.2.2.2.2 _ hw) (fun _ h => h) hfin hd hn hfit hl hdg (fun H1 locs1 hP hD hS => ?_)
  rw [← he2, io_set] at hP hD
  exact kk _ H1 locs1 rfl ⟨Z.1, hP, hD, hS, Z.2.2.2.2⟩
theorem io_iald (B : CallFix p m c cc nL s args io_tb own) (Z : io_Z D ca ad A s H locs σ) (k : Nat) (hk : k < 149) {n : Nat} (he : ∀ r, io_ent ca ad k r = .inl (ca 0, n, .inl r)) {i : Int32} (hin : vp_in i n) (hdg : decode cc pc = .ok (.iaload, 1))
    (kk : W p l e R s m args below meth c H locs cells slots Q (F0 m (pc + 1) ls (.int (σ k i.toNatClampNeg) :: rest))) : W p l e R s m args below meth c H locs cells slots Q (F0 m pc ls (.int i :: .ref (ad k) :: rest)) :=
  va_iald B.1 B.2.1 Z.1 Z.2.1 k 0 ((io_at hk).trans (by rw [he])) rfl hin hdg kk
theorem io_iast (B : CallFix p m c cc nL s args io_tb own) (Z : io_Z D ca ad A s H locs σ) (k : Nat) (hk : k < 149) {n : Nat} (he : ∀ r, io_ent ca ad k r = .inl (ca 0, n, .inl r)) {i x : Int32} (hin : vp_in i n) (hdg : decode cc pc = .ok (.iastore, 1))
    (kk : ∀ (σ1 : io_M) (H1 : Heap) (locs1 : List Loc), σ1 = io_up σ k i.toNatClampNeg x → io_Z D ca ad A s H1 locs1 σ1 → W p l e R s m args below meth c H1 locs1 cells slots Q (F0 m (pc + 1) ls rest)) : W p l e R s m args below meth c H locs cells slots Q (F0 m pc ls (.int x :: .int i :: .ref (ad k) :: rest)) := by
  refine va_iast B.1 B.2.1 Z.1 Z.2.1 Z.2.2.1 Z.2.2.2.1 k 0 ((io_at hk).trans (by rw [he])) rfl hin hdg (fun H1 locs1 hP hD hS => ?_)
  rw [← he, io_set] at hP hD
  exact kk _ H1 locs1 rfl ⟨Z.1, hP, hD, hS, Z.2.2.2.2⟩
theorem io_bald (B : CallFix p m c cc nL s args io_tb own) (Z : io_Z D ca ad A s H locs σ) (k : Nat) (hk : k < 149) {n : Nat} (he : ∀ r, io_ent ca ad k r = .inl (ca 1, n, .inl r)) {i : Int32} (hin : vp_in i n) (hdg : decode cc pc = .ok (.baload, 1))
    (kk : W p l e R s m args below meth c H locs cells slots Q (F0 m (pc + 1) ls (.int (σ k i.toNatClampNeg) :: rest))) : W p l e R s m args below meth c H locs cells slots Q (F0 m pc ls (.int i :: .ref (ad k) :: rest)) :=
  va_bald B.1 B.2.1 Z.1 Z.2.1 k 1 ((io_at hk).trans (by rw [he])) rfl hin hdg kk
theorem io_bast (B : CallFix p m c cc nL s args io_tb own) (Z : io_Z D ca ad A s H locs σ) (k : Nat) (hk : k < 149) {n : Nat} (he : ∀ r, io_ent ca ad k r = .inl (ca 1, n, .inl r)) {i x : Int32} (hin : vp_in i n) (hdg : decode cc pc = .ok (.bastore, 1))
    (kk : ∀ (σ1 : io_M) (H1 : Heap) (locs1 : List Loc), σ1 = io_up σ k i.toNatClampNeg (x.toInt8.toInt32) → io_Z D ca ad A s H1 locs1 σ1 → W p l e R s m args below meth c H1 locs1 cells slots Q (F0 m (pc + 1) ls rest)) : W p l e R s m args below meth c H locs cells slots Q (F0 m pc ls (.int x :: .int i :: .ref (ad k) :: rest)) := by
  refine va_bast B.1 B.2.1 Z.1 Z.2.1 Z.2.2.1 Z.2.2.2.1 k 1 ((io_at hk).trans (by rw [he])) rfl hin hdg (fun H1 locs1 hP hD hS => ?_)
  rw [vp_nar_byte] at hP hD
  rw [← he, io_set] at hP hD
  exact kk _ H1 locs1 rfl ⟨Z.1, hP, hD, hS, Z.2.2.2.2⟩
theorem io_zald (B : CallFix p m c cc nL s args io_tb own) (Z : io_Z D ca ad A s H locs σ) (k : Nat) (hk : k < 149) {n : Nat} (he : ∀ r, io_ent ca ad k r = .inl (ca 2, n, .inl r)) {i : Int32} (hin : vp_in i n) (hdg : decode cc pc = .ok (.baload, 1))
    (kk : W p l e R s m args below meth c H locs cells slots Q (F0 m (pc + 1) ls (.int (σ k i.toNatClampNeg) :: rest))) : W p l e R s m args below meth c H locs cells slots Q (F0 m pc ls (.int i :: .ref (ad k) :: rest)) :=
  va_zald B.1 B.2.1 Z.1 Z.2.1 k 2 ((io_at hk).trans (by rw [he])) rfl hin hdg kk
theorem io_zast (B : CallFix p m c cc nL s args io_tb own) (Z : io_Z D ca ad A s H locs σ) (k : Nat) (hk : k < 149) {n : Nat} (he : ∀ r, io_ent ca ad k r = .inl (ca 2, n, .inl r)) {i x : Int32} (hin : vp_in i n) (hdg : decode cc pc = .ok (.bastore, 1))
    (kk : ∀ (σ1 : io_M) (H1 : Heap) (locs1 : List Loc), σ1 = io_up σ k i.toNatClampNeg (vp_nar .boolean x) → io_Z D ca ad A s H1 locs1 σ1 → W p l e R s m args below meth c H1 locs1 cells slots Q (F0 m (pc + 1) ls rest)) : W p l e R s m args below meth c H locs cells slots Q (F0 m pc ls (.int x :: .int i :: .ref (ad k) :: rest)) := by
  refine va_zast B.1 B.2.1 Z.1 Z.2.1 Z.2.2.1 Z.2.2.2.1 k 2 ((io_at hk).trans (by rw [he])) rfl hin hdg (fun H1 locs1 hP hD hS => ?_)
  rw [← he, io_set] at hP hD
  exact kk _ H1 locs1 rfl ⟨Z.1, hP, hD, hS, Z.2.2.2.2⟩
theorem io_aldH (B : CallFix p m c cc nL s args io_tb own) (Z : io_Z D ca ad A s H locs σ) {i : Int32} (hin : vp_in i 20) (hdg : decode cc pc = .ok (.aaload, 1))
    (kk : W p l e R s m args below meth c H locs cells slots Q (F0 m (pc + 1) ls (.ref (ad i.toNatClampNeg) :: rest))) : W p l e R s m args below meth c H locs cells slots Q (F0 m pc ls (.int i :: .ref (ad 102) :: rest)) :=
  va_aldq (f := fun i => some (ad i)) B.1 B.2.1 Z.1 Z.2.1 102 3 (C := "InputOutput$Handle") ((io_at (by decide)).trans (by rw [io_e_102])) rfl hin hdg kk
theorem io_aldL (B : CallFix p m c cc nL s args io_tb own) (Z : io_Z D ca ad A s H locs σ) {i : Int32} (hin : vp_in i 20) (hdg : decode cc pc = .ok (.aaload, 1))
    (kk : W p l e R s m args below meth c H locs cells slots Q (F0 m (pc + 1) ls (.ref (ad (40 + i.toNatClampNeg)) :: rest))) : W p l e R s m args below meth c H locs cells slots Q (F0 m pc ls (.int i :: .ref (ad 104) :: rest)) :=
  va_aldq (f := fun i => some (ad (40 + i))) B.1 B.2.1 Z.1 Z.2.1 104 4 (C := "InputOutput$LazyList") ((io_at (by decide)).trans (by rw [io_e_104])) rfl hin hdg kk
theorem io_aldR (B : CallFix p m c cc nL s args io_tb own) (Z : io_Z D ca ad A s H locs σ) {i : Int32} (hin : vp_in i 8) (hdg : decode cc pc = .ok (.aaload, 1))
    (kk : W p l e R s m args below meth c H locs cells slots Q (F0 m (pc + 1) ls (.ref (ad (80 + i.toNatClampNeg)) :: rest))) : W p l e R s m args below meth c H locs cells slots Q (F0 m pc ls (.int i :: .ref (ad 92) :: rest)) := by
  have ha : (io_mm ca ad σ)[92]? = some (ad 92, .inl (ca 5, 8, .inr (.inr (.inr (.inr (fun i => some (ad (80 + i)))))))) := (io_at (by decide)).trans (by rw [io_e_92])
  have hlt : i.toNatClampNeg < 8 := Nat.not_le.mp fun q => hin (Or.inr q)
  exact W.aald (v := .ref (ad (80 + i.toNatClampNeg))) (ty := .array .int) B.1 B.2.1 (Z.2.1 92 _ ha) ((Z.1.2 5 _ rfl).1 8 (fun j => va_rf (some (ad (80 + j))))) rfl (fun q => by cases q) (by show ¬ (i < 0 ∨ (arrV _ _ _).slots.size ≤ _); rw [arrV_size]; exact hin) (by show (arrV _ _ _).slots[_]? = _; rw [arrV_read _ _ hlt]; rfl) rfl rfl hdg kk
theorem io_lt {i : Int32} {n : Nat} (h : vp_in i n) : i.toNatClampNeg < n := Nat.not_le.mp fun q => h (Or.inr q)
end IO
end
section
theorem io_in0 : ∀ w ∈ u_ws RX0 TX0 5, w ∈ io_tb := by
  intro w hw
  have h : ∀ w ∈ u_ws RX0 TX0 5, w ∈ lw_tbl ∧ goodWord w = true := by decide +kernel
  exact List.mem_filter.mpr (h w hw)
theorem io_in1 : ∀ w ∈ u_ws RX1 TX1 5, w ∈ io_tb := by
  intro w hw
  have h : ∀ w ∈ u_ws RX1 TX1 5, w ∈ lw_tbl ∧ goodWord w = true := by decide +kernel
  exact List.mem_filter.mpr (h w hw)
theorem io_in2 : ∀ w ∈ u_ws RX2 TX2 11, w ∈ io_tb := by
  intro w hw
  have h : ∀ w ∈ u_ws RX2 TX2 11, w ∈ lw_tbl ∧ goodWord w = true := by decide +kernel
  exact List.mem_filter.mpr (h w hw)
theorem io_in3 : ∀ w ∈ u_ws RX3 TX3 3, w ∈ io_tb := by
  intro w hw
  have h : ∀ w ∈ u_ws RX3 TX3 3, w ∈ lw_tbl ∧ goodWord w = true := by decide +kernel
  exact List.mem_filter.mpr (h w hw)
theorem io_in4 : ∀ w ∈ u_ws RX4 TX4 2, w ∈ io_tb := by
  intro w hw
  have h : ∀ w ∈ u_ws RX4 TX4 2, w ∈ lw_tbl ∧ goodWord w = true := by decide +kernel
  exact List.mem_filter.mpr (h w hw)
theorem io_in5 : ∀ w ∈ u_ws RX5 TX5 3, w ∈ io_tb := by
  intro w hw
  have h : ∀ w ∈ u_ws RX5 TX5 3, w ∈ lw_tbl ∧ goodWord w = true := by decide +kernel
  exact List.mem_filter.mpr (h w hw)
theorem io_in6 : ∀ w ∈ u_ws RX6 TX6 2, w ∈ io_tb := by
  intro w hw
  have h : ∀ w ∈ u_ws RX6 TX6 2, w ∈ lw_tbl ∧ goodWord w = true := by decide +kernel
  exact List.mem_filter.mpr (h w hw)
theorem io_in7 : ∀ w ∈ u_ws RX7 TX7 5, w ∈ io_tb := by
  intro w hw
  have h : ∀ w ∈ u_ws RX7 TX7 5, w ∈ lw_tbl ∧ goodWord w = true := by decide +kernel
  exact List.mem_filter.mpr (h w hw)
theorem io_in8 : ∀ w ∈ u_ws RX8 TX8 11, w ∈ io_tb := by
  intro w hw
  have h : ∀ w ∈ u_ws RX8 TX8 11, w ∈ lw_tbl ∧ goodWord w = true := by decide +kernel
  exact List.mem_filter.mpr (h w hw)
theorem io_in9 : ∀ w ∈ u_ws RX9 TX9 7, w ∈ io_tb := by
  intro w hw
  have h : ∀ w ∈ u_ws RX9 TX9 7, w ∈ lw_tbl ∧ goodWord w = true := by decide +kernel
  exact List.mem_filter.mpr (h w hw)
theorem io_in10 : ∀ w ∈ u_ws RX10 TX10 53, w ∈ io_tb := by
  intro w hw
  have h : ∀ w ∈ u_ws RX10 TX10 53, w ∈ lw_tbl ∧ goodWord w = true := by decide +kernel
  exact List.mem_filter.mpr (h w hw)
theorem io_src_nI {ad : Nat → Nat} {h : Nat} (hh : h < 20) : io_src ad (nI h) = some (ad h) := by
  unfold io_src
  rw [if_neg (nI_pos (by omega)), nI_clamp (by omega)]
section IW
variable {p : Program} {l : Launch} {e : Env} {R : Room} {s : State} {m : MethodId} {args : Array Value} {below : List Frame} {meth : Method} {c : Code} {H : Heap} {locs : List Loc} {cells slots : Nat} {Q : State → Prop} {cc : ByteArray} {pc nL : Nat} {ls : Array Slot} {rest : List Value} {D : va_G} {ca : Nat → ClassId} {ad : Nat → Nat} {A : Nat → Prop} {σ : io_M}
theorem io_g_0_0 (B : CallFix p m c cc nL s args io_tb RX0) (Z : io_Z D ca ad A s H locs σ) (hdg : decode cc pc = .ok (.getfield 9, 3)) (kk : W p l e R s m args below meth c H locs cells slots Q (F0 m (pc + 3) ls (.ref (ad 94) :: rest))) : W p l e R s m args below meth c H locs cells slots Q (F0 m pc ls (.ref (ad 93) :: rest)) :=
  io_get B Z (ci := 0) rfl io_in0 93 (by decide) (io_e_93 _) 0 (by decide) (io_of 122 (by decide +kernel) (by decide +kernel)) rfl hdg kk
theorem io_g_0_1 (B : CallFix p m c cc nL s args io_tb RX0) (Z : io_Z D ca ad A s H locs σ) (hdg : decode cc pc = .ok (.getfield 15, 3)) (kk : W p l e R s m args below meth c H locs cells slots Q (F0 m (pc + 3) ls (.ref (ad 95) :: rest))) : W p l e R s m args below meth c H locs cells slots Q (F0 m pc ls (.ref (ad 93) :: rest)) :=
  io_get B Z (ci := 0) rfl io_in0 93 (by decide) (io_e_93 _) 1 (by decide) (io_of 123 (by decide +kernel) (by decide +kernel)) rfl hdg kk
theorem io_g_0_2 (B : CallFix p m c cc nL s args io_tb RX0) (Z : io_Z D ca ad A s H locs σ) (hdg : decode cc pc = .ok (.getfield 18, 3)) (kk : W p l e R s m args below meth c H locs cells slots Q (F0 m (pc + 3) ls (.int (σ 93 2) :: rest))) : W p l e R s m args below meth c H locs cells slots Q (F0 m pc ls (.ref (ad 93) :: rest)) :=
  io_get B Z (ci := 0) rfl io_in0 93 (by decide) (io_e_93 _) 2 (by decide) (io_of 124 (by decide +kernel) (by decide +kernel)) rfl hdg kk
theorem io_p_0_2 (B : CallFix p m c cc nL s args io_tb RX0) (Z : io_Z D ca ad A s H locs σ) {x : Int32} (hdg : decode cc pc = .ok (.putfield 18, 3)) (kk : ∀ (σ1 : io_M) (H1 : Heap) (locs1 : List Loc), σ1 = io_up σ 93 2 x → io_Z D ca ad A s H1 locs1 σ1 → W p l e R s m args below meth c H1 locs1 cells slots Q (F0 m (pc + 3) ls rest)) : W p l e R s m args below meth c H locs cells slots Q (F0 m pc ls (.int x :: .ref (ad 93) :: rest)) :=
  io_put B Z (ci := 0) (ty := .int) (x := x) rfl io_in0 tyX0 tyX0_ok nmX0 93 (by decide) (io_e_93 _) 2 (by decide) (io_of 124 (by decide +kernel) (by decide +kernel)) rfl (by decide +kernel) rfl rfl (Nat.le_of_ble_eq_true rfl) (io_e_93 _) hdg kk
theorem io_g_0_3 (B : CallFix p m c cc nL s args io_tb RX0) (Z : io_Z D ca ad A s H locs σ) (hdg : decode cc pc = .ok (.getfield 22, 3)) (kk : W p l e R s m args below meth c H locs cells slots Q (F0 m (pc + 3) ls (.int (σ 93 3) :: rest))) : W p l e R s m args below meth c H locs cells slots Q (F0 m pc ls (.ref (ad 93) :: rest)) :=
  io_get B Z (ci := 0) rfl io_in0 93 (by decide) (io_e_93 _) 3 (by decide) (io_of 125 (by decide +kernel) (by decide +kernel)) rfl hdg kk
theorem io_p_0_3 (B : CallFix p m c cc nL s args io_tb RX0) (Z : io_Z D ca ad A s H locs σ) {x : Int32} (hdg : decode cc pc = .ok (.putfield 22, 3)) (kk : ∀ (σ1 : io_M) (H1 : Heap) (locs1 : List Loc), σ1 = io_up σ 93 3 x → io_Z D ca ad A s H1 locs1 σ1 → W p l e R s m args below meth c H1 locs1 cells slots Q (F0 m (pc + 3) ls rest)) : W p l e R s m args below meth c H locs cells slots Q (F0 m pc ls (.int x :: .ref (ad 93) :: rest)) :=
  io_put B Z (ci := 0) (ty := .int) (x := x) rfl io_in0 tyX0 tyX0_ok nmX0 93 (by decide) (io_e_93 _) 3 (by decide) (io_of 125 (by decide +kernel) (by decide +kernel)) rfl (by decide +kernel) rfl rfl (Nat.le_of_ble_eq_true rfl) (io_e_93 _) hdg kk
theorem io_g_0_4 (B : CallFix p m c cc nL s args io_tb RX0) (Z : io_Z D ca ad A s H locs σ) (hdg : decode cc pc = .ok (.getfield 25, 3)) (kk : W p l e R s m args below meth c H locs cells slots Q (F0 m (pc + 3) ls (.int (σ 93 4) :: rest))) : W p l e R s m args below meth c H locs cells slots Q (F0 m pc ls (.ref (ad 93) :: rest)) :=
  io_get B Z (ci := 0) rfl io_in0 93 (by decide) (io_e_93 _) 4 (by decide) (io_of 126 (by decide +kernel) (by decide +kernel)) rfl hdg kk
theorem io_p_0_4 (B : CallFix p m c cc nL s args io_tb RX0) (Z : io_Z D ca ad A s H locs σ) {x : Int32} (hdg : decode cc pc = .ok (.putfield 25, 3)) (kk : ∀ (σ1 : io_M) (H1 : Heap) (locs1 : List Loc), σ1 = io_up σ 93 4 x → io_Z D ca ad A s H1 locs1 σ1 → W p l e R s m args below meth c H1 locs1 cells slots Q (F0 m (pc + 3) ls rest)) : W p l e R s m args below meth c H locs cells slots Q (F0 m pc ls (.int x :: .ref (ad 93) :: rest)) :=
  io_put B Z (ci := 0) (ty := .int) (x := x) rfl io_in0 tyX0 tyX0_ok nmX0 93 (by decide) (io_e_93 _) 4 (by decide) (io_of 126 (by decide +kernel) (by decide +kernel)) rfl (by decide +kernel) rfl rfl (Nat.le_of_ble_eq_true rfl) (io_e_93 _) hdg kk
theorem io_g_1_0 (B : CallFix p m c cc nL s args io_tb RX1) (Z : io_Z D ca ad A s H locs σ) (hdg : decode cc pc = .ok (.getfield 9, 3)) (kk : W p l e R s m args below meth c H locs cells slots Q (F0 m (pc + 3) ls (.ref (ad 89) :: rest))) : W p l e R s m args below meth c H locs cells slots Q (F0 m pc ls (.ref (ad 88) :: rest)) :=
  io_get B Z (ci := 1) rfl io_in1 88 (by decide) (io_e_88 _) 0 (by decide) (io_of 98 (by decide +kernel) (by decide +kernel)) rfl hdg kk
theorem io_g_1_1 (B : CallFix p m c cc nL s args io_tb RX1) (Z : io_Z D ca ad A s H locs σ) (hdg : decode cc pc = .ok (.getfield 15, 3)) (kk : W p l e R s m args below meth c H locs cells slots Q (F0 m (pc + 3) ls (.ref (ad 90) :: rest))) : W p l e R s m args below meth c H locs cells slots Q (F0 m pc ls (.ref (ad 88) :: rest)) :=
  io_get B Z (ci := 1) rfl io_in1 88 (by decide) (io_e_88 _) 1 (by decide) (io_of 99 (by decide +kernel) (by decide +kernel)) rfl hdg kk
theorem io_g_1_2 (B : CallFix p m c cc nL s args io_tb RX1) (Z : io_Z D ca ad A s H locs σ) (hdg : decode cc pc = .ok (.getfield 19, 3)) (kk : W p l e R s m args below meth c H locs cells slots Q (F0 m (pc + 3) ls (.ref (ad 91) :: rest))) : W p l e R s m args below meth c H locs cells slots Q (F0 m pc ls (.ref (ad 88) :: rest)) :=
  io_get B Z (ci := 1) rfl io_in1 88 (by decide) (io_e_88 _) 2 (by decide) (io_of 100 (by decide +kernel) (by decide +kernel)) rfl hdg kk
theorem io_g_1_3 (B : CallFix p m c cc nL s args io_tb RX1) (Z : io_Z D ca ad A s H locs σ) (hdg : decode cc pc = .ok (.getfield 24, 3)) (kk : W p l e R s m args below meth c H locs cells slots Q (F0 m (pc + 3) ls (.ref (ad 92) :: rest))) : W p l e R s m args below meth c H locs cells slots Q (F0 m pc ls (.ref (ad 88) :: rest)) :=
  io_get B Z (ci := 1) rfl io_in1 88 (by decide) (io_e_88 _) 3 (by decide) (io_of 101 (by decide +kernel) (by decide +kernel)) rfl hdg kk
theorem io_g_1_4 (B : CallFix p m c cc nL s args io_tb RX1) (Z : io_Z D ca ad A s H locs σ) (hdg : decode cc pc = .ok (.getfield 27, 3)) (kk : W p l e R s m args below meth c H locs cells slots Q (F0 m (pc + 3) ls (.int (σ 88 4) :: rest))) : W p l e R s m args below meth c H locs cells slots Q (F0 m pc ls (.ref (ad 88) :: rest)) :=
  io_get B Z (ci := 1) rfl io_in1 88 (by decide) (io_e_88 _) 4 (by decide) (io_of 102 (by decide +kernel) (by decide +kernel)) rfl hdg kk
theorem io_p_1_4 (B : CallFix p m c cc nL s args io_tb RX1) (Z : io_Z D ca ad A s H locs σ) {x : Int32} (hdg : decode cc pc = .ok (.putfield 27, 3)) (kk : ∀ (σ1 : io_M) (H1 : Heap) (locs1 : List Loc), σ1 = io_up σ 88 4 x → io_Z D ca ad A s H1 locs1 σ1 → W p l e R s m args below meth c H1 locs1 cells slots Q (F0 m (pc + 3) ls rest)) : W p l e R s m args below meth c H locs cells slots Q (F0 m pc ls (.int x :: .ref (ad 88) :: rest)) :=
  io_put B Z (ci := 1) (ty := .int) (x := x) rfl io_in1 tyX1 tyX1_ok nmX1 88 (by decide) (io_e_88 _) 4 (by decide) (io_of 102 (by decide +kernel) (by decide +kernel)) rfl (by decide +kernel) rfl rfl (Nat.le_of_ble_eq_true rfl) (io_e_88 _) hdg kk
theorem io_g_2_0 (B : CallFix p m c cc nL s args io_tb RX2) (Z : io_Z D ca ad A s H locs σ) {k : Nat} (hk : k < 20) (hdg : decode cc pc = .ok (.getfield 43, 3)) (kk : W p l e R s m args below meth c H locs cells slots Q (F0 m (pc + 3) ls (.ref (ad 88) :: rest))) : W p l e R s m args below meth c H locs cells slots Q (F0 m pc ls (.ref (ad k) :: rest)) :=
  io_get B Z (ci := 2) rfl io_in2 k (Nat.lt_trans hk (by decide)) (io_e2 hk _) 0 (by decide) (io_of 173 (by decide +kernel) (by decide +kernel)) rfl hdg kk
theorem io_g_2_1 (B : CallFix p m c cc nL s args io_tb RX2) (Z : io_Z D ca ad A s H locs σ) {k : Nat} (hk : k < 20) (hdg : decode cc pc = .ok (.getfield 9, 3)) (kk : W p l e R s m args below meth c H locs cells slots Q (F0 m (pc + 3) ls (.ref (ad (20 + k)) :: rest))) : W p l e R s m args below meth c H locs cells slots Q (F0 m pc ls (.ref (ad k) :: rest)) :=
  io_get B Z (ci := 2) rfl io_in2 k (Nat.lt_trans hk (by decide)) (io_e2 hk _) 1 (by decide) (io_of 174 (by decide +kernel) (by decide +kernel)) rfl hdg kk
theorem io_g_2_2 (B : CallFix p m c cc nL s args io_tb RX2) (Z : io_Z D ca ad A s H locs σ) {k : Nat} (hk : k < 20) (hdg : decode cc pc = .ok (.getfield 15, 3)) (kk : W p l e R s m args below meth c H locs cells slots Q (F0 m (pc + 3) ls (.int (σ k 2) :: rest))) : W p l e R s m args below meth c H locs cells slots Q (F0 m pc ls (.ref (ad k) :: rest)) :=
  io_get B Z (ci := 2) rfl io_in2 k (Nat.lt_trans hk (by decide)) (io_e2 hk _) 2 (by decide) (io_of 175 (by decide +kernel) (by decide +kernel)) rfl hdg kk
theorem io_p_2_2 (B : CallFix p m c cc nL s args io_tb RX2) (Z : io_Z D ca ad A s H locs σ) {k : Nat} (hk : k < 20) {x : Int32} (hdg : decode cc pc = .ok (.putfield 15, 3)) (kk : ∀ (σ1 : io_M) (H1 : Heap) (locs1 : List Loc), σ1 = io_up σ k 2 x → io_Z D ca ad A s H1 locs1 σ1 → W p l e R s m args below meth c H1 locs1 cells slots Q (F0 m (pc + 3) ls rest)) : W p l e R s m args below meth c H locs cells slots Q (F0 m pc ls (.int x :: .ref (ad k) :: rest)) :=
  io_put B Z (ci := 2) (ty := .int) (x := x) rfl io_in2 tyX2 tyX2_ok nmX2 k (Nat.lt_trans hk (by decide)) (io_e2 hk _) 2 (by decide) (io_of 175 (by decide +kernel) (by decide +kernel)) rfl (by decide +kernel) rfl rfl (Nat.le_of_ble_eq_true rfl) (io_e2 hk _) hdg kk
theorem io_g_2_3 (B : CallFix p m c cc nL s args io_tb RX2) (Z : io_Z D ca ad A s H locs σ) {k : Nat} (hk : k < 20) (hdg : decode cc pc = .ok (.getfield 19, 3)) (kk : W p l e R s m args below meth c H locs cells slots Q (F0 m (pc + 3) ls (.int (σ k 3) :: rest))) : W p l e R s m args below meth c H locs cells slots Q (F0 m pc ls (.ref (ad k) :: rest)) :=
  io_get B Z (ci := 2) rfl io_in2 k (Nat.lt_trans hk (by decide)) (io_e2 hk _) 3 (by decide) (io_of 176 (by decide +kernel) (by decide +kernel)) rfl hdg kk
theorem io_p_2_3 (B : CallFix p m c cc nL s args io_tb RX2) (Z : io_Z D ca ad A s H locs σ) {k : Nat} (hk : k < 20) {x : Int32} (hdg : decode cc pc = .ok (.putfield 19, 3)) (kk : ∀ (σ1 : io_M) (H1 : Heap) (locs1 : List Loc), σ1 = io_up σ k 3 x → io_Z D ca ad A s H1 locs1 σ1 → W p l e R s m args below meth c H1 locs1 cells slots Q (F0 m (pc + 3) ls rest)) : W p l e R s m args below meth c H locs cells slots Q (F0 m pc ls (.int x :: .ref (ad k) :: rest)) :=
  io_put B Z (ci := 2) (ty := .int) (x := x) rfl io_in2 tyX2 tyX2_ok nmX2 k (Nat.lt_trans hk (by decide)) (io_e2 hk _) 3 (by decide) (io_of 176 (by decide +kernel) (by decide +kernel)) rfl (by decide +kernel) rfl rfl (Nat.le_of_ble_eq_true rfl) (io_e2 hk _) hdg kk
theorem io_g_2_4 (B : CallFix p m c cc nL s args io_tb RX2) (Z : io_Z D ca ad A s H locs σ) {k : Nat} (hk : k < 20) (hdg : decode cc pc = .ok (.getfield 22, 3)) (kk : W p l e R s m args below meth c H locs cells slots Q (F0 m (pc + 3) ls (.int (σ k 4) :: rest))) : W p l e R s m args below meth c H locs cells slots Q (F0 m pc ls (.ref (ad k) :: rest)) :=
  io_get B Z (ci := 2) rfl io_in2 k (Nat.lt_trans hk (by decide)) (io_e2 hk _) 4 (by decide) (io_of 177 (by decide +kernel) (by decide +kernel)) rfl hdg kk
theorem io_p_2_4 (B : CallFix p m c cc nL s args io_tb RX2) (Z : io_Z D ca ad A s H locs σ) {k : Nat} (hk : k < 20) {x : Int32} (hdg : decode cc pc = .ok (.putfield 22, 3)) (kk : ∀ (σ1 : io_M) (H1 : Heap) (locs1 : List Loc), σ1 = io_up σ k 4 x → io_Z D ca ad A s H1 locs1 σ1 → W p l e R s m args below meth c H1 locs1 cells slots Q (F0 m (pc + 3) ls rest)) : W p l e R s m args below meth c H locs cells slots Q (F0 m pc ls (.int x :: .ref (ad k) :: rest)) :=
  io_put B Z (ci := 2) (ty := .int) (x := x) rfl io_in2 tyX2 tyX2_ok nmX2 k (Nat.lt_trans hk (by decide)) (io_e2 hk _) 4 (by decide) (io_of 177 (by decide +kernel) (by decide +kernel)) rfl (by decide +kernel) rfl rfl (Nat.le_of_ble_eq_true rfl) (io_e2 hk _) hdg kk
theorem io_g_2_5 (B : CallFix p m c cc nL s args io_tb RX2) (Z : io_Z D ca ad A s H locs σ) {k : Nat} (hk : k < 20) (hdg : decode cc pc = .ok (.getfield 25, 3)) (kk : W p l e R s m args below meth c H locs cells slots Q (F0 m (pc + 3) ls (.int (σ k 5) :: rest))) : W p l e R s m args below meth c H locs cells slots Q (F0 m pc ls (.ref (ad k) :: rest)) :=
  io_get B Z (ci := 2) rfl io_in2 k (Nat.lt_trans hk (by decide)) (io_e2 hk _) 5 (by decide) (io_of 178 (by decide +kernel) (by decide +kernel)) rfl hdg kk
theorem io_p_2_5 (B : CallFix p m c cc nL s args io_tb RX2) (Z : io_Z D ca ad A s H locs σ) {k : Nat} (hk : k < 20) {x : Int32} (hdg : decode cc pc = .ok (.putfield 25, 3)) (kk : ∀ (σ1 : io_M) (H1 : Heap) (locs1 : List Loc), σ1 = io_up σ k 5 x → io_Z D ca ad A s H1 locs1 σ1 → W p l e R s m args below meth c H1 locs1 cells slots Q (F0 m (pc + 3) ls rest)) : W p l e R s m args below meth c H locs cells slots Q (F0 m pc ls (.int x :: .ref (ad k) :: rest)) :=
  io_put B Z (ci := 2) (ty := .int) (x := x) rfl io_in2 tyX2 tyX2_ok nmX2 k (Nat.lt_trans hk (by decide)) (io_e2 hk _) 5 (by decide) (io_of 178 (by decide +kernel) (by decide +kernel)) rfl (by decide +kernel) rfl rfl (Nat.le_of_ble_eq_true rfl) (io_e2 hk _) hdg kk
theorem io_g_2_6 (B : CallFix p m c cc nL s args io_tb RX2) (Z : io_Z D ca ad A s H locs σ) {k : Nat} (hk : k < 20) (hdg : decode cc pc = .ok (.getfield 28, 3)) (kk : W p l e R s m args below meth c H locs cells slots Q (F0 m (pc + 3) ls (.int (σ k 6) :: rest))) : W p l e R s m args below meth c H locs cells slots Q (F0 m pc ls (.ref (ad k) :: rest)) :=
  io_get B Z (ci := 2) rfl io_in2 k (Nat.lt_trans hk (by decide)) (io_e2 hk _) 6 (by decide) (io_of 179 (by decide +kernel) (by decide +kernel)) rfl hdg kk
theorem io_p_2_6 (B : CallFix p m c cc nL s args io_tb RX2) (Z : io_Z D ca ad A s H locs σ) {k : Nat} (hk : k < 20) {x : Int32} (hdg : decode cc pc = .ok (.putfield 28, 3)) (kk : ∀ (σ1 : io_M) (H1 : Heap) (locs1 : List Loc), σ1 = io_up σ k 6 x → io_Z D ca ad A s H1 locs1 σ1 → W p l e R s m args below meth c H1 locs1 cells slots Q (F0 m (pc + 3) ls rest)) : W p l e R s m args below meth c H locs cells slots Q (F0 m pc ls (.int x :: .ref (ad k) :: rest)) :=
  io_put B Z (ci := 2) (ty := .int) (x := x) rfl io_in2 tyX2 tyX2_ok nmX2 k (Nat.lt_trans hk (by decide)) (io_e2 hk _) 6 (by decide) (io_of 179 (by decide +kernel) (by decide +kernel)) rfl (by decide +kernel) rfl rfl (Nat.le_of_ble_eq_true rfl) (io_e2 hk _) hdg kk
theorem io_g_2_7 (B : CallFix p m c cc nL s args io_tb RX2) (Z : io_Z D ca ad A s H locs σ) {k : Nat} (hk : k < 20) (hdg : decode cc pc = .ok (.getfield 31, 3)) (kk : W p l e R s m args below meth c H locs cells slots Q (F0 m (pc + 3) ls (.int (σ k 7) :: rest))) : W p l e R s m args below meth c H locs cells slots Q (F0 m pc ls (.ref (ad k) :: rest)) :=
  io_get B Z (ci := 2) rfl io_in2 k (Nat.lt_trans hk (by decide)) (io_e2 hk _) 7 (by decide) (io_of 180 (by decide +kernel) (by decide +kernel)) rfl hdg kk
theorem io_p_2_7 (B : CallFix p m c cc nL s args io_tb RX2) (Z : io_Z D ca ad A s H locs σ) {k : Nat} (hk : k < 20) {x : Int32} (hdg : decode cc pc = .ok (.putfield 31, 3)) (kk : ∀ (σ1 : io_M) (H1 : Heap) (locs1 : List Loc), σ1 = io_up σ k 7 x → io_Z D ca ad A s H1 locs1 σ1 → W p l e R s m args below meth c H1 locs1 cells slots Q (F0 m (pc + 3) ls rest)) : W p l e R s m args below meth c H locs cells slots Q (F0 m pc ls (.int x :: .ref (ad k) :: rest)) :=
  io_put B Z (ci := 2) (ty := .int) (x := x) rfl io_in2 tyX2 tyX2_ok nmX2 k (Nat.lt_trans hk (by decide)) (io_e2 hk _) 7 (by decide) (io_of 180 (by decide +kernel) (by decide +kernel)) rfl (by decide +kernel) rfl rfl (Nat.le_of_ble_eq_true rfl) (io_e2 hk _) hdg kk
theorem io_g_2_8 (B : CallFix p m c cc nL s args io_tb RX2) (Z : io_Z D ca ad A s H locs σ) {k : Nat} (hk : k < 20) (hdg : decode cc pc = .ok (.getfield 34, 3)) (kk : W p l e R s m args below meth c H locs cells slots Q (F0 m (pc + 3) ls (.int (σ k 8) :: rest))) : W p l e R s m args below meth c H locs cells slots Q (F0 m pc ls (.ref (ad k) :: rest)) :=
  io_get B Z (ci := 2) rfl io_in2 k (Nat.lt_trans hk (by decide)) (io_e2 hk _) 8 (by decide) (io_of 181 (by decide +kernel) (by decide +kernel)) rfl hdg kk
theorem io_p_2_8 (B : CallFix p m c cc nL s args io_tb RX2) (Z : io_Z D ca ad A s H locs σ) {k : Nat} (hk : k < 20) {x : Int32} (hdg : decode cc pc = .ok (.putfield 34, 3)) (kk : ∀ (σ1 : io_M) (H1 : Heap) (locs1 : List Loc), σ1 = io_up σ k 8 x → io_Z D ca ad A s H1 locs1 σ1 → W p l e R s m args below meth c H1 locs1 cells slots Q (F0 m (pc + 3) ls rest)) : W p l e R s m args below meth c H locs cells slots Q (F0 m pc ls (.int x :: .ref (ad k) :: rest)) :=
  io_put B Z (ci := 2) (ty := .int) (x := x) rfl io_in2 tyX2 tyX2_ok nmX2 k (Nat.lt_trans hk (by decide)) (io_e2 hk _) 8 (by decide) (io_of 181 (by decide +kernel) (by decide +kernel)) rfl (by decide +kernel) rfl rfl (Nat.le_of_ble_eq_true rfl) (io_e2 hk _) hdg kk
theorem io_g_2_9 (B : CallFix p m c cc nL s args io_tb RX2) (Z : io_Z D ca ad A s H locs σ) {k : Nat} (hk : k < 20) (hdg : decode cc pc = .ok (.getfield 37, 3)) (kk : W p l e R s m args below meth c H locs cells slots Q (F0 m (pc + 3) ls (.int (σ k 9) :: rest))) : W p l e R s m args below meth c H locs cells slots Q (F0 m pc ls (.ref (ad k) :: rest)) :=
  io_get B Z (ci := 2) rfl io_in2 k (Nat.lt_trans hk (by decide)) (io_e2 hk _) 9 (by decide) (io_of 182 (by decide +kernel) (by decide +kernel)) rfl hdg kk
theorem io_p_2_9 (B : CallFix p m c cc nL s args io_tb RX2) (Z : io_Z D ca ad A s H locs σ) {k : Nat} (hk : k < 20) {x : Int32} (hdg : decode cc pc = .ok (.putfield 37, 3)) (kk : ∀ (σ1 : io_M) (H1 : Heap) (locs1 : List Loc), σ1 = io_up σ k 9 x → io_Z D ca ad A s H1 locs1 σ1 → W p l e R s m args below meth c H1 locs1 cells slots Q (F0 m (pc + 3) ls rest)) : W p l e R s m args below meth c H locs cells slots Q (F0 m pc ls (.int x :: .ref (ad k) :: rest)) :=
  io_put B Z (ci := 2) (ty := .int) (x := x) rfl io_in2 tyX2 tyX2_ok nmX2 k (Nat.lt_trans hk (by decide)) (io_e2 hk _) 9 (by decide) (io_of 182 (by decide +kernel) (by decide +kernel)) rfl (by decide +kernel) rfl rfl (Nat.le_of_ble_eq_true rfl) (io_e2 hk _) hdg kk
theorem io_g_2_10 (B : CallFix p m c cc nL s args io_tb RX2) (Z : io_Z D ca ad A s H locs σ) {k : Nat} (hk : k < 20) (hdg : decode cc pc = .ok (.getfield 40, 3)) (kk : W p l e R s m args below meth c H locs cells slots Q (F0 m (pc + 3) ls (.int (σ k 10) :: rest))) : W p l e R s m args below meth c H locs cells slots Q (F0 m pc ls (.ref (ad k) :: rest)) :=
  io_get B Z (ci := 2) rfl io_in2 k (Nat.lt_trans hk (by decide)) (io_e2 hk _) 10 (by decide) (io_of 183 (by decide +kernel) (by decide +kernel)) rfl hdg kk
theorem io_p_2_10 (B : CallFix p m c cc nL s args io_tb RX2) (Z : io_Z D ca ad A s H locs σ) {k : Nat} (hk : k < 20) {x : Int32} (hdg : decode cc pc = .ok (.putfield 40, 3)) (kk : ∀ (σ1 : io_M) (H1 : Heap) (locs1 : List Loc), σ1 = io_up σ k 10 x → io_Z D ca ad A s H1 locs1 σ1 → W p l e R s m args below meth c H1 locs1 cells slots Q (F0 m (pc + 3) ls rest)) : W p l e R s m args below meth c H locs cells slots Q (F0 m pc ls (.int x :: .ref (ad k) :: rest)) :=
  io_put B Z (ci := 2) (ty := .int) (x := x) rfl io_in2 tyX2 tyX2_ok nmX2 k (Nat.lt_trans hk (by decide)) (io_e2 hk _) 10 (by decide) (io_of 183 (by decide +kernel) (by decide +kernel)) rfl (by decide +kernel) rfl rfl (Nat.le_of_ble_eq_true rfl) (io_e2 hk _) hdg kk
theorem io_g_3_0 (B : CallFix p m c cc nL s args io_tb RX3) (Z : io_Z D ca ad A s H locs σ) (hdg : decode cc pc = .ok (.getfield 21, 3)) (kk : W p l e R s m args below meth c H locs cells slots Q (F0 m (pc + 3) ls (.ref (ad 88) :: rest))) : W p l e R s m args below meth c H locs cells slots Q (F0 m pc ls (.ref (ad 101) :: rest)) :=
  io_get B Z (ci := 3) rfl io_in3 101 (by decide) (io_e_101 _) 0 (by decide) (io_of 207 (by decide +kernel) (by decide +kernel)) rfl hdg kk
theorem io_g_3_1 (B : CallFix p m c cc nL s args io_tb RX3) (Z : io_Z D ca ad A s H locs σ) (hdg : decode cc pc = .ok (.getfield 11, 3)) (kk : W p l e R s m args below meth c H locs cells slots Q (F0 m (pc + 3) ls (.ref (ad 102) :: rest))) : W p l e R s m args below meth c H locs cells slots Q (F0 m pc ls (.ref (ad 101) :: rest)) :=
  io_get B Z (ci := 3) rfl io_in3 101 (by decide) (io_e_101 _) 1 (by decide) (io_of 208 (by decide +kernel) (by decide +kernel)) rfl hdg kk
theorem io_g_3_2 (B : CallFix p m c cc nL s args io_tb RX3) (Z : io_Z D ca ad A s H locs σ) (hdg : decode cc pc = .ok (.getfield 17, 3)) (kk : W p l e R s m args below meth c H locs cells slots Q (F0 m (pc + 3) ls (.int (σ 101 2) :: rest))) : W p l e R s m args below meth c H locs cells slots Q (F0 m pc ls (.ref (ad 101) :: rest)) :=
  io_get B Z (ci := 3) rfl io_in3 101 (by decide) (io_e_101 _) 2 (by decide) (io_of 209 (by decide +kernel) (by decide +kernel)) rfl hdg kk
theorem io_p_3_2 (B : CallFix p m c cc nL s args io_tb RX3) (Z : io_Z D ca ad A s H locs σ) {x : Int32} (hdg : decode cc pc = .ok (.putfield 17, 3)) (kk : ∀ (σ1 : io_M) (H1 : Heap) (locs1 : List Loc), σ1 = io_up σ 101 2 x → io_Z D ca ad A s H1 locs1 σ1 → W p l e R s m args below meth c H1 locs1 cells slots Q (F0 m (pc + 3) ls rest)) : W p l e R s m args below meth c H locs cells slots Q (F0 m pc ls (.int x :: .ref (ad 101) :: rest)) :=
  io_put B Z (ci := 3) (ty := .int) (x := x) rfl io_in3 tyX3 tyX3_ok nmX3 101 (by decide) (io_e_101 _) 2 (by decide) (io_of 209 (by decide +kernel) (by decide +kernel)) rfl (by decide +kernel) rfl rfl (Nat.le_of_ble_eq_true rfl) (io_e_101 _) hdg kk
theorem io_g_4_0 (B : CallFix p m c cc nL s args io_tb RX4) (Z : io_Z D ca ad A s H locs σ) (hdg : decode cc pc = .ok (.getfield 9, 3)) (kk : W p l e R s m args below meth c H locs cells slots Q (F0 m (pc + 3) ls (.ref (ad 106) :: rest))) : W p l e R s m args below meth c H locs cells slots Q (F0 m pc ls (.ref (ad 105) :: rest)) :=
  io_get B Z (ci := 4) rfl io_in4 105 (by decide) (io_e_105 _) 0 (by decide) (io_of 253 (by decide +kernel) (by decide +kernel)) rfl hdg kk
theorem io_g_4_1 (B : CallFix p m c cc nL s args io_tb RX4) (Z : io_Z D ca ad A s H locs σ) (hdg : decode cc pc = .ok (.getfield 15, 3)) (kk : W p l e R s m args below meth c H locs cells slots Q (F0 m (pc + 3) ls (.int (σ 105 1) :: rest))) : W p l e R s m args below meth c H locs cells slots Q (F0 m pc ls (.ref (ad 105) :: rest)) :=
  io_get B Z (ci := 4) rfl io_in4 105 (by decide) (io_e_105 _) 1 (by decide) (io_of 254 (by decide +kernel) (by decide +kernel)) rfl hdg kk
theorem io_p_4_1 (B : CallFix p m c cc nL s args io_tb RX4) (Z : io_Z D ca ad A s H locs σ) {x : Int32} (hdg : decode cc pc = .ok (.putfield 15, 3)) (kk : ∀ (σ1 : io_M) (H1 : Heap) (locs1 : List Loc), σ1 = io_up σ 105 1 x → io_Z D ca ad A s H1 locs1 σ1 → W p l e R s m args below meth c H1 locs1 cells slots Q (F0 m (pc + 3) ls rest)) : W p l e R s m args below meth c H locs cells slots Q (F0 m pc ls (.int x :: .ref (ad 105) :: rest)) :=
  io_put B Z (ci := 4) (ty := .int) (x := x) rfl io_in4 tyX4 tyX4_ok nmX4 105 (by decide) (io_e_105 _) 1 (by decide) (io_of 254 (by decide +kernel) (by decide +kernel)) rfl (by decide +kernel) rfl rfl (Nat.le_of_ble_eq_true rfl) (io_e_105 _) hdg kk
theorem io_g_5_0 (B : CallFix p m c cc nL s args io_tb RX5) (Z : io_Z D ca ad A s H locs σ) {k : Nat} (hk : k < 20) (hdg : decode cc pc = .ok (.getfield 9, 3)) (kk : W p l e R s m args below meth c H locs cells slots Q (F0 m (pc + 3) ls (.ref (ad (20 + (40 + k))) :: rest))) : W p l e R s m args below meth c H locs cells slots Q (F0 m pc ls (.ref (ad (40 + k)) :: rest)) :=
  io_get B Z (ci := 5) rfl io_in5 (40 + k) (by omega) (io_e5 hk _) 0 (by decide) (io_of 230 (by decide +kernel) (by decide +kernel)) rfl hdg kk
theorem io_g_5_1 (B : CallFix p m c cc nL s args io_tb RX5) (Z : io_Z D ca ad A s H locs σ) {k : Nat} (hk : k < 20) (hdg : decode cc pc = .ok (.getfield 15, 3)) (kk : W p l e R s m args below meth c H locs cells slots Q (F0 m (pc + 3) ls (va_rf (io_src ad (σ (40 + k) 1)) :: rest))) : W p l e R s m args below meth c H locs cells slots Q (F0 m pc ls (.ref (ad (40 + k)) :: rest)) :=
  io_get B Z (ci := 5) rfl io_in5 (40 + k) (by omega) (io_e5 hk _) 1 (by decide) (io_of 231 (by decide +kernel) (by decide +kernel)) rfl hdg kk
theorem io_p_5_1 (B : CallFix p m c cc nL s args io_tb RX5) (Z : io_Z D ca ad A s H locs σ) {k : Nat} (hk : k < 20) {h : Nat} (hh : h < 20) (hdg : decode cc pc = .ok (.putfield 15, 3)) (kk : ∀ (σ1 : io_M) (H1 : Heap) (locs1 : List Loc), σ1 = io_up σ (40 + k) 1 (nI h) → io_Z D ca ad A s H1 locs1 σ1 → W p l e R s m args below meth c H1 locs1 cells slots Q (F0 m (pc + 3) ls rest)) : W p l e R s m args below meth c H locs cells slots Q (F0 m pc ls (.ref (ad h) :: .ref (ad (40 + k)) :: rest)) :=
  io_put B Z (ci := 5) (ty := .object "InputOutput$Handle") (x := nI h) rfl io_in5 tyX5 tyX5_ok nmX5 (40 + k) (by omega) (io_e5 hk _) 1 (by decide) (io_of 231 (by decide +kernel) (by decide +kernel)) rfl (by decide +kernel) rfl rfl (Nat.le_of_ble_eq_true rfl) ((io_e5 hk _).trans (by rw [show io_src ad (va_up (σ (40 + k)) 1 (nI h) 1) = some (ad h) from io_src_nI hh]; rfl)) hdg kk
theorem io_g_5_2 (B : CallFix p m c cc nL s args io_tb RX5) (Z : io_Z D ca ad A s H locs σ) {k : Nat} (hk : k < 20) (hdg : decode cc pc = .ok (.getfield 19, 3)) (kk : W p l e R s m args below meth c H locs cells slots Q (F0 m (pc + 3) ls (.int (σ (40 + k) 2) :: rest))) : W p l e R s m args below meth c H locs cells slots Q (F0 m pc ls (.ref (ad (40 + k)) :: rest)) :=
  io_get B Z (ci := 5) rfl io_in5 (40 + k) (by omega) (io_e5 hk _) 2 (by decide) (io_of 232 (by decide +kernel) (by decide +kernel)) rfl hdg kk
theorem io_p_5_2 (B : CallFix p m c cc nL s args io_tb RX5) (Z : io_Z D ca ad A s H locs σ) {k : Nat} (hk : k < 20) {x : Int32} (hdg : decode cc pc = .ok (.putfield 19, 3)) (kk : ∀ (σ1 : io_M) (H1 : Heap) (locs1 : List Loc), σ1 = io_up σ (40 + k) 2 x → io_Z D ca ad A s H1 locs1 σ1 → W p l e R s m args below meth c H1 locs1 cells slots Q (F0 m (pc + 3) ls rest)) : W p l e R s m args below meth c H locs cells slots Q (F0 m pc ls (.int x :: .ref (ad (40 + k)) :: rest)) :=
  io_put B Z (ci := 5) (ty := .int) (x := x) rfl io_in5 tyX5 tyX5_ok nmX5 (40 + k) (by omega) (io_e5 hk _) 2 (by decide) (io_of 232 (by decide +kernel) (by decide +kernel)) rfl (by decide +kernel) rfl rfl (Nat.le_of_ble_eq_true rfl) (io_e5 hk _) hdg kk
theorem io_g_6_0 (B : CallFix p m c cc nL s args io_tb RX6) (Z : io_Z D ca ad A s H locs σ) (hdg : decode cc pc = .ok (.getfield 11, 3)) (kk : W p l e R s m args below meth c H locs cells slots Q (F0 m (pc + 3) ls (.ref (ad 104) :: rest))) : W p l e R s m args below meth c H locs cells slots Q (F0 m pc ls (.ref (ad 103) :: rest)) :=
  io_get B Z (ci := 6) rfl io_in6 103 (by decide) (io_e_103 _) 0 (by decide) (io_of 240 (by decide +kernel) (by decide +kernel)) rfl hdg kk
theorem io_g_6_1 (B : CallFix p m c cc nL s args io_tb RX6) (Z : io_Z D ca ad A s H locs σ) (hdg : decode cc pc = .ok (.getfield 17, 3)) (kk : W p l e R s m args below meth c H locs cells slots Q (F0 m (pc + 3) ls (.int (σ 103 1) :: rest))) : W p l e R s m args below meth c H locs cells slots Q (F0 m pc ls (.ref (ad 103) :: rest)) :=
  io_get B Z (ci := 6) rfl io_in6 103 (by decide) (io_e_103 _) 1 (by decide) (io_of 241 (by decide +kernel) (by decide +kernel)) rfl hdg kk
theorem io_p_6_1 (B : CallFix p m c cc nL s args io_tb RX6) (Z : io_Z D ca ad A s H locs σ) {x : Int32} (hdg : decode cc pc = .ok (.putfield 17, 3)) (kk : ∀ (σ1 : io_M) (H1 : Heap) (locs1 : List Loc), σ1 = io_up σ 103 1 x → io_Z D ca ad A s H1 locs1 σ1 → W p l e R s m args below meth c H1 locs1 cells slots Q (F0 m (pc + 3) ls rest)) : W p l e R s m args below meth c H locs cells slots Q (F0 m pc ls (.int x :: .ref (ad 103) :: rest)) :=
  io_put B Z (ci := 6) (ty := .int) (x := x) rfl io_in6 tyX6 tyX6_ok nmX6 103 (by decide) (io_e_103 _) 1 (by decide) (io_of 241 (by decide +kernel) (by decide +kernel)) rfl (by decide +kernel) rfl rfl (Nat.le_of_ble_eq_true rfl) (io_e_103 _) hdg kk
theorem io_g_7_0 (B : CallFix p m c cc nL s args io_tb RX7) (Z : io_Z D ca ad A s H locs σ) (hdg : decode cc pc = .ok (.getfield 9, 3)) (kk : W p l e R s m args below meth c H locs cells slots Q (F0 m (pc + 3) ls (.ref (ad 97) :: rest))) : W p l e R s m args below meth c H locs cells slots Q (F0 m pc ls (.ref (ad 96) :: rest)) :=
  io_get B Z (ci := 7) rfl io_in7 96 (by decide) (io_e_96 _) 0 (by decide) (io_of 144 (by decide +kernel) (by decide +kernel)) rfl hdg kk
theorem io_g_7_1 (B : CallFix p m c cc nL s args io_tb RX7) (Z : io_Z D ca ad A s H locs σ) (hdg : decode cc pc = .ok (.getfield 15, 3)) (kk : W p l e R s m args below meth c H locs cells slots Q (F0 m (pc + 3) ls (.ref (ad 98) :: rest))) : W p l e R s m args below meth c H locs cells slots Q (F0 m pc ls (.ref (ad 96) :: rest)) :=
  io_get B Z (ci := 7) rfl io_in7 96 (by decide) (io_e_96 _) 1 (by decide) (io_of 145 (by decide +kernel) (by decide +kernel)) rfl hdg kk
theorem io_g_7_2 (B : CallFix p m c cc nL s args io_tb RX7) (Z : io_Z D ca ad A s H locs σ) (hdg : decode cc pc = .ok (.getfield 18, 3)) (kk : W p l e R s m args below meth c H locs cells slots Q (F0 m (pc + 3) ls (.ref (ad 99) :: rest))) : W p l e R s m args below meth c H locs cells slots Q (F0 m pc ls (.ref (ad 96) :: rest)) :=
  io_get B Z (ci := 7) rfl io_in7 96 (by decide) (io_e_96 _) 2 (by decide) (io_of 146 (by decide +kernel) (by decide +kernel)) rfl hdg kk
theorem io_g_7_3 (B : CallFix p m c cc nL s args io_tb RX7) (Z : io_Z D ca ad A s H locs σ) (hdg : decode cc pc = .ok (.getfield 21, 3)) (kk : W p l e R s m args below meth c H locs cells slots Q (F0 m (pc + 3) ls (.ref (ad 100) :: rest))) : W p l e R s m args below meth c H locs cells slots Q (F0 m pc ls (.ref (ad 96) :: rest)) :=
  io_get B Z (ci := 7) rfl io_in7 96 (by decide) (io_e_96 _) 3 (by decide) (io_of 147 (by decide +kernel) (by decide +kernel)) rfl hdg kk
theorem io_g_7_4 (B : CallFix p m c cc nL s args io_tb RX7) (Z : io_Z D ca ad A s H locs σ) (hdg : decode cc pc = .ok (.getfield 24, 3)) (kk : W p l e R s m args below meth c H locs cells slots Q (F0 m (pc + 3) ls (.int (σ 96 4) :: rest))) : W p l e R s m args below meth c H locs cells slots Q (F0 m pc ls (.ref (ad 96) :: rest)) :=
  io_get B Z (ci := 7) rfl io_in7 96 (by decide) (io_e_96 _) 4 (by decide) (io_of 148 (by decide +kernel) (by decide +kernel)) rfl hdg kk
theorem io_p_7_4 (B : CallFix p m c cc nL s args io_tb RX7) (Z : io_Z D ca ad A s H locs σ) {x : Int32} (hdg : decode cc pc = .ok (.putfield 24, 3)) (kk : ∀ (σ1 : io_M) (H1 : Heap) (locs1 : List Loc), σ1 = io_up σ 96 4 x → io_Z D ca ad A s H1 locs1 σ1 → W p l e R s m args below meth c H1 locs1 cells slots Q (F0 m (pc + 3) ls rest)) : W p l e R s m args below meth c H locs cells slots Q (F0 m pc ls (.int x :: .ref (ad 96) :: rest)) :=
  io_put B Z (ci := 7) (ty := .int) (x := x) rfl io_in7 tyX7 tyX7_ok nmX7 96 (by decide) (io_e_96 _) 4 (by decide) (io_of 148 (by decide +kernel) (by decide +kernel)) rfl (by decide +kernel) rfl rfl (Nat.le_of_ble_eq_true rfl) (io_e_96 _) hdg kk
theorem io_g_8_0 (B : CallFix p m c cc nL s args io_tb RX8) (Z : io_Z D ca ad A s H locs σ) (hdg : decode cc pc = .ok (.getfield 31, 3)) (kk : W p l e R s m args below meth c H locs cells slots Q (F0 m (pc + 3) ls (.ref (ad 96) :: rest))) : W p l e R s m args below meth c H locs cells slots Q (F0 m pc ls (.ref (ad 107) :: rest)) :=
  io_get B Z (ci := 8) rfl io_in8 107 (by decide) (io_e_107 _) 0 (by decide) (io_of 266 (by decide +kernel) (by decide +kernel)) rfl hdg kk
theorem io_g_8_1 (B : CallFix p m c cc nL s args io_tb RX8) (Z : io_Z D ca ad A s H locs σ) (hdg : decode cc pc = .ok (.getfield 35, 3)) (kk : W p l e R s m args below meth c H locs cells slots Q (F0 m (pc + 3) ls (.ref (ad 93) :: rest))) : W p l e R s m args below meth c H locs cells slots Q (F0 m pc ls (.ref (ad 107) :: rest)) :=
  io_get B Z (ci := 8) rfl io_in8 107 (by decide) (io_e_107 _) 1 (by decide) (io_of 267 (by decide +kernel) (by decide +kernel)) rfl hdg kk
theorem io_g_8_2 (B : CallFix p m c cc nL s args io_tb RX8) (Z : io_Z D ca ad A s H locs σ) (hdg : decode cc pc = .ok (.getfield 39, 3)) (kk : W p l e R s m args below meth c H locs cells slots Q (F0 m (pc + 3) ls (.ref (ad 101) :: rest))) : W p l e R s m args below meth c H locs cells slots Q (F0 m pc ls (.ref (ad 107) :: rest)) :=
  io_get B Z (ci := 8) rfl io_in8 107 (by decide) (io_e_107 _) 2 (by decide) (io_of 268 (by decide +kernel) (by decide +kernel)) rfl hdg kk
theorem io_g_8_3 (B : CallFix p m c cc nL s args io_tb RX8) (Z : io_Z D ca ad A s H locs σ) (hdg : decode cc pc = .ok (.getfield 43, 3)) (kk : W p l e R s m args below meth c H locs cells slots Q (F0 m (pc + 3) ls (.ref (ad 103) :: rest))) : W p l e R s m args below meth c H locs cells slots Q (F0 m pc ls (.ref (ad 107) :: rest)) :=
  io_get B Z (ci := 8) rfl io_in8 107 (by decide) (io_e_107 _) 3 (by decide) (io_of 269 (by decide +kernel) (by decide +kernel)) rfl hdg kk
theorem io_g_8_4 (B : CallFix p m c cc nL s args io_tb RX8) (Z : io_Z D ca ad A s H locs σ) (hdg : decode cc pc = .ok (.getfield 47, 3)) (kk : W p l e R s m args below meth c H locs cells slots Q (F0 m (pc + 3) ls (.ref (ad 105) :: rest))) : W p l e R s m args below meth c H locs cells slots Q (F0 m pc ls (.ref (ad 107) :: rest)) :=
  io_get B Z (ci := 8) rfl io_in8 107 (by decide) (io_e_107 _) 4 (by decide) (io_of 270 (by decide +kernel) (by decide +kernel)) rfl hdg kk
theorem io_g_8_5 (B : CallFix p m c cc nL s args io_tb RX8) (Z : io_Z D ca ad A s H locs σ) (hdg : decode cc pc = .ok (.getfield 9, 3)) (kk : W p l e R s m args below meth c H locs cells slots Q (F0 m (pc + 3) ls (.ref (ad 108) :: rest))) : W p l e R s m args below meth c H locs cells slots Q (F0 m pc ls (.ref (ad 107) :: rest)) :=
  io_get B Z (ci := 8) rfl io_in8 107 (by decide) (io_e_107 _) 5 (by decide) (io_of 271 (by decide +kernel) (by decide +kernel)) rfl hdg kk
theorem io_g_8_6 (B : CallFix p m c cc nL s args io_tb RX8) (Z : io_Z D ca ad A s H locs σ) (hdg : decode cc pc = .ok (.getfield 15, 3)) (kk : W p l e R s m args below meth c H locs cells slots Q (F0 m (pc + 3) ls (.ref (ad 109) :: rest))) : W p l e R s m args below meth c H locs cells slots Q (F0 m pc ls (.ref (ad 107) :: rest)) :=
  io_get B Z (ci := 8) rfl io_in8 107 (by decide) (io_e_107 _) 6 (by decide) (io_of 272 (by decide +kernel) (by decide +kernel)) rfl hdg kk
theorem io_g_8_7 (B : CallFix p m c cc nL s args io_tb RX8) (Z : io_Z D ca ad A s H locs σ) (hdg : decode cc pc = .ok (.getfield 18, 3)) (kk : W p l e R s m args below meth c H locs cells slots Q (F0 m (pc + 3) ls (.int (σ 107 7) :: rest))) : W p l e R s m args below meth c H locs cells slots Q (F0 m pc ls (.ref (ad 107) :: rest)) :=
  io_get B Z (ci := 8) rfl io_in8 107 (by decide) (io_e_107 _) 7 (by decide) (io_of 273 (by decide +kernel) (by decide +kernel)) rfl hdg kk
theorem io_p_8_7 (B : CallFix p m c cc nL s args io_tb RX8) (Z : io_Z D ca ad A s H locs σ) {x : Int32} (hdg : decode cc pc = .ok (.putfield 18, 3)) (kk : ∀ (σ1 : io_M) (H1 : Heap) (locs1 : List Loc), σ1 = io_up σ 107 7 x → io_Z D ca ad A s H1 locs1 σ1 → W p l e R s m args below meth c H1 locs1 cells slots Q (F0 m (pc + 3) ls rest)) : W p l e R s m args below meth c H locs cells slots Q (F0 m pc ls (.int x :: .ref (ad 107) :: rest)) :=
  io_put B Z (ci := 8) (ty := .int) (x := x) rfl io_in8 tyX8 tyX8_ok nmX8 107 (by decide) (io_e_107 _) 7 (by decide) (io_of 273 (by decide +kernel) (by decide +kernel)) rfl (by decide +kernel) rfl rfl (Nat.le_of_ble_eq_true rfl) (io_e_107 _) hdg kk
theorem io_g_8_8 (B : CallFix p m c cc nL s args io_tb RX8) (Z : io_Z D ca ad A s H locs σ) (hdg : decode cc pc = .ok (.getfield 22, 3)) (kk : W p l e R s m args below meth c H locs cells slots Q (F0 m (pc + 3) ls (.int (σ 107 8) :: rest))) : W p l e R s m args below meth c H locs cells slots Q (F0 m pc ls (.ref (ad 107) :: rest)) :=
  io_get B Z (ci := 8) rfl io_in8 107 (by decide) (io_e_107 _) 8 (by decide) (io_of 274 (by decide +kernel) (by decide +kernel)) rfl hdg kk
theorem io_p_8_8 (B : CallFix p m c cc nL s args io_tb RX8) (Z : io_Z D ca ad A s H locs σ) {x : Int32} (hdg : decode cc pc = .ok (.putfield 22, 3)) (kk : ∀ (σ1 : io_M) (H1 : Heap) (locs1 : List Loc), σ1 = io_up σ 107 8 x → io_Z D ca ad A s H1 locs1 σ1 → W p l e R s m args below meth c H1 locs1 cells slots Q (F0 m (pc + 3) ls rest)) : W p l e R s m args below meth c H locs cells slots Q (F0 m pc ls (.int x :: .ref (ad 107) :: rest)) :=
  io_put B Z (ci := 8) (ty := .int) (x := x) rfl io_in8 tyX8 tyX8_ok nmX8 107 (by decide) (io_e_107 _) 8 (by decide) (io_of 274 (by decide +kernel) (by decide +kernel)) rfl (by decide +kernel) rfl rfl (Nat.le_of_ble_eq_true rfl) (io_e_107 _) hdg kk
theorem io_g_8_9 (B : CallFix p m c cc nL s args io_tb RX8) (Z : io_Z D ca ad A s H locs σ) (hdg : decode cc pc = .ok (.getfield 25, 3)) (kk : W p l e R s m args below meth c H locs cells slots Q (F0 m (pc + 3) ls (.int (σ 107 9) :: rest))) : W p l e R s m args below meth c H locs cells slots Q (F0 m pc ls (.ref (ad 107) :: rest)) :=
  io_get B Z (ci := 8) rfl io_in8 107 (by decide) (io_e_107 _) 9 (by decide) (io_of 275 (by decide +kernel) (by decide +kernel)) rfl hdg kk
theorem io_p_8_9 (B : CallFix p m c cc nL s args io_tb RX8) (Z : io_Z D ca ad A s H locs σ) {x : Int32} (hdg : decode cc pc = .ok (.putfield 25, 3)) (kk : ∀ (σ1 : io_M) (H1 : Heap) (locs1 : List Loc), σ1 = io_up σ 107 9 x → io_Z D ca ad A s H1 locs1 σ1 → W p l e R s m args below meth c H1 locs1 cells slots Q (F0 m (pc + 3) ls rest)) : W p l e R s m args below meth c H locs cells slots Q (F0 m pc ls (.int x :: .ref (ad 107) :: rest)) :=
  io_put B Z (ci := 8) (ty := .int) (x := x) rfl io_in8 tyX8 tyX8_ok nmX8 107 (by decide) (io_e_107 _) 9 (by decide) (io_of 275 (by decide +kernel) (by decide +kernel)) rfl (by decide +kernel) rfl rfl (Nat.le_of_ble_eq_true rfl) (io_e_107 _) hdg kk
theorem io_g_8_10 (B : CallFix p m c cc nL s args io_tb RX8) (Z : io_Z D ca ad A s H locs σ) (hdg : decode cc pc = .ok (.getfield 28, 3)) (kk : W p l e R s m args below meth c H locs cells slots Q (F0 m (pc + 3) ls (.int (σ 107 10) :: rest))) : W p l e R s m args below meth c H locs cells slots Q (F0 m pc ls (.ref (ad 107) :: rest)) :=
  io_get B Z (ci := 8) rfl io_in8 107 (by decide) (io_e_107 _) 10 (by decide) (io_of 276 (by decide +kernel) (by decide +kernel)) rfl hdg kk
theorem io_p_8_10 (B : CallFix p m c cc nL s args io_tb RX8) (Z : io_Z D ca ad A s H locs σ) {x : Int32} (hdg : decode cc pc = .ok (.putfield 28, 3)) (kk : ∀ (σ1 : io_M) (H1 : Heap) (locs1 : List Loc), σ1 = io_up σ 107 10 x → io_Z D ca ad A s H1 locs1 σ1 → W p l e R s m args below meth c H1 locs1 cells slots Q (F0 m (pc + 3) ls rest)) : W p l e R s m args below meth c H locs cells slots Q (F0 m pc ls (.int x :: .ref (ad 107) :: rest)) :=
  io_put B Z (ci := 8) (ty := .int) (x := x) rfl io_in8 tyX8 tyX8_ok nmX8 107 (by decide) (io_e_107 _) 10 (by decide) (io_of 276 (by decide +kernel) (by decide +kernel)) rfl (by decide +kernel) rfl rfl (Nat.le_of_ble_eq_true rfl) (io_e_107 _) hdg kk
theorem io_g_9_0 (B : CallFix p m c cc nL s args io_tb RX9) (Z : io_Z D ca ad A s H locs σ) (hdg : decode cc pc = .ok (.getfield 10, 3)) (kk : W p l e R s m args below meth c H locs cells slots Q (F0 m (pc + 3) ls (.ref (ad 88) :: rest))) : W p l e R s m args below meth c H locs cells slots Q (F0 m pc ls (.ref (ad 110) :: rest)) :=
  io_get B Z (ci := 9) rfl io_in9 110 (by decide) (io_e_110 _) 0 (by decide) (io_of 300 (by decide +kernel) (by decide +kernel)) rfl hdg kk
theorem io_g_9_1 (B : CallFix p m c cc nL s args io_tb RX9) (Z : io_Z D ca ad A s H locs σ) (hdg : decode cc pc = .ok (.getfield 19, 3)) (kk : W p l e R s m args below meth c H locs cells slots Q (F0 m (pc + 3) ls (.ref (ad 93) :: rest))) : W p l e R s m args below meth c H locs cells slots Q (F0 m pc ls (.ref (ad 110) :: rest)) :=
  io_get B Z (ci := 9) rfl io_in9 110 (by decide) (io_e_110 _) 1 (by decide) (io_of 301 (by decide +kernel) (by decide +kernel)) rfl hdg kk
theorem io_g_9_2 (B : CallFix p m c cc nL s args io_tb RX9) (Z : io_Z D ca ad A s H locs σ) (hdg : decode cc pc = .ok (.getfield 26, 3)) (kk : W p l e R s m args below meth c H locs cells slots Q (F0 m (pc + 3) ls (.ref (ad 96) :: rest))) : W p l e R s m args below meth c H locs cells slots Q (F0 m pc ls (.ref (ad 110) :: rest)) :=
  io_get B Z (ci := 9) rfl io_in9 110 (by decide) (io_e_110 _) 2 (by decide) (io_of 302 (by decide +kernel) (by decide +kernel)) rfl hdg kk
theorem io_g_9_3 (B : CallFix p m c cc nL s args io_tb RX9) (Z : io_Z D ca ad A s H locs σ) (hdg : decode cc pc = .ok (.getfield 35, 3)) (kk : W p l e R s m args below meth c H locs cells slots Q (F0 m (pc + 3) ls (.ref (ad 101) :: rest))) : W p l e R s m args below meth c H locs cells slots Q (F0 m pc ls (.ref (ad 110) :: rest)) :=
  io_get B Z (ci := 9) rfl io_in9 110 (by decide) (io_e_110 _) 3 (by decide) (io_of 303 (by decide +kernel) (by decide +kernel)) rfl hdg kk
theorem io_g_9_4 (B : CallFix p m c cc nL s args io_tb RX9) (Z : io_Z D ca ad A s H locs σ) (hdg : decode cc pc = .ok (.getfield 42, 3)) (kk : W p l e R s m args below meth c H locs cells slots Q (F0 m (pc + 3) ls (.ref (ad 103) :: rest))) : W p l e R s m args below meth c H locs cells slots Q (F0 m pc ls (.ref (ad 110) :: rest)) :=
  io_get B Z (ci := 9) rfl io_in9 110 (by decide) (io_e_110 _) 4 (by decide) (io_of 304 (by decide +kernel) (by decide +kernel)) rfl hdg kk
theorem io_g_9_5 (B : CallFix p m c cc nL s args io_tb RX9) (Z : io_Z D ca ad A s H locs σ) (hdg : decode cc pc = .ok (.getfield 49, 3)) (kk : W p l e R s m args below meth c H locs cells slots Q (F0 m (pc + 3) ls (.ref (ad 105) :: rest))) : W p l e R s m args below meth c H locs cells slots Q (F0 m pc ls (.ref (ad 110) :: rest)) :=
  io_get B Z (ci := 9) rfl io_in9 110 (by decide) (io_e_110 _) 5 (by decide) (io_of 305 (by decide +kernel) (by decide +kernel)) rfl hdg kk
theorem io_g_9_6 (B : CallFix p m c cc nL s args io_tb RX9) (Z : io_Z D ca ad A s H locs σ) (hdg : decode cc pc = .ok (.getfield 58, 3)) (kk : W p l e R s m args below meth c H locs cells slots Q (F0 m (pc + 3) ls (.ref (ad 107) :: rest))) : W p l e R s m args below meth c H locs cells slots Q (F0 m pc ls (.ref (ad 110) :: rest)) :=
  io_get B Z (ci := 9) rfl io_in9 110 (by decide) (io_e_110 _) 6 (by decide) (io_of 306 (by decide +kernel) (by decide +kernel)) rfl hdg kk
theorem io_g_10_0 (B : CallFix p m c cc nL s args io_tb RX10) (Z : io_Z D ca ad A s H locs σ) (hdg : decode cc pc = .ok (.getfield 7, 3)) (kk : W p l e R s m args below meth c H locs cells slots Q (F0 m (pc + 3) ls (.ref (ad 112) :: rest))) : W p l e R s m args below meth c H locs cells slots Q (F0 m pc ls (.ref (ad 111) :: rest)) :=
  io_get B Z (ci := 10) rfl io_in10 111 (by decide) (io_e_111 _) 0 (by decide) (io_of 833 (by decide +kernel) (by decide +kernel)) rfl hdg kk
theorem io_g_10_1 (B : CallFix p m c cc nL s args io_tb RX10) (Z : io_Z D ca ad A s H locs σ) (hdg : decode cc pc = .ok (.getfield 13, 3)) (kk : W p l e R s m args below meth c H locs cells slots Q (F0 m (pc + 3) ls (.ref (ad 113) :: rest))) : W p l e R s m args below meth c H locs cells slots Q (F0 m pc ls (.ref (ad 111) :: rest)) :=
  io_get B Z (ci := 10) rfl io_in10 111 (by decide) (io_e_111 _) 1 (by decide) (io_of 834 (by decide +kernel) (by decide +kernel)) rfl hdg kk
theorem io_g_10_2 (B : CallFix p m c cc nL s args io_tb RX10) (Z : io_Z D ca ad A s H locs σ) (hdg : decode cc pc = .ok (.getfield 17, 3)) (kk : W p l e R s m args below meth c H locs cells slots Q (F0 m (pc + 3) ls (.ref (ad 114) :: rest))) : W p l e R s m args below meth c H locs cells slots Q (F0 m pc ls (.ref (ad 111) :: rest)) :=
  io_get B Z (ci := 10) rfl io_in10 111 (by decide) (io_e_111 _) 2 (by decide) (io_of 835 (by decide +kernel) (by decide +kernel)) rfl hdg kk
theorem io_g_10_3 (B : CallFix p m c cc nL s args io_tb RX10) (Z : io_Z D ca ad A s H locs σ) (hdg : decode cc pc = .ok (.getfield 21, 3)) (kk : W p l e R s m args below meth c H locs cells slots Q (F0 m (pc + 3) ls (.ref (ad 115) :: rest))) : W p l e R s m args below meth c H locs cells slots Q (F0 m pc ls (.ref (ad 111) :: rest)) :=
  io_get B Z (ci := 10) rfl io_in10 111 (by decide) (io_e_111 _) 3 (by decide) (io_of 836 (by decide +kernel) (by decide +kernel)) rfl hdg kk
theorem io_g_10_4 (B : CallFix p m c cc nL s args io_tb RX10) (Z : io_Z D ca ad A s H locs σ) (hdg : decode cc pc = .ok (.getfield 135, 3)) (kk : W p l e R s m args below meth c H locs cells slots Q (F0 m (pc + 3) ls (.int (σ 111 4) :: rest))) : W p l e R s m args below meth c H locs cells slots Q (F0 m pc ls (.ref (ad 111) :: rest)) :=
  io_get B Z (ci := 10) rfl io_in10 111 (by decide) (io_e_111 _) 4 (by decide) (io_of 837 (by decide +kernel) (by decide +kernel)) rfl hdg kk
theorem io_p_10_4 (B : CallFix p m c cc nL s args io_tb RX10) (Z : io_Z D ca ad A s H locs σ) {x : Int32} (hdg : decode cc pc = .ok (.putfield 135, 3)) (kk : ∀ (σ1 : io_M) (H1 : Heap) (locs1 : List Loc), σ1 = io_up σ 111 4 x → io_Z D ca ad A s H1 locs1 σ1 → W p l e R s m args below meth c H1 locs1 cells slots Q (F0 m (pc + 3) ls rest)) : W p l e R s m args below meth c H locs cells slots Q (F0 m pc ls (.int x :: .ref (ad 111) :: rest)) :=
  io_put B Z (ci := 10) (ty := .int) (x := x) rfl io_in10 tyX10 tyX10_ok nmX10 111 (by decide) (io_e_111 _) 4 (by decide) (io_of 837 (by decide +kernel) (by decide +kernel)) rfl (by decide +kernel) rfl rfl (Nat.le_of_ble_eq_true rfl) (io_e_111 _) hdg kk
theorem io_g_10_5 (B : CallFix p m c cc nL s args io_tb RX10) (Z : io_Z D ca ad A s H locs σ) (hdg : decode cc pc = .ok (.getfield 138, 3)) (kk : W p l e R s m args below meth c H locs cells slots Q (F0 m (pc + 3) ls (.int (σ 111 5) :: rest))) : W p l e R s m args below meth c H locs cells slots Q (F0 m pc ls (.ref (ad 111) :: rest)) :=
  io_get B Z (ci := 10) rfl io_in10 111 (by decide) (io_e_111 _) 5 (by decide) (io_of 838 (by decide +kernel) (by decide +kernel)) rfl hdg kk
theorem io_p_10_5 (B : CallFix p m c cc nL s args io_tb RX10) (Z : io_Z D ca ad A s H locs σ) {x : Int32} (hdg : decode cc pc = .ok (.putfield 138, 3)) (kk : ∀ (σ1 : io_M) (H1 : Heap) (locs1 : List Loc), σ1 = io_up σ 111 5 x → io_Z D ca ad A s H1 locs1 σ1 → W p l e R s m args below meth c H1 locs1 cells slots Q (F0 m (pc + 3) ls rest)) : W p l e R s m args below meth c H locs cells slots Q (F0 m pc ls (.int x :: .ref (ad 111) :: rest)) :=
  io_put B Z (ci := 10) (ty := .int) (x := x) rfl io_in10 tyX10 tyX10_ok nmX10 111 (by decide) (io_e_111 _) 5 (by decide) (io_of 838 (by decide +kernel) (by decide +kernel)) rfl (by decide +kernel) rfl rfl (Nat.le_of_ble_eq_true rfl) (io_e_111 _) hdg kk
theorem io_g_10_6 (B : CallFix p m c cc nL s args io_tb RX10) (Z : io_Z D ca ad A s H locs σ) (hdg : decode cc pc = .ok (.getfield 24, 3)) (kk : W p l e R s m args below meth c H locs cells slots Q (F0 m (pc + 3) ls (.ref (ad 116) :: rest))) : W p l e R s m args below meth c H locs cells slots Q (F0 m pc ls (.ref (ad 111) :: rest)) :=
  io_get B Z (ci := 10) rfl io_in10 111 (by decide) (io_e_111 _) 6 (by decide) (io_of 839 (by decide +kernel) (by decide +kernel)) rfl hdg kk
theorem io_g_10_7 (B : CallFix p m c cc nL s args io_tb RX10) (Z : io_Z D ca ad A s H locs σ) (hdg : decode cc pc = .ok (.getfield 152, 3)) (kk : W p l e R s m args below meth c H locs cells slots Q (F0 m (pc + 3) ls (.int (σ 111 7) :: rest))) : W p l e R s m args below meth c H locs cells slots Q (F0 m pc ls (.ref (ad 111) :: rest)) :=
  io_get B Z (ci := 10) rfl io_in10 111 (by decide) (io_e_111 _) 7 (by decide) (io_of 840 (by decide +kernel) (by decide +kernel)) rfl hdg kk
theorem io_p_10_7 (B : CallFix p m c cc nL s args io_tb RX10) (Z : io_Z D ca ad A s H locs σ) {x : Int32} (hdg : decode cc pc = .ok (.putfield 152, 3)) (kk : ∀ (σ1 : io_M) (H1 : Heap) (locs1 : List Loc), σ1 = io_up σ 111 7 x → io_Z D ca ad A s H1 locs1 σ1 → W p l e R s m args below meth c H1 locs1 cells slots Q (F0 m (pc + 3) ls rest)) : W p l e R s m args below meth c H locs cells slots Q (F0 m pc ls (.int x :: .ref (ad 111) :: rest)) :=
  io_put B Z (ci := 10) (ty := .int) (x := x) rfl io_in10 tyX10 tyX10_ok nmX10 111 (by decide) (io_e_111 _) 7 (by decide) (io_of 840 (by decide +kernel) (by decide +kernel)) rfl (by decide +kernel) rfl rfl (Nat.le_of_ble_eq_true rfl) (io_e_111 _) hdg kk
theorem io_g_10_8 (B : CallFix p m c cc nL s args io_tb RX10) (Z : io_Z D ca ad A s H locs σ) (hdg : decode cc pc = .ok (.getfield 27, 3)) (kk : W p l e R s m args below meth c H locs cells slots Q (F0 m (pc + 3) ls (.ref (ad 117) :: rest))) : W p l e R s m args below meth c H locs cells slots Q (F0 m pc ls (.ref (ad 111) :: rest)) :=
  io_get B Z (ci := 10) rfl io_in10 111 (by decide) (io_e_111 _) 8 (by decide) (io_of 841 (by decide +kernel) (by decide +kernel)) rfl hdg kk
theorem io_g_10_9 (B : CallFix p m c cc nL s args io_tb RX10) (Z : io_Z D ca ad A s H locs σ) (hdg : decode cc pc = .ok (.getfield 141, 3)) (kk : W p l e R s m args below meth c H locs cells slots Q (F0 m (pc + 3) ls (.int (σ 111 9) :: rest))) : W p l e R s m args below meth c H locs cells slots Q (F0 m pc ls (.ref (ad 111) :: rest)) :=
  io_get B Z (ci := 10) rfl io_in10 111 (by decide) (io_e_111 _) 9 (by decide) (io_of 842 (by decide +kernel) (by decide +kernel)) rfl hdg kk
theorem io_p_10_9 (B : CallFix p m c cc nL s args io_tb RX10) (Z : io_Z D ca ad A s H locs σ) {x : Int32} (hdg : decode cc pc = .ok (.putfield 141, 3)) (kk : ∀ (σ1 : io_M) (H1 : Heap) (locs1 : List Loc), σ1 = io_up σ 111 9 x → io_Z D ca ad A s H1 locs1 σ1 → W p l e R s m args below meth c H1 locs1 cells slots Q (F0 m (pc + 3) ls rest)) : W p l e R s m args below meth c H locs cells slots Q (F0 m pc ls (.int x :: .ref (ad 111) :: rest)) :=
  io_put B Z (ci := 10) (ty := .int) (x := x) rfl io_in10 tyX10 tyX10_ok nmX10 111 (by decide) (io_e_111 _) 9 (by decide) (io_of 842 (by decide +kernel) (by decide +kernel)) rfl (by decide +kernel) rfl rfl (Nat.le_of_ble_eq_true rfl) (io_e_111 _) hdg kk
theorem io_g_10_10 (B : CallFix p m c cc nL s args io_tb RX10) (Z : io_Z D ca ad A s H locs σ) (hdg : decode cc pc = .ok (.getfield 30, 3)) (kk : W p l e R s m args below meth c H locs cells slots Q (F0 m (pc + 3) ls (.ref (ad 118) :: rest))) : W p l e R s m args below meth c H locs cells slots Q (F0 m pc ls (.ref (ad 111) :: rest)) :=
  io_get B Z (ci := 10) rfl io_in10 111 (by decide) (io_e_111 _) 10 (by decide) (io_of 843 (by decide +kernel) (by decide +kernel)) rfl hdg kk
theorem io_g_10_11 (B : CallFix p m c cc nL s args io_tb RX10) (Z : io_Z D ca ad A s H locs σ) (hdg : decode cc pc = .ok (.getfield 33, 3)) (kk : W p l e R s m args below meth c H locs cells slots Q (F0 m (pc + 3) ls (.ref (ad 119) :: rest))) : W p l e R s m args below meth c H locs cells slots Q (F0 m pc ls (.ref (ad 111) :: rest)) :=
  io_get B Z (ci := 10) rfl io_in10 111 (by decide) (io_e_111 _) 11 (by decide) (io_of 844 (by decide +kernel) (by decide +kernel)) rfl hdg kk
theorem io_g_10_12 (B : CallFix p m c cc nL s args io_tb RX10) (Z : io_Z D ca ad A s H locs σ) (hdg : decode cc pc = .ok (.getfield 36, 3)) (kk : W p l e R s m args below meth c H locs cells slots Q (F0 m (pc + 3) ls (.ref (ad 120) :: rest))) : W p l e R s m args below meth c H locs cells slots Q (F0 m pc ls (.ref (ad 111) :: rest)) :=
  io_get B Z (ci := 10) rfl io_in10 111 (by decide) (io_e_111 _) 12 (by decide) (io_of 845 (by decide +kernel) (by decide +kernel)) rfl hdg kk
theorem io_g_10_13 (B : CallFix p m c cc nL s args io_tb RX10) (Z : io_Z D ca ad A s H locs σ) (hdg : decode cc pc = .ok (.getfield 39, 3)) (kk : W p l e R s m args below meth c H locs cells slots Q (F0 m (pc + 3) ls (.ref (ad 121) :: rest))) : W p l e R s m args below meth c H locs cells slots Q (F0 m pc ls (.ref (ad 111) :: rest)) :=
  io_get B Z (ci := 10) rfl io_in10 111 (by decide) (io_e_111 _) 13 (by decide) (io_of 846 (by decide +kernel) (by decide +kernel)) rfl hdg kk
theorem io_g_10_14 (B : CallFix p m c cc nL s args io_tb RX10) (Z : io_Z D ca ad A s H locs σ) (hdg : decode cc pc = .ok (.getfield 42, 3)) (kk : W p l e R s m args below meth c H locs cells slots Q (F0 m (pc + 3) ls (.ref (ad 122) :: rest))) : W p l e R s m args below meth c H locs cells slots Q (F0 m pc ls (.ref (ad 111) :: rest)) :=
  io_get B Z (ci := 10) rfl io_in10 111 (by decide) (io_e_111 _) 14 (by decide) (io_of 847 (by decide +kernel) (by decide +kernel)) rfl hdg kk
theorem io_g_10_15 (B : CallFix p m c cc nL s args io_tb RX10) (Z : io_Z D ca ad A s H locs σ) (hdg : decode cc pc = .ok (.getfield 45, 3)) (kk : W p l e R s m args below meth c H locs cells slots Q (F0 m (pc + 3) ls (.ref (ad 123) :: rest))) : W p l e R s m args below meth c H locs cells slots Q (F0 m pc ls (.ref (ad 111) :: rest)) :=
  io_get B Z (ci := 10) rfl io_in10 111 (by decide) (io_e_111 _) 15 (by decide) (io_of 848 (by decide +kernel) (by decide +kernel)) rfl hdg kk
theorem io_g_10_16 (B : CallFix p m c cc nL s args io_tb RX10) (Z : io_Z D ca ad A s H locs σ) (hdg : decode cc pc = .ok (.getfield 155, 3)) (kk : W p l e R s m args below meth c H locs cells slots Q (F0 m (pc + 3) ls (.int (σ 111 16) :: rest))) : W p l e R s m args below meth c H locs cells slots Q (F0 m pc ls (.ref (ad 111) :: rest)) :=
  io_get B Z (ci := 10) rfl io_in10 111 (by decide) (io_e_111 _) 16 (by decide) (io_of 849 (by decide +kernel) (by decide +kernel)) rfl hdg kk
theorem io_p_10_16 (B : CallFix p m c cc nL s args io_tb RX10) (Z : io_Z D ca ad A s H locs σ) {x : Int32} (hdg : decode cc pc = .ok (.putfield 155, 3)) (kk : ∀ (σ1 : io_M) (H1 : Heap) (locs1 : List Loc), σ1 = io_up σ 111 16 x → io_Z D ca ad A s H1 locs1 σ1 → W p l e R s m args below meth c H1 locs1 cells slots Q (F0 m (pc + 3) ls rest)) : W p l e R s m args below meth c H locs cells slots Q (F0 m pc ls (.int x :: .ref (ad 111) :: rest)) :=
  io_put B Z (ci := 10) (ty := .int) (x := x) rfl io_in10 tyX10 tyX10_ok nmX10 111 (by decide) (io_e_111 _) 16 (by decide) (io_of 849 (by decide +kernel) (by decide +kernel)) rfl (by decide +kernel) rfl rfl (Nat.le_of_ble_eq_true rfl) (io_e_111 _) hdg kk
theorem io_g_10_17 (B : CallFix p m c cc nL s args io_tb RX10) (Z : io_Z D ca ad A s H locs σ) (hdg : decode cc pc = .ok (.getfield 48, 3)) (kk : W p l e R s m args below meth c H locs cells slots Q (F0 m (pc + 3) ls (.ref (ad 124) :: rest))) : W p l e R s m args below meth c H locs cells slots Q (F0 m pc ls (.ref (ad 111) :: rest)) :=
  io_get B Z (ci := 10) rfl io_in10 111 (by decide) (io_e_111 _) 17 (by decide) (io_of 850 (by decide +kernel) (by decide +kernel)) rfl hdg kk
theorem io_g_10_18 (B : CallFix p m c cc nL s args io_tb RX10) (Z : io_Z D ca ad A s H locs σ) (hdg : decode cc pc = .ok (.getfield 51, 3)) (kk : W p l e R s m args below meth c H locs cells slots Q (F0 m (pc + 3) ls (.ref (ad 125) :: rest))) : W p l e R s m args below meth c H locs cells slots Q (F0 m pc ls (.ref (ad 111) :: rest)) :=
  io_get B Z (ci := 10) rfl io_in10 111 (by decide) (io_e_111 _) 18 (by decide) (io_of 851 (by decide +kernel) (by decide +kernel)) rfl hdg kk
theorem io_g_10_19 (B : CallFix p m c cc nL s args io_tb RX10) (Z : io_Z D ca ad A s H locs σ) (hdg : decode cc pc = .ok (.getfield 54, 3)) (kk : W p l e R s m args below meth c H locs cells slots Q (F0 m (pc + 3) ls (.ref (ad 126) :: rest))) : W p l e R s m args below meth c H locs cells slots Q (F0 m pc ls (.ref (ad 111) :: rest)) :=
  io_get B Z (ci := 10) rfl io_in10 111 (by decide) (io_e_111 _) 19 (by decide) (io_of 852 (by decide +kernel) (by decide +kernel)) rfl hdg kk
theorem io_g_10_20 (B : CallFix p m c cc nL s args io_tb RX10) (Z : io_Z D ca ad A s H locs σ) (hdg : decode cc pc = .ok (.getfield 57, 3)) (kk : W p l e R s m args below meth c H locs cells slots Q (F0 m (pc + 3) ls (.ref (ad 127) :: rest))) : W p l e R s m args below meth c H locs cells slots Q (F0 m pc ls (.ref (ad 111) :: rest)) :=
  io_get B Z (ci := 10) rfl io_in10 111 (by decide) (io_e_111 _) 20 (by decide) (io_of 853 (by decide +kernel) (by decide +kernel)) rfl hdg kk
theorem io_g_10_21 (B : CallFix p m c cc nL s args io_tb RX10) (Z : io_Z D ca ad A s H locs σ) (hdg : decode cc pc = .ok (.getfield 60, 3)) (kk : W p l e R s m args below meth c H locs cells slots Q (F0 m (pc + 3) ls (.ref (ad 128) :: rest))) : W p l e R s m args below meth c H locs cells slots Q (F0 m pc ls (.ref (ad 111) :: rest)) :=
  io_get B Z (ci := 10) rfl io_in10 111 (by decide) (io_e_111 _) 21 (by decide) (io_of 854 (by decide +kernel) (by decide +kernel)) rfl hdg kk
theorem io_g_10_22 (B : CallFix p m c cc nL s args io_tb RX10) (Z : io_Z D ca ad A s H locs σ) (hdg : decode cc pc = .ok (.getfield 63, 3)) (kk : W p l e R s m args below meth c H locs cells slots Q (F0 m (pc + 3) ls (.ref (ad 129) :: rest))) : W p l e R s m args below meth c H locs cells slots Q (F0 m pc ls (.ref (ad 111) :: rest)) :=
  io_get B Z (ci := 10) rfl io_in10 111 (by decide) (io_e_111 _) 22 (by decide) (io_of 855 (by decide +kernel) (by decide +kernel)) rfl hdg kk
theorem io_g_10_23 (B : CallFix p m c cc nL s args io_tb RX10) (Z : io_Z D ca ad A s H locs σ) (hdg : decode cc pc = .ok (.getfield 66, 3)) (kk : W p l e R s m args below meth c H locs cells slots Q (F0 m (pc + 3) ls (.ref (ad 130) :: rest))) : W p l e R s m args below meth c H locs cells slots Q (F0 m pc ls (.ref (ad 111) :: rest)) :=
  io_get B Z (ci := 10) rfl io_in10 111 (by decide) (io_e_111 _) 23 (by decide) (io_of 856 (by decide +kernel) (by decide +kernel)) rfl hdg kk
theorem io_g_10_24 (B : CallFix p m c cc nL s args io_tb RX10) (Z : io_Z D ca ad A s H locs σ) (hdg : decode cc pc = .ok (.getfield 69, 3)) (kk : W p l e R s m args below meth c H locs cells slots Q (F0 m (pc + 3) ls (.ref (ad 131) :: rest))) : W p l e R s m args below meth c H locs cells slots Q (F0 m pc ls (.ref (ad 111) :: rest)) :=
  io_get B Z (ci := 10) rfl io_in10 111 (by decide) (io_e_111 _) 24 (by decide) (io_of 857 (by decide +kernel) (by decide +kernel)) rfl hdg kk
theorem io_g_10_25 (B : CallFix p m c cc nL s args io_tb RX10) (Z : io_Z D ca ad A s H locs σ) (hdg : decode cc pc = .ok (.getfield 72, 3)) (kk : W p l e R s m args below meth c H locs cells slots Q (F0 m (pc + 3) ls (.ref (ad 132) :: rest))) : W p l e R s m args below meth c H locs cells slots Q (F0 m pc ls (.ref (ad 111) :: rest)) :=
  io_get B Z (ci := 10) rfl io_in10 111 (by decide) (io_e_111 _) 25 (by decide) (io_of 858 (by decide +kernel) (by decide +kernel)) rfl hdg kk
theorem io_g_10_26 (B : CallFix p m c cc nL s args io_tb RX10) (Z : io_Z D ca ad A s H locs σ) (hdg : decode cc pc = .ok (.getfield 75, 3)) (kk : W p l e R s m args below meth c H locs cells slots Q (F0 m (pc + 3) ls (.ref (ad 133) :: rest))) : W p l e R s m args below meth c H locs cells slots Q (F0 m pc ls (.ref (ad 111) :: rest)) :=
  io_get B Z (ci := 10) rfl io_in10 111 (by decide) (io_e_111 _) 26 (by decide) (io_of 859 (by decide +kernel) (by decide +kernel)) rfl hdg kk
theorem io_g_10_27 (B : CallFix p m c cc nL s args io_tb RX10) (Z : io_Z D ca ad A s H locs σ) (hdg : decode cc pc = .ok (.getfield 78, 3)) (kk : W p l e R s m args below meth c H locs cells slots Q (F0 m (pc + 3) ls (.ref (ad 134) :: rest))) : W p l e R s m args below meth c H locs cells slots Q (F0 m pc ls (.ref (ad 111) :: rest)) :=
  io_get B Z (ci := 10) rfl io_in10 111 (by decide) (io_e_111 _) 27 (by decide) (io_of 860 (by decide +kernel) (by decide +kernel)) rfl hdg kk
theorem io_g_10_28 (B : CallFix p m c cc nL s args io_tb RX10) (Z : io_Z D ca ad A s H locs σ) (hdg : decode cc pc = .ok (.getfield 269, 3)) (kk : W p l e R s m args below meth c H locs cells slots Q (F0 m (pc + 3) ls (.int (σ 111 28) :: rest))) : W p l e R s m args below meth c H locs cells slots Q (F0 m pc ls (.ref (ad 111) :: rest)) :=
  io_get B Z (ci := 10) rfl io_in10 111 (by decide) (io_e_111 _) 28 (by decide) (io_of 861 (by decide +kernel) (by decide +kernel)) rfl hdg kk
theorem io_p_10_28 (B : CallFix p m c cc nL s args io_tb RX10) (Z : io_Z D ca ad A s H locs σ) {x : Int32} (hdg : decode cc pc = .ok (.putfield 269, 3)) (kk : ∀ (σ1 : io_M) (H1 : Heap) (locs1 : List Loc), σ1 = io_up σ 111 28 x → io_Z D ca ad A s H1 locs1 σ1 → W p l e R s m args below meth c H1 locs1 cells slots Q (F0 m (pc + 3) ls rest)) : W p l e R s m args below meth c H locs cells slots Q (F0 m pc ls (.int x :: .ref (ad 111) :: rest)) :=
  io_put B Z (ci := 10) (ty := .int) (x := x) rfl io_in10 tyX10 tyX10_ok nmX10 111 (by decide) (io_e_111 _) 28 (by decide) (io_of 861 (by decide +kernel) (by decide +kernel)) rfl (by decide +kernel) rfl rfl (Nat.le_of_ble_eq_true rfl) (io_e_111 _) hdg kk
theorem io_g_10_29 (B : CallFix p m c cc nL s args io_tb RX10) (Z : io_Z D ca ad A s H locs σ) (hdg : decode cc pc = .ok (.getfield 81, 3)) (kk : W p l e R s m args below meth c H locs cells slots Q (F0 m (pc + 3) ls (.ref (ad 135) :: rest))) : W p l e R s m args below meth c H locs cells slots Q (F0 m pc ls (.ref (ad 111) :: rest)) :=
  io_get B Z (ci := 10) rfl io_in10 111 (by decide) (io_e_111 _) 29 (by decide) (io_of 862 (by decide +kernel) (by decide +kernel)) rfl hdg kk
theorem io_g_10_30 (B : CallFix p m c cc nL s args io_tb RX10) (Z : io_Z D ca ad A s H locs σ) (hdg : decode cc pc = .ok (.getfield 84, 3)) (kk : W p l e R s m args below meth c H locs cells slots Q (F0 m (pc + 3) ls (.ref (ad 136) :: rest))) : W p l e R s m args below meth c H locs cells slots Q (F0 m pc ls (.ref (ad 111) :: rest)) :=
  io_get B Z (ci := 10) rfl io_in10 111 (by decide) (io_e_111 _) 30 (by decide) (io_of 863 (by decide +kernel) (by decide +kernel)) rfl hdg kk
theorem io_g_10_31 (B : CallFix p m c cc nL s args io_tb RX10) (Z : io_Z D ca ad A s H locs σ) (hdg : decode cc pc = .ok (.getfield 87, 3)) (kk : W p l e R s m args below meth c H locs cells slots Q (F0 m (pc + 3) ls (.ref (ad 137) :: rest))) : W p l e R s m args below meth c H locs cells slots Q (F0 m pc ls (.ref (ad 111) :: rest)) :=
  io_get B Z (ci := 10) rfl io_in10 111 (by decide) (io_e_111 _) 31 (by decide) (io_of 864 (by decide +kernel) (by decide +kernel)) rfl hdg kk
theorem io_g_10_32 (B : CallFix p m c cc nL s args io_tb RX10) (Z : io_Z D ca ad A s H locs σ) (hdg : decode cc pc = .ok (.getfield 90, 3)) (kk : W p l e R s m args below meth c H locs cells slots Q (F0 m (pc + 3) ls (.ref (ad 138) :: rest))) : W p l e R s m args below meth c H locs cells slots Q (F0 m pc ls (.ref (ad 111) :: rest)) :=
  io_get B Z (ci := 10) rfl io_in10 111 (by decide) (io_e_111 _) 32 (by decide) (io_of 865 (by decide +kernel) (by decide +kernel)) rfl hdg kk
theorem io_g_10_33 (B : CallFix p m c cc nL s args io_tb RX10) (Z : io_Z D ca ad A s H locs σ) (hdg : decode cc pc = .ok (.getfield 158, 3)) (kk : W p l e R s m args below meth c H locs cells slots Q (F0 m (pc + 3) ls (.int (σ 111 33) :: rest))) : W p l e R s m args below meth c H locs cells slots Q (F0 m pc ls (.ref (ad 111) :: rest)) :=
  io_get B Z (ci := 10) rfl io_in10 111 (by decide) (io_e_111 _) 33 (by decide) (io_of 866 (by decide +kernel) (by decide +kernel)) rfl hdg kk
theorem io_p_10_33 (B : CallFix p m c cc nL s args io_tb RX10) (Z : io_Z D ca ad A s H locs σ) {x : Int32} (hdg : decode cc pc = .ok (.putfield 158, 3)) (kk : ∀ (σ1 : io_M) (H1 : Heap) (locs1 : List Loc), σ1 = io_up σ 111 33 x → io_Z D ca ad A s H1 locs1 σ1 → W p l e R s m args below meth c H1 locs1 cells slots Q (F0 m (pc + 3) ls rest)) : W p l e R s m args below meth c H locs cells slots Q (F0 m pc ls (.int x :: .ref (ad 111) :: rest)) :=
  io_put B Z (ci := 10) (ty := .int) (x := x) rfl io_in10 tyX10 tyX10_ok nmX10 111 (by decide) (io_e_111 _) 33 (by decide) (io_of 866 (by decide +kernel) (by decide +kernel)) rfl (by decide +kernel) rfl rfl (Nat.le_of_ble_eq_true rfl) (io_e_111 _) hdg kk
theorem io_g_10_34 (B : CallFix p m c cc nL s args io_tb RX10) (Z : io_Z D ca ad A s H locs σ) (hdg : decode cc pc = .ok (.getfield 93, 3)) (kk : W p l e R s m args below meth c H locs cells slots Q (F0 m (pc + 3) ls (.ref (ad 139) :: rest))) : W p l e R s m args below meth c H locs cells slots Q (F0 m pc ls (.ref (ad 111) :: rest)) :=
  io_get B Z (ci := 10) rfl io_in10 111 (by decide) (io_e_111 _) 34 (by decide) (io_of 867 (by decide +kernel) (by decide +kernel)) rfl hdg kk
theorem io_g_10_35 (B : CallFix p m c cc nL s args io_tb RX10) (Z : io_Z D ca ad A s H locs σ) (hdg : decode cc pc = .ok (.getfield 200, 3)) (kk : W p l e R s m args below meth c H locs cells slots Q (F0 m (pc + 3) ls (.int (σ 111 35) :: rest))) : W p l e R s m args below meth c H locs cells slots Q (F0 m pc ls (.ref (ad 111) :: rest)) :=
  io_get B Z (ci := 10) rfl io_in10 111 (by decide) (io_e_111 _) 35 (by decide) (io_of 868 (by decide +kernel) (by decide +kernel)) rfl hdg kk
theorem io_p_10_35 (B : CallFix p m c cc nL s args io_tb RX10) (Z : io_Z D ca ad A s H locs σ) {x : Int32} (hdg : decode cc pc = .ok (.putfield 200, 3)) (kk : ∀ (σ1 : io_M) (H1 : Heap) (locs1 : List Loc), σ1 = io_up σ 111 35 x → io_Z D ca ad A s H1 locs1 σ1 → W p l e R s m args below meth c H1 locs1 cells slots Q (F0 m (pc + 3) ls rest)) : W p l e R s m args below meth c H locs cells slots Q (F0 m pc ls (.int x :: .ref (ad 111) :: rest)) :=
  io_put B Z (ci := 10) (ty := .int) (x := x) rfl io_in10 tyX10 tyX10_ok nmX10 111 (by decide) (io_e_111 _) 35 (by decide) (io_of 868 (by decide +kernel) (by decide +kernel)) rfl (by decide +kernel) rfl rfl (Nat.le_of_ble_eq_true rfl) (io_e_111 _) hdg kk
theorem io_g_10_36 (B : CallFix p m c cc nL s args io_tb RX10) (Z : io_Z D ca ad A s H locs σ) (hdg : decode cc pc = .ok (.getfield 284, 3)) (kk : W p l e R s m args below meth c H locs cells slots Q (F0 m (pc + 3) ls (.int (σ 111 36) :: rest))) : W p l e R s m args below meth c H locs cells slots Q (F0 m pc ls (.ref (ad 111) :: rest)) :=
  io_get B Z (ci := 10) rfl io_in10 111 (by decide) (io_e_111 _) 36 (by decide) (io_of 869 (by decide +kernel) (by decide +kernel)) rfl hdg kk
theorem io_p_10_36 (B : CallFix p m c cc nL s args io_tb RX10) (Z : io_Z D ca ad A s H locs σ) {x : Int32} (hdg : decode cc pc = .ok (.putfield 284, 3)) (kk : ∀ (σ1 : io_M) (H1 : Heap) (locs1 : List Loc), σ1 = io_up σ 111 36 x → io_Z D ca ad A s H1 locs1 σ1 → W p l e R s m args below meth c H1 locs1 cells slots Q (F0 m (pc + 3) ls rest)) : W p l e R s m args below meth c H locs cells slots Q (F0 m pc ls (.int x :: .ref (ad 111) :: rest)) :=
  io_put B Z (ci := 10) (ty := .int) (x := x) rfl io_in10 tyX10 tyX10_ok nmX10 111 (by decide) (io_e_111 _) 36 (by decide) (io_of 869 (by decide +kernel) (by decide +kernel)) rfl (by decide +kernel) rfl rfl (Nat.le_of_ble_eq_true rfl) (io_e_111 _) hdg kk
theorem io_g_10_37 (B : CallFix p m c cc nL s args io_tb RX10) (Z : io_Z D ca ad A s H locs σ) (hdg : decode cc pc = .ok (.getfield 96, 3)) (kk : W p l e R s m args below meth c H locs cells slots Q (F0 m (pc + 3) ls (.int (σ 111 37) :: rest))) : W p l e R s m args below meth c H locs cells slots Q (F0 m pc ls (.ref (ad 111) :: rest)) :=
  io_get B Z (ci := 10) rfl io_in10 111 (by decide) (io_e_111 _) 37 (by decide) (io_of 870 (by decide +kernel) (by decide +kernel)) rfl hdg kk
theorem io_p_10_37 (B : CallFix p m c cc nL s args io_tb RX10) (Z : io_Z D ca ad A s H locs σ) {x : Int32} (hdg : decode cc pc = .ok (.putfield 96, 3)) (kk : ∀ (σ1 : io_M) (H1 : Heap) (locs1 : List Loc), σ1 = io_up σ 111 37 x → io_Z D ca ad A s H1 locs1 σ1 → W p l e R s m args below meth c H1 locs1 cells slots Q (F0 m (pc + 3) ls rest)) : W p l e R s m args below meth c H locs cells slots Q (F0 m pc ls (.int x :: .ref (ad 111) :: rest)) :=
  io_put B Z (ci := 10) (ty := .int) (x := x) rfl io_in10 tyX10 tyX10_ok nmX10 111 (by decide) (io_e_111 _) 37 (by decide) (io_of 870 (by decide +kernel) (by decide +kernel)) rfl (by decide +kernel) rfl rfl (Nat.le_of_ble_eq_true rfl) (io_e_111 _) hdg kk
theorem io_g_10_38 (B : CallFix p m c cc nL s args io_tb RX10) (Z : io_Z D ca ad A s H locs σ) (hdg : decode cc pc = .ok (.getfield 188, 3)) (kk : W p l e R s m args below meth c H locs cells slots Q (F0 m (pc + 3) ls (.int (σ 111 38) :: rest))) : W p l e R s m args below meth c H locs cells slots Q (F0 m pc ls (.ref (ad 111) :: rest)) :=
  io_get B Z (ci := 10) rfl io_in10 111 (by decide) (io_e_111 _) 38 (by decide) (io_of 871 (by decide +kernel) (by decide +kernel)) rfl hdg kk
theorem io_p_10_38 (B : CallFix p m c cc nL s args io_tb RX10) (Z : io_Z D ca ad A s H locs σ) {x : Int32} (hdg : decode cc pc = .ok (.putfield 188, 3)) (kk : ∀ (σ1 : io_M) (H1 : Heap) (locs1 : List Loc), σ1 = io_up σ 111 38 x → io_Z D ca ad A s H1 locs1 σ1 → W p l e R s m args below meth c H1 locs1 cells slots Q (F0 m (pc + 3) ls rest)) : W p l e R s m args below meth c H locs cells slots Q (F0 m pc ls (.int x :: .ref (ad 111) :: rest)) :=
  io_put B Z (ci := 10) (ty := .int) (x := x) rfl io_in10 tyX10 tyX10_ok nmX10 111 (by decide) (io_e_111 _) 38 (by decide) (io_of 871 (by decide +kernel) (by decide +kernel)) rfl (by decide +kernel) rfl rfl (Nat.le_of_ble_eq_true rfl) (io_e_111 _) hdg kk
theorem io_g_10_39 (B : CallFix p m c cc nL s args io_tb RX10) (Z : io_Z D ca ad A s H locs σ) (hdg : decode cc pc = .ok (.getfield 100, 3)) (kk : W p l e R s m args below meth c H locs cells slots Q (F0 m (pc + 3) ls (.ref (ad 140) :: rest))) : W p l e R s m args below meth c H locs cells slots Q (F0 m pc ls (.ref (ad 111) :: rest)) :=
  io_get B Z (ci := 10) rfl io_in10 111 (by decide) (io_e_111 _) 39 (by decide) (io_of 872 (by decide +kernel) (by decide +kernel)) rfl hdg kk
theorem io_g_10_40 (B : CallFix p m c cc nL s args io_tb RX10) (Z : io_Z D ca ad A s H locs σ) (hdg : decode cc pc = .ok (.getfield 103, 3)) (kk : W p l e R s m args below meth c H locs cells slots Q (F0 m (pc + 3) ls (.ref (ad 141) :: rest))) : W p l e R s m args below meth c H locs cells slots Q (F0 m pc ls (.ref (ad 111) :: rest)) :=
  io_get B Z (ci := 10) rfl io_in10 111 (by decide) (io_e_111 _) 40 (by decide) (io_of 873 (by decide +kernel) (by decide +kernel)) rfl hdg kk
theorem io_g_10_41 (B : CallFix p m c cc nL s args io_tb RX10) (Z : io_Z D ca ad A s H locs σ) (hdg : decode cc pc = .ok (.getfield 106, 3)) (kk : W p l e R s m args below meth c H locs cells slots Q (F0 m (pc + 3) ls (.ref (ad 142) :: rest))) : W p l e R s m args below meth c H locs cells slots Q (F0 m pc ls (.ref (ad 111) :: rest)) :=
  io_get B Z (ci := 10) rfl io_in10 111 (by decide) (io_e_111 _) 41 (by decide) (io_of 874 (by decide +kernel) (by decide +kernel)) rfl hdg kk
theorem io_g_10_42 (B : CallFix p m c cc nL s args io_tb RX10) (Z : io_Z D ca ad A s H locs σ) (hdg : decode cc pc = .ok (.getfield 109, 3)) (kk : W p l e R s m args below meth c H locs cells slots Q (F0 m (pc + 3) ls (.ref (ad 143) :: rest))) : W p l e R s m args below meth c H locs cells slots Q (F0 m pc ls (.ref (ad 111) :: rest)) :=
  io_get B Z (ci := 10) rfl io_in10 111 (by decide) (io_e_111 _) 42 (by decide) (io_of 875 (by decide +kernel) (by decide +kernel)) rfl hdg kk
theorem io_g_10_43 (B : CallFix p m c cc nL s args io_tb RX10) (Z : io_Z D ca ad A s H locs σ) (hdg : decode cc pc = .ok (.getfield 112, 3)) (kk : W p l e R s m args below meth c H locs cells slots Q (F0 m (pc + 3) ls (.ref (ad 144) :: rest))) : W p l e R s m args below meth c H locs cells slots Q (F0 m pc ls (.ref (ad 111) :: rest)) :=
  io_get B Z (ci := 10) rfl io_in10 111 (by decide) (io_e_111 _) 43 (by decide) (io_of 876 (by decide +kernel) (by decide +kernel)) rfl hdg kk
theorem io_g_10_44 (B : CallFix p m c cc nL s args io_tb RX10) (Z : io_Z D ca ad A s H locs σ) (hdg : decode cc pc = .ok (.getfield 115, 3)) (kk : W p l e R s m args below meth c H locs cells slots Q (F0 m (pc + 3) ls (.ref (ad 145) :: rest))) : W p l e R s m args below meth c H locs cells slots Q (F0 m pc ls (.ref (ad 111) :: rest)) :=
  io_get B Z (ci := 10) rfl io_in10 111 (by decide) (io_e_111 _) 44 (by decide) (io_of 877 (by decide +kernel) (by decide +kernel)) rfl hdg kk
theorem io_g_10_45 (B : CallFix p m c cc nL s args io_tb RX10) (Z : io_Z D ca ad A s H locs σ) (hdg : decode cc pc = .ok (.getfield 118, 3)) (kk : W p l e R s m args below meth c H locs cells slots Q (F0 m (pc + 3) ls (.ref (ad 146) :: rest))) : W p l e R s m args below meth c H locs cells slots Q (F0 m pc ls (.ref (ad 111) :: rest)) :=
  io_get B Z (ci := 10) rfl io_in10 111 (by decide) (io_e_111 _) 45 (by decide) (io_of 878 (by decide +kernel) (by decide +kernel)) rfl hdg kk
theorem io_g_10_46 (B : CallFix p m c cc nL s args io_tb RX10) (Z : io_Z D ca ad A s H locs σ) (hdg : decode cc pc = .ok (.getfield 182, 3)) (kk : W p l e R s m args below meth c H locs cells slots Q (F0 m (pc + 3) ls (.int (σ 111 46) :: rest))) : W p l e R s m args below meth c H locs cells slots Q (F0 m pc ls (.ref (ad 111) :: rest)) :=
  io_get B Z (ci := 10) rfl io_in10 111 (by decide) (io_e_111 _) 46 (by decide) (io_of 879 (by decide +kernel) (by decide +kernel)) rfl hdg kk
theorem io_p_10_46 (B : CallFix p m c cc nL s args io_tb RX10) (Z : io_Z D ca ad A s H locs σ) {x : Int32} (hdg : decode cc pc = .ok (.putfield 182, 3)) (kk : ∀ (σ1 : io_M) (H1 : Heap) (locs1 : List Loc), σ1 = io_up σ 111 46 x → io_Z D ca ad A s H1 locs1 σ1 → W p l e R s m args below meth c H1 locs1 cells slots Q (F0 m (pc + 3) ls rest)) : W p l e R s m args below meth c H locs cells slots Q (F0 m pc ls (.int x :: .ref (ad 111) :: rest)) :=
  io_put B Z (ci := 10) (ty := .int) (x := x) rfl io_in10 tyX10 tyX10_ok nmX10 111 (by decide) (io_e_111 _) 46 (by decide) (io_of 879 (by decide +kernel) (by decide +kernel)) rfl (by decide +kernel) rfl rfl (Nat.le_of_ble_eq_true rfl) (io_e_111 _) hdg kk
theorem io_g_10_47 (B : CallFix p m c cc nL s args io_tb RX10) (Z : io_Z D ca ad A s H locs σ) (hdg : decode cc pc = .ok (.getfield 185, 3)) (kk : W p l e R s m args below meth c H locs cells slots Q (F0 m (pc + 3) ls (.int (σ 111 47) :: rest))) : W p l e R s m args below meth c H locs cells slots Q (F0 m pc ls (.ref (ad 111) :: rest)) :=
  io_get B Z (ci := 10) rfl io_in10 111 (by decide) (io_e_111 _) 47 (by decide) (io_of 880 (by decide +kernel) (by decide +kernel)) rfl hdg kk
theorem io_p_10_47 (B : CallFix p m c cc nL s args io_tb RX10) (Z : io_Z D ca ad A s H locs σ) {x : Int32} (hdg : decode cc pc = .ok (.putfield 185, 3)) (kk : ∀ (σ1 : io_M) (H1 : Heap) (locs1 : List Loc), σ1 = io_up σ 111 47 x → io_Z D ca ad A s H1 locs1 σ1 → W p l e R s m args below meth c H1 locs1 cells slots Q (F0 m (pc + 3) ls rest)) : W p l e R s m args below meth c H locs cells slots Q (F0 m pc ls (.int x :: .ref (ad 111) :: rest)) :=
  io_put B Z (ci := 10) (ty := .int) (x := x) rfl io_in10 tyX10 tyX10_ok nmX10 111 (by decide) (io_e_111 _) 47 (by decide) (io_of 880 (by decide +kernel) (by decide +kernel)) rfl (by decide +kernel) rfl rfl (Nat.le_of_ble_eq_true rfl) (io_e_111 _) hdg kk
theorem io_g_10_48 (B : CallFix p m c cc nL s args io_tb RX10) (Z : io_Z D ca ad A s H locs σ) (hdg : decode cc pc = .ok (.getfield 191, 3)) (kk : W p l e R s m args below meth c H locs cells slots Q (F0 m (pc + 3) ls (.int (σ 111 48) :: rest))) : W p l e R s m args below meth c H locs cells slots Q (F0 m pc ls (.ref (ad 111) :: rest)) :=
  io_get B Z (ci := 10) rfl io_in10 111 (by decide) (io_e_111 _) 48 (by decide) (io_of 881 (by decide +kernel) (by decide +kernel)) rfl hdg kk
theorem io_p_10_48 (B : CallFix p m c cc nL s args io_tb RX10) (Z : io_Z D ca ad A s H locs σ) {x : Int32} (hdg : decode cc pc = .ok (.putfield 191, 3)) (kk : ∀ (σ1 : io_M) (H1 : Heap) (locs1 : List Loc), σ1 = io_up σ 111 48 x → io_Z D ca ad A s H1 locs1 σ1 → W p l e R s m args below meth c H1 locs1 cells slots Q (F0 m (pc + 3) ls rest)) : W p l e R s m args below meth c H locs cells slots Q (F0 m pc ls (.int x :: .ref (ad 111) :: rest)) :=
  io_put B Z (ci := 10) (ty := .int) (x := x) rfl io_in10 tyX10 tyX10_ok nmX10 111 (by decide) (io_e_111 _) 48 (by decide) (io_of 881 (by decide +kernel) (by decide +kernel)) rfl (by decide +kernel) rfl rfl (Nat.le_of_ble_eq_true rfl) (io_e_111 _) hdg kk
theorem io_g_10_49 (B : CallFix p m c cc nL s args io_tb RX10) (Z : io_Z D ca ad A s H locs σ) (hdg : decode cc pc = .ok (.getfield 194, 3)) (kk : W p l e R s m args below meth c H locs cells slots Q (F0 m (pc + 3) ls (.int (σ 111 49) :: rest))) : W p l e R s m args below meth c H locs cells slots Q (F0 m pc ls (.ref (ad 111) :: rest)) :=
  io_get B Z (ci := 10) rfl io_in10 111 (by decide) (io_e_111 _) 49 (by decide) (io_of 882 (by decide +kernel) (by decide +kernel)) rfl hdg kk
theorem io_p_10_49 (B : CallFix p m c cc nL s args io_tb RX10) (Z : io_Z D ca ad A s H locs σ) {x : Int32} (hdg : decode cc pc = .ok (.putfield 194, 3)) (kk : ∀ (σ1 : io_M) (H1 : Heap) (locs1 : List Loc), σ1 = io_up σ 111 49 x → io_Z D ca ad A s H1 locs1 σ1 → W p l e R s m args below meth c H1 locs1 cells slots Q (F0 m (pc + 3) ls rest)) : W p l e R s m args below meth c H locs cells slots Q (F0 m pc ls (.int x :: .ref (ad 111) :: rest)) :=
  io_put B Z (ci := 10) (ty := .int) (x := x) rfl io_in10 tyX10 tyX10_ok nmX10 111 (by decide) (io_e_111 _) 49 (by decide) (io_of 882 (by decide +kernel) (by decide +kernel)) rfl (by decide +kernel) rfl rfl (Nat.le_of_ble_eq_true rfl) (io_e_111 _) hdg kk
theorem io_g_10_50 (B : CallFix p m c cc nL s args io_tb RX10) (Z : io_Z D ca ad A s H locs σ) (hdg : decode cc pc = .ok (.getfield 197, 3)) (kk : W p l e R s m args below meth c H locs cells slots Q (F0 m (pc + 3) ls (.int (σ 111 50) :: rest))) : W p l e R s m args below meth c H locs cells slots Q (F0 m pc ls (.ref (ad 111) :: rest)) :=
  io_get B Z (ci := 10) rfl io_in10 111 (by decide) (io_e_111 _) 50 (by decide) (io_of 883 (by decide +kernel) (by decide +kernel)) rfl hdg kk
theorem io_p_10_50 (B : CallFix p m c cc nL s args io_tb RX10) (Z : io_Z D ca ad A s H locs σ) {x : Int32} (hdg : decode cc pc = .ok (.putfield 197, 3)) (kk : ∀ (σ1 : io_M) (H1 : Heap) (locs1 : List Loc), σ1 = io_up σ 111 50 x → io_Z D ca ad A s H1 locs1 σ1 → W p l e R s m args below meth c H1 locs1 cells slots Q (F0 m (pc + 3) ls rest)) : W p l e R s m args below meth c H locs cells slots Q (F0 m pc ls (.int x :: .ref (ad 111) :: rest)) :=
  io_put B Z (ci := 10) (ty := .int) (x := x) rfl io_in10 tyX10 tyX10_ok nmX10 111 (by decide) (io_e_111 _) 50 (by decide) (io_of 883 (by decide +kernel) (by decide +kernel)) rfl (by decide +kernel) rfl rfl (Nat.le_of_ble_eq_true rfl) (io_e_111 _) hdg kk
theorem io_g_10_51 (B : CallFix p m c cc nL s args io_tb RX10) (Z : io_Z D ca ad A s H locs σ) (hdg : decode cc pc = .ok (.getfield 121, 3)) (kk : W p l e R s m args below meth c H locs cells slots Q (F0 m (pc + 3) ls (.ref (ad 147) :: rest))) : W p l e R s m args below meth c H locs cells slots Q (F0 m pc ls (.ref (ad 111) :: rest)) :=
  io_get B Z (ci := 10) rfl io_in10 111 (by decide) (io_e_111 _) 51 (by decide) (io_of 884 (by decide +kernel) (by decide +kernel)) rfl hdg kk
theorem io_g_10_52 (B : CallFix p m c cc nL s args io_tb RX10) (Z : io_Z D ca ad A s H locs σ) (hdg : decode cc pc = .ok (.getfield 124, 3)) (kk : W p l e R s m args below meth c H locs cells slots Q (F0 m (pc + 3) ls (.ref (ad 148) :: rest))) : W p l e R s m args below meth c H locs cells slots Q (F0 m pc ls (.ref (ad 111) :: rest)) :=
  io_get B Z (ci := 10) rfl io_in10 111 (by decide) (io_e_111 _) 52 (by decide) (io_of 885 (by decide +kernel) (by decide +kernel)) rfl hdg kk
end IW
theorem io_k_1_31 : io_LkS RX1 31 yJ7_fill_53178 cJ7_fill_53178 4 none 2 := ⟨⟨by decide +kernel, by decide +kernel, by decide +kernel⟩, io_of 95 (by decide +kernel) (by decide +kernel), io_of 96 (by decide +kernel) (by decide +kernel), io_of 67 (by decide +kernel) (by decide +kernel), io_of 97 (by decide +kernel) (by decide +kernel)⟩
theorem io_k_L_13 : io_LkV RL 13 RX9 yX9_lay cX9_lay 3 (some .int) 2 := ⟨⟨by decide +kernel, by decide +kernel, by decide +kernel, by decide +kernel⟩, io_of 322 (by decide +kernel) (by decide +kernel), io_of 323 (by decide +kernel) (by decide +kernel), io_of 324 (by decide +kernel) (by decide +kernel), io_of 65 (by decide +kernel) (by decide +kernel), io_of 325 (by decide +kernel) (by decide +kernel)⟩
theorem io_k_9_62 : io_LkS RX9 62 yX9_within cX9_within 2 (some .boolean) 2 := ⟨⟨by decide +kernel, by decide +kernel, by decide +kernel⟩, io_of 326 (by decide +kernel) (by decide +kernel), io_of 327 (by decide +kernel) (by decide +kernel), io_of 65 (by decide +kernel) (by decide +kernel), io_of 328 (by decide +kernel) (by decide +kernel)⟩
theorem io_k_9_66 : io_LkV RX9 66 RX1 yX1_append cX1_append 4 (some .boolean) 2 := ⟨⟨by decide +kernel, by decide +kernel, by decide +kernel, by decide +kernel⟩, io_of 329 (by decide +kernel) (by decide +kernel), io_of 330 (by decide +kernel) (by decide +kernel), io_of 331 (by decide +kernel) (by decide +kernel), io_of 66 (by decide +kernel) (by decide +kernel), io_of 332 (by decide +kernel) (by decide +kernel)⟩
theorem io_k_9_69 : io_LkV RX9 69 RX1 yX1_lengthOf cX1_lengthOf 2 (some .int) 1 := ⟨⟨by decide +kernel, by decide +kernel, by decide +kernel, by decide +kernel⟩, io_of 333 (by decide +kernel) (by decide +kernel), io_of 334 (by decide +kernel) (by decide +kernel), io_of 335 (by decide +kernel) (by decide +kernel), io_of 66 (by decide +kernel) (by decide +kernel), io_of 336 (by decide +kernel) (by decide +kernel)⟩
theorem io_k_L_18 : io_LkV RL 18 RX9 yX9_there cX9_there 4 (some .int) 2 := ⟨⟨by decide +kernel, by decide +kernel, by decide +kernel, by decide +kernel⟩, io_of 337 (by decide +kernel) (by decide +kernel), io_of 338 (by decide +kernel) (by decide +kernel), io_of 339 (by decide +kernel) (by decide +kernel), io_of 65 (by decide +kernel) (by decide +kernel), io_of 340 (by decide +kernel) (by decide +kernel)⟩
theorem io_k_9_73 : io_LkV RX9 73 RX1 yX1_isThere cX1_isThere 2 (some .boolean) 1 := ⟨⟨by decide +kernel, by decide +kernel, by decide +kernel, by decide +kernel⟩, io_of 341 (by decide +kernel) (by decide +kernel), io_of 342 (by decide +kernel) (by decide +kernel), io_of 343 (by decide +kernel) (by decide +kernel), io_of 66 (by decide +kernel) (by decide +kernel), io_of 344 (by decide +kernel) (by decide +kernel)⟩
theorem io_k_9_77 : io_LkV RX9 77 RX1 yX1_create cX1_create 2 none 1 := ⟨⟨by decide +kernel, by decide +kernel, by decide +kernel, by decide +kernel⟩, io_of 345 (by decide +kernel) (by decide +kernel), io_of 346 (by decide +kernel) (by decide +kernel), io_of 347 (by decide +kernel) (by decide +kernel), io_of 66 (by decide +kernel) (by decide +kernel), io_of 348 (by decide +kernel) (by decide +kernel)⟩
theorem io_k_9_81 : io_LkV RX9 81 RX1 yX1_remove cX1_remove 2 none 1 := ⟨⟨by decide +kernel, by decide +kernel, by decide +kernel, by decide +kernel⟩, io_of 349 (by decide +kernel) (by decide +kernel), io_of 350 (by decide +kernel) (by decide +kernel), io_of 351 (by decide +kernel) (by decide +kernel), io_of 66 (by decide +kernel) (by decide +kernel), io_of 352 (by decide +kernel) (by decide +kernel)⟩
theorem io_k_1_37 : io_LkV RX1 37 RX1 yX1_makeEmpty cX1_makeEmpty 2 none 1 := ⟨⟨by decide +kernel, by decide +kernel, by decide +kernel, by decide +kernel⟩, io_of 353 (by decide +kernel) (by decide +kernel), io_of 354 (by decide +kernel) (by decide +kernel), io_of 355 (by decide +kernel) (by decide +kernel), io_of 66 (by decide +kernel) (by decide +kernel), io_of 356 (by decide +kernel) (by decide +kernel)⟩
theorem io_k_L_23 : io_LkV RL 23 RX9 yX9_permit cX9_permit 3 (some .int) 2 := ⟨⟨by decide +kernel, by decide +kernel, by decide +kernel, by decide +kernel⟩, io_of 357 (by decide +kernel) (by decide +kernel), io_of 358 (by decide +kernel) (by decide +kernel), io_of 359 (by decide +kernel) (by decide +kernel), io_of 65 (by decide +kernel) (by decide +kernel), io_of 360 (by decide +kernel) (by decide +kernel)⟩
theorem io_k_9_84 : io_LkV RX9 84 RX1 yX1_changePermits cX1_changePermits 4 (some .int) 2 := ⟨⟨by decide +kernel, by decide +kernel, by decide +kernel, by decide +kernel⟩, io_of 361 (by decide +kernel) (by decide +kernel), io_of 362 (by decide +kernel) (by decide +kernel), io_of 363 (by decide +kernel) (by decide +kernel), io_of 66 (by decide +kernel) (by decide +kernel), io_of 364 (by decide +kernel) (by decide +kernel)⟩
theorem io_k_L_27 : io_LkV RL 27 RX9 yX9_input cX9_input 2 (some .int) 1 := ⟨⟨by decide +kernel, by decide +kernel, by decide +kernel, by decide +kernel⟩, io_of 365 (by decide +kernel) (by decide +kernel), io_of 366 (by decide +kernel) (by decide +kernel), io_of 367 (by decide +kernel) (by decide +kernel), io_of 65 (by decide +kernel) (by decide +kernel), io_of 368 (by decide +kernel) (by decide +kernel)⟩
theorem io_k_9_88 : io_LkV RX9 88 RX0 yX0_supply cX0_supply 2 (some .boolean) 1 := ⟨⟨by decide +kernel, by decide +kernel, by decide +kernel, by decide +kernel⟩, io_of 369 (by decide +kernel) (by decide +kernel), io_of 370 (by decide +kernel) (by decide +kernel), io_of 371 (by decide +kernel) (by decide +kernel), io_of 68 (by decide +kernel) (by decide +kernel), io_of 372 (by decide +kernel) (by decide +kernel)⟩
theorem io_k_9_91 : io_LkV RX9 91 RX0 yX0_left cX0_left 1 (some .int) 0 := ⟨⟨by decide +kernel, by decide +kernel, by decide +kernel, by decide +kernel⟩, io_of 373 (by decide +kernel) (by decide +kernel), io_of 374 (by decide +kernel) (by decide +kernel), io_of 375 (by decide +kernel) (by decide +kernel), io_of 68 (by decide +kernel) (by decide +kernel), io_of 376 (by decide +kernel) (by decide +kernel)⟩
theorem io_k_L_32 : io_LkV RL 32 RX9 yX9_node cX9_node 5 (some .int) 4 := ⟨⟨by decide +kernel, by decide +kernel, by decide +kernel, by decide +kernel⟩, io_of 377 (by decide +kernel) (by decide +kernel), io_of 378 (by decide +kernel) (by decide +kernel), io_of 379 (by decide +kernel) (by decide +kernel), io_of 65 (by decide +kernel) (by decide +kernel), io_of 380 (by decide +kernel) (by decide +kernel)⟩
theorem io_k_9_95 : io_LkV RX9 95 RX7 yX7_allows cX7_allows 5 (some .boolean) 4 := ⟨⟨by decide +kernel, by decide +kernel, by decide +kernel, by decide +kernel⟩, io_of 381 (by decide +kernel) (by decide +kernel), io_of 382 (by decide +kernel) (by decide +kernel), io_of 383 (by decide +kernel) (by decide +kernel), io_of 69 (by decide +kernel) (by decide +kernel), io_of 384 (by decide +kernel) (by decide +kernel)⟩
theorem io_k_7_31 : io_LkV RX7 31 RX7 yX7_fits cX7_fits 3 (some .boolean) 2 := ⟨⟨by decide +kernel, by decide +kernel, by decide +kernel, by decide +kernel⟩, io_of 387 (by decide +kernel) (by decide +kernel), io_of 389 (by decide +kernel) (by decide +kernel), io_of 0 (by decide +kernel) (by decide +kernel), io_of 69 (by decide +kernel) (by decide +kernel), io_of 390 (by decide +kernel) (by decide +kernel)⟩
theorem io_k_7_41 : io_LkN RX7 41 yX9_within cX9_within 2 (some .boolean) 2 := ⟨⟨by decide +kernel, by decide +kernel, by decide +kernel⟩, by decide +kernel, io_of 327 (by decide +kernel) (by decide +kernel), io_of 65 (by decide +kernel) (by decide +kernel), io_of 328 (by decide +kernel) (by decide +kernel)⟩
theorem io_k_9_99 : io_LkV RX9 99 RX7 yX7_add cX7_add 5 (some .int) 4 := ⟨⟨by decide +kernel, by decide +kernel, by decide +kernel, by decide +kernel⟩, io_of 396 (by decide +kernel) (by decide +kernel), io_of 397 (by decide +kernel) (by decide +kernel), io_of 398 (by decide +kernel) (by decide +kernel), io_of 69 (by decide +kernel) (by decide +kernel), io_of 399 (by decide +kernel) (by decide +kernel)⟩
theorem io_k_L_37 : io_LkV RL 37 RX9 yX9_clear cX9_clear 2 (some .int) 0 := ⟨⟨by decide +kernel, by decide +kernel, by decide +kernel, by decide +kernel⟩, io_of 400 (by decide +kernel) (by decide +kernel), io_of 401 (by decide +kernel) (by decide +kernel), io_of 402 (by decide +kernel) (by decide +kernel), io_of 65 (by decide +kernel) (by decide +kernel), io_of 403 (by decide +kernel) (by decide +kernel)⟩
theorem io_k_9_103 : io_LkV RX9 103 RX7 yX7_length cX7_length 1 (some .int) 0 := ⟨⟨by decide +kernel, by decide +kernel, by decide +kernel, by decide +kernel⟩, io_of 404 (by decide +kernel) (by decide +kernel), io_of 405 (by decide +kernel) (by decide +kernel), io_of 406 (by decide +kernel) (by decide +kernel), io_of 69 (by decide +kernel) (by decide +kernel), io_of 407 (by decide +kernel) (by decide +kernel)⟩
theorem io_k_9_106 : io_LkV RX9 106 RX7 yX7_forget cX7_forget 1 none 0 := ⟨⟨by decide +kernel, by decide +kernel, by decide +kernel, by decide +kernel⟩, io_of 408 (by decide +kernel) (by decide +kernel), io_of 409 (by decide +kernel) (by decide +kernel), io_of 410 (by decide +kernel) (by decide +kernel), io_of 69 (by decide +kernel) (by decide +kernel), io_of 411 (by decide +kernel) (by decide +kernel)⟩
theorem io_k_9_109 : io_LkV RX9 109 RX0 yX0_forget cX0_forget 1 none 0 := ⟨⟨by decide +kernel, by decide +kernel, by decide +kernel, by decide +kernel⟩, io_of 412 (by decide +kernel) (by decide +kernel), io_of 413 (by decide +kernel) (by decide +kernel), io_of 414 (by decide +kernel) (by decide +kernel), io_of 68 (by decide +kernel) (by decide +kernel), io_of 415 (by decide +kernel) (by decide +kernel)⟩
theorem io_k_L_42 : io_LkV RL 42 RX9 yX9_run cX9_run 2 (some .int) 1 := ⟨⟨by decide +kernel, by decide +kernel, by decide +kernel, by decide +kernel⟩, io_of 416 (by decide +kernel) (by decide +kernel), io_of 417 (by decide +kernel) (by decide +kernel), io_of 418 (by decide +kernel) (by decide +kernel), io_of 65 (by decide +kernel) (by decide +kernel), io_of 419 (by decide +kernel) (by decide +kernel)⟩
theorem io_k_9_110 : io_LkV RX9 110 RX8 yX8_perform cX8_perform 2 (some .int) 1 := ⟨⟨by decide +kernel, by decide +kernel, by decide +kernel, by decide +kernel⟩, io_of 420 (by decide +kernel) (by decide +kernel), io_of 421 (by decide +kernel) (by decide +kernel), io_of 422 (by decide +kernel) (by decide +kernel), io_of 75 (by decide +kernel) (by decide +kernel), io_of 423 (by decide +kernel) (by decide +kernel)⟩
theorem io_k_8_51 : io_LkS RX8 51 yJ7_fill_53178 cJ7_fill_53178 4 none 2 := ⟨⟨by decide +kernel, by decide +kernel, by decide +kernel⟩, io_of 424 (by decide +kernel) (by decide +kernel), io_of 96 (by decide +kernel) (by decide +kernel), io_of 67 (by decide +kernel) (by decide +kernel), io_of 97 (by decide +kernel) (by decide +kernel)⟩
theorem io_k_8_57 : io_LkV RX8 57 RX3 yX3_forget cX3_forget 1 none 0 := ⟨⟨by decide +kernel, by decide +kernel, by decide +kernel, by decide +kernel⟩, io_of 425 (by decide +kernel) (by decide +kernel), io_of 426 (by decide +kernel) (by decide +kernel), io_of 427 (by decide +kernel) (by decide +kernel), io_of 70 (by decide +kernel) (by decide +kernel), io_of 428 (by decide +kernel) (by decide +kernel)⟩
theorem io_k_8_62 : io_LkV RX8 62 RX6 yX6_forget cX6_forget 1 none 0 := ⟨⟨by decide +kernel, by decide +kernel, by decide +kernel, by decide +kernel⟩, io_of 429 (by decide +kernel) (by decide +kernel), io_of 430 (by decide +kernel) (by decide +kernel), io_of 431 (by decide +kernel) (by decide +kernel), io_of 72 (by decide +kernel) (by decide +kernel), io_of 432 (by decide +kernel) (by decide +kernel)⟩
theorem io_k_8_65 : io_LkV RX8 65 RX4 yX4_forget cX4_forget 1 none 0 := ⟨⟨by decide +kernel, by decide +kernel, by decide +kernel, by decide +kernel⟩, io_of 433 (by decide +kernel) (by decide +kernel), io_of 434 (by decide +kernel) (by decide +kernel), io_of 435 (by decide +kernel) (by decide +kernel), io_of 74 (by decide +kernel) (by decide +kernel), io_of 436 (by decide +kernel) (by decide +kernel)⟩
theorem io_k_8_68 : io_LkV RX8 68 RX8 yX8_work cX8_work 3 (some .boolean) 2 := ⟨⟨by decide +kernel, by decide +kernel, by decide +kernel, by decide +kernel⟩, io_of 437 (by decide +kernel) (by decide +kernel), io_of 439 (by decide +kernel) (by decide +kernel), io_of 1 (by decide +kernel) (by decide +kernel), io_of 75 (by decide +kernel) (by decide +kernel), io_of 440 (by decide +kernel) (by decide +kernel)⟩
theorem io_k_8_75 : io_LkV RX8 75 RX8 yX8_stop cX8_stop 1 (some .boolean) 0 := ⟨⟨by decide +kernel, by decide +kernel, by decide +kernel, by decide +kernel⟩, io_of 441 (by decide +kernel) (by decide +kernel), io_of 443 (by decide +kernel) (by decide +kernel), io_of 2 (by decide +kernel) (by decide +kernel), io_of 75 (by decide +kernel) (by decide +kernel), io_of 444 (by decide +kernel) (by decide +kernel)⟩
theorem io_k_8_79 : io_LkV RX8 79 RX7 yX7_code cX7_code 2 (some .int) 1 := ⟨⟨by decide +kernel, by decide +kernel, by decide +kernel, by decide +kernel⟩, io_of 445 (by decide +kernel) (by decide +kernel), io_of 446 (by decide +kernel) (by decide +kernel), io_of 447 (by decide +kernel) (by decide +kernel), io_of 69 (by decide +kernel) (by decide +kernel), io_of 448 (by decide +kernel) (by decide +kernel)⟩
theorem io_k_8_85 : io_LkV RX8 85 RX7 yX7_first cX7_first 2 (some .int) 1 := ⟨⟨by decide +kernel, by decide +kernel, by decide +kernel, by decide +kernel⟩, io_of 449 (by decide +kernel) (by decide +kernel), io_of 450 (by decide +kernel) (by decide +kernel), io_of 451 (by decide +kernel) (by decide +kernel), io_of 69 (by decide +kernel) (by decide +kernel), io_of 452 (by decide +kernel) (by decide +kernel)⟩
theorem io_k_8_88 : io_LkV RX8 88 RX8 yX8_give cX8_give 3 (some .boolean) 2 := ⟨⟨by decide +kernel, by decide +kernel, by decide +kernel, by decide +kernel⟩, io_of 453 (by decide +kernel) (by decide +kernel), io_of 455 (by decide +kernel) (by decide +kernel), io_of 3 (by decide +kernel) (by decide +kernel), io_of 75 (by decide +kernel) (by decide +kernel), io_of 456 (by decide +kernel) (by decide +kernel)⟩
theorem io_k_8_91 : io_LkV RX8 91 RX8 yX8_workSet cX8_workSet 3 (some .boolean) 2 := ⟨⟨by decide +kernel, by decide +kernel, by decide +kernel, by decide +kernel⟩, io_of 457 (by decide +kernel) (by decide +kernel), io_of 459 (by decide +kernel) (by decide +kernel), io_of 4 (by decide +kernel) (by decide +kernel), io_of 75 (by decide +kernel) (by decide +kernel), io_of 460 (by decide +kernel) (by decide +kernel)⟩
theorem io_k_8_110 : io_LkV RX8 110 RX7 yX7_second cX7_second 2 (some .int) 1 := ⟨⟨by decide +kernel, by decide +kernel, by decide +kernel, by decide +kernel⟩, io_of 461 (by decide +kernel) (by decide +kernel), io_of 462 (by decide +kernel) (by decide +kernel), io_of 463 (by decide +kernel) (by decide +kernel), io_of 69 (by decide +kernel) (by decide +kernel), io_of 464 (by decide +kernel) (by decide +kernel)⟩
theorem io_k_8_149 : io_LkV RX8 149 RX8 yX8_assign cX8_assign 4 none 3 := ⟨⟨by decide +kernel, by decide +kernel, by decide +kernel, by decide +kernel⟩, io_of 465 (by decide +kernel) (by decide +kernel), io_of 467 (by decide +kernel) (by decide +kernel), io_of 5 (by decide +kernel) (by decide +kernel), io_of 75 (by decide +kernel) (by decide +kernel), io_of 468 (by decide +kernel) (by decide +kernel)⟩
theorem io_k_8_94 : io_LkV RX8 94 RX8 yX8_workHandleAndNumber cX8_workHandleAndNumber 5 (some .boolean) 2 := ⟨⟨by decide +kernel, by decide +kernel, by decide +kernel, by decide +kernel⟩, io_of 469 (by decide +kernel) (by decide +kernel), io_of 471 (by decide +kernel) (by decide +kernel), io_of 6 (by decide +kernel) (by decide +kernel), io_of 75 (by decide +kernel) (by decide +kernel), io_of 472 (by decide +kernel) (by decide +kernel)⟩
theorem io_k_8_153 : io_LkV RX8 153 RX8 yX8_workToHandle cX8_workToHandle 5 (some (.object "InputOutput$Handle")) 3 := ⟨⟨by decide +kernel, by decide +kernel, by decide +kernel, by decide +kernel⟩, io_of 473 (by decide +kernel) (by decide +kernel), io_of 475 (by decide +kernel) (by decide +kernel), io_of 7 (by decide +kernel) (by decide +kernel), io_of 75 (by decide +kernel) (by decide +kernel), io_of 476 (by decide +kernel) (by decide +kernel)⟩
theorem io_k_8_142 : io_LkV RX8 142 RX3 yX3_pick cX3_pick 2 (some (.object "InputOutput$Handle")) 1 := ⟨⟨by decide +kernel, by decide +kernel, by decide +kernel, by decide +kernel⟩, io_of 477 (by decide +kernel) (by decide +kernel), io_of 478 (by decide +kernel) (by decide +kernel), io_of 479 (by decide +kernel) (by decide +kernel), io_of 70 (by decide +kernel) (by decide +kernel), io_of 480 (by decide +kernel) (by decide +kernel)⟩
theorem io_k_3_28 : io_LkN RX3 28 yX9_within cX9_within 2 (some .boolean) 2 := ⟨⟨by decide +kernel, by decide +kernel, by decide +kernel⟩, by decide +kernel, io_of 327 (by decide +kernel) (by decide +kernel), io_of 65 (by decide +kernel) (by decide +kernel), io_of 328 (by decide +kernel) (by decide +kernel)⟩
theorem io_k_8_116 : io_LkV RX8 116 RX8 yX8_fail cX8_fail 3 (some .boolean) 2 := ⟨⟨by decide +kernel, by decide +kernel, by decide +kernel, by decide +kernel⟩, io_of 482 (by decide +kernel) (by decide +kernel), io_of 484 (by decide +kernel) (by decide +kernel), io_of 8 (by decide +kernel) (by decide +kernel), io_of 75 (by decide +kernel) (by decide +kernel), io_of 485 (by decide +kernel) (by decide +kernel)⟩
theorem io_k_8_192 : io_LkV RX8 192 RX8 yX8_workToNumber cX8_workToNumber 4 (some .boolean) 3 := ⟨⟨by decide +kernel, by decide +kernel, by decide +kernel, by decide +kernel⟩, io_of 486 (by decide +kernel) (by decide +kernel), io_of 488 (by decide +kernel) (by decide +kernel), io_of 9 (by decide +kernel) (by decide +kernel), io_of 75 (by decide +kernel) (by decide +kernel), io_of 489 (by decide +kernel) (by decide +kernel)⟩
theorem io_k_8_195 : io_LkV RX8 195 RX2 yX2_put cX2_put 3 (some .int) 1 := ⟨⟨by decide +kernel, by decide +kernel, by decide +kernel, by decide +kernel⟩, io_of 490 (by decide +kernel) (by decide +kernel), io_of 491 (by decide +kernel) (by decide +kernel), io_of 492 (by decide +kernel) (by decide +kernel), io_of 71 (by decide +kernel) (by decide +kernel), io_of 493 (by decide +kernel) (by decide +kernel)⟩
theorem io_k_2_57 : io_LkV RX2 57 RX2 yX2_writes cX2_writes 1 (some .boolean) 0 := ⟨⟨by decide +kernel, by decide +kernel, by decide +kernel, by decide +kernel⟩, io_of 494 (by decide +kernel) (by decide +kernel), io_of 495 (by decide +kernel) (by decide +kernel), io_of 496 (by decide +kernel) (by decide +kernel), io_of 71 (by decide +kernel) (by decide +kernel), io_of 497 (by decide +kernel) (by decide +kernel)⟩
theorem io_k_2_61 : io_LkN RX2 61 yX9_turned cX9_turned 1 (some .int) 1 := ⟨⟨by decide +kernel, by decide +kernel, by decide +kernel⟩, by decide +kernel, io_of 499 (by decide +kernel) (by decide +kernel), io_of 65 (by decide +kernel) (by decide +kernel), io_of 500 (by decide +kernel) (by decide +kernel)⟩
theorem io_k_2_64 : io_LkV RX2 64 RX2 yX2_isDue cX2_isDue 2 (some .boolean) 1 := ⟨⟨by decide +kernel, by decide +kernel, by decide +kernel, by decide +kernel⟩, io_of 501 (by decide +kernel) (by decide +kernel), io_of 503 (by decide +kernel) (by decide +kernel), io_of 10 (by decide +kernel) (by decide +kernel), io_of 71 (by decide +kernel) (by decide +kernel), io_of 504 (by decide +kernel) (by decide +kernel)⟩
theorem io_k_2_53 : io_LkV RX2 53 RX2 yX2_flush cX2_flush 3 (some .int) 0 := ⟨⟨by decide +kernel, by decide +kernel, by decide +kernel, by decide +kernel⟩, io_of 505 (by decide +kernel) (by decide +kernel), io_of 506 (by decide +kernel) (by decide +kernel), io_of 507 (by decide +kernel) (by decide +kernel), io_of 71 (by decide +kernel) (by decide +kernel), io_of 508 (by decide +kernel) (by decide +kernel)⟩
theorem io_k_2_68 : io_LkV RX2 68 RX1 yX1_write cX1_write 4 (some .boolean) 3 := ⟨⟨by decide +kernel, by decide +kernel, by decide +kernel, by decide +kernel⟩, io_of 509 (by decide +kernel) (by decide +kernel), io_of 510 (by decide +kernel) (by decide +kernel), io_of 511 (by decide +kernel) (by decide +kernel), io_of 66 (by decide +kernel) (by decide +kernel), io_of 512 (by decide +kernel) (by decide +kernel)⟩
theorem io_k_1_41 : io_LkN RX1 41 yX9_within cX9_within 2 (some .boolean) 2 := ⟨⟨by decide +kernel, by decide +kernel, by decide +kernel⟩, by decide +kernel, io_of 327 (by decide +kernel) (by decide +kernel), io_of 65 (by decide +kernel) (by decide +kernel), io_of 328 (by decide +kernel) (by decide +kernel)⟩
theorem io_k_1_45 : io_LkV RX1 45 RX1 yX1_append cX1_append 4 (some .boolean) 2 := ⟨⟨by decide +kernel, by decide +kernel, by decide +kernel, by decide +kernel⟩, io_of 514 (by decide +kernel) (by decide +kernel), io_of 330 (by decide +kernel) (by decide +kernel), io_of 331 (by decide +kernel) (by decide +kernel), io_of 66 (by decide +kernel) (by decide +kernel), io_of 332 (by decide +kernel) (by decide +kernel)⟩
theorem io_k_8_198 : io_LkV RX8 198 RX2 yX2_seek cX2_seek 3 (some .int) 1 := ⟨⟨by decide +kernel, by decide +kernel, by decide +kernel, by decide +kernel⟩, io_of 515 (by decide +kernel) (by decide +kernel), io_of 516 (by decide +kernel) (by decide +kernel), io_of 517 (by decide +kernel) (by decide +kernel), io_of 71 (by decide +kernel) (by decide +kernel), io_of 518 (by decide +kernel) (by decide +kernel)⟩
theorem io_k_2_47 : io_LkV RX2 47 RX1 yX1_lengthOf cX1_lengthOf 2 (some .int) 1 := ⟨⟨by decide +kernel, by decide +kernel, by decide +kernel, by decide +kernel⟩, io_of 519 (by decide +kernel) (by decide +kernel), io_of 334 (by decide +kernel) (by decide +kernel), io_of 335 (by decide +kernel) (by decide +kernel), io_of 66 (by decide +kernel) (by decide +kernel), io_of 336 (by decide +kernel) (by decide +kernel)⟩
theorem io_k_8_170 : io_LkV RX8 170 RX8 yX8_act cX8_act 4 (some .boolean) 3 := ⟨⟨by decide +kernel, by decide +kernel, by decide +kernel, by decide +kernel⟩, io_of 520 (by decide +kernel) (by decide +kernel), io_of 522 (by decide +kernel) (by decide +kernel), io_of 11 (by decide +kernel) (by decide +kernel), io_of 75 (by decide +kernel) (by decide +kernel), io_of 523 (by decide +kernel) (by decide +kernel)⟩
theorem io_k_8_134 : io_LkV RX8 134 RX4 yX4_note cX4_note 2 none 1 := ⟨⟨by decide +kernel, by decide +kernel, by decide +kernel, by decide +kernel⟩, io_of 524 (by decide +kernel) (by decide +kernel), io_of 525 (by decide +kernel) (by decide +kernel), io_of 526 (by decide +kernel) (by decide +kernel), io_of 74 (by decide +kernel) (by decide +kernel), io_of 527 (by decide +kernel) (by decide +kernel)⟩
theorem io_k_8_138 : io_LkV RX8 138 RX8 yX8_settle cX8_settle 4 (some .boolean) 3 := ⟨⟨by decide +kernel, by decide +kernel, by decide +kernel, by decide +kernel⟩, io_of 528 (by decide +kernel) (by decide +kernel), io_of 530 (by decide +kernel) (by decide +kernel), io_of 12 (by decide +kernel) (by decide +kernel), io_of 75 (by decide +kernel) (by decide +kernel), io_of 531 (by decide +kernel) (by decide +kernel)⟩
theorem io_k_8_131 : io_LkN RX8 131 yX9_turned cX9_turned 1 (some .int) 1 := ⟨⟨by decide +kernel, by decide +kernel, by decide +kernel⟩, by decide +kernel, io_of 499 (by decide +kernel) (by decide +kernel), io_of 65 (by decide +kernel) (by decide +kernel), io_of 500 (by decide +kernel) (by decide +kernel)⟩
theorem io_k_8_97 : io_LkV RX8 97 RX8 yX8_workItem cX8_workItem 5 (some .boolean) 2 := ⟨⟨by decide +kernel, by decide +kernel, by decide +kernel, by decide +kernel⟩, io_of 533 (by decide +kernel) (by decide +kernel), io_of 535 (by decide +kernel) (by decide +kernel), io_of 13 (by decide +kernel) (by decide +kernel), io_of 75 (by decide +kernel) (by decide +kernel), io_of 536 (by decide +kernel) (by decide +kernel)⟩
theorem io_k_8_201 : io_LkV RX8 201 RX8 yX8_workToList cX8_workToList 5 (some (.object "InputOutput$LazyList")) 3 := ⟨⟨by decide +kernel, by decide +kernel, by decide +kernel, by decide +kernel⟩, io_of 537 (by decide +kernel) (by decide +kernel), io_of 539 (by decide +kernel) (by decide +kernel), io_of 14 (by decide +kernel) (by decide +kernel), io_of 75 (by decide +kernel) (by decide +kernel), io_of 540 (by decide +kernel) (by decide +kernel)⟩
theorem io_k_8_146 : io_LkV RX8 146 RX6 yX6_pick cX6_pick 2 (some (.object "InputOutput$LazyList")) 1 := ⟨⟨by decide +kernel, by decide +kernel, by decide +kernel, by decide +kernel⟩, io_of 541 (by decide +kernel) (by decide +kernel), io_of 542 (by decide +kernel) (by decide +kernel), io_of 543 (by decide +kernel) (by decide +kernel), io_of 72 (by decide +kernel) (by decide +kernel), io_of 544 (by decide +kernel) (by decide +kernel)⟩
theorem io_k_6_22 : io_LkN RX6 22 yX9_within cX9_within 2 (some .boolean) 2 := ⟨⟨by decide +kernel, by decide +kernel, by decide +kernel⟩, by decide +kernel, io_of 327 (by decide +kernel) (by decide +kernel), io_of 65 (by decide +kernel) (by decide +kernel), io_of 328 (by decide +kernel) (by decide +kernel)⟩
theorem io_k_8_205 : io_LkV RX8 205 RX5 yX5_reach cX5_reach 6 (some .int) 1 := ⟨⟨by decide +kernel, by decide +kernel, by decide +kernel, by decide +kernel⟩, io_of 546 (by decide +kernel) (by decide +kernel), io_of 547 (by decide +kernel) (by decide +kernel), io_of 548 (by decide +kernel) (by decide +kernel), io_of 73 (by decide +kernel) (by decide +kernel), io_of 549 (by decide +kernel) (by decide +kernel)⟩
theorem io_k_5_27 : io_LkS RX5 27 yJ9_min_7cf53 cJ9_min_7cf53 2 (some .int) 2 := ⟨⟨by decide +kernel, by decide +kernel, by decide +kernel⟩, io_of 550 (by decide +kernel) (by decide +kernel), io_of 551 (by decide +kernel) (by decide +kernel), io_of 77 (by decide +kernel) (by decide +kernel), io_of 552 (by decide +kernel) (by decide +kernel)⟩
theorem io_k_5_33 : io_LkV RX5 33 RX5 yX5_grow cX5_grow 2 (some .boolean) 0 := ⟨⟨by decide +kernel, by decide +kernel, by decide +kernel, by decide +kernel⟩, io_of 553 (by decide +kernel) (by decide +kernel), io_of 555 (by decide +kernel) (by decide +kernel), io_of 15 (by decide +kernel) (by decide +kernel), io_of 73 (by decide +kernel) (by decide +kernel), io_of 556 (by decide +kernel) (by decide +kernel)⟩
theorem io_k_5_37 : io_LkV RX5 37 RX2 yX2_isHalf cX2_isHalf 1 (some .boolean) 0 := ⟨⟨by decide +kernel, by decide +kernel, by decide +kernel, by decide +kernel⟩, io_of 557 (by decide +kernel) (by decide +kernel), io_of 558 (by decide +kernel) (by decide +kernel), io_of 559 (by decide +kernel) (by decide +kernel), io_of 71 (by decide +kernel) (by decide +kernel), io_of 560 (by decide +kernel) (by decide +kernel)⟩
theorem io_k_5_42 : io_LkV RX5 42 RX2 yX2_nextByte cX2_nextByte 2 (some .int) 0 := ⟨⟨by decide +kernel, by decide +kernel, by decide +kernel, by decide +kernel⟩, io_of 561 (by decide +kernel) (by decide +kernel), io_of 562 (by decide +kernel) (by decide +kernel), io_of 563 (by decide +kernel) (by decide +kernel), io_of 71 (by decide +kernel) (by decide +kernel), io_of 564 (by decide +kernel) (by decide +kernel)⟩
theorem io_k_2_78 : io_LkV RX2 78 RX1 yX1_byteAt cX1_byteAt 3 (some .int) 2 := ⟨⟨by decide +kernel, by decide +kernel, by decide +kernel, by decide +kernel⟩, io_of 565 (by decide +kernel) (by decide +kernel), io_of 566 (by decide +kernel) (by decide +kernel), io_of 567 (by decide +kernel) (by decide +kernel), io_of 66 (by decide +kernel) (by decide +kernel), io_of 568 (by decide +kernel) (by decide +kernel)⟩
theorem io_k_5_46 : io_LkV RX5 46 RX2 yX2_endReading cX2_endReading 1 none 0 := ⟨⟨by decide +kernel, by decide +kernel, by decide +kernel, by decide +kernel⟩, io_of 569 (by decide +kernel) (by decide +kernel), io_of 570 (by decide +kernel) (by decide +kernel), io_of 571 (by decide +kernel) (by decide +kernel), io_of 71 (by decide +kernel) (by decide +kernel), io_of 572 (by decide +kernel) (by decide +kernel)⟩
theorem io_k_8_210 : io_LkV RX8 210 RX8 yX8_noteTimes cX8_noteTimes 4 none 2 := ⟨⟨by decide +kernel, by decide +kernel, by decide +kernel, by decide +kernel⟩, io_of 573 (by decide +kernel) (by decide +kernel), io_of 575 (by decide +kernel) (by decide +kernel), io_of 16 (by decide +kernel) (by decide +kernel), io_of 75 (by decide +kernel) (by decide +kernel), io_of 576 (by decide +kernel) (by decide +kernel)⟩
theorem io_k_8_214 : io_LkV RX8 214 RX5 yX5_item cX5_item 2 (some .int) 1 := ⟨⟨by decide +kernel, by decide +kernel, by decide +kernel, by decide +kernel⟩, io_of 577 (by decide +kernel) (by decide +kernel), io_of 578 (by decide +kernel) (by decide +kernel), io_of 579 (by decide +kernel) (by decide +kernel), io_of 73 (by decide +kernel) (by decide +kernel), io_of 580 (by decide +kernel) (by decide +kernel)⟩
theorem io_k_5_23 : io_LkN RX5 23 yX9_within cX9_within 2 (some .boolean) 2 := ⟨⟨by decide +kernel, by decide +kernel, by decide +kernel⟩, by decide +kernel, io_of 327 (by decide +kernel) (by decide +kernel), io_of 65 (by decide +kernel) (by decide +kernel), io_of 328 (by decide +kernel) (by decide +kernel)⟩
theorem io_k_8_100 : io_LkV RX8 100 RX8 yX8_workLength cX8_workLength 4 (some .boolean) 2 := ⟨⟨by decide +kernel, by decide +kernel, by decide +kernel, by decide +kernel⟩, io_of 582 (by decide +kernel) (by decide +kernel), io_of 584 (by decide +kernel) (by decide +kernel), io_of 17 (by decide +kernel) (by decide +kernel), io_of 75 (by decide +kernel) (by decide +kernel), io_of 585 (by decide +kernel) (by decide +kernel)⟩
theorem io_k_8_217 : io_LkV RX8 217 RX5 yX5_length cX5_length 1 (some .int) 0 := ⟨⟨by decide +kernel, by decide +kernel, by decide +kernel, by decide +kernel⟩, io_of 586 (by decide +kernel) (by decide +kernel), io_of 587 (by decide +kernel) (by decide +kernel), io_of 588 (by decide +kernel) (by decide +kernel), io_of 73 (by decide +kernel) (by decide +kernel), io_of 589 (by decide +kernel) (by decide +kernel)⟩
theorem io_k_8_103 : io_LkV RX8 103 RX8 yX8_actAlone cX8_actAlone 5 (some .boolean) 1 := ⟨⟨by decide +kernel, by decide +kernel, by decide +kernel, by decide +kernel⟩, io_of 590 (by decide +kernel) (by decide +kernel), io_of 592 (by decide +kernel) (by decide +kernel), io_of 18 (by decide +kernel) (by decide +kernel), io_of 75 (by decide +kernel) (by decide +kernel), io_of 593 (by decide +kernel) (by decide +kernel)⟩
theorem io_k_8_220 : io_LkV RX8 220 RX3 yX3_open cX3_open 4 (some .int) 2 := ⟨⟨by decide +kernel, by decide +kernel, by decide +kernel, by decide +kernel⟩, io_of 594 (by decide +kernel) (by decide +kernel), io_of 595 (by decide +kernel) (by decide +kernel), io_of 596 (by decide +kernel) (by decide +kernel), io_of 70 (by decide +kernel) (by decide +kernel), io_of 597 (by decide +kernel) (by decide +kernel)⟩
theorem io_k_3_32 : io_LkV RX3 32 RX3 yX3_refusalToOpen cX3_refusalToOpen 4 (some .int) 2 := ⟨⟨by decide +kernel, by decide +kernel, by decide +kernel, by decide +kernel⟩, io_of 598 (by decide +kernel) (by decide +kernel), io_of 600 (by decide +kernel) (by decide +kernel), io_of 19 (by decide +kernel) (by decide +kernel), io_of 70 (by decide +kernel) (by decide +kernel), io_of 601 (by decide +kernel) (by decide +kernel)⟩
theorem io_k_3_49 : io_LkV RX3 49 RX1 yX1_isThere cX1_isThere 2 (some .boolean) 1 := ⟨⟨by decide +kernel, by decide +kernel, by decide +kernel, by decide +kernel⟩, io_of 602 (by decide +kernel) (by decide +kernel), io_of 342 (by decide +kernel) (by decide +kernel), io_of 343 (by decide +kernel) (by decide +kernel), io_of 66 (by decide +kernel) (by decide +kernel), io_of 344 (by decide +kernel) (by decide +kernel)⟩
theorem io_k_3_53 : io_LkN RX3 53 yX9_turned cX9_turned 1 (some .int) 1 := ⟨⟨by decide +kernel, by decide +kernel, by decide +kernel⟩, by decide +kernel, io_of 499 (by decide +kernel) (by decide +kernel), io_of 65 (by decide +kernel) (by decide +kernel), io_of 500 (by decide +kernel) (by decide +kernel)⟩
theorem io_k_3_57 : io_LkN RX3 57 yX9_mayTake cX9_mayTake 1 (some .boolean) 1 := ⟨⟨by decide +kernel, by decide +kernel, by decide +kernel⟩, by decide +kernel, io_of 605 (by decide +kernel) (by decide +kernel), io_of 65 (by decide +kernel) (by decide +kernel), io_of 606 (by decide +kernel) (by decide +kernel)⟩
theorem io_k_3_60 : io_LkV RX3 60 RX1 yX1_grants cX1_grants 3 (some .boolean) 2 := ⟨⟨by decide +kernel, by decide +kernel, by decide +kernel, by decide +kernel⟩, io_of 607 (by decide +kernel) (by decide +kernel), io_of 608 (by decide +kernel) (by decide +kernel), io_of 609 (by decide +kernel) (by decide +kernel), io_of 66 (by decide +kernel) (by decide +kernel), io_of 610 (by decide +kernel) (by decide +kernel)⟩
theorem io_k_3_63 : io_LkV RX3 63 RX3 yX3_isHeld cX3_isHeld 4 (some .boolean) 2 := ⟨⟨by decide +kernel, by decide +kernel, by decide +kernel, by decide +kernel⟩, io_of 611 (by decide +kernel) (by decide +kernel), io_of 613 (by decide +kernel) (by decide +kernel), io_of 20 (by decide +kernel) (by decide +kernel), io_of 70 (by decide +kernel) (by decide +kernel), io_of 614 (by decide +kernel) (by decide +kernel)⟩
theorem io_k_3_67 : io_LkV RX3 67 RX2 yX2_holds cX2_holds 2 (some .boolean) 1 := ⟨⟨by decide +kernel, by decide +kernel, by decide +kernel, by decide +kernel⟩, io_of 615 (by decide +kernel) (by decide +kernel), io_of 616 (by decide +kernel) (by decide +kernel), io_of 617 (by decide +kernel) (by decide +kernel), io_of 71 (by decide +kernel) (by decide +kernel), io_of 618 (by decide +kernel) (by decide +kernel)⟩
theorem io_k_3_70 : io_LkV RX3 70 RX2 yX2_writes cX2_writes 1 (some .boolean) 0 := ⟨⟨by decide +kernel, by decide +kernel, by decide +kernel, by decide +kernel⟩, io_of 619 (by decide +kernel) (by decide +kernel), io_of 495 (by decide +kernel) (by decide +kernel), io_of 496 (by decide +kernel) (by decide +kernel), io_of 71 (by decide +kernel) (by decide +kernel), io_of 497 (by decide +kernel) (by decide +kernel)⟩
theorem io_k_3_36 : io_LkV RX3 36 RX1 yX1_create cX1_create 2 none 1 := ⟨⟨by decide +kernel, by decide +kernel, by decide +kernel, by decide +kernel⟩, io_of 620 (by decide +kernel) (by decide +kernel), io_of 346 (by decide +kernel) (by decide +kernel), io_of 347 (by decide +kernel) (by decide +kernel), io_of 66 (by decide +kernel) (by decide +kernel), io_of 348 (by decide +kernel) (by decide +kernel)⟩
theorem io_k_3_42 : io_LkV RX3 42 RX1 yX1_makeEmpty cX1_makeEmpty 2 none 1 := ⟨⟨by decide +kernel, by decide +kernel, by decide +kernel, by decide +kernel⟩, io_of 621 (by decide +kernel) (by decide +kernel), io_of 354 (by decide +kernel) (by decide +kernel), io_of 355 (by decide +kernel) (by decide +kernel), io_of 66 (by decide +kernel) (by decide +kernel), io_of 356 (by decide +kernel) (by decide +kernel)⟩
theorem io_k_3_45 : io_LkV RX3 45 RX2 yX2_begin cX2_begin 3 none 2 := ⟨⟨by decide +kernel, by decide +kernel, by decide +kernel, by decide +kernel⟩, io_of 622 (by decide +kernel) (by decide +kernel), io_of 623 (by decide +kernel) (by decide +kernel), io_of 624 (by decide +kernel) (by decide +kernel), io_of 71 (by decide +kernel) (by decide +kernel), io_of 625 (by decide +kernel) (by decide +kernel)⟩
theorem io_k_8_224 : io_LkV RX8 224 RX3 yX3_removeFile cX3_removeFile 3 (some .int) 1 := ⟨⟨by decide +kernel, by decide +kernel, by decide +kernel, by decide +kernel⟩, io_of 626 (by decide +kernel) (by decide +kernel), io_of 627 (by decide +kernel) (by decide +kernel), io_of 628 (by decide +kernel) (by decide +kernel), io_of 70 (by decide +kernel) (by decide +kernel), io_of 629 (by decide +kernel) (by decide +kernel)⟩
theorem io_k_3_74 : io_LkV RX3 74 RX3 yX3_refusalToMove cX3_refusalToMove 3 (some .int) 2 := ⟨⟨by decide +kernel, by decide +kernel, by decide +kernel, by decide +kernel⟩, io_of 630 (by decide +kernel) (by decide +kernel), io_of 632 (by decide +kernel) (by decide +kernel), io_of 21 (by decide +kernel) (by decide +kernel), io_of 70 (by decide +kernel) (by decide +kernel), io_of 633 (by decide +kernel) (by decide +kernel)⟩
theorem io_k_3_77 : io_LkV RX3 77 RX1 yX1_remove cX1_remove 2 none 1 := ⟨⟨by decide +kernel, by decide +kernel, by decide +kernel, by decide +kernel⟩, io_of 634 (by decide +kernel) (by decide +kernel), io_of 350 (by decide +kernel) (by decide +kernel), io_of 351 (by decide +kernel) (by decide +kernel), io_of 66 (by decide +kernel) (by decide +kernel), io_of 352 (by decide +kernel) (by decide +kernel)⟩
theorem io_k_8_227 : io_LkV RX8 227 RX3 yX3_renameFile cX3_renameFile 4 (some .int) 2 := ⟨⟨by decide +kernel, by decide +kernel, by decide +kernel, by decide +kernel⟩, io_of 635 (by decide +kernel) (by decide +kernel), io_of 636 (by decide +kernel) (by decide +kernel), io_of 637 (by decide +kernel) (by decide +kernel), io_of 70 (by decide +kernel) (by decide +kernel), io_of 638 (by decide +kernel) (by decide +kernel)⟩
theorem io_k_3_80 : io_LkV RX3 80 RX1 yX1_move cX1_move 3 none 2 := ⟨⟨by decide +kernel, by decide +kernel, by decide +kernel, by decide +kernel⟩, io_of 639 (by decide +kernel) (by decide +kernel), io_of 640 (by decide +kernel) (by decide +kernel), io_of 641 (by decide +kernel) (by decide +kernel), io_of 66 (by decide +kernel) (by decide +kernel), io_of 642 (by decide +kernel) (by decide +kernel)⟩
theorem io_k_8_230 : io_LkV RX8 230 RX0 yX0_readByte cX0_readByte 2 (some .int) 0 := ⟨⟨by decide +kernel, by decide +kernel, by decide +kernel, by decide +kernel⟩, io_of 646 (by decide +kernel) (by decide +kernel), io_of 647 (by decide +kernel) (by decide +kernel), io_of 648 (by decide +kernel) (by decide +kernel), io_of 68 (by decide +kernel) (by decide +kernel), io_of 649 (by decide +kernel) (by decide +kernel)⟩
theorem io_k_0_28 : io_LkN RX0 28 yX9_turned cX9_turned 1 (some .int) 1 := ⟨⟨by decide +kernel, by decide +kernel, by decide +kernel⟩, by decide +kernel, io_of 499 (by decide +kernel) (by decide +kernel), io_of 65 (by decide +kernel) (by decide +kernel), io_of 500 (by decide +kernel) (by decide +kernel)⟩
theorem io_k_8_107 : io_LkV RX8 107 RX8 yX8_workNumberFirst cX8_workNumberFirst 3 (some .boolean) 2 := ⟨⟨by decide +kernel, by decide +kernel, by decide +kernel, by decide +kernel⟩, io_of 651 (by decide +kernel) (by decide +kernel), io_of 653 (by decide +kernel) (by decide +kernel), io_of 22 (by decide +kernel) (by decide +kernel), io_of 75 (by decide +kernel) (by decide +kernel), io_of 654 (by decide +kernel) (by decide +kernel)⟩
theorem io_k_8_235 : io_LkV RX8 235 RX0 yX0_print cX0_print 2 (some .int) 1 := ⟨⟨by decide +kernel, by decide +kernel, by decide +kernel, by decide +kernel⟩, io_of 655 (by decide +kernel) (by decide +kernel), io_of 656 (by decide +kernel) (by decide +kernel), io_of 657 (by decide +kernel) (by decide +kernel), io_of 68 (by decide +kernel) (by decide +kernel), io_of 658 (by decide +kernel) (by decide +kernel)⟩
theorem io_k_8_238 : io_LkV RX8 238 RX7 yX7_third cX7_third 2 (some .int) 1 := ⟨⟨by decide +kernel, by decide +kernel, by decide +kernel, by decide +kernel⟩, io_of 659 (by decide +kernel) (by decide +kernel), io_of 660 (by decide +kernel) (by decide +kernel), io_of 661 (by decide +kernel) (by decide +kernel), io_of 69 (by decide +kernel) (by decide +kernel), io_of 662 (by decide +kernel) (by decide +kernel)⟩
theorem io_k_8_241 : io_LkV RX8 241 RX8 yX8_workTimes cX8_workTimes 6 (some .boolean) 3 := ⟨⟨by decide +kernel, by decide +kernel, by decide +kernel, by decide +kernel⟩, io_of 663 (by decide +kernel) (by decide +kernel), io_of 665 (by decide +kernel) (by decide +kernel), io_of 23 (by decide +kernel) (by decide +kernel), io_of 75 (by decide +kernel) (by decide +kernel), io_of 666 (by decide +kernel) (by decide +kernel)⟩
theorem io_k_8_244 : io_LkS RX8 244 yJ9_min_7cf53 cJ9_min_7cf53 2 (some .int) 2 := ⟨⟨by decide +kernel, by decide +kernel, by decide +kernel⟩, io_of 667 (by decide +kernel) (by decide +kernel), io_of 551 (by decide +kernel) (by decide +kernel), io_of 77 (by decide +kernel) (by decide +kernel), io_of 552 (by decide +kernel) (by decide +kernel)⟩
theorem io_k_8_113 : io_LkV RX8 113 RX8 yX8_workTwoNumbers cX8_workTwoNumbers 5 (some .boolean) 2 := ⟨⟨by decide +kernel, by decide +kernel, by decide +kernel, by decide +kernel⟩, io_of 668 (by decide +kernel) (by decide +kernel), io_of 670 (by decide +kernel) (by decide +kernel), io_of 24 (by decide +kernel) (by decide +kernel), io_of 75 (by decide +kernel) (by decide +kernel), io_of 671 (by decide +kernel) (by decide +kernel)⟩
theorem io_k_8_119 : io_LkV RX8 119 RX8 yX8_workCatch cX8_workCatch 3 (some .boolean) 2 := ⟨⟨by decide +kernel, by decide +kernel, by decide +kernel, by decide +kernel⟩, io_of 672 (by decide +kernel) (by decide +kernel), io_of 674 (by decide +kernel) (by decide +kernel), io_of 25 (by decide +kernel) (by decide +kernel), io_of 75 (by decide +kernel) (by decide +kernel), io_of 675 (by decide +kernel) (by decide +kernel)⟩
theorem io_k_8_122 : io_LkV RX8 122 RX8 yX8_workEnd cX8_workEnd 6 (some .boolean) 2 := ⟨⟨by decide +kernel, by decide +kernel, by decide +kernel, by decide +kernel⟩, io_of 676 (by decide +kernel) (by decide +kernel), io_of 678 (by decide +kernel) (by decide +kernel), io_of 26 (by decide +kernel) (by decide +kernel), io_of 75 (by decide +kernel) (by decide +kernel), io_of 679 (by decide +kernel) (by decide +kernel)⟩
theorem io_k_8_125 : io_LkV RX8 125 RX8 yX8_workBracket cX8_workBracket 5 (some .boolean) 2 := ⟨⟨by decide +kernel, by decide +kernel, by decide +kernel, by decide +kernel⟩, io_of 680 (by decide +kernel) (by decide +kernel), io_of 682 (by decide +kernel) (by decide +kernel), io_of 27 (by decide +kernel) (by decide +kernel), io_of 75 (by decide +kernel) (by decide +kernel), io_of 683 (by decide +kernel) (by decide +kernel)⟩
theorem io_k_8_128 : io_LkV RX8 128 RX8 yX8_workHandle cX8_workHandle 4 (some .boolean) 2 := ⟨⟨by decide +kernel, by decide +kernel, by decide +kernel, by decide +kernel⟩, io_of 684 (by decide +kernel) (by decide +kernel), io_of 686 (by decide +kernel) (by decide +kernel), io_of 28 (by decide +kernel) (by decide +kernel), io_of 75 (by decide +kernel) (by decide +kernel), io_of 687 (by decide +kernel) (by decide +kernel)⟩
theorem io_k_8_157 : io_LkV RX8 157 RX8 yX8_noteClosing cX8_noteClosing 3 none 2 := ⟨⟨by decide +kernel, by decide +kernel, by decide +kernel, by decide +kernel⟩, io_of 688 (by decide +kernel) (by decide +kernel), io_of 690 (by decide +kernel) (by decide +kernel), io_of 29 (by decide +kernel) (by decide +kernel), io_of 75 (by decide +kernel) (by decide +kernel), io_of 691 (by decide +kernel) (by decide +kernel)⟩
theorem io_k_8_189 : io_LkV RX8 189 RX2 yX2_isClosed cX2_isClosed 1 (some .boolean) 0 := ⟨⟨by decide +kernel, by decide +kernel, by decide +kernel, by decide +kernel⟩, io_of 692 (by decide +kernel) (by decide +kernel), io_of 693 (by decide +kernel) (by decide +kernel), io_of 694 (by decide +kernel) (by decide +kernel), io_of 71 (by decide +kernel) (by decide +kernel), io_of 695 (by decide +kernel) (by decide +kernel)⟩
theorem io_k_8_161 : io_LkV RX8 161 RX2 yX2_close cX2_close 2 (some .int) 0 := ⟨⟨by decide +kernel, by decide +kernel, by decide +kernel, by decide +kernel⟩, io_of 696 (by decide +kernel) (by decide +kernel), io_of 697 (by decide +kernel) (by decide +kernel), io_of 698 (by decide +kernel) (by decide +kernel), io_of 71 (by decide +kernel) (by decide +kernel), io_of 699 (by decide +kernel) (by decide +kernel)⟩
theorem io_k_8_167 : io_LkV RX8 167 RX2 yX2_take cX2_take 3 (some .int) 0 := ⟨⟨by decide +kernel, by decide +kernel, by decide +kernel, by decide +kernel⟩, io_of 700 (by decide +kernel) (by decide +kernel), io_of 701 (by decide +kernel) (by decide +kernel), io_of 702 (by decide +kernel) (by decide +kernel), io_of 71 (by decide +kernel) (by decide +kernel), io_of 703 (by decide +kernel) (by decide +kernel)⟩
theorem io_k_2_72 : io_LkN RX2 72 yX9_mayTake cX9_mayTake 1 (some .boolean) 1 := ⟨⟨by decide +kernel, by decide +kernel, by decide +kernel⟩, by decide +kernel, io_of 605 (by decide +kernel) (by decide +kernel), io_of 65 (by decide +kernel) (by decide +kernel), io_of 606 (by decide +kernel) (by decide +kernel)⟩
theorem io_k_2_75 : io_LkV RX2 75 RX2 yX2_nextByte cX2_nextByte 2 (some .int) 0 := ⟨⟨by decide +kernel, by decide +kernel, by decide +kernel, by decide +kernel⟩, io_of 705 (by decide +kernel) (by decide +kernel), io_of 562 (by decide +kernel) (by decide +kernel), io_of 563 (by decide +kernel) (by decide +kernel), io_of 71 (by decide +kernel) (by decide +kernel), io_of 564 (by decide +kernel) (by decide +kernel)⟩
theorem io_k_8_173 : io_LkV RX8 173 RX6 yX6_begin cX6_begin 2 (some .int) 1 := ⟨⟨by decide +kernel, by decide +kernel, by decide +kernel, by decide +kernel⟩, io_of 706 (by decide +kernel) (by decide +kernel), io_of 707 (by decide +kernel) (by decide +kernel), io_of 708 (by decide +kernel) (by decide +kernel), io_of 72 (by decide +kernel) (by decide +kernel), io_of 709 (by decide +kernel) (by decide +kernel)⟩
theorem io_k_6_26 : io_LkV RX6 26 RX2 yX2_becomeHalf cX2_becomeHalf 1 (some .boolean) 0 := ⟨⟨by decide +kernel, by decide +kernel, by decide +kernel, by decide +kernel⟩, io_of 710 (by decide +kernel) (by decide +kernel), io_of 711 (by decide +kernel) (by decide +kernel), io_of 712 (by decide +kernel) (by decide +kernel), io_of 71 (by decide +kernel) (by decide +kernel), io_of 713 (by decide +kernel) (by decide +kernel)⟩
theorem io_k_6_32 : io_LkN RX6 32 yX9_turned cX9_turned 1 (some .int) 1 := ⟨⟨by decide +kernel, by decide +kernel, by decide +kernel⟩, by decide +kernel, io_of 499 (by decide +kernel) (by decide +kernel), io_of 65 (by decide +kernel) (by decide +kernel), io_of 500 (by decide +kernel) (by decide +kernel)⟩
theorem io_k_6_36 : io_LkV RX6 36 RX5 yX5_begin cX5_begin 2 none 1 := ⟨⟨by decide +kernel, by decide +kernel, by decide +kernel, by decide +kernel⟩, io_of 715 (by decide +kernel) (by decide +kernel), io_of 716 (by decide +kernel) (by decide +kernel), io_of 717 (by decide +kernel) (by decide +kernel), io_of 73 (by decide +kernel) (by decide +kernel), io_of 718 (by decide +kernel) (by decide +kernel)⟩
theorem io_k_8_177 : io_LkV RX8 177 RX2 yX2_tellPlace cX2_tellPlace 1 (some .int) 0 := ⟨⟨by decide +kernel, by decide +kernel, by decide +kernel, by decide +kernel⟩, io_of 719 (by decide +kernel) (by decide +kernel), io_of 720 (by decide +kernel) (by decide +kernel), io_of 721 (by decide +kernel) (by decide +kernel), io_of 71 (by decide +kernel) (by decide +kernel), io_of 722 (by decide +kernel) (by decide +kernel)⟩
theorem io_k_8_180 : io_LkV RX8 180 RX2 yX2_measure cX2_measure 2 (some .int) 0 := ⟨⟨by decide +kernel, by decide +kernel, by decide +kernel, by decide +kernel⟩, io_of 723 (by decide +kernel) (by decide +kernel), io_of 724 (by decide +kernel) (by decide +kernel), io_of 725 (by decide +kernel) (by decide +kernel), io_of 71 (by decide +kernel) (by decide +kernel), io_of 726 (by decide +kernel) (by decide +kernel)⟩
theorem io_k_8_183 : io_LkV RX8 183 RX2 yX2_changeBuffer cX2_changeBuffer 3 (some .int) 1 := ⟨⟨by decide +kernel, by decide +kernel, by decide +kernel, by decide +kernel⟩, io_of 727 (by decide +kernel) (by decide +kernel), io_of 728 (by decide +kernel) (by decide +kernel), io_of 729 (by decide +kernel) (by decide +kernel), io_of 71 (by decide +kernel) (by decide +kernel), io_of 730 (by decide +kernel) (by decide +kernel)⟩
theorem io_k_8_186 : io_LkV RX8 186 RX2 yX2_flush cX2_flush 3 (some .int) 0 := ⟨⟨by decide +kernel, by decide +kernel, by decide +kernel, by decide +kernel⟩, io_of 731 (by decide +kernel) (by decide +kernel), io_of 506 (by decide +kernel) (by decide +kernel), io_of 507 (by decide +kernel) (by decide +kernel), io_of 71 (by decide +kernel) (by decide +kernel), io_of 508 (by decide +kernel) (by decide +kernel)⟩
theorem io_k_8_72 : io_LkV RX8 72 RX3 yX3_closeBehindRun cX3_closeBehindRun 2 none 0 := ⟨⟨by decide +kernel, by decide +kernel, by decide +kernel, by decide +kernel⟩, io_of 732 (by decide +kernel) (by decide +kernel), io_of 733 (by decide +kernel) (by decide +kernel), io_of 734 (by decide +kernel) (by decide +kernel), io_of 70 (by decide +kernel) (by decide +kernel), io_of 735 (by decide +kernel) (by decide +kernel)⟩
theorem io_k_3_83 : io_LkV RX3 83 RX2 yX2_isOpen cX2_isOpen 1 (some .boolean) 0 := ⟨⟨by decide +kernel, by decide +kernel, by decide +kernel, by decide +kernel⟩, io_of 736 (by decide +kernel) (by decide +kernel), io_of 737 (by decide +kernel) (by decide +kernel), io_of 738 (by decide +kernel) (by decide +kernel), io_of 71 (by decide +kernel) (by decide +kernel), io_of 739 (by decide +kernel) (by decide +kernel)⟩
theorem io_k_3_86 : io_LkV RX3 86 RX2 yX2_flush cX2_flush 3 (some .int) 0 := ⟨⟨by decide +kernel, by decide +kernel, by decide +kernel, by decide +kernel⟩, io_of 740 (by decide +kernel) (by decide +kernel), io_of 506 (by decide +kernel) (by decide +kernel), io_of 507 (by decide +kernel) (by decide +kernel), io_of 71 (by decide +kernel) (by decide +kernel), io_of 508 (by decide +kernel) (by decide +kernel)⟩
theorem io_k_L_46 : io_LkV RL 46 RX9 yX9_value cX9_value 1 (some .int) 0 := ⟨⟨by decide +kernel, by decide +kernel, by decide +kernel, by decide +kernel⟩, io_of 741 (by decide +kernel) (by decide +kernel), io_of 742 (by decide +kernel) (by decide +kernel), io_of 743 (by decide +kernel) (by decide +kernel), io_of 65 (by decide +kernel) (by decide +kernel), io_of 744 (by decide +kernel) (by decide +kernel)⟩
theorem io_k_9_113 : io_LkV RX9 113 RX8 yX8_outcome cX8_outcome 1 (some .int) 0 := ⟨⟨by decide +kernel, by decide +kernel, by decide +kernel, by decide +kernel⟩, io_of 745 (by decide +kernel) (by decide +kernel), io_of 746 (by decide +kernel) (by decide +kernel), io_of 747 (by decide +kernel) (by decide +kernel), io_of 75 (by decide +kernel) (by decide +kernel), io_of 748 (by decide +kernel) (by decide +kernel)⟩
theorem io_k_L_50 : io_LkV RL 50 RX9 yX9_where cX9_where 1 (some .int) 0 := ⟨⟨by decide +kernel, by decide +kernel, by decide +kernel, by decide +kernel⟩, io_of 749 (by decide +kernel) (by decide +kernel), io_of 750 (by decide +kernel) (by decide +kernel), io_of 751 (by decide +kernel) (by decide +kernel), io_of 65 (by decide +kernel) (by decide +kernel), io_of 752 (by decide +kernel) (by decide +kernel)⟩
theorem io_k_9_116 : io_LkV RX9 116 RX8 yX8_failedNode cX8_failedNode 1 (some .int) 0 := ⟨⟨by decide +kernel, by decide +kernel, by decide +kernel, by decide +kernel⟩, io_of 753 (by decide +kernel) (by decide +kernel), io_of 754 (by decide +kernel) (by decide +kernel), io_of 755 (by decide +kernel) (by decide +kernel), io_of 75 (by decide +kernel) (by decide +kernel), io_of 756 (by decide +kernel) (by decide +kernel)⟩
theorem io_k_L_54 : io_LkV RL 54 RX9 yX9_worked cX9_worked 1 (some .int) 0 := ⟨⟨by decide +kernel, by decide +kernel, by decide +kernel, by decide +kernel⟩, io_of 757 (by decide +kernel) (by decide +kernel), io_of 758 (by decide +kernel) (by decide +kernel), io_of 759 (by decide +kernel) (by decide +kernel), io_of 65 (by decide +kernel) (by decide +kernel), io_of 760 (by decide +kernel) (by decide +kernel)⟩
theorem io_k_9_119 : io_LkV RX9 119 RX8 yX8_steps cX8_steps 1 (some .int) 0 := ⟨⟨by decide +kernel, by decide +kernel, by decide +kernel, by decide +kernel⟩, io_of 761 (by decide +kernel) (by decide +kernel), io_of 762 (by decide +kernel) (by decide +kernel), io_of 763 (by decide +kernel) (by decide +kernel), io_of 75 (by decide +kernel) (by decide +kernel), io_of 764 (by decide +kernel) (by decide +kernel)⟩
theorem io_k_L_58 : io_LkV RL 58 RX9 yX9_order cX9_order 2 (some .int) 1 := ⟨⟨by decide +kernel, by decide +kernel, by decide +kernel, by decide +kernel⟩, io_of 765 (by decide +kernel) (by decide +kernel), io_of 766 (by decide +kernel) (by decide +kernel), io_of 767 (by decide +kernel) (by decide +kernel), io_of 65 (by decide +kernel) (by decide +kernel), io_of 768 (by decide +kernel) (by decide +kernel)⟩
theorem io_k_9_122 : io_LkV RX9 122 RX4 yX4_entry cX4_entry 2 (some .int) 1 := ⟨⟨by decide +kernel, by decide +kernel, by decide +kernel, by decide +kernel⟩, io_of 769 (by decide +kernel) (by decide +kernel), io_of 770 (by decide +kernel) (by decide +kernel), io_of 771 (by decide +kernel) (by decide +kernel), io_of 74 (by decide +kernel) (by decide +kernel), io_of 772 (by decide +kernel) (by decide +kernel)⟩
theorem io_k_4_19 : io_LkS RX4 19 yJ9_min_7cf53 cJ9_min_7cf53 2 (some .int) 2 := ⟨⟨by decide +kernel, by decide +kernel, by decide +kernel⟩, io_of 773 (by decide +kernel) (by decide +kernel), io_of 551 (by decide +kernel) (by decide +kernel), io_of 77 (by decide +kernel) (by decide +kernel), io_of 552 (by decide +kernel) (by decide +kernel)⟩
theorem io_k_4_25 : io_LkN RX4 25 yX9_within cX9_within 2 (some .boolean) 2 := ⟨⟨by decide +kernel, by decide +kernel, by decide +kernel⟩, by decide +kernel, io_of 327 (by decide +kernel) (by decide +kernel), io_of 65 (by decide +kernel) (by decide +kernel), io_of 328 (by decide +kernel) (by decide +kernel)⟩
theorem io_k_L_62 : io_LkV RL 62 RX9 yX9_handle cX9_handle 4 (some .int) 2 := ⟨⟨by decide +kernel, by decide +kernel, by decide +kernel, by decide +kernel⟩, io_of 775 (by decide +kernel) (by decide +kernel), io_of 776 (by decide +kernel) (by decide +kernel), io_of 777 (by decide +kernel) (by decide +kernel), io_of 65 (by decide +kernel) (by decide +kernel), io_of 778 (by decide +kernel) (by decide +kernel)⟩
theorem io_k_9_127 : io_LkV RX9 127 RX3 yX3_pick cX3_pick 2 (some (.object "InputOutput$Handle")) 1 := ⟨⟨by decide +kernel, by decide +kernel, by decide +kernel, by decide +kernel⟩, io_of 779 (by decide +kernel) (by decide +kernel), io_of 478 (by decide +kernel) (by decide +kernel), io_of 479 (by decide +kernel) (by decide +kernel), io_of 70 (by decide +kernel) (by decide +kernel), io_of 480 (by decide +kernel) (by decide +kernel)⟩
theorem io_k_9_131 : io_LkV RX9 131 RX2 yX2_fact cX2_fact 2 (some .int) 1 := ⟨⟨by decide +kernel, by decide +kernel, by decide +kernel, by decide +kernel⟩, io_of 780 (by decide +kernel) (by decide +kernel), io_of 781 (by decide +kernel) (by decide +kernel), io_of 782 (by decide +kernel) (by decide +kernel), io_of 71 (by decide +kernel) (by decide +kernel), io_of 783 (by decide +kernel) (by decide +kernel)⟩
theorem io_k_L_66 : io_LkV RL 66 RX9 yX9_content cX9_content 3 (some .int) 2 := ⟨⟨by decide +kernel, by decide +kernel, by decide +kernel, by decide +kernel⟩, io_of 784 (by decide +kernel) (by decide +kernel), io_of 785 (by decide +kernel) (by decide +kernel), io_of 786 (by decide +kernel) (by decide +kernel), io_of 65 (by decide +kernel) (by decide +kernel), io_of 787 (by decide +kernel) (by decide +kernel)⟩
theorem io_k_9_134 : io_LkV RX9 134 RX1 yX1_byteAt cX1_byteAt 3 (some .int) 2 := ⟨⟨by decide +kernel, by decide +kernel, by decide +kernel, by decide +kernel⟩, io_of 788 (by decide +kernel) (by decide +kernel), io_of 566 (by decide +kernel) (by decide +kernel), io_of 567 (by decide +kernel) (by decide +kernel), io_of 66 (by decide +kernel) (by decide +kernel), io_of 568 (by decide +kernel) (by decide +kernel)⟩
theorem io_k_L_70 : io_LkV RL 70 RX9 yX9_size cX9_size 2 (some .int) 1 := ⟨⟨by decide +kernel, by decide +kernel, by decide +kernel, by decide +kernel⟩, io_of 789 (by decide +kernel) (by decide +kernel), io_of 790 (by decide +kernel) (by decide +kernel), io_of 791 (by decide +kernel) (by decide +kernel), io_of 65 (by decide +kernel) (by decide +kernel), io_of 792 (by decide +kernel) (by decide +kernel)⟩
theorem io_k_L_74 : io_LkV RL 74 RX9 yX9_printed cX9_printed 2 (some .int) 1 := ⟨⟨by decide +kernel, by decide +kernel, by decide +kernel, by decide +kernel⟩, io_of 793 (by decide +kernel) (by decide +kernel), io_of 794 (by decide +kernel) (by decide +kernel), io_of 795 (by decide +kernel) (by decide +kernel), io_of 65 (by decide +kernel) (by decide +kernel), io_of 796 (by decide +kernel) (by decide +kernel)⟩
theorem io_k_9_137 : io_LkV RX9 137 RX0 yX0_printedByte cX0_printedByte 2 (some .int) 1 := ⟨⟨by decide +kernel, by decide +kernel, by decide +kernel, by decide +kernel⟩, io_of 797 (by decide +kernel) (by decide +kernel), io_of 798 (by decide +kernel) (by decide +kernel), io_of 799 (by decide +kernel) (by decide +kernel), io_of 68 (by decide +kernel) (by decide +kernel), io_of 800 (by decide +kernel) (by decide +kernel)⟩
theorem io_k_0_32 : io_LkS RX0 32 yJ9_min_7cf53 cJ9_min_7cf53 2 (some .int) 2 := ⟨⟨by decide +kernel, by decide +kernel, by decide +kernel⟩, io_of 801 (by decide +kernel) (by decide +kernel), io_of 551 (by decide +kernel) (by decide +kernel), io_of 77 (by decide +kernel) (by decide +kernel), io_of 552 (by decide +kernel) (by decide +kernel)⟩
theorem io_k_0_38 : io_LkN RX0 38 yX9_within cX9_within 2 (some .boolean) 2 := ⟨⟨by decide +kernel, by decide +kernel, by decide +kernel⟩, by decide +kernel, io_of 327 (by decide +kernel) (by decide +kernel), io_of 65 (by decide +kernel) (by decide +kernel), io_of 328 (by decide +kernel) (by decide +kernel)⟩
theorem io_k_L_78 : io_LkV RL 78 RX9 yX9_told cX9_told 2 (some .int) 1 := ⟨⟨by decide +kernel, by decide +kernel, by decide +kernel, by decide +kernel⟩, io_of 803 (by decide +kernel) (by decide +kernel), io_of 804 (by decide +kernel) (by decide +kernel), io_of 805 (by decide +kernel) (by decide +kernel), io_of 65 (by decide +kernel) (by decide +kernel), io_of 806 (by decide +kernel) (by decide +kernel)⟩
theorem io_k_9_140 : io_LkV RX9 140 RX0 yX0_printedCount cX0_printedCount 1 (some .int) 0 := ⟨⟨by decide +kernel, by decide +kernel, by decide +kernel, by decide +kernel⟩, io_of 807 (by decide +kernel) (by decide +kernel), io_of 808 (by decide +kernel) (by decide +kernel), io_of 809 (by decide +kernel) (by decide +kernel), io_of 68 (by decide +kernel) (by decide +kernel), io_of 810 (by decide +kernel) (by decide +kernel)⟩
theorem io_k_9_143 : io_LkV RX9 143 RX1 yX1_used cX1_used 1 (some .int) 0 := ⟨⟨by decide +kernel, by decide +kernel, by decide +kernel, by decide +kernel⟩, io_of 811 (by decide +kernel) (by decide +kernel), io_of 812 (by decide +kernel) (by decide +kernel), io_of 813 (by decide +kernel) (by decide +kernel), io_of 66 (by decide +kernel) (by decide +kernel), io_of 814 (by decide +kernel) (by decide +kernel)⟩
theorem io_k_9_146 : io_LkV RX9 146 RX3 yX3_count cX3_count 1 (some .int) 0 := ⟨⟨by decide +kernel, by decide +kernel, by decide +kernel, by decide +kernel⟩, io_of 815 (by decide +kernel) (by decide +kernel), io_of 816 (by decide +kernel) (by decide +kernel), io_of 817 (by decide +kernel) (by decide +kernel), io_of 70 (by decide +kernel) (by decide +kernel), io_of 818 (by decide +kernel) (by decide +kernel)⟩
theorem io_k_9_149 : io_LkV RX9 149 RX6 yX6_count cX6_count 1 (some .int) 0 := ⟨⟨by decide +kernel, by decide +kernel, by decide +kernel, by decide +kernel⟩, io_of 819 (by decide +kernel) (by decide +kernel), io_of 820 (by decide +kernel) (by decide +kernel), io_of 821 (by decide +kernel) (by decide +kernel), io_of 72 (by decide +kernel) (by decide +kernel), io_of 822 (by decide +kernel) (by decide +kernel)⟩
theorem io_k_9_150 : io_LkV RX9 150 RX4 yX4_count cX4_count 1 (some .int) 0 := ⟨⟨by decide +kernel, by decide +kernel, by decide +kernel, by decide +kernel⟩, io_of 823 (by decide +kernel) (by decide +kernel), io_of 824 (by decide +kernel) (by decide +kernel), io_of 825 (by decide +kernel) (by decide +kernel), io_of 74 (by decide +kernel) (by decide +kernel), io_of 826 (by decide +kernel) (by decide +kernel)⟩
theorem io_k_L_17 : io_LkV RL 17 RX10 yX10_lay cX10_lay 4 (some .int) 2 := ⟨⟨by decide +kernel, by decide +kernel, by decide +kernel, by decide +kernel⟩, io_of 994 (by decide +kernel) (by decide +kernel), io_of 995 (by decide +kernel) (by decide +kernel), io_of 996 (by decide +kernel) (by decide +kernel), io_of 76 (by decide +kernel) (by decide +kernel), io_of 997 (by decide +kernel) (by decide +kernel)⟩
theorem io_k_10_127 : io_LkS RX10 127 yX10_in cX10_in 3 (some .boolean) 3 := ⟨⟨by decide +kernel, by decide +kernel, by decide +kernel⟩, io_of 998 (by decide +kernel) (by decide +kernel), io_of 999 (by decide +kernel) (by decide +kernel), io_of 76 (by decide +kernel) (by decide +kernel), io_of 1000 (by decide +kernel) (by decide +kernel)⟩
theorem io_k_10_131 : io_LkV RX10 131 RX10 yX10_allBytes cX10_allBytes 3 (some .int) 0 := ⟨⟨by decide +kernel, by decide +kernel, by decide +kernel, by decide +kernel⟩, io_of 1001 (by decide +kernel) (by decide +kernel), io_of 1003 (by decide +kernel) (by decide +kernel), io_of 30 (by decide +kernel) (by decide +kernel), io_of 76 (by decide +kernel) (by decide +kernel), io_of 1004 (by decide +kernel) (by decide +kernel)⟩
theorem io_k_L_22 : io_LkV RL 22 RX10 yX10_there cX10_there 4 (some .int) 2 := ⟨⟨by decide +kernel, by decide +kernel, by decide +kernel, by decide +kernel⟩, io_of 1005 (by decide +kernel) (by decide +kernel), io_of 1006 (by decide +kernel) (by decide +kernel), io_of 1007 (by decide +kernel) (by decide +kernel), io_of 76 (by decide +kernel) (by decide +kernel), io_of 1008 (by decide +kernel) (by decide +kernel)⟩
theorem io_k_L_26 : io_LkV RL 26 RX10 yX10_permit cX10_permit 4 (some .int) 2 := ⟨⟨by decide +kernel, by decide +kernel, by decide +kernel, by decide +kernel⟩, io_of 1009 (by decide +kernel) (by decide +kernel), io_of 1010 (by decide +kernel) (by decide +kernel), io_of 1011 (by decide +kernel) (by decide +kernel), io_of 76 (by decide +kernel) (by decide +kernel), io_of 1012 (by decide +kernel) (by decide +kernel)⟩
theorem io_k_L_31 : io_LkV RL 31 RX10 yX10_input cX10_input 2 (some .int) 1 := ⟨⟨by decide +kernel, by decide +kernel, by decide +kernel, by decide +kernel⟩, io_of 1013 (by decide +kernel) (by decide +kernel), io_of 1014 (by decide +kernel) (by decide +kernel), io_of 1015 (by decide +kernel) (by decide +kernel), io_of 76 (by decide +kernel) (by decide +kernel), io_of 1016 (by decide +kernel) (by decide +kernel)⟩
theorem io_k_L_36 : io_LkV RL 36 RX10 yX10_node cX10_node 5 (some .int) 4 := ⟨⟨by decide +kernel, by decide +kernel, by decide +kernel, by decide +kernel⟩, io_of 1017 (by decide +kernel) (by decide +kernel), io_of 1018 (by decide +kernel) (by decide +kernel), io_of 1019 (by decide +kernel) (by decide +kernel), io_of 76 (by decide +kernel) (by decide +kernel), io_of 1020 (by decide +kernel) (by decide +kernel)⟩
theorem io_k_10_148 : io_LkV RX10 148 RX10 yX10_areParts cX10_areParts 5 (some .boolean) 4 := ⟨⟨by decide +kernel, by decide +kernel, by decide +kernel, by decide +kernel⟩, io_of 1021 (by decide +kernel) (by decide +kernel), io_of 1023 (by decide +kernel) (by decide +kernel), io_of 31 (by decide +kernel) (by decide +kernel), io_of 76 (by decide +kernel) (by decide +kernel), io_of 1024 (by decide +kernel) (by decide +kernel)⟩
theorem io_k_10_144 : io_LkV RX10 144 RX10 yX10_isNode cX10_isNode 2 (some .boolean) 1 := ⟨⟨by decide +kernel, by decide +kernel, by decide +kernel, by decide +kernel⟩, io_of 1025 (by decide +kernel) (by decide +kernel), io_of 1027 (by decide +kernel) (by decide +kernel), io_of 32 (by decide +kernel) (by decide +kernel), io_of 76 (by decide +kernel) (by decide +kernel), io_of 1028 (by decide +kernel) (by decide +kernel)⟩
theorem io_k_L_41 : io_LkV RL 41 RX10 yX10_clear cX10_clear 2 (some .int) 0 := ⟨⟨by decide +kernel, by decide +kernel, by decide +kernel, by decide +kernel⟩, io_of 1029 (by decide +kernel) (by decide +kernel), io_of 1030 (by decide +kernel) (by decide +kernel), io_of 1031 (by decide +kernel) (by decide +kernel), io_of 76 (by decide +kernel) (by decide +kernel), io_of 1032 (by decide +kernel) (by decide +kernel)⟩
theorem io_k_L_45 : io_LkV RL 45 RX10 yX10_run cX10_run 5 (some .int) 1 := ⟨⟨by decide +kernel, by decide +kernel, by decide +kernel, by decide +kernel⟩, io_of 1033 (by decide +kernel) (by decide +kernel), io_of 1034 (by decide +kernel) (by decide +kernel), io_of 1035 (by decide +kernel) (by decide +kernel), io_of 76 (by decide +kernel) (by decide +kernel), io_of 1036 (by decide +kernel) (by decide +kernel)⟩
theorem io_k_10_209 : io_LkV RX10 209 RX10 yX10_begin cX10_begin 2 none 1 := ⟨⟨by decide +kernel, by decide +kernel, by decide +kernel, by decide +kernel⟩, io_of 1037 (by decide +kernel) (by decide +kernel), io_of 1039 (by decide +kernel) (by decide +kernel), io_of 33 (by decide +kernel) (by decide +kernel), io_of 76 (by decide +kernel) (by decide +kernel), io_of 1040 (by decide +kernel) (by decide +kernel)⟩
theorem io_k_10_281 : io_LkV RX10 281 RX10 yX10_work cX10_work 2 none 0 := ⟨⟨by decide +kernel, by decide +kernel, by decide +kernel, by decide +kernel⟩, io_of 1041 (by decide +kernel) (by decide +kernel), io_of 1043 (by decide +kernel) (by decide +kernel), io_of 34 (by decide +kernel) (by decide +kernel), io_of 76 (by decide +kernel) (by decide +kernel), io_of 1044 (by decide +kernel) (by decide +kernel)⟩
theorem io_k_10_203 : io_LkV RX10 203 RX10 yX10_unwind cX10_unwind 6 none 1 := ⟨⟨by decide +kernel, by decide +kernel, by decide +kernel, by decide +kernel⟩, io_of 1045 (by decide +kernel) (by decide +kernel), io_of 1047 (by decide +kernel) (by decide +kernel), io_of 35 (by decide +kernel) (by decide +kernel), io_of 76 (by decide +kernel) (by decide +kernel), io_of 1048 (by decide +kernel) (by decide +kernel)⟩
theorem io_k_10_206 : io_LkV RX10 206 RX10 yX10_go cX10_go 5 none 2 := ⟨⟨by decide +kernel, by decide +kernel, by decide +kernel, by decide +kernel⟩, io_of 1049 (by decide +kernel) (by decide +kernel), io_of 1051 (by decide +kernel) (by decide +kernel), io_of 36 (by decide +kernel) (by decide +kernel), io_of 76 (by decide +kernel) (by decide +kernel), io_of 1052 (by decide +kernel) (by decide +kernel)⟩
theorem io_k_10_179 : io_LkV RX10 179 RX10 yX10_gives cX10_gives 3 none 2 := ⟨⟨by decide +kernel, by decide +kernel, by decide +kernel, by decide +kernel⟩, io_of 1053 (by decide +kernel) (by decide +kernel), io_of 1055 (by decide +kernel) (by decide +kernel), io_of 37 (by decide +kernel) (by decide +kernel), io_of 76 (by decide +kernel) (by decide +kernel), io_of 1056 (by decide +kernel) (by decide +kernel)⟩
theorem io_k_10_212 : io_LkV RX10 212 RX10 yX10_opens cX10_opens 6 none 1 := ⟨⟨by decide +kernel, by decide +kernel, by decide +kernel, by decide +kernel⟩, io_of 1057 (by decide +kernel) (by decide +kernel), io_of 1059 (by decide +kernel) (by decide +kernel), io_of 38 (by decide +kernel) (by decide +kernel), io_of 76 (by decide +kernel) (by decide +kernel), io_of 1060 (by decide +kernel) (by decide +kernel)⟩
theorem io_k_10_167 : io_LkV RX10 167 RX10 yX10_openRefused cX10_openRefused 3 (some .int) 2 := ⟨⟨by decide +kernel, by decide +kernel, by decide +kernel, by decide +kernel⟩, io_of 1061 (by decide +kernel) (by decide +kernel), io_of 1063 (by decide +kernel) (by decide +kernel), io_of 39 (by decide +kernel) (by decide +kernel), io_of 76 (by decide +kernel) (by decide +kernel), io_of 1064 (by decide +kernel) (by decide +kernel)⟩
theorem io_k_10_161 : io_LkV RX10 161 RX10 yX10_isHeldToWrite cX10_isHeldToWrite 3 (some .boolean) 1 := ⟨⟨by decide +kernel, by decide +kernel, by decide +kernel, by decide +kernel⟩, io_of 1065 (by decide +kernel) (by decide +kernel), io_of 1067 (by decide +kernel) (by decide +kernel), io_of 40 (by decide +kernel) (by decide +kernel), io_of 76 (by decide +kernel) (by decide +kernel), io_of 1068 (by decide +kernel) (by decide +kernel)⟩
theorem io_k_10_164 : io_LkV RX10 164 RX10 yX10_isHeld cX10_isHeld 3 (some .boolean) 1 := ⟨⟨by decide +kernel, by decide +kernel, by decide +kernel, by decide +kernel⟩, io_of 1069 (by decide +kernel) (by decide +kernel), io_of 1071 (by decide +kernel) (by decide +kernel), io_of 41 (by decide +kernel) (by decide +kernel), io_of 76 (by decide +kernel) (by decide +kernel), io_of 1072 (by decide +kernel) (by decide +kernel)⟩
theorem io_k_10_171 : io_LkV RX10 171 RX10 yX10_fails cX10_fails 3 none 2 := ⟨⟨by decide +kernel, by decide +kernel, by decide +kernel, by decide +kernel⟩, io_of 1073 (by decide +kernel) (by decide +kernel), io_of 1075 (by decide +kernel) (by decide +kernel), io_of 42 (by decide +kernel) (by decide +kernel), io_of 76 (by decide +kernel) (by decide +kernel), io_of 1076 (by decide +kernel) (by decide +kernel)⟩
theorem io_k_10_175 : io_LkV RX10 175 RX10 yX10_note cX10_note 2 none 1 := ⟨⟨by decide +kernel, by decide +kernel, by decide +kernel, by decide +kernel⟩, io_of 1077 (by decide +kernel) (by decide +kernel), io_of 1079 (by decide +kernel) (by decide +kernel), io_of 43 (by decide +kernel) (by decide +kernel), io_of 76 (by decide +kernel) (by decide +kernel), io_of 1080 (by decide +kernel) (by decide +kernel)⟩
theorem io_k_10_215 : io_LkV RX10 215 RX10 yX10_goHandles cX10_goHandles 7 none 4 := ⟨⟨by decide +kernel, by decide +kernel, by decide +kernel, by decide +kernel⟩, io_of 1081 (by decide +kernel) (by decide +kernel), io_of 1083 (by decide +kernel) (by decide +kernel), io_of 44 (by decide +kernel) (by decide +kernel), io_of 76 (by decide +kernel) (by decide +kernel), io_of 1084 (by decide +kernel) (by decide +kernel)⟩
theorem io_k_10_235 : io_LkV RX10 235 RX10 yX10_isSort cX10_isSort 3 (some .boolean) 2 := ⟨⟨by decide +kernel, by decide +kernel, by decide +kernel, by decide +kernel⟩, io_of 1085 (by decide +kernel) (by decide +kernel), io_of 1087 (by decide +kernel) (by decide +kernel), io_of 45 (by decide +kernel) (by decide +kernel), io_of 76 (by decide +kernel) (by decide +kernel), io_of 1088 (by decide +kernel) (by decide +kernel)⟩
theorem io_k_10_242 : io_LkV RX10 242 RX10 yX10_pair cX10_pair 5 none 4 := ⟨⟨by decide +kernel, by decide +kernel, by decide +kernel, by decide +kernel⟩, io_of 1089 (by decide +kernel) (by decide +kernel), io_of 1091 (by decide +kernel) (by decide +kernel), io_of 46 (by decide +kernel) (by decide +kernel), io_of 76 (by decide +kernel) (by decide +kernel), io_of 1092 (by decide +kernel) (by decide +kernel)⟩
theorem io_k_10_245 : io_LkV RX10 245 RX10 yX10_list cX10_list 5 none 3 := ⟨⟨by decide +kernel, by decide +kernel, by decide +kernel, by decide +kernel⟩, io_of 1093 (by decide +kernel) (by decide +kernel), io_of 1095 (by decide +kernel) (by decide +kernel), io_of 47 (by decide +kernel) (by decide +kernel), io_of 76 (by decide +kernel) (by decide +kernel), io_of 1096 (by decide +kernel) (by decide +kernel)⟩
theorem io_k_10_251 : io_LkV RX10 251 RX10 yX10_isOpen cX10_isOpen 3 (some .boolean) 2 := ⟨⟨by decide +kernel, by decide +kernel, by decide +kernel, by decide +kernel⟩, io_of 1097 (by decide +kernel) (by decide +kernel), io_of 1099 (by decide +kernel) (by decide +kernel), io_of 48 (by decide +kernel) (by decide +kernel), io_of 76 (by decide +kernel) (by decide +kernel), io_of 1100 (by decide +kernel) (by decide +kernel)⟩
theorem io_k_10_257 : io_LkV RX10 257 RX10 yX10_putByte cX10_putByte 6 none 3 := ⟨⟨by decide +kernel, by decide +kernel, by decide +kernel, by decide +kernel⟩, io_of 1101 (by decide +kernel) (by decide +kernel), io_of 1103 (by decide +kernel) (by decide +kernel), io_of 49 (by decide +kernel) (by decide +kernel), io_of 76 (by decide +kernel) (by decide +kernel), io_of 1104 (by decide +kernel) (by decide +kernel)⟩
theorem io_k_10_263 : io_LkV RX10 263 RX10 yX10_flush cX10_flush 6 (some .boolean) 1 := ⟨⟨by decide +kernel, by decide +kernel, by decide +kernel, by decide +kernel⟩, io_of 1105 (by decide +kernel) (by decide +kernel), io_of 1107 (by decide +kernel) (by decide +kernel), io_of 50 (by decide +kernel) (by decide +kernel), io_of 76 (by decide +kernel) (by decide +kernel), io_of 1108 (by decide +kernel) (by decide +kernel)⟩
theorem io_k_10_260 : io_LkV RX10 260 RX10 yX10_seek cX10_seek 4 none 3 := ⟨⟨by decide +kernel, by decide +kernel, by decide +kernel, by decide +kernel⟩, io_of 1109 (by decide +kernel) (by decide +kernel), io_of 1111 (by decide +kernel) (by decide +kernel), io_of 51 (by decide +kernel) (by decide +kernel), io_of 76 (by decide +kernel) (by decide +kernel), io_of 1112 (by decide +kernel) (by decide +kernel)⟩
theorem io_k_10_248 : io_LkV RX10 248 RX10 yX10_close cX10_close 4 none 2 := ⟨⟨by decide +kernel, by decide +kernel, by decide +kernel, by decide +kernel⟩, io_of 1113 (by decide +kernel) (by decide +kernel), io_of 1115 (by decide +kernel) (by decide +kernel), io_of 52 (by decide +kernel) (by decide +kernel), io_of 76 (by decide +kernel) (by decide +kernel), io_of 1116 (by decide +kernel) (by decide +kernel)⟩
theorem io_k_10_254 : io_LkV RX10 254 RX10 yX10_opened cX10_opened 4 none 3 := ⟨⟨by decide +kernel, by decide +kernel, by decide +kernel, by decide +kernel⟩, io_of 1117 (by decide +kernel) (by decide +kernel), io_of 1119 (by decide +kernel) (by decide +kernel), io_of 53 (by decide +kernel) (by decide +kernel), io_of 76 (by decide +kernel) (by decide +kernel), io_of 1120 (by decide +kernel) (by decide +kernel)⟩
theorem io_k_10_266 : io_LkV RX10 266 RX10 yX10_take cX10_take 4 none 2 := ⟨⟨by decide +kernel, by decide +kernel, by decide +kernel, by decide +kernel⟩, io_of 1121 (by decide +kernel) (by decide +kernel), io_of 1123 (by decide +kernel) (by decide +kernel), io_of 54 (by decide +kernel) (by decide +kernel), io_of 76 (by decide +kernel) (by decide +kernel), io_of 1124 (by decide +kernel) (by decide +kernel)⟩
theorem io_k_10_219 : io_LkV RX10 219 RX10 yX10_remove cX10_remove 3 none 1 := ⟨⟨by decide +kernel, by decide +kernel, by decide +kernel, by decide +kernel⟩, io_of 1125 (by decide +kernel) (by decide +kernel), io_of 1127 (by decide +kernel) (by decide +kernel), io_of 55 (by decide +kernel) (by decide +kernel), io_of 76 (by decide +kernel) (by decide +kernel), io_of 1128 (by decide +kernel) (by decide +kernel)⟩
theorem io_k_10_222 : io_LkV RX10 222 RX10 yX10_rename cX10_rename 5 none 1 := ⟨⟨by decide +kernel, by decide +kernel, by decide +kernel, by decide +kernel⟩, io_of 1129 (by decide +kernel) (by decide +kernel), io_of 1131 (by decide +kernel) (by decide +kernel), io_of 56 (by decide +kernel) (by decide +kernel), io_of 76 (by decide +kernel) (by decide +kernel), io_of 1132 (by decide +kernel) (by decide +kernel)⟩
theorem io_k_10_225 : io_LkV RX10 225 RX10 yX10_goTexts cX10_goTexts 4 none 3 := ⟨⟨by decide +kernel, by decide +kernel, by decide +kernel, by decide +kernel⟩, io_of 1133 (by decide +kernel) (by decide +kernel), io_of 1135 (by decide +kernel) (by decide +kernel), io_of 57 (by decide +kernel) (by decide +kernel), io_of 76 (by decide +kernel) (by decide +kernel), io_of 1136 (by decide +kernel) (by decide +kernel)⟩
theorem io_k_10_229 : io_LkV RX10 229 RX10 yX10_goPlain cX10_goPlain 5 none 4 := ⟨⟨by decide +kernel, by decide +kernel, by decide +kernel, by decide +kernel⟩, io_of 1137 (by decide +kernel) (by decide +kernel), io_of 1139 (by decide +kernel) (by decide +kernel), io_of 58 (by decide +kernel) (by decide +kernel), io_of 76 (by decide +kernel) (by decide +kernel), io_of 1140 (by decide +kernel) (by decide +kernel)⟩
theorem io_k_10_239 : io_LkV RX10 239 RX10 yX10_goTimes cX10_goTimes 4 none 3 := ⟨⟨by decide +kernel, by decide +kernel, by decide +kernel, by decide +kernel⟩, io_of 1141 (by decide +kernel) (by decide +kernel), io_of 1143 (by decide +kernel) (by decide +kernel), io_of 59 (by decide +kernel) (by decide +kernel), io_of 76 (by decide +kernel) (by decide +kernel), io_of 1144 (by decide +kernel) (by decide +kernel)⟩
theorem io_k_10_232 : io_LkV RX10 232 RX10 yX10_goEnds cX10_goEnds 5 none 4 := ⟨⟨by decide +kernel, by decide +kernel, by decide +kernel, by decide +kernel⟩, io_of 1145 (by decide +kernel) (by decide +kernel), io_of 1147 (by decide +kernel) (by decide +kernel), io_of 60 (by decide +kernel) (by decide +kernel), io_of 76 (by decide +kernel) (by decide +kernel), io_of 1148 (by decide +kernel) (by decide +kernel)⟩
theorem io_k_10_272 : io_LkV RX10 272 RX10 yX10_goFinally cX10_goFinally 4 none 3 := ⟨⟨by decide +kernel, by decide +kernel, by decide +kernel, by decide +kernel⟩, io_of 1149 (by decide +kernel) (by decide +kernel), io_of 1151 (by decide +kernel) (by decide +kernel), io_of 61 (by decide +kernel) (by decide +kernel), io_of 76 (by decide +kernel) (by decide +kernel), io_of 1152 (by decide +kernel) (by decide +kernel)⟩
theorem io_k_10_278 : io_LkV RX10 278 RX10 yX10_goOn cX10_goOn 4 none 3 := ⟨⟨by decide +kernel, by decide +kernel, by decide +kernel, by decide +kernel⟩, io_of 1153 (by decide +kernel) (by decide +kernel), io_of 1155 (by decide +kernel) (by decide +kernel), io_of 62 (by decide +kernel) (by decide +kernel), io_of 76 (by decide +kernel) (by decide +kernel), io_of 1156 (by decide +kernel) (by decide +kernel)⟩
theorem io_k_10_275 : io_LkV RX10 275 RX10 yX10_goBracket cX10_goBracket 4 none 3 := ⟨⟨by decide +kernel, by decide +kernel, by decide +kernel, by decide +kernel⟩, io_of 1157 (by decide +kernel) (by decide +kernel), io_of 1159 (by decide +kernel) (by decide +kernel), io_of 63 (by decide +kernel) (by decide +kernel), io_of 76 (by decide +kernel) (by decide +kernel), io_of 1160 (by decide +kernel) (by decide +kernel)⟩
theorem io_k_L_49 : io_LkV RL 49 RX10 yX10_value cX10_value 1 (some .int) 0 := ⟨⟨by decide +kernel, by decide +kernel, by decide +kernel, by decide +kernel⟩, io_of 1161 (by decide +kernel) (by decide +kernel), io_of 1162 (by decide +kernel) (by decide +kernel), io_of 1163 (by decide +kernel) (by decide +kernel), io_of 76 (by decide +kernel) (by decide +kernel), io_of 1164 (by decide +kernel) (by decide +kernel)⟩
theorem io_k_L_53 : io_LkV RL 53 RX10 yX10_where cX10_where 1 (some .int) 0 := ⟨⟨by decide +kernel, by decide +kernel, by decide +kernel, by decide +kernel⟩, io_of 1165 (by decide +kernel) (by decide +kernel), io_of 1166 (by decide +kernel) (by decide +kernel), io_of 1167 (by decide +kernel) (by decide +kernel), io_of 76 (by decide +kernel) (by decide +kernel), io_of 1168 (by decide +kernel) (by decide +kernel)⟩
theorem io_k_L_57 : io_LkV RL 57 RX10 yX10_worked cX10_worked 1 (some .int) 0 := ⟨⟨by decide +kernel, by decide +kernel, by decide +kernel, by decide +kernel⟩, io_of 1169 (by decide +kernel) (by decide +kernel), io_of 1170 (by decide +kernel) (by decide +kernel), io_of 1171 (by decide +kernel) (by decide +kernel), io_of 76 (by decide +kernel) (by decide +kernel), io_of 1172 (by decide +kernel) (by decide +kernel)⟩
theorem io_k_L_61 : io_LkV RL 61 RX10 yX10_order cX10_order 2 (some .int) 1 := ⟨⟨by decide +kernel, by decide +kernel, by decide +kernel, by decide +kernel⟩, io_of 1173 (by decide +kernel) (by decide +kernel), io_of 1174 (by decide +kernel) (by decide +kernel), io_of 1175 (by decide +kernel) (by decide +kernel), io_of 76 (by decide +kernel) (by decide +kernel), io_of 1176 (by decide +kernel) (by decide +kernel)⟩
theorem io_k_L_65 : io_LkV RL 65 RX10 yX10_handle cX10_handle 3 (some .int) 2 := ⟨⟨by decide +kernel, by decide +kernel, by decide +kernel, by decide +kernel⟩, io_of 1177 (by decide +kernel) (by decide +kernel), io_of 1178 (by decide +kernel) (by decide +kernel), io_of 1179 (by decide +kernel) (by decide +kernel), io_of 76 (by decide +kernel) (by decide +kernel), io_of 1180 (by decide +kernel) (by decide +kernel)⟩
theorem io_k_L_69 : io_LkV RL 69 RX10 yX10_content cX10_content 3 (some .int) 2 := ⟨⟨by decide +kernel, by decide +kernel, by decide +kernel, by decide +kernel⟩, io_of 1181 (by decide +kernel) (by decide +kernel), io_of 1182 (by decide +kernel) (by decide +kernel), io_of 1183 (by decide +kernel) (by decide +kernel), io_of 76 (by decide +kernel) (by decide +kernel), io_of 1184 (by decide +kernel) (by decide +kernel)⟩
theorem io_k_L_73 : io_LkV RL 73 RX10 yX10_size cX10_size 2 (some .int) 1 := ⟨⟨by decide +kernel, by decide +kernel, by decide +kernel, by decide +kernel⟩, io_of 1185 (by decide +kernel) (by decide +kernel), io_of 1186 (by decide +kernel) (by decide +kernel), io_of 1187 (by decide +kernel) (by decide +kernel), io_of 76 (by decide +kernel) (by decide +kernel), io_of 1188 (by decide +kernel) (by decide +kernel)⟩
theorem io_k_L_77 : io_LkV RL 77 RX10 yX10_printed cX10_printed 2 (some .int) 1 := ⟨⟨by decide +kernel, by decide +kernel, by decide +kernel, by decide +kernel⟩, io_of 1189 (by decide +kernel) (by decide +kernel), io_of 1190 (by decide +kernel) (by decide +kernel), io_of 1191 (by decide +kernel) (by decide +kernel), io_of 76 (by decide +kernel) (by decide +kernel), io_of 1192 (by decide +kernel) (by decide +kernel)⟩
theorem io_k_L_81 : io_LkV RL 81 RX10 yX10_told cX10_told 2 (some .int) 1 := ⟨⟨by decide +kernel, by decide +kernel, by decide +kernel, by decide +kernel⟩, io_of 1193 (by decide +kernel) (by decide +kernel), io_of 1194 (by decide +kernel) (by decide +kernel), io_of 1195 (by decide +kernel) (by decide +kernel), io_of 76 (by decide +kernel) (by decide +kernel), io_of 1196 (by decide +kernel) (by decide +kernel)⟩
theorem io_hR {N M maxL : Nat} (h : N + 1 ≤ M) (h2 : maxL ≤ 21) : N + 1 ≤ (io_rm M).frames ∧ 8 + (maxL + 11) + 40 * N ≤ (io_rm M).locals := ⟨h, by show _ ≤ 40 * M; omega⟩
section IR
variable {p : Program} {l : Launch} {e : Env} {R : Room} {s : State} {m : MethodId} {args : Array Value} {below : List Frame} {meth : Method} {c : Code} {H : Heap} {locs : List Loc} {cells slots : Nat} {Q : State → Prop} {cc : ByteArray} {pc nL : Nat} {ls : Array Slot} {rest : List Value} {D : va_G} {ca : Nat → ClassId} {ad : Nat → Nat} {A : Nat → Prop} {σ : io_M}
theorem io_ret_i {post : Int32 → io_M → Prop} {own : String} {v : Int32} (B : CallFix p m c cc nL s args io_tb own) (Z : io_Z D ca ad A s H locs σ) (hr : meth.sig.returnType = some .int) (hk : meth.locks = false) (hw : post v σ) (hdg : decode cc pc = .ok (.ireturn, 1)) : W p l e R s m args below meth c H locs cells slots (MQ below (va_Qi post (io_W D ca ad A) A) args s cells slots A) (F0 m pc ls [.int v]) :=
  W.iret B.1 B.2.1 hr (fun t ht hW => ⟨⟨v, σ, rfl, hw, Z.end ht hW⟩, Z.2.2.2.1.F ht⟩) Z.2.2.2.1.2.2 hdg hk
theorem io_nar {v : Int32} (h : io_bl v) : narrow .boolean (.int v) = .int v := by rcases h with rfl | rfl <;> decide
theorem io_ret_z {post : Int32 → io_M → Prop} {own : String} {v : Int32} (B : CallFix p m c cc nL s args io_tb own) (Z : io_Z D ca ad A s H locs σ) (hr : meth.sig.returnType = some .boolean) (hk : meth.locks = false) (hb : io_bl v) (hw : post v σ) (hdg : decode cc pc = .ok (.ireturn, 1)) : W p l e R s m args below meth c H locs cells slots (MQ below (va_Qi (fun r u => io_bl r ∧ post r u) (io_W D ca ad A) A) args s cells slots A) (F0 m pc ls [.int v]) :=
  W.zret B.1 B.2.1 hr (io_nar hb) (fun t ht hW => ⟨⟨v, σ, rfl, ⟨hb, hw⟩, Z.end ht hW⟩, Z.2.2.2.1.F ht⟩) Z.2.2.2.1.2.2 hdg hk
theorem io_ret_v {post : io_M → Prop} {own : String} (B : CallFix p m c cc nL s args io_tb own) (Z : io_Z D ca ad A s H locs σ) (hr : meth.sig.returnType = none) (hk : meth.locks = false) (hw : post σ) (hdg : decode cc pc = .ok (.return_, 1)) : W p l e R s m args below meth c H locs cells slots (MQ below (va_Qv post (io_W D ca ad A) A) args s cells slots A) (F0 m pc ls []) :=
  W.vret B.1 B.2.1 hr (fun t ht hW => ⟨⟨σ, rfl, hw, Z.end ht hW⟩, Z.2.2.2.1.F ht⟩) Z.2.2.2.1.2.2 hdg hk
theorem io_ret_n {post : Option Nat → io_M → Prop} {own C : String} {b : Nat} (B : CallFix p m c cc nL s args io_tb own) (Z : io_Z D ca ad A s H locs σ) (hr : meth.sig.returnType = some (.object C)) (hk : meth.locks = false) (hw : post none σ) (hdg : decode cc pc = .ok (.areturn, 1)) : W p l e R s m args below meth c H locs cells slots (MQ below (va_Qq (fun r u => ∃ o : Option Nat, r = o.map (fun i => ad (b + i)) ∧ (∀ i, o = some i → i < 20) ∧ post o u) (io_W D ca ad A) A) args s cells slots A) (F0 m pc ls [.null]) :=
  W.aret B.1 B.2.1 hr (Or.inl ⟨_, rfl⟩) (Or.inl rfl) (fun t ht hW => ⟨⟨none, σ, rfl, ⟨none, rfl, (fun _ h => by cases h), hw⟩, Z.end ht hW⟩, Z.2.2.2.1.F ht⟩) Z.2.2.2.1.2.2 hdg hk
theorem io_ret_r {post : Option Nat → io_M → Prop} {own C : String} {b i : Nat} (B : CallFix p m c cc nL s args io_tb own) (Z : io_Z D ca ad A s H locs σ) (hr : meth.sig.returnType = some (.object C)) (hk : meth.locks = false) (hi : i < 20) (hw : post (some i) σ) (hdg : decode cc pc = .ok (.areturn, 1)) : W p l e R s m args below meth c H locs cells slots (MQ below (va_Qq (fun r u => ∃ o : Option Nat, r = o.map (fun i => ad (b + i)) ∧ (∀ i, o = some i → i < 20) ∧ post o u) (io_W D ca ad A) A) args s cells slots A) (F0 m pc ls [.ref (ad (b + i))]) :=
  W.aret B.1 B.2.1 hr (Or.inl ⟨_, rfl⟩) (Or.inr ⟨_, rfl⟩) (fun t ht hW => ⟨⟨some (ad (b + i)), σ, rfl, ⟨some i, rfl, (fun j h => by cases h; exact hi), hw⟩, Z.end ht hW⟩, Z.2.2.2.1.F ht⟩) Z.2.2.2.1.2.2 hdg hk
theorem io_copy {own : String} {index k0 k1 : Nat} (B : CallFix p m c cc nL s args io_tb own) (Z : io_Z D ca ad A s H locs σ) (hls : ls.size = nL) (hl : Cond.methodLink own index arraycopyName ∈ io_tb) (hnat : Cond.native arraycopyName ∈ io_tb) (hst : Cond.static arraycopyName ∈ io_tb) (hini : Cond.initialized "java/lang/System" ∈ io_tb) (h0 : k0 < 8) (h1 : k1 < 8) {n : Int32} (hn : ¬ n < 0) (hn2 : n.toNatClampNeg ≤ 40) (hf : 1 ≤ R.frames) (hlo : (rest.map fun v => v.category).sum + (nativeFrameWords "java/lang/System" "arraycopy" 5 + 11) ≤ R.locals) (hdg : decode cc pc = .ok (.invokestatic index, 3))
    (kk : ∀ (σ1 : io_M) (H1 : Heap) (locs1 : List Loc), σ1 = va_up σ (80 + k1) (va_cpy (σ (80 + k0)) (σ (80 + k1)) 0 0 n.toNatClampNeg) → io_Z D ca ad A s H1 locs1 σ1 → W p l e R s m args below meth c H1 locs1 cells slots Q (F0 m (pc + 3) ls rest)) : W p l e R s m args below meth c H locs cells slots Q (F0 m pc ls (.int n :: .int 0 :: .ref (ad (80 + k1)) :: .int 0 :: .ref (ad (80 + k0)) :: rest)) := by
  refine va_copyi B.1 B.2.1 (B.2.2.1.trans hls.symm) B.2.2.2.1 (B.2.2.2.2 _ hl) (B.2.2.2.2 _ hnat) (B.2.2.2.2 _ hst) (B.2.2.2.2 _ hini) Z.1 Z.2.1 Z.2.2.1 Z.2.2.2.1 (80 + k0) (80 + k1) 0 0 (ty := .int) ((io_at (by omega)).trans (by rw [io_eR h0])) ((io_at (by omega)).trans (by rw [io_eR h1])) rfl rfl rfl (by decide) (by decide) hn (by show 0 + _ ≤ _; omega) (by show 0 + _ ≤ _; omega) (fun _ _ => rfl) hf hlo hdg (fun H1 locs1 hP hD hS => ?_)
  have hz : (0 : Int32).toNatClampNeg = 0 := by decide
  rw [hz, ← io_eR (ad := ad) h1, io_set] at hP hD
  exact kk _ H1 locs1 rfl ⟨Z.1, hP, hD, hS, Z.2.2.2.2⟩
theorem io_tsw {dflt lo hi : Int} {offs : Array Int} {len : Nat} {x : Int32} {tgt : Nat} {own : String} (B : CallFix p m c cc nL s args io_tb own) (hdg : decode cc pc = .ok (.tableswitch dflt lo hi offs, len)) (h : ((x.toInt < lo ∨ hi < x.toInt) ∧ (pc : Int) + dflt = (tgt : Int)) ∨ (¬ x.toInt < lo ∧ ¬ hi < x.toInt ∧ ∃ off, offs[(x.toInt - lo).toNat]? = some off ∧ (pc : Int) + off = (tgt : Int))) (k : W p l e R s m args below meth c H locs cells slots Q (F0 m tgt ls rest)) : W p l e R s m args below meth c H locs cells slots Q (F0 m pc ls (.int x :: rest)) := by
  rcases h with ⟨h, h2⟩ | ⟨h1, h2, off, h3, h4⟩
  · exact lv_tableOut B.1 B.2.1 hdg h h2 k
  · exact lv_tableIn B.1 B.2.1 hdg h1 h2 h3 h4 k
/-- the default way of a switch: every value of the table is one of the others, or goes the default way too -/
theorem io_tswD {dflt lo hi : Int} {offs : Array Int} {len n : Nat} {x : Int32} {tgt : Nat} {own : String} (P : Int32 → Prop) (B : CallFix p m c cc nL s args io_tb own) (hdg : decode cc pc = .ok (.tableswitch dflt lo hi offs, len)) (ht : (pc : Int) + dflt = (tgt : Int)) (hlo : 0 ≤ lo) (hhi : hi < 1000) (htab : ∀ j : Nat, j < hi.toNat + 1 → lo.toNat ≤ j → P (nI j) ∨ offs[j - lo.toNat]? = some dflt) (hx : ¬ P x) (k : W p l e R s m args below meth c H locs cells slots Q (F0 m tgt ls rest)) : W p l e R s m args below meth c H locs cells slots Q (F0 m pc ls (.int x :: rest)) := by
  by_cases h1 : x.toInt < lo
  · exact lv_tableOut B.1 B.2.1 hdg (Or.inl h1) ht k
  by_cases h2 : hi < x.toInt
  · exact lv_tableOut B.1 B.2.1 hdg (Or.inr h2) ht k
  have e : x = nI x.toInt.toNat := by
    apply Int32.toInt_inj.mp
    rw [nI_toInt (by omega)]
    omega
  rcases htab x.toInt.toNat (by omega) (by omega) with q | q
  · exact absurd (e ▸ q) hx
  · refine lv_tableIn B.1 B.2.1 hdg h1 h2 ?_ ht k
    rw [← q]
    congr 1
    omega
theorem io_gets {n : String} {f : Nat → Int32} {index : Nat} (B : CallFix p m c cc nL s args io_tb RX7) (Z : io_Z D ca ad A s H locs σ) (hT : io_T1 A s s.heap n f) (hl : Cond.fieldLink RX7 index "InputOutput$Script" n "[I" ∈ io_tb) {x : Int32} (hin : vp_in x 29) (hdg : decode cc pc = .ok (.getstatic index, 3)) (hd2 : decode cc (pc + 3) = .ok (.iload_n 1, 1)) (hl1 : ls[1]? = some (.val (.int x))) (hd3 : decode cc (pc + 4) = .ok (.iaload, 1))
    (kk : W p l e R s m args below meth c H locs cells slots Q (F0 m (pc + 5) ls (.int (f x.toNatClampNeg) :: rest))) : W p l e R s m args below meth c H locs cells slots Q (F0 m pc ls rest) := by
  obtain ⟨t, h1, h2⟩ := hT
  refine va_gets B.1 B.2.1 h1 Z.2.2.2.1 B.2.2.2.1 (B.2.2.2.2 _ hl) (fun _ h => h) hdg ?_
  refine lv_iload_n B.1 B.2.1 hd2 rfl hl1 ?_
  exact va_ti B.1 B.2.1 h2 Z.2.2.2.1 hin rfl hd3 kk
end IR
end
