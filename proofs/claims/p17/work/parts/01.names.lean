/-- a private method of a class that the tables say can be made, by its rows of tables_1 -/
def lw_okq (q : MethodName × Nat) : Prop := (q.1.cls ≠ "java/lang/invoke/MethodHandle" ∧ q.1.cls ≠ "java/lang/invoke/VarHandle") ∧ Cond.instantiable q.1.cls q.2 ∈ tables_1 ∧ Cond.privateMethod q.1 ∈ tables_1 ∧ Cond.instanceMethod q.1 ∈ tables_1
theorem lw_p0 : lw_okq (⟨"InputOutput$Script", "fits", "(II)Z"⟩, 5) := ⟨⟨by decide +kernel, by decide +kernel⟩, List.mem_of_getElem? (i := 75) (by decide +kernel), List.mem_of_getElem? (i := 324) (by decide +kernel), List.mem_of_getElem? (i := 325) (by decide +kernel)⟩
theorem lw_p1 : lw_okq (⟨"InputOutput$Worker", "work", "(II)Z"⟩, 11) := ⟨⟨by decide +kernel, by decide +kernel⟩, List.mem_of_getElem? (i := 197) (by decide +kernel), List.mem_of_getElem? (i := 374) (by decide +kernel), List.mem_of_getElem? (i := 375) (by decide +kernel)⟩
theorem lw_p2 : lw_okq (⟨"InputOutput$Worker", "stop", "()Z"⟩, 11) := ⟨⟨by decide +kernel, by decide +kernel⟩, List.mem_of_getElem? (i := 197) (by decide +kernel), List.mem_of_getElem? (i := 378) (by decide +kernel), List.mem_of_getElem? (i := 379) (by decide +kernel)⟩
theorem lw_p3 : lw_okq (⟨"InputOutput$Worker", "give", "(II)Z"⟩, 11) := ⟨⟨by decide +kernel, by decide +kernel⟩, List.mem_of_getElem? (i := 197) (by decide +kernel), List.mem_of_getElem? (i := 390) (by decide +kernel), List.mem_of_getElem? (i := 391) (by decide +kernel)⟩
theorem lw_p4 : lw_okq (⟨"InputOutput$Worker", "workSet", "(II)Z"⟩, 11) := ⟨⟨by decide +kernel, by decide +kernel⟩, List.mem_of_getElem? (i := 197) (by decide +kernel), List.mem_of_getElem? (i := 394) (by decide +kernel), List.mem_of_getElem? (i := 395) (by decide +kernel)⟩
theorem lw_p5 : lw_okq (⟨"InputOutput$Worker", "assign", "(III)V"⟩, 11) := ⟨⟨by decide +kernel, by decide +kernel⟩, List.mem_of_getElem? (i := 197) (by decide +kernel), List.mem_of_getElem? (i := 402) (by decide +kernel), List.mem_of_getElem? (i := 403) (by decide +kernel)⟩
theorem lw_p6 : lw_okq (⟨"InputOutput$Worker", "workHandleAndNumber", "(II)Z"⟩, 11) := ⟨⟨by decide +kernel, by decide +kernel⟩, List.mem_of_getElem? (i := 197) (by decide +kernel), List.mem_of_getElem? (i := 406) (by decide +kernel), List.mem_of_getElem? (i := 407) (by decide +kernel)⟩
theorem lw_p7 : lw_okq (⟨"InputOutput$Worker", "workToHandle", "(III)LInputOutput$Handle;"⟩, 11) := ⟨⟨by decide +kernel, by decide +kernel⟩, List.mem_of_getElem? (i := 197) (by decide +kernel), List.mem_of_getElem? (i := 410) (by decide +kernel), List.mem_of_getElem? (i := 411) (by decide +kernel)⟩
theorem lw_p8 : lw_okq (⟨"InputOutput$Worker", "fail", "(II)Z"⟩, 11) := ⟨⟨by decide +kernel, by decide +kernel⟩, List.mem_of_getElem? (i := 197) (by decide +kernel), List.mem_of_getElem? (i := 419) (by decide +kernel), List.mem_of_getElem? (i := 420) (by decide +kernel)⟩
theorem lw_p9 : lw_okq (⟨"InputOutput$Worker", "workToNumber", "(III)Z"⟩, 11) := ⟨⟨by decide +kernel, by decide +kernel⟩, List.mem_of_getElem? (i := 197) (by decide +kernel), List.mem_of_getElem? (i := 423) (by decide +kernel), List.mem_of_getElem? (i := 424) (by decide +kernel)⟩
theorem lw_p10 : lw_okq (⟨"InputOutput$Handle", "isDue", "(I)Z"⟩, 11) := ⟨⟨by decide +kernel, by decide +kernel⟩, List.mem_of_getElem? (i := 104) (by decide +kernel), List.mem_of_getElem? (i := 438) (by decide +kernel), List.mem_of_getElem? (i := 439) (by decide +kernel)⟩
theorem lw_p11 : lw_okq (⟨"InputOutput$Worker", "act", "(III)Z"⟩, 11) := ⟨⟨by decide +kernel, by decide +kernel⟩, List.mem_of_getElem? (i := 197) (by decide +kernel), List.mem_of_getElem? (i := 457) (by decide +kernel), List.mem_of_getElem? (i := 458) (by decide +kernel)⟩
theorem lw_p12 : lw_okq (⟨"InputOutput$Worker", "settle", "(III)Z"⟩, 11) := ⟨⟨by decide +kernel, by decide +kernel⟩, List.mem_of_getElem? (i := 197) (by decide +kernel), List.mem_of_getElem? (i := 465) (by decide +kernel), List.mem_of_getElem? (i := 466) (by decide +kernel)⟩
theorem lw_p13 : lw_okq (⟨"InputOutput$Worker", "workItem", "(II)Z"⟩, 11) := ⟨⟨by decide +kernel, by decide +kernel⟩, List.mem_of_getElem? (i := 197) (by decide +kernel), List.mem_of_getElem? (i := 470) (by decide +kernel), List.mem_of_getElem? (i := 471) (by decide +kernel)⟩
theorem lw_p14 : lw_okq (⟨"InputOutput$Worker", "workToList", "(III)LInputOutput$LazyList;"⟩, 11) := ⟨⟨by decide +kernel, by decide +kernel⟩, List.mem_of_getElem? (i := 197) (by decide +kernel), List.mem_of_getElem? (i := 474) (by decide +kernel), List.mem_of_getElem? (i := 475) (by decide +kernel)⟩
theorem lw_p15 : lw_okq (⟨"InputOutput$LazyList", "grow", "()Z"⟩, 3) := ⟨⟨by decide +kernel, by decide +kernel⟩, List.mem_of_getElem? (i := 161) (by decide +kernel), List.mem_of_getElem? (i := 490) (by decide +kernel), List.mem_of_getElem? (i := 491) (by decide +kernel)⟩
def lw_privs_1 : List (MethodName × Nat) := [(⟨"InputOutput$Script", "fits", "(II)Z"⟩, 5), (⟨"InputOutput$Worker", "work", "(II)Z"⟩, 11), (⟨"InputOutput$Worker", "stop", "()Z"⟩, 11), (⟨"InputOutput$Worker", "give", "(II)Z"⟩, 11), (⟨"InputOutput$Worker", "workSet", "(II)Z"⟩, 11), (⟨"InputOutput$Worker", "assign", "(III)V"⟩, 11), (⟨"InputOutput$Worker", "workHandleAndNumber", "(II)Z"⟩, 11), (⟨"InputOutput$Worker", "workToHandle", "(III)LInputOutput$Handle;"⟩, 11), (⟨"InputOutput$Worker", "fail", "(II)Z"⟩, 11), (⟨"InputOutput$Worker", "workToNumber", "(III)Z"⟩, 11), (⟨"InputOutput$Handle", "isDue", "(I)Z"⟩, 11), (⟨"InputOutput$Worker", "act", "(III)Z"⟩, 11), (⟨"InputOutput$Worker", "settle", "(III)Z"⟩, 11), (⟨"InputOutput$Worker", "workItem", "(II)Z"⟩, 11), (⟨"InputOutput$Worker", "workToList", "(III)LInputOutput$LazyList;"⟩, 11), (⟨"InputOutput$LazyList", "grow", "()Z"⟩, 3)]
theorem lw_r1 : ∀ q ∈ lw_privs_1, lw_okq q := List.forall_mem_cons.mpr ⟨lw_p0, List.forall_mem_cons.mpr ⟨lw_p1, List.forall_mem_cons.mpr ⟨lw_p2, List.forall_mem_cons.mpr ⟨lw_p3, List.forall_mem_cons.mpr ⟨lw_p4, List.forall_mem_cons.mpr ⟨lw_p5, List.forall_mem_cons.mpr ⟨lw_p6, List.forall_mem_cons.mpr ⟨lw_p7, List.forall_mem_cons.mpr ⟨lw_p8, List.forall_mem_cons.mpr ⟨lw_p9, List.forall_mem_cons.mpr ⟨lw_p10, List.forall_mem_cons.mpr ⟨lw_p11, List.forall_mem_cons.mpr ⟨lw_p12, List.forall_mem_cons.mpr ⟨lw_p13, List.forall_mem_cons.mpr ⟨lw_p14, List.forall_mem_cons.mpr ⟨lw_p15, fun _ h => absurd h List.not_mem_nil⟩⟩⟩⟩⟩⟩⟩⟩⟩⟩⟩⟩⟩⟩⟩⟩
theorem lw_p16 : lw_okq (⟨"InputOutput$Worker", "noteTimes", "(II)V"⟩, 11) := ⟨⟨by decide +kernel, by decide +kernel⟩, List.mem_of_getElem? (i := 197) (by decide +kernel), List.mem_of_getElem? (i := 510) (by decide +kernel), List.mem_of_getElem? (i := 511) (by decide +kernel)⟩
theorem lw_p17 : lw_okq (⟨"InputOutput$Worker", "workLength", "(II)Z"⟩, 11) := ⟨⟨by decide +kernel, by decide +kernel⟩, List.mem_of_getElem? (i := 197) (by decide +kernel), List.mem_of_getElem? (i := 519) (by decide +kernel), List.mem_of_getElem? (i := 520) (by decide +kernel)⟩
theorem lw_p18 : lw_okq (⟨"InputOutput$Worker", "actAlone", "(I)Z"⟩, 11) := ⟨⟨by decide +kernel, by decide +kernel⟩, List.mem_of_getElem? (i := 197) (by decide +kernel), List.mem_of_getElem? (i := 527) (by decide +kernel), List.mem_of_getElem? (i := 528) (by decide +kernel)⟩
theorem lw_p19 : lw_okq (⟨"InputOutput$Handles", "refusalToOpen", "(II)I"⟩, 3) := ⟨⟨by decide +kernel, by decide +kernel⟩, List.mem_of_getElem? (i := 97) (by decide +kernel), List.mem_of_getElem? (i := 535) (by decide +kernel), List.mem_of_getElem? (i := 536) (by decide +kernel)⟩
theorem lw_p20 : lw_okq (⟨"InputOutput$Handles", "isHeld", "(IZ)Z"⟩, 3) := ⟨⟨by decide +kernel, by decide +kernel⟩, List.mem_of_getElem? (i := 97) (by decide +kernel), List.mem_of_getElem? (i := 548) (by decide +kernel), List.mem_of_getElem? (i := 549) (by decide +kernel)⟩
theorem lw_p21 : lw_okq (⟨"InputOutput$Handles", "refusalToMove", "(II)I"⟩, 3) := ⟨⟨by decide +kernel, by decide +kernel⟩, List.mem_of_getElem? (i := 97) (by decide +kernel), List.mem_of_getElem? (i := 567) (by decide +kernel), List.mem_of_getElem? (i := 568) (by decide +kernel)⟩
theorem lw_p22 : lw_okq (⟨"InputOutput$Worker", "workNumberFirst", "(II)Z"⟩, 11) := ⟨⟨by decide +kernel, by decide +kernel⟩, List.mem_of_getElem? (i := 197) (by decide +kernel), List.mem_of_getElem? (i := 588) (by decide +kernel), List.mem_of_getElem? (i := 589) (by decide +kernel)⟩
theorem lw_p23 : lw_okq (⟨"InputOutput$Worker", "workTimes", "(III)Z"⟩, 11) := ⟨⟨by decide +kernel, by decide +kernel⟩, List.mem_of_getElem? (i := 197) (by decide +kernel), List.mem_of_getElem? (i := 600) (by decide +kernel), List.mem_of_getElem? (i := 601) (by decide +kernel)⟩
theorem lw_p24 : lw_okq (⟨"InputOutput$Worker", "workTwoNumbers", "(II)Z"⟩, 11) := ⟨⟨by decide +kernel, by decide +kernel⟩, List.mem_of_getElem? (i := 197) (by decide +kernel), List.mem_of_getElem? (i := 605) (by decide +kernel), List.mem_of_getElem? (i := 606) (by decide +kernel)⟩
theorem lw_p25 : lw_okq (⟨"InputOutput$Worker", "workCatch", "(II)Z"⟩, 11) := ⟨⟨by decide +kernel, by decide +kernel⟩, List.mem_of_getElem? (i := 197) (by decide +kernel), List.mem_of_getElem? (i := 609) (by decide +kernel), List.mem_of_getElem? (i := 610) (by decide +kernel)⟩
theorem lw_p26 : lw_okq (⟨"InputOutput$Worker", "workEnd", "(II)Z"⟩, 11) := ⟨⟨by decide +kernel, by decide +kernel⟩, List.mem_of_getElem? (i := 197) (by decide +kernel), List.mem_of_getElem? (i := 613) (by decide +kernel), List.mem_of_getElem? (i := 614) (by decide +kernel)⟩
theorem lw_p27 : lw_okq (⟨"InputOutput$Worker", "workBracket", "(II)Z"⟩, 11) := ⟨⟨by decide +kernel, by decide +kernel⟩, List.mem_of_getElem? (i := 197) (by decide +kernel), List.mem_of_getElem? (i := 617) (by decide +kernel), List.mem_of_getElem? (i := 618) (by decide +kernel)⟩
theorem lw_p28 : lw_okq (⟨"InputOutput$Worker", "workHandle", "(II)Z"⟩, 11) := ⟨⟨by decide +kernel, by decide +kernel⟩, List.mem_of_getElem? (i := 197) (by decide +kernel), List.mem_of_getElem? (i := 621) (by decide +kernel), List.mem_of_getElem? (i := 622) (by decide +kernel)⟩
theorem lw_p29 : lw_okq (⟨"InputOutput$Worker", "noteClosing", "(ILInputOutput$Handle;)V"⟩, 11) := ⟨⟨by decide +kernel, by decide +kernel⟩, List.mem_of_getElem? (i := 197) (by decide +kernel), List.mem_of_getElem? (i := 625) (by decide +kernel), List.mem_of_getElem? (i := 626) (by decide +kernel)⟩
theorem lw_p30 : lw_okq (⟨"InputOutputModel", "allBytes", "()I"⟩, 53) := ⟨⟨by decide +kernel, by decide +kernel⟩, List.mem_of_getElem? (i := 764) (by decide +kernel), List.mem_of_getElem? (i := 938) (by decide +kernel), List.mem_of_getElem? (i := 939) (by decide +kernel)⟩
theorem lw_p31 : lw_okq (⟨"InputOutputModel", "areParts", "(IIII)Z"⟩, 53) := ⟨⟨by decide +kernel, by decide +kernel⟩, List.mem_of_getElem? (i := 764) (by decide +kernel), List.mem_of_getElem? (i := 958) (by decide +kernel), List.mem_of_getElem? (i := 959) (by decide +kernel)⟩
def lw_privs_2 : List (MethodName × Nat) := [(⟨"InputOutput$Worker", "noteTimes", "(II)V"⟩, 11), (⟨"InputOutput$Worker", "workLength", "(II)Z"⟩, 11), (⟨"InputOutput$Worker", "actAlone", "(I)Z"⟩, 11), (⟨"InputOutput$Handles", "refusalToOpen", "(II)I"⟩, 3), (⟨"InputOutput$Handles", "isHeld", "(IZ)Z"⟩, 3), (⟨"InputOutput$Handles", "refusalToMove", "(II)I"⟩, 3), (⟨"InputOutput$Worker", "workNumberFirst", "(II)Z"⟩, 11), (⟨"InputOutput$Worker", "workTimes", "(III)Z"⟩, 11), (⟨"InputOutput$Worker", "workTwoNumbers", "(II)Z"⟩, 11), (⟨"InputOutput$Worker", "workCatch", "(II)Z"⟩, 11), (⟨"InputOutput$Worker", "workEnd", "(II)Z"⟩, 11), (⟨"InputOutput$Worker", "workBracket", "(II)Z"⟩, 11), (⟨"InputOutput$Worker", "workHandle", "(II)Z"⟩, 11), (⟨"InputOutput$Worker", "noteClosing", "(ILInputOutput$Handle;)V"⟩, 11), (⟨"InputOutputModel", "allBytes", "()I"⟩, 53), (⟨"InputOutputModel", "areParts", "(IIII)Z"⟩, 53)]
theorem lw_r2 : ∀ q ∈ lw_privs_2, lw_okq q := List.forall_mem_cons.mpr ⟨lw_p16, List.forall_mem_cons.mpr ⟨lw_p17, List.forall_mem_cons.mpr ⟨lw_p18, List.forall_mem_cons.mpr ⟨lw_p19, List.forall_mem_cons.mpr ⟨lw_p20, List.forall_mem_cons.mpr ⟨lw_p21, List.forall_mem_cons.mpr ⟨lw_p22, List.forall_mem_cons.mpr ⟨lw_p23, List.forall_mem_cons.mpr ⟨lw_p24, List.forall_mem_cons.mpr ⟨lw_p25, List.forall_mem_cons.mpr ⟨lw_p26, List.forall_mem_cons.mpr ⟨lw_p27, List.forall_mem_cons.mpr ⟨lw_p28, List.forall_mem_cons.mpr ⟨lw_p29, List.forall_mem_cons.mpr ⟨lw_p30, List.forall_mem_cons.mpr ⟨lw_p31, fun _ h => absurd h List.not_mem_nil⟩⟩⟩⟩⟩⟩⟩⟩⟩⟩⟩⟩⟩⟩⟩⟩
theorem lw_p32 : lw_okq (⟨"InputOutputModel", "isNode", "(I)Z"⟩, 53) := ⟨⟨by decide +kernel, by decide +kernel⟩, List.mem_of_getElem? (i := 764) (by decide +kernel), List.mem_of_getElem? (i := 962) (by decide +kernel), List.mem_of_getElem? (i := 963) (by decide +kernel)⟩
theorem lw_p33 : lw_okq (⟨"InputOutputModel", "begin", "(I)V"⟩, 53) := ⟨⟨by decide +kernel, by decide +kernel⟩, List.mem_of_getElem? (i := 764) (by decide +kernel), List.mem_of_getElem? (i := 974) (by decide +kernel), List.mem_of_getElem? (i := 975) (by decide +kernel)⟩
theorem lw_p34 : lw_okq (⟨"InputOutputModel", "work", "()V"⟩, 53) := ⟨⟨by decide +kernel, by decide +kernel⟩, List.mem_of_getElem? (i := 764) (by decide +kernel), List.mem_of_getElem? (i := 978) (by decide +kernel), List.mem_of_getElem? (i := 979) (by decide +kernel)⟩
theorem lw_p35 : lw_okq (⟨"InputOutputModel", "unwind", "(I)V"⟩, 53) := ⟨⟨by decide +kernel, by decide +kernel⟩, List.mem_of_getElem? (i := 764) (by decide +kernel), List.mem_of_getElem? (i := 982) (by decide +kernel), List.mem_of_getElem? (i := 983) (by decide +kernel)⟩
theorem lw_p36 : lw_okq (⟨"InputOutputModel", "go", "(II)V"⟩, 53) := ⟨⟨by decide +kernel, by decide +kernel⟩, List.mem_of_getElem? (i := 764) (by decide +kernel), List.mem_of_getElem? (i := 986) (by decide +kernel), List.mem_of_getElem? (i := 987) (by decide +kernel)⟩
theorem lw_p37 : lw_okq (⟨"InputOutputModel", "gives", "(II)V"⟩, 53) := ⟨⟨by decide +kernel, by decide +kernel⟩, List.mem_of_getElem? (i := 764) (by decide +kernel), List.mem_of_getElem? (i := 990) (by decide +kernel), List.mem_of_getElem? (i := 991) (by decide +kernel)⟩
theorem lw_p38 : lw_okq (⟨"InputOutputModel", "opens", "(I)V"⟩, 53) := ⟨⟨by decide +kernel, by decide +kernel⟩, List.mem_of_getElem? (i := 764) (by decide +kernel), List.mem_of_getElem? (i := 994) (by decide +kernel), List.mem_of_getElem? (i := 995) (by decide +kernel)⟩
theorem lw_p39 : lw_okq (⟨"InputOutputModel", "openRefused", "(II)I"⟩, 53) := ⟨⟨by decide +kernel, by decide +kernel⟩, List.mem_of_getElem? (i := 764) (by decide +kernel), List.mem_of_getElem? (i := 998) (by decide +kernel), List.mem_of_getElem? (i := 999) (by decide +kernel)⟩
theorem lw_p40 : lw_okq (⟨"InputOutputModel", "isHeldToWrite", "(I)Z"⟩, 53) := ⟨⟨by decide +kernel, by decide +kernel⟩, List.mem_of_getElem? (i := 764) (by decide +kernel), List.mem_of_getElem? (i := 1002) (by decide +kernel), List.mem_of_getElem? (i := 1003) (by decide +kernel)⟩
theorem lw_p41 : lw_okq (⟨"InputOutputModel", "isHeld", "(I)Z"⟩, 53) := ⟨⟨by decide +kernel, by decide +kernel⟩, List.mem_of_getElem? (i := 764) (by decide +kernel), List.mem_of_getElem? (i := 1006) (by decide +kernel), List.mem_of_getElem? (i := 1007) (by decide +kernel)⟩
theorem lw_p42 : lw_okq (⟨"InputOutputModel", "fails", "(II)V"⟩, 53) := ⟨⟨by decide +kernel, by decide +kernel⟩, List.mem_of_getElem? (i := 764) (by decide +kernel), List.mem_of_getElem? (i := 1010) (by decide +kernel), List.mem_of_getElem? (i := 1011) (by decide +kernel)⟩
theorem lw_p43 : lw_okq (⟨"InputOutputModel", "note", "(I)V"⟩, 53) := ⟨⟨by decide +kernel, by decide +kernel⟩, List.mem_of_getElem? (i := 764) (by decide +kernel), List.mem_of_getElem? (i := 1014) (by decide +kernel), List.mem_of_getElem? (i := 1015) (by decide +kernel)⟩
theorem lw_p44 : lw_okq (⟨"InputOutputModel", "goHandles", "(IIII)V"⟩, 53) := ⟨⟨by decide +kernel, by decide +kernel⟩, List.mem_of_getElem? (i := 764) (by decide +kernel), List.mem_of_getElem? (i := 1018) (by decide +kernel), List.mem_of_getElem? (i := 1019) (by decide +kernel)⟩
theorem lw_p45 : lw_okq (⟨"InputOutputModel", "isSort", "(II)Z"⟩, 53) := ⟨⟨by decide +kernel, by decide +kernel⟩, List.mem_of_getElem? (i := 764) (by decide +kernel), List.mem_of_getElem? (i := 1022) (by decide +kernel), List.mem_of_getElem? (i := 1023) (by decide +kernel)⟩
theorem lw_p46 : lw_okq (⟨"InputOutputModel", "pair", "(IIII)V"⟩, 53) := ⟨⟨by decide +kernel, by decide +kernel⟩, List.mem_of_getElem? (i := 764) (by decide +kernel), List.mem_of_getElem? (i := 1026) (by decide +kernel), List.mem_of_getElem? (i := 1027) (by decide +kernel)⟩
theorem lw_p47 : lw_okq (⟨"InputOutputModel", "list", "(III)V"⟩, 53) := ⟨⟨by decide +kernel, by decide +kernel⟩, List.mem_of_getElem? (i := 764) (by decide +kernel), List.mem_of_getElem? (i := 1030) (by decide +kernel), List.mem_of_getElem? (i := 1031) (by decide +kernel)⟩
def lw_privs_3 : List (MethodName × Nat) := [(⟨"InputOutputModel", "isNode", "(I)Z"⟩, 53), (⟨"InputOutputModel", "begin", "(I)V"⟩, 53), (⟨"InputOutputModel", "work", "()V"⟩, 53), (⟨"InputOutputModel", "unwind", "(I)V"⟩, 53), (⟨"InputOutputModel", "go", "(II)V"⟩, 53), (⟨"InputOutputModel", "gives", "(II)V"⟩, 53), (⟨"InputOutputModel", "opens", "(I)V"⟩, 53), (⟨"InputOutputModel", "openRefused", "(II)I"⟩, 53), (⟨"InputOutputModel", "isHeldToWrite", "(I)Z"⟩, 53), (⟨"InputOutputModel", "isHeld", "(I)Z"⟩, 53), (⟨"InputOutputModel", "fails", "(II)V"⟩, 53), (⟨"InputOutputModel", "note", "(I)V"⟩, 53), (⟨"InputOutputModel", "goHandles", "(IIII)V"⟩, 53), (⟨"InputOutputModel", "isSort", "(II)Z"⟩, 53), (⟨"InputOutputModel", "pair", "(IIII)V"⟩, 53), (⟨"InputOutputModel", "list", "(III)V"⟩, 53)]
theorem lw_r3 : ∀ q ∈ lw_privs_3, lw_okq q := List.forall_mem_cons.mpr ⟨lw_p32, List.forall_mem_cons.mpr ⟨lw_p33, List.forall_mem_cons.mpr ⟨lw_p34, List.forall_mem_cons.mpr ⟨lw_p35, List.forall_mem_cons.mpr ⟨lw_p36, List.forall_mem_cons.mpr ⟨lw_p37, List.forall_mem_cons.mpr ⟨lw_p38, List.forall_mem_cons.mpr ⟨lw_p39, List.forall_mem_cons.mpr ⟨lw_p40, List.forall_mem_cons.mpr ⟨lw_p41, List.forall_mem_cons.mpr ⟨lw_p42, List.forall_mem_cons.mpr ⟨lw_p43, List.forall_mem_cons.mpr ⟨lw_p44, List.forall_mem_cons.mpr ⟨lw_p45, List.forall_mem_cons.mpr ⟨lw_p46, List.forall_mem_cons.mpr ⟨lw_p47, fun _ h => absurd h List.not_mem_nil⟩⟩⟩⟩⟩⟩⟩⟩⟩⟩⟩⟩⟩⟩⟩⟩
theorem lw_p48 : lw_okq (⟨"InputOutputModel", "isOpen", "(II)Z"⟩, 53) := ⟨⟨by decide +kernel, by decide +kernel⟩, List.mem_of_getElem? (i := 764) (by decide +kernel), List.mem_of_getElem? (i := 1034) (by decide +kernel), List.mem_of_getElem? (i := 1035) (by decide +kernel)⟩
theorem lw_p49 : lw_okq (⟨"InputOutputModel", "putByte", "(III)V"⟩, 53) := ⟨⟨by decide +kernel, by decide +kernel⟩, List.mem_of_getElem? (i := 764) (by decide +kernel), List.mem_of_getElem? (i := 1038) (by decide +kernel), List.mem_of_getElem? (i := 1039) (by decide +kernel)⟩
theorem lw_p50 : lw_okq (⟨"InputOutputModel", "flush", "(I)Z"⟩, 53) := ⟨⟨by decide +kernel, by decide +kernel⟩, List.mem_of_getElem? (i := 764) (by decide +kernel), List.mem_of_getElem? (i := 1042) (by decide +kernel), List.mem_of_getElem? (i := 1043) (by decide +kernel)⟩
theorem lw_p51 : lw_okq (⟨"InputOutputModel", "seek", "(III)V"⟩, 53) := ⟨⟨by decide +kernel, by decide +kernel⟩, List.mem_of_getElem? (i := 764) (by decide +kernel), List.mem_of_getElem? (i := 1046) (by decide +kernel), List.mem_of_getElem? (i := 1047) (by decide +kernel)⟩
theorem lw_p52 : lw_okq (⟨"InputOutputModel", "close", "(II)V"⟩, 53) := ⟨⟨by decide +kernel, by decide +kernel⟩, List.mem_of_getElem? (i := 764) (by decide +kernel), List.mem_of_getElem? (i := 1050) (by decide +kernel), List.mem_of_getElem? (i := 1051) (by decide +kernel)⟩
theorem lw_p53 : lw_okq (⟨"InputOutputModel", "opened", "(III)V"⟩, 53) := ⟨⟨by decide +kernel, by decide +kernel⟩, List.mem_of_getElem? (i := 764) (by decide +kernel), List.mem_of_getElem? (i := 1054) (by decide +kernel), List.mem_of_getElem? (i := 1055) (by decide +kernel)⟩
theorem lw_p54 : lw_okq (⟨"InputOutputModel", "take", "(II)V"⟩, 53) := ⟨⟨by decide +kernel, by decide +kernel⟩, List.mem_of_getElem? (i := 764) (by decide +kernel), List.mem_of_getElem? (i := 1058) (by decide +kernel), List.mem_of_getElem? (i := 1059) (by decide +kernel)⟩
theorem lw_p55 : lw_okq (⟨"InputOutputModel", "remove", "(I)V"⟩, 53) := ⟨⟨by decide +kernel, by decide +kernel⟩, List.mem_of_getElem? (i := 764) (by decide +kernel), List.mem_of_getElem? (i := 1062) (by decide +kernel), List.mem_of_getElem? (i := 1063) (by decide +kernel)⟩
theorem lw_p56 : lw_okq (⟨"InputOutputModel", "rename", "(I)V"⟩, 53) := ⟨⟨by decide +kernel, by decide +kernel⟩, List.mem_of_getElem? (i := 764) (by decide +kernel), List.mem_of_getElem? (i := 1066) (by decide +kernel), List.mem_of_getElem? (i := 1067) (by decide +kernel)⟩
theorem lw_p57 : lw_okq (⟨"InputOutputModel", "goTexts", "(III)V"⟩, 53) := ⟨⟨by decide +kernel, by decide +kernel⟩, List.mem_of_getElem? (i := 764) (by decide +kernel), List.mem_of_getElem? (i := 1070) (by decide +kernel), List.mem_of_getElem? (i := 1071) (by decide +kernel)⟩
theorem lw_p58 : lw_okq (⟨"InputOutputModel", "goPlain", "(IIII)V"⟩, 53) := ⟨⟨by decide +kernel, by decide +kernel⟩, List.mem_of_getElem? (i := 764) (by decide +kernel), List.mem_of_getElem? (i := 1074) (by decide +kernel), List.mem_of_getElem? (i := 1075) (by decide +kernel)⟩
theorem lw_p59 : lw_okq (⟨"InputOutputModel", "goTimes", "(III)V"⟩, 53) := ⟨⟨by decide +kernel, by decide +kernel⟩, List.mem_of_getElem? (i := 764) (by decide +kernel), List.mem_of_getElem? (i := 1078) (by decide +kernel), List.mem_of_getElem? (i := 1079) (by decide +kernel)⟩
theorem lw_p60 : lw_okq (⟨"InputOutputModel", "goEnds", "(IIII)V"⟩, 53) := ⟨⟨by decide +kernel, by decide +kernel⟩, List.mem_of_getElem? (i := 764) (by decide +kernel), List.mem_of_getElem? (i := 1082) (by decide +kernel), List.mem_of_getElem? (i := 1083) (by decide +kernel)⟩
theorem lw_p61 : lw_okq (⟨"InputOutputModel", "goFinally", "(III)V"⟩, 53) := ⟨⟨by decide +kernel, by decide +kernel⟩, List.mem_of_getElem? (i := 764) (by decide +kernel), List.mem_of_getElem? (i := 1086) (by decide +kernel), List.mem_of_getElem? (i := 1087) (by decide +kernel)⟩
theorem lw_p62 : lw_okq (⟨"InputOutputModel", "goOn", "(III)V"⟩, 53) := ⟨⟨by decide +kernel, by decide +kernel⟩, List.mem_of_getElem? (i := 764) (by decide +kernel), List.mem_of_getElem? (i := 1090) (by decide +kernel), List.mem_of_getElem? (i := 1091) (by decide +kernel)⟩
theorem lw_p63 : lw_okq (⟨"InputOutputModel", "goBracket", "(III)V"⟩, 53) := ⟨⟨by decide +kernel, by decide +kernel⟩, List.mem_of_getElem? (i := 764) (by decide +kernel), List.mem_of_getElem? (i := 1094) (by decide +kernel), List.mem_of_getElem? (i := 1095) (by decide +kernel)⟩
def lw_privs_4 : List (MethodName × Nat) := [(⟨"InputOutputModel", "isOpen", "(II)Z"⟩, 53), (⟨"InputOutputModel", "putByte", "(III)V"⟩, 53), (⟨"InputOutputModel", "flush", "(I)Z"⟩, 53), (⟨"InputOutputModel", "seek", "(III)V"⟩, 53), (⟨"InputOutputModel", "close", "(II)V"⟩, 53), (⟨"InputOutputModel", "opened", "(III)V"⟩, 53), (⟨"InputOutputModel", "take", "(II)V"⟩, 53), (⟨"InputOutputModel", "remove", "(I)V"⟩, 53), (⟨"InputOutputModel", "rename", "(I)V"⟩, 53), (⟨"InputOutputModel", "goTexts", "(III)V"⟩, 53), (⟨"InputOutputModel", "goPlain", "(IIII)V"⟩, 53), (⟨"InputOutputModel", "goTimes", "(III)V"⟩, 53), (⟨"InputOutputModel", "goEnds", "(IIII)V"⟩, 53), (⟨"InputOutputModel", "goFinally", "(III)V"⟩, 53), (⟨"InputOutputModel", "goOn", "(III)V"⟩, 53), (⟨"InputOutputModel", "goBracket", "(III)V"⟩, 53)]
theorem lw_r4 : ∀ q ∈ lw_privs_4, lw_okq q := List.forall_mem_cons.mpr ⟨lw_p48, List.forall_mem_cons.mpr ⟨lw_p49, List.forall_mem_cons.mpr ⟨lw_p50, List.forall_mem_cons.mpr ⟨lw_p51, List.forall_mem_cons.mpr ⟨lw_p52, List.forall_mem_cons.mpr ⟨lw_p53, List.forall_mem_cons.mpr ⟨lw_p54, List.forall_mem_cons.mpr ⟨lw_p55, List.forall_mem_cons.mpr ⟨lw_p56, List.forall_mem_cons.mpr ⟨lw_p57, List.forall_mem_cons.mpr ⟨lw_p58, List.forall_mem_cons.mpr ⟨lw_p59, List.forall_mem_cons.mpr ⟨lw_p60, List.forall_mem_cons.mpr ⟨lw_p61, List.forall_mem_cons.mpr ⟨lw_p62, List.forall_mem_cons.mpr ⟨lw_p63, fun _ h => absurd h List.not_mem_nil⟩⟩⟩⟩⟩⟩⟩⟩⟩⟩⟩⟩⟩⟩⟩⟩
def lw_privs : List (MethodName × Nat) := lw_privs_1 ++ (lw_privs_2 ++ (lw_privs_3 ++ (lw_privs_4)))
def lw_tbl : List Cond := k2_sels lw_privs ++ tables_1
theorem lw_privs_ok : ∀ q ∈ lw_privs, lw_okq q := by
  show ∀ q ∈ lw_privs_1 ++ (lw_privs_2 ++ (lw_privs_3 ++ (lw_privs_4))), lw_okq q
  exact List.forall_mem_append.mpr ⟨lw_r1, List.forall_mem_append.mpr ⟨lw_r2, List.forall_mem_append.mpr ⟨lw_r3, lw_r4⟩⟩⟩
def RX0 : String := "InputOutput$Console"
def TX0 : u_T := fun k => match k with
  | 0 => ("InputOutput$Console", "incoming", "[I", true)
  | 1 => ("InputOutput$Console", "kept", "[I", true)
  | 2 => ("InputOutput$Console", "come", "I", false)
  | 3 => ("InputOutput$Console", "gone", "I", false)
  | _ => ("InputOutput$Console", "shown", "I", false)
def tyX0 : Nat → FieldType := fun k => match k with
  | 0 => .array .int
  | 1 => .array .int
  | 2 => .int
  | 3 => .int
  | _ => .int
abbrev wsX00 : List Cond := u_ws RX0 TX0 5
theorem nmX0 : ∀ a, a < 5 → ∀ b, b < 5 → a ≠ b → (TX0 a).2.1 ≠ (TX0 b).2.1 := by decide +kernel
theorem tyX0_ok : ∀ k, k < 5 → parseFieldDescriptor (TX0 k).2.2.1 = some (tyX0 k) := by decide +kernel
abbrev cX0_init : ByteArray := prog_2_method_1_code
def yX0_init : MethodName := ⟨RX0, "<init>", "()V"⟩
abbrev cX0_forget : ByteArray := prog_2_method_2_code
def yX0_forget : MethodName := ⟨RX0, "forget", "()V"⟩
abbrev cX0_supply : ByteArray := prog_2_method_3_code
def yX0_supply : MethodName := ⟨RX0, "supply", "(I)Z"⟩
abbrev cX0_left : ByteArray := prog_2_method_4_code
def yX0_left : MethodName := ⟨RX0, "left", "()I"⟩
abbrev cX0_readByte : ByteArray := prog_2_method_5_code
def yX0_readByte : MethodName := ⟨RX0, "readByte", "()I"⟩
abbrev cX0_print : ByteArray := prog_2_method_6_code
def yX0_print : MethodName := ⟨RX0, "print", "(I)I"⟩
abbrev cX0_printedCount : ByteArray := prog_2_method_7_code
def yX0_printedCount : MethodName := ⟨RX0, "printedCount", "()I"⟩
abbrev cX0_printedByte : ByteArray := prog_2_method_8_code
def yX0_printedByte : MethodName := ⟨RX0, "printedByte", "(I)I"⟩
def RX1 : String := "InputOutput$Disk"
def TX1 : u_T := fun k => match k with
  | 0 => ("InputOutput$Disk", "present", "[Z", true)
  | 1 => ("InputOutput$Disk", "permits", "[I", true)
  | 2 => ("InputOutput$Disk", "lengths", "[I", true)
  | 3 => ("InputOutput$Disk", "bytes", "[[I", true)
  | _ => ("InputOutput$Disk", "used", "I", false)
def tyX1 : Nat → FieldType := fun k => match k with
  | 0 => .array .boolean
  | 1 => .array .int
  | 2 => .array .int
  | 3 => .array (.array .int)
  | _ => .int
abbrev wsX10 : List Cond := u_ws RX1 TX1 5
theorem nmX1 : ∀ a, a < 5 → ∀ b, b < 5 → a ≠ b → (TX1 a).2.1 ≠ (TX1 b).2.1 := by decide +kernel
theorem tyX1_ok : ∀ k, k < 5 → parseFieldDescriptor (TX1 k).2.2.1 = some (tyX1 k) := by decide +kernel
abbrev cX1_init : ByteArray := prog_3_method_1_code
def yX1_init : MethodName := ⟨RX1, "<init>", "()V"⟩
abbrev cX1_isThere : ByteArray := prog_3_method_2_code
def yX1_isThere : MethodName := ⟨RX1, "isThere", "(I)Z"⟩
abbrev cX1_lengthOf : ByteArray := prog_3_method_3_code
def yX1_lengthOf : MethodName := ⟨RX1, "lengthOf", "(I)I"⟩
abbrev cX1_used : ByteArray := prog_3_method_4_code
def yX1_used : MethodName := ⟨RX1, "used", "()I"⟩
abbrev cX1_grants : ByteArray := prog_3_method_5_code
def yX1_grants : MethodName := ⟨RX1, "grants", "(II)Z"⟩
abbrev cX1_changePermits : ByteArray := prog_3_method_6_code
def yX1_changePermits : MethodName := ⟨RX1, "changePermits", "(II)I"⟩
abbrev cX1_byteAt : ByteArray := prog_3_method_7_code
def yX1_byteAt : MethodName := ⟨RX1, "byteAt", "(II)I"⟩
abbrev cX1_create : ByteArray := prog_3_method_8_code
def yX1_create : MethodName := ⟨RX1, "create", "(I)V"⟩
abbrev cX1_makeEmpty : ByteArray := prog_3_method_9_code
def yX1_makeEmpty : MethodName := ⟨RX1, "makeEmpty", "(I)V"⟩
abbrev cX1_remove : ByteArray := prog_3_method_10_code
def yX1_remove : MethodName := ⟨RX1, "remove", "(I)V"⟩
abbrev cX1_append : ByteArray := prog_3_method_11_code
def yX1_append : MethodName := ⟨RX1, "append", "(II)Z"⟩
abbrev cX1_write : ByteArray := prog_3_method_12_code
def yX1_write : MethodName := ⟨RX1, "write", "(III)Z"⟩
abbrev cX1_move : ByteArray := prog_3_method_13_code
def yX1_move : MethodName := ⟨RX1, "move", "(II)V"⟩
def RX2 : String := "InputOutput$Handle"
def TX2 : u_T := fun k => match k with
  | 0 => ("InputOutput$Handle", "disk", "LInputOutput$Disk;", true)
  | 1 => ("InputOutput$Handle", "buffer", "[I", true)
  | 2 => ("InputOutput$Handle", "waiting", "I", false)
  | 3 => ("InputOutput$Handle", "buffering", "I", false)
  | 4 => ("InputOutput$Handle", "file", "I", false)
  | 5 => ("InputOutput$Handle", "mode", "I", false)
  | 6 => ("InputOutput$Handle", "place", "I", false)
  | 7 => ("InputOutput$Handle", "state", "I", false)
  | 8 => ("InputOutput$Handle", "given", "I", false)
  | 9 => ("InputOutput$Handle", "taken", "I", false)
  | _ => ("InputOutput$Handle", "laid", "I", false)
def tyX2 : Nat → FieldType := fun k => match k with
  | 0 => .object "InputOutput$Disk"
  | 1 => .array .int
  | 2 => .int
  | 3 => .int
  | 4 => .int
  | 5 => .int
  | 6 => .int
  | 7 => .int
  | 8 => .int
  | 9 => .int
  | _ => .int
abbrev wsX20 : List Cond := u_ws RX2 TX2 11
theorem nmX2 : ∀ a, a < 11 → ∀ b, b < 11 → a ≠ b → (TX2 a).2.1 ≠ (TX2 b).2.1 := by decide +kernel
theorem tyX2_ok : ∀ k, k < 11 → parseFieldDescriptor (TX2 k).2.2.1 = some (tyX2 k) := by decide +kernel
abbrev cX2_init : ByteArray := prog_4_method_1_code
def yX2_init : MethodName := ⟨RX2, "<init>", "(LInputOutput$Disk;)V"⟩
abbrev cX2_begin : ByteArray := prog_4_method_2_code
def yX2_begin : MethodName := ⟨RX2, "begin", "(II)V"⟩
abbrev cX2_isOpen : ByteArray := prog_4_method_3_code
def yX2_isOpen : MethodName := ⟨RX2, "isOpen", "()Z"⟩
abbrev cX2_isHalf : ByteArray := prog_4_method_4_code
def yX2_isHalf : MethodName := ⟨RX2, "isHalf", "()Z"⟩
abbrev cX2_isClosed : ByteArray := prog_4_method_5_code
def yX2_isClosed : MethodName := ⟨RX2, "isClosed", "()Z"⟩
abbrev cX2_writes : ByteArray := prog_4_method_6_code
def yX2_writes : MethodName := ⟨RX2, "writes", "()Z"⟩
abbrev cX2_holds : ByteArray := prog_4_method_7_code
def yX2_holds : MethodName := ⟨RX2, "holds", "(I)Z"⟩
abbrev cX2_becomeHalf : ByteArray := prog_4_method_8_code
def yX2_becomeHalf : MethodName := ⟨RX2, "becomeHalf", "()Z"⟩
abbrev cX2_endReading : ByteArray := prog_4_method_9_code
def yX2_endReading : MethodName := ⟨RX2, "endReading", "()V"⟩
abbrev cX2_close : ByteArray := prog_4_method_10_code
def yX2_close : MethodName := ⟨RX2, "close", "()I"⟩
abbrev cX2_put : ByteArray := prog_4_method_11_code
def yX2_put : MethodName := ⟨RX2, "put", "(I)I"⟩
abbrev cX2_isDue : ByteArray := prog_4_method_12_code
def yX2_isDue : MethodName := ⟨RX2, "isDue", "(I)Z"⟩
abbrev cX2_flush : ByteArray := prog_4_method_13_code
def yX2_flush : MethodName := ⟨RX2, "flush", "()I"⟩
abbrev cX2_take : ByteArray := prog_4_method_14_code
def yX2_take : MethodName := ⟨RX2, "take", "()I"⟩
abbrev cX2_nextByte : ByteArray := prog_4_method_15_code
def yX2_nextByte : MethodName := ⟨RX2, "nextByte", "()I"⟩
abbrev cX2_seek : ByteArray := prog_4_method_16_code
def yX2_seek : MethodName := ⟨RX2, "seek", "(I)I"⟩
abbrev cX2_tellPlace : ByteArray := prog_4_method_17_code
def yX2_tellPlace : MethodName := ⟨RX2, "tellPlace", "()I"⟩
abbrev cX2_measure : ByteArray := prog_4_method_18_code
def yX2_measure : MethodName := ⟨RX2, "measure", "()I"⟩
abbrev cX2_changeBuffer : ByteArray := prog_4_method_19_code
def yX2_changeBuffer : MethodName := ⟨RX2, "changeBuffer", "(I)I"⟩
abbrev cX2_fact : ByteArray := prog_4_method_20_code
def yX2_fact : MethodName := ⟨RX2, "fact", "(I)I"⟩
def RX3 : String := "InputOutput$Handles"
def TX3 : u_T := fun k => match k with
  | 0 => ("InputOutput$Handles", "disk", "LInputOutput$Disk;", true)
  | 1 => ("InputOutput$Handles", "all", "[LInputOutput$Handle;", true)
  | _ => ("InputOutput$Handles", "count", "I", false)
def tyX3 : Nat → FieldType := fun k => match k with
  | 0 => .object "InputOutput$Disk"
  | 1 => .array (.object "InputOutput$Handle")
  | _ => .int
abbrev wsX30 : List Cond := u_ws RX3 TX3 3
theorem nmX3 : ∀ a, a < 3 → ∀ b, b < 3 → a ≠ b → (TX3 a).2.1 ≠ (TX3 b).2.1 := by decide +kernel
theorem tyX3_ok : ∀ k, k < 3 → parseFieldDescriptor (TX3 k).2.2.1 = some (tyX3 k) := by decide +kernel
abbrev cX3_init : ByteArray := prog_5_method_1_code
def yX3_init : MethodName := ⟨RX3, "<init>", "(LInputOutput$Disk;)V"⟩
abbrev cX3_count : ByteArray := prog_5_method_2_code
def yX3_count : MethodName := ⟨RX3, "count", "()I"⟩
abbrev cX3_forget : ByteArray := prog_5_method_3_code
def yX3_forget : MethodName := ⟨RX3, "forget", "()V"⟩
abbrev cX3_pick : ByteArray := prog_5_method_4_code
def yX3_pick : MethodName := ⟨RX3, "pick", "(I)LInputOutput$Handle;"⟩
abbrev cX3_open : ByteArray := prog_5_method_5_code
def yX3_open : MethodName := ⟨RX3, "open", "(II)I"⟩
abbrev cX3_refusalToOpen : ByteArray := prog_5_method_6_code
def yX3_refusalToOpen : MethodName := ⟨RX3, "refusalToOpen", "(II)I"⟩
abbrev cX3_isHeld : ByteArray := prog_5_method_7_code
def yX3_isHeld : MethodName := ⟨RX3, "isHeld", "(IZ)Z"⟩
abbrev cX3_removeFile : ByteArray := prog_5_method_8_code
def yX3_removeFile : MethodName := ⟨RX3, "removeFile", "(I)I"⟩
abbrev cX3_renameFile : ByteArray := prog_5_method_9_code
def yX3_renameFile : MethodName := ⟨RX3, "renameFile", "(II)I"⟩
abbrev cX3_refusalToMove : ByteArray := prog_5_method_10_code
def yX3_refusalToMove : MethodName := ⟨RX3, "refusalToMove", "(II)I"⟩
abbrev cX3_closeBehindRun : ByteArray := prog_5_method_11_code
def yX3_closeBehindRun : MethodName := ⟨RX3, "closeBehindRun", "()V"⟩
def RX4 : String := "InputOutput$Journal"
def TX4 : u_T := fun k => match k with
  | 0 => ("InputOutput$Journal", "entries", "[I", true)
  | _ => ("InputOutput$Journal", "count", "I", false)
def tyX4 : Nat → FieldType := fun k => match k with
  | 0 => .array .int
  | _ => .int
abbrev wsX40 : List Cond := u_ws RX4 TX4 2
theorem nmX4 : ∀ a, a < 2 → ∀ b, b < 2 → a ≠ b → (TX4 a).2.1 ≠ (TX4 b).2.1 := by decide +kernel
theorem tyX4_ok : ∀ k, k < 2 → parseFieldDescriptor (TX4 k).2.2.1 = some (tyX4 k) := by decide +kernel
abbrev cX4_init : ByteArray := prog_6_method_1_code
def yX4_init : MethodName := ⟨RX4, "<init>", "()V"⟩
abbrev cX4_count : ByteArray := prog_6_method_2_code
def yX4_count : MethodName := ⟨RX4, "count", "()I"⟩
abbrev cX4_forget : ByteArray := prog_6_method_3_code
def yX4_forget : MethodName := ⟨RX4, "forget", "()V"⟩
abbrev cX4_note : ByteArray := prog_6_method_4_code
def yX4_note : MethodName := ⟨RX4, "note", "(I)V"⟩
abbrev cX4_entry : ByteArray := prog_6_method_5_code
def yX4_entry : MethodName := ⟨RX4, "entry", "(I)I"⟩
def RX5 : String := "InputOutput$LazyList"
def TX5 : u_T := fun k => match k with
  | 0 => ("InputOutput$LazyList", "items", "[I", true)
  | 1 => ("InputOutput$LazyList", "source", "LInputOutput$Handle;", false)
  | _ => ("InputOutput$LazyList", "length", "I", false)
def tyX5 : Nat → FieldType := fun k => match k with
  | 0 => .array .int
  | 1 => .object "InputOutput$Handle"
  | _ => .int
abbrev wsX50 : List Cond := u_ws RX5 TX5 3
theorem nmX5 : ∀ a, a < 3 → ∀ b, b < 3 → a ≠ b → (TX5 a).2.1 ≠ (TX5 b).2.1 := by decide +kernel
theorem tyX5_ok : ∀ k, k < 3 → parseFieldDescriptor (TX5 k).2.2.1 = some (tyX5 k) := by decide +kernel
abbrev cX5_init : ByteArray := prog_7_method_1_code
def yX5_init : MethodName := ⟨RX5, "<init>", "()V"⟩
abbrev cX5_begin : ByteArray := prog_7_method_2_code
def yX5_begin : MethodName := ⟨RX5, "begin", "(LInputOutput$Handle;)V"⟩
abbrev cX5_length : ByteArray := prog_7_method_3_code
def yX5_length : MethodName := ⟨RX5, "length", "()I"⟩
abbrev cX5_item : ByteArray := prog_7_method_4_code
def yX5_item : MethodName := ⟨RX5, "item", "(I)I"⟩
abbrev cX5_reach : ByteArray := prog_7_method_5_code
def yX5_reach : MethodName := ⟨RX5, "reach", "(I)I"⟩
abbrev cX5_grow : ByteArray := prog_7_method_6_code
def yX5_grow : MethodName := ⟨RX5, "grow", "()Z"⟩
def RX6 : String := "InputOutput$Lists"
def TX6 : u_T := fun k => match k with
  | 0 => ("InputOutput$Lists", "all", "[LInputOutput$LazyList;", true)
  | _ => ("InputOutput$Lists", "count", "I", false)
def tyX6 : Nat → FieldType := fun k => match k with
  | 0 => .array (.object "InputOutput$LazyList")
  | _ => .int
abbrev wsX60 : List Cond := u_ws RX6 TX6 2
theorem nmX6 : ∀ a, a < 2 → ∀ b, b < 2 → a ≠ b → (TX6 a).2.1 ≠ (TX6 b).2.1 := by decide +kernel
theorem tyX6_ok : ∀ k, k < 2 → parseFieldDescriptor (TX6 k).2.2.1 = some (tyX6 k) := by decide +kernel
abbrev cX6_init : ByteArray := prog_8_method_1_code
def yX6_init : MethodName := ⟨RX6, "<init>", "()V"⟩
abbrev cX6_count : ByteArray := prog_8_method_2_code
def yX6_count : MethodName := ⟨RX6, "count", "()I"⟩
abbrev cX6_forget : ByteArray := prog_8_method_3_code
def yX6_forget : MethodName := ⟨RX6, "forget", "()V"⟩
abbrev cX6_pick : ByteArray := prog_8_method_4_code
def yX6_pick : MethodName := ⟨RX6, "pick", "(I)LInputOutput$LazyList;"⟩
abbrev cX6_begin : ByteArray := prog_8_method_5_code
def yX6_begin : MethodName := ⟨RX6, "begin", "(LInputOutput$Handle;)I"⟩
def RX7 : String := "InputOutput$Script"
def TX7 : u_T := fun k => match k with
  | 0 => ("InputOutput$Script", "codes", "[I", true)
  | 1 => ("InputOutput$Script", "firsts", "[I", true)
  | 2 => ("InputOutput$Script", "seconds", "[I", true)
  | 3 => ("InputOutput$Script", "thirds", "[I", true)
  | _ => ("InputOutput$Script", "length", "I", false)
def tyX7 : Nat → FieldType := fun k => match k with
  | 0 => .array .int
  | 1 => .array .int
  | 2 => .array .int
  | 3 => .array .int
  | _ => .int
abbrev wsX70 : List Cond := u_ws RX7 TX7 5
theorem nmX7 : ∀ a, a < 5 → ∀ b, b < 5 → a ≠ b → (TX7 a).2.1 ≠ (TX7 b).2.1 := by decide +kernel
theorem tyX7_ok : ∀ k, k < 5 → parseFieldDescriptor (TX7 k).2.2.1 = some (tyX7 k) := by decide +kernel
abbrev cX7_init : ByteArray := prog_9_method_1_code
def yX7_init : MethodName := ⟨RX7, "<init>", "()V"⟩
abbrev cX7_length : ByteArray := prog_9_method_2_code
def yX7_length : MethodName := ⟨RX7, "length", "()I"⟩
abbrev cX7_forget : ByteArray := prog_9_method_3_code
def yX7_forget : MethodName := ⟨RX7, "forget", "()V"⟩
abbrev cX7_allows : ByteArray := prog_9_method_4_code
def yX7_allows : MethodName := ⟨RX7, "allows", "(IIII)Z"⟩
abbrev cX7_fits : ByteArray := prog_9_method_5_code
def yX7_fits : MethodName := ⟨RX7, "fits", "(II)Z"⟩
abbrev cX7_add : ByteArray := prog_9_method_6_code
def yX7_add : MethodName := ⟨RX7, "add", "(IIII)I"⟩
abbrev cX7_code : ByteArray := prog_9_method_7_code
def yX7_code : MethodName := ⟨RX7, "code", "(I)I"⟩
abbrev cX7_first : ByteArray := prog_9_method_8_code
def yX7_first : MethodName := ⟨RX7, "first", "(I)I"⟩
abbrev cX7_second : ByteArray := prog_9_method_9_code
def yX7_second : MethodName := ⟨RX7, "second", "(I)I"⟩
abbrev cX7_third : ByteArray := prog_9_method_10_code
def yX7_third : MethodName := ⟨RX7, "third", "(I)I"⟩
def RX8 : String := "InputOutput$Worker"
def TX8 : u_T := fun k => match k with
  | 0 => ("InputOutput$Worker", "script", "LInputOutput$Script;", true)
  | 1 => ("InputOutput$Worker", "console", "LInputOutput$Console;", true)
  | 2 => ("InputOutput$Worker", "handles", "LInputOutput$Handles;", true)
  | 3 => ("InputOutput$Worker", "lists", "LInputOutput$Lists;", true)
  | 4 => ("InputOutput$Worker", "journal", "LInputOutput$Journal;", true)
  | 5 => ("InputOutput$Worker", "variableSorts", "[I", true)
  | 6 => ("InputOutput$Worker", "variableNumbers", "[I", true)
  | 7 => ("InputOutput$Worker", "ending", "I", false)
  | 8 => ("InputOutput$Worker", "number", "I", false)
  | 9 => ("InputOutput$Worker", "culprit", "I", false)
  | _ => ("InputOutput$Worker", "steps", "I", false)
def tyX8 : Nat → FieldType := fun k => match k with
  | 0 => .object "InputOutput$Script"
  | 1 => .object "InputOutput$Console"
  | 2 => .object "InputOutput$Handles"
  | 3 => .object "InputOutput$Lists"
  | 4 => .object "InputOutput$Journal"
  | 5 => .array .int
  | 6 => .array .int
  | 7 => .int
  | 8 => .int
  | 9 => .int
  | _ => .int
abbrev wsX80 : List Cond := u_ws RX8 TX8 11
theorem nmX8 : ∀ a, a < 11 → ∀ b, b < 11 → a ≠ b → (TX8 a).2.1 ≠ (TX8 b).2.1 := by decide +kernel
theorem tyX8_ok : ∀ k, k < 11 → parseFieldDescriptor (TX8 k).2.2.1 = some (tyX8 k) := by decide +kernel
abbrev cX8_init : ByteArray := prog_10_method_1_code
def yX8_init : MethodName := ⟨RX8, "<init>", "(LInputOutput$Script;LInputOutput$Console;LInputOutput$Handles;LInputOutput$Lists;LInputOutput$Journal;)V"⟩
abbrev cX8_outcome : ByteArray := prog_10_method_2_code
def yX8_outcome : MethodName := ⟨RX8, "outcome", "()I"⟩
abbrev cX8_failedNode : ByteArray := prog_10_method_3_code
def yX8_failedNode : MethodName := ⟨RX8, "failedNode", "()I"⟩
abbrev cX8_steps : ByteArray := prog_10_method_4_code
def yX8_steps : MethodName := ⟨RX8, "steps", "()I"⟩
abbrev cX8_perform : ByteArray := prog_10_method_5_code
def yX8_perform : MethodName := ⟨RX8, "perform", "(I)I"⟩
abbrev cX8_work : ByteArray := prog_10_method_6_code
def yX8_work : MethodName := ⟨RX8, "work", "(II)Z"⟩
abbrev cX8_give : ByteArray := prog_10_method_7_code
def yX8_give : MethodName := ⟨RX8, "give", "(II)Z"⟩
abbrev cX8_fail : ByteArray := prog_10_method_8_code
def yX8_fail : MethodName := ⟨RX8, "fail", "(II)Z"⟩
abbrev cX8_stop : ByteArray := prog_10_method_9_code
def yX8_stop : MethodName := ⟨RX8, "stop", "()Z"⟩
abbrev cX8_settle : ByteArray := prog_10_method_10_code
def yX8_settle : MethodName := ⟨RX8, "settle", "(III)Z"⟩
abbrev cX8_act : ByteArray := prog_10_method_11_code
def yX8_act : MethodName := ⟨RX8, "act", "(III)Z"⟩
abbrev cX8_workToNumber : ByteArray := prog_10_method_12_code
def yX8_workToNumber : MethodName := ⟨RX8, "workToNumber", "(III)Z"⟩
abbrev cX8_workToHandle : ByteArray := prog_10_method_13_code
def yX8_workToHandle : MethodName := ⟨RX8, "workToHandle", "(III)LInputOutput$Handle;"⟩
abbrev cX8_workToList : ByteArray := prog_10_method_14_code
def yX8_workToList : MethodName := ⟨RX8, "workToList", "(III)LInputOutput$LazyList;"⟩
abbrev cX8_assign : ByteArray := prog_10_method_15_code
def yX8_assign : MethodName := ⟨RX8, "assign", "(III)V"⟩
abbrev cX8_workSet : ByteArray := prog_10_method_16_code
def yX8_workSet : MethodName := ⟨RX8, "workSet", "(II)Z"⟩
abbrev cX8_workHandle : ByteArray := prog_10_method_17_code
def yX8_workHandle : MethodName := ⟨RX8, "workHandle", "(II)Z"⟩
abbrev cX8_noteClosing : ByteArray := prog_10_method_18_code
def yX8_noteClosing : MethodName := ⟨RX8, "noteClosing", "(ILInputOutput$Handle;)V"⟩
abbrev cX8_workHandleAndNumber : ByteArray := prog_10_method_19_code
def yX8_workHandleAndNumber : MethodName := ⟨RX8, "workHandleAndNumber", "(II)Z"⟩
abbrev cX8_workItem : ByteArray := prog_10_method_20_code
def yX8_workItem : MethodName := ⟨RX8, "workItem", "(II)Z"⟩
abbrev cX8_workLength : ByteArray := prog_10_method_21_code
def yX8_workLength : MethodName := ⟨RX8, "workLength", "(II)Z"⟩
abbrev cX8_noteTimes : ByteArray := prog_10_method_22_code
def yX8_noteTimes : MethodName := ⟨RX8, "noteTimes", "(II)V"⟩
abbrev cX8_actAlone : ByteArray := prog_10_method_23_code
def yX8_actAlone : MethodName := ⟨RX8, "actAlone", "(I)Z"⟩
abbrev cX8_workNumberFirst : ByteArray := prog_10_method_24_code
def yX8_workNumberFirst : MethodName := ⟨RX8, "workNumberFirst", "(II)Z"⟩
abbrev cX8_workTimes : ByteArray := prog_10_method_25_code
def yX8_workTimes : MethodName := ⟨RX8, "workTimes", "(III)Z"⟩
abbrev cX8_workTwoNumbers : ByteArray := prog_10_method_26_code
def yX8_workTwoNumbers : MethodName := ⟨RX8, "workTwoNumbers", "(II)Z"⟩
abbrev cX8_workCatch : ByteArray := prog_10_method_27_code
def yX8_workCatch : MethodName := ⟨RX8, "workCatch", "(II)Z"⟩
abbrev cX8_workBracket : ByteArray := prog_10_method_28_code
def yX8_workBracket : MethodName := ⟨RX8, "workBracket", "(II)Z"⟩
abbrev cX8_workEnd : ByteArray := prog_10_method_29_code
def yX8_workEnd : MethodName := ⟨RX8, "workEnd", "(II)Z"⟩
def RX9 : String := "InputOutput"
def TX9 : u_T := fun k => match k with
  | 0 => ("InputOutput", "disk", "LInputOutput$Disk;", true)
  | 1 => ("InputOutput", "console", "LInputOutput$Console;", true)
  | 2 => ("InputOutput", "script", "LInputOutput$Script;", true)
  | 3 => ("InputOutput", "handles", "LInputOutput$Handles;", true)
  | 4 => ("InputOutput", "lists", "LInputOutput$Lists;", true)
  | 5 => ("InputOutput", "journal", "LInputOutput$Journal;", true)
  | _ => ("InputOutput", "worker", "LInputOutput$Worker;", true)
def tyX9 : Nat → FieldType := fun k => match k with
  | 0 => .object "InputOutput$Disk"
  | 1 => .object "InputOutput$Console"
  | 2 => .object "InputOutput$Script"
  | 3 => .object "InputOutput$Handles"
  | 4 => .object "InputOutput$Lists"
  | 5 => .object "InputOutput$Journal"
  | _ => .object "InputOutput$Worker"
abbrev wsX90 : List Cond := u_ws RX9 TX9 7
theorem nmX9 : ∀ a, a < 7 → ∀ b, b < 7 → a ≠ b → (TX9 a).2.1 ≠ (TX9 b).2.1 := by decide +kernel
theorem tyX9_ok : ∀ k, k < 7 → parseFieldDescriptor (TX9 k).2.2.1 = some (tyX9 k) := by decide +kernel
abbrev cX9_init : ByteArray := prog_1_method_1_code
def yX9_init : MethodName := ⟨RX9, "<init>", "()V"⟩
abbrev cX9_lay : ByteArray := prog_1_method_2_code
def yX9_lay : MethodName := ⟨RX9, "lay", "(II)I"⟩
abbrev cX9_there : ByteArray := prog_1_method_3_code
def yX9_there : MethodName := ⟨RX9, "there", "(IZ)I"⟩
abbrev cX9_permit : ByteArray := prog_1_method_4_code
def yX9_permit : MethodName := ⟨RX9, "permit", "(II)I"⟩
abbrev cX9_input : ByteArray := prog_1_method_5_code
def yX9_input : MethodName := ⟨RX9, "input", "(I)I"⟩
abbrev cX9_node : ByteArray := prog_1_method_6_code
def yX9_node : MethodName := ⟨RX9, "node", "(IIII)I"⟩
abbrev cX9_clear : ByteArray := prog_1_method_7_code
def yX9_clear : MethodName := ⟨RX9, "clear", "()I"⟩
abbrev cX9_run : ByteArray := prog_1_method_8_code
def yX9_run : MethodName := ⟨RX9, "run", "(I)I"⟩
abbrev cX9_value : ByteArray := prog_1_method_9_code
def yX9_value : MethodName := ⟨RX9, "value", "()I"⟩
abbrev cX9_where : ByteArray := prog_1_method_10_code
def yX9_where : MethodName := ⟨RX9, "where", "()I"⟩
abbrev cX9_worked : ByteArray := prog_1_method_11_code
def yX9_worked : MethodName := ⟨RX9, "worked", "()I"⟩
abbrev cX9_order : ByteArray := prog_1_method_12_code
def yX9_order : MethodName := ⟨RX9, "order", "(I)I"⟩
abbrev cX9_handle : ByteArray := prog_1_method_13_code
def yX9_handle : MethodName := ⟨RX9, "handle", "(II)I"⟩
abbrev cX9_content : ByteArray := prog_1_method_14_code
def yX9_content : MethodName := ⟨RX9, "content", "(II)I"⟩
abbrev cX9_size : ByteArray := prog_1_method_15_code
def yX9_size : MethodName := ⟨RX9, "size", "(I)I"⟩
abbrev cX9_printed : ByteArray := prog_1_method_16_code
def yX9_printed : MethodName := ⟨RX9, "printed", "(I)I"⟩
abbrev cX9_told : ByteArray := prog_1_method_17_code
def yX9_told : MethodName := ⟨RX9, "told", "(I)I"⟩
abbrev cX9_within : ByteArray := prog_1_method_18_code
def yX9_within : MethodName := ⟨RX9, "within", "(II)Z"⟩
abbrev cX9_mayTake : ByteArray := prog_1_method_19_code
def yX9_mayTake : MethodName := ⟨RX9, "mayTake", "(I)Z"⟩
abbrev cX9_turned : ByteArray := prog_1_method_20_code
def yX9_turned : MethodName := ⟨RX9, "turned", "(I)I"⟩
def RX10 : String := "InputOutputModel"
def TX10 : u_T := fun k => match k with
  | 0 => ("InputOutputModel", "isThere", "[Z", true)
  | 1 => ("InputOutputModel", "bytes", "[I", true)
  | 2 => ("InputOutputModel", "content", "[B", true)
  | 3 => ("InputOutputModel", "permits", "[I", true)
  | 4 => ("InputOutputModel", "inputs", "I", false)
  | 5 => ("InputOutputModel", "nextInput", "I", false)
  | 6 => ("InputOutputModel", "input", "[B", true)
  | 7 => ("InputOutputModel", "outputs", "I", false)
  | 8 => ("InputOutputModel", "output", "[B", true)
  | 9 => ("InputOutputModel", "nodes", "I", false)
  | 10 => ("InputOutputModel", "code", "[I", true)
  | 11 => ("InputOutputModel", "a", "[I", true)
  | 12 => ("InputOutputModel", "b", "[I", true)
  | 13 => ("InputOutputModel", "c", "[I", true)
  | 14 => ("InputOutputModel", "variableSort", "[I", true)
  | 15 => ("InputOutputModel", "variable", "[I", true)
  | 16 => ("InputOutputModel", "handles", "I", false)
  | 17 => ("InputOutputModel", "file", "[I", true)
  | 18 => ("InputOutputModel", "mode", "[I", true)
  | 19 => ("InputOutputModel", "place", "[I", true)
  | 20 => ("InputOutputModel", "state", "[I", true)
  | 21 => ("InputOutputModel", "ended", "[I", true)
  | 22 => ("InputOutputModel", "buffer", "[I", true)
  | 23 => ("InputOutputModel", "waiting", "[I", true)
  | 24 => ("InputOutputModel", "waits", "[B", true)
  | 25 => ("InputOutputModel", "put", "[I", true)
  | 26 => ("InputOutputModel", "taken", "[I", true)
  | 27 => ("InputOutputModel", "laid", "[I", true)
  | 28 => ("InputOutputModel", "lists", "I", false)
  | 29 => ("InputOutputModel", "listHandle", "[I", true)
  | 30 => ("InputOutputModel", "items", "[I", true)
  | 31 => ("InputOutputModel", "item", "[B", true)
  | 32 => ("InputOutputModel", "isEnded", "[Z", true)
  | 33 => ("InputOutputModel", "orders", "I", false)
  | 34 => ("InputOutputModel", "order", "[I", true)
  | 35 => ("InputOutputModel", "worked", "I", false)
  | 36 => ("InputOutputModel", "value", "I", false)
  | 37 => ("InputOutputModel", "where", "I", false)
  | 38 => ("InputOutputModel", "pile", "I", false)
  | 39 => ("InputOutputModel", "node", "[I", true)
  | 40 => ("InputOutputModel", "step", "[I", true)
  | 41 => ("InputOutputModel", "kept", "[I", true)
  | 42 => ("InputOutputModel", "keptSort", "[I", true)
  | 43 => ("InputOutputModel", "going", "[I", true)
  | 44 => ("InputOutputModel", "goingWith", "[I", true)
  | 45 => ("InputOutputModel", "goingWhere", "[I", true)
  | 46 => ("InputOutputModel", "sort", "I", false)
  | 47 => ("InputOutputModel", "last", "I", false)
  | 48 => ("InputOutputModel", "goes", "I", false)
  | 49 => ("InputOutputModel", "goesWith", "I", false)
  | 50 => ("InputOutputModel", "goesWhere", "I", false)
  | 51 => ("InputOutputModel", "came", "[I", true)
  | _ => ("InputOutputModel", "cameSort", "[I", true)
def tyX10 : Nat → FieldType := fun k => match k with
  | 0 => .array .boolean
  | 1 => .array .int
  | 2 => .array .byte
  | 3 => .array .int
  | 4 => .int
  | 5 => .int
  | 6 => .array .byte
  | 7 => .int
  | 8 => .array .byte
  | 9 => .int
  | 10 => .array .int
  | 11 => .array .int
  | 12 => .array .int
  | 13 => .array .int
  | 14 => .array .int
  | 15 => .array .int
  | 16 => .int
  | 17 => .array .int
  | 18 => .array .int
  | 19 => .array .int
  | 20 => .array .int
  | 21 => .array .int
  | 22 => .array .int
  | 23 => .array .int
  | 24 => .array .byte
  | 25 => .array .int
  | 26 => .array .int
  | 27 => .array .int
  | 28 => .int
  | 29 => .array .int
  | 30 => .array .int
  | 31 => .array .byte
  | 32 => .array .boolean
  | 33 => .int
  | 34 => .array .int
  | 35 => .int
  | 36 => .int
  | 37 => .int
  | 38 => .int
  | 39 => .array .int
  | 40 => .array .int
  | 41 => .array .int
  | 42 => .array .int
  | 43 => .array .int
  | 44 => .array .int
  | 45 => .array .int
  | 46 => .int
  | 47 => .int
  | 48 => .int
  | 49 => .int
  | 50 => .int
  | 51 => .array .int
  | _ => .array .int
abbrev wsX100 : List Cond := u_ws RX10 TX10 53
theorem nmX10 : ∀ a, a < 53 → ∀ b, b < 53 → a ≠ b → (TX10 a).2.1 ≠ (TX10 b).2.1 := by decide +kernel
theorem tyX10_ok : ∀ k, k < 53 → parseFieldDescriptor (TX10 k).2.2.1 = some (tyX10 k) := by decide +kernel
abbrev cX10_init : ByteArray := prog_12_method_1_code
def yX10_init : MethodName := ⟨RX10, "<init>", "()V"⟩
abbrev cX10_in : ByteArray := prog_12_method_2_code
def yX10_in : MethodName := ⟨RX10, "in", "(III)Z"⟩
abbrev cX10_allBytes : ByteArray := prog_12_method_3_code
def yX10_allBytes : MethodName := ⟨RX10, "allBytes", "()I"⟩
abbrev cX10_lay : ByteArray := prog_12_method_4_code
def yX10_lay : MethodName := ⟨RX10, "lay", "(II)I"⟩
abbrev cX10_there : ByteArray := prog_12_method_5_code
def yX10_there : MethodName := ⟨RX10, "there", "(IZ)I"⟩
abbrev cX10_permit : ByteArray := prog_12_method_6_code
def yX10_permit : MethodName := ⟨RX10, "permit", "(II)I"⟩
abbrev cX10_input : ByteArray := prog_12_method_7_code
def yX10_input : MethodName := ⟨RX10, "input", "(I)I"⟩
abbrev cX10_isNode : ByteArray := prog_12_method_8_code
def yX10_isNode : MethodName := ⟨RX10, "isNode", "(I)Z"⟩
abbrev cX10_areParts : ByteArray := prog_12_method_9_code
def yX10_areParts : MethodName := ⟨RX10, "areParts", "(IIII)Z"⟩
abbrev cX10_node : ByteArray := prog_12_method_10_code
def yX10_node : MethodName := ⟨RX10, "node", "(IIII)I"⟩
abbrev cX10_clear : ByteArray := prog_12_method_11_code
def yX10_clear : MethodName := ⟨RX10, "clear", "()I"⟩
abbrev cX10_isHeld : ByteArray := prog_12_method_12_code
def yX10_isHeld : MethodName := ⟨RX10, "isHeld", "(I)Z"⟩
abbrev cX10_isHeldToWrite : ByteArray := prog_12_method_13_code
def yX10_isHeldToWrite : MethodName := ⟨RX10, "isHeldToWrite", "(I)Z"⟩
abbrev cX10_note : ByteArray := prog_12_method_14_code
def yX10_note : MethodName := ⟨RX10, "note", "(I)V"⟩
abbrev cX10_flush : ByteArray := prog_12_method_15_code
def yX10_flush : MethodName := ⟨RX10, "flush", "(I)Z"⟩
abbrev cX10_openRefused : ByteArray := prog_12_method_16_code
def yX10_openRefused : MethodName := ⟨RX10, "openRefused", "(II)I"⟩
abbrev cX10_opens : ByteArray := prog_12_method_17_code
def yX10_opens : MethodName := ⟨RX10, "opens", "(I)V"⟩
abbrev cX10_remove : ByteArray := prog_12_method_18_code
def yX10_remove : MethodName := ⟨RX10, "remove", "(I)V"⟩
abbrev cX10_rename : ByteArray := prog_12_method_19_code
def yX10_rename : MethodName := ⟨RX10, "rename", "(I)V"⟩
abbrev cX10_gives : ByteArray := prog_12_method_20_code
def yX10_gives : MethodName := ⟨RX10, "gives", "(II)V"⟩
abbrev cX10_fails : ByteArray := prog_12_method_21_code
def yX10_fails : MethodName := ⟨RX10, "fails", "(II)V"⟩
abbrev cX10_begin : ByteArray := prog_12_method_22_code
def yX10_begin : MethodName := ⟨RX10, "begin", "(I)V"⟩
abbrev cX10_isSort : ByteArray := prog_12_method_23_code
def yX10_isSort : MethodName := ⟨RX10, "isSort", "(II)Z"⟩
abbrev cX10_isOpen : ByteArray := prog_12_method_24_code
def yX10_isOpen : MethodName := ⟨RX10, "isOpen", "(II)Z"⟩
abbrev cX10_work : ByteArray := prog_12_method_25_code
def yX10_work : MethodName := ⟨RX10, "work", "()V"⟩
abbrev cX10_go : ByteArray := prog_12_method_26_code
def yX10_go : MethodName := ⟨RX10, "go", "(II)V"⟩
abbrev cX10_goTexts : ByteArray := prog_12_method_27_code
def yX10_goTexts : MethodName := ⟨RX10, "goTexts", "(III)V"⟩
abbrev cX10_goPlain : ByteArray := prog_12_method_28_code
def yX10_goPlain : MethodName := ⟨RX10, "goPlain", "(IIII)V"⟩
abbrev cX10_goTimes : ByteArray := prog_12_method_29_code
def yX10_goTimes : MethodName := ⟨RX10, "goTimes", "(III)V"⟩
abbrev cX10_goHandles : ByteArray := prog_12_method_30_code
def yX10_goHandles : MethodName := ⟨RX10, "goHandles", "(IIII)V"⟩
abbrev cX10_pair : ByteArray := prog_12_method_31_code
def yX10_pair : MethodName := ⟨RX10, "pair", "(IIII)V"⟩
abbrev cX10_close : ByteArray := prog_12_method_32_code
def yX10_close : MethodName := ⟨RX10, "close", "(II)V"⟩
abbrev cX10_seek : ByteArray := prog_12_method_33_code
def yX10_seek : MethodName := ⟨RX10, "seek", "(III)V"⟩
abbrev cX10_putByte : ByteArray := prog_12_method_34_code
def yX10_putByte : MethodName := ⟨RX10, "putByte", "(III)V"⟩
abbrev cX10_take : ByteArray := prog_12_method_35_code
def yX10_take : MethodName := ⟨RX10, "take", "(II)V"⟩
abbrev cX10_opened : ByteArray := prog_12_method_36_code
def yX10_opened : MethodName := ⟨RX10, "opened", "(III)V"⟩
abbrev cX10_list : ByteArray := prog_12_method_37_code
def yX10_list : MethodName := ⟨RX10, "list", "(III)V"⟩
abbrev cX10_goEnds : ByteArray := prog_12_method_38_code
def yX10_goEnds : MethodName := ⟨RX10, "goEnds", "(IIII)V"⟩
abbrev cX10_goFinally : ByteArray := prog_12_method_39_code
def yX10_goFinally : MethodName := ⟨RX10, "goFinally", "(III)V"⟩
abbrev cX10_goOn : ByteArray := prog_12_method_40_code
def yX10_goOn : MethodName := ⟨RX10, "goOn", "(III)V"⟩
abbrev cX10_goBracket : ByteArray := prog_12_method_41_code
def yX10_goBracket : MethodName := ⟨RX10, "goBracket", "(III)V"⟩
abbrev cX10_unwind : ByteArray := prog_12_method_42_code
def yX10_unwind : MethodName := ⟨RX10, "unwind", "(I)V"⟩
abbrev cX10_run : ByteArray := prog_12_method_43_code
def yX10_run : MethodName := ⟨RX10, "run", "(I)I"⟩
abbrev cX10_value : ByteArray := prog_12_method_44_code
def yX10_value : MethodName := ⟨RX10, "value", "()I"⟩
abbrev cX10_where : ByteArray := prog_12_method_45_code
def yX10_where : MethodName := ⟨RX10, "where", "()I"⟩
abbrev cX10_worked : ByteArray := prog_12_method_46_code
def yX10_worked : MethodName := ⟨RX10, "worked", "()I"⟩
abbrev cX10_order : ByteArray := prog_12_method_47_code
def yX10_order : MethodName := ⟨RX10, "order", "(I)I"⟩
abbrev cX10_handle : ByteArray := prog_12_method_48_code
def yX10_handle : MethodName := ⟨RX10, "handle", "(II)I"⟩
abbrev cX10_content : ByteArray := prog_12_method_49_code
def yX10_content : MethodName := ⟨RX10, "content", "(II)I"⟩
abbrev cX10_size : ByteArray := prog_12_method_50_code
def yX10_size : MethodName := ⟨RX10, "size", "(I)I"⟩
abbrev cX10_printed : ByteArray := prog_12_method_51_code
def yX10_printed : MethodName := ⟨RX10, "printed", "(I)I"⟩
abbrev cX10_told : ByteArray := prog_12_method_52_code
def yX10_told : MethodName := ⟨RX10, "told", "(I)I"⟩
def RJ9 : String := "java/lang/Math"
def TJ9 : u_T := fun k => match k with
  | _ => ("", "", "", false)
def tyJ9 : Nat → FieldType := fun k => match k with
  | _ => .int
abbrev cJ9_min_7cf53 : ByteArray := prog_13_method_69_code
def yJ9_min_7cf53 : MethodName := ⟨RJ9, "min", "(II)I"⟩
def RJ10 : String := "java/lang/System"
def TJ10 : u_T := fun k => match k with
  | _ => ("", "", "", false)
def tyJ10 : Nat → FieldType := fun k => match k with
  | _ => .int
def RJ7 : String := "java/util/Arrays"
def TJ7 : u_T := fun k => match k with
  | _ => ("", "", "", false)
def tyJ7 : Nat → FieldType := fun k => match k with
  | _ => .int
abbrev cJ7_fill_53178 : ByteArray := prog_15_method_103_code
def yJ7_fill_53178 : MethodName := ⟨RJ7, "fill", "([II)V"⟩
def RL : String := "InputOutputLaw"
abbrev cL_law : ByteArray := code
def yL_law : MethodName := ⟨RL, "law", "([I)Z"⟩
abbrev vwCl : List vw_C := [(RX0, TX0, 5), (RX1, TX1, 5), (RX2, TX2, 11), (RX3, TX3, 3), (RX4, TX4, 2), (RX5, TX5, 3), (RX6, TX6, 2), (RX7, TX7, 5), (RX8, TX8, 11), (RX9, TX9, 7), (RX10, TX10, 53)]
