section
-- ===== PART A: goes FIRST, ahead of the names: the tables' words, and 'selects' of the private methods out of them =====
/-- a private method of a class that the tables say can be made, by its rows of tables_1 -/
def lw_okq (q : MethodName × Nat) : Prop := (q.1.cls ≠ "java/lang/invoke/MethodHandle" ∧ q.1.cls ≠ "java/lang/invoke/VarHandle") ∧ Cond.instantiable q.1.cls q.2 ∈ tables_1 ∧ Cond.privateMethod q.1 ∈ tables_1 ∧ Cond.instanceMethod q.1 ∈ tables_1
theorem lw_p0 : lw_okq (⟨"PulseNet$Frame", "clear", "()V"⟩, 9) := ⟨⟨by decide +kernel, by decide +kernel⟩, List.mem_of_getElem? (i := 60) (by decide +kernel), List.mem_of_getElem? (i := 284) (by decide +kernel), List.mem_of_getElem? (i := 285) (by decide +kernel)⟩
theorem lw_p1 : lw_okq (⟨"PulseNet$Frame", "standAlone", "(LPulseNet$Net;)V"⟩, 9) := ⟨⟨by decide +kernel, by decide +kernel⟩, List.mem_of_getElem? (i := 60) (by decide +kernel), List.mem_of_getElem? (i := 289) (by decide +kernel), List.mem_of_getElem? (i := 290) (by decide +kernel)⟩
theorem lw_p2 : lw_okq (⟨"PulseNet$Frame", "growTree", "(LPulseNet$Net;II)V"⟩, 9) := ⟨⟨by decide +kernel, by decide +kernel⟩, List.mem_of_getElem? (i := 60) (by decide +kernel), List.mem_of_getElem? (i := 294) (by decide +kernel), List.mem_of_getElem? (i := 295) (by decide +kernel)⟩
theorem lw_p3 : lw_okq (⟨"PulseNet$Frame", "hang", "(LPulseNet$Net;III)V"⟩, 9) := ⟨⟨by decide +kernel, by decide +kernel⟩, List.mem_of_getElem? (i := 60) (by decide +kernel), List.mem_of_getElem? (i := 299) (by decide +kernel), List.mem_of_getElem? (i := 300) (by decide +kernel)⟩
theorem lw_p4 : lw_okq (⟨"PulseNet$Frame", "makeClusters", "(LPulseNet$Net;I)V"⟩, 9) := ⟨⟨by decide +kernel, by decide +kernel⟩, List.mem_of_getElem? (i := 60) (by decide +kernel), List.mem_of_getElem? (i := 303) (by decide +kernel), List.mem_of_getElem? (i := 304) (by decide +kernel)⟩
theorem lw_p5 : lw_okq (⟨"PulseNet$Frame", "chooseLinks", "(LPulseNet$Net;)V"⟩, 9) := ⟨⟨by decide +kernel, by decide +kernel⟩, List.mem_of_getElem? (i := 60) (by decide +kernel), List.mem_of_getElem? (i := 317) (by decide +kernel), List.mem_of_getElem? (i := 318) (by decide +kernel)⟩
theorem lw_p6 : lw_okq (⟨"PulseNet$Frame", "choose", "(II)V"⟩, 9) := ⟨⟨by decide +kernel, by decide +kernel⟩, List.mem_of_getElem? (i := 60) (by decide +kernel), List.mem_of_getElem? (i := 321) (by decide +kernel), List.mem_of_getElem? (i := 322) (by decide +kernel)⟩
theorem lw_p7 : lw_okq (⟨"PulseNet$Play", "firstValue", "(LPulseNet$Net;I)I"⟩, 5) := ⟨⟨by decide +kernel, by decide +kernel⟩, List.mem_of_getElem? (i := 102) (by decide +kernel), List.mem_of_getElem? (i := 334) (by decide +kernel), List.mem_of_getElem? (i := 335) (by decide +kernel)⟩
theorem lw_p8 : lw_okq (⟨"PulseNet$Course", "goInStep", "()V"⟩, 16) := ⟨⟨by decide +kernel, by decide +kernel⟩, List.mem_of_getElem? (i := 21) (by decide +kernel), List.mem_of_getElem? (i := 338) (by decide +kernel), List.mem_of_getElem? (i := 339) (by decide +kernel)⟩
theorem lw_p9 : lw_okq (⟨"PulseNet$Play", "firstNote", "(LPulseNet$Net;I)I"⟩, 5) := ⟨⟨by decide +kernel, by decide +kernel⟩, List.mem_of_getElem? (i := 102) (by decide +kernel), List.mem_of_getElem? (i := 350) (by decide +kernel), List.mem_of_getElem? (i := 351) (by decide +kernel)⟩
theorem lw_p10 : lw_okq (⟨"PulseNet$Play", "laterNote", "(LPulseNet$Net;III)I"⟩, 5) := ⟨⟨by decide +kernel, by decide +kernel⟩, List.mem_of_getElem? (i := 102) (by decide +kernel), List.mem_of_getElem? (i := 354) (by decide +kernel), List.mem_of_getElem? (i := 355) (by decide +kernel)⟩
theorem lw_p11 : lw_okq (⟨"PulseNet$Play", "takeWave", "(II)I"⟩, 5) := ⟨⟨by decide +kernel, by decide +kernel⟩, List.mem_of_getElem? (i := 102) (by decide +kernel), List.mem_of_getElem? (i := 358) (by decide +kernel), List.mem_of_getElem? (i := 359) (by decide +kernel)⟩
theorem lw_p12 : lw_okq (⟨"PulseNet$Play", "takeGreatest", "(II)I"⟩, 5) := ⟨⟨by decide +kernel, by decide +kernel⟩, List.mem_of_getElem? (i := 102) (by decide +kernel), List.mem_of_getElem? (i := 362) (by decide +kernel), List.mem_of_getElem? (i := 363) (by decide +kernel)⟩
theorem lw_p13 : lw_okq (⟨"PulseNet$Play", "tryIn", "(LPulseNet$Net;II)I"⟩, 5) := ⟨⟨by decide +kernel, by decide +kernel⟩, List.mem_of_getElem? (i := 102) (by decide +kernel), List.mem_of_getElem? (i := 366) (by decide +kernel), List.mem_of_getElem? (i := 367) (by decide +kernel)⟩
theorem lw_p14 : lw_okq (⟨"PulseNet$Play", "tryOut", "(LPulseNet$Net;II)I"⟩, 5) := ⟨⟨by decide +kernel, by decide +kernel⟩, List.mem_of_getElem? (i := 102) (by decide +kernel), List.mem_of_getElem? (i := 370) (by decide +kernel), List.mem_of_getElem? (i := 371) (by decide +kernel)⟩
theorem lw_p15 : lw_okq (⟨"PulseNet$Play", "takeLengths", "(LPulseNet$Net;II)I"⟩, 5) := ⟨⟨by decide +kernel, by decide +kernel⟩, List.mem_of_getElem? (i := 102) (by decide +kernel), List.mem_of_getElem? (i := 374) (by decide +kernel), List.mem_of_getElem? (i := 375) (by decide +kernel)⟩
def lw_privs_1 : List (MethodName × Nat) := [(⟨"PulseNet$Frame", "clear", "()V"⟩, 9), (⟨"PulseNet$Frame", "standAlone", "(LPulseNet$Net;)V"⟩, 9), (⟨"PulseNet$Frame", "growTree", "(LPulseNet$Net;II)V"⟩, 9), (⟨"PulseNet$Frame", "hang", "(LPulseNet$Net;III)V"⟩, 9), (⟨"PulseNet$Frame", "makeClusters", "(LPulseNet$Net;I)V"⟩, 9), (⟨"PulseNet$Frame", "chooseLinks", "(LPulseNet$Net;)V"⟩, 9), (⟨"PulseNet$Frame", "choose", "(II)V"⟩, 9), (⟨"PulseNet$Play", "firstValue", "(LPulseNet$Net;I)I"⟩, 5), (⟨"PulseNet$Course", "goInStep", "()V"⟩, 16), (⟨"PulseNet$Play", "firstNote", "(LPulseNet$Net;I)I"⟩, 5), (⟨"PulseNet$Play", "laterNote", "(LPulseNet$Net;III)I"⟩, 5), (⟨"PulseNet$Play", "takeWave", "(II)I"⟩, 5), (⟨"PulseNet$Play", "takeGreatest", "(II)I"⟩, 5), (⟨"PulseNet$Play", "tryIn", "(LPulseNet$Net;II)I"⟩, 5), (⟨"PulseNet$Play", "tryOut", "(LPulseNet$Net;II)I"⟩, 5), (⟨"PulseNet$Play", "takeLengths", "(LPulseNet$Net;II)I"⟩, 5)]
theorem lw_r1 : ∀ q ∈ lw_privs_1, lw_okq q := List.forall_mem_cons.mpr ⟨lw_p0, List.forall_mem_cons.mpr ⟨lw_p1, List.forall_mem_cons.mpr ⟨lw_p2, List.forall_mem_cons.mpr ⟨lw_p3, List.forall_mem_cons.mpr ⟨lw_p4, List.forall_mem_cons.mpr ⟨lw_p5, List.forall_mem_cons.mpr ⟨lw_p6, List.forall_mem_cons.mpr ⟨lw_p7, List.forall_mem_cons.mpr ⟨lw_p8, List.forall_mem_cons.mpr ⟨lw_p9, List.forall_mem_cons.mpr ⟨lw_p10, List.forall_mem_cons.mpr ⟨lw_p11, List.forall_mem_cons.mpr ⟨lw_p12, List.forall_mem_cons.mpr ⟨lw_p13, List.forall_mem_cons.mpr ⟨lw_p14, List.forall_mem_cons.mpr ⟨lw_p15, fun _ h => absurd h List.not_mem_nil⟩⟩⟩⟩⟩⟩⟩⟩⟩⟩⟩⟩⟩⟩⟩⟩
theorem lw_p16 : lw_okq (⟨"PulseNet$Course", "handOut", "(III)V"⟩, 16) := ⟨⟨by decide +kernel, by decide +kernel⟩, List.mem_of_getElem? (i := 21) (by decide +kernel), List.mem_of_getElem? (i := 379) (by decide +kernel), List.mem_of_getElem? (i := 380) (by decide +kernel)⟩
theorem lw_p17 : lw_okq (⟨"PulseNet$Course", "clear", "()V"⟩, 16) := ⟨⟨by decide +kernel, by decide +kernel⟩, List.mem_of_getElem? (i := 21) (by decide +kernel), List.mem_of_getElem? (i := 388) (by decide +kernel), List.mem_of_getElem? (i := 389) (by decide +kernel)⟩
theorem lw_p18 : lw_okq (⟨"PulseNet$Course", "enterNext", "(I)V"⟩, 16) := ⟨⟨by decide +kernel, by decide +kernel⟩, List.mem_of_getElem? (i := 21) (by decide +kernel), List.mem_of_getElem? (i := 393) (by decide +kernel), List.mem_of_getElem? (i := 394) (by decide +kernel)⟩
theorem lw_p19 : lw_okq (⟨"PulseNet$Course", "send", "(IIIII)V"⟩, 16) := ⟨⟨by decide +kernel, by decide +kernel⟩, List.mem_of_getElem? (i := 21) (by decide +kernel), List.mem_of_getElem? (i := 397) (by decide +kernel), List.mem_of_getElem? (i := 398) (by decide +kernel)⟩
theorem lw_p20 : lw_okq (⟨"PulseNet$Course", "push", "(I)V"⟩, 16) := ⟨⟨by decide +kernel, by decide +kernel⟩, List.mem_of_getElem? (i := 21) (by decide +kernel), List.mem_of_getElem? (i := 406) (by decide +kernel), List.mem_of_getElem? (i := 407) (by decide +kernel)⟩
theorem lw_p21 : lw_okq (⟨"PulseNet$Course", "keepWithAll", "(I)Z"⟩, 16) := ⟨⟨by decide +kernel, by decide +kernel⟩, List.mem_of_getElem? (i := 21) (by decide +kernel), List.mem_of_getElem? (i := 410) (by decide +kernel), List.mem_of_getElem? (i := 411) (by decide +kernel)⟩
theorem lw_p22 : lw_okq (⟨"PulseNet$Course", "hasAllSafes", "(I)Z"⟩, 16) := ⟨⟨by decide +kernel, by decide +kernel⟩, List.mem_of_getElem? (i := 21) (by decide +kernel), List.mem_of_getElem? (i := 418) (by decide +kernel), List.mem_of_getElem? (i := 419) (by decide +kernel)⟩
theorem lw_p23 : lw_okq (⟨"PulseNet$Course", "keepInTree", "(I)Z"⟩, 16) := ⟨⟨by decide +kernel, by decide +kernel⟩, List.mem_of_getElem? (i := 21) (by decide +kernel), List.mem_of_getElem? (i := 422) (by decide +kernel), List.mem_of_getElem? (i := 423) (by decide +kernel)⟩
theorem lw_p24 : lw_okq (⟨"PulseNet$Course", "hasAllBelow", "([II)Z"⟩, 16) := ⟨⟨by decide +kernel, by decide +kernel⟩, List.mem_of_getElem? (i := 21) (by decide +kernel), List.mem_of_getElem? (i := 426) (by decide +kernel), List.mem_of_getElem? (i := 427) (by decide +kernel)⟩
theorem lw_p25 : lw_okq (⟨"PulseNet$Course", "isLeader", "(I)Z"⟩, 16) := ⟨⟨by decide +kernel, by decide +kernel⟩, List.mem_of_getElem? (i := 21) (by decide +kernel), List.mem_of_getElem? (i := 430) (by decide +kernel), List.mem_of_getElem? (i := 431) (by decide +kernel)⟩
theorem lw_p26 : lw_okq (⟨"PulseNet$Course", "keepInClusters", "(I)Z"⟩, 16) := ⟨⟨by decide +kernel, by decide +kernel⟩, List.mem_of_getElem? (i := 21) (by decide +kernel), List.mem_of_getElem? (i := 434) (by decide +kernel), List.mem_of_getElem? (i := 435) (by decide +kernel)⟩
theorem lw_p27 : lw_okq (⟨"PulseNet$Course", "spreadFirm", "(I)V"⟩, 16) := ⟨⟨by decide +kernel, by decide +kernel⟩, List.mem_of_getElem? (i := 21) (by decide +kernel), List.mem_of_getElem? (i := 438) (by decide +kernel), List.mem_of_getElem? (i := 439) (by decide +kernel)⟩
theorem lw_p28 : lw_okq (⟨"PulseNet", "hasLetter", "(I)Z"⟩, 2) := ⟨⟨by decide +kernel, by decide +kernel⟩, List.mem_of_getElem? (i := 13) (by decide +kernel), List.mem_of_getElem? (i := 446) (by decide +kernel), List.mem_of_getElem? (i := 447) (by decide +kernel)⟩
theorem lw_p29 : lw_okq (⟨"PulseNet$Pool", "closeGap", "([II)V"⟩, 6) := ⟨⟨by decide +kernel, by decide +kernel⟩, List.mem_of_getElem? (i := 127) (by decide +kernel), List.mem_of_getElem? (i := 458) (by decide +kernel), List.mem_of_getElem? (i := 459) (by decide +kernel)⟩
theorem lw_p30 : lw_okq (⟨"PulseNet", "hasRound", "(II)Z"⟩, 2) := ⟨⟨by decide +kernel, by decide +kernel⟩, List.mem_of_getElem? (i := 13) (by decide +kernel), List.mem_of_getElem? (i := 481) (by decide +kernel), List.mem_of_getElem? (i := 482) (by decide +kernel)⟩
theorem lw_p31 : lw_okq (⟨"PulseNetModel", "noNode", "(I)Z"⟩, 35) := ⟨⟨by decide +kernel, by decide +kernel⟩, List.mem_of_getElem? (i := 525) (by decide +kernel), List.mem_of_getElem? (i := 647) (by decide +kernel), List.mem_of_getElem? (i := 648) (by decide +kernel)⟩
def lw_privs_2 : List (MethodName × Nat) := [(⟨"PulseNet$Course", "handOut", "(III)V"⟩, 16), (⟨"PulseNet$Course", "clear", "()V"⟩, 16), (⟨"PulseNet$Course", "enterNext", "(I)V"⟩, 16), (⟨"PulseNet$Course", "send", "(IIIII)V"⟩, 16), (⟨"PulseNet$Course", "push", "(I)V"⟩, 16), (⟨"PulseNet$Course", "keepWithAll", "(I)Z"⟩, 16), (⟨"PulseNet$Course", "hasAllSafes", "(I)Z"⟩, 16), (⟨"PulseNet$Course", "keepInTree", "(I)Z"⟩, 16), (⟨"PulseNet$Course", "hasAllBelow", "([II)Z"⟩, 16), (⟨"PulseNet$Course", "isLeader", "(I)Z"⟩, 16), (⟨"PulseNet$Course", "keepInClusters", "(I)Z"⟩, 16), (⟨"PulseNet$Course", "spreadFirm", "(I)V"⟩, 16), (⟨"PulseNet", "hasLetter", "(I)Z"⟩, 2), (⟨"PulseNet$Pool", "closeGap", "([II)V"⟩, 6), (⟨"PulseNet", "hasRound", "(II)Z"⟩, 2), (⟨"PulseNetModel", "noNode", "(I)Z"⟩, 35)]
theorem lw_r2 : ∀ q ∈ lw_privs_2, lw_okq q := List.forall_mem_cons.mpr ⟨lw_p16, List.forall_mem_cons.mpr ⟨lw_p17, List.forall_mem_cons.mpr ⟨lw_p18, List.forall_mem_cons.mpr ⟨lw_p19, List.forall_mem_cons.mpr ⟨lw_p20, List.forall_mem_cons.mpr ⟨lw_p21, List.forall_mem_cons.mpr ⟨lw_p22, List.forall_mem_cons.mpr ⟨lw_p23, List.forall_mem_cons.mpr ⟨lw_p24, List.forall_mem_cons.mpr ⟨lw_p25, List.forall_mem_cons.mpr ⟨lw_p26, List.forall_mem_cons.mpr ⟨lw_p27, List.forall_mem_cons.mpr ⟨lw_p28, List.forall_mem_cons.mpr ⟨lw_p29, List.forall_mem_cons.mpr ⟨lw_p30, List.forall_mem_cons.mpr ⟨lw_p31, fun _ h => absurd h List.not_mem_nil⟩⟩⟩⟩⟩⟩⟩⟩⟩⟩⟩⟩⟩⟩⟩⟩
theorem lw_p32 : lw_okq (⟨"PulseNetModel", "isLink", "(II)Z"⟩, 35) := ⟨⟨by decide +kernel, by decide +kernel⟩, List.mem_of_getElem? (i := 525) (by decide +kernel), List.mem_of_getElem? (i := 651) (by decide +kernel), List.mem_of_getElem? (i := 652) (by decide +kernel)⟩
theorem lw_p33 : lw_okq (⟨"PulseNetModel", "spread", "(II)I"⟩, 35) := ⟨⟨by decide +kernel, by decide +kernel⟩, List.mem_of_getElem? (i := 525) (by decide +kernel), List.mem_of_getElem? (i := 663) (by decide +kernel), List.mem_of_getElem? (i := 664) (by decide +kernel)⟩
theorem lw_p34 : lw_okq (⟨"PulseNetModel", "first", "(II)V"⟩, 35) := ⟨⟨by decide +kernel, by decide +kernel⟩, List.mem_of_getElem? (i := 525) (by decide +kernel), List.mem_of_getElem? (i := 667) (by decide +kernel), List.mem_of_getElem? (i := 668) (by decide +kernel)⟩
theorem lw_p35 : lw_okq (⟨"PulseNetModel", "tree", "(II)V"⟩, 35) := ⟨⟨by decide +kernel, by decide +kernel⟩, List.mem_of_getElem? (i := 525) (by decide +kernel), List.mem_of_getElem? (i := 671) (by decide +kernel), List.mem_of_getElem? (i := 672) (by decide +kernel)⟩
theorem lw_p36 : lw_okq (⟨"PulseNetModel", "makeClusters", "(I)V"⟩, 35) := ⟨⟨by decide +kernel, by decide +kernel⟩, List.mem_of_getElem? (i := 525) (by decide +kernel), List.mem_of_getElem? (i := 675) (by decide +kernel), List.mem_of_getElem? (i := 676) (by decide +kernel)⟩
theorem lw_p37 : lw_okq (⟨"PulseNetModel", "around", "(II)I"⟩, 35) := ⟨⟨by decide +kernel, by decide +kernel⟩, List.mem_of_getElem? (i := 525) (by decide +kernel), List.mem_of_getElem? (i := 679) (by decide +kernel), List.mem_of_getElem? (i := 680) (by decide +kernel)⟩
theorem lw_p38 : lw_okq (⟨"PulseNetModel", "bits", "(I)I"⟩, 35) := ⟨⟨by decide +kernel, by decide +kernel⟩, List.mem_of_getElem? (i := 525) (by decide +kernel), List.mem_of_getElem? (i := 683) (by decide +kernel), List.mem_of_getElem? (i := 684) (by decide +kernel)⟩
theorem lw_p39 : lw_okq (⟨"PulseNetModel", "choose", "()V"⟩, 35) := ⟨⟨by decide +kernel, by decide +kernel⟩, List.mem_of_getElem? (i := 525) (by decide +kernel), List.mem_of_getElem? (i := 687) (by decide +kernel), List.mem_of_getElem? (i := 688) (by decide +kernel)⟩
theorem lw_p40 : lw_okq (⟨"PulseNetModel", "step", "()V"⟩, 35) := ⟨⟨by decide +kernel, by decide +kernel⟩, List.mem_of_getElem? (i := 525) (by decide +kernel), List.mem_of_getElem? (i := 691) (by decide +kernel), List.mem_of_getElem? (i := 692) (by decide +kernel)⟩
theorem lw_p41 : lw_okq (⟨"PulseNetModel", "act", "(III)I"⟩, 35) := ⟨⟨by decide +kernel, by decide +kernel⟩, List.mem_of_getElem? (i := 525) (by decide +kernel), List.mem_of_getElem? (i := 695) (by decide +kernel), List.mem_of_getElem? (i := 696) (by decide +kernel)⟩
theorem lw_p42 : lw_okq (⟨"PulseNetModel", "writer", "(IIZ)I"⟩, 35) := ⟨⟨by decide +kernel, by decide +kernel⟩, List.mem_of_getElem? (i := 525) (by decide +kernel), List.mem_of_getElem? (i := 699) (by decide +kernel), List.mem_of_getElem? (i := 700) (by decide +kernel)⟩
theorem lw_p43 : lw_okq (⟨"PulseNetModel", "beginRound", "(II)V"⟩, 35) := ⟨⟨by decide +kernel, by decide +kernel⟩, List.mem_of_getElem? (i := 525) (by decide +kernel), List.mem_of_getElem? (i := 703) (by decide +kernel), List.mem_of_getElem? (i := 704) (by decide +kernel)⟩
theorem lw_p44 : lw_okq (⟨"PulseNetModel", "toLower", "(III)V"⟩, 35) := ⟨⟨by decide +kernel, by decide +kernel⟩, List.mem_of_getElem? (i := 525) (by decide +kernel), List.mem_of_getElem? (i := 707) (by decide +kernel), List.mem_of_getElem? (i := 708) (by decide +kernel)⟩
theorem lw_p45 : lw_okq (⟨"PulseNetModel", "isBelow", "(II)Z"⟩, 35) := ⟨⟨by decide +kernel, by decide +kernel⟩, List.mem_of_getElem? (i := 525) (by decide +kernel), List.mem_of_getElem? (i := 711) (by decide +kernel), List.mem_of_getElem? (i := 712) (by decide +kernel)⟩
theorem lw_p46 : lw_okq (⟨"PulseNetModel", "send", "(IIIII)V"⟩, 35) := ⟨⟨by decide +kernel, by decide +kernel⟩, List.mem_of_getElem? (i := 525) (by decide +kernel), List.mem_of_getElem? (i := 715) (by decide +kernel), List.mem_of_getElem? (i := 716) (by decide +kernel)⟩
theorem lw_p47 : lw_okq (⟨"PulseNetModel", "place", "(IIII)I"⟩, 35) := ⟨⟨by decide +kernel, by decide +kernel⟩, List.mem_of_getElem? (i := 525) (by decide +kernel), List.mem_of_getElem? (i := 719) (by decide +kernel), List.mem_of_getElem? (i := 720) (by decide +kernel)⟩
def lw_privs_3 : List (MethodName × Nat) := [(⟨"PulseNetModel", "isLink", "(II)Z"⟩, 35), (⟨"PulseNetModel", "spread", "(II)I"⟩, 35), (⟨"PulseNetModel", "first", "(II)V"⟩, 35), (⟨"PulseNetModel", "tree", "(II)V"⟩, 35), (⟨"PulseNetModel", "makeClusters", "(I)V"⟩, 35), (⟨"PulseNetModel", "around", "(II)I"⟩, 35), (⟨"PulseNetModel", "bits", "(I)I"⟩, 35), (⟨"PulseNetModel", "choose", "()V"⟩, 35), (⟨"PulseNetModel", "step", "()V"⟩, 35), (⟨"PulseNetModel", "act", "(III)I"⟩, 35), (⟨"PulseNetModel", "writer", "(IIZ)I"⟩, 35), (⟨"PulseNetModel", "beginRound", "(II)V"⟩, 35), (⟨"PulseNetModel", "toLower", "(III)V"⟩, 35), (⟨"PulseNetModel", "isBelow", "(II)Z"⟩, 35), (⟨"PulseNetModel", "send", "(IIIII)V"⟩, 35), (⟨"PulseNetModel", "place", "(IIII)I"⟩, 35)]
theorem lw_r3 : ∀ q ∈ lw_privs_3, lw_okq q := List.forall_mem_cons.mpr ⟨lw_p32, List.forall_mem_cons.mpr ⟨lw_p33, List.forall_mem_cons.mpr ⟨lw_p34, List.forall_mem_cons.mpr ⟨lw_p35, List.forall_mem_cons.mpr ⟨lw_p36, List.forall_mem_cons.mpr ⟨lw_p37, List.forall_mem_cons.mpr ⟨lw_p38, List.forall_mem_cons.mpr ⟨lw_p39, List.forall_mem_cons.mpr ⟨lw_p40, List.forall_mem_cons.mpr ⟨lw_p41, List.forall_mem_cons.mpr ⟨lw_p42, List.forall_mem_cons.mpr ⟨lw_p43, List.forall_mem_cons.mpr ⟨lw_p44, List.forall_mem_cons.mpr ⟨lw_p45, List.forall_mem_cons.mpr ⟨lw_p46, List.forall_mem_cons.mpr ⟨lw_p47, fun _ h => absurd h List.not_mem_nil⟩⟩⟩⟩⟩⟩⟩⟩⟩⟩⟩⟩⟩⟩⟩⟩
theorem lw_p48 : lw_okq (⟨"PulseNetModel", "goOn", "(I)V"⟩, 35) := ⟨⟨by decide +kernel, by decide +kernel⟩, List.mem_of_getElem? (i := 525) (by decide +kernel), List.mem_of_getElem? (i := 723) (by decide +kernel), List.mem_of_getElem? (i := 724) (by decide +kernel)⟩
theorem lw_p49 : lw_okq (⟨"PulseNetModel", "hasAll", "(IIZ)Z"⟩, 35) := ⟨⟨by decide +kernel, by decide +kernel⟩, List.mem_of_getElem? (i := 525) (by decide +kernel), List.mem_of_getElem? (i := 727) (by decide +kernel), List.mem_of_getElem? (i := 728) (by decide +kernel)⟩
theorem lw_p50 : lw_okq (⟨"PulseNetModel", "becomeFirm", "(I)V"⟩, 35) := ⟨⟨by decide +kernel, by decide +kernel⟩, List.mem_of_getElem? (i := 525) (by decide +kernel), List.mem_of_getElem? (i := 731) (by decide +kernel), List.mem_of_getElem? (i := 732) (by decide +kernel)⟩
theorem lw_p51 : lw_okq (⟨"PulseNetModel", "handle", "(I)I"⟩, 35) := ⟨⟨by decide +kernel, by decide +kernel⟩, List.mem_of_getElem? (i := 525) (by decide +kernel), List.mem_of_getElem? (i := 739) (by decide +kernel), List.mem_of_getElem? (i := 740) (by decide +kernel)⟩
theorem lw_p52 : lw_okq (⟨"PulseNetModel", "noPlace", "(II)Z"⟩, 35) := ⟨⟨by decide +kernel, by decide +kernel⟩, List.mem_of_getElem? (i := 525) (by decide +kernel), List.mem_of_getElem? (i := 757) (by decide +kernel), List.mem_of_getElem? (i := 758) (by decide +kernel)⟩
def lw_privs_4 : List (MethodName × Nat) := [(⟨"PulseNetModel", "goOn", "(I)V"⟩, 35), (⟨"PulseNetModel", "hasAll", "(IIZ)Z"⟩, 35), (⟨"PulseNetModel", "becomeFirm", "(I)V"⟩, 35), (⟨"PulseNetModel", "handle", "(I)I"⟩, 35), (⟨"PulseNetModel", "noPlace", "(II)Z"⟩, 35)]
theorem lw_r4 : ∀ q ∈ lw_privs_4, lw_okq q := List.forall_mem_cons.mpr ⟨lw_p48, List.forall_mem_cons.mpr ⟨lw_p49, List.forall_mem_cons.mpr ⟨lw_p50, List.forall_mem_cons.mpr ⟨lw_p51, List.forall_mem_cons.mpr ⟨lw_p52, fun _ h => absurd h List.not_mem_nil⟩⟩⟩⟩⟩
def lw_privs : List (MethodName × Nat) := lw_privs_1 ++ (lw_privs_2 ++ (lw_privs_3 ++ (lw_privs_4)))
def lw_tbl : List Cond := k2_sels lw_privs ++ tables_1
theorem lw_privs_ok : ∀ q ∈ lw_privs, lw_okq q := by
  show ∀ q ∈ lw_privs_1 ++ (lw_privs_2 ++ (lw_privs_3 ++ (lw_privs_4))), lw_okq q
  exact List.forall_mem_append.mpr ⟨lw_r1, List.forall_mem_append.mpr ⟨lw_r2, List.forall_mem_append.mpr ⟨lw_r3, lw_r4⟩⟩⟩
end
section
def TT_P : u_T := fun k => match k with
  | 0 => ("PulseNet", "course", "LPulseNet$Course;", true)
  | _ => ("PulseNet", "started", "Z", false)
def ty_P : Nat → FieldType := fun k => match k with
  | 0 => .object "PulseNet$Course"
  | _ => .boolean
theorem ty_P_ok : ∀ k, k < 2 → parseFieldDescriptor (TT_P k).2.2.1 = some (ty_P k) := by decide +kernel
theorem nm_P : ∀ a, a < 2 → ∀ b, b < 2 → a ≠ b → (TT_P a).2.1 ≠ (TT_P b).2.1 := by decide +kernel
def TT_Course : u_T := fun k => match k with
  | 0 => ("PulseNet$Course", "net", "LPulseNet$Net;", true)
  | 1 => ("PulseNet$Course", "frame", "LPulseNet$Frame;", true)
  | 2 => ("PulseNet$Course", "play", "LPulseNet$Play;", true)
  | 3 => ("PulseNet$Course", "pool", "LPulseNet$Pool;", true)
  | 4 => ("PulseNet$Course", "way", "I", false)
  | 5 => ("PulseNet$Course", "rounds", "I", false)
  | 6 => ("PulseNet$Course", "notesSent", "I", false)
  | 7 => ("PulseNet$Course", "othersSent", "I", false)
  | 8 => ("PulseNet$Course", "round", "[I", true)
  | 9 => ("PulseNet$Course", "stage", "[I", true)
  | 10 => ("PulseNet$Course", "unanswered", "[I", true)
  | 11 => ("PulseNet$Course", "readies", "[I", true)
  | 12 => ("PulseNet$Course", "dones", "[I", true)
  | 13 => ("PulseNet$Course", "safes", "[I", true)
  | 14 => ("PulseNet$Course", "reached", "[I", true)
  | _ => ("PulseNet$Course", "wanted", "[I", true)
def ty_Course : Nat → FieldType := fun k => match k with
  | 0 => .object "PulseNet$Net"
  | 1 => .object "PulseNet$Frame"
  | 2 => .object "PulseNet$Play"
  | 3 => .object "PulseNet$Pool"
  | 4 => .int
  | 5 => .int
  | 6 => .int
  | 7 => .int
  | 8 => .array .int
  | 9 => .array .int
  | 10 => .array .int
  | 11 => .array .int
  | 12 => .array .int
  | 13 => .array .int
  | 14 => .array .int
  | _ => .array .int
theorem ty_Course_ok : ∀ k, k < 16 → parseFieldDescriptor (TT_Course k).2.2.1 = some (ty_Course k) := by decide +kernel
theorem nm_Course : ∀ a, a < 16 → ∀ b, b < 16 → a ≠ b → (TT_Course a).2.1 ≠ (TT_Course b).2.1 := by decide +kernel
def TT_Net : u_T := fun k => match k with
  | 0 => ("PulseNet$Net", "nodes", "I", false)
  | 1 => ("PulseNet$Net", "links", "I", false)
  | 2 => ("PulseNet$Net", "marks", "[I", true)
  | 3 => ("PulseNet$Net", "near", "[I", true)
  | _ => ("PulseNet$Net", "lengths", "[I", true)
def ty_Net : Nat → FieldType := fun k => match k with
  | 0 => .int
  | 1 => .int
  | 2 => .array .int
  | 3 => .array .int
  | _ => .array .int
theorem ty_Net_ok : ∀ k, k < 5 → parseFieldDescriptor (TT_Net k).2.2.1 = some (ty_Net k) := by decide +kernel
theorem nm_Net : ∀ a, a < 5 → ∀ b, b < 5 → a ≠ b → (TT_Net a).2.1 ≠ (TT_Net b).2.1 := by decide +kernel
def TT_Frame : u_T := fun k => match k with
  | 0 => ("PulseNet$Frame", "clusters", "I", false)
  | 1 => ("PulseNet$Frame", "chosen", "I", false)
  | 2 => ("PulseNet$Frame", "leader", "[I", true)
  | 3 => ("PulseNet$Frame", "upper", "[I", true)
  | 4 => ("PulseNet$Frame", "level", "[I", true)
  | 5 => ("PulseNet$Frame", "above", "[I", true)
  | 6 => ("PulseNet$Frame", "below", "[I", true)
  | 7 => ("PulseNet$Frame", "partners", "[I", true)
  | _ => ("PulseNet$Frame", "joined", "[I", true)
def ty_Frame : Nat → FieldType := fun k => match k with
  | 0 => .int
  | 1 => .int
  | 2 => .array .int
  | 3 => .array .int
  | 4 => .array .int
  | 5 => .array .int
  | 6 => .array .int
  | 7 => .array .int
  | _ => .array .int
theorem ty_Frame_ok : ∀ k, k < 9 → parseFieldDescriptor (TT_Frame k).2.2.1 = some (ty_Frame k) := by decide +kernel
theorem nm_Frame : ∀ a, a < 9 → ∀ b, b < 9 → a ≠ b → (TT_Frame a).2.1 ≠ (TT_Frame b).2.1 := by decide +kernel
def TT_Play : u_T := fun k => match k with
  | 0 => ("PulseNet$Play", "program", "I", false)
  | 1 => ("PulseNet$Play", "source", "I", false)
  | 2 => ("PulseNet$Play", "value", "[I", true)
  | 3 => ("PulseNet$Play", "parent", "[I", true)
  | _ => ("PulseNet$Play", "notes", "[I", true)
def ty_Play : Nat → FieldType := fun k => match k with
  | 0 => .int
  | 1 => .int
  | 2 => .array .int
  | 3 => .array .int
  | _ => .array .int
theorem ty_Play_ok : ∀ k, k < 5 → parseFieldDescriptor (TT_Play k).2.2.1 = some (ty_Play k) := by decide +kernel
theorem nm_Play : ∀ a, a < 5 → ∀ b, b < 5 → a ≠ b → (TT_Play a).2.1 ≠ (TT_Play b).2.1 := by decide +kernel
def TT_Pool : u_T := fun k => match k with
  | 0 => ("PulseNet$Pool", "size", "I", false)
  | 1 => ("PulseNet$Pool", "kinds", "[I", true)
  | 2 => ("PulseNet$Pool", "froms", "[I", true)
  | 3 => ("PulseNet$Pool", "tos", "[I", true)
  | 4 => ("PulseNet$Pool", "rounds", "[I", true)
  | _ => ("PulseNet$Pool", "numbers", "[I", true)
def ty_Pool : Nat → FieldType := fun k => match k with
  | 0 => .int
  | 1 => .array .int
  | 2 => .array .int
  | 3 => .array .int
  | 4 => .array .int
  | _ => .array .int
theorem ty_Pool_ok : ∀ k, k < 6 → parseFieldDescriptor (TT_Pool k).2.2.1 = some (ty_Pool k) := by decide +kernel
theorem nm_Pool : ∀ a, a < 6 → ∀ b, b < 6 → a ≠ b → (TT_Pool a).2.1 ≠ (TT_Pool b).2.1 := by decide +kernel
def TT_Mo : u_T := fun k => match k with
  | 0 => ("PulseNetModel", "n", "I", false)
  | 1 => ("PulseNetModel", "links", "I", false)
  | 2 => ("PulseNetModel", "lengths", "[I", true)
  | 3 => ("PulseNetModel", "marks", "[I", true)
  | 4 => ("PulseNetModel", "started", "Z", false)
  | 5 => ("PulseNetModel", "program", "I", false)
  | 6 => ("PulseNetModel", "way", "I", false)
  | 7 => ("PulseNetModel", "source", "I", false)
  | 8 => ("PulseNetModel", "rounds", "I", false)
  | 9 => ("PulseNetModel", "round", "[I", true)
  | 10 => ("PulseNetModel", "open", "[I", true)
  | 11 => ("PulseNetModel", "safe", "[Z", true)
  | 12 => ("PulseNetModel", "raised", "[Z", true)
  | 13 => ("PulseNetModel", "firm", "[Z", true)
  | 14 => ("PulseNetModel", "done", "[Z", true)
  | 15 => ("PulseNetModel", "upper", "[I", true)
  | 16 => ("PulseNetModel", "leader", "[I", true)
  | 17 => ("PulseNetModel", "level", "[I", true)
  | 18 => ("PulseNetModel", "chosen", "[Z", true)
  | 19 => ("PulseNetModel", "clusters", "I", false)
  | 20 => ("PulseNetModel", "chosenLinks", "I", false)
  | 21 => ("PulseNetModel", "came", "[Z", true)
  | 22 => ("PulseNetModel", "numbers", "[I", true)
  | 23 => ("PulseNetModel", "value", "[I", true)
  | 24 => ("PulseNetModel", "parent", "[I", true)
  | 25 => ("PulseNetModel", "values", "[I", true)
  | 26 => ("PulseNetModel", "inStep", "[I", true)
  | 27 => ("PulseNetModel", "letters", "I", false)
  | 28 => ("PulseNetModel", "pool", "[I", true)
  | 29 => ("PulseNetModel", "notes", "I", false)
  | 30 => ("PulseNetModel", "others", "I", false)
  | 31 => ("PulseNetModel", "wrote", "[I", true)
  | 32 => ("PulseNetModel", "writes", "[I", true)
  | 33 => ("PulseNetModel", "takes", "[Z", true)
  | _ => ("PulseNetModel", "taken", "[I", true)
def ty_Mo : Nat → FieldType := fun k => match k with
  | 0 => .int
  | 1 => .int
  | 2 => .array .int
  | 3 => .array .int
  | 4 => .boolean
  | 5 => .int
  | 6 => .int
  | 7 => .int
  | 8 => .int
  | 9 => .array .int
  | 10 => .array .int
  | 11 => .array .boolean
  | 12 => .array .boolean
  | 13 => .array .boolean
  | 14 => .array .boolean
  | 15 => .array .int
  | 16 => .array .int
  | 17 => .array .int
  | 18 => .array .boolean
  | 19 => .int
  | 20 => .int
  | 21 => .array .boolean
  | 22 => .array .int
  | 23 => .array .int
  | 24 => .array .int
  | 25 => .array .int
  | 26 => .array .int
  | 27 => .int
  | 28 => .array .int
  | 29 => .int
  | 30 => .int
  | 31 => .array .int
  | 32 => .array .int
  | 33 => .array .boolean
  | _ => .array .int
theorem ty_Mo_ok : ∀ k, k < 35 → parseFieldDescriptor (TT_Mo k).2.2.1 = some (ty_Mo k) := by decide +kernel
theorem nm_Mo : ∀ a, a < 35 → ∀ b, b < 35 → a ≠ b → (TT_Mo a).2.1 ≠ (TT_Mo b).2.1 := by decide +kernel
abbrev zCl : List vw_C := [("PulseNet", TT_P, 2), ("PulseNet$Course", TT_Course, 16), ("PulseNet$Net", TT_Net, 5), ("PulseNet$Frame", TT_Frame, 9), ("PulseNet$Play", TT_Play, 5), ("PulseNet$Pool", TT_Pool, 6), ("PulseNetModel", TT_Mo, 35)]
abbrev zS : List ((FieldType × Nat) ⊕ (Nat × List (Option Nat))) := [.inr (0, [some 1, none]), .inr (1, [some 2, some 3, some 4, some 5, none, none, none, none, some 24, some 25, some 26, some 27, some 28, some 29, some 30, some 31]), .inr (2, [none, none, some 6, some 7, some 8]), .inr (3, [none, none, some 9, some 10, some 11, some 12, some 13, some 14, some 15]), .inr (4, [none, none, some 16, some 17, some 18]), .inr (5, [none, some 19, some 20, some 21, some 22, some 23]), .inl (.int, 12), .inl (.int, 12), .inl (.int, 144), .inl (.int, 12), .inl (.int, 12), .inl (.int, 12), .inl (.int, 12), .inl (.int, 12), .inl (.int, 12), .inl (.int, 12), .inl (.int, 12), .inl (.int, 12), .inl (.int, 288), .inl (.int, 528), .inl (.int, 528), .inl (.int, 528), .inl (.int, 528), .inl (.int, 528), .inl (.int, 12), .inl (.int, 12), .inl (.int, 12), .inl (.int, 12), .inl (.int, 12), .inl (.int, 24), .inl (.int, 252), .inl (.int, 252), .inr (6, [none, none, some 33, some 34, none, none, none, none, none, some 35, some 36, some 37, some 38, some 39, some 40, some 41, some 42, some 43, some 44, none, none, some 45, some 46, some 47, some 48, some 49, some 50, none, some 51, none, none, some 52, some 53, some 54, some 55]), .inl (.int, 144), .inl (.int, 12), .inl (.int, 12), .inl (.int, 12), .inl (.boolean, 12), .inl (.boolean, 12), .inl (.boolean, 12), .inl (.boolean, 12), .inl (.int, 12), .inl (.int, 12), .inl (.int, 12), .inl (.boolean, 144), .inl (.boolean, 12672), .inl (.int, 3168), .inl (.int, 24), .inl (.int, 24), .inl (.int, 252), .inl (.int, 252), .inl (.int, 20000), .inl (.int, 12), .inl (.int, 12), .inl (.boolean, 12), .inl (.int, 12)]
abbrev M_Course_open : MethodName × ByteArray × Nat × Option FieldType := (⟨"PulseNet$Course", "open", "(IIII)V"⟩, prog_2_method_2_code, 6, none)
abbrev M_Course_clear : MethodName × ByteArray × Nat × Option FieldType := (⟨"PulseNet$Course", "clear", "()V"⟩, prog_2_method_3_code, 1, none)
abbrev M_Course_goInStep : MethodName × ByteArray × Nat × Option FieldType := (⟨"PulseNet$Course", "goInStep", "()V"⟩, prog_2_method_4_code, 3, none)
abbrev M_Course_handOut : MethodName × ByteArray × Nat × Option FieldType := (⟨"PulseNet$Course", "handOut", "(III)V"⟩, prog_2_method_5_code, 5, none)
abbrev M_Course_bring : MethodName × ByteArray × Nat × Option FieldType := (⟨"PulseNet$Course", "bring", "(I)I"⟩, prog_2_method_6_code, 7, (some .int))
abbrev M_Course_send : MethodName × ByteArray × Nat × Option FieldType := (⟨"PulseNet$Course", "send", "(IIIII)V"⟩, prog_2_method_7_code, 7, none)
abbrev M_Course_push : MethodName × ByteArray × Nat × Option FieldType := (⟨"PulseNet$Course", "push", "(I)V"⟩, prog_2_method_8_code, 4, none)
abbrev M_Course_enterNext : MethodName × ByteArray × Nat × Option FieldType := (⟨"PulseNet$Course", "enterNext", "(I)V"⟩, prog_2_method_9_code, 4, none)
abbrev M_Course_isSafe : MethodName × ByteArray × Nat × Option FieldType := (⟨"PulseNet$Course", "isSafe", "(I)Z"⟩, prog_2_method_10_code, 2, (some .boolean))
abbrev M_Course_hasAllSafes : MethodName × ByteArray × Nat × Option FieldType := (⟨"PulseNet$Course", "hasAllSafes", "(I)Z"⟩, prog_2_method_11_code, 2, (some .boolean))
abbrev M_Course_hasAllBelow : MethodName × ByteArray × Nat × Option FieldType := (⟨"PulseNet$Course", "hasAllBelow", "([II)Z"⟩, prog_2_method_12_code, 3, (some .boolean))
abbrev M_Course_isLeader : MethodName × ByteArray × Nat × Option FieldType := (⟨"PulseNet$Course", "isLeader", "(I)Z"⟩, prog_2_method_13_code, 2, (some .boolean))
abbrev M_Course_keepWithAll : MethodName × ByteArray × Nat × Option FieldType := (⟨"PulseNet$Course", "keepWithAll", "(I)Z"⟩, prog_2_method_14_code, 2, (some .boolean))
abbrev M_Course_keepInTree : MethodName × ByteArray × Nat × Option FieldType := (⟨"PulseNet$Course", "keepInTree", "(I)Z"⟩, prog_2_method_15_code, 2, (some .boolean))
abbrev M_Course_keepInClusters : MethodName × ByteArray × Nat × Option FieldType := (⟨"PulseNet$Course", "keepInClusters", "(I)Z"⟩, prog_2_method_16_code, 2, (some .boolean))
abbrev M_Course_spreadFirm : MethodName × ByteArray × Nat × Option FieldType := (⟨"PulseNet$Course", "spreadFirm", "(I)V"⟩, prog_2_method_17_code, 2, none)
abbrev M_Course_leastRound : MethodName × ByteArray × Nat × Option FieldType := (⟨"PulseNet$Course", "leastRound", "()I"⟩, prog_2_method_18_code, 3, (some .int))
abbrev M_Course_greatestRound : MethodName × ByteArray × Nat × Option FieldType := (⟨"PulseNet$Course", "greatestRound", "()I"⟩, prog_2_method_19_code, 3, (some .int))
abbrev M_Course_isOver : MethodName × ByteArray × Nat × Option FieldType := (⟨"PulseNet$Course", "isOver", "()Z"⟩, prog_2_method_20_code, 1, (some .boolean))
abbrev M_Course_countWrong : MethodName × ByteArray × Nat × Option FieldType := (⟨"PulseNet$Course", "countWrong", "()I"⟩, prog_2_method_21_code, 4, (some .int))
abbrev M_Frame_setUp : MethodName × ByteArray × Nat × Option FieldType := (⟨"PulseNet$Frame", "setUp", "(LPulseNet$Net;III)V"⟩, prog_3_method_2_code, 5, none)
abbrev M_Frame_clear : MethodName × ByteArray × Nat × Option FieldType := (⟨"PulseNet$Frame", "clear", "()V"⟩, prog_3_method_3_code, 1, none)
abbrev M_Frame_standAlone : MethodName × ByteArray × Nat × Option FieldType := (⟨"PulseNet$Frame", "standAlone", "(LPulseNet$Net;)V"⟩, prog_3_method_4_code, 3, none)
abbrev M_Frame_growTree : MethodName × ByteArray × Nat × Option FieldType := (⟨"PulseNet$Frame", "growTree", "(LPulseNet$Net;II)V"⟩, prog_3_method_5_code, 6, none)
abbrev M_Frame_hang : MethodName × ByteArray × Nat × Option FieldType := (⟨"PulseNet$Frame", "hang", "(LPulseNet$Net;III)V"⟩, prog_3_method_6_code, 7, none)
abbrev M_Frame_makeClusters : MethodName × ByteArray × Nat × Option FieldType := (⟨"PulseNet$Frame", "makeClusters", "(LPulseNet$Net;I)V"⟩, prog_3_method_7_code, 6, none)
abbrev M_Frame_clusterOf : MethodName × ByteArray × Nat × Option FieldType := (⟨"PulseNet$Frame", "clusterOf", "(LPulseNet$Net;III)I"⟩, prog_3_method_8_code, 7, (some .int))
abbrev M_Frame_chooseLinks : MethodName × ByteArray × Nat × Option FieldType := (⟨"PulseNet$Frame", "chooseLinks", "(LPulseNet$Net;)V"⟩, prog_3_method_9_code, 5, none)
abbrev M_Frame_choose : MethodName × ByteArray × Nat × Option FieldType := (⟨"PulseNet$Frame", "choose", "(II)V"⟩, prog_3_method_10_code, 3, none)
abbrev M_Net_clear : MethodName × ByteArray × Nat × Option FieldType := (⟨"PulseNet$Net", "clear", "(I)V"⟩, prog_4_method_2_code, 2, none)
abbrev M_Net_hasNode : MethodName × ByteArray × Nat × Option FieldType := (⟨"PulseNet$Net", "hasNode", "(I)Z"⟩, prog_4_method_3_code, 2, (some .boolean))
abbrev M_Net_join : MethodName × ByteArray × Nat × Option FieldType := (⟨"PulseNet$Net", "join", "(III)V"⟩, prog_4_method_4_code, 4, none)
abbrev M_Net_everyNode : MethodName × ByteArray × Nat × Option FieldType := (⟨"PulseNet$Net", "everyNode", "()I"⟩, prog_4_method_5_code, 1, (some .int))
abbrev M_Net_around : MethodName × ByteArray × Nat × Option FieldType := (⟨"PulseNet$Net", "around", "(I)I"⟩, prog_4_method_6_code, 4, (some .int))
abbrev M_Net_isConnected : MethodName × ByteArray × Nat × Option FieldType := (⟨"PulseNet$Net", "isConnected", "()Z"⟩, prog_4_method_7_code, 3, (some .boolean))
abbrev M_Play_reset : MethodName × ByteArray × Nat × Option FieldType := (⟨"PulseNet$Play", "reset", "(LPulseNet$Net;II)V"⟩, prog_5_method_2_code, 5, none)
abbrev M_Play_firstValue : MethodName × ByteArray × Nat × Option FieldType := (⟨"PulseNet$Play", "firstValue", "(LPulseNet$Net;I)I"⟩, prog_5_method_3_code, 3, (some .int))
abbrev M_Play_noteRow : MethodName × ByteArray × Nat × Option FieldType := (⟨"PulseNet$Play", "noteRow", "(II)I"⟩, prog_5_method_4_code, 2, (some .int))
abbrev M_Play_keepNote : MethodName × ByteArray × Nat × Option FieldType := (⟨"PulseNet$Play", "keepNote", "(IIII)V"⟩, prog_5_method_5_code, 5, none)
abbrev M_Play_doRound : MethodName × ByteArray × Nat × Option FieldType := (⟨"PulseNet$Play", "doRound", "(LPulseNet$Net;II)I"⟩, prog_5_method_6_code, 7, (some .int))
abbrev M_Play_firstNote : MethodName × ByteArray × Nat × Option FieldType := (⟨"PulseNet$Play", "firstNote", "(LPulseNet$Net;I)I"⟩, prog_5_method_7_code, 3, (some .int))
abbrev M_Play_laterNote : MethodName × ByteArray × Nat × Option FieldType := (⟨"PulseNet$Play", "laterNote", "(LPulseNet$Net;III)I"⟩, prog_5_method_8_code, 5, (some .int))
abbrev M_Play_takeWave : MethodName × ByteArray × Nat × Option FieldType := (⟨"PulseNet$Play", "takeWave", "(II)I"⟩, prog_5_method_9_code, 4, (some .int))
abbrev M_Play_takeGreatest : MethodName × ByteArray × Nat × Option FieldType := (⟨"PulseNet$Play", "takeGreatest", "(II)I"⟩, prog_5_method_10_code, 5, (some .int))
abbrev M_Play_tryIn : MethodName × ByteArray × Nat × Option FieldType := (⟨"PulseNet$Play", "tryIn", "(LPulseNet$Net;II)I"⟩, prog_5_method_11_code, 7, (some .int))
abbrev M_Play_tryOut : MethodName × ByteArray × Nat × Option FieldType := (⟨"PulseNet$Play", "tryOut", "(LPulseNet$Net;II)I"⟩, prog_5_method_12_code, 5, (some .int))
abbrev M_Play_takeLengths : MethodName × ByteArray × Nat × Option FieldType := (⟨"PulseNet$Play", "takeLengths", "(LPulseNet$Net;II)I"⟩, prog_5_method_13_code, 8, (some .int))
abbrev M_Pool_add : MethodName × ByteArray × Nat × Option FieldType := (⟨"PulseNet$Pool", "add", "(IIIII)V"⟩, prog_6_method_2_code, 6, none)
abbrev M_Pool_remove : MethodName × ByteArray × Nat × Option FieldType := (⟨"PulseNet$Pool", "remove", "(I)V"⟩, prog_6_method_3_code, 2, none)
abbrev M_Pool_closeGap : MethodName × ByteArray × Nat × Option FieldType := (⟨"PulseNet$Pool", "closeGap", "([II)V"⟩, prog_6_method_4_code, 3, none)
abbrev M_P_begin : MethodName × ByteArray × Nat × Option FieldType := (⟨"PulseNet", "begin", "(I)I"⟩, prog_1_method_2_code, 2, (some .int))
abbrev M_P_link : MethodName × ByteArray × Nat × Option FieldType := (⟨"PulseNet", "link", "(III)I"⟩, prog_1_method_3_code, 5, (some .int))
abbrev M_P_mark : MethodName × ByteArray × Nat × Option FieldType := (⟨"PulseNet", "mark", "(II)I"⟩, prog_1_method_4_code, 5, (some .int))
abbrev M_P_start : MethodName × ByteArray × Nat × Option FieldType := (⟨"PulseNet", "start", "(IIIII)I"⟩, prog_1_method_5_code, 6, (some .int))
abbrev M_P_come : MethodName × ByteArray × Nat × Option FieldType := (⟨"PulseNet", "come", "(I)I"⟩, prog_1_method_6_code, 2, (some .int))
abbrev M_P_flow : MethodName × ByteArray × Nat × Option FieldType := (⟨"PulseNet", "flow", "(II)I"⟩, prog_1_method_7_code, 6, (some .int))
abbrev M_P_told : MethodName × ByteArray × Nat × Option FieldType := (⟨"PulseNet", "told", "(II)I"⟩, prog_1_method_8_code, 3, (some .int))
abbrev M_P_past : MethodName × ByteArray × Nat × Option FieldType := (⟨"PulseNet", "past", "(II)I"⟩, prog_1_method_9_code, 3, (some .int))
abbrev M_P_inStep : MethodName × ByteArray × Nat × Option FieldType := (⟨"PulseNet", "inStep", "(II)I"⟩, prog_1_method_10_code, 3, (some .int))
abbrev M_P_differ : MethodName × ByteArray × Nat × Option FieldType := (⟨"PulseNet", "differ", "()I"⟩, prog_1_method_11_code, 1, (some .int))
abbrev M_P_letter : MethodName × ByteArray × Nat × Option FieldType := (⟨"PulseNet", "letter", "(II)I"⟩, prog_1_method_12_code, 3, (some .int))
abbrev M_P_count : MethodName × ByteArray × Nat × Option FieldType := (⟨"PulseNet", "count", "(I)I"⟩, prog_1_method_13_code, 2, (some .int))
abbrev M_P_hasLetter : MethodName × ByteArray × Nat × Option FieldType := (⟨"PulseNet", "hasLetter", "(I)Z"⟩, prog_1_method_14_code, 2, (some .boolean))
abbrev M_P_hasRound : MethodName × ByteArray × Nat × Option FieldType := (⟨"PulseNet", "hasRound", "(II)Z"⟩, prog_1_method_15_code, 3, (some .boolean))
abbrev M_P_at : MethodName × ByteArray × Nat × Option FieldType := (⟨"PulseNet", "at", "(II)I"⟩, prog_1_method_16_code, 2, (some .int))
abbrev M_P_isIn : MethodName × ByteArray × Nat × Option FieldType := (⟨"PulseNet", "isIn", "(II)Z"⟩, prog_1_method_17_code, 2, (some .boolean))
abbrev M_Mo_begin : MethodName × ByteArray × Nat × Option FieldType := (⟨"PulseNetModel", "begin", "(I)I"⟩, prog_8_method_2_code, 3, (some .int))
abbrev M_Mo_noNode : MethodName × ByteArray × Nat × Option FieldType := (⟨"PulseNetModel", "noNode", "(I)Z"⟩, prog_8_method_3_code, 2, (some .boolean))
abbrev M_Mo_isLink : MethodName × ByteArray × Nat × Option FieldType := (⟨"PulseNetModel", "isLink", "(II)Z"⟩, prog_8_method_4_code, 3, (some .boolean))
abbrev M_Mo_link : MethodName × ByteArray × Nat × Option FieldType := (⟨"PulseNetModel", "link", "(III)I"⟩, prog_8_method_5_code, 4, (some .int))
abbrev M_Mo_mark : MethodName × ByteArray × Nat × Option FieldType := (⟨"PulseNetModel", "mark", "(II)I"⟩, prog_8_method_6_code, 4, (some .int))
abbrev M_Mo_spread : MethodName × ByteArray × Nat × Option FieldType := (⟨"PulseNetModel", "spread", "(II)I"⟩, prog_8_method_7_code, 7, (some .int))
abbrev M_Mo_tree : MethodName × ByteArray × Nat × Option FieldType := (⟨"PulseNetModel", "tree", "(II)V"⟩, prog_8_method_8_code, 7, none)
abbrev M_Mo_bits : MethodName × ByteArray × Nat × Option FieldType := (⟨"PulseNetModel", "bits", "(I)I"⟩, prog_8_method_9_code, 4, (some .int))
abbrev M_Mo_around : MethodName × ByteArray × Nat × Option FieldType := (⟨"PulseNetModel", "around", "(II)I"⟩, prog_8_method_10_code, 6, (some .int))
abbrev M_Mo_makeClusters : MethodName × ByteArray × Nat × Option FieldType := (⟨"PulseNetModel", "makeClusters", "(I)V"⟩, prog_8_method_11_code, 6, none)
abbrev M_Mo_choose : MethodName × ByteArray × Nat × Option FieldType := (⟨"PulseNetModel", "choose", "()V"⟩, prog_8_method_12_code, 7, none)
abbrev M_Mo_first : MethodName × ByteArray × Nat × Option FieldType := (⟨"PulseNetModel", "first", "(II)V"⟩, prog_8_method_13_code, 3, none)
abbrev M_Mo_writer : MethodName × ByteArray × Nat × Option FieldType := (⟨"PulseNetModel", "writer", "(IIZ)I"⟩, prog_8_method_14_code, 5, (some .int))
abbrev M_Mo_act : MethodName × ByteArray × Nat × Option FieldType := (⟨"PulseNetModel", "act", "(III)I"⟩, prog_8_method_15_code, 11, (some .int))
abbrev M_Mo_step : MethodName × ByteArray × Nat × Option FieldType := (⟨"PulseNetModel", "step", "()V"⟩, prog_8_method_16_code, 4, none)
abbrev M_Mo_send : MethodName × ByteArray × Nat × Option FieldType := (⟨"PulseNetModel", "send", "(IIIII)V"⟩, prog_8_method_17_code, 6, none)
abbrev M_Mo_place : MethodName × ByteArray × Nat × Option FieldType := (⟨"PulseNetModel", "place", "(IIII)I"⟩, prog_8_method_18_code, 5, (some .int))
abbrev M_Mo_isBelow : MethodName × ByteArray × Nat × Option FieldType := (⟨"PulseNetModel", "isBelow", "(II)Z"⟩, prog_8_method_19_code, 3, (some .boolean))
abbrev M_Mo_toLower : MethodName × ByteArray × Nat × Option FieldType := (⟨"PulseNetModel", "toLower", "(III)V"⟩, prog_8_method_20_code, 5, none)
abbrev M_Mo_hasAll : MethodName × ByteArray × Nat × Option FieldType := (⟨"PulseNetModel", "hasAll", "(IIZ)Z"⟩, prog_8_method_21_code, 6, (some .boolean))
abbrev M_Mo_beginRound : MethodName × ByteArray × Nat × Option FieldType := (⟨"PulseNetModel", "beginRound", "(II)V"⟩, prog_8_method_22_code, 5, none)
abbrev M_Mo_becomeFirm : MethodName × ByteArray × Nat × Option FieldType := (⟨"PulseNetModel", "becomeFirm", "(I)V"⟩, prog_8_method_23_code, 3, none)
abbrev M_Mo_goOn : MethodName × ByteArray × Nat × Option FieldType := (⟨"PulseNetModel", "goOn", "(I)V"⟩, prog_8_method_24_code, 4, none)
abbrev M_Mo_start : MethodName × ByteArray × Nat × Option FieldType := (⟨"PulseNetModel", "start", "(IIIII)I"⟩, prog_8_method_25_code, 9, (some .int))
abbrev M_Mo_handle : MethodName × ByteArray × Nat × Option FieldType := (⟨"PulseNetModel", "handle", "(I)I"⟩, prog_8_method_26_code, 8, (some .int))
abbrev M_Mo_come : MethodName × ByteArray × Nat × Option FieldType := (⟨"PulseNetModel", "come", "(I)I"⟩, prog_8_method_27_code, 2, (some .int))
abbrev M_Mo_flow : MethodName × ByteArray × Nat × Option FieldType := (⟨"PulseNetModel", "flow", "(II)I"⟩, prog_8_method_28_code, 7, (some .int))
abbrev M_Mo_told : MethodName × ByteArray × Nat × Option FieldType := (⟨"PulseNetModel", "told", "(II)I"⟩, prog_8_method_29_code, 5, (some .int))
abbrev M_Mo_noPlace : MethodName × ByteArray × Nat × Option FieldType := (⟨"PulseNetModel", "noPlace", "(II)Z"⟩, prog_8_method_30_code, 3, (some .boolean))
abbrev M_Mo_past : MethodName × ByteArray × Nat × Option FieldType := (⟨"PulseNetModel", "past", "(II)I"⟩, prog_8_method_31_code, 3, (some .int))
abbrev M_Mo_inStep : MethodName × ByteArray × Nat × Option FieldType := (⟨"PulseNetModel", "inStep", "(II)I"⟩, prog_8_method_32_code, 3, (some .int))
abbrev M_Mo_differ : MethodName × ByteArray × Nat × Option FieldType := (⟨"PulseNetModel", "differ", "()I"⟩, prog_8_method_33_code, 4, (some .int))
abbrev M_Mo_letter : MethodName × ByteArray × Nat × Option FieldType := (⟨"PulseNetModel", "letter", "(II)I"⟩, prog_8_method_34_code, 3, (some .int))
abbrev M_Mo_count : MethodName × ByteArray × Nat × Option FieldType := (⟨"PulseNetModel", "count", "(I)I"⟩, prog_8_method_35_code, 5, (some .int))
abbrev M_JArrays_fill : MethodName × ByteArray × Nat × Option FieldType := (⟨"java/util/Arrays", "fill", "([II)V"⟩, prog_12_method_103_code, 4, none)
abbrev M_JInteger_bitCount : MethodName × ByteArray × Nat × Option FieldType := (⟨"java/lang/Integer", "bitCount", "(I)I"⟩, prog_9_method_49_code, 1, (some .int))
end
section
/-! The layer Z: one fixed world of cells (the class's and the reference's), a state that is a table of ints, one rule an instruction. -/
abbrev zSt : Type := Nat → Nat → Int32
def zup (σ : zSt) (c j : Nat) (v : Int32) : zSt := fun a b => if a = c ∧ b = j then v else σ a b
abbrev zSh : Type := (FieldType × Nat) ⊕ (Nat × List (Option Nat))
def zVal (ad : Nat → Nat) (σ : zSt) (k j : Nat) (o : Option Nat) : Value := match o with
  | none => .int (σ k j)
  | some r => .ref (ad r)
def zE (cA : FieldType → ClassId) (ad : Nat → Nat) (σ : zSt) (k : Nat) (sh : zSh) : va_E := match sh with
  | .inl (ty, n) => .inl (cA ty, n, .inl (σ k))
  | .inr (ci, fs) => .inr (ci, fs.mapIdx (fun j o => zVal ad σ k j o))
def zW (cA : FieldType → ClassId) (ad : Nat → Nat) (σ : zSt) : va_W := zS.mapIdx (fun k sh => (ad k, zE cA ad σ k sh))
theorem zW_at {cA : FieldType → ClassId} {ad : Nat → Nat} {σ : zSt} {k : Nat} {sh : zSh} (h : zS[k]? = some sh) : (zW cA ad σ)[k]? = some (ad k, zE cA ad σ k sh) := by
  unfold zW
  rw [List.getElem?_mapIdx, h]
  rfl
theorem zW_of {cA : FieldType → ClassId} {ad : Nat → Nat} {σ : zSt} {k : Nat} {q : Nat × va_E} (h : (zW cA ad σ)[k]? = some q) : k < zS.length ∧ q.1 = ad k := by
  unfold zW at h
  rw [List.getElem?_mapIdx] at h
  cases hs : zS[k]? with
  | none => rw [hs] at h; cases h
  | some sh =>
    rw [hs] at h
    have h1 := Option.some.inj h
    exact ⟨(List.getElem?_eq_some_iff.mp hs).1, by rw [← h1]⟩
theorem zup_self (σ : zSt) (c j : Nat) (v : Int32) : zup σ c j v c = upd (σ c) j v := by
  funext b
  unfold zup upd
  by_cases h : b = j <;> simp [h]
theorem zup_ne {σ : zSt} {c j : Nat} {v : Int32} {k : Nat} (h : k ≠ c) : zup σ c j v k = σ k := by
  funext b
  unfold zup
  simp [h]
theorem zE_ne {cA : FieldType → ClassId} {ad : Nat → Nat} {σ τ : zSt} {k : Nat} {sh : zSh} (h : σ k = τ k) : zE cA ad σ k sh = zE cA ad τ k sh := by
  cases sh with
  | inl a => unfold zE; simp only [h]
  | inr o => unfold zE zVal; simp only [h]
theorem zW_set {cA : FieldType → ClassId} {ad : Nat → Nat} {σ τ : zSt} {c : Nat} {sh : zSh} (hc : zS[c]? = some sh) (hn : ∀ k, k ≠ c → σ k = τ k) : (zW cA ad σ).set c (ad c, zE cA ad τ c sh) = zW cA ad τ := by
  apply List.ext_getElem?
  intro k
  have hl : c < (zW cA ad σ).length := (List.getElem?_eq_some_iff.mp (zW_at (cA := cA) (ad := ad) (σ := σ) hc)).1
  by_cases hk : k = c
  · subst hk
    rw [List.getElem?_set_self hl, zW_at hc]
  · rw [List.getElem?_set_ne (Ne.symm hk)]
    unfold zW
    rw [List.getElem?_mapIdx, List.getElem?_mapIdx]
    cases hs : zS[k]? with
    | none => rfl
    | some s2 =>
      show some (ad k, zE cA ad σ k s2) = some (ad k, zE cA ad τ k s2)
      rw [zE_ne (hn k hk)]
theorem zE_put {cA : FieldType → ClassId} {ad : Nat → Nat} {σ : zSt} {c ci j : Nat} {fs : List (Option Nat)} {v : Int32} (hj : fs[j]? = some none) : (Sum.inr (ci, (fs.mapIdx (fun j o => zVal ad σ c j o)).set j (.int v)) : va_E) = zE cA ad (zup σ c j v) c (.inr (ci, fs)) := by
  unfold zE
  congr 2
  apply List.ext_getElem?
  intro k
  have hl : j < (fs.mapIdx (fun j o => zVal ad σ c j o)).length := by
    rw [List.length_mapIdx]
    exact (List.getElem?_eq_some_iff.mp hj).1
  by_cases hk : k = j
  · subst hk
    rw [List.getElem?_set_self hl, List.getElem?_mapIdx, hj]
    show some (Value.int v) = some (Value.int (zup σ c k v c k))
    simp [zup]
  · rw [List.getElem?_set_ne (Ne.symm hk), List.getElem?_mapIdx, List.getElem?_mapIdx]
    cases hs : fs[k]? with
    | none => rfl
    | some o =>
      cases o with
      | none =>
        show some (Value.int (σ c k)) = some (Value.int (zup σ c j v c k))
        simp [zup, hk]
      | some r => rfl
theorem zE_sto {cA : FieldType → ClassId} {ad : Nat → Nat} {σ : zSt} {c i n : Nat} {ty : FieldType} {v : Int32} : (Sum.inl (cA ty, n, .inl (upd (σ c) i v)) : va_E) = zE cA ad (zup σ c i v) c (.inl (ty, n)) := by
  show _ = (Sum.inl (cA ty, n, .inl (zup σ c i v c)) : va_E)
  rw [zup_self]
/-! the machine's side -/
abbrev zG : Type := Launch × va_G × (FieldType → ClassId) × (Nat → Nat)
abbrev zM : Type := MethodName × ByteArray × Nat × Option FieldType
abbrev zX : Type := Program × Env × State × MethodId × Array Value × List Frame × Method × Code
abbrev zl (G : zG) : Launch := G.1
abbrev zD (G : zG) : va_G := G.2.1
abbrev zcA (G : zG) : FieldType → ClassId := G.2.2.1
abbrev zad (G : zG) : Nat → Nat := G.2.2.2
abbrev zf (G : zG) (k : Nat) : Value := .ref (G.2.2.2 k)
abbrev zp (X : zX) : Program := X.1
abbrev ze (X : zX) : Env := X.2.1
abbrev zs (X : zX) : State := X.2.2.1
abbrev zm (X : zX) : MethodId := X.2.2.2.1
abbrev za (X : zX) : Array Value := X.2.2.2.2.1
abbrev zbl (X : zX) : List Frame := X.2.2.2.2.2.1
abbrev zmt (X : zX) : Method := X.2.2.2.2.2.2.1
abbrev zc (X : zX) : Code := X.2.2.2.2.2.2.2
def zTys (G : zG) : List (ClassId × FieldType) := [(zcA G .int, .int), (zcA G .boolean, .boolean)]
def zKK (G : zG) (s : State) : Prop := va_K (zD G) zCl (zTys G) s
def zAd (G : zG) : Prop := ∀ i j, i < zS.length → j < zS.length → zad G i = zad G j → i = j
def zA (G : zG) (sz : Nat) : Nat → Prop := fun q => (∃ k, k < zS.length ∧ q = zad G k) ∨ sz ≤ q
def zTbl : List Cond := lw_tbl.filter goodWord
def zNestW : Cond → Bool
  | .fieldLinkNest _ _ _ _ _ _ => true
  | .methodLinkNest _ _ _ _ => true
  | _ => false
def zNst (U : State) : Prop := ∀ w ∈ lw_tbl, zNestW w = true → va_Nw w U
theorem zNst.warm {s U : State} (hW : s.WarmedH U.vm) (h : zNst s) : zNst U := by
  intro w hw hn
  have h1 := h w hw hn
  cases w <;> first | exact va_Nw.warmF hW h1 | exact va_Nw.warmM hW h1 | (exact absurd hn (by simp [zNestW]))
theorem zNst.same {s U : State} (hv : s.vm = U.vm) (h : zNst s) : zNst U := by
  intro w hw hn
  have h1 := h w hw hn
  cases w <;> first | exact va_Nw.same rfl hv h1 | (exact absurd hn (by simp [zNestW]))
def zWd (G : zG) (σ : zSt) (H : Heap) : Prop := va_P (zD G) zCl (zW (zcA G) (zad G) σ) H
def zPre (G : zG) (σ : zSt) (sz : Nat) (U : State) : Prop := U.heap.size = sz ∧ zWd G σ U.heap ∧ zKK G U ∧ zNst U ∧ zAd G
def zQc (G : zG) (sz : Nat) (post : Option Value → zSt → Prop) : Array Value → State → Outcome → State → Prop := fun _ st oc t => (∃ (r : Option Value) (τ : zSt), oc = .returned r ∧ post r τ ∧ zWd G τ t.heap) ∧ va_F (zA G sz) st t
def zRoom (d : Nat) : Room := { frames := d, cells := 0, slots := 0, locals := 48 * d }
def zWs (M : zM) : List Cond := .code M.1 M.2.1 M.2.2.1 M.2.2.2 :: zTbl
/-- M, called with as in the state σ, returns, with 'post answer state' -/
def zSpec (G : zG) (d : Nat) (M : zM) (as : List Value) (σ : zSt) (post : Option Value → zSt → Prop) : Prop := ∀ sz, Met (zl G) M.1 (zWs M) (zRoom d) (va_Pc as (zPre G σ sz)) (zQc G sz post) 0 0 (zA G sz)
abbrev zK : Type := Room × (Nat → Prop) × Nat × Nat × (State → Prop)
def zCtx (G : zG) (M : zM) (K : zK) (X : zX) : Prop := (zp X).tables.exec = Jvm.exec ∧ (zc X).code = M.2.1 ∧ (zc X).maxLocals = M.2.2.1 ∧ (zmt X).sig.returnType = M.2.2.2 ∧ (zs X).vm.findClass M.1.cls = some (zm X).cls ∧ (∀ w ∈ zTbl, w.before (za X) (zs X) = true) ∧ zKK G (zs X) ∧ zNst (zs X) ∧ zAd G ∧ (zmt X).locks = false ∧ (∀ k, k < zS.length → K.2.1 (zad G k)) ∧ (∀ q, (zs X).heap.size ≤ q → K.2.1 q)
def zQ (G : zG) (X : zX) (post : Option Value → zSt → Prop) : State → Prop := MQ (zbl X) (zQc G (zs X).heap.size post) (za X) (zs X) 0 0 (zA G (zs X).heap.size)
/-- the machine stands at pc of M with the locals lv, the stack st, the state σ, and comes to an end with K's Q -/
def zY (G : zG) (M : zM) (K : zK) (X : zX) (pc : Nat) (lv : List (Nat × Value)) (st : List Value) (σ : zSt) : Prop :=
  ∀ (ls : Array Slot) (H : Heap) (locs : List Loc), lv_has ls M.2.2.1 lv → zWd G σ H → va_S K.2.1 (zs X).heap H locs →
    W (zp X) (zl G) (ze X) K.1 (zs X) (zm X) (za X) (zbl X) (zmt X) (zc X) H locs K.2.2.1 K.2.2.2.1 K.2.2.2.2 (F0 (zm X) pc ls st)
/-- a method of depth d that is to end with post -/
abbrev zKm (G : zG) (d : Nat) (X : zX) (post : Option Value → zSt → Prop) : zK := (zRoom d, zA G (zs X).heap.size, 0, 0, zQ G X post)
abbrev zZ (G : zG) (M : zM) (d : Nat) (X : zX) (post : Option Value → zSt → Prop) (pc : Nat) (lv : List (Nat × Value)) (st : List Value) (σ : zSt) : Prop := zY G M (zKm G d X post) X pc lv st σ
theorem zD_of {G : zG} {A : Nat → Prop} (h : zAd G) (hA : ∀ k, k < zS.length → A (zad G k)) (σ : zSt) : va_D A (zW (zcA G) (zad G) σ) := by
  refine ⟨fun i j a b hi hj hab => ?_, fun k q hk => ?_⟩
  · have h1 := zW_of hi
    have h2 := zW_of hj
    exact h i j h1.1 h2.1 (by rw [← h1.2, ← h2.2]; exact hab)
  · have h1 := zW_of hk
    rw [h1.2]
    exact hA k h1.1
theorem zTbl_in {w : Cond} (h : w ∈ lw_tbl) (hg : goodWord w = true) : w ∈ zTbl := List.mem_filter.mpr ⟨h, hg⟩
theorem zGood {M : zM} (hc : Cond.code M.1 M.2.1 M.2.2.1 M.2.2.2 ∈ zTbl) : GoodIn zTbl (zWs M) := by
  intro w hw
  have h : w ∈ zTbl := by
    rcases List.mem_cons.mp hw with rfl | h
    · exact hc
    · exact h
  exact ⟨h, good_of_word (List.mem_filter.mp h).2⟩
theorem zBlind (G : zG) (as : List Value) (σ : zSt) (sz : Nat) : FrameBlind (va_Pc as (zPre G σ sz)) := by
  intro a U g mk h
  obtain ⟨h0, h1, h2, h3, h4, h5⟩ := h
  exact ⟨h0, h1, h2, va_K.moved (u := U) (U := U.calling g mk a) (Vm.Alike.refl U.vm) h3, zNst.same (s := U) (U := U.calling g mk a) rfl h4, h5⟩
theorem zSpec.of {G : zG} {d : Nat} {M : zM} {as : List Value} {σ : zSt} {post : Option Value → zSt → Prop} {lv : List (Nat × Value)} (hy : plainName M.1.cls = true) (hn : (lg_sl as).length ≤ M.2.2.1) (hlv : lv_args 0 as = lv)
    (body : ∀ X, zCtx G M (zKm G d X post) X → zZ G M d X post 0 lv [] σ) : zSpec G d M as σ post := by
  intro sz
  refine Met.ofW (cc := M.2.1) (maxL := M.2.2.1) (ret := M.2.2.2) hy rfl ?_
  intro p e s m args below meth c s₁ B hml hv
  obtain ⟨rfl, hsz, hP, hK, hN, hA⟩ := hv
  subst hsz
  have hts := atoms_spec (ws := zWs M) B.pre
  have hl := lv_entry as (n := M.2.2.1) hn
  rw [hlv] at hl
  rw [lg_entry_eq]
  exact body (p, e, s, m, as.toArray, below, meth, c) ⟨B.exec, B.bytes, hml, B.returns, findClass_of_methodNamed B.named, fun w hw => hts w (List.mem_cons_of_mem _ hw), hK, hN, hA, B.notSynchronized, fun k hk => Or.inl ⟨k, hk, rfl⟩, fun q hq => Or.inr hq⟩ _ _ _ hl hP va_S.rf
theorem zSpec.mono {G : zG} {d : Nat} {M : zM} {as : List Value} {σ : zSt} {post post' : Option Value → zSt → Prop} (h : zSpec G d M as σ post) (hp : ∀ r τ, post r τ → post' r τ) : zSpec G d M as σ post' := by
  intro sz p e ha hc hk s m args below hf hroom hP hK
  obtain ⟨k, o, h1, h2, h3, ⟨⟨⟨r, τ, g1, g2, g3⟩, g4⟩, g5⟩⟩ := h sz p e ha hc hk s m args below hf hroom hP hK
  exact ⟨k, o, h1, h2, h3, ⟨⟨⟨r, τ, g1, hp r τ g2, g3⟩, g4⟩, g5⟩⟩
section ZR
variable {G : zG} {M : zM} {K : zK} {d : Nat} {X : zX} {post : Option Value → zSt → Prop} {pc : Nat} {lv : List (Nat × Value)} {st : List Value} {σ : zSt}
theorem zZ.sub (ks : List Nat) {lv' : List (Nat × Value)} (hl : lv_pick lv ks = lv') (k : zY G M K X pc lv' st σ) : zY G M K X pc lv st σ := fun ls H locs h hP hS => k ls H locs (lv_sub h ks hl) hP hS
theorem zZ.to {pc' : Nat} {lv' : List (Nat × Value)} {st' : List Value} {τ : zSt} (k : zY G M K X pc' lv' st' τ) (h1 : pc = pc') (h2 : lv = lv') (h3 : st = st') (h4 : σ = τ) : zY G M K X pc lv st σ := by subst h1; subst h2; subst h3; subst h4; exact k
theorem z_iconst (E : zCtx G M K X) {n : Int} {v : Int32} (hd : decode M.2.1 pc = .ok (.iconst n, 1)) (hv : Int32.ofInt n = v) (k : zY G M K X (pc + 1) lv (.int v :: st) σ) : zY G M K X pc lv st σ := fun ls H locs h hP hS => lv_iconst E.1 E.2.1 hd hv (k ls H locs h hP hS)
theorem z_bipush (E : zCtx G M K X) {n : Int} {v : Int32} (hd : decode M.2.1 pc = .ok (.bipush n, 2)) (hv : (Int8.ofInt n).toInt32 = v) (k : zY G M K X (pc + 2) lv (.int v :: st) σ) : zY G M K X pc lv st σ := fun ls H locs h hP hS => lv_bipush E.1 E.2.1 hd hv (k ls H locs h hP hS)
theorem z_sipush (E : zCtx G M K X) {n : Int} {v : Int32} (hd : decode M.2.1 pc = .ok (.sipush n, 3)) (hv : (Int16.ofInt n).toInt32 = v) (k : zY G M K X (pc + 3) lv (.int v :: st) σ) : zY G M K X pc lv st σ := fun ls H locs h hP hS => lv_sipush E.1 E.2.1 hd hv (k ls H locs h hP hS)
theorem z_lconst (E : zCtx G M K X) {n : Fin 2} {v : Int64} (hd : decode M.2.1 pc = .ok (.lconst n, 1)) (hv : Int64.ofNat (n : Nat) = v) (k : zY G M K X (pc + 1) lv (.long v :: st) σ) : zY G M K X pc lv st σ := fun ls H locs h hP hS => lv_lconst E.1 E.2.1 hd hv (k ls H locs h hP hS)
theorem z_iload_n (E : zCtx G M K X) (q : Nat) {j : Fin 4} {i : Nat} {x : Int32} (hd : decode M.2.1 pc = .ok (.iload_n j, 1)) (hi : (j : Nat) = i) (hq : lv[q]? = some (i, .int x)) (k : zY G M K X (pc + 1) lv (.int x :: st) σ) : zY G M K X pc lv st σ := fun ls H locs h hP hS => lv_iload_n E.1 E.2.1 hd hi (lv_at h q hq) (k ls H locs h hP hS)
theorem z_iload (E : zCtx G M K X) (q : Nat) {i : Nat} {x : Int32} (hd : decode M.2.1 pc = .ok (.iload i, 2)) (hq : lv[q]? = some (i, .int x)) (k : zY G M K X (pc + 2) lv (.int x :: st) σ) : zY G M K X pc lv st σ := fun ls H locs h hP hS => lv_iload E.1 E.2.1 hd (lv_at h q hq) (k ls H locs h hP hS)
theorem z_lload_n (E : zCtx G M K X) (q : Nat) {j : Fin 4} {i : Nat} {x : Int64} (hd : decode M.2.1 pc = .ok (.lload_n j, 1)) (hi : (j : Nat) = i) (hq : lv[q]? = some (i, .long x)) (k : zY G M K X (pc + 1) lv (.long x :: st) σ) : zY G M K X pc lv st σ := fun ls H locs h hP hS => lv_lload_n E.1 E.2.1 hd hi (lv_at h q hq) (k ls H locs h hP hS)
theorem z_lload (E : zCtx G M K X) (q : Nat) {i : Nat} {x : Int64} (hd : decode M.2.1 pc = .ok (.lload i, 2)) (hq : lv[q]? = some (i, .long x)) (k : zY G M K X (pc + 2) lv (.long x :: st) σ) : zY G M K X pc lv st σ := fun ls H locs h hP hS => lv_lload E.1 E.2.1 hd (lv_at h q hq) (k ls H locs h hP hS)
theorem z_aload_n (E : zCtx G M K X) (q : Nat) {j : Fin 4} {i : Nat} {x : Nat} (hd : decode M.2.1 pc = .ok (.aload_n j, 1)) (hi : (j : Nat) = i) (hq : lv[q]? = some (i, .ref x)) (k : zY G M K X (pc + 1) lv (.ref x :: st) σ) : zY G M K X pc lv st σ := fun ls H locs h hP hS => lv_aload_n E.1 E.2.1 hd hi (lv_at h q hq) (k ls H locs h hP hS)
theorem z_aload (E : zCtx G M K X) (q : Nat) {i : Nat} {x : Nat} (hd : decode M.2.1 pc = .ok (.aload i, 2)) (hq : lv[q]? = some (i, .ref x)) (k : zY G M K X (pc + 2) lv (.ref x :: st) σ) : zY G M K X pc lv st σ := fun ls H locs h hP hS => lv_aload E.1 E.2.1 hd (lv_at h q hq) (k ls H locs h hP hS)
theorem z_istore_n (E : zCtx G M K X) (ks : List Nat) {j : Fin 4} {i : Nat} {x : Int32} {lv' : List (Nat × Value)} (hd : decode M.2.1 pc = .ok (.istore_n j, 1)) (hi : (j : Nat) = i) (hn : i < M.2.2.1) (hl : lv_pick ((i, Value.int x) :: lv.filter (fun q => !(q.1 == i) && !(q.1 + 1 == i && q.2.category == 2))) ks = lv') (k : zY G M K X (pc + 1) lv' st σ) : zY G M K X pc lv (.int x :: st) σ := fun ls H locs h hP hS => lv_istore_n E.1 E.2.1 hd hi h hn rfl (fun ls' h' => k ls' H locs (lv_sub h' ks hl) hP hS)
theorem z_istore (E : zCtx G M K X) (ks : List Nat) {i : Nat} {x : Int32} {lv' : List (Nat × Value)} (hd : decode M.2.1 pc = .ok (.istore i, 2)) (hn : i < M.2.2.1) (hl : lv_pick ((i, Value.int x) :: lv.filter (fun q => !(q.1 == i) && !(q.1 + 1 == i && q.2.category == 2))) ks = lv') (k : zY G M K X (pc + 2) lv' st σ) : zY G M K X pc lv (.int x :: st) σ := fun ls H locs h hP hS => lv_istore E.1 E.2.1 hd h hn rfl (fun ls' h' => k ls' H locs (lv_sub h' ks hl) hP hS)
theorem z_lstore_n (E : zCtx G M K X) (ks : List Nat) {j : Fin 4} {i : Nat} {x : Int64} {lv' : List (Nat × Value)} (hd : decode M.2.1 pc = .ok (.lstore_n j, 1)) (hi : (j : Nat) = i) (hn : i + 1 < M.2.2.1) (hl : lv_pick ((i, Value.long x) :: lv.filter (fun q => !(q.1 == i) && (!(q.1 == i + 1) && !(q.1 + 1 == i && q.2.category == 2)))) ks = lv') (k : zY G M K X (pc + 1) lv' st σ) : zY G M K X pc lv (.long x :: st) σ := fun ls H locs h hP hS => lv_lstore_n E.1 E.2.1 hd hi h hn rfl (fun ls' h' => k ls' H locs (lv_sub h' ks hl) hP hS)
theorem z_lstore (E : zCtx G M K X) (ks : List Nat) {i : Nat} {x : Int64} {lv' : List (Nat × Value)} (hd : decode M.2.1 pc = .ok (.lstore i, 2)) (hn : i + 1 < M.2.2.1) (hl : lv_pick ((i, Value.long x) :: lv.filter (fun q => !(q.1 == i) && (!(q.1 == i + 1) && !(q.1 + 1 == i && q.2.category == 2)))) ks = lv') (k : zY G M K X (pc + 2) lv' st σ) : zY G M K X pc lv (.long x :: st) σ := fun ls H locs h hP hS => lv_lstore E.1 E.2.1 hd h hn rfl (fun ls' h' => k ls' H locs (lv_sub h' ks hl) hP hS)
theorem z_astore_n (E : zCtx G M K X) (ks : List Nat) {j : Fin 4} {i : Nat} {x : Nat} {lv' : List (Nat × Value)} (hd : decode M.2.1 pc = .ok (.astore_n j, 1)) (hi : (j : Nat) = i) (hn : i < M.2.2.1) (hl : lv_pick ((i, Value.ref x) :: lv.filter (fun q => !(q.1 == i) && !(q.1 + 1 == i && q.2.category == 2))) ks = lv') (k : zY G M K X (pc + 1) lv' st σ) : zY G M K X pc lv (.ref x :: st) σ := fun ls H locs h hP hS => lv_astore_n E.1 E.2.1 hd hi h hn rfl (fun ls' h' => k ls' H locs (lv_sub h' ks hl) hP hS)
theorem z_astore (E : zCtx G M K X) (ks : List Nat) {i : Nat} {x : Nat} {lv' : List (Nat × Value)} (hd : decode M.2.1 pc = .ok (.astore i, 2)) (hn : i < M.2.2.1) (hl : lv_pick ((i, Value.ref x) :: lv.filter (fun q => !(q.1 == i) && !(q.1 + 1 == i && q.2.category == 2))) ks = lv') (k : zY G M K X (pc + 2) lv' st σ) : zY G M K X pc lv (.ref x :: st) σ := fun ls H locs h hP hS => lv_astore E.1 E.2.1 hd h hn rfl (fun ls' h' => k ls' H locs (lv_sub h' ks hl) hP hS)
theorem z_iinc (E : zCtx G M K X) (q : Nat) (ks : List Nat) {i : Nat} {n : Int} {x v : Int32} {lv' : List (Nat × Value)} (hd : decode M.2.1 pc = .ok (.iinc i n, 3)) (hq : lv[q]? = some (i, .int x)) (hv : x + Int32.ofInt n = v) (hn : i < M.2.2.1) (hl : lv_pick ((i, Value.int v) :: lv.filter (fun q => !(q.1 == i) && !(q.1 + 1 == i && q.2.category == 2))) ks = lv') (k : zY G M K X (pc + 3) lv' st σ) : zY G M K X pc lv st σ := fun ls H locs h hP hS => lv_iinc E.1 E.2.1 hd h hq hv hn rfl (fun ls' h' => k ls' H locs (lv_sub h' ks hl) hP hS)
theorem z_iadd (E : zCtx G M K X) {x y : Int32} (hd : decode M.2.1 pc = .ok (.iadd, 1)) (k : zY G M K X (pc + 1) lv (.int (x + y) :: st) σ) : zY G M K X pc lv (.int y :: .int x :: st) σ := fun ls H locs h hP hS => lv_iadd E.1 E.2.1 hd (k ls H locs h hP hS)
theorem z_isub (E : zCtx G M K X) {x y : Int32} (hd : decode M.2.1 pc = .ok (.isub, 1)) (k : zY G M K X (pc + 1) lv (.int (x - y) :: st) σ) : zY G M K X pc lv (.int y :: .int x :: st) σ := fun ls H locs h hP hS => lv_isub E.1 E.2.1 hd (k ls H locs h hP hS)
theorem z_imul (E : zCtx G M K X) {x y : Int32} (hd : decode M.2.1 pc = .ok (.imul, 1)) (k : zY G M K X (pc + 1) lv (.int (x * y) :: st) σ) : zY G M K X pc lv (.int y :: .int x :: st) σ := fun ls H locs h hP hS => lv_imul E.1 E.2.1 hd (k ls H locs h hP hS)
theorem z_iand (E : zCtx G M K X) {x y : Int32} (hd : decode M.2.1 pc = .ok (.iand, 1)) (k : zY G M K X (pc + 1) lv (.int (x &&& y) :: st) σ) : zY G M K X pc lv (.int y :: .int x :: st) σ := fun ls H locs h hP hS => lv_iand E.1 E.2.1 hd (k ls H locs h hP hS)
theorem z_ior (E : zCtx G M K X) {x y : Int32} (hd : decode M.2.1 pc = .ok (.ior, 1)) (k : zY G M K X (pc + 1) lv (.int (x ||| y) :: st) σ) : zY G M K X pc lv (.int y :: .int x :: st) σ := fun ls H locs h hP hS => lv_ior E.1 E.2.1 hd (k ls H locs h hP hS)
theorem z_ixor (E : zCtx G M K X) {x y : Int32} (hd : decode M.2.1 pc = .ok (.ixor, 1)) (k : zY G M K X (pc + 1) lv (.int (x ^^^ y) :: st) σ) : zY G M K X pc lv (.int y :: .int x :: st) σ := fun ls H locs h hP hS => lv_ixor E.1 E.2.1 hd (k ls H locs h hP hS)
theorem z_ladd (E : zCtx G M K X) {x y : Int64} (hd : decode M.2.1 pc = .ok (.ladd, 1)) (k : zY G M K X (pc + 1) lv (.long (x + y) :: st) σ) : zY G M K X pc lv (.long y :: .long x :: st) σ := fun ls H locs h hP hS => lv_ladd E.1 E.2.1 hd (k ls H locs h hP hS)
theorem z_lmul (E : zCtx G M K X) {x y : Int64} (hd : decode M.2.1 pc = .ok (.lmul, 1)) (k : zY G M K X (pc + 1) lv (.long (x * y) :: st) σ) : zY G M K X pc lv (.long y :: .long x :: st) σ := fun ls H locs h hP hS => lv_lmul E.1 E.2.1 hd (k ls H locs h hP hS)
theorem z_land (E : zCtx G M K X) {x y : Int64} (hd : decode M.2.1 pc = .ok (.land, 1)) (k : zY G M K X (pc + 1) lv (.long (x &&& y) :: st) σ) : zY G M K X pc lv (.long y :: .long x :: st) σ := fun ls H locs h hP hS => lv_land E.1 E.2.1 hd (k ls H locs h hP hS)
theorem z_ishl (E : zCtx G M K X) {x y : Int32} (hd : decode M.2.1 pc = .ok (.ishl, 1)) (k : zY G M K X (pc + 1) lv (.int (x <<< (y &&& 31)) :: st) σ) : zY G M K X pc lv (.int y :: .int x :: st) σ := fun ls H locs h hP hS => lv_ishl E.1 E.2.1 hd (k ls H locs h hP hS)
theorem z_ishr (E : zCtx G M K X) {x y : Int32} (hd : decode M.2.1 pc = .ok (.ishr, 1)) (k : zY G M K X (pc + 1) lv (.int (x >>> (y &&& 31)) :: st) σ) : zY G M K X pc lv (.int y :: .int x :: st) σ := fun ls H locs h hP hS => lv_ishr E.1 E.2.1 hd (k ls H locs h hP hS)
theorem z_irem (E : zCtx G M K X) {x y : Int32} (hd : decode M.2.1 pc = .ok (.irem, 1)) (hne : ¬ y = 0) (k : zY G M K X (pc + 1) lv (.int (x - x / y * y) :: st) σ) : zY G M K X pc lv (.int y :: .int x :: st) σ := fun ls H locs h hP hS => lv_irem E.1 E.2.1 hd hne (k ls H locs h hP hS)
theorem z_lrem (E : zCtx G M K X) {x y : Int64} (hd : decode M.2.1 pc = .ok (.lrem, 1)) (hne : ¬ y = 0) (k : zY G M K X (pc + 1) lv (.long (x - x / y * y) :: st) σ) : zY G M K X pc lv (.long y :: .long x :: st) σ := fun ls H locs h hP hS => lv_lrem E.1 E.2.1 hd hne (k ls H locs h hP hS)
theorem z_iushr (E : zCtx G M K X) {x y v : Int32} (hd : decode M.2.1 pc = .ok (.iushr, 1)) (hv : (x.toUInt32 >>> (y.toUInt32 &&& Int32.toUInt32 31)).toInt32 = v) (k : zY G M K X (pc + 1) lv (.int v :: st) σ) : zY G M K X pc lv (.int y :: .int x :: st) σ := fun ls H locs h hP hS => lv_iushr E.1 E.2.1 hd hv (k ls H locs h hP hS)
theorem z_i2l (E : zCtx G M K X) {x : Int32} (hd : decode M.2.1 pc = .ok (.i2l, 1)) (k : zY G M K X (pc + 1) lv (.long x.toInt64 :: st) σ) : zY G M K X pc lv (.int x :: st) σ := fun ls H locs h hP hS => lv_i2l E.1 E.2.1 hd rfl (k ls H locs h hP hS)
theorem z_l2i (E : zCtx G M K X) {x : Int64} (hd : decode M.2.1 pc = .ok (.l2i, 1)) (k : zY G M K X (pc + 1) lv (.int x.toInt32 :: st) σ) : zY G M K X pc lv (.long x :: st) σ := fun ls H locs h hP hS => lv_l2i E.1 E.2.1 hd rfl (k ls H locs h hP hS)
theorem z_dup (E : zCtx G M K X) {va : Value} (hd : decode M.2.1 pc = .ok (.dup, 1)) (hva : va.category = 1) (k : zY G M K X (pc + 1) lv (va :: va :: st) σ) : zY G M K X pc lv (va :: st) σ := fun ls H locs h hP hS => lv_dup E.1 E.2.1 hd hva (k ls H locs h hP hS)
theorem z_pop (E : zCtx G M K X) {va : Value} (hd : decode M.2.1 pc = .ok (.pop, 1)) (hva : va.category = 1) (k : zY G M K X (pc + 1) lv st σ) : zY G M K X pc lv (va :: st) σ := fun ls H locs h hP hS => lv_pop E.1 E.2.1 hd hva (k ls H locs h hP hS)
theorem z_dup2 (E : zCtx G M K X) {va vb : Value} (hd : decode M.2.1 pc = .ok (.dup2, 1)) (hva : va.category = 1) (hvb : vb.category = 1) (k : zY G M K X (pc + 1) lv (va :: vb :: va :: vb :: st) σ) : zY G M K X pc lv (va :: vb :: st) σ := fun ls H locs h hP hS => lv_dup2_11 E.1 E.2.1 hd hva hvb (k ls H locs h hP hS)
theorem z_if_eq (E : zCtx G M K X) {x : Int32} {off : Int} {tgt : Nat} (hd : decode M.2.1 pc = .ok (.ifCond .eq off, 3)) (ht : (pc : Int) + off = (tgt : Int)) (k : (x = 0 → zY G M K X tgt lv st σ) ∧ (¬ x = 0 → zY G M K X (pc + 3) lv st σ)) : zY G M K X pc lv (.int x :: st) σ := fun ls H locs h hP hS => lv_if_eq E.1 E.2.1 hd ht (fun q => k.1 q ls H locs h hP hS) (fun q => k.2 q ls H locs h hP hS)
theorem z_if_ne (E : zCtx G M K X) {x : Int32} {off : Int} {tgt : Nat} (hd : decode M.2.1 pc = .ok (.ifCond .ne off, 3)) (ht : (pc : Int) + off = (tgt : Int)) (k : (¬ x = 0 → zY G M K X tgt lv st σ) ∧ (x = 0 → zY G M K X (pc + 3) lv st σ)) : zY G M K X pc lv (.int x :: st) σ := fun ls H locs h hP hS => lv_if_ne E.1 E.2.1 hd ht (fun q => k.1 q ls H locs h hP hS) (fun q => k.2 q ls H locs h hP hS)
theorem z_if_lt (E : zCtx G M K X) {x : Int32} {off : Int} {tgt : Nat} (hd : decode M.2.1 pc = .ok (.ifCond .lt off, 3)) (ht : (pc : Int) + off = (tgt : Int)) (k : (x < 0 → zY G M K X tgt lv st σ) ∧ (¬ x < 0 → zY G M K X (pc + 3) lv st σ)) : zY G M K X pc lv (.int x :: st) σ := fun ls H locs h hP hS => lv_if_lt E.1 E.2.1 hd ht (fun q => k.1 q ls H locs h hP hS) (fun q => k.2 q ls H locs h hP hS)
theorem z_if_ge (E : zCtx G M K X) {x : Int32} {off : Int} {tgt : Nat} (hd : decode M.2.1 pc = .ok (.ifCond .ge off, 3)) (ht : (pc : Int) + off = (tgt : Int)) (k : (0 ≤ x → zY G M K X tgt lv st σ) ∧ (¬ 0 ≤ x → zY G M K X (pc + 3) lv st σ)) : zY G M K X pc lv (.int x :: st) σ := fun ls H locs h hP hS => lv_if_ge E.1 E.2.1 hd ht (fun q => k.1 q ls H locs h hP hS) (fun q => k.2 q ls H locs h hP hS)
theorem z_if_gt (E : zCtx G M K X) {x : Int32} {off : Int} {tgt : Nat} (hd : decode M.2.1 pc = .ok (.ifCond .gt off, 3)) (ht : (pc : Int) + off = (tgt : Int)) (k : (0 < x → zY G M K X tgt lv st σ) ∧ (¬ 0 < x → zY G M K X (pc + 3) lv st σ)) : zY G M K X pc lv (.int x :: st) σ := fun ls H locs h hP hS => lv_if_gt E.1 E.2.1 hd ht (fun q => k.1 q ls H locs h hP hS) (fun q => k.2 q ls H locs h hP hS)
theorem z_if_le (E : zCtx G M K X) {x : Int32} {off : Int} {tgt : Nat} (hd : decode M.2.1 pc = .ok (.ifCond .le off, 3)) (ht : (pc : Int) + off = (tgt : Int)) (k : (x ≤ 0 → zY G M K X tgt lv st σ) ∧ (¬ x ≤ 0 → zY G M K X (pc + 3) lv st σ)) : zY G M K X pc lv (.int x :: st) σ := fun ls H locs h hP hS => lv_if_le E.1 E.2.1 hd ht (fun q => k.1 q ls H locs h hP hS) (fun q => k.2 q ls H locs h hP hS)
theorem z_icmp_eq (E : zCtx G M K X) {x y : Int32} {off : Int} {tgt : Nat} (hd : decode M.2.1 pc = .ok (.if_icmp .eq off, 3)) (ht : (pc : Int) + off = (tgt : Int)) (k : (x = y → zY G M K X tgt lv st σ) ∧ (¬ x = y → zY G M K X (pc + 3) lv st σ)) : zY G M K X pc lv (.int y :: .int x :: st) σ := fun ls H locs h hP hS => lv_icmp_eq E.1 E.2.1 hd ht (fun q => k.1 q ls H locs h hP hS) (fun q => k.2 q ls H locs h hP hS)
theorem z_icmp_ne (E : zCtx G M K X) {x y : Int32} {off : Int} {tgt : Nat} (hd : decode M.2.1 pc = .ok (.if_icmp .ne off, 3)) (ht : (pc : Int) + off = (tgt : Int)) (k : (¬ x = y → zY G M K X tgt lv st σ) ∧ (x = y → zY G M K X (pc + 3) lv st σ)) : zY G M K X pc lv (.int y :: .int x :: st) σ := fun ls H locs h hP hS => lv_icmp_ne E.1 E.2.1 hd ht (fun q => k.1 q ls H locs h hP hS) (fun q => k.2 q ls H locs h hP hS)
theorem z_icmp_lt (E : zCtx G M K X) {x y : Int32} {off : Int} {tgt : Nat} (hd : decode M.2.1 pc = .ok (.if_icmp .lt off, 3)) (ht : (pc : Int) + off = (tgt : Int)) (k : (x < y → zY G M K X tgt lv st σ) ∧ (¬ x < y → zY G M K X (pc + 3) lv st σ)) : zY G M K X pc lv (.int y :: .int x :: st) σ := fun ls H locs h hP hS => lv_icmp_lt E.1 E.2.1 hd ht (fun q => k.1 q ls H locs h hP hS) (fun q => k.2 q ls H locs h hP hS)
theorem z_icmp_ge (E : zCtx G M K X) {x y : Int32} {off : Int} {tgt : Nat} (hd : decode M.2.1 pc = .ok (.if_icmp .ge off, 3)) (ht : (pc : Int) + off = (tgt : Int)) (k : (y ≤ x → zY G M K X tgt lv st σ) ∧ (¬ y ≤ x → zY G M K X (pc + 3) lv st σ)) : zY G M K X pc lv (.int y :: .int x :: st) σ := fun ls H locs h hP hS => lv_icmp_ge E.1 E.2.1 hd ht (fun q => k.1 q ls H locs h hP hS) (fun q => k.2 q ls H locs h hP hS)
theorem z_icmp_gt (E : zCtx G M K X) {x y : Int32} {off : Int} {tgt : Nat} (hd : decode M.2.1 pc = .ok (.if_icmp .gt off, 3)) (ht : (pc : Int) + off = (tgt : Int)) (k : (y < x → zY G M K X tgt lv st σ) ∧ (¬ y < x → zY G M K X (pc + 3) lv st σ)) : zY G M K X pc lv (.int y :: .int x :: st) σ := fun ls H locs h hP hS => lv_icmp_gt E.1 E.2.1 hd ht (fun q => k.1 q ls H locs h hP hS) (fun q => k.2 q ls H locs h hP hS)
theorem z_icmp_le (E : zCtx G M K X) {x y : Int32} {off : Int} {tgt : Nat} (hd : decode M.2.1 pc = .ok (.if_icmp .le off, 3)) (ht : (pc : Int) + off = (tgt : Int)) (k : (x ≤ y → zY G M K X tgt lv st σ) ∧ (¬ x ≤ y → zY G M K X (pc + 3) lv st σ)) : zY G M K X pc lv (.int y :: .int x :: st) σ := fun ls H locs h hP hS => lv_icmp_le E.1 E.2.1 hd ht (fun q => k.1 q ls H locs h hP hS) (fun q => k.2 q ls H locs h hP hS)
theorem z_goto (E : zCtx G M K X) {off : Int} {tgt : Nat} (hd : decode M.2.1 pc = .ok (.goto off, 3)) (ht : (pc : Int) + off = (tgt : Int)) (k : zY G M K X tgt lv st σ) : zY G M K X pc lv st σ := fun ls H locs h hP hS => lv_goto E.1 E.2.1 hd ht (k ls H locs h hP hS)
def zb (b : Bool) : Int32 := if b then 1 else 0
theorem zb_0 {b : Bool} : zb b = 0 ↔ b = false := by cases b <;> simp [zb]
theorem zb_nar (b : Bool) : narrow .boolean (.int (zb b)) = .int (zb b) := by cases b <;> rfl
theorem z_ifz_eq (E : zCtx G M K X) {b : Bool} {off : Int} {tgt : Nat} (hd : decode M.2.1 pc = .ok (.ifCond .eq off, 3)) (ht : (pc : Int) + off = (tgt : Int)) (k : (b = false → zY G M K X tgt lv st σ) ∧ (b = true → zY G M K X (pc + 3) lv st σ)) : zY G M K X pc lv (.int (zb b) :: st) σ := z_if_eq E hd ht ⟨fun q => k.1 (zb_0.mp q), fun q => k.2 (by cases b with | false => exact absurd rfl q | true => rfl)⟩
theorem z_ifz_ne (E : zCtx G M K X) {b : Bool} {off : Int} {tgt : Nat} (hd : decode M.2.1 pc = .ok (.ifCond .ne off, 3)) (ht : (pc : Int) + off = (tgt : Int)) (k : (b = true → zY G M K X tgt lv st σ) ∧ (b = false → zY G M K X (pc + 3) lv st σ)) : zY G M K X pc lv (.int (zb b) :: st) σ := z_if_ne E hd ht ⟨fun q => k.1 (by cases b with | false => exact absurd rfl q | true => rfl), fun q => k.2 (zb_0.mp q)⟩
theorem z_table (E : zCtx G M K X) {dflt lo hi : Int} {offs : Array Int} {len : Nat} {x : Int32} {tO : Nat} {tgts : List Nat} (hd : decode M.2.1 pc = .ok (.tableswitch dflt lo hi offs, len)) (hts : offs.toList.map (fun o => (pc : Int) + o) = tgts.map (fun t : Nat => (t : Int))) (hO : (pc : Int) + dflt = (tO : Int)) (hhi : hi = lo + offs.toList.length - 1) (k : (∀ (j t : Nat), tgts[j]? = some t → x.toInt = lo + j → zY G M K X t lv st σ) ∧ ((x.toInt < lo ∨ hi < x.toInt) → zY G M K X tO lv st σ)) : zY G M K X pc lv (.int x :: st) σ := by
  intro ls H locs h hP hS
  by_cases h1 : x.toInt < lo
  · exact lv_tableOut E.1 E.2.1 hd (Or.inl h1) hO (k.2 (Or.inl h1) ls H locs h hP hS)
  · by_cases h2 : hi < x.toInt
    · exact lv_tableOut E.1 E.2.1 hd (Or.inr h2) hO (k.2 (Or.inr h2) ls H locs h hP hS)
    · have hj : (x.toInt - lo).toNat < offs.toList.length := by omega
      have e1 : (offs.toList.map (fun o => (pc : Int) + o))[(x.toInt - lo).toNat]? = some ((pc : Int) + offs.toList[(x.toInt - lo).toNat]) := by
        rw [List.getElem?_map, List.getElem?_eq_getElem hj]; rfl
      rw [hts, List.getElem?_map] at e1
      cases ht : tgts[(x.toInt - lo).toNat]? with
      | none => rw [ht] at e1; cases e1
      | some t =>
        rw [ht] at e1
        have e2 : ((t : Nat) : Int) = (pc : Int) + offs.toList[(x.toInt - lo).toNat] := Option.some.inj e1
        refine lv_tableIn E.1 E.2.1 hd h1 h2 (off := offs.toList[(x.toInt - lo).toNat]) ?_ e2.symm (k.1 _ t ht (by omega) ls H locs h hP hS)
        rw [← Array.getElem?_toList]
        exact List.getElem?_eq_getElem hj
theorem z_tcons {P : Nat → Nat → Prop} {t : Nat} {l : List Nat} (h : P 0 t) (hl : ∀ (j u : Nat), l[j]? = some u → P (j + 1) u) : ∀ (j u : Nat), (t :: l)[j]? = some u → P j u := by
  intro j u hj
  cases j with
  | zero => cases hj; exact h
  | succ n => exact hl n u hj
theorem z_tnil {P : Nat → Nat → Prop} : ∀ (j u : Nat), ([] : List Nat)[j]? = some u → P j u := by
  intro j u hj
  cases hj
/-- the field of the pool's place 'index' in class own is slot j of the cell c: an int (none) or a reference to the cell r (some r) -/
def zFld (own : String) (index c j : Nat) (o : Option Nat) : Prop := ∃ (ci : Nat) (fs : List (Option Nat)) (C : String) (T : u_T) (N : Nat), zS[c]? = some (.inr (ci, fs)) ∧ zCl[ci]? = some (C, T, N) ∧ (∀ w ∈ u_ws C T N, w ∈ zTbl) ∧ fs[j]? = some o ∧ j < N ∧ (Cond.fieldLink own index (T j).1 (T j).2.1 (T j).2.2.1 ∈ zTbl ∨ ∃ host, Cond.fieldLinkNest own index (T j).1 (T j).2.1 (T j).2.2.1 host ∈ lw_tbl)
/-- .. and it may be written, with values of the type ty -/
def zFldW (own : String) (index c j : Nat) (ty : FieldType) : Prop := ∃ (ci : Nat) (fs : List (Option Nat)) (C : String) (T : u_T) (N : Nat) (ty0 : Nat → FieldType), zS[c]? = some (.inr (ci, fs)) ∧ zCl[ci]? = some (C, T, N) ∧ (∀ w ∈ u_ws C T N, w ∈ zTbl) ∧ fs[j]? = some none ∧ j < N ∧ (Cond.fieldLink own index (T j).1 (T j).2.1 (T j).2.2.1 ∈ zTbl ∨ ∃ host, Cond.fieldLinkNest own index (T j).1 (T j).2.1 (T j).2.2.1 host ∈ lw_tbl) ∧ (∀ k, k < N → parseFieldDescriptor (T k).2.2.1 = some (ty0 k)) ∧ (∀ a, a < N → ∀ b, b < N → a ≠ b → (T a).2.1 ≠ (T b).2.1) ∧ (T j).2.2.2 = false ∧ parseFieldDescriptor (T j).2.2.1 = some ty
theorem z_getI (E : zCtx G M K X) {index c j : Nat} (hf : zFld M.1.cls index c j none) (hd : decode M.2.1 pc = .ok (.getfield index, 3)) (k : zY G M K X (pc + 3) lv (.int (σ c j) :: st) σ) : zY G M K X pc lv (zf G c :: st) σ := by
  obtain ⟨ci, fs, C, T, N, h1, h2, h3, h4, h5, h6⟩ := hf
  intro ls H locs h hP hS
  have he := zW_at (cA := zcA G) (ad := zad G) (σ := σ) h1
  have hv : (fs.mapIdx (fun j o => zVal (zad G) σ c j o))[j]? = some (.int (σ c j)) := by
    rw [List.getElem?_mapIdx, h4]; rfl
  rcases h6 with h6 | ⟨host, h6⟩
  · exact va_get (D := zD G) (cl := zCl) E.1 E.2.1 E.2.2.2.2.2.1 h3 E.2.2.2.2.1 E.2.2.2.2.2.2.1 hP c he h2 j h5 (E.2.2.2.2.2.1 _ h6) (fun _ q => q) hv hd (k ls H locs h hP hS)
  · exact va_getN (D := zD G) (cl := zCl) E.1 E.2.1 E.2.2.2.2.2.1 h3 E.2.2.2.2.1 E.2.2.2.2.2.2.1 hP c he h2 j h5 (va_Nw.use rfl (E.2.2.2.2.2.2.2.1 _ h6 rfl)) (fun _ q => q) hv hd (k ls H locs h hP hS)
theorem z_getR (E : zCtx G M K X) {index c j r : Nat} (hf : zFld M.1.cls index c j (some r)) (hd : decode M.2.1 pc = .ok (.getfield index, 3)) (k : zY G M K X (pc + 3) lv (zf G r :: st) σ) : zY G M K X pc lv (zf G c :: st) σ := by
  obtain ⟨ci, fs, C, T, N, h1, h2, h3, h4, h5, h6⟩ := hf
  intro ls H locs h hP hS
  have he := zW_at (cA := zcA G) (ad := zad G) (σ := σ) h1
  have hv : (fs.mapIdx (fun j o => zVal (zad G) σ c j o))[j]? = some (zf G r) := by
    rw [List.getElem?_mapIdx, h4]; rfl
  rcases h6 with h6 | ⟨host, h6⟩
  · exact va_get (D := zD G) (cl := zCl) E.1 E.2.1 E.2.2.2.2.2.1 h3 E.2.2.2.2.1 E.2.2.2.2.2.2.1 hP c he h2 j h5 (E.2.2.2.2.2.1 _ h6) (fun _ q => q) hv hd (k ls H locs h hP hS)
  · exact va_getN (D := zD G) (cl := zCl) E.1 E.2.1 E.2.2.2.2.2.1 h3 E.2.2.2.2.1 E.2.2.2.2.2.2.1 hP c he h2 j h5 (va_Nw.use rfl (E.2.2.2.2.2.2.2.1 _ h6 rfl)) (fun _ q => q) hv hd (k ls H locs h hP hS)
theorem z_put (E : zCtx G M K X) {index c j : Nat} {ty : FieldType} {v : Int32} (hf : zFldW M.1.cls index c j ty) (hn : narrow ty (.int v) = .int v) (hfit : fits ty (.int v) = true) (hd : decode M.2.1 pc = .ok (.putfield index, 3)) (k : zY G M K X (pc + 3) lv st (zup σ c j v)) : zY G M K X pc lv (.int v :: zf G c :: st) σ := by
  obtain ⟨ci, fs, C, T, N, ty0, h1, h2, h3, h4, h5, h6, h7, h8, h9, h10⟩ := hf
  intro ls H locs h hP hS
  have he := zW_at (cA := zcA G) (ad := zad G) (σ := σ) h1
  have hl : j < (fs.mapIdx (fun j o => zVal (zad G) σ c j o)).length := by
    rw [List.length_mapIdx]; exact (List.getElem?_eq_some_iff.mp h4).1
  have hset : (zW (zcA G) (zad G) σ).set c (zad G c, .inr (ci, (fs.mapIdx (fun j o => zVal (zad G) σ c j o)).set j (.int v))) = zW (zcA G) (zad G) (zup σ c j v) := by
    rw [zE_put (cA := zcA G) h4]
    exact zW_set h1 (fun k hk => (zup_ne hk).symm)
  have kk : ∀ (H1 : Heap) (locs1 : List Loc), va_P (zD G) zCl ((zW (zcA G) (zad G) σ).set c (zad G c, .inr (ci, (fs.mapIdx (fun j o => zVal (zad G) σ c j o)).set j (.int v)))) H1 → va_D K.2.1 ((zW (zcA G) (zad G) σ).set c (zad G c, .inr (ci, (fs.mapIdx (fun j o => zVal (zad G) σ c j o)).set j (.int v)))) → va_S K.2.1 (zs X).heap H1 locs1 → W (zp X) (zl G) (ze X) K.1 (zs X) (zm X) (za X) (zbl X) (zmt X) (zc X) H1 locs1 K.2.2.1 K.2.2.2.1 K.2.2.2.2 (F0 (zm X) (pc + 3) ls st) := by
    intro H1 locs1 q1 _ q3
    rw [hset] at q1
    exact k ls H1 locs1 h q1 q3
  rcases h6 with h6 | ⟨host, h6⟩
  · exact va_put (D := zD G) (cl := zCl) E.1 E.2.1 E.2.2.2.2.2.1 h3 ty0 h7 h8 E.2.2.2.2.1 E.2.2.2.2.2.2.1 hP (zD_of E.2.2.2.2.2.2.2.2.1 E.2.2.2.2.2.2.2.2.2.2.1 σ) hS c he h2 j h5 (E.2.2.2.2.2.1 _ h6) (fun _ q => q) h9 h10 hn hfit hl hd kk
  · exact va_putN (D := zD G) (cl := zCl) E.1 E.2.1 E.2.2.2.2.2.1 h3 ty0 h7 h8 E.2.2.2.2.1 E.2.2.2.2.2.2.1 hP (zD_of E.2.2.2.2.2.2.2.2.1 E.2.2.2.2.2.2.2.2.2.2.1 σ) hS c he h2 j h5 (va_Nw.use rfl (E.2.2.2.2.2.2.2.1 _ h6 rfl)) (fun _ q => q) h9 h10 hn hfit hl hd kk
theorem z_putI (E : zCtx G M K X) {index c j : Nat} {v : Int32} (hf : zFldW M.1.cls index c j .int) (hd : decode M.2.1 pc = .ok (.putfield index, 3)) (k : zY G M K X (pc + 3) lv st (zup σ c j v)) : zY G M K X pc lv (.int v :: zf G c :: st) σ := z_put E hf rfl rfl hd k
theorem z_putZ (E : zCtx G M K X) {index c j : Nat} {v : Int32} (hf : zFldW M.1.cls index c j .boolean) (hn : narrow .boolean (.int v) = .int v ∧ fits .boolean (.int v) = true) (hd : decode M.2.1 pc = .ok (.putfield index, 3)) (k : zY G M K X (pc + 3) lv st (zup σ c j v)) : zY G M K X pc lv (.int v :: zf G c :: st) σ := z_put E hf hn.1 hn.2 hd k
theorem z_iald (E : zCtx G M K X) {c n : Nat} {i : Int32} (hc : zS[c]? = some (.inl (.int, n))) (hd : decode M.2.1 pc = .ok (.iaload, 1)) (k : vp_in i n ∧ zY G M K X (pc + 1) lv (.int (σ c i.toNatClampNeg) :: st) σ) : zY G M K X pc lv (.int i :: zf G c :: st) σ := fun ls H locs h hP hS => va_iald (D := zD G) (cl := zCl) E.1 E.2.1 E.2.2.2.2.2.2.1 hP c 0 (zW_at hc) rfl k.1 hd (k.2 ls H locs h hP hS)
theorem z_zald (E : zCtx G M K X) {c n : Nat} {i : Int32} (hc : zS[c]? = some (.inl (.boolean, n))) (hd : decode M.2.1 pc = .ok (.baload, 1)) (k : vp_in i n ∧ zY G M K X (pc + 1) lv (.int (σ c i.toNatClampNeg) :: st) σ) : zY G M K X pc lv (.int i :: zf G c :: st) σ := fun ls H locs h hP hS => va_zald (D := zD G) (cl := zCl) E.1 E.2.1 E.2.2.2.2.2.2.1 hP c 1 (zW_at hc) rfl k.1 hd (k.2 ls H locs h hP hS)
theorem z_iast (E : zCtx G M K X) {c n : Nat} {i x : Int32} (hc : zS[c]? = some (.inl (.int, n))) (hd : decode M.2.1 pc = .ok (.iastore, 1)) (k : vp_in i n ∧ zY G M K X (pc + 1) lv st (zup σ c i.toNatClampNeg x)) : zY G M K X pc lv (.int x :: .int i :: zf G c :: st) σ := by
  intro ls H locs h hP hS
  refine va_iast (D := zD G) (cl := zCl) E.1 E.2.1 E.2.2.2.2.2.2.1 hP (zD_of E.2.2.2.2.2.2.2.2.1 E.2.2.2.2.2.2.2.2.2.2.1 σ) hS c 0 (zW_at hc) rfl k.1 hd (fun H1 locs1 q1 _ q3 => ?_)
  refine k.2 ls H1 locs1 h ?_ q3
  rw [zE_sto (cA := zcA G) (ad := zad G), zW_set hc (fun k hk => (zup_ne hk).symm)] at q1
  exact q1
theorem z_zast (E : zCtx G M K X) {c n : Nat} {i x y : Int32} (hc : zS[c]? = some (.inl (.boolean, n))) (hd : decode M.2.1 pc = .ok (.bastore, 1)) (hy : vp_nar .boolean x = y) (k : vp_in i n ∧ zY G M K X (pc + 1) lv st (zup σ c i.toNatClampNeg y)) : zY G M K X pc lv (.int x :: .int i :: zf G c :: st) σ := by
  subst hy
  intro ls H locs h hP hS
  refine va_zast (D := zD G) (cl := zCl) E.1 E.2.1 E.2.2.2.2.2.2.1 hP (zD_of E.2.2.2.2.2.2.2.2.1 E.2.2.2.2.2.2.2.2.2.2.1 σ) hS c 1 (zW_at hc) rfl k.1 hd (fun H1 locs1 q1 _ q3 => ?_)
  refine k.2 ls H1 locs1 h ?_ q3
  rw [zE_sto (cA := zcA G) (ad := zad G), zW_set hc (fun k hk => (zup_ne hk).symm)] at q1
  exact q1
theorem z_alen (E : zCtx G M K X) {c n : Nat} {v : Int32} (hc : zS[c]? = some (.inl (.int, n))) (hv : Int32.ofNat n = v) (hd : decode M.2.1 pc = .ok (.arraylength, 1)) (k : zY G M K X (pc + 1) lv (.int v :: st) σ) : zY G M K X pc lv (zf G c :: st) σ := fun ls H locs h hP hS => va_alen (D := zD G) (cl := zCl) E.1 E.2.1 E.2.2.2.2.2.2.1 hP c 0 (zW_at hc) rfl hv hd (k ls H locs h hP hS)
theorem z_ireturn (E : zCtx G M (zKm G d X post) X) {v : Int32} (hr : M.2.2.2 = some .int) (hd : decode M.2.1 pc = .ok (.ireturn, 1)) (k : post (some (.int v)) σ) : zZ G M d X post pc lv [.int v] σ := fun ls H locs h hP hS => W.iret (v := v) E.1 E.2.1 (E.2.2.2.1.trans hr) (fun t ht _ => ⟨⟨_, σ, rfl, k, by rw [ht]; exact hP⟩, hS.F ht⟩) hS.2.2 hd E.2.2.2.2.2.2.2.2.2.1
theorem z_zreturn (E : zCtx G M (zKm G d X post) X) {v : Int32} (hr : M.2.2.2 = some .boolean) (hn : narrow .boolean (.int v) = .int v) (hd : decode M.2.1 pc = .ok (.ireturn, 1)) (k : post (some (.int v)) σ) : zZ G M d X post pc lv [.int v] σ := fun ls H locs h hP hS => W.zret (v := v) E.1 E.2.1 (E.2.2.2.1.trans hr) hn (fun t ht _ => ⟨⟨_, σ, rfl, k, by rw [ht]; exact hP⟩, hS.F ht⟩) hS.2.2 hd E.2.2.2.2.2.2.2.2.2.1
theorem z_return (E : zCtx G M (zKm G d X post) X) (hr : M.2.2.2 = none) (hd : decode M.2.1 pc = .ok (.return_, 1)) (k : post none σ) : zZ G M d X post pc lv [] σ := fun ls H locs h hP hS => W.vret E.1 E.2.1 (E.2.2.2.1.trans hr) (fun t ht _ => ⟨⟨_, σ, rfl, k, by rw [ht]; exact hP⟩, hS.F ht⟩) hS.2.2 hd E.2.2.2.2.2.2.2.2.2.1
/-- the method of the pool's place 'index' in class own is M', of n parameters; its words -/
def zCal (own : String) (index : Nat) (M' : zM) (n : Nat) : Prop := (Cond.methodLink own index M'.1 ∈ zTbl ∨ ∃ host, Cond.methodLinkNest own index M'.1 host ∈ lw_tbl) ∧ Cond.code M'.1 M'.2.1 M'.2.2.1 M'.2.2.2 ∈ zTbl ∧ Cond.initialized M'.1.cls ∈ zTbl ∧ (M'.1.cls ≠ "java/lang/invoke/MethodHandle" ∧ M'.1.cls ≠ "java/lang/invoke/VarHandle" ∧ (parseMethodDescriptor M'.1.desc).map (fun d => d.parameters.length) = some n) ∧ M'.2.2.1 ≤ 29
/-- behind a call -/
theorem z_back {as rest : List Value} {P : Option Value → zSt → Prop} {ls : Array Slot} {H : Heap} {locs : List Loc} (E : zCtx G M K X) (h : lv_has ls M.2.2.1 lv) (hS : va_S K.2.1 (zs X).heap H locs)
    (hr : va_Run (zp X) (zl G) (ze X) K.1 (zs X) (zm X) (za X) (zbl X) (zmt X) (zc X) H locs K.2.2.1 K.2.2.2.1 0 0 (F0 (zm X) pc ls st) rest (zQc G H.size P as.toArray) (zA G H.size))
    (k : ∀ r τ, P r τ → zY G M K X (pc + 3) lv (r.toList ++ rest) τ) : W (zp X) (zl G) (ze X) K.1 (zs X) (zm X) (za X) (zbl X) (zmt X) (zc X) H locs K.2.2.1 K.2.2.2.1 K.2.2.2.2 (F0 (zm X) pc ls st) := by
  intro T hT X0
  obtain ⟨v, st₀, t, T', L, h0, X', hL, e1, e2, ⟨⟨r, τ, hv, hp, hb⟩, hz, hk⟩, stp⟩ := hr T hT X0
  cases hv
  rw [h0] at hz hk
  have hA : ∀ q, zA G H.size q → K.2.1 q := by
    intro q hq
    rcases hq with ⟨k, h1, h2⟩ | hq
    · rw [h2]; exact E.2.2.2.2.2.2.2.2.2.2.1 k h1
    · exact E.2.2.2.2.2.2.2.2.2.2.2 q (Nat.le_trans hS.1 hq)
  have hS' : va_S K.2.1 (zs X).heap T'.heap (locs ++ L) := by
    refine ⟨Nat.le_trans hS.1 (by rw [e1]; exact hz), fun q h1 h2 => ?_, fun q hq => ?_⟩
    · rw [e1, hk q (Nat.lt_of_lt_of_le h1 hS.1) (fun z => h2 (hA q z))]
      exact hS.2.1 q h1 h2
    · rcases List.mem_append.mp hq with h | h
      · exact hS.2.2 q h
      · exact hA _ (hL q h)
  obtain ⟨t2, a1, b1⟩ := k v τ hp ls T'.heap (locs ++ L) h (by rw [e1]; exact hb) hS' T' rfl X'
  exact ⟨t2, stp t2 a1, b1⟩
theorem z_preS {as : List Value} {H : Heap} (E : zCtx G M K X) (hP : zWd G σ H) : PreS (zs X) H (va_Pc as (zPre G σ H.size)) as :=
  ⟨zBlind G as σ H.size, fun U hU hW => ⟨rfl, by rw [hU], by rw [hU]; exact hP, va_K.moved hW.alike E.2.2.2.2.2.2.1, (E.2.2.2.2.2.2.2.1).warm hW, E.2.2.2.2.2.2.2.2.1⟩⟩
theorem z_callS {M' : zM} {d' n index : Nat} (as rest : List Value) {P : Option Value → zSt → Prop} (E : zCtx G M K X) (hM : zSpec G d' M' as σ P) (hc : zCal M.1.cls index M' n) (hst : Cond.static M'.1 ∈ zTbl) (hn : as.length = n) (hdd : d' + 1 ≤ K.1.frames ∧ 48 * (d' + 1) ≤ K.1.locals ∧ K.2.2.1 ≤ K.1.cells ∧ K.2.2.2.1 ≤ K.1.slots) (hs : st = as.reverse ++ rest) (hrm : (rest.map fun v => v.category).sum ≤ 8) (hd : decode M.2.1 pc = .ok (.invokestatic index, 3))
    (k : ∀ r τ, P r τ → zY G M K X (pc + 3) lv (r.toList ++ rest) τ) : zY G M K X pc lv st σ := by
  intro ls H locs h hP hS
  obtain ⟨hl, hcode, hini, hy, hml⟩ := hc
  have hts := E.2.2.2.2.2.1
  have hR : (zRoom d').frames + 1 ≤ K.1.frames ∧ 8 + (M'.2.2.1 + 11) + (zRoom d').locals ≤ K.1.locals := ⟨hdd.1, by have := hdd.2.1; show 8 + (M'.2.2.1 + 11) + 48 * d' ≤ _; omega⟩
  rcases hl with hl | ⟨host, hl⟩
  · exact z_back (as := as) E h hS (va_runS (g := F0 (zm X) pc ls st) ⟨E.1, E.2.1, E.2.2.1, E.2.2.2.2.1, hts⟩ (hM H.size) ⟨callB_of n hts (zGood hcode) rfl rfl rfl (hts _ hini) (hts _ hl) hy hR, hts _ hst⟩ (z_preS E hP) rfl hn h.1 hs (lv_room hrm) hd ⟨hdd.2.2.1, hdd.2.2.2⟩) k
  · exact z_back (as := as) E h hS (va_runSN (g := F0 (zm X) pc ls st) ⟨E.1, E.2.1, E.2.2.1, E.2.2.2.2.1, hts⟩ (hM H.size) ⟨va_cnB n hts (zGood hcode) rfl rfl rfl (E.2.2.2.2.2.2.2.1 _ hl rfl) (hts _ hini) hy hR, hts _ hst, trivial⟩ (z_preS E hP) rfl hn h.1 hs (lv_room hrm) hd ⟨hdd.2.2.1, hdd.2.2.2⟩) k
/-- the cell c is an object of M''s class, and M' is chosen for it -/
def zRcv (M' : zM) (c : Nat) : Prop := (∃ (ci : Nat) (fs : List (Option Nat)) (T : u_T) (N : Nat), zS[c]? = some (.inr (ci, fs)) ∧ zCl[ci]? = some (M'.1.cls, T, N)) ∧ Cond.instanceMethod M'.1 ∈ zTbl ∧ Cond.selects M'.1.cls M'.1 M'.1 ∈ zTbl
theorem z_callV {M' : zM} {d' n index c : Nat} (as rest : List Value) {P : Option Value → zSt → Prop} (E : zCtx G M K X) (hM : zSpec G d' M' (zf G c :: as) σ P) (hc : zCal M.1.cls index M' n) (hrc : zRcv M' c) (hn : as.length = n) (hdd : d' + 1 ≤ K.1.frames ∧ 48 * (d' + 1) ≤ K.1.locals ∧ K.2.2.1 ≤ K.1.cells ∧ K.2.2.2.1 ≤ K.1.slots) (hs : st = as.reverse ++ zf G c :: rest) (hrm : (rest.map fun v => v.category).sum ≤ 8) (hd : decode M.2.1 pc = .ok (.invokevirtual index, 3))
    (k : ∀ r τ, P r τ → zY G M K X (pc + 3) lv (r.toList ++ rest) τ) : zY G M K X pc lv st σ := by
  intro ls H locs h hP hS
  obtain ⟨hl, hcode, hini, hy, hml⟩ := hc
  obtain ⟨⟨ci, fs, T, N, h1, h2⟩, hin, hsel⟩ := hrc
  have hts := E.2.2.2.2.2.1
  have hR : (zRoom d').frames + 1 ≤ K.1.frames ∧ 8 + (M'.2.2.1 + 11) + (zRoom d').locals ≤ K.1.locals := ⟨hdd.1, by have := hdd.2.1; show 8 + (M'.2.2.1 + 11) + 48 * d' ≤ _; omega⟩
  have hpre : PreV (zs X) H M'.1.cls (zad G c) (va_Pc (zf G c :: as) (zPre G σ H.size)) as := by
    refine ⟨zBlind G _ σ H.size, ?_, (z_preS (as := zf G c :: as) E hP).2⟩
    obtain ⟨r, g1, cell, q1, q2, q3, q4⟩ := hP c _ (zW_at h1)
    have hr : r = (M'.1.cls, T, N) := Option.some.inj (g1.symm.trans h2)
    subst hr
    obtain ⟨-, hfc, -⟩ := E.2.2.2.2.2.2.1.1 ci _ h2
    exact ⟨cell, q1, by rw [q3]; rfl, by rw [hfc, q2]⟩
  rcases hl with hl | ⟨host, hl⟩
  · exact z_back (as := zf G c :: as) E h hS (va_runV (g := F0 (zm X) pc ls st) ⟨E.1, E.2.1, E.2.2.1, E.2.2.2.2.1, hts⟩ (hM H.size) ⟨callB_of n hts (zGood hcode) rfl rfl rfl (hts _ hini) (hts _ hl) hy hR, hts _ hin, hts _ hsel⟩ hpre rfl hn h.1 hs (lv_room hrm) hd ⟨hdd.2.2.1, hdd.2.2.2⟩) k
  · exact z_back (as := zf G c :: as) E h hS (va_runVN (g := F0 (zm X) pc ls st) ⟨E.1, E.2.1, E.2.2.1, E.2.2.2.2.1, hts⟩ (hM H.size) ⟨va_cnB n hts (zGood hcode) rfl rfl rfl (E.2.2.2.2.2.2.2.1 _ hl rfl) (hts _ hini) hy hR, hts _ hin, hts _ hsel⟩ hpre rfl hn h.1 hs (lv_room hrm) hd ⟨hdd.2.2.1, hdd.2.2.2⟩) k
def zI (G : zG) (d : Nat) (M : zM) (as : List Value) (σ : zSt) (P : Int32 → zSt → Prop) : Prop := zSpec G d M as σ (fun r τ => ∃ x : Int32, r = some (.int x) ∧ P x τ)
def zB (G : zG) (d : Nat) (M : zM) (as : List Value) (σ : zSt) (P : Bool → zSt → Prop) : Prop := zSpec G d M as σ (fun r τ => ∃ b : Bool, r = some (.int (zb b)) ∧ P b τ)
def zV (G : zG) (d : Nat) (M : zM) (as : List Value) (σ : zSt) (P : zSt → Prop) : Prop := zSpec G d M as σ (fun r τ => r = none ∧ P τ)
theorem zI.mono {as : List Value} {P Q : Int32 → zSt → Prop} (h : zI G d M as σ P) (hp : ∀ x τ, P x τ → Q x τ) : zI G d M as σ Q := zSpec.mono h (fun _ τ ⟨x, e, p⟩ => ⟨x, e, hp x τ p⟩)
theorem zB.mono {as : List Value} {P Q : Bool → zSt → Prop} (h : zB G d M as σ P) (hp : ∀ x τ, P x τ → Q x τ) : zB G d M as σ Q := zSpec.mono h (fun _ τ ⟨x, e, p⟩ => ⟨x, e, hp x τ p⟩)
theorem zV.mono {as : List Value} {P Q : zSt → Prop} (h : zV G d M as σ P) (hp : ∀ τ, P τ → Q τ) : zV G d M as σ Q := zSpec.mono h (fun _ τ ⟨e, p⟩ => ⟨e, hp τ p⟩)
theorem z_callSI {M' : zM} {d' n index : Nat} (as rest : List Value) {P : Int32 → zSt → Prop} (E : zCtx G M K X) (hM : zI G d' M' as σ P) (hc : zCal M.1.cls index M' n) (hst : Cond.static M'.1 ∈ zTbl) (hn : as.length = n) (hdd : d' + 1 ≤ K.1.frames ∧ 48 * (d' + 1) ≤ K.1.locals ∧ K.2.2.1 ≤ K.1.cells ∧ K.2.2.2.1 ≤ K.1.slots) (hs : st = as.reverse ++ rest) (hrm : (rest.map fun v => v.category).sum ≤ 8) (hd : decode M.2.1 pc = .ok (.invokestatic index, 3)) (k : ∀ (x : Int32) (τ : zSt), P x τ → zY G M K X (pc + 3) lv (.int x :: rest) τ) : zY G M K X pc lv st σ := z_callS as rest E hM hc hst hn hdd hs hrm hd (fun r τ ⟨x, e, p⟩ => by subst e; exact k x τ p)
theorem z_callSB {M' : zM} {d' n index : Nat} (as rest : List Value) {P : Bool → zSt → Prop} (E : zCtx G M K X) (hM : zB G d' M' as σ P) (hc : zCal M.1.cls index M' n) (hst : Cond.static M'.1 ∈ zTbl) (hn : as.length = n) (hdd : d' + 1 ≤ K.1.frames ∧ 48 * (d' + 1) ≤ K.1.locals ∧ K.2.2.1 ≤ K.1.cells ∧ K.2.2.2.1 ≤ K.1.slots) (hs : st = as.reverse ++ rest) (hrm : (rest.map fun v => v.category).sum ≤ 8) (hd : decode M.2.1 pc = .ok (.invokestatic index, 3)) (k : ∀ (x : Bool) (τ : zSt), P x τ → zY G M K X (pc + 3) lv (.int (zb x) :: rest) τ) : zY G M K X pc lv st σ := z_callS as rest E hM hc hst hn hdd hs hrm hd (fun r τ ⟨x, e, p⟩ => by subst e; exact k x τ p)
theorem z_callSV {M' : zM} {d' n index : Nat} (as rest : List Value) {P : zSt → Prop} (E : zCtx G M K X) (hM : zV G d' M' as σ P) (hc : zCal M.1.cls index M' n) (hst : Cond.static M'.1 ∈ zTbl) (hn : as.length = n) (hdd : d' + 1 ≤ K.1.frames ∧ 48 * (d' + 1) ≤ K.1.locals ∧ K.2.2.1 ≤ K.1.cells ∧ K.2.2.2.1 ≤ K.1.slots) (hs : st = as.reverse ++ rest) (hrm : (rest.map fun v => v.category).sum ≤ 8) (hd : decode M.2.1 pc = .ok (.invokestatic index, 3)) (k : ∀ τ : zSt, P τ → zY G M K X (pc + 3) lv rest τ) : zY G M K X pc lv st σ := z_callS as rest E hM hc hst hn hdd hs hrm hd (fun r τ ⟨e, p⟩ => by subst e; exact k τ p)
theorem z_callSIp {M' : zM} {d' n index : Nat} (as rest : List Value) {v : Int32} (E : zCtx G M K X) (hM : zI G d' M' as σ (fun x τ => x = v ∧ τ = σ)) (hc : zCal M.1.cls index M' n) (hst : Cond.static M'.1 ∈ zTbl) (hn : as.length = n) (hdd : d' + 1 ≤ K.1.frames ∧ 48 * (d' + 1) ≤ K.1.locals ∧ K.2.2.1 ≤ K.1.cells ∧ K.2.2.2.1 ≤ K.1.slots) (hs : st = as.reverse ++ rest) (hrm : (rest.map fun v => v.category).sum ≤ 8) (hd : decode M.2.1 pc = .ok (.invokestatic index, 3)) (k : zY G M K X (pc + 3) lv (.int v :: rest) σ) : zY G M K X pc lv st σ := z_callSI as rest E hM hc hst hn hdd hs hrm hd (fun x τ ⟨e1, e2⟩ => by subst e1; subst e2; exact k)
theorem z_callSBp {M' : zM} {d' n index : Nat} (as rest : List Value) {v : Bool} (E : zCtx G M K X) (hM : zB G d' M' as σ (fun x τ => x = v ∧ τ = σ)) (hc : zCal M.1.cls index M' n) (hst : Cond.static M'.1 ∈ zTbl) (hn : as.length = n) (hdd : d' + 1 ≤ K.1.frames ∧ 48 * (d' + 1) ≤ K.1.locals ∧ K.2.2.1 ≤ K.1.cells ∧ K.2.2.2.1 ≤ K.1.slots) (hs : st = as.reverse ++ rest) (hrm : (rest.map fun v => v.category).sum ≤ 8) (hd : decode M.2.1 pc = .ok (.invokestatic index, 3)) (k : zY G M K X (pc + 3) lv (.int (zb v) :: rest) σ) : zY G M K X pc lv st σ := z_callSB as rest E hM hc hst hn hdd hs hrm hd (fun x τ ⟨e1, e2⟩ => by subst e1; subst e2; exact k)
theorem z_callVI {M' : zM} {d' n index c : Nat} (as rest : List Value) {P : Int32 → zSt → Prop} (E : zCtx G M K X) (hM : zI G d' M' (zf G c :: as) σ P) (hc : zCal M.1.cls index M' n) (hst : zRcv M' c) (hn : as.length = n) (hdd : d' + 1 ≤ K.1.frames ∧ 48 * (d' + 1) ≤ K.1.locals ∧ K.2.2.1 ≤ K.1.cells ∧ K.2.2.2.1 ≤ K.1.slots) (hs : st = as.reverse ++ zf G c :: rest) (hrm : (rest.map fun v => v.category).sum ≤ 8) (hd : decode M.2.1 pc = .ok (.invokevirtual index, 3)) (k : ∀ (x : Int32) (τ : zSt), P x τ → zY G M K X (pc + 3) lv (.int x :: rest) τ) : zY G M K X pc lv st σ := z_callV as rest E hM hc hst hn hdd hs hrm hd (fun r τ ⟨x, e, p⟩ => by subst e; exact k x τ p)
theorem z_callVB {M' : zM} {d' n index c : Nat} (as rest : List Value) {P : Bool → zSt → Prop} (E : zCtx G M K X) (hM : zB G d' M' (zf G c :: as) σ P) (hc : zCal M.1.cls index M' n) (hst : zRcv M' c) (hn : as.length = n) (hdd : d' + 1 ≤ K.1.frames ∧ 48 * (d' + 1) ≤ K.1.locals ∧ K.2.2.1 ≤ K.1.cells ∧ K.2.2.2.1 ≤ K.1.slots) (hs : st = as.reverse ++ zf G c :: rest) (hrm : (rest.map fun v => v.category).sum ≤ 8) (hd : decode M.2.1 pc = .ok (.invokevirtual index, 3)) (k : ∀ (x : Bool) (τ : zSt), P x τ → zY G M K X (pc + 3) lv (.int (zb x) :: rest) τ) : zY G M K X pc lv st σ := z_callV as rest E hM hc hst hn hdd hs hrm hd (fun r τ ⟨x, e, p⟩ => by subst e; exact k x τ p)
theorem z_callVV {M' : zM} {d' n index c : Nat} (as rest : List Value) {P : zSt → Prop} (E : zCtx G M K X) (hM : zV G d' M' (zf G c :: as) σ P) (hc : zCal M.1.cls index M' n) (hst : zRcv M' c) (hn : as.length = n) (hdd : d' + 1 ≤ K.1.frames ∧ 48 * (d' + 1) ≤ K.1.locals ∧ K.2.2.1 ≤ K.1.cells ∧ K.2.2.2.1 ≤ K.1.slots) (hs : st = as.reverse ++ zf G c :: rest) (hrm : (rest.map fun v => v.category).sum ≤ 8) (hd : decode M.2.1 pc = .ok (.invokevirtual index, 3)) (k : ∀ τ : zSt, P τ → zY G M K X (pc + 3) lv rest τ) : zY G M K X pc lv st σ := z_callV as rest E hM hc hst hn hdd hs hrm hd (fun r τ ⟨e, p⟩ => by subst e; exact k τ p)
theorem z_callVIp {M' : zM} {d' n index c : Nat} (as rest : List Value) {v : Int32} (E : zCtx G M K X) (hM : zI G d' M' (zf G c :: as) σ (fun x τ => x = v ∧ τ = σ)) (hc : zCal M.1.cls index M' n) (hst : zRcv M' c) (hn : as.length = n) (hdd : d' + 1 ≤ K.1.frames ∧ 48 * (d' + 1) ≤ K.1.locals ∧ K.2.2.1 ≤ K.1.cells ∧ K.2.2.2.1 ≤ K.1.slots) (hs : st = as.reverse ++ zf G c :: rest) (hrm : (rest.map fun v => v.category).sum ≤ 8) (hd : decode M.2.1 pc = .ok (.invokevirtual index, 3)) (k : zY G M K X (pc + 3) lv (.int v :: rest) σ) : zY G M K X pc lv st σ := z_callVI as rest E hM hc hst hn hdd hs hrm hd (fun x τ ⟨e1, e2⟩ => by subst e1; subst e2; exact k)
theorem z_callVBp {M' : zM} {d' n index c : Nat} (as rest : List Value) {v : Bool} (E : zCtx G M K X) (hM : zB G d' M' (zf G c :: as) σ (fun x τ => x = v ∧ τ = σ)) (hc : zCal M.1.cls index M' n) (hst : zRcv M' c) (hn : as.length = n) (hdd : d' + 1 ≤ K.1.frames ∧ 48 * (d' + 1) ≤ K.1.locals ∧ K.2.2.1 ≤ K.1.cells ∧ K.2.2.2.1 ≤ K.1.slots) (hs : st = as.reverse ++ zf G c :: rest) (hrm : (rest.map fun v => v.category).sum ≤ 8) (hd : decode M.2.1 pc = .ok (.invokevirtual index, 3)) (k : zY G M K X (pc + 3) lv (.int (zb v) :: rest) σ) : zY G M K X pc lv st σ := z_callVB as rest E hM hc hst hn hdd hs hrm hd (fun x τ ⟨e1, e2⟩ => by subst e1; subst e2; exact k)
theorem z_ldc2 (E : zCtx G M K X) {index : Nat} {v : Int64} (hk : Cond.constantLong M.1.cls index v ∈ zTbl) (hd : decode M.2.1 pc = .ok (.ldc2_w index, 3)) (k : zY G M K X (pc + 3) lv (.long v :: st) σ) : zY G M K X pc lv st σ := fun ls H locs h hP hS => lv_ldc2 E.1 E.2.1 E.2.2.2.2.1 (E.2.2.2.2.2.1 _ hk) hd (k ls H locs h hP hS)
def zMth (own : String) (index : Nat) (y : MethodName) (b : ByteArray) : Prop := Cond.methodLink own index y ∈ zTbl ∧ Cond.static y ∈ zTbl ∧ Cond.initialized "java/lang/Math" ∈ zTbl ∧ Cond.code y b 2 (some .int) ∈ zTbl
theorem z_mmin (E : zCtx G M K X) {index : Nat} {x y : Int32} (hc : zMth M.1.cls index Lib.Math.min.name Lib.Math.min.code) (hf : 1 ≤ K.1.frames ∧ 48 ≤ K.1.locals ∧ K.2.2.1 ≤ K.1.cells ∧ K.2.2.2.1 ≤ K.1.slots) (hr : (st.map fun v => v.category).sum ≤ 8) (hd : decode M.2.1 pc = .ok (.invokestatic index, 3)) (k : zY G M K X (pc + 3) lv (.int (if y < x then y else x) :: st) σ) : zY G M K X pc lv (.int y :: .int x :: st) σ := fun ls H locs h hP hS => va_mmin E.1 E.2.1 (E.2.2.1.trans h.1.symm) E.2.2.2.2.1 (E.2.2.2.2.2.1 _ hc.1) (E.2.2.2.2.2.1 _ hc.2.1) (E.2.2.2.2.2.1 _ hc.2.2.1) (E.2.2.2.2.2.1 _ hc.2.2.2) hf.1 (by have := hf.2.1; omega) hf.2.2.1 hf.2.2.2 hd (k ls H locs h hP hS)
theorem z_mmax (E : zCtx G M K X) {index : Nat} {x y : Int32} (hc : zMth M.1.cls index Lib.Math.max.name Lib.Math.max.code) (hf : 1 ≤ K.1.frames ∧ 48 ≤ K.1.locals ∧ K.2.2.1 ≤ K.1.cells ∧ K.2.2.2.1 ≤ K.1.slots) (hr : (st.map fun v => v.category).sum ≤ 8) (hd : decode M.2.1 pc = .ok (.invokestatic index, 3)) (k : zY G M K X (pc + 3) lv (.int (if x < y then y else x) :: st) σ) : zY G M K X pc lv (.int y :: .int x :: st) σ := fun ls H locs h hP hS => va_mmax E.1 E.2.1 (E.2.2.1.trans h.1.symm) E.2.2.2.2.1 (E.2.2.2.2.2.1 _ hc.1) (E.2.2.2.2.2.1 _ hc.2.1) (E.2.2.2.2.2.1 _ hc.2.2.1) (E.2.2.2.2.2.1 _ hc.2.2.2) hf.1 (by have := hf.2.1; omega) hf.2.2.1 hf.2.2.2 hd (k ls H locs h hP hS)
def zCop (own : String) (index : Nat) : Prop := Cond.methodLink own index arraycopyName ∈ zTbl ∧ Cond.native arraycopyName ∈ zTbl ∧ Cond.static arraycopyName ∈ zTbl ∧ Cond.initialized "java/lang/System" ∈ zTbl
def zcpy (σ : zSt) (c sp dp n : Nat) : zSt := fun a b => if a = c then va_cpy (σ c) (σ c) sp dp n b else σ a b
theorem zcpy_self (σ : zSt) (c sp dp n : Nat) : zcpy σ c sp dp n c = va_cpy (σ c) (σ c) sp dp n := by
  funext b; simp [zcpy]
theorem zcpy_ne {σ : zSt} {c sp dp n k : Nat} (h : k ≠ c) : zcpy σ c sp dp n k = σ k := by
  funext b; simp [zcpy, h]
theorem z_copy (E : zCtx G M K X) {c n0 index : Nat} {sp dp n : Int32} (hm : zCop M.1.cls index) (hc : zS[c]? = some (.inl (.int, n0))) (hf : 1 ≤ K.1.frames ∧ 48 ≤ K.1.locals ∧ K.2.2.1 ≤ K.1.cells ∧ K.2.2.2.1 ≤ K.1.slots) (hd : decode M.2.1 pc = .ok (.invokestatic index, 3)) (k : (¬ sp < 0 ∧ ¬ dp < 0 ∧ ¬ n < 0 ∧ sp.toNatClampNeg + n.toNatClampNeg ≤ n0 ∧ dp.toNatClampNeg + n.toNatClampNeg ≤ n0) ∧ zY G M K X (pc + 3) lv [] (zcpy σ c sp.toNatClampNeg dp.toNatClampNeg n.toNatClampNeg)) : zY G M K X pc lv [.int n, .int dp, zf G c, .int sp, zf G c] σ := by
  intro ls H locs h hP hS
  obtain ⟨⟨h1, h2, h3, h4, h5⟩, k⟩ := k
  have hts := E.2.2.2.2.2.1
  refine va_copyi (rest := []) (D := zD G) (cl := zCl) E.1 E.2.1 (E.2.2.1.trans h.1.symm) E.2.2.2.2.1 (hts _ hm.1) (hts _ hm.2.1) (hts _ hm.2.2.1) (hts _ hm.2.2.2) E.2.2.2.2.2.2.1 hP (zD_of E.2.2.2.2.2.2.2.2.1 E.2.2.2.2.2.2.2.2.2.2.1 σ) hS c c 0 0 (zW_at hc) (zW_at hc) rfl rfl rfl h1 h2 h3 h4 h5 (fun _ _ => rfl) hf.1 ?_ hd (fun H1 locs1 q1 _ q3 => ?_)
  · have e : nativeFrameWords "java/lang/System" "arraycopy" 5 = 7 := by decide +kernel
    have := hf.2.1
    rw [e]; show 0 + (7 + 11) ≤ _; omega
  · refine k ls H1 locs1 h ?_ q3
    have e : (Sum.inl (zcA G .int, n0, .inl (va_cpy (σ c) (σ c) sp.toNatClampNeg dp.toNatClampNeg n.toNatClampNeg)) : va_E) = zE (zcA G) (zad G) (zcpy σ c sp.toNatClampNeg dp.toNatClampNeg n.toNatClampNeg) c (.inl (.int, n0)) := by
      show _ = (Sum.inl (zcA G .int, n0, .inl (zcpy σ c sp.toNatClampNeg dp.toNatClampNeg n.toNatClampNeg c)) : va_E)
      rw [zcpy_self]
    rw [e, zW_set hc (fun k hk => (zcpy_ne hk).symm)] at q1
    exact q1
theorem z_lookup2 (E : zCtx G M K X) {dflt o1 o2 : Int} {ps : Array (Int × Int)} {len : Nat} {x : Int32} {k1 k2 : Int} {t1 t2 tO : Nat} (hd : decode M.2.1 pc = .ok (.lookupswitch dflt ps, len)) (hps : ps.toList = [(k1, o1), (k2, o2)]) (hp : (ps.toList.zip (ps.toList.drop 1)).all (fun (a, next) => a.1 < next.1) = true) (h1 : (pc : Int) + o1 = (t1 : Int)) (h2 : (pc : Int) + o2 = (t2 : Int)) (h3 : (pc : Int) + dflt = (tO : Int)) (k : (x.toInt = k1 → zY G M K X t1 lv st σ) ∧ (x.toInt = k2 → zY G M K X t2 lv st σ) ∧ (¬ x.toInt = k1 ∧ ¬ x.toInt = k2 → zY G M K X tO lv st σ)) : zY G M K X pc lv (.int x :: st) σ := by
  intro ls H locs h hP hS
  by_cases e1 : x.toInt = k1
  · exact lv_lookup E.1 E.2.1 hd hp (off := o1) (by rw [hps, lookupswitch.offset_cons, if_pos e1.symm]) h1 (k.1 e1 ls H locs h hP hS)
  · by_cases e2 : x.toInt = k2
    · exact lv_lookup E.1 E.2.1 hd hp (off := o2) (by rw [hps, lookupswitch.offset_cons, if_neg (Ne.symm e1), lookupswitch.offset_cons, if_pos e2.symm]) h2 (k.2.1 e2 ls H locs h hP hS)
    · exact lv_lookup E.1 E.2.1 hd hp (off := dflt) (by rw [hps, lookupswitch.offset_cons, if_neg (Ne.symm e1), lookupswitch.offset_cons, if_neg (Ne.symm e2), lookupswitch.offset_nil]) h3 (k.2.2 ⟨e1, e2⟩ ls H locs h hP hS)
theorem zrm {d d' : Nat} (h : d' + 1 ≤ d := by decide) : d' + 1 ≤ (zKm G d X post).1.frames ∧ 48 * (d' + 1) ≤ (zKm G d X post).1.locals ∧ (zKm G d X post).2.2.1 ≤ (zKm G d X post).1.cells ∧ (zKm G d X post).2.2.2.1 ≤ (zKm G d X post).1.slots := ⟨h, by show 48 * (d' + 1) ≤ 48 * d; omega, Nat.le_refl 0, Nat.le_refl 0⟩
theorem zrm1 {d : Nat} (h : 1 ≤ d := by decide) : 1 ≤ (zKm G d X post).1.frames ∧ 48 ≤ (zKm G d X post).1.locals ∧ (zKm G d X post).2.2.1 ≤ (zKm G d X post).1.cells ∧ (zKm G d X post).2.2.2.1 ≤ (zKm G d X post).1.slots := ⟨h, by show 48 ≤ 48 * d; omega, Nat.le_refl 0, Nat.le_refl 0⟩
end ZR
end
section
theorem in_P : ∀ w ∈ u_ws "PulseNet" TT_P 2, w ∈ zTbl := by
  intro w hw
  have e : u_ws "PulseNet" TT_P 2 = [.laysFinal "PulseNet" "PulseNet" "course" "LPulseNet$Course;", .lays "PulseNet" "PulseNet" "started" "Z"] := by decide +kernel
  rw [e] at hw
  exact (List.forall_mem_cons.mpr ⟨(zTbl_in (List.mem_append_right _ (List.mem_of_getElem? (i := 232) (by decide +kernel))) rfl), List.forall_mem_cons.mpr ⟨(zTbl_in (List.mem_append_right _ (List.mem_of_getElem? (i := 234) (by decide +kernel))) rfl), fun _ h => absurd h List.not_mem_nil⟩⟩ : ∀ w ∈ [Cond.laysFinal "PulseNet" "PulseNet" "course" "LPulseNet$Course;", Cond.lays "PulseNet" "PulseNet" "started" "Z"], w ∈ zTbl) w hw
theorem in_Course : ∀ w ∈ u_ws "PulseNet$Course" TT_Course 16, w ∈ zTbl := by
  intro w hw
  have e : u_ws "PulseNet$Course" TT_Course 16 = [.laysFinal "PulseNet$Course" "PulseNet$Course" "net" "LPulseNet$Net;", .laysFinal "PulseNet$Course" "PulseNet$Course" "frame" "LPulseNet$Frame;", .laysFinal "PulseNet$Course" "PulseNet$Course" "play" "LPulseNet$Play;", .laysFinal "PulseNet$Course" "PulseNet$Course" "pool" "LPulseNet$Pool;", .lays "PulseNet$Course" "PulseNet$Course" "way" "I", .lays "PulseNet$Course" "PulseNet$Course" "rounds" "I", .lays "PulseNet$Course" "PulseNet$Course" "notesSent" "I", .lays "PulseNet$Course" "PulseNet$Course" "othersSent" "I", .laysFinal "PulseNet$Course" "PulseNet$Course" "round" "[I", .laysFinal "PulseNet$Course" "PulseNet$Course" "stage" "[I", .laysFinal "PulseNet$Course" "PulseNet$Course" "unanswered" "[I", .laysFinal "PulseNet$Course" "PulseNet$Course" "readies" "[I", .laysFinal "PulseNet$Course" "PulseNet$Course" "dones" "[I", .laysFinal "PulseNet$Course" "PulseNet$Course" "safes" "[I", .laysFinal "PulseNet$Course" "PulseNet$Course" "reached" "[I", .laysFinal "PulseNet$Course" "PulseNet$Course" "wanted" "[I"] := by decide +kernel
  rw [e] at hw
  exact (List.forall_mem_cons.mpr ⟨(zTbl_in (List.mem_append_right _ (List.mem_of_getElem? (i := 190) (by decide +kernel))) rfl), List.forall_mem_cons.mpr ⟨(zTbl_in (List.mem_append_right _ (List.mem_of_getElem? (i := 192) (by decide +kernel))) rfl), List.forall_mem_cons.mpr ⟨(zTbl_in (List.mem_append_right _ (List.mem_of_getElem? (i := 194) (by decide +kernel))) rfl), List.forall_mem_cons.mpr ⟨(zTbl_in (List.mem_append_right _ (List.mem_of_getElem? (i := 196) (by decide +kernel))) rfl), List.forall_mem_cons.mpr ⟨(zTbl_in (List.mem_append_right _ (List.mem_of_getElem? (i := 198) (by decide +kernel))) rfl), List.forall_mem_cons.mpr ⟨(zTbl_in (List.mem_append_right _ (List.mem_of_getElem? (i := 200) (by decide +kernel))) rfl), List.forall_mem_cons.mpr ⟨(zTbl_in (List.mem_append_right _ (List.mem_of_getElem? (i := 202) (by decide +kernel))) rfl), List.forall_mem_cons.mpr ⟨(zTbl_in (List.mem_append_right _ (List.mem_of_getElem? (i := 204) (by decide +kernel))) rfl), List.forall_mem_cons.mpr ⟨(zTbl_in (List.mem_append_right _ (List.mem_of_getElem? (i := 206) (by decide +kernel))) rfl), List.forall_mem_cons.mpr ⟨(zTbl_in (List.mem_append_right _ (List.mem_of_getElem? (i := 208) (by decide +kernel))) rfl), List.forall_mem_cons.mpr ⟨(zTbl_in (List.mem_append_right _ (List.mem_of_getElem? (i := 210) (by decide +kernel))) rfl), List.forall_mem_cons.mpr ⟨(zTbl_in (List.mem_append_right _ (List.mem_of_getElem? (i := 212) (by decide +kernel))) rfl), List.forall_mem_cons.mpr ⟨(zTbl_in (List.mem_append_right _ (List.mem_of_getElem? (i := 214) (by decide +kernel))) rfl), List.forall_mem_cons.mpr ⟨(zTbl_in (List.mem_append_right _ (List.mem_of_getElem? (i := 216) (by decide +kernel))) rfl), List.forall_mem_cons.mpr ⟨(zTbl_in (List.mem_append_right _ (List.mem_of_getElem? (i := 218) (by decide +kernel))) rfl), List.forall_mem_cons.mpr ⟨(zTbl_in (List.mem_append_right _ (List.mem_of_getElem? (i := 220) (by decide +kernel))) rfl), fun _ h => absurd h List.not_mem_nil⟩⟩⟩⟩⟩⟩⟩⟩⟩⟩⟩⟩⟩⟩⟩⟩ : ∀ w ∈ [Cond.laysFinal "PulseNet$Course" "PulseNet$Course" "net" "LPulseNet$Net;", Cond.laysFinal "PulseNet$Course" "PulseNet$Course" "frame" "LPulseNet$Frame;", Cond.laysFinal "PulseNet$Course" "PulseNet$Course" "play" "LPulseNet$Play;", Cond.laysFinal "PulseNet$Course" "PulseNet$Course" "pool" "LPulseNet$Pool;", Cond.lays "PulseNet$Course" "PulseNet$Course" "way" "I", Cond.lays "PulseNet$Course" "PulseNet$Course" "rounds" "I", Cond.lays "PulseNet$Course" "PulseNet$Course" "notesSent" "I", Cond.lays "PulseNet$Course" "PulseNet$Course" "othersSent" "I", Cond.laysFinal "PulseNet$Course" "PulseNet$Course" "round" "[I", Cond.laysFinal "PulseNet$Course" "PulseNet$Course" "stage" "[I", Cond.laysFinal "PulseNet$Course" "PulseNet$Course" "unanswered" "[I", Cond.laysFinal "PulseNet$Course" "PulseNet$Course" "readies" "[I", Cond.laysFinal "PulseNet$Course" "PulseNet$Course" "dones" "[I", Cond.laysFinal "PulseNet$Course" "PulseNet$Course" "safes" "[I", Cond.laysFinal "PulseNet$Course" "PulseNet$Course" "reached" "[I", Cond.laysFinal "PulseNet$Course" "PulseNet$Course" "wanted" "[I"], w ∈ zTbl) w hw
theorem in_Net : ∀ w ∈ u_ws "PulseNet$Net" TT_Net 5, w ∈ zTbl := by
  intro w hw
  have e : u_ws "PulseNet$Net" TT_Net 5 = [.lays "PulseNet$Net" "PulseNet$Net" "nodes" "I", .lays "PulseNet$Net" "PulseNet$Net" "links" "I", .laysFinal "PulseNet$Net" "PulseNet$Net" "marks" "[I", .laysFinal "PulseNet$Net" "PulseNet$Net" "near" "[I", .laysFinal "PulseNet$Net" "PulseNet$Net" "lengths" "[I"] := by decide +kernel
  rw [e] at hw
  exact (List.forall_mem_cons.mpr ⟨(zTbl_in (List.mem_append_right _ (List.mem_of_getElem? (i := 47) (by decide +kernel))) rfl), List.forall_mem_cons.mpr ⟨(zTbl_in (List.mem_append_right _ (List.mem_of_getElem? (i := 49) (by decide +kernel))) rfl), List.forall_mem_cons.mpr ⟨(zTbl_in (List.mem_append_right _ (List.mem_of_getElem? (i := 51) (by decide +kernel))) rfl), List.forall_mem_cons.mpr ⟨(zTbl_in (List.mem_append_right _ (List.mem_of_getElem? (i := 53) (by decide +kernel))) rfl), List.forall_mem_cons.mpr ⟨(zTbl_in (List.mem_append_right _ (List.mem_of_getElem? (i := 55) (by decide +kernel))) rfl), fun _ h => absurd h List.not_mem_nil⟩⟩⟩⟩⟩ : ∀ w ∈ [Cond.lays "PulseNet$Net" "PulseNet$Net" "nodes" "I", Cond.lays "PulseNet$Net" "PulseNet$Net" "links" "I", Cond.laysFinal "PulseNet$Net" "PulseNet$Net" "marks" "[I", Cond.laysFinal "PulseNet$Net" "PulseNet$Net" "near" "[I", Cond.laysFinal "PulseNet$Net" "PulseNet$Net" "lengths" "[I"], w ∈ zTbl) w hw
theorem in_Frame : ∀ w ∈ u_ws "PulseNet$Frame" TT_Frame 9, w ∈ zTbl := by
  intro w hw
  have e : u_ws "PulseNet$Frame" TT_Frame 9 = [.lays "PulseNet$Frame" "PulseNet$Frame" "clusters" "I", .lays "PulseNet$Frame" "PulseNet$Frame" "chosen" "I", .laysFinal "PulseNet$Frame" "PulseNet$Frame" "leader" "[I", .laysFinal "PulseNet$Frame" "PulseNet$Frame" "upper" "[I", .laysFinal "PulseNet$Frame" "PulseNet$Frame" "level" "[I", .laysFinal "PulseNet$Frame" "PulseNet$Frame" "above" "[I", .laysFinal "PulseNet$Frame" "PulseNet$Frame" "below" "[I", .laysFinal "PulseNet$Frame" "PulseNet$Frame" "partners" "[I", .laysFinal "PulseNet$Frame" "PulseNet$Frame" "joined" "[I"] := by decide +kernel
  rw [e] at hw
  exact (List.forall_mem_cons.mpr ⟨(zTbl_in (List.mem_append_right _ (List.mem_of_getElem? (i := 82) (by decide +kernel))) rfl), List.forall_mem_cons.mpr ⟨(zTbl_in (List.mem_append_right _ (List.mem_of_getElem? (i := 84) (by decide +kernel))) rfl), List.forall_mem_cons.mpr ⟨(zTbl_in (List.mem_append_right _ (List.mem_of_getElem? (i := 86) (by decide +kernel))) rfl), List.forall_mem_cons.mpr ⟨(zTbl_in (List.mem_append_right _ (List.mem_of_getElem? (i := 88) (by decide +kernel))) rfl), List.forall_mem_cons.mpr ⟨(zTbl_in (List.mem_append_right _ (List.mem_of_getElem? (i := 90) (by decide +kernel))) rfl), List.forall_mem_cons.mpr ⟨(zTbl_in (List.mem_append_right _ (List.mem_of_getElem? (i := 92) (by decide +kernel))) rfl), List.forall_mem_cons.mpr ⟨(zTbl_in (List.mem_append_right _ (List.mem_of_getElem? (i := 94) (by decide +kernel))) rfl), List.forall_mem_cons.mpr ⟨(zTbl_in (List.mem_append_right _ (List.mem_of_getElem? (i := 96) (by decide +kernel))) rfl), List.forall_mem_cons.mpr ⟨(zTbl_in (List.mem_append_right _ (List.mem_of_getElem? (i := 98) (by decide +kernel))) rfl), fun _ h => absurd h List.not_mem_nil⟩⟩⟩⟩⟩⟩⟩⟩⟩ : ∀ w ∈ [Cond.lays "PulseNet$Frame" "PulseNet$Frame" "clusters" "I", Cond.lays "PulseNet$Frame" "PulseNet$Frame" "chosen" "I", Cond.laysFinal "PulseNet$Frame" "PulseNet$Frame" "leader" "[I", Cond.laysFinal "PulseNet$Frame" "PulseNet$Frame" "upper" "[I", Cond.laysFinal "PulseNet$Frame" "PulseNet$Frame" "level" "[I", Cond.laysFinal "PulseNet$Frame" "PulseNet$Frame" "above" "[I", Cond.laysFinal "PulseNet$Frame" "PulseNet$Frame" "below" "[I", Cond.laysFinal "PulseNet$Frame" "PulseNet$Frame" "partners" "[I", Cond.laysFinal "PulseNet$Frame" "PulseNet$Frame" "joined" "[I"], w ∈ zTbl) w hw
theorem in_Play : ∀ w ∈ u_ws "PulseNet$Play" TT_Play 5, w ∈ zTbl := by
  intro w hw
  have e : u_ws "PulseNet$Play" TT_Play 5 = [.lays "PulseNet$Play" "PulseNet$Play" "program" "I", .lays "PulseNet$Play" "PulseNet$Play" "source" "I", .laysFinal "PulseNet$Play" "PulseNet$Play" "value" "[I", .laysFinal "PulseNet$Play" "PulseNet$Play" "parent" "[I", .laysFinal "PulseNet$Play" "PulseNet$Play" "notes" "[I"] := by decide +kernel
  rw [e] at hw
  exact (List.forall_mem_cons.mpr ⟨(zTbl_in (List.mem_append_right _ (List.mem_of_getElem? (i := 115) (by decide +kernel))) rfl), List.forall_mem_cons.mpr ⟨(zTbl_in (List.mem_append_right _ (List.mem_of_getElem? (i := 117) (by decide +kernel))) rfl), List.forall_mem_cons.mpr ⟨(zTbl_in (List.mem_append_right _ (List.mem_of_getElem? (i := 119) (by decide +kernel))) rfl), List.forall_mem_cons.mpr ⟨(zTbl_in (List.mem_append_right _ (List.mem_of_getElem? (i := 121) (by decide +kernel))) rfl), List.forall_mem_cons.mpr ⟨(zTbl_in (List.mem_append_right _ (List.mem_of_getElem? (i := 123) (by decide +kernel))) rfl), fun _ h => absurd h List.not_mem_nil⟩⟩⟩⟩⟩ : ∀ w ∈ [Cond.lays "PulseNet$Play" "PulseNet$Play" "program" "I", Cond.lays "PulseNet$Play" "PulseNet$Play" "source" "I", Cond.laysFinal "PulseNet$Play" "PulseNet$Play" "value" "[I", Cond.laysFinal "PulseNet$Play" "PulseNet$Play" "parent" "[I", Cond.laysFinal "PulseNet$Play" "PulseNet$Play" "notes" "[I"], w ∈ zTbl) w hw
theorem in_Pool : ∀ w ∈ u_ws "PulseNet$Pool" TT_Pool 6, w ∈ zTbl := by
  intro w hw
  have e : u_ws "PulseNet$Pool" TT_Pool 6 = [.lays "PulseNet$Pool" "PulseNet$Pool" "size" "I", .laysFinal "PulseNet$Pool" "PulseNet$Pool" "kinds" "[I", .laysFinal "PulseNet$Pool" "PulseNet$Pool" "froms" "[I", .laysFinal "PulseNet$Pool" "PulseNet$Pool" "tos" "[I", .laysFinal "PulseNet$Pool" "PulseNet$Pool" "rounds" "[I", .laysFinal "PulseNet$Pool" "PulseNet$Pool" "numbers" "[I"] := by decide +kernel
  rw [e] at hw
  exact (List.forall_mem_cons.mpr ⟨(zTbl_in (List.mem_append_right _ (List.mem_of_getElem? (i := 150) (by decide +kernel))) rfl), List.forall_mem_cons.mpr ⟨(zTbl_in (List.mem_append_right _ (List.mem_of_getElem? (i := 152) (by decide +kernel))) rfl), List.forall_mem_cons.mpr ⟨(zTbl_in (List.mem_append_right _ (List.mem_of_getElem? (i := 154) (by decide +kernel))) rfl), List.forall_mem_cons.mpr ⟨(zTbl_in (List.mem_append_right _ (List.mem_of_getElem? (i := 156) (by decide +kernel))) rfl), List.forall_mem_cons.mpr ⟨(zTbl_in (List.mem_append_right _ (List.mem_of_getElem? (i := 158) (by decide +kernel))) rfl), List.forall_mem_cons.mpr ⟨(zTbl_in (List.mem_append_right _ (List.mem_of_getElem? (i := 160) (by decide +kernel))) rfl), fun _ h => absurd h List.not_mem_nil⟩⟩⟩⟩⟩⟩ : ∀ w ∈ [Cond.lays "PulseNet$Pool" "PulseNet$Pool" "size" "I", Cond.laysFinal "PulseNet$Pool" "PulseNet$Pool" "kinds" "[I", Cond.laysFinal "PulseNet$Pool" "PulseNet$Pool" "froms" "[I", Cond.laysFinal "PulseNet$Pool" "PulseNet$Pool" "tos" "[I", Cond.laysFinal "PulseNet$Pool" "PulseNet$Pool" "rounds" "[I", Cond.laysFinal "PulseNet$Pool" "PulseNet$Pool" "numbers" "[I"], w ∈ zTbl) w hw
theorem in_Mo : ∀ w ∈ u_ws "PulseNetModel" TT_Mo 35, w ∈ zTbl := by
  intro w hw
  have e : u_ws "PulseNetModel" TT_Mo 35 = [.lays "PulseNetModel" "PulseNetModel" "n" "I", .lays "PulseNetModel" "PulseNetModel" "links" "I", .laysFinal "PulseNetModel" "PulseNetModel" "lengths" "[I", .laysFinal "PulseNetModel" "PulseNetModel" "marks" "[I", .lays "PulseNetModel" "PulseNetModel" "started" "Z", .lays "PulseNetModel" "PulseNetModel" "program" "I", .lays "PulseNetModel" "PulseNetModel" "way" "I", .lays "PulseNetModel" "PulseNetModel" "source" "I", .lays "PulseNetModel" "PulseNetModel" "rounds" "I", .laysFinal "PulseNetModel" "PulseNetModel" "round" "[I", .laysFinal "PulseNetModel" "PulseNetModel" "open" "[I", .laysFinal "PulseNetModel" "PulseNetModel" "safe" "[Z", .laysFinal "PulseNetModel" "PulseNetModel" "raised" "[Z", .laysFinal "PulseNetModel" "PulseNetModel" "firm" "[Z", .laysFinal "PulseNetModel" "PulseNetModel" "done" "[Z", .laysFinal "PulseNetModel" "PulseNetModel" "upper" "[I", .laysFinal "PulseNetModel" "PulseNetModel" "leader" "[I", .laysFinal "PulseNetModel" "PulseNetModel" "level" "[I", .laysFinal "PulseNetModel" "PulseNetModel" "chosen" "[Z", .lays "PulseNetModel" "PulseNetModel" "clusters" "I", .lays "PulseNetModel" "PulseNetModel" "chosenLinks" "I", .laysFinal "PulseNetModel" "PulseNetModel" "came" "[Z", .laysFinal "PulseNetModel" "PulseNetModel" "numbers" "[I", .laysFinal "PulseNetModel" "PulseNetModel" "value" "[I", .laysFinal "PulseNetModel" "PulseNetModel" "parent" "[I", .laysFinal "PulseNetModel" "PulseNetModel" "values" "[I", .laysFinal "PulseNetModel" "PulseNetModel" "inStep" "[I", .lays "PulseNetModel" "PulseNetModel" "letters" "I", .laysFinal "PulseNetModel" "PulseNetModel" "pool" "[I", .lays "PulseNetModel" "PulseNetModel" "notes" "I", .lays "PulseNetModel" "PulseNetModel" "others" "I", .laysFinal "PulseNetModel" "PulseNetModel" "wrote" "[I", .laysFinal "PulseNetModel" "PulseNetModel" "writes" "[I", .laysFinal "PulseNetModel" "PulseNetModel" "takes" "[Z", .laysFinal "PulseNetModel" "PulseNetModel" "taken" "[I"] := by decide +kernel
  rw [e] at hw
  exact (List.forall_mem_cons.mpr ⟨(zTbl_in (List.mem_append_right _ (List.mem_of_getElem? (i := 569) (by decide +kernel))) rfl), List.forall_mem_cons.mpr ⟨(zTbl_in (List.mem_append_right _ (List.mem_of_getElem? (i := 571) (by decide +kernel))) rfl), List.forall_mem_cons.mpr ⟨(zTbl_in (List.mem_append_right _ (List.mem_of_getElem? (i := 573) (by decide +kernel))) rfl), List.forall_mem_cons.mpr ⟨(zTbl_in (List.mem_append_right _ (List.mem_of_getElem? (i := 575) (by decide +kernel))) rfl), List.forall_mem_cons.mpr ⟨(zTbl_in (List.mem_append_right _ (List.mem_of_getElem? (i := 577) (by decide +kernel))) rfl), List.forall_mem_cons.mpr ⟨(zTbl_in (List.mem_append_right _ (List.mem_of_getElem? (i := 579) (by decide +kernel))) rfl), List.forall_mem_cons.mpr ⟨(zTbl_in (List.mem_append_right _ (List.mem_of_getElem? (i := 581) (by decide +kernel))) rfl), List.forall_mem_cons.mpr ⟨(zTbl_in (List.mem_append_right _ (List.mem_of_getElem? (i := 583) (by decide +kernel))) rfl), List.forall_mem_cons.mpr ⟨(zTbl_in (List.mem_append_right _ (List.mem_of_getElem? (i := 585) (by decide +kernel))) rfl), List.forall_mem_cons.mpr ⟨(zTbl_in (List.mem_append_right _ (List.mem_of_getElem? (i := 587) (by decide +kernel))) rfl), List.forall_mem_cons.mpr ⟨(zTbl_in (List.mem_append_right _ (List.mem_of_getElem? (i := 589) (by decide +kernel))) rfl), List.forall_mem_cons.mpr ⟨(zTbl_in (List.mem_append_right _ (List.mem_of_getElem? (i := 591) (by decide +kernel))) rfl), List.forall_mem_cons.mpr ⟨(zTbl_in (List.mem_append_right _ (List.mem_of_getElem? (i := 593) (by decide +kernel))) rfl), List.forall_mem_cons.mpr ⟨(zTbl_in (List.mem_append_right _ (List.mem_of_getElem? (i := 595) (by decide +kernel))) rfl), List.forall_mem_cons.mpr ⟨(zTbl_in (List.mem_append_right _ (List.mem_of_getElem? (i := 597) (by decide +kernel))) rfl), List.forall_mem_cons.mpr ⟨(zTbl_in (List.mem_append_right _ (List.mem_of_getElem? (i := 599) (by decide +kernel))) rfl), List.forall_mem_cons.mpr ⟨(zTbl_in (List.mem_append_right _ (List.mem_of_getElem? (i := 601) (by decide +kernel))) rfl), List.forall_mem_cons.mpr ⟨(zTbl_in (List.mem_append_right _ (List.mem_of_getElem? (i := 603) (by decide +kernel))) rfl), List.forall_mem_cons.mpr ⟨(zTbl_in (List.mem_append_right _ (List.mem_of_getElem? (i := 605) (by decide +kernel))) rfl), List.forall_mem_cons.mpr ⟨(zTbl_in (List.mem_append_right _ (List.mem_of_getElem? (i := 607) (by decide +kernel))) rfl), List.forall_mem_cons.mpr ⟨(zTbl_in (List.mem_append_right _ (List.mem_of_getElem? (i := 609) (by decide +kernel))) rfl), List.forall_mem_cons.mpr ⟨(zTbl_in (List.mem_append_right _ (List.mem_of_getElem? (i := 611) (by decide +kernel))) rfl), List.forall_mem_cons.mpr ⟨(zTbl_in (List.mem_append_right _ (List.mem_of_getElem? (i := 613) (by decide +kernel))) rfl), List.forall_mem_cons.mpr ⟨(zTbl_in (List.mem_append_right _ (List.mem_of_getElem? (i := 615) (by decide +kernel))) rfl), List.forall_mem_cons.mpr ⟨(zTbl_in (List.mem_append_right _ (List.mem_of_getElem? (i := 617) (by decide +kernel))) rfl), List.forall_mem_cons.mpr ⟨(zTbl_in (List.mem_append_right _ (List.mem_of_getElem? (i := 619) (by decide +kernel))) rfl), List.forall_mem_cons.mpr ⟨(zTbl_in (List.mem_append_right _ (List.mem_of_getElem? (i := 621) (by decide +kernel))) rfl), List.forall_mem_cons.mpr ⟨(zTbl_in (List.mem_append_right _ (List.mem_of_getElem? (i := 623) (by decide +kernel))) rfl), List.forall_mem_cons.mpr ⟨(zTbl_in (List.mem_append_right _ (List.mem_of_getElem? (i := 625) (by decide +kernel))) rfl), List.forall_mem_cons.mpr ⟨(zTbl_in (List.mem_append_right _ (List.mem_of_getElem? (i := 627) (by decide +kernel))) rfl), List.forall_mem_cons.mpr ⟨(zTbl_in (List.mem_append_right _ (List.mem_of_getElem? (i := 629) (by decide +kernel))) rfl), List.forall_mem_cons.mpr ⟨(zTbl_in (List.mem_append_right _ (List.mem_of_getElem? (i := 631) (by decide +kernel))) rfl), List.forall_mem_cons.mpr ⟨(zTbl_in (List.mem_append_right _ (List.mem_of_getElem? (i := 633) (by decide +kernel))) rfl), List.forall_mem_cons.mpr ⟨(zTbl_in (List.mem_append_right _ (List.mem_of_getElem? (i := 635) (by decide +kernel))) rfl), List.forall_mem_cons.mpr ⟨(zTbl_in (List.mem_append_right _ (List.mem_of_getElem? (i := 637) (by decide +kernel))) rfl), fun _ h => absurd h List.not_mem_nil⟩⟩⟩⟩⟩⟩⟩⟩⟩⟩⟩⟩⟩⟩⟩⟩⟩⟩⟩⟩⟩⟩⟩⟩⟩⟩⟩⟩⟩⟩⟩⟩⟩⟩⟩ : ∀ w ∈ [Cond.lays "PulseNetModel" "PulseNetModel" "n" "I", Cond.lays "PulseNetModel" "PulseNetModel" "links" "I", Cond.laysFinal "PulseNetModel" "PulseNetModel" "lengths" "[I", Cond.laysFinal "PulseNetModel" "PulseNetModel" "marks" "[I", Cond.lays "PulseNetModel" "PulseNetModel" "started" "Z", Cond.lays "PulseNetModel" "PulseNetModel" "program" "I", Cond.lays "PulseNetModel" "PulseNetModel" "way" "I", Cond.lays "PulseNetModel" "PulseNetModel" "source" "I", Cond.lays "PulseNetModel" "PulseNetModel" "rounds" "I", Cond.laysFinal "PulseNetModel" "PulseNetModel" "round" "[I", Cond.laysFinal "PulseNetModel" "PulseNetModel" "open" "[I", Cond.laysFinal "PulseNetModel" "PulseNetModel" "safe" "[Z", Cond.laysFinal "PulseNetModel" "PulseNetModel" "raised" "[Z", Cond.laysFinal "PulseNetModel" "PulseNetModel" "firm" "[Z", Cond.laysFinal "PulseNetModel" "PulseNetModel" "done" "[Z", Cond.laysFinal "PulseNetModel" "PulseNetModel" "upper" "[I", Cond.laysFinal "PulseNetModel" "PulseNetModel" "leader" "[I", Cond.laysFinal "PulseNetModel" "PulseNetModel" "level" "[I", Cond.laysFinal "PulseNetModel" "PulseNetModel" "chosen" "[Z", Cond.lays "PulseNetModel" "PulseNetModel" "clusters" "I", Cond.lays "PulseNetModel" "PulseNetModel" "chosenLinks" "I", Cond.laysFinal "PulseNetModel" "PulseNetModel" "came" "[Z", Cond.laysFinal "PulseNetModel" "PulseNetModel" "numbers" "[I", Cond.laysFinal "PulseNetModel" "PulseNetModel" "value" "[I", Cond.laysFinal "PulseNetModel" "PulseNetModel" "parent" "[I", Cond.laysFinal "PulseNetModel" "PulseNetModel" "values" "[I", Cond.laysFinal "PulseNetModel" "PulseNetModel" "inStep" "[I", Cond.lays "PulseNetModel" "PulseNetModel" "letters" "I", Cond.laysFinal "PulseNetModel" "PulseNetModel" "pool" "[I", Cond.lays "PulseNetModel" "PulseNetModel" "notes" "I", Cond.lays "PulseNetModel" "PulseNetModel" "others" "I", Cond.laysFinal "PulseNetModel" "PulseNetModel" "wrote" "[I", Cond.laysFinal "PulseNetModel" "PulseNetModel" "writes" "[I", Cond.laysFinal "PulseNetModel" "PulseNetModel" "takes" "[Z", Cond.laysFinal "PulseNetModel" "PulseNetModel" "taken" "[I"], w ∈ zTbl) w hw
theorem c_Course_107 : zCal "PulseNet$Course" 107 M_JArrays_fill 2 := ⟨Or.inl (zTbl_in (List.mem_append_right _ (List.mem_of_getElem? (i := 391) (by decide +kernel))) rfl), (zTbl_in (List.mem_append_right _ (List.mem_of_getElem? (i := 229) (by decide +kernel))) rfl), (zTbl_in (List.mem_append_right _ (List.mem_of_getElem? (i := 7) (by decide +kernel))) rfl), ⟨by decide, by decide, by decide +kernel⟩, by decide⟩
theorem st_JArrays_fill : Cond.static M_JArrays_fill.1 ∈ zTbl := (zTbl_in (List.mem_append_right _ (List.mem_of_getElem? (i := 228) (by decide +kernel))) rfl)
theorem c_Course_113 : zCal "PulseNet$Course" 113 M_Play_doRound 3 := ⟨Or.inl (zTbl_in (List.mem_append_right _ (List.mem_of_getElem? (i := 342) (by decide +kernel))) rfl), (zTbl_in (List.mem_append_right _ (List.mem_of_getElem? (i := 345) (by decide +kernel))) rfl), (zTbl_in (List.mem_append_right _ (List.mem_of_getElem? (i := 5) (by decide +kernel))) rfl), ⟨by decide, by decide, by decide +kernel⟩, by decide⟩
theorem r_Play_doRound : zRcv M_Play_doRound 4 := ⟨⟨_, _, _, _, rfl, rfl⟩, (zTbl_in (List.mem_append_right _ (List.mem_of_getElem? (i := 343) (by decide +kernel))) rfl), (zTbl_in (List.mem_append_right _ (List.mem_of_getElem? (i := 344) (by decide +kernel))) rfl)⟩
theorem c_Course_117 : zCal "PulseNet$Course" 117 M_Course_handOut 3 := ⟨Or.inl (zTbl_in (List.mem_append_right _ (List.mem_of_getElem? (i := 378) (by decide +kernel))) rfl), (zTbl_in (List.mem_append_right _ (List.mem_of_getElem? (i := 381) (by decide +kernel))) rfl), (zTbl_in (List.mem_append_right _ (List.mem_of_getElem? (i := 2) (by decide +kernel))) rfl), ⟨by decide, by decide, by decide +kernel⟩, by decide⟩
theorem r_Course_handOut : zRcv M_Course_handOut 1 := ⟨⟨_, _, _, _, rfl, rfl⟩, (zTbl_in (List.mem_append_right _ (List.mem_of_getElem? (i := 380) (by decide +kernel))) rfl), (zTbl_in (List.mem_append_left _ (List.mem_of_getElem? (i := 16) (by decide +kernel))) rfl)⟩
theorem c_Course_124 : zCal "PulseNet$Course" 124 M_P_isIn 2 := ⟨Or.inr ⟨"PulseNet", (List.mem_append_right _ (List.mem_of_getElem? (i := 382) (by decide +kernel)))⟩, (zTbl_in (List.mem_append_right _ (List.mem_of_getElem? (i := 255) (by decide +kernel))) rfl), (zTbl_in (List.mem_append_right _ (List.mem_of_getElem? (i := 1) (by decide +kernel))) rfl), ⟨by decide, by decide, by decide +kernel⟩, by decide⟩
theorem st_P_isIn : Cond.static M_P_isIn.1 ∈ zTbl := (zTbl_in (List.mem_append_right _ (List.mem_of_getElem? (i := 254) (by decide +kernel))) rfl)
theorem c_Course_128 : zCal "PulseNet$Course" 128 M_Play_keepNote 4 := ⟨Or.inl (zTbl_in (List.mem_append_right _ (List.mem_of_getElem? (i := 383) (by decide +kernel))) rfl), (zTbl_in (List.mem_append_right _ (List.mem_of_getElem? (i := 386) (by decide +kernel))) rfl), (zTbl_in (List.mem_append_right _ (List.mem_of_getElem? (i := 5) (by decide +kernel))) rfl), ⟨by decide, by decide, by decide +kernel⟩, by decide⟩
theorem r_Play_keepNote : zRcv M_Play_keepNote 4 := ⟨⟨_, _, _, _, rfl, rfl⟩, (zTbl_in (List.mem_append_right _ (List.mem_of_getElem? (i := 384) (by decide +kernel))) rfl), (zTbl_in (List.mem_append_right _ (List.mem_of_getElem? (i := 385) (by decide +kernel))) rfl)⟩
theorem c_Course_146 : zCal "PulseNet$Course" 146 M_Pool_remove 1 := ⟨Or.inl (zTbl_in (List.mem_append_right _ (List.mem_of_getElem? (i := 453) (by decide +kernel))) rfl), (zTbl_in (List.mem_append_right _ (List.mem_of_getElem? (i := 456) (by decide +kernel))) rfl), (zTbl_in (List.mem_append_right _ (List.mem_of_getElem? (i := 6) (by decide +kernel))) rfl), ⟨by decide, by decide, by decide +kernel⟩, by decide⟩
theorem r_Pool_remove : zRcv M_Pool_remove 5 := ⟨⟨_, _, _, _, rfl, rfl⟩, (zTbl_in (List.mem_append_right _ (List.mem_of_getElem? (i := 454) (by decide +kernel))) rfl), (zTbl_in (List.mem_append_right _ (List.mem_of_getElem? (i := 455) (by decide +kernel))) rfl)⟩
theorem c_Course_149 : zCal "PulseNet$Course" 149 M_Course_send 5 := ⟨Or.inl (zTbl_in (List.mem_append_right _ (List.mem_of_getElem? (i := 396) (by decide +kernel))) rfl), (zTbl_in (List.mem_append_right _ (List.mem_of_getElem? (i := 399) (by decide +kernel))) rfl), (zTbl_in (List.mem_append_right _ (List.mem_of_getElem? (i := 2) (by decide +kernel))) rfl), ⟨by decide, by decide, by decide +kernel⟩, by decide⟩
theorem r_Course_send : zRcv M_Course_send 1 := ⟨⟨_, _, _, _, rfl, rfl⟩, (zTbl_in (List.mem_append_right _ (List.mem_of_getElem? (i := 398) (by decide +kernel))) rfl), (zTbl_in (List.mem_append_left _ (List.mem_of_getElem? (i := 19) (by decide +kernel))) rfl)⟩
theorem c_Course_153 : zCal "PulseNet$Course" 153 M_Course_spreadFirm 1 := ⟨Or.inl (zTbl_in (List.mem_append_right _ (List.mem_of_getElem? (i := 437) (by decide +kernel))) rfl), (zTbl_in (List.mem_append_right _ (List.mem_of_getElem? (i := 440) (by decide +kernel))) rfl), (zTbl_in (List.mem_append_right _ (List.mem_of_getElem? (i := 2) (by decide +kernel))) rfl), ⟨by decide, by decide, by decide +kernel⟩, by decide⟩
theorem r_Course_spreadFirm : zRcv M_Course_spreadFirm 1 := ⟨⟨_, _, _, _, rfl, rfl⟩, (zTbl_in (List.mem_append_right _ (List.mem_of_getElem? (i := 439) (by decide +kernel))) rfl), (zTbl_in (List.mem_append_left _ (List.mem_of_getElem? (i := 27) (by decide +kernel))) rfl)⟩
theorem c_Course_156 : zCal "PulseNet$Course" 156 M_Pool_add 5 := ⟨Or.inl (zTbl_in (List.mem_append_right _ (List.mem_of_getElem? (i := 400) (by decide +kernel))) rfl), (zTbl_in (List.mem_append_right _ (List.mem_of_getElem? (i := 403) (by decide +kernel))) rfl), (zTbl_in (List.mem_append_right _ (List.mem_of_getElem? (i := 6) (by decide +kernel))) rfl), ⟨by decide, by decide, by decide +kernel⟩, by decide⟩
theorem r_Pool_add : zRcv M_Pool_add 5 := ⟨⟨_, _, _, _, rfl, rfl⟩, (zTbl_in (List.mem_append_right _ (List.mem_of_getElem? (i := 401) (by decide +kernel))) rfl), (zTbl_in (List.mem_append_right _ (List.mem_of_getElem? (i := 402) (by decide +kernel))) rfl)⟩
theorem c_Course_159 : zCal "PulseNet$Course" 159 M_Course_keepWithAll 1 := ⟨Or.inl (zTbl_in (List.mem_append_right _ (List.mem_of_getElem? (i := 409) (by decide +kernel))) rfl), (zTbl_in (List.mem_append_right _ (List.mem_of_getElem? (i := 412) (by decide +kernel))) rfl), (zTbl_in (List.mem_append_right _ (List.mem_of_getElem? (i := 2) (by decide +kernel))) rfl), ⟨by decide, by decide, by decide +kernel⟩, by decide⟩
theorem r_Course_keepWithAll : zRcv M_Course_keepWithAll 1 := ⟨⟨_, _, _, _, rfl, rfl⟩, (zTbl_in (List.mem_append_right _ (List.mem_of_getElem? (i := 411) (by decide +kernel))) rfl), (zTbl_in (List.mem_append_left _ (List.mem_of_getElem? (i := 21) (by decide +kernel))) rfl)⟩
theorem c_Course_163 : zCal "PulseNet$Course" 163 M_Course_keepInTree 1 := ⟨Or.inl (zTbl_in (List.mem_append_right _ (List.mem_of_getElem? (i := 421) (by decide +kernel))) rfl), (zTbl_in (List.mem_append_right _ (List.mem_of_getElem? (i := 424) (by decide +kernel))) rfl), (zTbl_in (List.mem_append_right _ (List.mem_of_getElem? (i := 2) (by decide +kernel))) rfl), ⟨by decide, by decide, by decide +kernel⟩, by decide⟩
theorem r_Course_keepInTree : zRcv M_Course_keepInTree 1 := ⟨⟨_, _, _, _, rfl, rfl⟩, (zTbl_in (List.mem_append_right _ (List.mem_of_getElem? (i := 423) (by decide +kernel))) rfl), (zTbl_in (List.mem_append_left _ (List.mem_of_getElem? (i := 23) (by decide +kernel))) rfl)⟩
theorem c_Course_166 : zCal "PulseNet$Course" 166 M_Course_keepInClusters 1 := ⟨Or.inl (zTbl_in (List.mem_append_right _ (List.mem_of_getElem? (i := 433) (by decide +kernel))) rfl), (zTbl_in (List.mem_append_right _ (List.mem_of_getElem? (i := 436) (by decide +kernel))) rfl), (zTbl_in (List.mem_append_right _ (List.mem_of_getElem? (i := 2) (by decide +kernel))) rfl), ⟨by decide, by decide, by decide +kernel⟩, by decide⟩
theorem r_Course_keepInClusters : zRcv M_Course_keepInClusters 1 := ⟨⟨_, _, _, _, rfl, rfl⟩, (zTbl_in (List.mem_append_right _ (List.mem_of_getElem? (i := 435) (by decide +kernel))) rfl), (zTbl_in (List.mem_append_left _ (List.mem_of_getElem? (i := 26) (by decide +kernel))) rfl)⟩
theorem c_Course_172 : zCal "PulseNet$Course" 172 M_JInteger_bitCount 1 := ⟨Or.inl (zTbl_in (List.mem_append_right _ (List.mem_of_getElem? (i := 404) (by decide +kernel))) rfl), (zTbl_in (List.mem_append_right _ (List.mem_of_getElem? (i := 312) (by decide +kernel))) rfl), (zTbl_in (List.mem_append_right _ (List.mem_of_getElem? (i := 9) (by decide +kernel))) rfl), ⟨by decide, by decide, by decide +kernel⟩, by decide⟩
theorem st_JInteger_bitCount : Cond.static M_JInteger_bitCount.1 ∈ zTbl := (zTbl_in (List.mem_append_right _ (List.mem_of_getElem? (i := 311) (by decide +kernel))) rfl)
theorem c_Course_184 : zCal "PulseNet$Course" 184 M_Course_isSafe 1 := ⟨Or.inl (zTbl_in (List.mem_append_right _ (List.mem_of_getElem? (i := 413) (by decide +kernel))) rfl), (zTbl_in (List.mem_append_right _ (List.mem_of_getElem? (i := 416) (by decide +kernel))) rfl), (zTbl_in (List.mem_append_right _ (List.mem_of_getElem? (i := 2) (by decide +kernel))) rfl), ⟨by decide, by decide, by decide +kernel⟩, by decide⟩
theorem r_Course_isSafe : zRcv M_Course_isSafe 1 := ⟨⟨_, _, _, _, rfl, rfl⟩, (zTbl_in (List.mem_append_right _ (List.mem_of_getElem? (i := 414) (by decide +kernel))) rfl), (zTbl_in (List.mem_append_right _ (List.mem_of_getElem? (i := 415) (by decide +kernel))) rfl)⟩
theorem c_Course_187 : zCal "PulseNet$Course" 187 M_Course_hasAllSafes 1 := ⟨Or.inl (zTbl_in (List.mem_append_right _ (List.mem_of_getElem? (i := 417) (by decide +kernel))) rfl), (zTbl_in (List.mem_append_right _ (List.mem_of_getElem? (i := 420) (by decide +kernel))) rfl), (zTbl_in (List.mem_append_right _ (List.mem_of_getElem? (i := 2) (by decide +kernel))) rfl), ⟨by decide, by decide, by decide +kernel⟩, by decide⟩
theorem r_Course_hasAllSafes : zRcv M_Course_hasAllSafes 1 := ⟨⟨_, _, _, _, rfl, rfl⟩, (zTbl_in (List.mem_append_right _ (List.mem_of_getElem? (i := 419) (by decide +kernel))) rfl), (zTbl_in (List.mem_append_left _ (List.mem_of_getElem? (i := 22) (by decide +kernel))) rfl)⟩
theorem c_Course_190 : zCal "PulseNet$Course" 190 M_Course_hasAllBelow 2 := ⟨Or.inl (zTbl_in (List.mem_append_right _ (List.mem_of_getElem? (i := 425) (by decide +kernel))) rfl), (zTbl_in (List.mem_append_right _ (List.mem_of_getElem? (i := 428) (by decide +kernel))) rfl), (zTbl_in (List.mem_append_right _ (List.mem_of_getElem? (i := 2) (by decide +kernel))) rfl), ⟨by decide, by decide, by decide +kernel⟩, by decide⟩
theorem r_Course_hasAllBelow : zRcv M_Course_hasAllBelow 1 := ⟨⟨_, _, _, _, rfl, rfl⟩, (zTbl_in (List.mem_append_right _ (List.mem_of_getElem? (i := 427) (by decide +kernel))) rfl), (zTbl_in (List.mem_append_left _ (List.mem_of_getElem? (i := 24) (by decide +kernel))) rfl)⟩
theorem c_Course_197 : zCal "PulseNet$Course" 197 M_Course_isLeader 1 := ⟨Or.inl (zTbl_in (List.mem_append_right _ (List.mem_of_getElem? (i := 429) (by decide +kernel))) rfl), (zTbl_in (List.mem_append_right _ (List.mem_of_getElem? (i := 432) (by decide +kernel))) rfl), (zTbl_in (List.mem_append_right _ (List.mem_of_getElem? (i := 2) (by decide +kernel))) rfl), ⟨by decide, by decide, by decide +kernel⟩, by decide⟩
theorem r_Course_isLeader : zRcv M_Course_isLeader 1 := ⟨⟨_, _, _, _, rfl, rfl⟩, (zTbl_in (List.mem_append_right _ (List.mem_of_getElem? (i := 431) (by decide +kernel))) rfl), (zTbl_in (List.mem_append_left _ (List.mem_of_getElem? (i := 25) (by decide +kernel))) rfl)⟩
theorem c_Course_208 : zCal "PulseNet$Course" 208 M_Course_leastRound 0 := ⟨Or.inl (zTbl_in (List.mem_append_right _ (List.mem_of_getElem? (i := 523) (by decide +kernel))) rfl), (zTbl_in (List.mem_append_right _ (List.mem_of_getElem? (i := 508) (by decide +kernel))) rfl), (zTbl_in (List.mem_append_right _ (List.mem_of_getElem? (i := 2) (by decide +kernel))) rfl), ⟨by decide, by decide, by decide +kernel⟩, by decide⟩
theorem r_Course_leastRound : zRcv M_Course_leastRound 1 := ⟨⟨_, _, _, _, rfl, rfl⟩, (zTbl_in (List.mem_append_right _ (List.mem_of_getElem? (i := 506) (by decide +kernel))) rfl), (zTbl_in (List.mem_append_right _ (List.mem_of_getElem? (i := 507) (by decide +kernel))) rfl)⟩
theorem c_Course_71 : zCal "PulseNet$Course" 71 M_Play_reset 3 := ⟨Or.inl (zTbl_in (List.mem_append_right _ (List.mem_of_getElem? (i := 328) (by decide +kernel))) rfl), (zTbl_in (List.mem_append_right _ (List.mem_of_getElem? (i := 331) (by decide +kernel))) rfl), (zTbl_in (List.mem_append_right _ (List.mem_of_getElem? (i := 5) (by decide +kernel))) rfl), ⟨by decide, by decide, by decide +kernel⟩, by decide⟩
theorem r_Play_reset : zRcv M_Play_reset 4 := ⟨⟨_, _, _, _, rfl, rfl⟩, (zTbl_in (List.mem_append_right _ (List.mem_of_getElem? (i := 329) (by decide +kernel))) rfl), (zTbl_in (List.mem_append_right _ (List.mem_of_getElem? (i := 330) (by decide +kernel))) rfl)⟩
theorem c_Course_75 : zCal "PulseNet$Course" 75 M_Course_goInStep 0 := ⟨Or.inl (zTbl_in (List.mem_append_right _ (List.mem_of_getElem? (i := 337) (by decide +kernel))) rfl), (zTbl_in (List.mem_append_right _ (List.mem_of_getElem? (i := 340) (by decide +kernel))) rfl), (zTbl_in (List.mem_append_right _ (List.mem_of_getElem? (i := 2) (by decide +kernel))) rfl), ⟨by decide, by decide, by decide +kernel⟩, by decide⟩
theorem r_Course_goInStep : zRcv M_Course_goInStep 1 := ⟨⟨_, _, _, _, rfl, rfl⟩, (zTbl_in (List.mem_append_right _ (List.mem_of_getElem? (i := 339) (by decide +kernel))) rfl), (zTbl_in (List.mem_append_left _ (List.mem_of_getElem? (i := 8) (by decide +kernel))) rfl)⟩
theorem c_Course_78 : zCal "PulseNet$Course" 78 M_Course_clear 0 := ⟨Or.inl (zTbl_in (List.mem_append_right _ (List.mem_of_getElem? (i := 387) (by decide +kernel))) rfl), (zTbl_in (List.mem_append_right _ (List.mem_of_getElem? (i := 390) (by decide +kernel))) rfl), (zTbl_in (List.mem_append_right _ (List.mem_of_getElem? (i := 2) (by decide +kernel))) rfl), ⟨by decide, by decide, by decide +kernel⟩, by decide⟩
theorem r_Course_clear : zRcv M_Course_clear 1 := ⟨⟨_, _, _, _, rfl, rfl⟩, (zTbl_in (List.mem_append_right _ (List.mem_of_getElem? (i := 389) (by decide +kernel))) rfl), (zTbl_in (List.mem_append_left _ (List.mem_of_getElem? (i := 17) (by decide +kernel))) rfl)⟩
theorem c_Course_84 : zCal "PulseNet$Course" 84 M_P_at 2 := ⟨Or.inr ⟨"PulseNet", (List.mem_append_right _ (List.mem_of_getElem? (i := 341) (by decide +kernel)))⟩, (zTbl_in (List.mem_append_right _ (List.mem_of_getElem? (i := 258) (by decide +kernel))) rfl), (zTbl_in (List.mem_append_right _ (List.mem_of_getElem? (i := 1) (by decide +kernel))) rfl), ⟨by decide, by decide, by decide +kernel⟩, by decide⟩
theorem st_P_at : Cond.static M_P_at.1 ∈ zTbl := (zTbl_in (List.mem_append_right _ (List.mem_of_getElem? (i := 257) (by decide +kernel))) rfl)
theorem c_Course_91 : zCal "PulseNet$Course" 91 M_Course_enterNext 1 := ⟨Or.inl (zTbl_in (List.mem_append_right _ (List.mem_of_getElem? (i := 392) (by decide +kernel))) rfl), (zTbl_in (List.mem_append_right _ (List.mem_of_getElem? (i := 395) (by decide +kernel))) rfl), (zTbl_in (List.mem_append_right _ (List.mem_of_getElem? (i := 2) (by decide +kernel))) rfl), ⟨by decide, by decide, by decide +kernel⟩, by decide⟩
theorem r_Course_enterNext : zRcv M_Course_enterNext 1 := ⟨⟨_, _, _, _, rfl, rfl⟩, (zTbl_in (List.mem_append_right _ (List.mem_of_getElem? (i := 394) (by decide +kernel))) rfl), (zTbl_in (List.mem_append_left _ (List.mem_of_getElem? (i := 18) (by decide +kernel))) rfl)⟩
theorem c_Course_95 : zCal "PulseNet$Course" 95 M_Course_push 1 := ⟨Or.inl (zTbl_in (List.mem_append_right _ (List.mem_of_getElem? (i := 405) (by decide +kernel))) rfl), (zTbl_in (List.mem_append_right _ (List.mem_of_getElem? (i := 408) (by decide +kernel))) rfl), (zTbl_in (List.mem_append_right _ (List.mem_of_getElem? (i := 2) (by decide +kernel))) rfl), ⟨by decide, by decide, by decide +kernel⟩, by decide⟩
theorem r_Course_push : zRcv M_Course_push 1 := ⟨⟨_, _, _, _, rfl, rfl⟩, (zTbl_in (List.mem_append_right _ (List.mem_of_getElem? (i := 407) (by decide +kernel))) rfl), (zTbl_in (List.mem_append_left _ (List.mem_of_getElem? (i := 20) (by decide +kernel))) rfl)⟩
theorem c_Frame_33 : zCal "PulseNet$Frame" 33 M_Frame_clear 0 := ⟨Or.inl (zTbl_in (List.mem_append_right _ (List.mem_of_getElem? (i := 283) (by decide +kernel))) rfl), (zTbl_in (List.mem_append_right _ (List.mem_of_getElem? (i := 286) (by decide +kernel))) rfl), (zTbl_in (List.mem_append_right _ (List.mem_of_getElem? (i := 4) (by decide +kernel))) rfl), ⟨by decide, by decide, by decide +kernel⟩, by decide⟩
theorem r_Frame_clear : zRcv M_Frame_clear 3 := ⟨⟨_, _, _, _, rfl, rfl⟩, (zTbl_in (List.mem_append_right _ (List.mem_of_getElem? (i := 285) (by decide +kernel))) rfl), (zTbl_in (List.mem_append_left _ (List.mem_of_getElem? (i := 0) (by decide +kernel))) rfl)⟩
theorem c_Frame_36 : zCal "PulseNet$Frame" 36 M_Frame_standAlone 1 := ⟨Or.inl (zTbl_in (List.mem_append_right _ (List.mem_of_getElem? (i := 288) (by decide +kernel))) rfl), (zTbl_in (List.mem_append_right _ (List.mem_of_getElem? (i := 291) (by decide +kernel))) rfl), (zTbl_in (List.mem_append_right _ (List.mem_of_getElem? (i := 4) (by decide +kernel))) rfl), ⟨by decide, by decide, by decide +kernel⟩, by decide⟩
theorem r_Frame_standAlone : zRcv M_Frame_standAlone 3 := ⟨⟨_, _, _, _, rfl, rfl⟩, (zTbl_in (List.mem_append_right _ (List.mem_of_getElem? (i := 290) (by decide +kernel))) rfl), (zTbl_in (List.mem_append_left _ (List.mem_of_getElem? (i := 1) (by decide +kernel))) rfl)⟩
theorem c_Frame_40 : zCal "PulseNet$Frame" 40 M_Net_everyNode 0 := ⟨Or.inl (zTbl_in (List.mem_append_right _ (List.mem_of_getElem? (i := 292) (by decide +kernel))) rfl), (zTbl_in (List.mem_append_right _ (List.mem_of_getElem? (i := 278) (by decide +kernel))) rfl), (zTbl_in (List.mem_append_right _ (List.mem_of_getElem? (i := 3) (by decide +kernel))) rfl), ⟨by decide, by decide, by decide +kernel⟩, by decide⟩
theorem r_Net_everyNode : zRcv M_Net_everyNode 2 := ⟨⟨_, _, _, _, rfl, rfl⟩, (zTbl_in (List.mem_append_right _ (List.mem_of_getElem? (i := 276) (by decide +kernel))) rfl), (zTbl_in (List.mem_append_right _ (List.mem_of_getElem? (i := 277) (by decide +kernel))) rfl)⟩
theorem c_Frame_46 : zCal "PulseNet$Frame" 46 M_Frame_growTree 3 := ⟨Or.inl (zTbl_in (List.mem_append_right _ (List.mem_of_getElem? (i := 293) (by decide +kernel))) rfl), (zTbl_in (List.mem_append_right _ (List.mem_of_getElem? (i := 296) (by decide +kernel))) rfl), (zTbl_in (List.mem_append_right _ (List.mem_of_getElem? (i := 4) (by decide +kernel))) rfl), ⟨by decide, by decide, by decide +kernel⟩, by decide⟩
theorem r_Frame_growTree : zRcv M_Frame_growTree 3 := ⟨⟨_, _, _, _, rfl, rfl⟩, (zTbl_in (List.mem_append_right _ (List.mem_of_getElem? (i := 295) (by decide +kernel))) rfl), (zTbl_in (List.mem_append_left _ (List.mem_of_getElem? (i := 2) (by decide +kernel))) rfl)⟩
theorem c_Frame_50 : zCal "PulseNet$Frame" 50 M_Frame_makeClusters 2 := ⟨Or.inl (zTbl_in (List.mem_append_right _ (List.mem_of_getElem? (i := 302) (by decide +kernel))) rfl), (zTbl_in (List.mem_append_right _ (List.mem_of_getElem? (i := 305) (by decide +kernel))) rfl), (zTbl_in (List.mem_append_right _ (List.mem_of_getElem? (i := 4) (by decide +kernel))) rfl), ⟨by decide, by decide, by decide +kernel⟩, by decide⟩
theorem r_Frame_makeClusters : zRcv M_Frame_makeClusters 3 := ⟨⟨_, _, _, _, rfl, rfl⟩, (zTbl_in (List.mem_append_right _ (List.mem_of_getElem? (i := 304) (by decide +kernel))) rfl), (zTbl_in (List.mem_append_left _ (List.mem_of_getElem? (i := 4) (by decide +kernel))) rfl)⟩
theorem c_Frame_54 : zCal "PulseNet$Frame" 54 M_Frame_chooseLinks 1 := ⟨Or.inl (zTbl_in (List.mem_append_right _ (List.mem_of_getElem? (i := 316) (by decide +kernel))) rfl), (zTbl_in (List.mem_append_right _ (List.mem_of_getElem? (i := 319) (by decide +kernel))) rfl), (zTbl_in (List.mem_append_right _ (List.mem_of_getElem? (i := 4) (by decide +kernel))) rfl), ⟨by decide, by decide, by decide +kernel⟩, by decide⟩
theorem r_Frame_chooseLinks : zRcv M_Frame_chooseLinks 3 := ⟨⟨_, _, _, _, rfl, rfl⟩, (zTbl_in (List.mem_append_right _ (List.mem_of_getElem? (i := 318) (by decide +kernel))) rfl), (zTbl_in (List.mem_append_left _ (List.mem_of_getElem? (i := 5) (by decide +kernel))) rfl)⟩
theorem c_Frame_64 : zCal "PulseNet$Frame" 64 M_JArrays_fill 2 := ⟨Or.inl (zTbl_in (List.mem_append_right _ (List.mem_of_getElem? (i := 287) (by decide +kernel))) rfl), (zTbl_in (List.mem_append_right _ (List.mem_of_getElem? (i := 229) (by decide +kernel))) rfl), (zTbl_in (List.mem_append_right _ (List.mem_of_getElem? (i := 7) (by decide +kernel))) rfl), ⟨by decide, by decide, by decide +kernel⟩, by decide⟩
theorem c_Frame_76 : zCal "PulseNet$Frame" 76 M_P_isIn 2 := ⟨Or.inr ⟨"PulseNet", (List.mem_append_right _ (List.mem_of_getElem? (i := 297) (by decide +kernel)))⟩, (zTbl_in (List.mem_append_right _ (List.mem_of_getElem? (i := 255) (by decide +kernel))) rfl), (zTbl_in (List.mem_append_right _ (List.mem_of_getElem? (i := 1) (by decide +kernel))) rfl), ⟨by decide, by decide, by decide +kernel⟩, by decide⟩
theorem c_Frame_80 : zCal "PulseNet$Frame" 80 M_Frame_hang 4 := ⟨Or.inl (zTbl_in (List.mem_append_right _ (List.mem_of_getElem? (i := 298) (by decide +kernel))) rfl), (zTbl_in (List.mem_append_right _ (List.mem_of_getElem? (i := 301) (by decide +kernel))) rfl), (zTbl_in (List.mem_append_right _ (List.mem_of_getElem? (i := 4) (by decide +kernel))) rfl), ⟨by decide, by decide, by decide +kernel⟩, by decide⟩
theorem r_Frame_hang : zRcv M_Frame_hang 3 := ⟨⟨_, _, _, _, rfl, rfl⟩, (zTbl_in (List.mem_append_right _ (List.mem_of_getElem? (i := 300) (by decide +kernel))) rfl), (zTbl_in (List.mem_append_left _ (List.mem_of_getElem? (i := 3) (by decide +kernel))) rfl)⟩
theorem c_Frame_84 : zCal "PulseNet$Frame" 84 M_Frame_clusterOf 4 := ⟨Or.inl (zTbl_in (List.mem_append_right _ (List.mem_of_getElem? (i := 306) (by decide +kernel))) rfl), (zTbl_in (List.mem_append_right _ (List.mem_of_getElem? (i := 308) (by decide +kernel))) rfl), (zTbl_in (List.mem_append_right _ (List.mem_of_getElem? (i := 4) (by decide +kernel))) rfl), ⟨by decide, by decide, by decide +kernel⟩, by decide⟩
theorem st_Frame_clusterOf : Cond.static M_Frame_clusterOf.1 ∈ zTbl := (zTbl_in (List.mem_append_right _ (List.mem_of_getElem? (i := 307) (by decide +kernel))) rfl)
theorem c_Frame_88 : zCal "PulseNet$Frame" 88 M_Net_around 1 := ⟨Or.inl (zTbl_in (List.mem_append_right _ (List.mem_of_getElem? (i := 309) (by decide +kernel))) rfl), (zTbl_in (List.mem_append_right _ (List.mem_of_getElem? (i := 274) (by decide +kernel))) rfl), (zTbl_in (List.mem_append_right _ (List.mem_of_getElem? (i := 3) (by decide +kernel))) rfl), ⟨by decide, by decide, by decide +kernel⟩, by decide⟩
theorem r_Net_around : zRcv M_Net_around 2 := ⟨⟨_, _, _, _, rfl, rfl⟩, (zTbl_in (List.mem_append_right _ (List.mem_of_getElem? (i := 272) (by decide +kernel))) rfl), (zTbl_in (List.mem_append_right _ (List.mem_of_getElem? (i := 273) (by decide +kernel))) rfl)⟩
theorem c_Frame_92 : zCal "PulseNet$Frame" 92 M_JInteger_bitCount 1 := ⟨Or.inl (zTbl_in (List.mem_append_right _ (List.mem_of_getElem? (i := 310) (by decide +kernel))) rfl), (zTbl_in (List.mem_append_right _ (List.mem_of_getElem? (i := 312) (by decide +kernel))) rfl), (zTbl_in (List.mem_append_right _ (List.mem_of_getElem? (i := 9) (by decide +kernel))) rfl), ⟨by decide, by decide, by decide +kernel⟩, by decide⟩
theorem c_Frame_97 : zCal "PulseNet$Frame" 97 M_Frame_choose 2 := ⟨Or.inl (zTbl_in (List.mem_append_right _ (List.mem_of_getElem? (i := 320) (by decide +kernel))) rfl), (zTbl_in (List.mem_append_right _ (List.mem_of_getElem? (i := 323) (by decide +kernel))) rfl), (zTbl_in (List.mem_append_right _ (List.mem_of_getElem? (i := 4) (by decide +kernel))) rfl), ⟨by decide, by decide, by decide +kernel⟩, by decide⟩
theorem r_Frame_choose : zRcv M_Frame_choose 3 := ⟨⟨_, _, _, _, rfl, rfl⟩, (zTbl_in (List.mem_append_right _ (List.mem_of_getElem? (i := 322) (by decide +kernel))) rfl), (zTbl_in (List.mem_append_left _ (List.mem_of_getElem? (i := 6) (by decide +kernel))) rfl)⟩
theorem c_Net_28 : zCal "PulseNet$Net" 28 M_JArrays_fill 2 := ⟨Or.inl (zTbl_in (List.mem_append_right _ (List.mem_of_getElem? (i := 227) (by decide +kernel))) rfl), (zTbl_in (List.mem_append_right _ (List.mem_of_getElem? (i := 229) (by decide +kernel))) rfl), (zTbl_in (List.mem_append_right _ (List.mem_of_getElem? (i := 7) (by decide +kernel))) rfl), ⟨by decide, by decide, by decide +kernel⟩, by decide⟩
theorem c_Net_34 : zCal "PulseNet$Net" 34 M_P_isIn 2 := ⟨Or.inr ⟨"PulseNet", (List.mem_append_right _ (List.mem_of_getElem? (i := 253) (by decide +kernel)))⟩, (zTbl_in (List.mem_append_right _ (List.mem_of_getElem? (i := 255) (by decide +kernel))) rfl), (zTbl_in (List.mem_append_right _ (List.mem_of_getElem? (i := 1) (by decide +kernel))) rfl), ⟨by decide, by decide, by decide +kernel⟩, by decide⟩
theorem c_Net_38 : zCal "PulseNet$Net" 38 M_P_at 2 := ⟨Or.inr ⟨"PulseNet", (List.mem_append_right _ (List.mem_of_getElem? (i := 256) (by decide +kernel)))⟩, (zTbl_in (List.mem_append_right _ (List.mem_of_getElem? (i := 258) (by decide +kernel))) rfl), (zTbl_in (List.mem_append_right _ (List.mem_of_getElem? (i := 1) (by decide +kernel))) rfl), ⟨by decide, by decide, by decide +kernel⟩, by decide⟩
theorem c_Net_42 : zCal "PulseNet$Net" 42 M_Net_around 1 := ⟨Or.inl (zTbl_in (List.mem_append_right _ (List.mem_of_getElem? (i := 271) (by decide +kernel))) rfl), (zTbl_in (List.mem_append_right _ (List.mem_of_getElem? (i := 274) (by decide +kernel))) rfl), (zTbl_in (List.mem_append_right _ (List.mem_of_getElem? (i := 3) (by decide +kernel))) rfl), ⟨by decide, by decide, by decide +kernel⟩, by decide⟩
theorem c_Net_46 : zCal "PulseNet$Net" 46 M_Net_everyNode 0 := ⟨Or.inl (zTbl_in (List.mem_append_right _ (List.mem_of_getElem? (i := 275) (by decide +kernel))) rfl), (zTbl_in (List.mem_append_right _ (List.mem_of_getElem? (i := 278) (by decide +kernel))) rfl), (zTbl_in (List.mem_append_right _ (List.mem_of_getElem? (i := 3) (by decide +kernel))) rfl), ⟨by decide, by decide, by decide +kernel⟩, by decide⟩
theorem c_Play_28 : zCal "PulseNet$Play" 28 M_JArrays_fill 2 := ⟨Or.inl (zTbl_in (List.mem_append_right _ (List.mem_of_getElem? (i := 332) (by decide +kernel))) rfl), (zTbl_in (List.mem_append_right _ (List.mem_of_getElem? (i := 229) (by decide +kernel))) rfl), (zTbl_in (List.mem_append_right _ (List.mem_of_getElem? (i := 7) (by decide +kernel))) rfl), ⟨by decide, by decide, by decide +kernel⟩, by decide⟩
theorem c_Play_34 : zCal "PulseNet$Play" 34 M_Play_firstValue 2 := ⟨Or.inl (zTbl_in (List.mem_append_right _ (List.mem_of_getElem? (i := 333) (by decide +kernel))) rfl), (zTbl_in (List.mem_append_right _ (List.mem_of_getElem? (i := 336) (by decide +kernel))) rfl), (zTbl_in (List.mem_append_right _ (List.mem_of_getElem? (i := 5) (by decide +kernel))) rfl), ⟨by decide, by decide, by decide +kernel⟩, by decide⟩
theorem r_Play_firstValue : zRcv M_Play_firstValue 4 := ⟨⟨_, _, _, _, rfl, rfl⟩, (zTbl_in (List.mem_append_right _ (List.mem_of_getElem? (i := 335) (by decide +kernel))) rfl), (zTbl_in (List.mem_append_left _ (List.mem_of_getElem? (i := 7) (by decide +kernel))) rfl)⟩
theorem c_Play_43 : zCal "PulseNet$Play" 43 M_Play_noteRow 2 := ⟨Or.inl (zTbl_in (List.mem_append_right _ (List.mem_of_getElem? (i := 346) (by decide +kernel))) rfl), (zTbl_in (List.mem_append_right _ (List.mem_of_getElem? (i := 348) (by decide +kernel))) rfl), (zTbl_in (List.mem_append_right _ (List.mem_of_getElem? (i := 5) (by decide +kernel))) rfl), ⟨by decide, by decide, by decide +kernel⟩, by decide⟩
theorem st_Play_noteRow : Cond.static M_Play_noteRow.1 ∈ zTbl := (zTbl_in (List.mem_append_right _ (List.mem_of_getElem? (i := 347) (by decide +kernel))) rfl)
theorem c_Play_47 : zCal "PulseNet$Play" 47 M_Play_firstNote 2 := ⟨Or.inl (zTbl_in (List.mem_append_right _ (List.mem_of_getElem? (i := 349) (by decide +kernel))) rfl), (zTbl_in (List.mem_append_right _ (List.mem_of_getElem? (i := 352) (by decide +kernel))) rfl), (zTbl_in (List.mem_append_right _ (List.mem_of_getElem? (i := 5) (by decide +kernel))) rfl), ⟨by decide, by decide, by decide +kernel⟩, by decide⟩
theorem r_Play_firstNote : zRcv M_Play_firstNote 4 := ⟨⟨_, _, _, _, rfl, rfl⟩, (zTbl_in (List.mem_append_right _ (List.mem_of_getElem? (i := 351) (by decide +kernel))) rfl), (zTbl_in (List.mem_append_left _ (List.mem_of_getElem? (i := 9) (by decide +kernel))) rfl)⟩
theorem c_Play_50 : zCal "PulseNet$Play" 50 M_Play_laterNote 4 := ⟨Or.inl (zTbl_in (List.mem_append_right _ (List.mem_of_getElem? (i := 353) (by decide +kernel))) rfl), (zTbl_in (List.mem_append_right _ (List.mem_of_getElem? (i := 356) (by decide +kernel))) rfl), (zTbl_in (List.mem_append_right _ (List.mem_of_getElem? (i := 5) (by decide +kernel))) rfl), ⟨by decide, by decide, by decide +kernel⟩, by decide⟩
theorem r_Play_laterNote : zRcv M_Play_laterNote 4 := ⟨⟨_, _, _, _, rfl, rfl⟩, (zTbl_in (List.mem_append_right _ (List.mem_of_getElem? (i := 355) (by decide +kernel))) rfl), (zTbl_in (List.mem_append_left _ (List.mem_of_getElem? (i := 10) (by decide +kernel))) rfl)⟩
theorem c_Play_54 : zCal "PulseNet$Play" 54 M_Play_takeWave 2 := ⟨Or.inl (zTbl_in (List.mem_append_right _ (List.mem_of_getElem? (i := 357) (by decide +kernel))) rfl), (zTbl_in (List.mem_append_right _ (List.mem_of_getElem? (i := 360) (by decide +kernel))) rfl), (zTbl_in (List.mem_append_right _ (List.mem_of_getElem? (i := 5) (by decide +kernel))) rfl), ⟨by decide, by decide, by decide +kernel⟩, by decide⟩
theorem r_Play_takeWave : zRcv M_Play_takeWave 4 := ⟨⟨_, _, _, _, rfl, rfl⟩, (zTbl_in (List.mem_append_right _ (List.mem_of_getElem? (i := 359) (by decide +kernel))) rfl), (zTbl_in (List.mem_append_left _ (List.mem_of_getElem? (i := 11) (by decide +kernel))) rfl)⟩
theorem c_Play_57 : zCal "PulseNet$Play" 57 M_Play_takeGreatest 2 := ⟨Or.inl (zTbl_in (List.mem_append_right _ (List.mem_of_getElem? (i := 361) (by decide +kernel))) rfl), (zTbl_in (List.mem_append_right _ (List.mem_of_getElem? (i := 364) (by decide +kernel))) rfl), (zTbl_in (List.mem_append_right _ (List.mem_of_getElem? (i := 5) (by decide +kernel))) rfl), ⟨by decide, by decide, by decide +kernel⟩, by decide⟩
theorem r_Play_takeGreatest : zRcv M_Play_takeGreatest 4 := ⟨⟨_, _, _, _, rfl, rfl⟩, (zTbl_in (List.mem_append_right _ (List.mem_of_getElem? (i := 363) (by decide +kernel))) rfl), (zTbl_in (List.mem_append_left _ (List.mem_of_getElem? (i := 12) (by decide +kernel))) rfl)⟩
theorem c_Play_60 : zCal "PulseNet$Play" 60 M_Play_tryIn 3 := ⟨Or.inl (zTbl_in (List.mem_append_right _ (List.mem_of_getElem? (i := 365) (by decide +kernel))) rfl), (zTbl_in (List.mem_append_right _ (List.mem_of_getElem? (i := 368) (by decide +kernel))) rfl), (zTbl_in (List.mem_append_right _ (List.mem_of_getElem? (i := 5) (by decide +kernel))) rfl), ⟨by decide, by decide, by decide +kernel⟩, by decide⟩
theorem r_Play_tryIn : zRcv M_Play_tryIn 4 := ⟨⟨_, _, _, _, rfl, rfl⟩, (zTbl_in (List.mem_append_right _ (List.mem_of_getElem? (i := 367) (by decide +kernel))) rfl), (zTbl_in (List.mem_append_left _ (List.mem_of_getElem? (i := 13) (by decide +kernel))) rfl)⟩
theorem c_Play_64 : zCal "PulseNet$Play" 64 M_Play_tryOut 3 := ⟨Or.inl (zTbl_in (List.mem_append_right _ (List.mem_of_getElem? (i := 369) (by decide +kernel))) rfl), (zTbl_in (List.mem_append_right _ (List.mem_of_getElem? (i := 372) (by decide +kernel))) rfl), (zTbl_in (List.mem_append_right _ (List.mem_of_getElem? (i := 5) (by decide +kernel))) rfl), ⟨by decide, by decide, by decide +kernel⟩, by decide⟩
theorem r_Play_tryOut : zRcv M_Play_tryOut 4 := ⟨⟨_, _, _, _, rfl, rfl⟩, (zTbl_in (List.mem_append_right _ (List.mem_of_getElem? (i := 371) (by decide +kernel))) rfl), (zTbl_in (List.mem_append_left _ (List.mem_of_getElem? (i := 14) (by decide +kernel))) rfl)⟩
theorem c_Play_67 : zCal "PulseNet$Play" 67 M_Play_takeLengths 3 := ⟨Or.inl (zTbl_in (List.mem_append_right _ (List.mem_of_getElem? (i := 373) (by decide +kernel))) rfl), (zTbl_in (List.mem_append_right _ (List.mem_of_getElem? (i := 376) (by decide +kernel))) rfl), (zTbl_in (List.mem_append_right _ (List.mem_of_getElem? (i := 5) (by decide +kernel))) rfl), ⟨by decide, by decide, by decide +kernel⟩, by decide⟩
theorem r_Play_takeLengths : zRcv M_Play_takeLengths 4 := ⟨⟨_, _, _, _, rfl, rfl⟩, (zTbl_in (List.mem_append_right _ (List.mem_of_getElem? (i := 375) (by decide +kernel))) rfl), (zTbl_in (List.mem_append_left _ (List.mem_of_getElem? (i := 15) (by decide +kernel))) rfl)⟩
theorem c_Play_73 : zCal "PulseNet$Play" 73 M_P_at 2 := ⟨Or.inr ⟨"PulseNet", (List.mem_append_right _ (List.mem_of_getElem? (i := 377) (by decide +kernel)))⟩, (zTbl_in (List.mem_append_right _ (List.mem_of_getElem? (i := 258) (by decide +kernel))) rfl), (zTbl_in (List.mem_append_right _ (List.mem_of_getElem? (i := 1) (by decide +kernel))) rfl), ⟨by decide, by decide, by decide +kernel⟩, by decide⟩
theorem c_Pool_31 : zCal "PulseNet$Pool" 31 M_Pool_closeGap 2 := ⟨Or.inl (zTbl_in (List.mem_append_right _ (List.mem_of_getElem? (i := 457) (by decide +kernel))) rfl), (zTbl_in (List.mem_append_right _ (List.mem_of_getElem? (i := 460) (by decide +kernel))) rfl), (zTbl_in (List.mem_append_right _ (List.mem_of_getElem? (i := 6) (by decide +kernel))) rfl), ⟨by decide, by decide, by decide +kernel⟩, by decide⟩
theorem r_Pool_closeGap : zRcv M_Pool_closeGap 5 := ⟨⟨_, _, _, _, rfl, rfl⟩, (zTbl_in (List.mem_append_right _ (List.mem_of_getElem? (i := 459) (by decide +kernel))) rfl), (zTbl_in (List.mem_append_left _ (List.mem_of_getElem? (i := 29) (by decide +kernel))) rfl)⟩
theorem c_P_110 : zCal "PulseNet" 110 M_Course_isSafe 1 := ⟨Or.inl (zTbl_in (List.mem_append_right _ (List.mem_of_getElem? (i := 475) (by decide +kernel))) rfl), (zTbl_in (List.mem_append_right _ (List.mem_of_getElem? (i := 416) (by decide +kernel))) rfl), (zTbl_in (List.mem_append_right _ (List.mem_of_getElem? (i := 2) (by decide +kernel))) rfl), ⟨by decide, by decide, by decide +kernel⟩, by decide⟩
theorem c_P_119 : zCal "PulseNet" 119 M_P_hasRound 2 := ⟨Or.inl (zTbl_in (List.mem_append_right _ (List.mem_of_getElem? (i := 480) (by decide +kernel))) rfl), (zTbl_in (List.mem_append_right _ (List.mem_of_getElem? (i := 483) (by decide +kernel))) rfl), (zTbl_in (List.mem_append_right _ (List.mem_of_getElem? (i := 1) (by decide +kernel))) rfl), ⟨by decide, by decide, by decide +kernel⟩, by decide⟩
theorem r_P_hasRound : zRcv M_P_hasRound 0 := ⟨⟨_, _, _, _, rfl, rfl⟩, (zTbl_in (List.mem_append_right _ (List.mem_of_getElem? (i := 482) (by decide +kernel))) rfl), (zTbl_in (List.mem_append_left _ (List.mem_of_getElem? (i := 30) (by decide +kernel))) rfl)⟩
theorem c_P_126 : zCal "PulseNet" 126 M_P_at 2 := ⟨Or.inl (zTbl_in (List.mem_append_right _ (List.mem_of_getElem? (i := 484) (by decide +kernel))) rfl), (zTbl_in (List.mem_append_right _ (List.mem_of_getElem? (i := 258) (by decide +kernel))) rfl), (zTbl_in (List.mem_append_right _ (List.mem_of_getElem? (i := 1) (by decide +kernel))) rfl), ⟨by decide, by decide, by decide +kernel⟩, by decide⟩
theorem c_P_133 : zCal "PulseNet" 133 M_Course_countWrong 0 := ⟨Or.inl (zTbl_in (List.mem_append_right _ (List.mem_of_getElem? (i := 493) (by decide +kernel))) rfl), (zTbl_in (List.mem_append_right _ (List.mem_of_getElem? (i := 496) (by decide +kernel))) rfl), (zTbl_in (List.mem_append_right _ (List.mem_of_getElem? (i := 2) (by decide +kernel))) rfl), ⟨by decide, by decide, by decide +kernel⟩, by decide⟩
theorem r_Course_countWrong : zRcv M_Course_countWrong 1 := ⟨⟨_, _, _, _, rfl, rfl⟩, (zTbl_in (List.mem_append_right _ (List.mem_of_getElem? (i := 494) (by decide +kernel))) rfl), (zTbl_in (List.mem_append_right _ (List.mem_of_getElem? (i := 495) (by decide +kernel))) rfl)⟩
theorem c_P_161 : zCal "PulseNet" 161 M_Course_leastRound 0 := ⟨Or.inl (zTbl_in (List.mem_append_right _ (List.mem_of_getElem? (i := 505) (by decide +kernel))) rfl), (zTbl_in (List.mem_append_right _ (List.mem_of_getElem? (i := 508) (by decide +kernel))) rfl), (zTbl_in (List.mem_append_right _ (List.mem_of_getElem? (i := 2) (by decide +kernel))) rfl), ⟨by decide, by decide, by decide +kernel⟩, by decide⟩
theorem c_P_164 : zCal "PulseNet" 164 M_Course_greatestRound 0 := ⟨Or.inl (zTbl_in (List.mem_append_right _ (List.mem_of_getElem? (i := 512) (by decide +kernel))) rfl), (zTbl_in (List.mem_append_right _ (List.mem_of_getElem? (i := 515) (by decide +kernel))) rfl), (zTbl_in (List.mem_append_right _ (List.mem_of_getElem? (i := 2) (by decide +kernel))) rfl), ⟨by decide, by decide, by decide +kernel⟩, by decide⟩
theorem r_Course_greatestRound : zRcv M_Course_greatestRound 1 := ⟨⟨_, _, _, _, rfl, rfl⟩, (zTbl_in (List.mem_append_right _ (List.mem_of_getElem? (i := 513) (by decide +kernel))) rfl), (zTbl_in (List.mem_append_right _ (List.mem_of_getElem? (i := 514) (by decide +kernel))) rfl)⟩
theorem c_P_167 : zCal "PulseNet" 167 M_Course_isOver 0 := ⟨Or.inl (zTbl_in (List.mem_append_right _ (List.mem_of_getElem? (i := 519) (by decide +kernel))) rfl), (zTbl_in (List.mem_append_right _ (List.mem_of_getElem? (i := 522) (by decide +kernel))) rfl), (zTbl_in (List.mem_append_right _ (List.mem_of_getElem? (i := 2) (by decide +kernel))) rfl), ⟨by decide, by decide, by decide +kernel⟩, by decide⟩
theorem r_Course_isOver : zRcv M_Course_isOver 1 := ⟨⟨_, _, _, _, rfl, rfl⟩, (zTbl_in (List.mem_append_right _ (List.mem_of_getElem? (i := 520) (by decide +kernel))) rfl), (zTbl_in (List.mem_append_right _ (List.mem_of_getElem? (i := 521) (by decide +kernel))) rfl)⟩
theorem c_P_20 : zCal "PulseNet" 20 M_Net_clear 1 := ⟨Or.inl (zTbl_in (List.mem_append_right _ (List.mem_of_getElem? (i := 223) (by decide +kernel))) rfl), (zTbl_in (List.mem_append_right _ (List.mem_of_getElem? (i := 226) (by decide +kernel))) rfl), (zTbl_in (List.mem_append_right _ (List.mem_of_getElem? (i := 3) (by decide +kernel))) rfl), ⟨by decide, by decide, by decide +kernel⟩, by decide⟩
theorem r_Net_clear : zRcv M_Net_clear 2 := ⟨⟨_, _, _, _, rfl, rfl⟩, (zTbl_in (List.mem_append_right _ (List.mem_of_getElem? (i := 224) (by decide +kernel))) rfl), (zTbl_in (List.mem_append_right _ (List.mem_of_getElem? (i := 225) (by decide +kernel))) rfl)⟩
theorem c_P_30 : zCal "PulseNet" 30 M_Net_hasNode 1 := ⟨Or.inl (zTbl_in (List.mem_append_right _ (List.mem_of_getElem? (i := 245) (by decide +kernel))) rfl), (zTbl_in (List.mem_append_right _ (List.mem_of_getElem? (i := 248) (by decide +kernel))) rfl), (zTbl_in (List.mem_append_right _ (List.mem_of_getElem? (i := 3) (by decide +kernel))) rfl), ⟨by decide, by decide, by decide +kernel⟩, by decide⟩
theorem r_Net_hasNode : zRcv M_Net_hasNode 2 := ⟨⟨_, _, _, _, rfl, rfl⟩, (zTbl_in (List.mem_append_right _ (List.mem_of_getElem? (i := 246) (by decide +kernel))) rfl), (zTbl_in (List.mem_append_right _ (List.mem_of_getElem? (i := 247) (by decide +kernel))) rfl)⟩
theorem c_P_34 : zCal "PulseNet" 34 M_Net_join 3 := ⟨Or.inl (zTbl_in (List.mem_append_right _ (List.mem_of_getElem? (i := 249) (by decide +kernel))) rfl), (zTbl_in (List.mem_append_right _ (List.mem_of_getElem? (i := 252) (by decide +kernel))) rfl), (zTbl_in (List.mem_append_right _ (List.mem_of_getElem? (i := 3) (by decide +kernel))) rfl), ⟨by decide, by decide, by decide +kernel⟩, by decide⟩
theorem r_Net_join : zRcv M_Net_join 2 := ⟨⟨_, _, _, _, rfl, rfl⟩, (zTbl_in (List.mem_append_right _ (List.mem_of_getElem? (i := 250) (by decide +kernel))) rfl), (zTbl_in (List.mem_append_right _ (List.mem_of_getElem? (i := 251) (by decide +kernel))) rfl)⟩
theorem c_P_46 : zCal "PulseNet" 46 M_Net_isConnected 0 := ⟨Or.inl (zTbl_in (List.mem_append_right _ (List.mem_of_getElem? (i := 267) (by decide +kernel))) rfl), (zTbl_in (List.mem_append_right _ (List.mem_of_getElem? (i := 270) (by decide +kernel))) rfl), (zTbl_in (List.mem_append_right _ (List.mem_of_getElem? (i := 3) (by decide +kernel))) rfl), ⟨by decide, by decide, by decide +kernel⟩, by decide⟩
theorem r_Net_isConnected : zRcv M_Net_isConnected 2 := ⟨⟨_, _, _, _, rfl, rfl⟩, (zTbl_in (List.mem_append_right _ (List.mem_of_getElem? (i := 268) (by decide +kernel))) rfl), (zTbl_in (List.mem_append_right _ (List.mem_of_getElem? (i := 269) (by decide +kernel))) rfl)⟩
theorem c_P_54 : zCal "PulseNet" 54 M_Frame_setUp 4 := ⟨Or.inl (zTbl_in (List.mem_append_right _ (List.mem_of_getElem? (i := 279) (by decide +kernel))) rfl), (zTbl_in (List.mem_append_right _ (List.mem_of_getElem? (i := 282) (by decide +kernel))) rfl), (zTbl_in (List.mem_append_right _ (List.mem_of_getElem? (i := 4) (by decide +kernel))) rfl), ⟨by decide, by decide, by decide +kernel⟩, by decide⟩
theorem r_Frame_setUp : zRcv M_Frame_setUp 3 := ⟨⟨_, _, _, _, rfl, rfl⟩, (zTbl_in (List.mem_append_right _ (List.mem_of_getElem? (i := 280) (by decide +kernel))) rfl), (zTbl_in (List.mem_append_right _ (List.mem_of_getElem? (i := 281) (by decide +kernel))) rfl)⟩
theorem c_P_60 : zCal "PulseNet" 60 M_Course_open 4 := ⟨Or.inl (zTbl_in (List.mem_append_right _ (List.mem_of_getElem? (i := 324) (by decide +kernel))) rfl), (zTbl_in (List.mem_append_right _ (List.mem_of_getElem? (i := 327) (by decide +kernel))) rfl), (zTbl_in (List.mem_append_right _ (List.mem_of_getElem? (i := 2) (by decide +kernel))) rfl), ⟨by decide, by decide, by decide +kernel⟩, by decide⟩
theorem r_Course_open : zRcv M_Course_open 1 := ⟨⟨_, _, _, _, rfl, rfl⟩, (zTbl_in (List.mem_append_right _ (List.mem_of_getElem? (i := 325) (by decide +kernel))) rfl), (zTbl_in (List.mem_append_right _ (List.mem_of_getElem? (i := 326) (by decide +kernel))) rfl)⟩
theorem c_P_73 : zCal "PulseNet" 73 M_P_hasLetter 1 := ⟨Or.inl (zTbl_in (List.mem_append_right _ (List.mem_of_getElem? (i := 445) (by decide +kernel))) rfl), (zTbl_in (List.mem_append_right _ (List.mem_of_getElem? (i := 448) (by decide +kernel))) rfl), (zTbl_in (List.mem_append_right _ (List.mem_of_getElem? (i := 1) (by decide +kernel))) rfl), ⟨by decide, by decide, by decide +kernel⟩, by decide⟩
theorem r_P_hasLetter : zRcv M_P_hasLetter 0 := ⟨⟨_, _, _, _, rfl, rfl⟩, (zTbl_in (List.mem_append_right _ (List.mem_of_getElem? (i := 447) (by decide +kernel))) rfl), (zTbl_in (List.mem_append_left _ (List.mem_of_getElem? (i := 28) (by decide +kernel))) rfl)⟩
theorem c_P_76 : zCal "PulseNet" 76 M_Course_bring 1 := ⟨Or.inl (zTbl_in (List.mem_append_right _ (List.mem_of_getElem? (i := 449) (by decide +kernel))) rfl), (zTbl_in (List.mem_append_right _ (List.mem_of_getElem? (i := 452) (by decide +kernel))) rfl), (zTbl_in (List.mem_append_right _ (List.mem_of_getElem? (i := 2) (by decide +kernel))) rfl), ⟨by decide, by decide, by decide +kernel⟩, by decide⟩
theorem r_Course_bring : zRcv M_Course_bring 1 := ⟨⟨_, _, _, _, rfl, rfl⟩, (zTbl_in (List.mem_append_right _ (List.mem_of_getElem? (i := 450) (by decide +kernel))) rfl), (zTbl_in (List.mem_append_right _ (List.mem_of_getElem? (i := 451) (by decide +kernel))) rfl)⟩
theorem c_P_87 : zCal "PulseNet" 87 M_JInteger_bitCount 1 := ⟨Or.inl (zTbl_in (List.mem_append_right _ (List.mem_of_getElem? (i := 474) (by decide +kernel))) rfl), (zTbl_in (List.mem_append_right _ (List.mem_of_getElem? (i := 312) (by decide +kernel))) rfl), (zTbl_in (List.mem_append_right _ (List.mem_of_getElem? (i := 9) (by decide +kernel))) rfl), ⟨by decide, by decide, by decide +kernel⟩, by decide⟩
theorem c_Mo_106 : zCal "PulseNetModel" 106 M_Mo_around 2 := ⟨Or.inl (zTbl_in (List.mem_append_right _ (List.mem_of_getElem? (i := 678) (by decide +kernel))) rfl), (zTbl_in (List.mem_append_right _ (List.mem_of_getElem? (i := 681) (by decide +kernel))) rfl), (zTbl_in (List.mem_append_right _ (List.mem_of_getElem? (i := 8) (by decide +kernel))) rfl), ⟨by decide, by decide, by decide +kernel⟩, by decide⟩
theorem r_Mo_around : zRcv M_Mo_around 32 := ⟨⟨_, _, _, _, rfl, rfl⟩, (zTbl_in (List.mem_append_right _ (List.mem_of_getElem? (i := 680) (by decide +kernel))) rfl), (zTbl_in (List.mem_append_left _ (List.mem_of_getElem? (i := 37) (by decide +kernel))) rfl)⟩
theorem c_Mo_110 : zCal "PulseNetModel" 110 M_Mo_bits 1 := ⟨Or.inl (zTbl_in (List.mem_append_right _ (List.mem_of_getElem? (i := 682) (by decide +kernel))) rfl), (zTbl_in (List.mem_append_right _ (List.mem_of_getElem? (i := 685) (by decide +kernel))) rfl), (zTbl_in (List.mem_append_right _ (List.mem_of_getElem? (i := 8) (by decide +kernel))) rfl), ⟨by decide, by decide, by decide +kernel⟩, by decide⟩
theorem r_Mo_bits : zRcv M_Mo_bits 32 := ⟨⟨_, _, _, _, rfl, rfl⟩, (zTbl_in (List.mem_append_right _ (List.mem_of_getElem? (i := 684) (by decide +kernel))) rfl), (zTbl_in (List.mem_append_left _ (List.mem_of_getElem? (i := 38) (by decide +kernel))) rfl)⟩
theorem c_Mo_113 : zCal "PulseNetModel" 113 M_Mo_tree 2 := ⟨Or.inl (zTbl_in (List.mem_append_right _ (List.mem_of_getElem? (i := 670) (by decide +kernel))) rfl), (zTbl_in (List.mem_append_right _ (List.mem_of_getElem? (i := 673) (by decide +kernel))) rfl), (zTbl_in (List.mem_append_right _ (List.mem_of_getElem? (i := 8) (by decide +kernel))) rfl), ⟨by decide, by decide, by decide +kernel⟩, by decide⟩
theorem r_Mo_tree : zRcv M_Mo_tree 32 := ⟨⟨_, _, _, _, rfl, rfl⟩, (zTbl_in (List.mem_append_right _ (List.mem_of_getElem? (i := 672) (by decide +kernel))) rfl), (zTbl_in (List.mem_append_left _ (List.mem_of_getElem? (i := 35) (by decide +kernel))) rfl)⟩
theorem c_Mo_117 : zCal "PulseNetModel" 117 M_Mo_choose 0 := ⟨Or.inl (zTbl_in (List.mem_append_right _ (List.mem_of_getElem? (i := 686) (by decide +kernel))) rfl), (zTbl_in (List.mem_append_right _ (List.mem_of_getElem? (i := 689) (by decide +kernel))) rfl), (zTbl_in (List.mem_append_right _ (List.mem_of_getElem? (i := 8) (by decide +kernel))) rfl), ⟨by decide, by decide, by decide +kernel⟩, by decide⟩
theorem r_Mo_choose : zRcv M_Mo_choose 32 := ⟨⟨_, _, _, _, rfl, rfl⟩, (zTbl_in (List.mem_append_right _ (List.mem_of_getElem? (i := 688) (by decide +kernel))) rfl), (zTbl_in (List.mem_append_left _ (List.mem_of_getElem? (i := 39) (by decide +kernel))) rfl)⟩
theorem c_Mo_129 : zCal "PulseNetModel" 129 M_Mo_writer 3 := ⟨Or.inl (zTbl_in (List.mem_append_right _ (List.mem_of_getElem? (i := 698) (by decide +kernel))) rfl), (zTbl_in (List.mem_append_right _ (List.mem_of_getElem? (i := 701) (by decide +kernel))) rfl), (zTbl_in (List.mem_append_right _ (List.mem_of_getElem? (i := 8) (by decide +kernel))) rfl), ⟨by decide, by decide, by decide +kernel⟩, by decide⟩
theorem r_Mo_writer : zRcv M_Mo_writer 32 := ⟨⟨_, _, _, _, rfl, rfl⟩, (zTbl_in (List.mem_append_right _ (List.mem_of_getElem? (i := 700) (by decide +kernel))) rfl), (zTbl_in (List.mem_append_left _ (List.mem_of_getElem? (i := 42) (by decide +kernel))) rfl)⟩
theorem c_Mo_133 : zCal "PulseNetModel" 133 M_Mo_first 2 := ⟨Or.inl (zTbl_in (List.mem_append_right _ (List.mem_of_getElem? (i := 666) (by decide +kernel))) rfl), (zTbl_in (List.mem_append_right _ (List.mem_of_getElem? (i := 669) (by decide +kernel))) rfl), (zTbl_in (List.mem_append_right _ (List.mem_of_getElem? (i := 8) (by decide +kernel))) rfl), ⟨by decide, by decide, by decide +kernel⟩, by decide⟩
theorem r_Mo_first : zRcv M_Mo_first 32 := ⟨⟨_, _, _, _, rfl, rfl⟩, (zTbl_in (List.mem_append_right _ (List.mem_of_getElem? (i := 668) (by decide +kernel))) rfl), (zTbl_in (List.mem_append_left _ (List.mem_of_getElem? (i := 34) (by decide +kernel))) rfl)⟩
theorem c_Mo_139 : zCal "PulseNetModel" 139 M_Mo_act 3 := ⟨Or.inl (zTbl_in (List.mem_append_right _ (List.mem_of_getElem? (i := 694) (by decide +kernel))) rfl), (zTbl_in (List.mem_append_right _ (List.mem_of_getElem? (i := 697) (by decide +kernel))) rfl), (zTbl_in (List.mem_append_right _ (List.mem_of_getElem? (i := 8) (by decide +kernel))) rfl), ⟨by decide, by decide, by decide +kernel⟩, by decide⟩
theorem r_Mo_act : zRcv M_Mo_act 32 := ⟨⟨_, _, _, _, rfl, rfl⟩, (zTbl_in (List.mem_append_right _ (List.mem_of_getElem? (i := 696) (by decide +kernel))) rfl), (zTbl_in (List.mem_append_left _ (List.mem_of_getElem? (i := 41) (by decide +kernel))) rfl)⟩
theorem c_Mo_155 : zCal "PulseNetModel" 155 M_Mo_isBelow 2 := ⟨Or.inl (zTbl_in (List.mem_append_right _ (List.mem_of_getElem? (i := 710) (by decide +kernel))) rfl), (zTbl_in (List.mem_append_right _ (List.mem_of_getElem? (i := 713) (by decide +kernel))) rfl), (zTbl_in (List.mem_append_right _ (List.mem_of_getElem? (i := 8) (by decide +kernel))) rfl), ⟨by decide, by decide, by decide +kernel⟩, by decide⟩
theorem r_Mo_isBelow : zRcv M_Mo_isBelow 32 := ⟨⟨_, _, _, _, rfl, rfl⟩, (zTbl_in (List.mem_append_right _ (List.mem_of_getElem? (i := 712) (by decide +kernel))) rfl), (zTbl_in (List.mem_append_left _ (List.mem_of_getElem? (i := 45) (by decide +kernel))) rfl)⟩
theorem c_Mo_158 : zCal "PulseNetModel" 158 M_Mo_send 5 := ⟨Or.inl (zTbl_in (List.mem_append_right _ (List.mem_of_getElem? (i := 714) (by decide +kernel))) rfl), (zTbl_in (List.mem_append_right _ (List.mem_of_getElem? (i := 717) (by decide +kernel))) rfl), (zTbl_in (List.mem_append_right _ (List.mem_of_getElem? (i := 8) (by decide +kernel))) rfl), ⟨by decide, by decide, by decide +kernel⟩, by decide⟩
theorem r_Mo_send : zRcv M_Mo_send 32 := ⟨⟨_, _, _, _, rfl, rfl⟩, (zTbl_in (List.mem_append_right _ (List.mem_of_getElem? (i := 716) (by decide +kernel))) rfl), (zTbl_in (List.mem_append_left _ (List.mem_of_getElem? (i := 46) (by decide +kernel))) rfl)⟩
theorem c_Mo_162 : zCal "PulseNetModel" 162 M_Mo_place 4 := ⟨Or.inl (zTbl_in (List.mem_append_right _ (List.mem_of_getElem? (i := 718) (by decide +kernel))) rfl), (zTbl_in (List.mem_append_right _ (List.mem_of_getElem? (i := 721) (by decide +kernel))) rfl), (zTbl_in (List.mem_append_right _ (List.mem_of_getElem? (i := 8) (by decide +kernel))) rfl), ⟨by decide, by decide, by decide +kernel⟩, by decide⟩
theorem r_Mo_place : zRcv M_Mo_place 32 := ⟨⟨_, _, _, _, rfl, rfl⟩, (zTbl_in (List.mem_append_right _ (List.mem_of_getElem? (i := 720) (by decide +kernel))) rfl), (zTbl_in (List.mem_append_left _ (List.mem_of_getElem? (i := 47) (by decide +kernel))) rfl)⟩
theorem c_Mo_166 : zCal "PulseNetModel" 166 M_Mo_toLower 3 := ⟨Or.inl (zTbl_in (List.mem_append_right _ (List.mem_of_getElem? (i := 706) (by decide +kernel))) rfl), (zTbl_in (List.mem_append_right _ (List.mem_of_getElem? (i := 709) (by decide +kernel))) rfl), (zTbl_in (List.mem_append_right _ (List.mem_of_getElem? (i := 8) (by decide +kernel))) rfl), ⟨by decide, by decide, by decide +kernel⟩, by decide⟩
theorem r_Mo_toLower : zRcv M_Mo_toLower 32 := ⟨⟨_, _, _, _, rfl, rfl⟩, (zTbl_in (List.mem_append_right _ (List.mem_of_getElem? (i := 708) (by decide +kernel))) rfl), (zTbl_in (List.mem_append_left _ (List.mem_of_getElem? (i := 44) (by decide +kernel))) rfl)⟩
theorem c_Mo_170 : zCal "PulseNetModel" 170 M_Mo_hasAll 3 := ⟨Or.inl (zTbl_in (List.mem_append_right _ (List.mem_of_getElem? (i := 726) (by decide +kernel))) rfl), (zTbl_in (List.mem_append_right _ (List.mem_of_getElem? (i := 729) (by decide +kernel))) rfl), (zTbl_in (List.mem_append_right _ (List.mem_of_getElem? (i := 8) (by decide +kernel))) rfl), ⟨by decide, by decide, by decide +kernel⟩, by decide⟩
theorem r_Mo_hasAll : zRcv M_Mo_hasAll 32 := ⟨⟨_, _, _, _, rfl, rfl⟩, (zTbl_in (List.mem_append_right _ (List.mem_of_getElem? (i := 728) (by decide +kernel))) rfl), (zTbl_in (List.mem_append_left _ (List.mem_of_getElem? (i := 49) (by decide +kernel))) rfl)⟩
theorem c_Mo_174 : zCal "PulseNetModel" 174 M_Mo_becomeFirm 1 := ⟨Or.inl (zTbl_in (List.mem_append_right _ (List.mem_of_getElem? (i := 730) (by decide +kernel))) rfl), (zTbl_in (List.mem_append_right _ (List.mem_of_getElem? (i := 733) (by decide +kernel))) rfl), (zTbl_in (List.mem_append_right _ (List.mem_of_getElem? (i := 8) (by decide +kernel))) rfl), ⟨by decide, by decide, by decide +kernel⟩, by decide⟩
theorem r_Mo_becomeFirm : zRcv M_Mo_becomeFirm 32 := ⟨⟨_, _, _, _, rfl, rfl⟩, (zTbl_in (List.mem_append_right _ (List.mem_of_getElem? (i := 732) (by decide +kernel))) rfl), (zTbl_in (List.mem_append_left _ (List.mem_of_getElem? (i := 50) (by decide +kernel))) rfl)⟩
theorem c_Mo_178 : zCal "PulseNetModel" 178 M_Mo_beginRound 2 := ⟨Or.inl (zTbl_in (List.mem_append_right _ (List.mem_of_getElem? (i := 702) (by decide +kernel))) rfl), (zTbl_in (List.mem_append_right _ (List.mem_of_getElem? (i := 705) (by decide +kernel))) rfl), (zTbl_in (List.mem_append_right _ (List.mem_of_getElem? (i := 8) (by decide +kernel))) rfl), ⟨by decide, by decide, by decide +kernel⟩, by decide⟩
theorem r_Mo_beginRound : zRcv M_Mo_beginRound 32 := ⟨⟨_, _, _, _, rfl, rfl⟩, (zTbl_in (List.mem_append_right _ (List.mem_of_getElem? (i := 704) (by decide +kernel))) rfl), (zTbl_in (List.mem_append_left _ (List.mem_of_getElem? (i := 43) (by decide +kernel))) rfl)⟩
theorem c_Mo_181 : zCal "PulseNetModel" 181 M_Mo_spread 2 := ⟨Or.inl (zTbl_in (List.mem_append_right _ (List.mem_of_getElem? (i := 662) (by decide +kernel))) rfl), (zTbl_in (List.mem_append_right _ (List.mem_of_getElem? (i := 665) (by decide +kernel))) rfl), (zTbl_in (List.mem_append_right _ (List.mem_of_getElem? (i := 8) (by decide +kernel))) rfl), ⟨by decide, by decide, by decide +kernel⟩, by decide⟩
theorem r_Mo_spread : zRcv M_Mo_spread 32 := ⟨⟨_, _, _, _, rfl, rfl⟩, (zTbl_in (List.mem_append_right _ (List.mem_of_getElem? (i := 664) (by decide +kernel))) rfl), (zTbl_in (List.mem_append_left _ (List.mem_of_getElem? (i := 33) (by decide +kernel))) rfl)⟩
theorem c_Mo_184 : zCal "PulseNetModel" 184 M_Mo_makeClusters 1 := ⟨Or.inl (zTbl_in (List.mem_append_right _ (List.mem_of_getElem? (i := 674) (by decide +kernel))) rfl), (zTbl_in (List.mem_append_right _ (List.mem_of_getElem? (i := 677) (by decide +kernel))) rfl), (zTbl_in (List.mem_append_right _ (List.mem_of_getElem? (i := 8) (by decide +kernel))) rfl), ⟨by decide, by decide, by decide +kernel⟩, by decide⟩
theorem r_Mo_makeClusters : zRcv M_Mo_makeClusters 32 := ⟨⟨_, _, _, _, rfl, rfl⟩, (zTbl_in (List.mem_append_right _ (List.mem_of_getElem? (i := 676) (by decide +kernel))) rfl), (zTbl_in (List.mem_append_left _ (List.mem_of_getElem? (i := 36) (by decide +kernel))) rfl)⟩
theorem c_Mo_187 : zCal "PulseNetModel" 187 M_Mo_step 0 := ⟨Or.inl (zTbl_in (List.mem_append_right _ (List.mem_of_getElem? (i := 690) (by decide +kernel))) rfl), (zTbl_in (List.mem_append_right _ (List.mem_of_getElem? (i := 693) (by decide +kernel))) rfl), (zTbl_in (List.mem_append_right _ (List.mem_of_getElem? (i := 8) (by decide +kernel))) rfl), ⟨by decide, by decide, by decide +kernel⟩, by decide⟩
theorem r_Mo_step : zRcv M_Mo_step 32 := ⟨⟨_, _, _, _, rfl, rfl⟩, (zTbl_in (List.mem_append_right _ (List.mem_of_getElem? (i := 692) (by decide +kernel))) rfl), (zTbl_in (List.mem_append_left _ (List.mem_of_getElem? (i := 40) (by decide +kernel))) rfl)⟩
theorem c_Mo_190 : zCal "PulseNetModel" 190 M_Mo_goOn 1 := ⟨Or.inl (zTbl_in (List.mem_append_right _ (List.mem_of_getElem? (i := 722) (by decide +kernel))) rfl), (zTbl_in (List.mem_append_right _ (List.mem_of_getElem? (i := 725) (by decide +kernel))) rfl), (zTbl_in (List.mem_append_right _ (List.mem_of_getElem? (i := 8) (by decide +kernel))) rfl), ⟨by decide, by decide, by decide +kernel⟩, by decide⟩
theorem r_Mo_goOn : zRcv M_Mo_goOn 32 := ⟨⟨_, _, _, _, rfl, rfl⟩, (zTbl_in (List.mem_append_right _ (List.mem_of_getElem? (i := 724) (by decide +kernel))) rfl), (zTbl_in (List.mem_append_left _ (List.mem_of_getElem? (i := 48) (by decide +kernel))) rfl)⟩
theorem c_Mo_193 : zCal "PulseNetModel" 193 M_Mo_handle 1 := ⟨Or.inl (zTbl_in (List.mem_append_right _ (List.mem_of_getElem? (i := 738) (by decide +kernel))) rfl), (zTbl_in (List.mem_append_right _ (List.mem_of_getElem? (i := 741) (by decide +kernel))) rfl), (zTbl_in (List.mem_append_right _ (List.mem_of_getElem? (i := 8) (by decide +kernel))) rfl), ⟨by decide, by decide, by decide +kernel⟩, by decide⟩
theorem r_Mo_handle : zRcv M_Mo_handle 32 := ⟨⟨_, _, _, _, rfl, rfl⟩, (zTbl_in (List.mem_append_right _ (List.mem_of_getElem? (i := 740) (by decide +kernel))) rfl), (zTbl_in (List.mem_append_left _ (List.mem_of_getElem? (i := 51) (by decide +kernel))) rfl)⟩
theorem c_Mo_200 : zCal "PulseNetModel" 200 M_Mo_noPlace 2 := ⟨Or.inl (zTbl_in (List.mem_append_right _ (List.mem_of_getElem? (i := 756) (by decide +kernel))) rfl), (zTbl_in (List.mem_append_right _ (List.mem_of_getElem? (i := 759) (by decide +kernel))) rfl), (zTbl_in (List.mem_append_right _ (List.mem_of_getElem? (i := 8) (by decide +kernel))) rfl), ⟨by decide, by decide, by decide +kernel⟩, by decide⟩
theorem r_Mo_noPlace : zRcv M_Mo_noPlace 32 := ⟨⟨_, _, _, _, rfl, rfl⟩, (zTbl_in (List.mem_append_right _ (List.mem_of_getElem? (i := 758) (by decide +kernel))) rfl), (zTbl_in (List.mem_append_left _ (List.mem_of_getElem? (i := 52) (by decide +kernel))) rfl)⟩
theorem c_Mo_95 : zCal "PulseNetModel" 95 M_Mo_noNode 1 := ⟨Or.inl (zTbl_in (List.mem_append_right _ (List.mem_of_getElem? (i := 646) (by decide +kernel))) rfl), (zTbl_in (List.mem_append_right _ (List.mem_of_getElem? (i := 649) (by decide +kernel))) rfl), (zTbl_in (List.mem_append_right _ (List.mem_of_getElem? (i := 8) (by decide +kernel))) rfl), ⟨by decide, by decide, by decide +kernel⟩, by decide⟩
theorem r_Mo_noNode : zRcv M_Mo_noNode 32 := ⟨⟨_, _, _, _, rfl, rfl⟩, (zTbl_in (List.mem_append_right _ (List.mem_of_getElem? (i := 648) (by decide +kernel))) rfl), (zTbl_in (List.mem_append_left _ (List.mem_of_getElem? (i := 31) (by decide +kernel))) rfl)⟩
theorem c_Mo_99 : zCal "PulseNetModel" 99 M_Mo_isLink 2 := ⟨Or.inl (zTbl_in (List.mem_append_right _ (List.mem_of_getElem? (i := 650) (by decide +kernel))) rfl), (zTbl_in (List.mem_append_right _ (List.mem_of_getElem? (i := 653) (by decide +kernel))) rfl), (zTbl_in (List.mem_append_right _ (List.mem_of_getElem? (i := 8) (by decide +kernel))) rfl), ⟨by decide, by decide, by decide +kernel⟩, by decide⟩
theorem r_Mo_isLink : zRcv M_Mo_isLink 32 := ⟨⟨_, _, _, _, rfl, rfl⟩, (zTbl_in (List.mem_append_right _ (List.mem_of_getElem? (i := 652) (by decide +kernel))) rfl), (zTbl_in (List.mem_append_left _ (List.mem_of_getElem? (i := 32) (by decide +kernel))) rfl)⟩
theorem m_Pool_35 : zCop "PulseNet$Pool" 35 := ⟨(zTbl_in (List.mem_append_right _ (List.mem_of_getElem? (i := 461) (by decide +kernel))) rfl), (zTbl_in (List.mem_append_right _ (List.mem_of_getElem? (i := 463) (by decide +kernel))) rfl), (zTbl_in (List.mem_append_right _ (List.mem_of_getElem? (i := 462) (by decide +kernel))) rfl), (zTbl_in (List.mem_append_right _ (List.mem_of_getElem? (i := 10) (by decide +kernel))) rfl)⟩
theorem f_Course_101 : zFld "PulseNet$Course" 101 1 6 none := ⟨_, _, _, _, _, rfl, rfl, in_Course, rfl, by decide, Or.inl (zTbl_in (List.mem_append_right _ (List.mem_of_getElem? (i := 174) (by decide +kernel))) rfl)⟩
theorem f_Course_104 : zFld "PulseNet$Course" 104 1 7 none := ⟨_, _, _, _, _, rfl, rfl, in_Course, rfl, by decide, Or.inl (zTbl_in (List.mem_append_right _ (List.mem_of_getElem? (i := 176) (by decide +kernel))) rfl)⟩
theorem f_Course_12 : zFld "PulseNet$Course" 12 1 0 (some 2) := ⟨_, _, _, _, _, rfl, rfl, in_Course, rfl, by decide, Or.inl (zTbl_in (List.mem_append_right _ (List.mem_of_getElem? (i := 163) (by decide +kernel))) rfl)⟩
theorem f_Course_121 : zFld "PulseNet$Course" 121 2 3 (some 7) := ⟨_, _, _, _, _, rfl, rfl, in_Net, rfl, by decide, Or.inl (zTbl_in (List.mem_append_right _ (List.mem_of_getElem? (i := 43) (by decide +kernel))) rfl)⟩
theorem f_Course_132 : zFld "PulseNet$Course" 132 5 1 (some 19) := ⟨_, _, _, _, _, rfl, rfl, in_Pool, rfl, by decide, Or.inl (zTbl_in (List.mem_append_right _ (List.mem_of_getElem? (i := 136) (by decide +kernel))) rfl)⟩
theorem f_Course_135 : zFld "PulseNet$Course" 135 5 2 (some 20) := ⟨_, _, _, _, _, rfl, rfl, in_Pool, rfl, by decide, Or.inl (zTbl_in (List.mem_append_right _ (List.mem_of_getElem? (i := 139) (by decide +kernel))) rfl)⟩
theorem f_Course_138 : zFld "PulseNet$Course" 138 5 3 (some 21) := ⟨_, _, _, _, _, rfl, rfl, in_Pool, rfl, by decide, Or.inl (zTbl_in (List.mem_append_right _ (List.mem_of_getElem? (i := 142) (by decide +kernel))) rfl)⟩
theorem f_Course_141 : zFld "PulseNet$Course" 141 5 4 (some 22) := ⟨_, _, _, _, _, rfl, rfl, in_Pool, rfl, by decide, Or.inl (zTbl_in (List.mem_append_right _ (List.mem_of_getElem? (i := 145) (by decide +kernel))) rfl)⟩
theorem f_Course_143 : zFld "PulseNet$Course" 143 5 5 (some 23) := ⟨_, _, _, _, _, rfl, rfl, in_Pool, rfl, by decide, Or.inl (zTbl_in (List.mem_append_right _ (List.mem_of_getElem? (i := 148) (by decide +kernel))) rfl)⟩
theorem f_Course_169 : zFld "PulseNet$Course" 169 3 6 (some 13) := ⟨_, _, _, _, _, rfl, rfl, in_Frame, rfl, by decide, Or.inl (zTbl_in (List.mem_append_right _ (List.mem_of_getElem? (i := 78) (by decide +kernel))) rfl)⟩
theorem f_Course_178 : zFld "PulseNet$Course" 178 3 7 (some 14) := ⟨_, _, _, _, _, rfl, rfl, in_Frame, rfl, by decide, Or.inl (zTbl_in (List.mem_append_right _ (List.mem_of_getElem? (i := 80) (by decide +kernel))) rfl)⟩
theorem f_Course_181 : zFld "PulseNet$Course" 181 3 2 (some 9) := ⟨_, _, _, _, _, rfl, rfl, in_Frame, rfl, by decide, Or.inl (zTbl_in (List.mem_append_right _ (List.mem_of_getElem? (i := 71) (by decide +kernel))) rfl)⟩
theorem f_Course_194 : zFld "PulseNet$Course" 194 3 5 (some 12) := ⟨_, _, _, _, _, rfl, rfl, in_Frame, rfl, by decide, Or.inl (zTbl_in (List.mem_append_right _ (List.mem_of_getElem? (i := 76) (by decide +kernel))) rfl)⟩
theorem f_Course_21 : zFld "PulseNet$Course" 21 1 1 (some 3) := ⟨_, _, _, _, _, rfl, rfl, in_Course, rfl, by decide, Or.inl (zTbl_in (List.mem_append_right _ (List.mem_of_getElem? (i := 165) (by decide +kernel))) rfl)⟩
theorem f_Course_28 : zFld "PulseNet$Course" 28 1 2 (some 4) := ⟨_, _, _, _, _, rfl, rfl, in_Course, rfl, by decide, Or.inl (zTbl_in (List.mem_append_right _ (List.mem_of_getElem? (i := 167) (by decide +kernel))) rfl)⟩
theorem f_Course_35 : zFld "PulseNet$Course" 35 1 3 (some 5) := ⟨_, _, _, _, _, rfl, rfl, in_Course, rfl, by decide, Or.inl (zTbl_in (List.mem_append_right _ (List.mem_of_getElem? (i := 169) (by decide +kernel))) rfl)⟩
theorem f_Course_39 : zFld "PulseNet$Course" 39 1 8 (some 24) := ⟨_, _, _, _, _, rfl, rfl, in_Course, rfl, by decide, Or.inl (zTbl_in (List.mem_append_right _ (List.mem_of_getElem? (i := 178) (by decide +kernel))) rfl)⟩
theorem f_Course_43 : zFld "PulseNet$Course" 43 1 9 (some 25) := ⟨_, _, _, _, _, rfl, rfl, in_Course, rfl, by decide, Or.inl (zTbl_in (List.mem_append_right _ (List.mem_of_getElem? (i := 180) (by decide +kernel))) rfl)⟩
theorem f_Course_46 : zFld "PulseNet$Course" 46 1 10 (some 26) := ⟨_, _, _, _, _, rfl, rfl, in_Course, rfl, by decide, Or.inl (zTbl_in (List.mem_append_right _ (List.mem_of_getElem? (i := 181) (by decide +kernel))) rfl)⟩
theorem f_Course_49 : zFld "PulseNet$Course" 49 1 11 (some 27) := ⟨_, _, _, _, _, rfl, rfl, in_Course, rfl, by decide, Or.inl (zTbl_in (List.mem_append_right _ (List.mem_of_getElem? (i := 183) (by decide +kernel))) rfl)⟩
theorem f_Course_52 : zFld "PulseNet$Course" 52 1 12 (some 28) := ⟨_, _, _, _, _, rfl, rfl, in_Course, rfl, by decide, Or.inl (zTbl_in (List.mem_append_right _ (List.mem_of_getElem? (i := 184) (by decide +kernel))) rfl)⟩
theorem f_Course_55 : zFld "PulseNet$Course" 55 1 13 (some 29) := ⟨_, _, _, _, _, rfl, rfl, in_Course, rfl, by decide, Or.inl (zTbl_in (List.mem_append_right _ (List.mem_of_getElem? (i := 185) (by decide +kernel))) rfl)⟩
theorem f_Course_58 : zFld "PulseNet$Course" 58 1 14 (some 30) := ⟨_, _, _, _, _, rfl, rfl, in_Course, rfl, by decide, Or.inl (zTbl_in (List.mem_append_right _ (List.mem_of_getElem? (i := 186) (by decide +kernel))) rfl)⟩
theorem f_Course_61 : zFld "PulseNet$Course" 61 1 15 (some 31) := ⟨_, _, _, _, _, rfl, rfl, in_Course, rfl, by decide, Or.inl (zTbl_in (List.mem_append_right _ (List.mem_of_getElem? (i := 188) (by decide +kernel))) rfl)⟩
theorem f_Course_64 : zFld "PulseNet$Course" 64 1 4 none := ⟨_, _, _, _, _, rfl, rfl, in_Course, rfl, by decide, Or.inl (zTbl_in (List.mem_append_right _ (List.mem_of_getElem? (i := 171) (by decide +kernel))) rfl)⟩
theorem f_Course_68 : zFld "PulseNet$Course" 68 1 5 none := ⟨_, _, _, _, _, rfl, rfl, in_Course, rfl, by decide, Or.inl (zTbl_in (List.mem_append_right _ (List.mem_of_getElem? (i := 172) (by decide +kernel))) rfl)⟩
theorem f_Course_81 : zFld "PulseNet$Course" 81 2 0 none := ⟨_, _, _, _, _, rfl, rfl, in_Net, rfl, by decide, Or.inl (zTbl_in (List.mem_append_right _ (List.mem_of_getElem? (i := 33) (by decide +kernel))) rfl)⟩
theorem f_Course_88 : zFld "PulseNet$Course" 88 4 2 (some 16) := ⟨_, _, _, _, _, rfl, rfl, in_Play, rfl, by decide, Or.inl (zTbl_in (List.mem_append_right _ (List.mem_of_getElem? (i := 110) (by decide +kernel))) rfl)⟩
theorem f_Course_98 : zFld "PulseNet$Course" 98 5 0 none := ⟨_, _, _, _, _, rfl, rfl, in_Pool, rfl, by decide, Or.inl (zTbl_in (List.mem_append_right _ (List.mem_of_getElem? (i := 133) (by decide +kernel))) rfl)⟩
theorem f_Frame_15 : zFld "PulseNet$Frame" 15 3 3 (some 10) := ⟨_, _, _, _, _, rfl, rfl, in_Frame, rfl, by decide, Or.inl (zTbl_in (List.mem_append_right _ (List.mem_of_getElem? (i := 72) (by decide +kernel))) rfl)⟩
theorem f_Frame_18 : zFld "PulseNet$Frame" 18 3 4 (some 11) := ⟨_, _, _, _, _, rfl, rfl, in_Frame, rfl, by decide, Or.inl (zTbl_in (List.mem_append_right _ (List.mem_of_getElem? (i := 74) (by decide +kernel))) rfl)⟩
theorem f_Frame_21 : zFld "PulseNet$Frame" 21 3 5 (some 12) := ⟨_, _, _, _, _, rfl, rfl, in_Frame, rfl, by decide, Or.inl (zTbl_in (List.mem_append_right _ (List.mem_of_getElem? (i := 75) (by decide +kernel))) rfl)⟩
theorem f_Frame_24 : zFld "PulseNet$Frame" 24 3 6 (some 13) := ⟨_, _, _, _, _, rfl, rfl, in_Frame, rfl, by decide, Or.inl (zTbl_in (List.mem_append_right _ (List.mem_of_getElem? (i := 77) (by decide +kernel))) rfl)⟩
theorem f_Frame_27 : zFld "PulseNet$Frame" 27 3 7 (some 14) := ⟨_, _, _, _, _, rfl, rfl, in_Frame, rfl, by decide, Or.inl (zTbl_in (List.mem_append_right _ (List.mem_of_getElem? (i := 79) (by decide +kernel))) rfl)⟩
theorem f_Frame_30 : zFld "PulseNet$Frame" 30 3 8 (some 15) := ⟨_, _, _, _, _, rfl, rfl, in_Frame, rfl, by decide, Or.inl (zTbl_in (List.mem_append_right _ (List.mem_of_getElem? (i := 81) (by decide +kernel))) rfl)⟩
theorem f_Frame_57 : zFld "PulseNet$Frame" 57 3 0 none := ⟨_, _, _, _, _, rfl, rfl, in_Frame, rfl, by decide, Or.inl (zTbl_in (List.mem_append_right _ (List.mem_of_getElem? (i := 65) (by decide +kernel))) rfl)⟩
theorem f_Frame_61 : zFld "PulseNet$Frame" 61 3 1 none := ⟨_, _, _, _, _, rfl, rfl, in_Frame, rfl, by decide, Or.inl (zTbl_in (List.mem_append_right _ (List.mem_of_getElem? (i := 67) (by decide +kernel))) rfl)⟩
theorem f_Frame_70 : zFld "PulseNet$Frame" 70 2 0 none := ⟨_, _, _, _, _, rfl, rfl, in_Net, rfl, by decide, Or.inl (zTbl_in (List.mem_append_right _ (List.mem_of_getElem? (i := 34) (by decide +kernel))) rfl)⟩
theorem f_Frame_73 : zFld "PulseNet$Frame" 73 2 3 (some 7) := ⟨_, _, _, _, _, rfl, rfl, in_Net, rfl, by decide, Or.inl (zTbl_in (List.mem_append_right _ (List.mem_of_getElem? (i := 42) (by decide +kernel))) rfl)⟩
theorem f_Frame_9 : zFld "PulseNet$Frame" 9 3 2 (some 9) := ⟨_, _, _, _, _, rfl, rfl, in_Frame, rfl, by decide, Or.inl (zTbl_in (List.mem_append_right _ (List.mem_of_getElem? (i := 69) (by decide +kernel))) rfl)⟩
theorem f_Net_15 : zFld "PulseNet$Net" 15 2 3 (some 7) := ⟨_, _, _, _, _, rfl, rfl, in_Net, rfl, by decide, Or.inl (zTbl_in (List.mem_append_right _ (List.mem_of_getElem? (i := 41) (by decide +kernel))) rfl)⟩
theorem f_Net_18 : zFld "PulseNet$Net" 18 2 4 (some 8) := ⟨_, _, _, _, _, rfl, rfl, in_Net, rfl, by decide, Or.inl (zTbl_in (List.mem_append_right _ (List.mem_of_getElem? (i := 45) (by decide +kernel))) rfl)⟩
theorem f_Net_21 : zFld "PulseNet$Net" 21 2 0 none := ⟨_, _, _, _, _, rfl, rfl, in_Net, rfl, by decide, Or.inl (zTbl_in (List.mem_append_right _ (List.mem_of_getElem? (i := 32) (by decide +kernel))) rfl)⟩
theorem f_Net_25 : zFld "PulseNet$Net" 25 2 1 none := ⟨_, _, _, _, _, rfl, rfl, in_Net, rfl, by decide, Or.inl (zTbl_in (List.mem_append_right _ (List.mem_of_getElem? (i := 36) (by decide +kernel))) rfl)⟩
theorem f_Net_9 : zFld "PulseNet$Net" 9 2 2 (some 6) := ⟨_, _, _, _, _, rfl, rfl, in_Net, rfl, by decide, Or.inl (zTbl_in (List.mem_append_right _ (List.mem_of_getElem? (i := 38) (by decide +kernel))) rfl)⟩
theorem f_Play_15 : zFld "PulseNet$Play" 15 4 3 (some 17) := ⟨_, _, _, _, _, rfl, rfl, in_Play, rfl, by decide, Or.inl (zTbl_in (List.mem_append_right _ (List.mem_of_getElem? (i := 112) (by decide +kernel))) rfl)⟩
theorem f_Play_18 : zFld "PulseNet$Play" 18 4 4 (some 18) := ⟨_, _, _, _, _, rfl, rfl, in_Play, rfl, by decide, Or.inl (zTbl_in (List.mem_append_right _ (List.mem_of_getElem? (i := 114) (by decide +kernel))) rfl)⟩
theorem f_Play_21 : zFld "PulseNet$Play" 21 4 0 none := ⟨_, _, _, _, _, rfl, rfl, in_Play, rfl, by decide, Or.inl (zTbl_in (List.mem_append_right _ (List.mem_of_getElem? (i := 107) (by decide +kernel))) rfl)⟩
theorem f_Play_25 : zFld "PulseNet$Play" 25 4 1 none := ⟨_, _, _, _, _, rfl, rfl, in_Play, rfl, by decide, Or.inl (zTbl_in (List.mem_append_right _ (List.mem_of_getElem? (i := 108) (by decide +kernel))) rfl)⟩
theorem f_Play_38 : zFld "PulseNet$Play" 38 2 2 (some 6) := ⟨_, _, _, _, _, rfl, rfl, in_Net, rfl, by decide, Or.inl (zTbl_in (List.mem_append_right _ (List.mem_of_getElem? (i := 39) (by decide +kernel))) rfl)⟩
theorem f_Play_70 : zFld "PulseNet$Play" 70 2 4 (some 8) := ⟨_, _, _, _, _, rfl, rfl, in_Net, rfl, by decide, Or.inl (zTbl_in (List.mem_append_right _ (List.mem_of_getElem? (i := 46) (by decide +kernel))) rfl)⟩
theorem f_Play_9 : zFld "PulseNet$Play" 9 4 2 (some 16) := ⟨_, _, _, _, _, rfl, rfl, in_Play, rfl, by decide, Or.inl (zTbl_in (List.mem_append_right _ (List.mem_of_getElem? (i := 109) (by decide +kernel))) rfl)⟩
theorem f_Pool_11 : zFld "PulseNet$Pool" 11 5 1 (some 19) := ⟨_, _, _, _, _, rfl, rfl, in_Pool, rfl, by decide, Or.inl (zTbl_in (List.mem_append_right _ (List.mem_of_getElem? (i := 135) (by decide +kernel))) rfl)⟩
theorem f_Pool_15 : zFld "PulseNet$Pool" 15 5 2 (some 20) := ⟨_, _, _, _, _, rfl, rfl, in_Pool, rfl, by decide, Or.inl (zTbl_in (List.mem_append_right _ (List.mem_of_getElem? (i := 138) (by decide +kernel))) rfl)⟩
theorem f_Pool_18 : zFld "PulseNet$Pool" 18 5 3 (some 21) := ⟨_, _, _, _, _, rfl, rfl, in_Pool, rfl, by decide, Or.inl (zTbl_in (List.mem_append_right _ (List.mem_of_getElem? (i := 141) (by decide +kernel))) rfl)⟩
theorem f_Pool_21 : zFld "PulseNet$Pool" 21 5 4 (some 22) := ⟨_, _, _, _, _, rfl, rfl, in_Pool, rfl, by decide, Or.inl (zTbl_in (List.mem_append_right _ (List.mem_of_getElem? (i := 144) (by decide +kernel))) rfl)⟩
theorem f_Pool_24 : zFld "PulseNet$Pool" 24 5 5 (some 23) := ⟨_, _, _, _, _, rfl, rfl, in_Pool, rfl, by decide, Or.inl (zTbl_in (List.mem_append_right _ (List.mem_of_getElem? (i := 147) (by decide +kernel))) rfl)⟩
theorem f_Pool_27 : zFld "PulseNet$Pool" 27 5 0 none := ⟨_, _, _, _, _, rfl, rfl, in_Pool, rfl, by decide, Or.inl (zTbl_in (List.mem_append_right _ (List.mem_of_getElem? (i := 132) (by decide +kernel))) rfl)⟩
theorem f_P_10 : zFld "PulseNet" 10 0 0 (some 1) := ⟨_, _, _, _, _, rfl, rfl, in_P, rfl, by decide, Or.inl (zTbl_in (List.mem_append_right _ (List.mem_of_getElem? (i := 230) (by decide +kernel))) rfl)⟩
theorem f_P_104 : zFld "PulseNet" 104 4 3 (some 17) := ⟨_, _, _, _, _, rfl, rfl, in_Play, rfl, by decide, Or.inl (zTbl_in (List.mem_append_right _ (List.mem_of_getElem? (i := 113) (by decide +kernel))) rfl)⟩
theorem f_P_107 : zFld "PulseNet" 107 1 10 (some 26) := ⟨_, _, _, _, _, rfl, rfl, in_Course, rfl, by decide, Or.inl (zTbl_in (List.mem_append_right _ (List.mem_of_getElem? (i := 182) (by decide +kernel))) rfl)⟩
theorem f_P_113 : zFld "PulseNet" 113 3 3 (some 10) := ⟨_, _, _, _, _, rfl, rfl, in_Frame, rfl, by decide, Or.inl (zTbl_in (List.mem_append_right _ (List.mem_of_getElem? (i := 73) (by decide +kernel))) rfl)⟩
theorem f_P_116 : zFld "PulseNet" 116 3 2 (some 9) := ⟨_, _, _, _, _, rfl, rfl, in_Frame, rfl, by decide, Or.inl (zTbl_in (List.mem_append_right _ (List.mem_of_getElem? (i := 70) (by decide +kernel))) rfl)⟩
theorem f_P_123 : zFld "PulseNet" 123 1 14 (some 30) := ⟨_, _, _, _, _, rfl, rfl, in_Course, rfl, by decide, Or.inl (zTbl_in (List.mem_append_right _ (List.mem_of_getElem? (i := 187) (by decide +kernel))) rfl)⟩
theorem f_P_130 : zFld "PulseNet" 130 1 15 (some 31) := ⟨_, _, _, _, _, rfl, rfl, in_Course, rfl, by decide, Or.inl (zTbl_in (List.mem_append_right _ (List.mem_of_getElem? (i := 189) (by decide +kernel))) rfl)⟩
theorem f_P_137 : zFld "PulseNet" 137 5 1 (some 19) := ⟨_, _, _, _, _, rfl, rfl, in_Pool, rfl, by decide, Or.inl (zTbl_in (List.mem_append_right _ (List.mem_of_getElem? (i := 137) (by decide +kernel))) rfl)⟩
theorem f_P_140 : zFld "PulseNet" 140 5 2 (some 20) := ⟨_, _, _, _, _, rfl, rfl, in_Pool, rfl, by decide, Or.inl (zTbl_in (List.mem_append_right _ (List.mem_of_getElem? (i := 140) (by decide +kernel))) rfl)⟩
theorem f_P_143 : zFld "PulseNet" 143 5 3 (some 21) := ⟨_, _, _, _, _, rfl, rfl, in_Pool, rfl, by decide, Or.inl (zTbl_in (List.mem_append_right _ (List.mem_of_getElem? (i := 143) (by decide +kernel))) rfl)⟩
theorem f_P_146 : zFld "PulseNet" 146 5 4 (some 22) := ⟨_, _, _, _, _, rfl, rfl, in_Pool, rfl, by decide, Or.inl (zTbl_in (List.mem_append_right _ (List.mem_of_getElem? (i := 146) (by decide +kernel))) rfl)⟩
theorem f_P_149 : zFld "PulseNet" 149 5 5 (some 23) := ⟨_, _, _, _, _, rfl, rfl, in_Pool, rfl, by decide, Or.inl (zTbl_in (List.mem_append_right _ (List.mem_of_getElem? (i := 149) (by decide +kernel))) rfl)⟩
theorem f_P_152 : zFld "PulseNet" 152 2 0 none := ⟨_, _, _, _, _, rfl, rfl, in_Net, rfl, by decide, Or.inl (zTbl_in (List.mem_append_right _ (List.mem_of_getElem? (i := 35) (by decide +kernel))) rfl)⟩
theorem f_P_155 : zFld "PulseNet" 155 1 6 none := ⟨_, _, _, _, _, rfl, rfl, in_Course, rfl, by decide, Or.inl (zTbl_in (List.mem_append_right _ (List.mem_of_getElem? (i := 175) (by decide +kernel))) rfl)⟩
theorem f_P_158 : zFld "PulseNet" 158 1 7 none := ⟨_, _, _, _, _, rfl, rfl, in_Course, rfl, by decide, Or.inl (zTbl_in (List.mem_append_right _ (List.mem_of_getElem? (i := 177) (by decide +kernel))) rfl)⟩
theorem f_P_16 : zFld "PulseNet" 16 1 0 (some 2) := ⟨_, _, _, _, _, rfl, rfl, in_Course, rfl, by decide, Or.inl (zTbl_in (List.mem_append_right _ (List.mem_of_getElem? (i := 164) (by decide +kernel))) rfl)⟩
theorem f_P_170 : zFld "PulseNet" 170 3 0 none := ⟨_, _, _, _, _, rfl, rfl, in_Frame, rfl, by decide, Or.inl (zTbl_in (List.mem_append_right _ (List.mem_of_getElem? (i := 66) (by decide +kernel))) rfl)⟩
theorem f_P_173 : zFld "PulseNet" 173 3 1 none := ⟨_, _, _, _, _, rfl, rfl, in_Frame, rfl, by decide, Or.inl (zTbl_in (List.mem_append_right _ (List.mem_of_getElem? (i := 68) (by decide +kernel))) rfl)⟩
theorem f_P_176 : zFld "PulseNet" 176 1 5 none := ⟨_, _, _, _, _, rfl, rfl, in_Course, rfl, by decide, Or.inl (zTbl_in (List.mem_append_right _ (List.mem_of_getElem? (i := 173) (by decide +kernel))) rfl)⟩
theorem f_P_26 : zFld "PulseNet" 26 0 1 none := ⟨_, _, _, _, _, rfl, rfl, in_P, rfl, by decide, Or.inl (zTbl_in (List.mem_append_right _ (List.mem_of_getElem? (i := 231) (by decide +kernel))) rfl)⟩
theorem f_P_38 : zFld "PulseNet" 38 2 1 none := ⟨_, _, _, _, _, rfl, rfl, in_Net, rfl, by decide, Or.inl (zTbl_in (List.mem_append_right _ (List.mem_of_getElem? (i := 37) (by decide +kernel))) rfl)⟩
theorem f_P_42 : zFld "PulseNet" 42 2 2 (some 6) := ⟨_, _, _, _, _, rfl, rfl, in_Net, rfl, by decide, Or.inl (zTbl_in (List.mem_append_right _ (List.mem_of_getElem? (i := 40) (by decide +kernel))) rfl)⟩
theorem f_P_50 : zFld "PulseNet" 50 1 1 (some 3) := ⟨_, _, _, _, _, rfl, rfl, in_Course, rfl, by decide, Or.inl (zTbl_in (List.mem_append_right _ (List.mem_of_getElem? (i := 166) (by decide +kernel))) rfl)⟩
theorem f_P_64 : zFld "PulseNet" 64 1 3 (some 5) := ⟨_, _, _, _, _, rfl, rfl, in_Course, rfl, by decide, Or.inl (zTbl_in (List.mem_append_right _ (List.mem_of_getElem? (i := 170) (by decide +kernel))) rfl)⟩
theorem f_P_68 : zFld "PulseNet" 68 5 0 none := ⟨_, _, _, _, _, rfl, rfl, in_Pool, rfl, by decide, Or.inl (zTbl_in (List.mem_append_right _ (List.mem_of_getElem? (i := 134) (by decide +kernel))) rfl)⟩
theorem f_P_84 : zFld "PulseNet" 84 2 3 (some 7) := ⟨_, _, _, _, _, rfl, rfl, in_Net, rfl, by decide, Or.inl (zTbl_in (List.mem_append_right _ (List.mem_of_getElem? (i := 44) (by decide +kernel))) rfl)⟩
theorem f_P_92 : zFld "PulseNet" 92 1 8 (some 24) := ⟨_, _, _, _, _, rfl, rfl, in_Course, rfl, by decide, Or.inl (zTbl_in (List.mem_append_right _ (List.mem_of_getElem? (i := 179) (by decide +kernel))) rfl)⟩
theorem f_P_95 : zFld "PulseNet" 95 1 2 (some 4) := ⟨_, _, _, _, _, rfl, rfl, in_Course, rfl, by decide, Or.inl (zTbl_in (List.mem_append_right _ (List.mem_of_getElem? (i := 168) (by decide +kernel))) rfl)⟩
theorem f_P_99 : zFld "PulseNet" 99 4 2 (some 16) := ⟨_, _, _, _, _, rfl, rfl, in_Play, rfl, by decide, Or.inl (zTbl_in (List.mem_append_right _ (List.mem_of_getElem? (i := 111) (by decide +kernel))) rfl)⟩
theorem f_Mo_103 : zFld "PulseNetModel" 103 32 19 none := ⟨_, _, _, _, _, rfl, rfl, in_Mo, rfl, by decide, Or.inl (zTbl_in (List.mem_append_right _ (List.mem_of_getElem? (i := 553) (by decide +kernel))) rfl)⟩
theorem f_Mo_120 : zFld "PulseNetModel" 120 32 20 none := ⟨_, _, _, _, _, rfl, rfl, in_Mo, rfl, by decide, Or.inl (zTbl_in (List.mem_append_right _ (List.mem_of_getElem? (i := 554) (by decide +kernel))) rfl)⟩
theorem f_Mo_123 : zFld "PulseNetModel" 123 32 5 none := ⟨_, _, _, _, _, rfl, rfl, in_Mo, rfl, by decide, Or.inl (zTbl_in (List.mem_append_right _ (List.mem_of_getElem? (i := 539) (by decide +kernel))) rfl)⟩
theorem f_Mo_126 : zFld "PulseNetModel" 126 32 7 none := ⟨_, _, _, _, _, rfl, rfl, in_Mo, rfl, by decide, Or.inl (zTbl_in (List.mem_append_right _ (List.mem_of_getElem? (i := 541) (by decide +kernel))) rfl)⟩
theorem f_Mo_13 : zFld "PulseNetModel" 13 32 3 (some 34) := ⟨_, _, _, _, _, rfl, rfl, in_Mo, rfl, by decide, Or.inl (zTbl_in (List.mem_append_right _ (List.mem_of_getElem? (i := 537) (by decide +kernel))) rfl)⟩
theorem f_Mo_136 : zFld "PulseNetModel" 136 32 8 none := ⟨_, _, _, _, _, rfl, rfl, in_Mo, rfl, by decide, Or.inl (zTbl_in (List.mem_append_right _ (List.mem_of_getElem? (i := 542) (by decide +kernel))) rfl)⟩
theorem f_Mo_143 : zFld "PulseNetModel" 143 32 27 none := ⟨_, _, _, _, _, rfl, rfl, in_Mo, rfl, by decide, Or.inl (zTbl_in (List.mem_append_right _ (List.mem_of_getElem? (i := 561) (by decide +kernel))) rfl)⟩
theorem f_Mo_146 : zFld "PulseNetModel" 146 32 29 none := ⟨_, _, _, _, _, rfl, rfl, in_Mo, rfl, by decide, Or.inl (zTbl_in (List.mem_append_right _ (List.mem_of_getElem? (i := 563) (by decide +kernel))) rfl)⟩
theorem f_Mo_149 : zFld "PulseNetModel" 149 32 30 none := ⟨_, _, _, _, _, rfl, rfl, in_Mo, rfl, by decide, Or.inl (zTbl_in (List.mem_append_right _ (List.mem_of_getElem? (i := 564) (by decide +kernel))) rfl)⟩
theorem f_Mo_152 : zFld "PulseNetModel" 152 32 6 none := ⟨_, _, _, _, _, rfl, rfl, in_Mo, rfl, by decide, Or.inl (zTbl_in (List.mem_append_right _ (List.mem_of_getElem? (i := 540) (by decide +kernel))) rfl)⟩
theorem f_Mo_16 : zFld "PulseNetModel" 16 32 9 (some 35) := ⟨_, _, _, _, _, rfl, rfl, in_Mo, rfl, by decide, Or.inl (zTbl_in (List.mem_append_right _ (List.mem_of_getElem? (i := 543) (by decide +kernel))) rfl)⟩
theorem f_Mo_19 : zFld "PulseNetModel" 19 32 10 (some 36) := ⟨_, _, _, _, _, rfl, rfl, in_Mo, rfl, by decide, Or.inl (zTbl_in (List.mem_append_right _ (List.mem_of_getElem? (i := 544) (by decide +kernel))) rfl)⟩
theorem f_Mo_22 : zFld "PulseNetModel" 22 32 11 (some 37) := ⟨_, _, _, _, _, rfl, rfl, in_Mo, rfl, by decide, Or.inl (zTbl_in (List.mem_append_right _ (List.mem_of_getElem? (i := 545) (by decide +kernel))) rfl)⟩
theorem f_Mo_26 : zFld "PulseNetModel" 26 32 12 (some 38) := ⟨_, _, _, _, _, rfl, rfl, in_Mo, rfl, by decide, Or.inl (zTbl_in (List.mem_append_right _ (List.mem_of_getElem? (i := 546) (by decide +kernel))) rfl)⟩
theorem f_Mo_29 : zFld "PulseNetModel" 29 32 13 (some 39) := ⟨_, _, _, _, _, rfl, rfl, in_Mo, rfl, by decide, Or.inl (zTbl_in (List.mem_append_right _ (List.mem_of_getElem? (i := 547) (by decide +kernel))) rfl)⟩
theorem f_Mo_32 : zFld "PulseNetModel" 32 32 14 (some 40) := ⟨_, _, _, _, _, rfl, rfl, in_Mo, rfl, by decide, Or.inl (zTbl_in (List.mem_append_right _ (List.mem_of_getElem? (i := 548) (by decide +kernel))) rfl)⟩
theorem f_Mo_35 : zFld "PulseNetModel" 35 32 15 (some 41) := ⟨_, _, _, _, _, rfl, rfl, in_Mo, rfl, by decide, Or.inl (zTbl_in (List.mem_append_right _ (List.mem_of_getElem? (i := 549) (by decide +kernel))) rfl)⟩
theorem f_Mo_38 : zFld "PulseNetModel" 38 32 16 (some 42) := ⟨_, _, _, _, _, rfl, rfl, in_Mo, rfl, by decide, Or.inl (zTbl_in (List.mem_append_right _ (List.mem_of_getElem? (i := 550) (by decide +kernel))) rfl)⟩
theorem f_Mo_41 : zFld "PulseNetModel" 41 32 17 (some 43) := ⟨_, _, _, _, _, rfl, rfl, in_Mo, rfl, by decide, Or.inl (zTbl_in (List.mem_append_right _ (List.mem_of_getElem? (i := 551) (by decide +kernel))) rfl)⟩
theorem f_Mo_44 : zFld "PulseNetModel" 44 32 18 (some 44) := ⟨_, _, _, _, _, rfl, rfl, in_Mo, rfl, by decide, Or.inl (zTbl_in (List.mem_append_right _ (List.mem_of_getElem? (i := 552) (by decide +kernel))) rfl)⟩
theorem f_Mo_47 : zFld "PulseNetModel" 47 32 21 (some 45) := ⟨_, _, _, _, _, rfl, rfl, in_Mo, rfl, by decide, Or.inl (zTbl_in (List.mem_append_right _ (List.mem_of_getElem? (i := 555) (by decide +kernel))) rfl)⟩
theorem f_Mo_50 : zFld "PulseNetModel" 50 32 22 (some 46) := ⟨_, _, _, _, _, rfl, rfl, in_Mo, rfl, by decide, Or.inl (zTbl_in (List.mem_append_right _ (List.mem_of_getElem? (i := 556) (by decide +kernel))) rfl)⟩
theorem f_Mo_53 : zFld "PulseNetModel" 53 32 23 (some 47) := ⟨_, _, _, _, _, rfl, rfl, in_Mo, rfl, by decide, Or.inl (zTbl_in (List.mem_append_right _ (List.mem_of_getElem? (i := 557) (by decide +kernel))) rfl)⟩
theorem f_Mo_56 : zFld "PulseNetModel" 56 32 24 (some 48) := ⟨_, _, _, _, _, rfl, rfl, in_Mo, rfl, by decide, Or.inl (zTbl_in (List.mem_append_right _ (List.mem_of_getElem? (i := 558) (by decide +kernel))) rfl)⟩
theorem f_Mo_59 : zFld "PulseNetModel" 59 32 25 (some 49) := ⟨_, _, _, _, _, rfl, rfl, in_Mo, rfl, by decide, Or.inl (zTbl_in (List.mem_append_right _ (List.mem_of_getElem? (i := 559) (by decide +kernel))) rfl)⟩
theorem f_Mo_62 : zFld "PulseNetModel" 62 32 26 (some 50) := ⟨_, _, _, _, _, rfl, rfl, in_Mo, rfl, by decide, Or.inl (zTbl_in (List.mem_append_right _ (List.mem_of_getElem? (i := 560) (by decide +kernel))) rfl)⟩
theorem f_Mo_65 : zFld "PulseNetModel" 65 32 28 (some 51) := ⟨_, _, _, _, _, rfl, rfl, in_Mo, rfl, by decide, Or.inl (zTbl_in (List.mem_append_right _ (List.mem_of_getElem? (i := 562) (by decide +kernel))) rfl)⟩
theorem f_Mo_68 : zFld "PulseNetModel" 68 32 31 (some 52) := ⟨_, _, _, _, _, rfl, rfl, in_Mo, rfl, by decide, Or.inl (zTbl_in (List.mem_append_right _ (List.mem_of_getElem? (i := 565) (by decide +kernel))) rfl)⟩
theorem f_Mo_7 : zFld "PulseNetModel" 7 32 2 (some 33) := ⟨_, _, _, _, _, rfl, rfl, in_Mo, rfl, by decide, Or.inl (zTbl_in (List.mem_append_right _ (List.mem_of_getElem? (i := 536) (by decide +kernel))) rfl)⟩
theorem f_Mo_71 : zFld "PulseNetModel" 71 32 32 (some 53) := ⟨_, _, _, _, _, rfl, rfl, in_Mo, rfl, by decide, Or.inl (zTbl_in (List.mem_append_right _ (List.mem_of_getElem? (i := 566) (by decide +kernel))) rfl)⟩
theorem f_Mo_74 : zFld "PulseNetModel" 74 32 33 (some 54) := ⟨_, _, _, _, _, rfl, rfl, in_Mo, rfl, by decide, Or.inl (zTbl_in (List.mem_append_right _ (List.mem_of_getElem? (i := 567) (by decide +kernel))) rfl)⟩
theorem f_Mo_77 : zFld "PulseNetModel" 77 32 34 (some 55) := ⟨_, _, _, _, _, rfl, rfl, in_Mo, rfl, by decide, Or.inl (zTbl_in (List.mem_append_right _ (List.mem_of_getElem? (i := 568) (by decide +kernel))) rfl)⟩
theorem f_Mo_84 : zFld "PulseNetModel" 84 32 0 none := ⟨_, _, _, _, _, rfl, rfl, in_Mo, rfl, by decide, Or.inl (zTbl_in (List.mem_append_right _ (List.mem_of_getElem? (i := 534) (by decide +kernel))) rfl)⟩
theorem f_Mo_88 : zFld "PulseNetModel" 88 32 1 none := ⟨_, _, _, _, _, rfl, rfl, in_Mo, rfl, by decide, Or.inl (zTbl_in (List.mem_append_right _ (List.mem_of_getElem? (i := 535) (by decide +kernel))) rfl)⟩
theorem f_Mo_91 : zFld "PulseNetModel" 91 32 4 none := ⟨_, _, _, _, _, rfl, rfl, in_Mo, rfl, by decide, Or.inl (zTbl_in (List.mem_append_right _ (List.mem_of_getElem? (i := 538) (by decide +kernel))) rfl)⟩
theorem w_Course_101 : zFldW "PulseNet$Course" 101 1 6 .int := ⟨_, _, _, _, _, ty_Course, rfl, rfl, in_Course, rfl, by decide, Or.inl (zTbl_in (List.mem_append_right _ (List.mem_of_getElem? (i := 174) (by decide +kernel))) rfl), ty_Course_ok, nm_Course, rfl, by decide +kernel⟩
theorem w_Course_104 : zFldW "PulseNet$Course" 104 1 7 .int := ⟨_, _, _, _, _, ty_Course, rfl, rfl, in_Course, rfl, by decide, Or.inl (zTbl_in (List.mem_append_right _ (List.mem_of_getElem? (i := 176) (by decide +kernel))) rfl), ty_Course_ok, nm_Course, rfl, by decide +kernel⟩
theorem w_Course_64 : zFldW "PulseNet$Course" 64 1 4 .int := ⟨_, _, _, _, _, ty_Course, rfl, rfl, in_Course, rfl, by decide, Or.inl (zTbl_in (List.mem_append_right _ (List.mem_of_getElem? (i := 171) (by decide +kernel))) rfl), ty_Course_ok, nm_Course, rfl, by decide +kernel⟩
theorem w_Course_68 : zFldW "PulseNet$Course" 68 1 5 .int := ⟨_, _, _, _, _, ty_Course, rfl, rfl, in_Course, rfl, by decide, Or.inl (zTbl_in (List.mem_append_right _ (List.mem_of_getElem? (i := 172) (by decide +kernel))) rfl), ty_Course_ok, nm_Course, rfl, by decide +kernel⟩
theorem w_Course_98 : zFldW "PulseNet$Course" 98 5 0 .int := ⟨_, _, _, _, _, ty_Pool, rfl, rfl, in_Pool, rfl, by decide, Or.inl (zTbl_in (List.mem_append_right _ (List.mem_of_getElem? (i := 133) (by decide +kernel))) rfl), ty_Pool_ok, nm_Pool, rfl, by decide +kernel⟩
theorem w_Frame_57 : zFldW "PulseNet$Frame" 57 3 0 .int := ⟨_, _, _, _, _, ty_Frame, rfl, rfl, in_Frame, rfl, by decide, Or.inl (zTbl_in (List.mem_append_right _ (List.mem_of_getElem? (i := 65) (by decide +kernel))) rfl), ty_Frame_ok, nm_Frame, rfl, by decide +kernel⟩
theorem w_Frame_61 : zFldW "PulseNet$Frame" 61 3 1 .int := ⟨_, _, _, _, _, ty_Frame, rfl, rfl, in_Frame, rfl, by decide, Or.inl (zTbl_in (List.mem_append_right _ (List.mem_of_getElem? (i := 67) (by decide +kernel))) rfl), ty_Frame_ok, nm_Frame, rfl, by decide +kernel⟩
theorem w_Net_21 : zFldW "PulseNet$Net" 21 2 0 .int := ⟨_, _, _, _, _, ty_Net, rfl, rfl, in_Net, rfl, by decide, Or.inl (zTbl_in (List.mem_append_right _ (List.mem_of_getElem? (i := 32) (by decide +kernel))) rfl), ty_Net_ok, nm_Net, rfl, by decide +kernel⟩
theorem w_Net_25 : zFldW "PulseNet$Net" 25 2 1 .int := ⟨_, _, _, _, _, ty_Net, rfl, rfl, in_Net, rfl, by decide, Or.inl (zTbl_in (List.mem_append_right _ (List.mem_of_getElem? (i := 36) (by decide +kernel))) rfl), ty_Net_ok, nm_Net, rfl, by decide +kernel⟩
theorem w_Play_21 : zFldW "PulseNet$Play" 21 4 0 .int := ⟨_, _, _, _, _, ty_Play, rfl, rfl, in_Play, rfl, by decide, Or.inl (zTbl_in (List.mem_append_right _ (List.mem_of_getElem? (i := 107) (by decide +kernel))) rfl), ty_Play_ok, nm_Play, rfl, by decide +kernel⟩
theorem w_Play_25 : zFldW "PulseNet$Play" 25 4 1 .int := ⟨_, _, _, _, _, ty_Play, rfl, rfl, in_Play, rfl, by decide, Or.inl (zTbl_in (List.mem_append_right _ (List.mem_of_getElem? (i := 108) (by decide +kernel))) rfl), ty_Play_ok, nm_Play, rfl, by decide +kernel⟩
theorem w_Pool_27 : zFldW "PulseNet$Pool" 27 5 0 .int := ⟨_, _, _, _, _, ty_Pool, rfl, rfl, in_Pool, rfl, by decide, Or.inl (zTbl_in (List.mem_append_right _ (List.mem_of_getElem? (i := 132) (by decide +kernel))) rfl), ty_Pool_ok, nm_Pool, rfl, by decide +kernel⟩
theorem w_P_26 : zFldW "PulseNet" 26 0 1 .boolean := ⟨_, _, _, _, _, ty_P, rfl, rfl, in_P, rfl, by decide, Or.inl (zTbl_in (List.mem_append_right _ (List.mem_of_getElem? (i := 231) (by decide +kernel))) rfl), ty_P_ok, nm_P, rfl, by decide +kernel⟩
theorem w_Mo_103 : zFldW "PulseNetModel" 103 32 19 .int := ⟨_, _, _, _, _, ty_Mo, rfl, rfl, in_Mo, rfl, by decide, Or.inl (zTbl_in (List.mem_append_right _ (List.mem_of_getElem? (i := 553) (by decide +kernel))) rfl), ty_Mo_ok, nm_Mo, rfl, by decide +kernel⟩
theorem w_Mo_120 : zFldW "PulseNetModel" 120 32 20 .int := ⟨_, _, _, _, _, ty_Mo, rfl, rfl, in_Mo, rfl, by decide, Or.inl (zTbl_in (List.mem_append_right _ (List.mem_of_getElem? (i := 554) (by decide +kernel))) rfl), ty_Mo_ok, nm_Mo, rfl, by decide +kernel⟩
theorem w_Mo_123 : zFldW "PulseNetModel" 123 32 5 .int := ⟨_, _, _, _, _, ty_Mo, rfl, rfl, in_Mo, rfl, by decide, Or.inl (zTbl_in (List.mem_append_right _ (List.mem_of_getElem? (i := 539) (by decide +kernel))) rfl), ty_Mo_ok, nm_Mo, rfl, by decide +kernel⟩
theorem w_Mo_126 : zFldW "PulseNetModel" 126 32 7 .int := ⟨_, _, _, _, _, ty_Mo, rfl, rfl, in_Mo, rfl, by decide, Or.inl (zTbl_in (List.mem_append_right _ (List.mem_of_getElem? (i := 541) (by decide +kernel))) rfl), ty_Mo_ok, nm_Mo, rfl, by decide +kernel⟩
theorem w_Mo_136 : zFldW "PulseNetModel" 136 32 8 .int := ⟨_, _, _, _, _, ty_Mo, rfl, rfl, in_Mo, rfl, by decide, Or.inl (zTbl_in (List.mem_append_right _ (List.mem_of_getElem? (i := 542) (by decide +kernel))) rfl), ty_Mo_ok, nm_Mo, rfl, by decide +kernel⟩
theorem w_Mo_143 : zFldW "PulseNetModel" 143 32 27 .int := ⟨_, _, _, _, _, ty_Mo, rfl, rfl, in_Mo, rfl, by decide, Or.inl (zTbl_in (List.mem_append_right _ (List.mem_of_getElem? (i := 561) (by decide +kernel))) rfl), ty_Mo_ok, nm_Mo, rfl, by decide +kernel⟩
theorem w_Mo_146 : zFldW "PulseNetModel" 146 32 29 .int := ⟨_, _, _, _, _, ty_Mo, rfl, rfl, in_Mo, rfl, by decide, Or.inl (zTbl_in (List.mem_append_right _ (List.mem_of_getElem? (i := 563) (by decide +kernel))) rfl), ty_Mo_ok, nm_Mo, rfl, by decide +kernel⟩
theorem w_Mo_149 : zFldW "PulseNetModel" 149 32 30 .int := ⟨_, _, _, _, _, ty_Mo, rfl, rfl, in_Mo, rfl, by decide, Or.inl (zTbl_in (List.mem_append_right _ (List.mem_of_getElem? (i := 564) (by decide +kernel))) rfl), ty_Mo_ok, nm_Mo, rfl, by decide +kernel⟩
theorem w_Mo_152 : zFldW "PulseNetModel" 152 32 6 .int := ⟨_, _, _, _, _, ty_Mo, rfl, rfl, in_Mo, rfl, by decide, Or.inl (zTbl_in (List.mem_append_right _ (List.mem_of_getElem? (i := 540) (by decide +kernel))) rfl), ty_Mo_ok, nm_Mo, rfl, by decide +kernel⟩
theorem w_Mo_84 : zFldW "PulseNetModel" 84 32 0 .int := ⟨_, _, _, _, _, ty_Mo, rfl, rfl, in_Mo, rfl, by decide, Or.inl (zTbl_in (List.mem_append_right _ (List.mem_of_getElem? (i := 534) (by decide +kernel))) rfl), ty_Mo_ok, nm_Mo, rfl, by decide +kernel⟩
theorem w_Mo_88 : zFldW "PulseNetModel" 88 32 1 .int := ⟨_, _, _, _, _, ty_Mo, rfl, rfl, in_Mo, rfl, by decide, Or.inl (zTbl_in (List.mem_append_right _ (List.mem_of_getElem? (i := 535) (by decide +kernel))) rfl), ty_Mo_ok, nm_Mo, rfl, by decide +kernel⟩
theorem w_Mo_91 : zFldW "PulseNetModel" 91 32 4 .boolean := ⟨_, _, _, _, _, ty_Mo, rfl, rfl, in_Mo, rfl, by decide, Or.inl (zTbl_in (List.mem_append_right _ (List.mem_of_getElem? (i := 538) (by decide +kernel))) rfl), ty_Mo_ok, nm_Mo, rfl, by decide +kernel⟩
theorem k_P_80 : Cond.constantLong "PulseNet" 80 69069 ∈ zTbl := (zTbl_in (List.mem_append_right _ (List.mem_of_getElem? (i := 468) (by decide +kernel))) rfl)
theorem k_P_82 : Cond.constantLong "PulseNet" 82 2147483647 ∈ zTbl := (zTbl_in (List.mem_append_right _ (List.mem_of_getElem? (i := 469) (by decide +kernel))) rfl)
theorem k_Mo_196 : Cond.constantLong "PulseNetModel" 196 69069 ∈ zTbl := (zTbl_in (List.mem_append_right _ (List.mem_of_getElem? (i := 746) (by decide +kernel))) rfl)
theorem k_Mo_198 : Cond.constantLong "PulseNetModel" 198 2147483648 ∈ zTbl := (zTbl_in (List.mem_append_right _ (List.mem_of_getElem? (i := 747) (by decide +kernel))) rfl)
theorem m_Course_200 : zMth "PulseNet$Course" 200 Lib.Math.min.name Lib.Math.min.code := ⟨(zTbl_in (List.mem_append_right _ (List.mem_of_getElem? (i := 509) (by decide +kernel))) rfl), (zTbl_in (List.mem_append_right _ (List.mem_of_getElem? (i := 510) (by decide +kernel))) rfl), (zTbl_in (List.mem_append_right _ (List.mem_of_getElem? (i := 11) (by decide +kernel))) rfl), (zTbl_in (List.mem_append_right _ (List.mem_of_getElem? (i := 511) (by decide +kernel))) rfl)⟩
theorem m_Course_205 : zMth "PulseNet$Course" 205 Lib.Math.max.name Lib.Math.max.code := ⟨(zTbl_in (List.mem_append_right _ (List.mem_of_getElem? (i := 516) (by decide +kernel))) rfl), (zTbl_in (List.mem_append_right _ (List.mem_of_getElem? (i := 517) (by decide +kernel))) rfl), (zTbl_in (List.mem_append_right _ (List.mem_of_getElem? (i := 11) (by decide +kernel))) rfl), (zTbl_in (List.mem_append_right _ (List.mem_of_getElem? (i := 518) (by decide +kernel))) rfl)⟩
end
