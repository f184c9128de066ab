-- ===== PART A: goes FIRST, ahead of the names: the tables' words, and 'selects' of the private methods out of them =====
/-- a private method of a class that the tables say can be made, by its rows of tables_1 -/
def lw_okq (q : MethodName × Nat) : Prop := (q.1.cls ≠ "java/lang/invoke/MethodHandle" ∧ q.1.cls ≠ "java/lang/invoke/VarHandle") ∧ Cond.instantiable q.1.cls q.2 ∈ tables_1 ∧ Cond.privateMethod q.1 ∈ tables_1 ∧ Cond.instanceMethod q.1 ∈ tables_1
theorem lw_p0 : lw_okq (⟨"CinemaClock", "taskAt", "(I)LCinemaClock$Task;"⟩, 20) := ⟨⟨by decide +kernel, by decide +kernel⟩, List.mem_of_getElem? (i := 12) (by decide +kernel), List.mem_of_getElem? (i := 315) (by decide +kernel), List.mem_of_getElem? (i := 316) (by decide +kernel)⟩
theorem lw_p1 : lw_okq (⟨"CinemaClock", "mostTold", "(I)I"⟩, 20) := ⟨⟨by decide +kernel, by decide +kernel⟩, List.mem_of_getElem? (i := 12) (by decide +kernel), List.mem_of_getElem? (i := 322) (by decide +kernel), List.mem_of_getElem? (i := 323) (by decide +kernel)⟩
theorem lw_p2 : lw_okq (⟨"CinemaClock", "comesAfter", "(II)Z"⟩, 20) := ⟨⟨by decide +kernel, by decide +kernel⟩, List.mem_of_getElem? (i := 12) (by decide +kernel), List.mem_of_getElem? (i := 351) (by decide +kernel), List.mem_of_getElem? (i := 352) (by decide +kernel)⟩
theorem lw_p3 : lw_okq (⟨"CinemaClock", "link", "(II)I"⟩, 20) := ⟨⟨by decide +kernel, by decide +kernel⟩, List.mem_of_getElem? (i := 12) (by decide +kernel), List.mem_of_getElem? (i := 355) (by decide +kernel), List.mem_of_getElem? (i := 356) (by decide +kernel)⟩
theorem lw_p4 : lw_okq (⟨"CinemaClock$Plans", "placeOf", "(II)I"⟩, 4) := ⟨⟨by decide +kernel, by decide +kernel⟩, List.mem_of_getElem? (i := 73) (by decide +kernel), List.mem_of_getElem? (i := 371) (by decide +kernel), List.mem_of_getElem? (i := 372) (by decide +kernel)⟩
theorem lw_p5 : lw_okq (⟨"CinemaClock", "treatMinute", "()V"⟩, 20) := ⟨⟨by decide +kernel, by decide +kernel⟩, List.mem_of_getElem? (i := 12) (by decide +kernel), List.mem_of_getElem? (i := 389) (by decide +kernel), List.mem_of_getElem? (i := 390) (by decide +kernel)⟩
theorem lw_p6 : lw_okq (⟨"CinemaClock", "endRuns", "()V"⟩, 20) := ⟨⟨by decide +kernel, by decide +kernel⟩, List.mem_of_getElem? (i := 12) (by decide +kernel), List.mem_of_getElem? (i := 393) (by decide +kernel), List.mem_of_getElem? (i := 394) (by decide +kernel)⟩
theorem lw_p7 : lw_okq (⟨"CinemaClock", "firstEnding", "()LCinemaClock$Run;"⟩, 20) := ⟨⟨by decide +kernel, by decide +kernel⟩, List.mem_of_getElem? (i := 12) (by decide +kernel), List.mem_of_getElem? (i := 397) (by decide +kernel), List.mem_of_getElem? (i := 398) (by decide +kernel)⟩
theorem lw_p8 : lw_okq (⟨"CinemaClock", "endRun", "(LCinemaClock$Run;)V"⟩, 20) := ⟨⟨by decide +kernel, by decide +kernel⟩, List.mem_of_getElem? (i := 12) (by decide +kernel), List.mem_of_getElem? (i := 401) (by decide +kernel), List.mem_of_getElem? (i := 402) (by decide +kernel)⟩
theorem lw_p9 : lw_okq (⟨"CinemaClock", "act", "(LCinemaClock$Run;)I"⟩, 20) := ⟨⟨by decide +kernel, by decide +kernel⟩, List.mem_of_getElem? (i := 12) (by decide +kernel), List.mem_of_getElem? (i := 409) (by decide +kernel), List.mem_of_getElem? (i := 410) (by decide +kernel)⟩
theorem lw_p10 : lw_okq (⟨"CinemaClock", "leave", "(LCinemaClock$Task;I)V"⟩, 20) := ⟨⟨by decide +kernel, by decide +kernel⟩, List.mem_of_getElem? (i := 12) (by decide +kernel), List.mem_of_getElem? (i := 417) (by decide +kernel), List.mem_of_getElem? (i := 418) (by decide +kernel)⟩
theorem lw_p11 : lw_okq (⟨"CinemaClock", "layDown", "(LCinemaClock$Run;I)V"⟩, 20) := ⟨⟨by decide +kernel, by decide +kernel⟩, List.mem_of_getElem? (i := 12) (by decide +kernel), List.mem_of_getElem? (i := 429) (by decide +kernel), List.mem_of_getElem? (i := 430) (by decide +kernel)⟩
theorem lw_p12 : lw_okq (⟨"CinemaClock", "followEnd", "(LCinemaClock$Task;Z)V"⟩, 20) := ⟨⟨by decide +kernel, by decide +kernel⟩, List.mem_of_getElem? (i := 12) (by decide +kernel), List.mem_of_getElem? (i := 433) (by decide +kernel), List.mem_of_getElem? (i := 434) (by decide +kernel)⟩
theorem lw_p13 : lw_okq (⟨"CinemaClock", "tellAfters", "(LCinemaClock$Task;Z)V"⟩, 20) := ⟨⟨by decide +kernel, by decide +kernel⟩, List.mem_of_getElem? (i := 12) (by decide +kernel), List.mem_of_getElem? (i := 441) (by decide +kernel), List.mem_of_getElem? (i := 442) (by decide +kernel)⟩
theorem lw_p14 : lw_okq (⟨"CinemaClock", "comeDue", "(LCinemaClock$Task;)V"⟩, 20) := ⟨⟨by decide +kernel, by decide +kernel⟩, List.mem_of_getElem? (i := 12) (by decide +kernel), List.mem_of_getElem? (i := 452) (by decide +kernel), List.mem_of_getElem? (i := 453) (by decide +kernel)⟩
theorem lw_p15 : lw_okq (⟨"CinemaClock", "fateOfDue", "(LCinemaClock$Task;)I"⟩, 20) := ⟨⟨by decide +kernel, by decide +kernel⟩, List.mem_of_getElem? (i := 12) (by decide +kernel), List.mem_of_getElem? (i := 456) (by decide +kernel), List.mem_of_getElem? (i := 457) (by decide +kernel)⟩
def lw_privs_1 : List (MethodName × Nat) := [(⟨"CinemaClock", "taskAt", "(I)LCinemaClock$Task;"⟩, 20), (⟨"CinemaClock", "mostTold", "(I)I"⟩, 20), (⟨"CinemaClock", "comesAfter", "(II)Z"⟩, 20), (⟨"CinemaClock", "link", "(II)I"⟩, 20), (⟨"CinemaClock$Plans", "placeOf", "(II)I"⟩, 4), (⟨"CinemaClock", "treatMinute", "()V"⟩, 20), (⟨"CinemaClock", "endRuns", "()V"⟩, 20), (⟨"CinemaClock", "firstEnding", "()LCinemaClock$Run;"⟩, 20), (⟨"CinemaClock", "endRun", "(LCinemaClock$Run;)V"⟩, 20), (⟨"CinemaClock", "act", "(LCinemaClock$Run;)I"⟩, 20), (⟨"CinemaClock", "leave", "(LCinemaClock$Task;I)V"⟩, 20), (⟨"CinemaClock", "layDown", "(LCinemaClock$Run;I)V"⟩, 20), (⟨"CinemaClock", "followEnd", "(LCinemaClock$Task;Z)V"⟩, 20), (⟨"CinemaClock", "tellAfters", "(LCinemaClock$Task;Z)V"⟩, 20), (⟨"CinemaClock", "comeDue", "(LCinemaClock$Task;)V"⟩, 20), (⟨"CinemaClock", "fateOfDue", "(LCinemaClock$Task;)I"⟩, 20)]
theorem lw_r1 : ∀ q ∈ lw_privs_1, lw_okq q := List.forall_mem_cons.mpr ⟨lw_p0, List.forall_mem_cons.mpr ⟨lw_p1, List.forall_mem_cons.mpr ⟨lw_p2, List.forall_mem_cons.mpr ⟨lw_p3, List.forall_mem_cons.mpr ⟨lw_p4, List.forall_mem_cons.mpr ⟨lw_p5, List.forall_mem_cons.mpr ⟨lw_p6, List.forall_mem_cons.mpr ⟨lw_p7, List.forall_mem_cons.mpr ⟨lw_p8, List.forall_mem_cons.mpr ⟨lw_p9, List.forall_mem_cons.mpr ⟨lw_p10, List.forall_mem_cons.mpr ⟨lw_p11, List.forall_mem_cons.mpr ⟨lw_p12, List.forall_mem_cons.mpr ⟨lw_p13, List.forall_mem_cons.mpr ⟨lw_p14, List.forall_mem_cons.mpr ⟨lw_p15, fun _ h => absurd h List.not_mem_nil⟩⟩⟩⟩⟩⟩⟩⟩⟩⟩⟩⟩⟩⟩⟩⟩
theorem lw_p16 : lw_okq (⟨"CinemaClock", "pauseAgain", "(LCinemaClock$Task;)V"⟩, 20) := ⟨⟨by decide +kernel, by decide +kernel⟩, List.mem_of_getElem? (i := 12) (by decide +kernel), List.mem_of_getElem? (i := 468) (by decide +kernel), List.mem_of_getElem? (i := 469) (by decide +kernel)⟩
theorem lw_p17 : lw_okq (⟨"CinemaClock", "bringDues", "()V"⟩, 20) := ⟨⟨by decide +kernel, by decide +kernel⟩, List.mem_of_getElem? (i := 12) (by decide +kernel), List.mem_of_getElem? (i := 472) (by decide +kernel), List.mem_of_getElem? (i := 473) (by decide +kernel)⟩
theorem lw_p18 : lw_okq (⟨"CinemaClock", "isDueByKind", "(LCinemaClock$Task;I)Z"⟩, 20) := ⟨⟨by decide +kernel, by decide +kernel⟩, List.mem_of_getElem? (i := 12) (by decide +kernel), List.mem_of_getElem? (i := 476) (by decide +kernel), List.mem_of_getElem? (i := 477) (by decide +kernel)⟩
theorem lw_p19 : lw_okq (⟨"CinemaClock$Calendar", "minuteFits", "(I)Z"⟩, 8) := ⟨⟨by decide +kernel, by decide +kernel⟩, List.mem_of_getElem? (i := 176) (by decide +kernel), List.mem_of_getElem? (i := 492) (by decide +kernel), List.mem_of_getElem? (i := 493) (by decide +kernel)⟩
theorem lw_p20 : lw_okq (⟨"CinemaClock$Calendar", "hourFits", "(I)Z"⟩, 8) := ⟨⟨by decide +kernel, by decide +kernel⟩, List.mem_of_getElem? (i := 176) (by decide +kernel), List.mem_of_getElem? (i := 496) (by decide +kernel), List.mem_of_getElem? (i := 497) (by decide +kernel)⟩
theorem lw_p21 : lw_okq (⟨"CinemaClock$Calendar", "dayFits", "(I)Z"⟩, 8) := ⟨⟨by decide +kernel, by decide +kernel⟩, List.mem_of_getElem? (i := 176) (by decide +kernel), List.mem_of_getElem? (i := 500) (by decide +kernel), List.mem_of_getElem? (i := 501) (by decide +kernel)⟩
theorem lw_p22 : lw_okq (⟨"CinemaClock", "missDues", "()V"⟩, 20) := ⟨⟨by decide +kernel, by decide +kernel⟩, List.mem_of_getElem? (i := 12) (by decide +kernel), List.mem_of_getElem? (i := 513) (by decide +kernel), List.mem_of_getElem? (i := 514) (by decide +kernel)⟩
theorem lw_p23 : lw_okq (⟨"CinemaClock", "isMissed", "(LCinemaClock$Task;I)Z"⟩, 20) := ⟨⟨by decide +kernel, by decide +kernel⟩, List.mem_of_getElem? (i := 12) (by decide +kernel), List.mem_of_getElem? (i := 517) (by decide +kernel), List.mem_of_getElem? (i := 518) (by decide +kernel)⟩
theorem lw_p24 : lw_okq (⟨"CinemaClock", "missDue", "(LCinemaClock$Task;I)I"⟩, 20) := ⟨⟨by decide +kernel, by decide +kernel⟩, List.mem_of_getElem? (i := 12) (by decide +kernel), List.mem_of_getElem? (i := 521) (by decide +kernel), List.mem_of_getElem? (i := 522) (by decide +kernel)⟩
theorem lw_p25 : lw_okq (⟨"CinemaClock", "beginRuns", "()V"⟩, 20) := ⟨⟨by decide +kernel, by decide +kernel⟩, List.mem_of_getElem? (i := 12) (by decide +kernel), List.mem_of_getElem? (i := 530) (by decide +kernel), List.mem_of_getElem? (i := 531) (by decide +kernel)⟩
theorem lw_p26 : lw_okq (⟨"CinemaClock", "freeWorker", "()I"⟩, 20) := ⟨⟨by decide +kernel, by decide +kernel⟩, List.mem_of_getElem? (i := 12) (by decide +kernel), List.mem_of_getElem? (i := 534) (by decide +kernel), List.mem_of_getElem? (i := 535) (by decide +kernel)⟩
theorem lw_p27 : lw_okq (⟨"CinemaClock", "firstToBegin", "()I"⟩, 20) := ⟨⟨by decide +kernel, by decide +kernel⟩, List.mem_of_getElem? (i := 12) (by decide +kernel), List.mem_of_getElem? (i := 538) (by decide +kernel), List.mem_of_getElem? (i := 539) (by decide +kernel)⟩
theorem lw_p28 : lw_okq (⟨"CinemaClock", "mayBegin", "(LCinemaClock$Task;)Z"⟩, 20) := ⟨⟨by decide +kernel, by decide +kernel⟩, List.mem_of_getElem? (i := 12) (by decide +kernel), List.mem_of_getElem? (i := 542) (by decide +kernel), List.mem_of_getElem? (i := 543) (by decide +kernel)⟩
theorem lw_p29 : lw_okq (⟨"CinemaClock", "workIn", "(I)I"⟩, 20) := ⟨⟨by decide +kernel, by decide +kernel⟩, List.mem_of_getElem? (i := 12) (by decide +kernel), List.mem_of_getElem? (i := 546) (by decide +kernel), List.mem_of_getElem? (i := 547) (by decide +kernel)⟩
theorem lw_p30 : lw_okq (⟨"CinemaClock", "beginRun", "(II)V"⟩, 20) := ⟨⟨by decide +kernel, by decide +kernel⟩, List.mem_of_getElem? (i := 12) (by decide +kernel), List.mem_of_getElem? (i := 554) (by decide +kernel), List.mem_of_getElem? (i := 555) (by decide +kernel)⟩
theorem lw_p31 : lw_okq (⟨"CinemaClock", "jumpOver", "(II)V"⟩, 20) := ⟨⟨by decide +kernel, by decide +kernel⟩, List.mem_of_getElem? (i := 12) (by decide +kernel), List.mem_of_getElem? (i := 612) (by decide +kernel), List.mem_of_getElem? (i := 613) (by decide +kernel)⟩
def lw_privs_2 : List (MethodName × Nat) := [(⟨"CinemaClock", "pauseAgain", "(LCinemaClock$Task;)V"⟩, 20), (⟨"CinemaClock", "bringDues", "()V"⟩, 20), (⟨"CinemaClock", "isDueByKind", "(LCinemaClock$Task;I)Z"⟩, 20), (⟨"CinemaClock$Calendar", "minuteFits", "(I)Z"⟩, 8), (⟨"CinemaClock$Calendar", "hourFits", "(I)Z"⟩, 8), (⟨"CinemaClock$Calendar", "dayFits", "(I)Z"⟩, 8), (⟨"CinemaClock", "missDues", "()V"⟩, 20), (⟨"CinemaClock", "isMissed", "(LCinemaClock$Task;I)Z"⟩, 20), (⟨"CinemaClock", "missDue", "(LCinemaClock$Task;I)I"⟩, 20), (⟨"CinemaClock", "beginRuns", "()V"⟩, 20), (⟨"CinemaClock", "freeWorker", "()I"⟩, 20), (⟨"CinemaClock", "firstToBegin", "()I"⟩, 20), (⟨"CinemaClock", "mayBegin", "(LCinemaClock$Task;)Z"⟩, 20), (⟨"CinemaClock", "workIn", "(I)I"⟩, 20), (⟨"CinemaClock", "beginRun", "(II)V"⟩, 20), (⟨"CinemaClock", "jumpOver", "(II)V"⟩, 20)]
theorem lw_r2 : ∀ q ∈ lw_privs_2, lw_okq q := List.forall_mem_cons.mpr ⟨lw_p16, List.forall_mem_cons.mpr ⟨lw_p17, List.forall_mem_cons.mpr ⟨lw_p18, List.forall_mem_cons.mpr ⟨lw_p19, List.forall_mem_cons.mpr ⟨lw_p20, List.forall_mem_cons.mpr ⟨lw_p21, List.forall_mem_cons.mpr ⟨lw_p22, List.forall_mem_cons.mpr ⟨lw_p23, List.forall_mem_cons.mpr ⟨lw_p24, List.forall_mem_cons.mpr ⟨lw_p25, List.forall_mem_cons.mpr ⟨lw_p26, List.forall_mem_cons.mpr ⟨lw_p27, List.forall_mem_cons.mpr ⟨lw_p28, List.forall_mem_cons.mpr ⟨lw_p29, List.forall_mem_cons.mpr ⟨lw_p30, List.forall_mem_cons.mpr ⟨lw_p31, fun _ h => absurd h List.not_mem_nil⟩⟩⟩⟩⟩⟩⟩⟩⟩⟩⟩⟩⟩⟩⟩⟩
theorem lw_p32 : lw_okq (⟨"CinemaClock", "missJumped", "(LCinemaClock$Task;II)V"⟩, 20) := ⟨⟨by decide +kernel, by decide +kernel⟩, List.mem_of_getElem? (i := 12) (by decide +kernel), List.mem_of_getElem? (i := 616) (by decide +kernel), List.mem_of_getElem? (i := 617) (by decide +kernel)⟩
theorem lw_p33 : lw_okq (⟨"CinemaClock", "interruptRuns", "(LCinemaClock$Task;)V"⟩, 20) := ⟨⟨by decide +kernel, by decide +kernel⟩, List.mem_of_getElem? (i := 12) (by decide +kernel), List.mem_of_getElem? (i := 630) (by decide +kernel), List.mem_of_getElem? (i := 631) (by decide +kernel)⟩
theorem lw_p34 : lw_okq (⟨"CinemaClock", "firstAtWork", "(LCinemaClock$Task;)LCinemaClock$Run;"⟩, 20) := ⟨⟨by decide +kernel, by decide +kernel⟩, List.mem_of_getElem? (i := 12) (by decide +kernel), List.mem_of_getElem? (i := 634) (by decide +kernel), List.mem_of_getElem? (i := 635) (by decide +kernel)⟩
theorem lw_p35 : lw_okq (⟨"CinemaClock", "dropDues", "()V"⟩, 20) := ⟨⟨by decide +kernel, by decide +kernel⟩, List.mem_of_getElem? (i := 12) (by decide +kernel), List.mem_of_getElem? (i := 642) (by decide +kernel), List.mem_of_getElem? (i := 643) (by decide +kernel)⟩
theorem lw_p36 : lw_okq (⟨"CinemaClock", "stateOf", "(LCinemaClock$Task;)I"⟩, 20) := ⟨⟨by decide +kernel, by decide +kernel⟩, List.mem_of_getElem? (i := 12) (by decide +kernel), List.mem_of_getElem? (i := 662) (by decide +kernel), List.mem_of_getElem? (i := 663) (by decide +kernel)⟩
theorem lw_p37 : lw_okq (⟨"CinemaClock", "dueMinute", "(LCinemaClock$Task;I)I"⟩, 20) := ⟨⟨by decide +kernel, by decide +kernel⟩, List.mem_of_getElem? (i := 12) (by decide +kernel), List.mem_of_getElem? (i := 670) (by decide +kernel), List.mem_of_getElem? (i := 671) (by decide +kernel)⟩
theorem lw_p38 : lw_okq (⟨"CinemaClock", "calendarMinute", "(LCinemaClock$Calendar;I)I"⟩, 20) := ⟨⟨by decide +kernel, by decide +kernel⟩, List.mem_of_getElem? (i := 12) (by decide +kernel), List.mem_of_getElem? (i := 679) (by decide +kernel), List.mem_of_getElem? (i := 680) (by decide +kernel)⟩
theorem lw_p39 : lw_okq (⟨"CinemaClockModel", "treat", "(I)V"⟩, 67) := ⟨⟨by decide +kernel, by decide +kernel⟩, List.mem_of_getElem? (i := 718) (by decide +kernel), List.mem_of_getElem? (i := 931) (by decide +kernel), List.mem_of_getElem? (i := 932) (by decide +kernel)⟩
theorem lw_p40 : lw_okq (⟨"CinemaClockModel", "ends", "(II)V"⟩, 67) := ⟨⟨by decide +kernel, by decide +kernel⟩, List.mem_of_getElem? (i := 718) (by decide +kernel), List.mem_of_getElem? (i := 935) (by decide +kernel), List.mem_of_getElem? (i := 936) (by decide +kernel)⟩
theorem lw_p41 : lw_okq (⟨"CinemaClockModel", "planned", "(II)I"⟩, 67) := ⟨⟨by decide +kernel, by decide +kernel⟩, List.mem_of_getElem? (i := 718) (by decide +kernel), List.mem_of_getElem? (i := 939) (by decide +kernel), List.mem_of_getElem? (i := 940) (by decide +kernel)⟩
theorem lw_p42 : lw_okq (⟨"CinemaClockModel", "does", "(III)I"⟩, 67) := ⟨⟨by decide +kernel, by decide +kernel⟩, List.mem_of_getElem? (i := 718) (by decide +kernel), List.mem_of_getElem? (i := 943) (by decide +kernel), List.mem_of_getElem? (i := 944) (by decide +kernel)⟩
theorem lw_p43 : lw_okq (⟨"CinemaClockModel", "isTask", "(I)Z"⟩, 67) := ⟨⟨by decide +kernel, by decide +kernel⟩, List.mem_of_getElem? (i := 718) (by decide +kernel), List.mem_of_getElem? (i := 947) (by decide +kernel), List.mem_of_getElem? (i := 948) (by decide +kernel)⟩
theorem lw_p44 : lw_okq (⟨"CinemaClockModel", "isActive", "(I)Z"⟩, 67) := ⟨⟨by decide +kernel, by decide +kernel⟩, List.mem_of_getElem? (i := 718) (by decide +kernel), List.mem_of_getElem? (i := 954) (by decide +kernel), List.mem_of_getElem? (i := 955) (by decide +kernel)⟩
theorem lw_p45 : lw_okq (⟨"CinemaClockModel", "dropDues", "(I)V"⟩, 67) := ⟨⟨by decide +kernel, by decide +kernel⟩, List.mem_of_getElem? (i := 718) (by decide +kernel), List.mem_of_getElem? (i := 958) (by decide +kernel), List.mem_of_getElem? (i := 959) (by decide +kernel)⟩
theorem lw_p46 : lw_okq (⟨"CinemaClockModel", "takeDue", "(I)V"⟩, 67) := ⟨⟨by decide +kernel, by decide +kernel⟩, List.mem_of_getElem? (i := 718) (by decide +kernel), List.mem_of_getElem? (i := 962) (by decide +kernel), List.mem_of_getElem? (i := 963) (by decide +kernel)⟩
theorem lw_p47 : lw_okq (⟨"CinemaClockModel", "frees", "(III)V"⟩, 67) := ⟨⟨by decide +kernel, by decide +kernel⟩, List.mem_of_getElem? (i := 718) (by decide +kernel), List.mem_of_getElem? (i := 966) (by decide +kernel), List.mem_of_getElem? (i := 967) (by decide +kernel)⟩
def lw_privs_3 : List (MethodName × Nat) := [(⟨"CinemaClock", "missJumped", "(LCinemaClock$Task;II)V"⟩, 20), (⟨"CinemaClock", "interruptRuns", "(LCinemaClock$Task;)V"⟩, 20), (⟨"CinemaClock", "firstAtWork", "(LCinemaClock$Task;)LCinemaClock$Run;"⟩, 20), (⟨"CinemaClock", "dropDues", "()V"⟩, 20), (⟨"CinemaClock", "stateOf", "(LCinemaClock$Task;)I"⟩, 20), (⟨"CinemaClock", "dueMinute", "(LCinemaClock$Task;I)I"⟩, 20), (⟨"CinemaClock", "calendarMinute", "(LCinemaClock$Calendar;I)I"⟩, 20), (⟨"CinemaClockModel", "treat", "(I)V"⟩, 67), (⟨"CinemaClockModel", "ends", "(II)V"⟩, 67), (⟨"CinemaClockModel", "planned", "(II)I"⟩, 67), (⟨"CinemaClockModel", "does", "(III)I"⟩, 67), (⟨"CinemaClockModel", "isTask", "(I)Z"⟩, 67), (⟨"CinemaClockModel", "isActive", "(I)Z"⟩, 67), (⟨"CinemaClockModel", "dropDues", "(I)V"⟩, 67), (⟨"CinemaClockModel", "takeDue", "(I)V"⟩, 67), (⟨"CinemaClockModel", "frees", "(III)V"⟩, 67)]
theorem lw_r3 : ∀ q ∈ lw_privs_3, lw_okq q := List.forall_mem_cons.mpr ⟨lw_p32, List.forall_mem_cons.mpr ⟨lw_p33, List.forall_mem_cons.mpr ⟨lw_p34, List.forall_mem_cons.mpr ⟨lw_p35, List.forall_mem_cons.mpr ⟨lw_p36, List.forall_mem_cons.mpr ⟨lw_p37, List.forall_mem_cons.mpr ⟨lw_p38, List.forall_mem_cons.mpr ⟨lw_p39, List.forall_mem_cons.mpr ⟨lw_p40, List.forall_mem_cons.mpr ⟨lw_p41, List.forall_mem_cons.mpr ⟨lw_p42, List.forall_mem_cons.mpr ⟨lw_p43, List.forall_mem_cons.mpr ⟨lw_p44, List.forall_mem_cons.mpr ⟨lw_p45, List.forall_mem_cons.mpr ⟨lw_p46, List.forall_mem_cons.mpr ⟨lw_p47, fun _ h => absurd h List.not_mem_nil⟩⟩⟩⟩⟩⟩⟩⟩⟩⟩⟩⟩⟩⟩⟩⟩
theorem lw_p48 : lw_okq (⟨"CinemaClockModel", "failed", "(II)V"⟩, 67) := ⟨⟨by decide +kernel, by decide +kernel⟩, List.mem_of_getElem? (i := 718) (by decide +kernel), List.mem_of_getElem? (i := 970) (by decide +kernel), List.mem_of_getElem? (i := 971) (by decide +kernel)⟩
theorem lw_p49 : lw_okq (⟨"CinemaClockModel", "notes", "(IZI)V"⟩, 67) := ⟨⟨by decide +kernel, by decide +kernel⟩, List.mem_of_getElem? (i := 718) (by decide +kernel), List.mem_of_getElem? (i := 974) (by decide +kernel), List.mem_of_getElem? (i := 975) (by decide +kernel)⟩
theorem lw_p50 : lw_okq (⟨"CinemaClockModel", "comes", "(II)V"⟩, 67) := ⟨⟨by decide +kernel, by decide +kernel⟩, List.mem_of_getElem? (i := 718) (by decide +kernel), List.mem_of_getElem? (i := 978) (by decide +kernel), List.mem_of_getElem? (i := 979) (by decide +kernel)⟩
theorem lw_p51 : lw_okq (⟨"CinemaClockModel", "books", "(III)V"⟩, 67) := ⟨⟨by decide +kernel, by decide +kernel⟩, List.mem_of_getElem? (i := 718) (by decide +kernel), List.mem_of_getElem? (i := 982) (by decide +kernel), List.mem_of_getElem? (i := 983) (by decide +kernel)⟩
theorem lw_p52 : lw_okq (⟨"CinemaClockModel", "dueGone", "(II)V"⟩, 67) := ⟨⟨by decide +kernel, by decide +kernel⟩, List.mem_of_getElem? (i := 718) (by decide +kernel), List.mem_of_getElem? (i := 986) (by decide +kernel), List.mem_of_getElem? (i := 987) (by decide +kernel)⟩
theorem lw_p53 : lw_okq (⟨"CinemaClockModel", "isRunning", "(I)Z"⟩, 67) := ⟨⟨by decide +kernel, by decide +kernel⟩, List.mem_of_getElem? (i := 718) (by decide +kernel), List.mem_of_getElem? (i := 990) (by decide +kernel), List.mem_of_getElem? (i := 991) (by decide +kernel)⟩
theorem lw_p54 : lw_okq (⟨"CinemaClockModel", "isDue", "(II)Z"⟩, 67) := ⟨⟨by decide +kernel, by decide +kernel⟩, List.mem_of_getElem? (i := 718) (by decide +kernel), List.mem_of_getElem? (i := 994) (by decide +kernel), List.mem_of_getElem? (i := 995) (by decide +kernel)⟩
theorem lw_p55 : lw_okq (⟨"CinemaClockModel", "fits", "(II)Z"⟩, 67) := ⟨⟨by decide +kernel, by decide +kernel⟩, List.mem_of_getElem? (i := 718) (by decide +kernel), List.mem_of_getElem? (i := 998) (by decide +kernel), List.mem_of_getElem? (i := 999) (by decide +kernel)⟩
theorem lw_p56 : lw_okq (⟨"CinemaClockModel", "fitsMinute", "(II)Z"⟩, 67) := ⟨⟨by decide +kernel, by decide +kernel⟩, List.mem_of_getElem? (i := 718) (by decide +kernel), List.mem_of_getElem? (i := 1002) (by decide +kernel), List.mem_of_getElem? (i := 1003) (by decide +kernel)⟩
theorem lw_p57 : lw_okq (⟨"CinemaClockModel", "look", "(I)V"⟩, 67) := ⟨⟨by decide +kernel, by decide +kernel⟩, List.mem_of_getElem? (i := 718) (by decide +kernel), List.mem_of_getElem? (i := 1006) (by decide +kernel), List.mem_of_getElem? (i := 1007) (by decide +kernel)⟩
theorem lw_p58 : lw_okq (⟨"CinemaClockModel", "fitsDay", "(I)Z"⟩, 67) := ⟨⟨by decide +kernel, by decide +kernel⟩, List.mem_of_getElem? (i := 718) (by decide +kernel), List.mem_of_getElem? (i := 1013) (by decide +kernel), List.mem_of_getElem? (i := 1014) (by decide +kernel)⟩
theorem lw_p59 : lw_okq (⟨"CinemaClockModel", "misses", "(I)V"⟩, 67) := ⟨⟨by decide +kernel, by decide +kernel⟩, List.mem_of_getElem? (i := 718) (by decide +kernel), List.mem_of_getElem? (i := 1017) (by decide +kernel), List.mem_of_getElem? (i := 1018) (by decide +kernel)⟩
theorem lw_p60 : lw_okq (⟨"CinemaClockModel", "duesOf", "(I)I"⟩, 67) := ⟨⟨by decide +kernel, by decide +kernel⟩, List.mem_of_getElem? (i := 718) (by decide +kernel), List.mem_of_getElem? (i := 1021) (by decide +kernel), List.mem_of_getElem? (i := 1022) (by decide +kernel)⟩
theorem lw_p61 : lw_okq (⟨"CinemaClockModel", "begins", "(I)Z"⟩, 67) := ⟨⟨by decide +kernel, by decide +kernel⟩, List.mem_of_getElem? (i := 718) (by decide +kernel), List.mem_of_getElem? (i := 1025) (by decide +kernel), List.mem_of_getElem? (i := 1026) (by decide +kernel)⟩
theorem lw_p62 : lw_okq (⟨"CinemaClockModel", "atWork", "()I"⟩, 67) := ⟨⟨by decide +kernel, by decide +kernel⟩, List.mem_of_getElem? (i := 718) (by decide +kernel), List.mem_of_getElem? (i := 1029) (by decide +kernel), List.mem_of_getElem? (i := 1030) (by decide +kernel)⟩
theorem lw_p63 : lw_okq (⟨"CinemaClockModel", "canBegin", "(I)Z"⟩, 67) := ⟨⟨by decide +kernel, by decide +kernel⟩, List.mem_of_getElem? (i := 718) (by decide +kernel), List.mem_of_getElem? (i := 1033) (by decide +kernel), List.mem_of_getElem? (i := 1034) (by decide +kernel)⟩
def lw_privs_4 : List (MethodName × Nat) := [(⟨"CinemaClockModel", "failed", "(II)V"⟩, 67), (⟨"CinemaClockModel", "notes", "(IZI)V"⟩, 67), (⟨"CinemaClockModel", "comes", "(II)V"⟩, 67), (⟨"CinemaClockModel", "books", "(III)V"⟩, 67), (⟨"CinemaClockModel", "dueGone", "(II)V"⟩, 67), (⟨"CinemaClockModel", "isRunning", "(I)Z"⟩, 67), (⟨"CinemaClockModel", "isDue", "(II)Z"⟩, 67), (⟨"CinemaClockModel", "fits", "(II)Z"⟩, 67), (⟨"CinemaClockModel", "fitsMinute", "(II)Z"⟩, 67), (⟨"CinemaClockModel", "look", "(I)V"⟩, 67), (⟨"CinemaClockModel", "fitsDay", "(I)Z"⟩, 67), (⟨"CinemaClockModel", "misses", "(I)V"⟩, 67), (⟨"CinemaClockModel", "duesOf", "(I)I"⟩, 67), (⟨"CinemaClockModel", "begins", "(I)Z"⟩, 67), (⟨"CinemaClockModel", "atWork", "()I"⟩, 67), (⟨"CinemaClockModel", "canBegin", "(I)Z"⟩, 67)]
theorem lw_r4 : ∀ q ∈ lw_privs_4, lw_okq q := List.forall_mem_cons.mpr ⟨lw_p48, List.forall_mem_cons.mpr ⟨lw_p49, List.forall_mem_cons.mpr ⟨lw_p50, List.forall_mem_cons.mpr ⟨lw_p51, List.forall_mem_cons.mpr ⟨lw_p52, List.forall_mem_cons.mpr ⟨lw_p53, List.forall_mem_cons.mpr ⟨lw_p54, List.forall_mem_cons.mpr ⟨lw_p55, List.forall_mem_cons.mpr ⟨lw_p56, List.forall_mem_cons.mpr ⟨lw_p57, List.forall_mem_cons.mpr ⟨lw_p58, List.forall_mem_cons.mpr ⟨lw_p59, List.forall_mem_cons.mpr ⟨lw_p60, List.forall_mem_cons.mpr ⟨lw_p61, List.forall_mem_cons.mpr ⟨lw_p62, List.forall_mem_cons.mpr ⟨lw_p63, fun _ h => absurd h List.not_mem_nil⟩⟩⟩⟩⟩⟩⟩⟩⟩⟩⟩⟩⟩⟩⟩⟩
theorem lw_p64 : lw_okq (⟨"CinemaClockModel", "loadOf", "(I)I"⟩, 67) := ⟨⟨by decide +kernel, by decide +kernel⟩, List.mem_of_getElem? (i := 718) (by decide +kernel), List.mem_of_getElem? (i := 1037) (by decide +kernel), List.mem_of_getElem? (i := 1038) (by decide +kernel)⟩
theorem lw_p65 : lw_okq (⟨"CinemaClockModel", "isAhead", "(II)Z"⟩, 67) := ⟨⟨by decide +kernel, by decide +kernel⟩, List.mem_of_getElem? (i := 718) (by decide +kernel), List.mem_of_getElem? (i := 1041) (by decide +kernel), List.mem_of_getElem? (i := 1042) (by decide +kernel)⟩
theorem lw_p66 : lw_okq (⟨"CinemaClockModel", "leads", "(II)Z"⟩, 67) := ⟨⟨by decide +kernel, by decide +kernel⟩, List.mem_of_getElem? (i := 718) (by decide +kernel), List.mem_of_getElem? (i := 1077) (by decide +kernel), List.mem_of_getElem? (i := 1078) (by decide +kernel)⟩
theorem lw_p67 : lw_okq (⟨"CinemaClockModel", "interrupts", "(IZ)V"⟩, 67) := ⟨⟨by decide +kernel, by decide +kernel⟩, List.mem_of_getElem? (i := 718) (by decide +kernel), List.mem_of_getElem? (i := 1097) (by decide +kernel), List.mem_of_getElem? (i := 1098) (by decide +kernel)⟩
theorem lw_p68 : lw_okq (⟨"CinemaClockModel", "dueFrom", "(II)I"⟩, 67) := ⟨⟨by decide +kernel, by decide +kernel⟩, List.mem_of_getElem? (i := 718) (by decide +kernel), List.mem_of_getElem? (i := 1121) (by decide +kernel), List.mem_of_getElem? (i := 1122) (by decide +kernel)⟩
theorem lw_p69 : lw_okq (⟨"CinemaClockModel", "calendarFrom", "(II)I"⟩, 67) := ⟨⟨by decide +kernel, by decide +kernel⟩, List.mem_of_getElem? (i := 718) (by decide +kernel), List.mem_of_getElem? (i := 1125) (by decide +kernel), List.mem_of_getElem? (i := 1126) (by decide +kernel)⟩
theorem lw_p70 : lw_okq (⟨"CinemaClockModel", "hasMinute", "(I)Z"⟩, 67) := ⟨⟨by decide +kernel, by decide +kernel⟩, List.mem_of_getElem? (i := 718) (by decide +kernel), List.mem_of_getElem? (i := 1129) (by decide +kernel), List.mem_of_getElem? (i := 1130) (by decide +kernel)⟩
def lw_privs_5 : List (MethodName × Nat) := [(⟨"CinemaClockModel", "loadOf", "(I)I"⟩, 67), (⟨"CinemaClockModel", "isAhead", "(II)Z"⟩, 67), (⟨"CinemaClockModel", "leads", "(II)Z"⟩, 67), (⟨"CinemaClockModel", "interrupts", "(IZ)V"⟩, 67), (⟨"CinemaClockModel", "dueFrom", "(II)I"⟩, 67), (⟨"CinemaClockModel", "calendarFrom", "(II)I"⟩, 67), (⟨"CinemaClockModel", "hasMinute", "(I)Z"⟩, 67)]
theorem lw_r5 : ∀ q ∈ lw_privs_5, lw_okq q := List.forall_mem_cons.mpr ⟨lw_p64, List.forall_mem_cons.mpr ⟨lw_p65, List.forall_mem_cons.mpr ⟨lw_p66, List.forall_mem_cons.mpr ⟨lw_p67, List.forall_mem_cons.mpr ⟨lw_p68, List.forall_mem_cons.mpr ⟨lw_p69, List.forall_mem_cons.mpr ⟨lw_p70, fun _ h => absurd h List.not_mem_nil⟩⟩⟩⟩⟩⟩⟩
def lw_privs : List (MethodName × Nat) := lw_privs_1 ++ (lw_privs_2 ++ (lw_privs_3 ++ (lw_privs_4 ++ (lw_privs_5))))
def lw_tbl : List Cond := k2_sels lw_privs ++ tables_1
theorem lw_privs_ok : ∀ q ∈ lw_privs, lw_okq q := by
  show ∀ q ∈ lw_privs_1 ++ (lw_privs_2 ++ (lw_privs_3 ++ (lw_privs_4 ++ (lw_privs_5)))), lw_okq q
  exact List.forall_mem_append.mpr ⟨lw_r1, List.forall_mem_append.mpr ⟨lw_r2, List.forall_mem_append.mpr ⟨lw_r3, List.forall_mem_append.mpr ⟨lw_r4, lw_r5⟩⟩⟩⟩
def RX0 : String := "CinemaClock$Book"
def TX0 : u_T := fun k => match k with
  | 0 => ("CinemaClock$Book", "task", "[I", true)
  | 1 => ("CinemaClock$Book", "minute", "[I", true)
  | 2 => ("CinemaClock$Book", "fate", "[I", true)
  | _ => ("CinemaClock$Book", "rows", "I", false)
def tyX0 : Nat → FieldType := fun k => match k with
  | 0 => .array .int
  | 1 => .array .int
  | 2 => .array .int
  | _ => .int
theorem nmX0 : ∀ a, a < 4 → ∀ b, b < 4 → a ≠ b → (TX0 a).2.1 ≠ (TX0 b).2.1 := by decide +kernel
theorem tyX0_ok : ∀ k, k < 4 → parseFieldDescriptor (TX0 k).2.2.1 = some (tyX0 k) := by decide +kernel
def RX1 : String := "CinemaClock$Calendar"
def TX1 : u_T := fun k => match k with
  | 0 => ("CinemaClock$Calendar", "forms", "I", false)
  | 1 => ("CinemaClock$Calendar", "minutes", "J", false)
  | 2 => ("CinemaClock$Calendar", "hours", "I", false)
  | 3 => ("CinemaClock$Calendar", "weekdays", "I", false)
  | 4 => ("CinemaClock$Calendar", "days", "I", false)
  | 5 => ("CinemaClock$Calendar", "weeks", "I", false)
  | 6 => ("CinemaClock$Calendar", "months", "I", false)
  | _ => ("CinemaClock$Calendar", "lastDayAlone", "Z", false)
def tyX1 : Nat → FieldType := fun k => match k with
  | 0 => .int
  | 1 => .long
  | 2 => .int
  | 3 => .int
  | 4 => .int
  | 5 => .int
  | 6 => .int
  | _ => .boolean
theorem nmX1 : ∀ a, a < 8 → ∀ b, b < 8 → a ≠ b → (TX1 a).2.1 ≠ (TX1 b).2.1 := by decide +kernel
theorem tyX1_ok : ∀ k, k < 8 → parseFieldDescriptor (TX1 k).2.2.1 = some (tyX1 k) := by decide +kernel
def RX2 : String := "CinemaClock$Dues"
def TX2 : u_T := fun k => match k with
  | 0 => ("CinemaClock$Dues", "task", "[LCinemaClock$Task;", true)
  | 1 => ("CinemaClock$Dues", "minute", "[I", true)
  | 2 => ("CinemaClock$Dues", "late", "[Z", true)
  | _ => ("CinemaClock$Dues", "count", "I", false)
def tyX2 : Nat → FieldType := fun k => match k with
  | 0 => .array (.object "CinemaClock$Task")
  | 1 => .array .int
  | 2 => .array .boolean
  | _ => .int
theorem nmX2 : ∀ a, a < 4 → ∀ b, b < 4 → a ≠ b → (TX2 a).2.1 ≠ (TX2 b).2.1 := by decide +kernel
theorem tyX2_ok : ∀ k, k < 4 → parseFieldDescriptor (TX2 k).2.2.1 = some (tyX2 k) := by decide +kernel
def RX3 : String := "CinemaClock$Notes"
def TX3 : u_T := fun k => match k with
  | 0 => ("CinemaClock$Notes", "other", "[I", true)
  | 1 => ("CinemaClock$Notes", "how", "[I", true)
  | _ => ("CinemaClock$Notes", "count", "I", false)
def tyX3 : Nat → FieldType := fun k => match k with
  | 0 => .array .int
  | 1 => .array .int
  | _ => .int
theorem nmX3 : ∀ a, a < 3 → ∀ b, b < 3 → a ≠ b → (TX3 a).2.1 ≠ (TX3 b).2.1 := by decide +kernel
theorem tyX3_ok : ∀ k, k < 3 → parseFieldDescriptor (TX3 k).2.2.1 = some (tyX3 k) := by decide +kernel
def RX4 : String := "CinemaClock$Plans"
def TX4 : u_T := fun k => match k with
  | 0 => ("CinemaClock$Plans", "task", "[I", true)
  | 1 => ("CinemaClock$Plans", "time", "[I", true)
  | 2 => ("CinemaClock$Plans", "kind", "[I", true)
  | _ => ("CinemaClock$Plans", "count", "I", false)
def tyX4 : Nat → FieldType := fun k => match k with
  | 0 => .array .int
  | 1 => .array .int
  | 2 => .array .int
  | _ => .int
theorem nmX4 : ∀ a, a < 4 → ∀ b, b < 4 → a ≠ b → (TX4 a).2.1 ≠ (TX4 b).2.1 := by decide +kernel
theorem tyX4_ok : ∀ k, k < 4 → parseFieldDescriptor (TX4 k).2.2.1 = some (tyX4 k) := by decide +kernel
def RX5 : String := "CinemaClock$Run"
def TX5 : u_T := fun k => match k with
  | 0 => ("CinemaClock$Run", "number", "I", true)
  | 1 => ("CinemaClock$Run", "task", "LCinemaClock$Task;", true)
  | 2 => ("CinemaClock$Run", "time", "I", true)
  | 3 => ("CinemaClock$Run", "dueMinute", "I", true)
  | 4 => ("CinemaClock$Run", "began", "I", true)
  | 5 => ("CinemaClock$Run", "end", "I", true)
  | 6 => ("CinemaClock$Run", "worker", "I", true)
  | 7 => ("CinemaClock$Run", "group", "I", true)
  | 8 => ("CinemaClock$Run", "ended", "I", false)
  | 9 => ("CinemaClock$Run", "outcome", "I", false)
  | _ => ("CinemaClock$Run", "failure", "I", false)
def tyX5 : Nat → FieldType := fun k => match k with
  | 0 => .int
  | 1 => .object "CinemaClock$Task"
  | 2 => .int
  | 3 => .int
  | 4 => .int
  | 5 => .int
  | 6 => .int
  | 7 => .int
  | 8 => .int
  | 9 => .int
  | _ => .int
theorem nmX5 : ∀ a, a < 11 → ∀ b, b < 11 → a ≠ b → (TX5 a).2.1 ≠ (TX5 b).2.1 := by decide +kernel
theorem tyX5_ok : ∀ k, k < 11 → parseFieldDescriptor (TX5 k).2.2.1 = some (tyX5 k) := by decide +kernel
def RX6 : String := "CinemaClock$Task"
def TX6 : u_T := fun k => match k with
  | 0 => ("CinemaClock$Task", "number", "I", true)
  | 1 => ("CinemaClock$Task", "kind", "I", true)
  | 2 => ("CinemaClock$Task", "a", "I", true)
  | 3 => ("CinemaClock$Task", "b", "I", true)
  | 4 => ("CinemaClock$Task", "told", "[I", true)
  | 5 => ("CinemaClock$Task", "calendar", "LCinemaClock$Calendar;", true)
  | 6 => ("CinemaClock$Task", "notes", "LCinemaClock$Notes;", true)
  | 7 => ("CinemaClock$Task", "act", "I", false)
  | 8 => ("CinemaClock$Task", "x", "I", false)
  | 9 => ("CinemaClock$Task", "y", "I", false)
  | 10 => ("CinemaClock$Task", "state", "I", false)
  | 11 => ("CinemaClock$Task", "nextDue", "I", false)
  | 12 => ("CinemaClock$Task", "restsTill", "I", false)
  | 13 => ("CinemaClock$Task", "failures", "I", false)
  | 14 => ("CinemaClock$Task", "began", "I", false)
  | 15 => ("CinemaClock$Task", "working", "I", false)
  | 16 => ("CinemaClock$Task", "waits", "I", false)
  | 17 => ("CinemaClock$Task", "skipped", "I", false)
  | 18 => ("CinemaClock$Task", "firedFor", "I", false)
  | _ => ("CinemaClock$Task", "firedBefore", "I", false)
def tyX6 : Nat → FieldType := fun k => match k with
  | 0 => .int
  | 1 => .int
  | 2 => .int
  | 3 => .int
  | 4 => .array .int
  | 5 => .object "CinemaClock$Calendar"
  | 6 => .object "CinemaClock$Notes"
  | 7 => .int
  | 8 => .int
  | 9 => .int
  | 10 => .int
  | 11 => .int
  | 12 => .int
  | 13 => .int
  | 14 => .int
  | 15 => .int
  | 16 => .int
  | 17 => .int
  | 18 => .int
  | _ => .int
theorem nmX6 : ∀ a, a < 20 → ∀ b, b < 20 → a ≠ b → (TX6 a).2.1 ≠ (TX6 b).2.1 := by decide +kernel
theorem tyX6_ok : ∀ k, k < 20 → parseFieldDescriptor (TX6 k).2.2.1 = some (tyX6 k) := by decide +kernel
def RX7 : String := "CinemaClock"
def TX7 : u_T := fun k => match k with
  | 0 => ("CinemaClock", "tasks", "[LCinemaClock$Task;", true)
  | 1 => ("CinemaClock", "runs", "[LCinemaClock$Run;", true)
  | 2 => ("CinemaClock", "atWork", "[LCinemaClock$Run;", true)
  | 3 => ("CinemaClock", "dues", "LCinemaClock$Dues;", true)
  | 4 => ("CinemaClock", "book", "LCinemaClock$Book;", true)
  | 5 => ("CinemaClock", "plans", "LCinemaClock$Plans;", true)
  | 6 => ("CinemaClock", "groupMost", "[I", true)
  | 7 => ("CinemaClock", "idleMinutes", "[I", true)
  | 8 => ("CinemaClock", "busy", "[Z", true)
  | 9 => ("CinemaClock", "cells", "[I", true)
  | 10 => ("CinemaClock", "chain", "[I", true)
  | 11 => ("CinemaClock", "taskCount", "I", false)
  | 12 => ("CinemaClock", "runCount", "I", false)
  | 13 => ("CinemaClock", "workCount", "I", false)
  | 14 => ("CinemaClock", "groupCount", "I", false)
  | 15 => ("CinemaClock", "workerCount", "I", false)
  | 16 => ("CinemaClock", "now", "I", false)
  | 17 => ("CinemaClock", "offset", "I", false)
  | 18 => ("CinemaClock", "high", "I", false)
  | _ => ("CinemaClock", "houseStopped", "Z", false)
def tyX7 : Nat → FieldType := fun k => match k with
  | 0 => .array (.object "CinemaClock$Task")
  | 1 => .array (.object "CinemaClock$Run")
  | 2 => .array (.object "CinemaClock$Run")
  | 3 => .object "CinemaClock$Dues"
  | 4 => .object "CinemaClock$Book"
  | 5 => .object "CinemaClock$Plans"
  | 6 => .array .int
  | 7 => .array .int
  | 8 => .array .boolean
  | 9 => .array .int
  | 10 => .array .int
  | 11 => .int
  | 12 => .int
  | 13 => .int
  | 14 => .int
  | 15 => .int
  | 16 => .int
  | 17 => .int
  | 18 => .int
  | _ => .boolean
theorem nmX7 : ∀ a, a < 20 → ∀ b, b < 20 → a ≠ b → (TX7 a).2.1 ≠ (TX7 b).2.1 := by decide +kernel
theorem tyX7_ok : ∀ k, k < 20 → parseFieldDescriptor (TX7 k).2.2.1 = some (tyX7 k) := by decide +kernel
def RX8 : String := "CinemaClockModel"
def TX8 : u_T := fun k => match k with
  | 0 => ("CinemaClockModel", "now", "I", false)
  | 1 => ("CinemaClockModel", "offset", "I", false)
  | 2 => ("CinemaClockModel", "high", "I", false)
  | 3 => ("CinemaClockModel", "stopped", "Z", false)
  | 4 => ("CinemaClockModel", "workers", "I", false)
  | 5 => ("CinemaClockModel", "worker", "[I", true)
  | 6 => ("CinemaClockModel", "idle", "[I", true)
  | 7 => ("CinemaClockModel", "groups", "I", false)
  | 8 => ("CinemaClockModel", "most", "[I", true)
  | 9 => ("CinemaClockModel", "tasks", "I", false)
  | 10 => ("CinemaClockModel", "kind", "[I", true)
  | 11 => ("CinemaClockModel", "first", "[I", true)
  | 12 => ("CinemaClockModel", "gap", "[I", true)
  | 13 => ("CinemaClockModel", "length", "[I", true)
  | 14 => ("CinemaClockModel", "rank", "[I", true)
  | 15 => ("CinemaClockModel", "group", "[I", true)
  | 16 => ("CinemaClockModel", "overlap", "[I", true)
  | 17 => ("CinemaClockModel", "miss", "[I", true)
  | 18 => ("CinemaClockModel", "fail", "[I", true)
  | 19 => ("CinemaClockModel", "act", "[I", true)
  | 20 => ("CinemaClockModel", "actX", "[I", true)
  | 21 => ("CinemaClockModel", "actY", "[I", true)
  | 22 => ("CinemaClockModel", "left", "[I", true)
  | 23 => ("CinemaClockModel", "dueNext", "[I", true)
  | 24 => ("CinemaClockModel", "skipped", "[I", true)
  | 25 => ("CinemaClockModel", "inRow", "[I", true)
  | 26 => ("CinemaClockModel", "restsTill", "[I", true)
  | 27 => ("CinemaClockModel", "began", "[I", true)
  | 28 => ("CinemaClockModel", "fired", "[Z", true)
  | 29 => ("CinemaClockModel", "firedNext", "[Z", true)
  | 30 => ("CinemaClockModel", "forms", "[I", true)
  | 31 => ("CinemaClockModel", "form", "[I", true)
  | 32 => ("CinemaClockModel", "formA", "[I", true)
  | 33 => ("CinemaClockModel", "formB", "[I", true)
  | 34 => ("CinemaClockModel", "notes", "[I", true)
  | 35 => ("CinemaClockModel", "noteOf", "[I", true)
  | 36 => ("CinemaClockModel", "noteHow", "[I", true)
  | 37 => ("CinemaClockModel", "plans", "I", false)
  | 38 => ("CinemaClockModel", "planTask", "[I", true)
  | 39 => ("CinemaClockModel", "planTime", "[I", true)
  | 40 => ("CinemaClockModel", "planKind", "[I", true)
  | 41 => ("CinemaClockModel", "cells", "[I", true)
  | 42 => ("CinemaClockModel", "runs", "I", false)
  | 43 => ("CinemaClockModel", "runTask", "[I", true)
  | 44 => ("CinemaClockModel", "runDue", "[I", true)
  | 45 => ("CinemaClockModel", "runFrom", "[I", true)
  | 46 => ("CinemaClockModel", "runTo", "[I", true)
  | 47 => ("CinemaClockModel", "runEnd", "[I", true)
  | 48 => ("CinemaClockModel", "runState", "[I", true)
  | 49 => ("CinemaClockModel", "runKind", "[I", true)
  | 50 => ("CinemaClockModel", "runWorker", "[I", true)
  | 51 => ("CinemaClockModel", "runGroup", "[I", true)
  | 52 => ("CinemaClockModel", "runTime", "[I", true)
  | 53 => ("CinemaClockModel", "dues", "I", false)
  | 54 => ("CinemaClockModel", "dueTask", "[I", true)
  | 55 => ("CinemaClockModel", "dueMinute", "[I", true)
  | 56 => ("CinemaClockModel", "dueLate", "[Z", true)
  | 57 => ("CinemaClockModel", "rows", "I", false)
  | 58 => ("CinemaClockModel", "bookTask", "[I", true)
  | 59 => ("CinemaClockModel", "bookMinute", "[I", true)
  | 60 => ("CinemaClockModel", "bookWhat", "[I", true)
  | 61 => ("CinemaClockModel", "reached", "[Z", true)
  | 62 => ("CinemaClockModel", "month", "I", false)
  | 63 => ("CinemaClockModel", "dayOfMonth", "I", false)
  | 64 => ("CinemaClockModel", "weekday", "I", false)
  | 65 => ("CinemaClockModel", "daysInMonth", "I", false)
  | _ => ("CinemaClockModel", "started", "I", false)
def tyX8 : Nat → FieldType := fun k => match k with
  | 0 => .int
  | 1 => .int
  | 2 => .int
  | 3 => .boolean
  | 4 => .int
  | 5 => .array .int
  | 6 => .array .int
  | 7 => .int
  | 8 => .array .int
  | 9 => .int
  | 10 => .array .int
  | 11 => .array .int
  | 12 => .array .int
  | 13 => .array .int
  | 14 => .array .int
  | 15 => .array .int
  | 16 => .array .int
  | 17 => .array .int
  | 18 => .array .int
  | 19 => .array .int
  | 20 => .array .int
  | 21 => .array .int
  | 22 => .array .int
  | 23 => .array .int
  | 24 => .array .int
  | 25 => .array .int
  | 26 => .array .int
  | 27 => .array .int
  | 28 => .array .boolean
  | 29 => .array .boolean
  | 30 => .array .int
  | 31 => .array .int
  | 32 => .array .int
  | 33 => .array .int
  | 34 => .array .int
  | 35 => .array .int
  | 36 => .array .int
  | 37 => .int
  | 38 => .array .int
  | 39 => .array .int
  | 40 => .array .int
  | 41 => .array .int
  | 42 => .int
  | 43 => .array .int
  | 44 => .array .int
  | 45 => .array .int
  | 46 => .array .int
  | 47 => .array .int
  | 48 => .array .int
  | 49 => .array .int
  | 50 => .array .int
  | 51 => .array .int
  | 52 => .array .int
  | 53 => .int
  | 54 => .array .int
  | 55 => .array .int
  | 56 => .array .boolean
  | 57 => .int
  | 58 => .array .int
  | 59 => .array .int
  | 60 => .array .int
  | 61 => .array .boolean
  | 62 => .int
  | 63 => .int
  | 64 => .int
  | 65 => .int
  | _ => .int
theorem nmX8 : ∀ a, a < 67 → ∀ b, b < 67 → a ≠ b → (TX8 a).2.1 ≠ (TX8 b).2.1 := by decide +kernel
theorem tyX8_ok : ∀ k, k < 67 → parseFieldDescriptor (TX8 k).2.2.1 = some (tyX8 k) := by decide +kernel
def yX0_init : MethodName := ⟨RX0, "<init>", "()V"⟩
def yX0_add : MethodName := ⟨RX0, "add", "(III)V"⟩
def yX1_init : MethodName := ⟨RX1, "<init>", "()V"⟩
def yX1_isForm : MethodName := ⟨RX1, "isForm", "(III)Z"⟩
def yX1_add : MethodName := ⟨RX1, "add", "(III)V"⟩
def yX1_ring : MethodName := ⟨RX1, "ring", "(III)I"⟩
def yX1_fits : MethodName := ⟨RX1, "fits", "(I)Z"⟩
def yX1_minuteFits : MethodName := ⟨RX1, "minuteFits", "(I)Z"⟩
def yX1_hourFits : MethodName := ⟨RX1, "hourFits", "(I)Z"⟩
def yX1_dayFits : MethodName := ⟨RX1, "dayFits", "(I)Z"⟩
def yX1_firstFit : MethodName := ⟨RX1, "firstFit", "(II)I"⟩
def yX1_monthOf : MethodName := ⟨RX1, "monthOf", "(I)I"⟩
def yX2_init : MethodName := ⟨RX2, "<init>", "()V"⟩
def yX2_add : MethodName := ⟨RX2, "add", "(LCinemaClock$Task;I)V"⟩
def yX2_remove : MethodName := ⟨RX2, "remove", "(I)V"⟩
def yX2_removeAll : MethodName := ⟨RX2, "removeAll", "(LCinemaClock$Task;)V"⟩
def yX2_clear : MethodName := ⟨RX2, "clear", "()V"⟩
def yX2_isAhead : MethodName := ⟨RX2, "isAhead", "(II)Z"⟩
def yX3_init : MethodName := ⟨RX3, "<init>", "()V"⟩
def yX3_add : MethodName := ⟨RX3, "add", "(II)V"⟩
def yX3_fit : MethodName := ⟨RX3, "fit", "(IZ)Z"⟩
def yX4_init : MethodName := ⟨RX4, "<init>", "()V"⟩
def yX4_placeOf : MethodName := ⟨RX4, "placeOf", "(II)I"⟩
def yX4_put : MethodName := ⟨RX4, "put", "(III)Z"⟩
def yX4_kindOf : MethodName := ⟨RX4, "kindOf", "(II)I"⟩
def yX5_init : MethodName := ⟨RX5, "<init>", "(ILCinemaClock$Task;III)V"⟩
def yX6_init : MethodName := ⟨RX6, "<init>", "(IIII)V"⟩
def yX6_isActive : MethodName := ⟨RX6, "isActive", "()Z"⟩
def yX6_fireFor : MethodName := ⟨RX6, "fireFor", "(I)V"⟩
def yX6_isFiredFor : MethodName := ⟨RX6, "isFiredFor", "(I)Z"⟩
def yX6_step : MethodName := ⟨RX6, "step", "()I"⟩
def yX6_firstOfRate : MethodName := ⟨RX6, "firstOfRate", "(I)I"⟩
def yX7_init : MethodName := ⟨RX7, "<init>", "()V"⟩
def yX7_workers : MethodName := ⟨RX7, "workers", "(I)I"⟩
def yX7_group : MethodName := ⟨RX7, "group", "(I)I"⟩
def yX7_task : MethodName := ⟨RX7, "task", "(III)I"⟩
def yX7_set : MethodName := ⟨RX7, "set", "(III)I"⟩
def yX7_leastTold : MethodName := ⟨RX7, "leastTold", "(I)I"⟩
def yX7_mostTold : MethodName := ⟨RX7, "mostTold", "(I)I"⟩
def yX7_calendar : MethodName := ⟨RX7, "calendar", "(IIII)I"⟩
def yX7_body : MethodName := ⟨RX7, "body", "(IIII)I"⟩
def yX7_after : MethodName := ⟨RX7, "after", "(III)I"⟩
def yX7_comesAfter : MethodName := ⟨RX7, "comesAfter", "(II)Z"⟩
def yX7_link : MethodName := ⟨RX7, "link", "(II)I"⟩
def yX7_plan : MethodName := ⟨RX7, "plan", "(III)I"⟩
def yX7_clearPlan : MethodName := ⟨RX7, "clearPlan", "()I"⟩
def yX7_clock : MethodName := ⟨RX7, "clock", "(I)I"⟩
def yX7_treatMinute : MethodName := ⟨RX7, "treatMinute", "()V"⟩
def yX7_endRuns : MethodName := ⟨RX7, "endRuns", "()V"⟩
def yX7_firstEnding : MethodName := ⟨RX7, "firstEnding", "()LCinemaClock$Run;"⟩
def yX7_endRun : MethodName := ⟨RX7, "endRun", "(LCinemaClock$Run;)V"⟩
def yX7_act : MethodName := ⟨RX7, "act", "(LCinemaClock$Run;)I"⟩
def yX7_followEnd : MethodName := ⟨RX7, "followEnd", "(LCinemaClock$Task;Z)V"⟩
def yX7_restAfter : MethodName := ⟨RX7, "restAfter", "(I)I"⟩
def yX7_layDown : MethodName := ⟨RX7, "layDown", "(LCinemaClock$Run;I)V"⟩
def yX7_tellAfters : MethodName := ⟨RX7, "tellAfters", "(LCinemaClock$Task;Z)V"⟩
def yX7_bringDues : MethodName := ⟨RX7, "bringDues", "()V"⟩
def yX7_isDueByKind : MethodName := ⟨RX7, "isDueByKind", "(LCinemaClock$Task;I)Z"⟩
def yX7_comeDue : MethodName := ⟨RX7, "comeDue", "(LCinemaClock$Task;)V"⟩
def yX7_fateOfDue : MethodName := ⟨RX7, "fateOfDue", "(LCinemaClock$Task;)I"⟩
def yX7_pauseAgain : MethodName := ⟨RX7, "pauseAgain", "(LCinemaClock$Task;)V"⟩
def yX7_missDues : MethodName := ⟨RX7, "missDues", "()V"⟩
def yX7_isMissed : MethodName := ⟨RX7, "isMissed", "(LCinemaClock$Task;I)Z"⟩
def yX7_missDue : MethodName := ⟨RX7, "missDue", "(LCinemaClock$Task;I)I"⟩
def yX7_beginRuns : MethodName := ⟨RX7, "beginRuns", "()V"⟩
def yX7_freeWorker : MethodName := ⟨RX7, "freeWorker", "()I"⟩
def yX7_firstToBegin : MethodName := ⟨RX7, "firstToBegin", "()I"⟩
def yX7_mayBegin : MethodName := ⟨RX7, "mayBegin", "(LCinemaClock$Task;)Z"⟩
def yX7_workIn : MethodName := ⟨RX7, "workIn", "(I)I"⟩
def yX7_beginRun : MethodName := ⟨RX7, "beginRun", "(II)V"⟩
def yX7_jump : MethodName := ⟨RX7, "jump", "(I)I"⟩
def yX7_jumpOver : MethodName := ⟨RX7, "jumpOver", "(II)V"⟩
def yX7_missJumped : MethodName := ⟨RX7, "missJumped", "(LCinemaClock$Task;II)V"⟩
def yX7_cancel : MethodName := ⟨RX7, "cancel", "(II)I"⟩
def yX7_leave : MethodName := ⟨RX7, "leave", "(LCinemaClock$Task;I)V"⟩
def yX7_interruptRuns : MethodName := ⟨RX7, "interruptRuns", "(LCinemaClock$Task;)V"⟩
def yX7_firstAtWork : MethodName := ⟨RX7, "firstAtWork", "(LCinemaClock$Task;)LCinemaClock$Run;"⟩
def yX7_stop : MethodName := ⟨RX7, "stop", "(I)I"⟩
def yX7_dropDues : MethodName := ⟨RX7, "dropDues", "()V"⟩
def yX7_go : MethodName := ⟨RX7, "go", "()I"⟩
def yX7_run : MethodName := ⟨RX7, "run", "(II)I"⟩
def yX7_of : MethodName := ⟨RX7, "of", "(II)I"⟩
def yX7_stateOf : MethodName := ⟨RX7, "stateOf", "(LCinemaClock$Task;)I"⟩
def yX7_next : MethodName := ⟨RX7, "next", "(II)I"⟩
def yX7_dueMinute : MethodName := ⟨RX7, "dueMinute", "(LCinemaClock$Task;I)I"⟩
def yX7_calendarMinute : MethodName := ⟨RX7, "calendarMinute", "(LCinemaClock$Calendar;I)I"⟩
def yX7_waiting : MethodName := ⟨RX7, "waiting", "(II)I"⟩
def yX7_book : MethodName := ⟨RX7, "book", "(II)I"⟩
def yX7_count : MethodName := ⟨RX7, "count", "(I)I"⟩
def yX7_cell : MethodName := ⟨RX7, "cell", "(I)I"⟩
def yX7_day : MethodName := ⟨RX7, "day", "(II)I"⟩
def yX7_idle : MethodName := ⟨RX7, "idle", "(I)I"⟩
def yX7_load : MethodName := ⟨RX7, "load", "(I)I"⟩
def yX7_quiet : MethodName := ⟨RX7, "quiet", "()I"⟩
def yX7_isWithin : MethodName := ⟨RX7, "isWithin", "(III)Z"⟩
def yX7_taskAt : MethodName := ⟨RX7, "taskAt", "(I)LCinemaClock$Task;"⟩
def yX7_isActive : MethodName := ⟨RX7, "isActive", "(LCinemaClock$Task;)Z"⟩
def yX8_init : MethodName := ⟨RX8, "<init>", "()V"⟩
def yX8_in : MethodName := ⟨RX8, "in", "(III)Z"⟩
def yX8_isTask : MethodName := ⟨RX8, "isTask", "(I)Z"⟩
def yX8_isActive : MethodName := ⟨RX8, "isActive", "(I)Z"⟩
def yX8_atWork : MethodName := ⟨RX8, "atWork", "()I"⟩
def yX8_isRunning : MethodName := ⟨RX8, "isRunning", "(I)Z"⟩
def yX8_loadOf : MethodName := ⟨RX8, "loadOf", "(I)I"⟩
def yX8_duesOf : MethodName := ⟨RX8, "duesOf", "(I)I"⟩
def yX8_monthLength : MethodName := ⟨RX8, "monthLength", "(I)I"⟩
def yX8_look : MethodName := ⟨RX8, "look", "(I)V"⟩
def yX8_fitsDay : MethodName := ⟨RX8, "fitsDay", "(I)Z"⟩
def yX8_fitsMinute : MethodName := ⟨RX8, "fitsMinute", "(II)Z"⟩
def yX8_fits : MethodName := ⟨RX8, "fits", "(II)Z"⟩
def yX8_hasMinute : MethodName := ⟨RX8, "hasMinute", "(I)Z"⟩
def yX8_dueFrom : MethodName := ⟨RX8, "dueFrom", "(II)I"⟩
def yX8_calendarFrom : MethodName := ⟨RX8, "calendarFrom", "(II)I"⟩
def yX8_books : MethodName := ⟨RX8, "books", "(III)V"⟩
def yX8_dueGone : MethodName := ⟨RX8, "dueGone", "(II)V"⟩
def yX8_comes : MethodName := ⟨RX8, "comes", "(II)V"⟩
def yX8_takeDue : MethodName := ⟨RX8, "takeDue", "(I)V"⟩
def yX8_dropDues : MethodName := ⟨RX8, "dropDues", "(I)V"⟩
def yX8_notes : MethodName := ⟨RX8, "notes", "(IZI)V"⟩
def yX8_frees : MethodName := ⟨RX8, "frees", "(III)V"⟩
def yX8_interrupts : MethodName := ⟨RX8, "interrupts", "(IZ)V"⟩
def yX8_planned : MethodName := ⟨RX8, "planned", "(II)I"⟩
def yX8_does : MethodName := ⟨RX8, "does", "(III)I"⟩
def yX8_ends : MethodName := ⟨RX8, "ends", "(II)V"⟩
def yX8_failed : MethodName := ⟨RX8, "failed", "(II)V"⟩
def yX8_treat : MethodName := ⟨RX8, "treat", "(I)V"⟩
def yX8_isDue : MethodName := ⟨RX8, "isDue", "(II)Z"⟩
def yX8_misses : MethodName := ⟨RX8, "misses", "(I)V"⟩
def yX8_canBegin : MethodName := ⟨RX8, "canBegin", "(I)Z"⟩
def yX8_begins : MethodName := ⟨RX8, "begins", "(I)Z"⟩
def yX8_isAhead : MethodName := ⟨RX8, "isAhead", "(II)Z"⟩
def yX8_clock : MethodName := ⟨RX8, "clock", "(I)I"⟩
def yX8_workers : MethodName := ⟨RX8, "workers", "(I)I"⟩
def yX8_group : MethodName := ⟨RX8, "group", "(I)I"⟩
def yX8_task : MethodName := ⟨RX8, "task", "(III)I"⟩
def yX8_set : MethodName := ⟨RX8, "set", "(III)I"⟩
def yX8_isForm : MethodName := ⟨RX8, "isForm", "(III)Z"⟩
def yX8_calendar : MethodName := ⟨RX8, "calendar", "(IIII)I"⟩
def yX8_body : MethodName := ⟨RX8, "body", "(IIII)I"⟩
def yX8_leads : MethodName := ⟨RX8, "leads", "(II)Z"⟩
def yX8_after : MethodName := ⟨RX8, "after", "(III)I"⟩
def yX8_plan : MethodName := ⟨RX8, "plan", "(III)I"⟩
def yX8_clearPlan : MethodName := ⟨RX8, "clearPlan", "()I"⟩
def yX8_jump : MethodName := ⟨RX8, "jump", "(I)I"⟩
def yX8_cancel : MethodName := ⟨RX8, "cancel", "(II)I"⟩
def yX8_stop : MethodName := ⟨RX8, "stop", "(I)I"⟩
def yX8_go : MethodName := ⟨RX8, "go", "()I"⟩
def yX8_run : MethodName := ⟨RX8, "run", "(II)I"⟩
def yX8_of : MethodName := ⟨RX8, "of", "(II)I"⟩
def yX8_next : MethodName := ⟨RX8, "next", "(II)I"⟩
def yX8_waiting : MethodName := ⟨RX8, "waiting", "(II)I"⟩
def yX8_book : MethodName := ⟨RX8, "book", "(II)I"⟩
def yX8_count : MethodName := ⟨RX8, "count", "(I)I"⟩
def yX8_cell : MethodName := ⟨RX8, "cell", "(I)I"⟩
def yX8_day : MethodName := ⟨RX8, "day", "(II)I"⟩
def yX8_idle : MethodName := ⟨RX8, "idle", "(I)I"⟩
def yX8_load : MethodName := ⟨RX8, "load", "(I)I"⟩
def yX8_quiet : MethodName := ⟨RX8, "quiet", "()I"⟩
def jy_max : MethodName := ⟨"java/lang/Math", "max", "(II)I"⟩
def jy_min : MethodName := ⟨"java/lang/Math", "min", "(II)I"⟩
def jy_floorMod : MethodName := ⟨"java/lang/Math", "floorMod", "(II)I"⟩
