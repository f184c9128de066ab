section
-- ===== PART A: goes FIRST, ahead of the names: the tables' words, and 'selects' of the private methods out of them =====
/-- a private method of a class that the tables say can be made, by its rows of tables_1 -/
def lw_okq (q : MethodName × Nat) : Prop := (q.1.cls ≠ "java/lang/invoke/MethodHandle" ∧ q.1.cls ≠ "java/lang/invoke/VarHandle") ∧ Cond.instantiable q.1.cls q.2 ∈ tables_1 ∧ Cond.privateMethod q.1 ∈ tables_1 ∧ Cond.instanceMethod q.1 ∈ tables_1
theorem lw_p0 : lw_okq (⟨"CinemaClock", "taskAt", "(I)LCinemaClock$Task;"⟩, 20) := ⟨⟨by decide +kernel, by decide +kernel⟩, List.mem_of_getElem? (i := 12) (by decide +kernel), List.mem_of_getElem? (i := 315) (by decide +kernel), List.mem_of_getElem? (i := 316) (by decide +kernel)⟩
theorem lw_p1 : lw_okq (⟨"CinemaClock", "mostTold", "(I)I"⟩, 20) := ⟨⟨by decide +kernel, by decide +kernel⟩, List.mem_of_getElem? (i := 12) (by decide +kernel), List.mem_of_getElem? (i := 322) (by decide +kernel), List.mem_of_getElem? (i := 323) (by decide +kernel)⟩
theorem lw_p2 : lw_okq (⟨"CinemaClock", "comesAfter", "(II)Z"⟩, 20) := ⟨⟨by decide +kernel, by decide +kernel⟩, List.mem_of_getElem? (i := 12) (by decide +kernel), List.mem_of_getElem? (i := 351) (by decide +kernel), List.mem_of_getElem? (i := 352) (by decide +kernel)⟩
theorem lw_p3 : lw_okq (⟨"CinemaClock", "link", "(II)I"⟩, 20) := ⟨⟨by decide +kernel, by decide +kernel⟩, List.mem_of_getElem? (i := 12) (by decide +kernel), List.mem_of_getElem? (i := 355) (by decide +kernel), List.mem_of_getElem? (i := 356) (by decide +kernel)⟩
theorem lw_p4 : lw_okq (⟨"CinemaClock$Plans", "placeOf", "(II)I"⟩, 4) := ⟨⟨by decide +kernel, by decide +kernel⟩, List.mem_of_getElem? (i := 73) (by decide +kernel), List.mem_of_getElem? (i := 371) (by decide +kernel), List.mem_of_getElem? (i := 372) (by decide +kernel)⟩
theorem lw_p5 : lw_okq (⟨"CinemaClock", "treatMinute", "()V"⟩, 20) := ⟨⟨by decide +kernel, by decide +kernel⟩, List.mem_of_getElem? (i := 12) (by decide +kernel), List.mem_of_getElem? (i := 389) (by decide +kernel), List.mem_of_getElem? (i := 390) (by decide +kernel)⟩
theorem lw_p6 : lw_okq (⟨"CinemaClock", "endRuns", "()V"⟩, 20) := ⟨⟨by decide +kernel, by decide +kernel⟩, List.mem_of_getElem? (i := 12) (by decide +kernel), List.mem_of_getElem? (i := 393) (by decide +kernel), List.mem_of_getElem? (i := 394) (by decide +kernel)⟩
theorem lw_p7 : lw_okq (⟨"CinemaClock", "firstEnding", "()LCinemaClock$Run;"⟩, 20) := ⟨⟨by decide +kernel, by decide +kernel⟩, List.mem_of_getElem? (i := 12) (by decide +kernel), List.mem_of_getElem? (i := 397) (by decide +kernel), List.mem_of_getElem? (i := 398) (by decide +kernel)⟩
theorem lw_p8 : lw_okq (⟨"CinemaClock", "endRun", "(LCinemaClock$Run;)V"⟩, 20) := ⟨⟨by decide +kernel, by decide +kernel⟩, List.mem_of_getElem? (i := 12) (by decide +kernel), List.mem_of_getElem? (i := 401) (by decide +kernel), List.mem_of_getElem? (i := 402) (by decide +kernel)⟩
theorem lw_p9 : lw_okq (⟨"CinemaClock", "act", "(LCinemaClock$Run;)I"⟩, 20) := ⟨⟨by decide +kernel, by decide +kernel⟩, List.mem_of_getElem? (i := 12) (by decide +kernel), List.mem_of_getElem? (i := 409) (by decide +kernel), List.mem_of_getElem? (i := 410) (by decide +kernel)⟩
theorem lw_p10 : lw_okq (⟨"CinemaClock", "leave", "(LCinemaClock$Task;I)V"⟩, 20) := ⟨⟨by decide +kernel, by decide +kernel⟩, List.mem_of_getElem? (i := 12) (by decide +kernel), List.mem_of_getElem? (i := 417) (by decide +kernel), List.mem_of_getElem? (i := 418) (by decide +kernel)⟩
theorem lw_p11 : lw_okq (⟨"CinemaClock", "layDown", "(LCinemaClock$Run;I)V"⟩, 20) := ⟨⟨by decide +kernel, by decide +kernel⟩, List.mem_of_getElem? (i := 12) (by decide +kernel), List.mem_of_getElem? (i := 429) (by decide +kernel), List.mem_of_getElem? (i := 430) (by decide +kernel)⟩
theorem lw_p12 : lw_okq (⟨"CinemaClock", "followEnd", "(LCinemaClock$Task;Z)V"⟩, 20) := ⟨⟨by decide +kernel, by decide +kernel⟩, List.mem_of_getElem? (i := 12) (by decide +kernel), List.mem_of_getElem? (i := 433) (by decide +kernel), List.mem_of_getElem? (i := 434) (by decide +kernel)⟩
theorem lw_p13 : lw_okq (⟨"CinemaClock", "tellAfters", "(LCinemaClock$Task;Z)V"⟩, 20) := ⟨⟨by decide +kernel, by decide +kernel⟩, List.mem_of_getElem? (i := 12) (by decide +kernel), List.mem_of_getElem? (i := 441) (by decide +kernel), List.mem_of_getElem? (i := 442) (by decide +kernel)⟩
theorem lw_p14 : lw_okq (⟨"CinemaClock", "comeDue", "(LCinemaClock$Task;)V"⟩, 20) := ⟨⟨by decide +kernel, by decide +kernel⟩, List.mem_of_getElem? (i := 12) (by decide +kernel), List.mem_of_getElem? (i := 452) (by decide +kernel), List.mem_of_getElem? (i := 453) (by decide +kernel)⟩
theorem lw_p15 : lw_okq (⟨"CinemaClock", "fateOfDue", "(LCinemaClock$Task;)I"⟩, 20) := ⟨⟨by decide +kernel, by decide +kernel⟩, List.mem_of_getElem? (i := 12) (by decide +kernel), List.mem_of_getElem? (i := 456) (by decide +kernel), List.mem_of_getElem? (i := 457) (by decide +kernel)⟩
def lw_privs_1 : List (MethodName × Nat) := [(⟨"CinemaClock", "taskAt", "(I)LCinemaClock$Task;"⟩, 20), (⟨"CinemaClock", "mostTold", "(I)I"⟩, 20), (⟨"CinemaClock", "comesAfter", "(II)Z"⟩, 20), (⟨"CinemaClock", "link", "(II)I"⟩, 20), (⟨"CinemaClock$Plans", "placeOf", "(II)I"⟩, 4), (⟨"CinemaClock", "treatMinute", "()V"⟩, 20), (⟨"CinemaClock", "endRuns", "()V"⟩, 20), (⟨"CinemaClock", "firstEnding", "()LCinemaClock$Run;"⟩, 20), (⟨"CinemaClock", "endRun", "(LCinemaClock$Run;)V"⟩, 20), (⟨"CinemaClock", "act", "(LCinemaClock$Run;)I"⟩, 20), (⟨"CinemaClock", "leave", "(LCinemaClock$Task;I)V"⟩, 20), (⟨"CinemaClock", "layDown", "(LCinemaClock$Run;I)V"⟩, 20), (⟨"CinemaClock", "followEnd", "(LCinemaClock$Task;Z)V"⟩, 20), (⟨"CinemaClock", "tellAfters", "(LCinemaClock$Task;Z)V"⟩, 20), (⟨"CinemaClock", "comeDue", "(LCinemaClock$Task;)V"⟩, 20), (⟨"CinemaClock", "fateOfDue", "(LCinemaClock$Task;)I"⟩, 20)]
theorem lw_r1 : ∀ q ∈ lw_privs_1, lw_okq q := List.forall_mem_cons.mpr ⟨lw_p0, List.forall_mem_cons.mpr ⟨lw_p1, List.forall_mem_cons.mpr ⟨lw_p2, List.forall_mem_cons.mpr ⟨lw_p3, List.forall_mem_cons.mpr ⟨lw_p4, List.forall_mem_cons.mpr ⟨lw_p5, List.forall_mem_cons.mpr ⟨lw_p6, List.forall_mem_cons.mpr ⟨lw_p7, List.forall_mem_cons.mpr ⟨lw_p8, List.forall_mem_cons.mpr ⟨lw_p9, List.forall_mem_cons.mpr ⟨lw_p10, List.forall_mem_cons.mpr ⟨lw_p11, List.forall_mem_cons.mpr ⟨lw_p12, List.forall_mem_cons.mpr ⟨lw_p13, List.forall_mem_cons.mpr ⟨lw_p14, List.forall_mem_cons.mpr ⟨lw_p15, fun _ h => absurd h List.not_mem_nil⟩⟩⟩⟩⟩⟩⟩⟩⟩⟩⟩⟩⟩⟩⟩⟩
theorem lw_p16 : lw_okq (⟨"CinemaClock", "pauseAgain", "(LCinemaClock$Task;)V"⟩, 20) := ⟨⟨by decide +kernel, by decide +kernel⟩, List.mem_of_getElem? (i := 12) (by decide +kernel), List.mem_of_getElem? (i := 468) (by decide +kernel), List.mem_of_getElem? (i := 469) (by decide +kernel)⟩
theorem lw_p17 : lw_okq (⟨"CinemaClock", "bringDues", "()V"⟩, 20) := ⟨⟨by decide +kernel, by decide +kernel⟩, List.mem_of_getElem? (i := 12) (by decide +kernel), List.mem_of_getElem? (i := 472) (by decide +kernel), List.mem_of_getElem? (i := 473) (by decide +kernel)⟩
theorem lw_p18 : lw_okq (⟨"CinemaClock", "isDueByKind", "(LCinemaClock$Task;I)Z"⟩, 20) := ⟨⟨by decide +kernel, by decide +kernel⟩, List.mem_of_getElem? (i := 12) (by decide +kernel), List.mem_of_getElem? (i := 476) (by decide +kernel), List.mem_of_getElem? (i := 477) (by decide +kernel)⟩
theorem lw_p19 : lw_okq (⟨"CinemaClock$Calendar", "minuteFits", "(I)Z"⟩, 8) := ⟨⟨by decide +kernel, by decide +kernel⟩, List.mem_of_getElem? (i := 176) (by decide +kernel), List.mem_of_getElem? (i := 492) (by decide +kernel), List.mem_of_getElem? (i := 493) (by decide +kernel)⟩
theorem lw_p20 : lw_okq (⟨"CinemaClock$Calendar", "hourFits", "(I)Z"⟩, 8) := ⟨⟨by decide +kernel, by decide +kernel⟩, List.mem_of_getElem? (i := 176) (by decide +kernel), List.mem_of_getElem? (i := 496) (by decide +kernel), List.mem_of_getElem? (i := 497) (by decide +kernel)⟩
theorem lw_p21 : lw_okq (⟨"CinemaClock$Calendar", "dayFits", "(I)Z"⟩, 8) := ⟨⟨by decide +kernel, by decide +kernel⟩, List.mem_of_getElem? (i := 176) (by decide +kernel), List.mem_of_getElem? (i := 500) (by decide +kernel), List.mem_of_getElem? (i := 501) (by decide +kernel)⟩
theorem lw_p22 : lw_okq (⟨"CinemaClock", "missDues", "()V"⟩, 20) := ⟨⟨by decide +kernel, by decide +kernel⟩, List.mem_of_getElem? (i := 12) (by decide +kernel), List.mem_of_getElem? (i := 513) (by decide +kernel), List.mem_of_getElem? (i := 514) (by decide +kernel)⟩
theorem lw_p23 : lw_okq (⟨"CinemaClock", "isMissed", "(LCinemaClock$Task;I)Z"⟩, 20) := ⟨⟨by decide +kernel, by decide +kernel⟩, List.mem_of_getElem? (i := 12) (by decide +kernel), List.mem_of_getElem? (i := 517) (by decide +kernel), List.mem_of_getElem? (i := 518) (by decide +kernel)⟩
theorem lw_p24 : lw_okq (⟨"CinemaClock", "missDue", "(LCinemaClock$Task;I)I"⟩, 20) := ⟨⟨by decide +kernel, by decide +kernel⟩, List.mem_of_getElem? (i := 12) (by decide +kernel), List.mem_of_getElem? (i := 521) (by decide +kernel), List.mem_of_getElem? (i := 522) (by decide +kernel)⟩
theorem lw_p25 : lw_okq (⟨"CinemaClock", "beginRuns", "()V"⟩, 20) := ⟨⟨by decide +kernel, by decide +kernel⟩, List.mem_of_getElem? (i := 12) (by decide +kernel), List.mem_of_getElem? (i := 530) (by decide +kernel), List.mem_of_getElem? (i := 531) (by decide +kernel)⟩
theorem lw_p26 : lw_okq (⟨"CinemaClock", "freeWorker", "()I"⟩, 20) := ⟨⟨by decide +kernel, by decide +kernel⟩, List.mem_of_getElem? (i := 12) (by decide +kernel), List.mem_of_getElem? (i := 534) (by decide +kernel), List.mem_of_getElem? (i := 535) (by decide +kernel)⟩
theorem lw_p27 : lw_okq (⟨"CinemaClock", "firstToBegin", "()I"⟩, 20) := ⟨⟨by decide +kernel, by decide +kernel⟩, List.mem_of_getElem? (i := 12) (by decide +kernel), List.mem_of_getElem? (i := 538) (by decide +kernel), List.mem_of_getElem? (i := 539) (by decide +kernel)⟩
theorem lw_p28 : lw_okq (⟨"CinemaClock", "mayBegin", "(LCinemaClock$Task;)Z"⟩, 20) := ⟨⟨by decide +kernel, by decide +kernel⟩, List.mem_of_getElem? (i := 12) (by decide +kernel), List.mem_of_getElem? (i := 542) (by decide +kernel), List.mem_of_getElem? (i := 543) (by decide +kernel)⟩
theorem lw_p29 : lw_okq (⟨"CinemaClock", "workIn", "(I)I"⟩, 20) := ⟨⟨by decide +kernel, by decide +kernel⟩, List.mem_of_getElem? (i := 12) (by decide +kernel), List.mem_of_getElem? (i := 546) (by decide +kernel), List.mem_of_getElem? (i := 547) (by decide +kernel)⟩
theorem lw_p30 : lw_okq (⟨"CinemaClock", "beginRun", "(II)V"⟩, 20) := ⟨⟨by decide +kernel, by decide +kernel⟩, List.mem_of_getElem? (i := 12) (by decide +kernel), List.mem_of_getElem? (i := 554) (by decide +kernel), List.mem_of_getElem? (i := 555) (by decide +kernel)⟩
theorem lw_p31 : lw_okq (⟨"CinemaClock", "jumpOver", "(II)V"⟩, 20) := ⟨⟨by decide +kernel, by decide +kernel⟩, List.mem_of_getElem? (i := 12) (by decide +kernel), List.mem_of_getElem? (i := 612) (by decide +kernel), List.mem_of_getElem? (i := 613) (by decide +kernel)⟩
def lw_privs_2 : List (MethodName × Nat) := [(⟨"CinemaClock", "pauseAgain", "(LCinemaClock$Task;)V"⟩, 20), (⟨"CinemaClock", "bringDues", "()V"⟩, 20), (⟨"CinemaClock", "isDueByKind", "(LCinemaClock$Task;I)Z"⟩, 20), (⟨"CinemaClock$Calendar", "minuteFits", "(I)Z"⟩, 8), (⟨"CinemaClock$Calendar", "hourFits", "(I)Z"⟩, 8), (⟨"CinemaClock$Calendar", "dayFits", "(I)Z"⟩, 8), (⟨"CinemaClock", "missDues", "()V"⟩, 20), (⟨"CinemaClock", "isMissed", "(LCinemaClock$Task;I)Z"⟩, 20), (⟨"CinemaClock", "missDue", "(LCinemaClock$Task;I)I"⟩, 20), (⟨"CinemaClock", "beginRuns", "()V"⟩, 20), (⟨"CinemaClock", "freeWorker", "()I"⟩, 20), (⟨"CinemaClock", "firstToBegin", "()I"⟩, 20), (⟨"CinemaClock", "mayBegin", "(LCinemaClock$Task;)Z"⟩, 20), (⟨"CinemaClock", "workIn", "(I)I"⟩, 20), (⟨"CinemaClock", "beginRun", "(II)V"⟩, 20), (⟨"CinemaClock", "jumpOver", "(II)V"⟩, 20)]
theorem lw_r2 : ∀ q ∈ lw_privs_2, lw_okq q := List.forall_mem_cons.mpr ⟨lw_p16, List.forall_mem_cons.mpr ⟨lw_p17, List.forall_mem_cons.mpr ⟨lw_p18, List.forall_mem_cons.mpr ⟨lw_p19, List.forall_mem_cons.mpr ⟨lw_p20, List.forall_mem_cons.mpr ⟨lw_p21, List.forall_mem_cons.mpr ⟨lw_p22, List.forall_mem_cons.mpr ⟨lw_p23, List.forall_mem_cons.mpr ⟨lw_p24, List.forall_mem_cons.mpr ⟨lw_p25, List.forall_mem_cons.mpr ⟨lw_p26, List.forall_mem_cons.mpr ⟨lw_p27, List.forall_mem_cons.mpr ⟨lw_p28, List.forall_mem_cons.mpr ⟨lw_p29, List.forall_mem_cons.mpr ⟨lw_p30, List.forall_mem_cons.mpr ⟨lw_p31, fun _ h => absurd h List.not_mem_nil⟩⟩⟩⟩⟩⟩⟩⟩⟩⟩⟩⟩⟩⟩⟩⟩
theorem lw_p32 : lw_okq (⟨"CinemaClock", "missJumped", "(LCinemaClock$Task;II)V"⟩, 20) := ⟨⟨by decide +kernel, by decide +kernel⟩, List.mem_of_getElem? (i := 12) (by decide +kernel), List.mem_of_getElem? (i := 616) (by decide +kernel), List.mem_of_getElem? (i := 617) (by decide +kernel)⟩
theorem lw_p33 : lw_okq (⟨"CinemaClock", "interruptRuns", "(LCinemaClock$Task;)V"⟩, 20) := ⟨⟨by decide +kernel, by decide +kernel⟩, List.mem_of_getElem? (i := 12) (by decide +kernel), List.mem_of_getElem? (i := 630) (by decide +kernel), List.mem_of_getElem? (i := 631) (by decide +kernel)⟩
theorem lw_p34 : lw_okq (⟨"CinemaClock", "firstAtWork", "(LCinemaClock$Task;)LCinemaClock$Run;"⟩, 20) := ⟨⟨by decide +kernel, by decide +kernel⟩, List.mem_of_getElem? (i := 12) (by decide +kernel), List.mem_of_getElem? (i := 634) (by decide +kernel), List.mem_of_getElem? (i := 635) (by decide +kernel)⟩
theorem lw_p35 : lw_okq (⟨"CinemaClock", "dropDues", "()V"⟩, 20) := ⟨⟨by decide +kernel, by decide +kernel⟩, List.mem_of_getElem? (i := 12) (by decide +kernel), List.mem_of_getElem? (i := 642) (by decide +kernel), List.mem_of_getElem? (i := 643) (by decide +kernel)⟩
theorem lw_p36 : lw_okq (⟨"CinemaClock", "stateOf", "(LCinemaClock$Task;)I"⟩, 20) := ⟨⟨by decide +kernel, by decide +kernel⟩, List.mem_of_getElem? (i := 12) (by decide +kernel), List.mem_of_getElem? (i := 662) (by decide +kernel), List.mem_of_getElem? (i := 663) (by decide +kernel)⟩
theorem lw_p37 : lw_okq (⟨"CinemaClock", "dueMinute", "(LCinemaClock$Task;I)I"⟩, 20) := ⟨⟨by decide +kernel, by decide +kernel⟩, List.mem_of_getElem? (i := 12) (by decide +kernel), List.mem_of_getElem? (i := 670) (by decide +kernel), List.mem_of_getElem? (i := 671) (by decide +kernel)⟩
theorem lw_p38 : lw_okq (⟨"CinemaClock", "calendarMinute", "(LCinemaClock$Calendar;I)I"⟩, 20) := ⟨⟨by decide +kernel, by decide +kernel⟩, List.mem_of_getElem? (i := 12) (by decide +kernel), List.mem_of_getElem? (i := 679) (by decide +kernel), List.mem_of_getElem? (i := 680) (by decide +kernel)⟩
theorem lw_p39 : lw_okq (⟨"CinemaClockModel", "treat", "(I)V"⟩, 67) := ⟨⟨by decide +kernel, by decide +kernel⟩, List.mem_of_getElem? (i := 718) (by decide +kernel), List.mem_of_getElem? (i := 931) (by decide +kernel), List.mem_of_getElem? (i := 932) (by decide +kernel)⟩
theorem lw_p40 : lw_okq (⟨"CinemaClockModel", "ends", "(II)V"⟩, 67) := ⟨⟨by decide +kernel, by decide +kernel⟩, List.mem_of_getElem? (i := 718) (by decide +kernel), List.mem_of_getElem? (i := 935) (by decide +kernel), List.mem_of_getElem? (i := 936) (by decide +kernel)⟩
theorem lw_p41 : lw_okq (⟨"CinemaClockModel", "planned", "(II)I"⟩, 67) := ⟨⟨by decide +kernel, by decide +kernel⟩, List.mem_of_getElem? (i := 718) (by decide +kernel), List.mem_of_getElem? (i := 939) (by decide +kernel), List.mem_of_getElem? (i := 940) (by decide +kernel)⟩
theorem lw_p42 : lw_okq (⟨"CinemaClockModel", "does", "(III)I"⟩, 67) := ⟨⟨by decide +kernel, by decide +kernel⟩, List.mem_of_getElem? (i := 718) (by decide +kernel), List.mem_of_getElem? (i := 943) (by decide +kernel), List.mem_of_getElem? (i := 944) (by decide +kernel)⟩
theorem lw_p43 : lw_okq (⟨"CinemaClockModel", "isTask", "(I)Z"⟩, 67) := ⟨⟨by decide +kernel, by decide +kernel⟩, List.mem_of_getElem? (i := 718) (by decide +kernel), List.mem_of_getElem? (i := 947) (by decide +kernel), List.mem_of_getElem? (i := 948) (by decide +kernel)⟩
theorem lw_p44 : lw_okq (⟨"CinemaClockModel", "isActive", "(I)Z"⟩, 67) := ⟨⟨by decide +kernel, by decide +kernel⟩, List.mem_of_getElem? (i := 718) (by decide +kernel), List.mem_of_getElem? (i := 954) (by decide +kernel), List.mem_of_getElem? (i := 955) (by decide +kernel)⟩
theorem lw_p45 : lw_okq (⟨"CinemaClockModel", "dropDues", "(I)V"⟩, 67) := ⟨⟨by decide +kernel, by decide +kernel⟩, List.mem_of_getElem? (i := 718) (by decide +kernel), List.mem_of_getElem? (i := 958) (by decide +kernel), List.mem_of_getElem? (i := 959) (by decide +kernel)⟩
theorem lw_p46 : lw_okq (⟨"CinemaClockModel", "takeDue", "(I)V"⟩, 67) := ⟨⟨by decide +kernel, by decide +kernel⟩, List.mem_of_getElem? (i := 718) (by decide +kernel), List.mem_of_getElem? (i := 962) (by decide +kernel), List.mem_of_getElem? (i := 963) (by decide +kernel)⟩
theorem lw_p47 : lw_okq (⟨"CinemaClockModel", "frees", "(III)V"⟩, 67) := ⟨⟨by decide +kernel, by decide +kernel⟩, List.mem_of_getElem? (i := 718) (by decide +kernel), List.mem_of_getElem? (i := 966) (by decide +kernel), List.mem_of_getElem? (i := 967) (by decide +kernel)⟩
def lw_privs_3 : List (MethodName × Nat) := [(⟨"CinemaClock", "missJumped", "(LCinemaClock$Task;II)V"⟩, 20), (⟨"CinemaClock", "interruptRuns", "(LCinemaClock$Task;)V"⟩, 20), (⟨"CinemaClock", "firstAtWork", "(LCinemaClock$Task;)LCinemaClock$Run;"⟩, 20), (⟨"CinemaClock", "dropDues", "()V"⟩, 20), (⟨"CinemaClock", "stateOf", "(LCinemaClock$Task;)I"⟩, 20), (⟨"CinemaClock", "dueMinute", "(LCinemaClock$Task;I)I"⟩, 20), (⟨"CinemaClock", "calendarMinute", "(LCinemaClock$Calendar;I)I"⟩, 20), (⟨"CinemaClockModel", "treat", "(I)V"⟩, 67), (⟨"CinemaClockModel", "ends", "(II)V"⟩, 67), (⟨"CinemaClockModel", "planned", "(II)I"⟩, 67), (⟨"CinemaClockModel", "does", "(III)I"⟩, 67), (⟨"CinemaClockModel", "isTask", "(I)Z"⟩, 67), (⟨"CinemaClockModel", "isActive", "(I)Z"⟩, 67), (⟨"CinemaClockModel", "dropDues", "(I)V"⟩, 67), (⟨"CinemaClockModel", "takeDue", "(I)V"⟩, 67), (⟨"CinemaClockModel", "frees", "(III)V"⟩, 67)]
theorem lw_r3 : ∀ q ∈ lw_privs_3, lw_okq q := List.forall_mem_cons.mpr ⟨lw_p32, List.forall_mem_cons.mpr ⟨lw_p33, List.forall_mem_cons.mpr ⟨lw_p34, List.forall_mem_cons.mpr ⟨lw_p35, List.forall_mem_cons.mpr ⟨lw_p36, List.forall_mem_cons.mpr ⟨lw_p37, List.forall_mem_cons.mpr ⟨lw_p38, List.forall_mem_cons.mpr ⟨lw_p39, List.forall_mem_cons.mpr ⟨lw_p40, List.forall_mem_cons.mpr ⟨lw_p41, List.forall_mem_cons.mpr ⟨lw_p42, List.forall_mem_cons.mpr ⟨lw_p43, List.forall_mem_cons.mpr ⟨lw_p44, List.forall_mem_cons.mpr ⟨lw_p45, List.forall_mem_cons.mpr ⟨lw_p46, List.forall_mem_cons.mpr ⟨lw_p47, fun _ h => absurd h List.not_mem_nil⟩⟩⟩⟩⟩⟩⟩⟩⟩⟩⟩⟩⟩⟩⟩⟩
theorem lw_p48 : lw_okq (⟨"CinemaClockModel", "failed", "(II)V"⟩, 67) := ⟨⟨by decide +kernel, by decide +kernel⟩, List.mem_of_getElem? (i := 718) (by decide +kernel), List.mem_of_getElem? (i := 970) (by decide +kernel), List.mem_of_getElem? (i := 971) (by decide +kernel)⟩
theorem lw_p49 : lw_okq (⟨"CinemaClockModel", "notes", "(IZI)V"⟩, 67) := ⟨⟨by decide +kernel, by decide +kernel⟩, List.mem_of_getElem? (i := 718) (by decide +kernel), List.mem_of_getElem? (i := 974) (by decide +kernel), List.mem_of_getElem? (i := 975) (by decide +kernel)⟩
theorem lw_p50 : lw_okq (⟨"CinemaClockModel", "comes", "(II)V"⟩, 67) := ⟨⟨by decide +kernel, by decide +kernel⟩, List.mem_of_getElem? (i := 718) (by decide +kernel), List.mem_of_getElem? (i := 978) (by decide +kernel), List.mem_of_getElem? (i := 979) (by decide +kernel)⟩
theorem lw_p51 : lw_okq (⟨"CinemaClockModel", "books", "(III)V"⟩, 67) := ⟨⟨by decide +kernel, by decide +kernel⟩, List.mem_of_getElem? (i := 718) (by decide +kernel), List.mem_of_getElem? (i := 982) (by decide +kernel), List.mem_of_getElem? (i := 983) (by decide +kernel)⟩
theorem lw_p52 : lw_okq (⟨"CinemaClockModel", "dueGone", "(II)V"⟩, 67) := ⟨⟨by decide +kernel, by decide +kernel⟩, List.mem_of_getElem? (i := 718) (by decide +kernel), List.mem_of_getElem? (i := 986) (by decide +kernel), List.mem_of_getElem? (i := 987) (by decide +kernel)⟩
theorem lw_p53 : lw_okq (⟨"CinemaClockModel", "isRunning", "(I)Z"⟩, 67) := ⟨⟨by decide +kernel, by decide +kernel⟩, List.mem_of_getElem? (i := 718) (by decide +kernel), List.mem_of_getElem? (i := 990) (by decide +kernel), List.mem_of_getElem? (i := 991) (by decide +kernel)⟩
theorem lw_p54 : lw_okq (⟨"CinemaClockModel", "isDue", "(II)Z"⟩, 67) := ⟨⟨by decide +kernel, by decide +kernel⟩, List.mem_of_getElem? (i := 718) (by decide +kernel), List.mem_of_getElem? (i := 994) (by decide +kernel), List.mem_of_getElem? (i := 995) (by decide +kernel)⟩
theorem lw_p55 : lw_okq (⟨"CinemaClockModel", "fits", "(II)Z"⟩, 67) := ⟨⟨by decide +kernel, by decide +kernel⟩, List.mem_of_getElem? (i := 718) (by decide +kernel), List.mem_of_getElem? (i := 998) (by decide +kernel), List.mem_of_getElem? (i := 999) (by decide +kernel)⟩
theorem lw_p56 : lw_okq (⟨"CinemaClockModel", "fitsMinute", "(II)Z"⟩, 67) := ⟨⟨by decide +kernel, by decide +kernel⟩, List.mem_of_getElem? (i := 718) (by decide +kernel), List.mem_of_getElem? (i := 1002) (by decide +kernel), List.mem_of_getElem? (i := 1003) (by decide +kernel)⟩
theorem lw_p57 : lw_okq (⟨"CinemaClockModel", "look", "(I)V"⟩, 67) := ⟨⟨by decide +kernel, by decide +kernel⟩, List.mem_of_getElem? (i := 718) (by decide +kernel), List.mem_of_getElem? (i := 1006) (by decide +kernel), List.mem_of_getElem? (i := 1007) (by decide +kernel)⟩
theorem lw_p58 : lw_okq (⟨"CinemaClockModel", "fitsDay", "(I)Z"⟩, 67) := ⟨⟨by decide +kernel, by decide +kernel⟩, List.mem_of_getElem? (i := 718) (by decide +kernel), List.mem_of_getElem? (i := 1013) (by decide +kernel), List.mem_of_getElem? (i := 1014) (by decide +kernel)⟩
theorem lw_p59 : lw_okq (⟨"CinemaClockModel", "misses", "(I)V"⟩, 67) := ⟨⟨by decide +kernel, by decide +kernel⟩, List.mem_of_getElem? (i := 718) (by decide +kernel), List.mem_of_getElem? (i := 1017) (by decide +kernel), List.mem_of_getElem? (i := 1018) (by decide +kernel)⟩
theorem lw_p60 : lw_okq (⟨"CinemaClockModel", "duesOf", "(I)I"⟩, 67) := ⟨⟨by decide +kernel, by decide +kernel⟩, List.mem_of_getElem? (i := 718) (by decide +kernel), List.mem_of_getElem? (i := 1021) (by decide +kernel), List.mem_of_getElem? (i := 1022) (by decide +kernel)⟩
theorem lw_p61 : lw_okq (⟨"CinemaClockModel", "begins", "(I)Z"⟩, 67) := ⟨⟨by decide +kernel, by decide +kernel⟩, List.mem_of_getElem? (i := 718) (by decide +kernel), List.mem_of_getElem? (i := 1025) (by decide +kernel), List.mem_of_getElem? (i := 1026) (by decide +kernel)⟩
theorem lw_p62 : lw_okq (⟨"CinemaClockModel", "atWork", "()I"⟩, 67) := ⟨⟨by decide +kernel, by decide +kernel⟩, List.mem_of_getElem? (i := 718) (by decide +kernel), List.mem_of_getElem? (i := 1029) (by decide +kernel), List.mem_of_getElem? (i := 1030) (by decide +kernel)⟩
theorem lw_p63 : lw_okq (⟨"CinemaClockModel", "canBegin", "(I)Z"⟩, 67) := ⟨⟨by decide +kernel, by decide +kernel⟩, List.mem_of_getElem? (i := 718) (by decide +kernel), List.mem_of_getElem? (i := 1033) (by decide +kernel), List.mem_of_getElem? (i := 1034) (by decide +kernel)⟩
def lw_privs_4 : List (MethodName × Nat) := [(⟨"CinemaClockModel", "failed", "(II)V"⟩, 67), (⟨"CinemaClockModel", "notes", "(IZI)V"⟩, 67), (⟨"CinemaClockModel", "comes", "(II)V"⟩, 67), (⟨"CinemaClockModel", "books", "(III)V"⟩, 67), (⟨"CinemaClockModel", "dueGone", "(II)V"⟩, 67), (⟨"CinemaClockModel", "isRunning", "(I)Z"⟩, 67), (⟨"CinemaClockModel", "isDue", "(II)Z"⟩, 67), (⟨"CinemaClockModel", "fits", "(II)Z"⟩, 67), (⟨"CinemaClockModel", "fitsMinute", "(II)Z"⟩, 67), (⟨"CinemaClockModel", "look", "(I)V"⟩, 67), (⟨"CinemaClockModel", "fitsDay", "(I)Z"⟩, 67), (⟨"CinemaClockModel", "misses", "(I)V"⟩, 67), (⟨"CinemaClockModel", "duesOf", "(I)I"⟩, 67), (⟨"CinemaClockModel", "begins", "(I)Z"⟩, 67), (⟨"CinemaClockModel", "atWork", "()I"⟩, 67), (⟨"CinemaClockModel", "canBegin", "(I)Z"⟩, 67)]
theorem lw_r4 : ∀ q ∈ lw_privs_4, lw_okq q := List.forall_mem_cons.mpr ⟨lw_p48, List.forall_mem_cons.mpr ⟨lw_p49, List.forall_mem_cons.mpr ⟨lw_p50, List.forall_mem_cons.mpr ⟨lw_p51, List.forall_mem_cons.mpr ⟨lw_p52, List.forall_mem_cons.mpr ⟨lw_p53, List.forall_mem_cons.mpr ⟨lw_p54, List.forall_mem_cons.mpr ⟨lw_p55, List.forall_mem_cons.mpr ⟨lw_p56, List.forall_mem_cons.mpr ⟨lw_p57, List.forall_mem_cons.mpr ⟨lw_p58, List.forall_mem_cons.mpr ⟨lw_p59, List.forall_mem_cons.mpr ⟨lw_p60, List.forall_mem_cons.mpr ⟨lw_p61, List.forall_mem_cons.mpr ⟨lw_p62, List.forall_mem_cons.mpr ⟨lw_p63, fun _ h => absurd h List.not_mem_nil⟩⟩⟩⟩⟩⟩⟩⟩⟩⟩⟩⟩⟩⟩⟩⟩
theorem lw_p64 : lw_okq (⟨"CinemaClockModel", "loadOf", "(I)I"⟩, 67) := ⟨⟨by decide +kernel, by decide +kernel⟩, List.mem_of_getElem? (i := 718) (by decide +kernel), List.mem_of_getElem? (i := 1037) (by decide +kernel), List.mem_of_getElem? (i := 1038) (by decide +kernel)⟩
theorem lw_p65 : lw_okq (⟨"CinemaClockModel", "isAhead", "(II)Z"⟩, 67) := ⟨⟨by decide +kernel, by decide +kernel⟩, List.mem_of_getElem? (i := 718) (by decide +kernel), List.mem_of_getElem? (i := 1041) (by decide +kernel), List.mem_of_getElem? (i := 1042) (by decide +kernel)⟩
theorem lw_p66 : lw_okq (⟨"CinemaClockModel", "leads", "(II)Z"⟩, 67) := ⟨⟨by decide +kernel, by decide +kernel⟩, List.mem_of_getElem? (i := 718) (by decide +kernel), List.mem_of_getElem? (i := 1077) (by decide +kernel), List.mem_of_getElem? (i := 1078) (by decide +kernel)⟩
theorem lw_p67 : lw_okq (⟨"CinemaClockModel", "interrupts", "(IZ)V"⟩, 67) := ⟨⟨by decide +kernel, by decide +kernel⟩, List.mem_of_getElem? (i := 718) (by decide +kernel), List.mem_of_getElem? (i := 1097) (by decide +kernel), List.mem_of_getElem? (i := 1098) (by decide +kernel)⟩
theorem lw_p68 : lw_okq (⟨"CinemaClockModel", "dueFrom", "(II)I"⟩, 67) := ⟨⟨by decide +kernel, by decide +kernel⟩, List.mem_of_getElem? (i := 718) (by decide +kernel), List.mem_of_getElem? (i := 1121) (by decide +kernel), List.mem_of_getElem? (i := 1122) (by decide +kernel)⟩
theorem lw_p69 : lw_okq (⟨"CinemaClockModel", "calendarFrom", "(II)I"⟩, 67) := ⟨⟨by decide +kernel, by decide +kernel⟩, List.mem_of_getElem? (i := 718) (by decide +kernel), List.mem_of_getElem? (i := 1125) (by decide +kernel), List.mem_of_getElem? (i := 1126) (by decide +kernel)⟩
theorem lw_p70 : lw_okq (⟨"CinemaClockModel", "hasMinute", "(I)Z"⟩, 67) := ⟨⟨by decide +kernel, by decide +kernel⟩, List.mem_of_getElem? (i := 718) (by decide +kernel), List.mem_of_getElem? (i := 1129) (by decide +kernel), List.mem_of_getElem? (i := 1130) (by decide +kernel)⟩
def lw_privs_5 : List (MethodName × Nat) := [(⟨"CinemaClockModel", "loadOf", "(I)I"⟩, 67), (⟨"CinemaClockModel", "isAhead", "(II)Z"⟩, 67), (⟨"CinemaClockModel", "leads", "(II)Z"⟩, 67), (⟨"CinemaClockModel", "interrupts", "(IZ)V"⟩, 67), (⟨"CinemaClockModel", "dueFrom", "(II)I"⟩, 67), (⟨"CinemaClockModel", "calendarFrom", "(II)I"⟩, 67), (⟨"CinemaClockModel", "hasMinute", "(I)Z"⟩, 67)]
theorem lw_r5 : ∀ q ∈ lw_privs_5, lw_okq q := List.forall_mem_cons.mpr ⟨lw_p64, List.forall_mem_cons.mpr ⟨lw_p65, List.forall_mem_cons.mpr ⟨lw_p66, List.forall_mem_cons.mpr ⟨lw_p67, List.forall_mem_cons.mpr ⟨lw_p68, List.forall_mem_cons.mpr ⟨lw_p69, List.forall_mem_cons.mpr ⟨lw_p70, fun _ h => absurd h List.not_mem_nil⟩⟩⟩⟩⟩⟩⟩
def lw_privs : List (MethodName × Nat) := lw_privs_1 ++ (lw_privs_2 ++ (lw_privs_3 ++ (lw_privs_4 ++ (lw_privs_5))))
def lw_tbl : List Cond := k2_sels lw_privs ++ tables_1
theorem lw_privs_ok : ∀ q ∈ lw_privs, lw_okq q := by
  show ∀ q ∈ lw_privs_1 ++ (lw_privs_2 ++ (lw_privs_3 ++ (lw_privs_4 ++ (lw_privs_5)))), lw_okq q
  exact List.forall_mem_append.mpr ⟨lw_r1, List.forall_mem_append.mpr ⟨lw_r2, List.forall_mem_append.mpr ⟨lw_r3, List.forall_mem_append.mpr ⟨lw_r4, lw_r5⟩⟩⟩⟩
def RX0 : String := "CinemaClock$Book"
def TX0 : u_T := fun k => match k with
  | 0 => ("CinemaClock$Book", "task", "[I", true)
  | 1 => ("CinemaClock$Book", "minute", "[I", true)
  | 2 => ("CinemaClock$Book", "fate", "[I", true)
  | _ => ("CinemaClock$Book", "rows", "I", false)
def tyX0 : Nat → FieldType := fun k => match k with
  | 0 => .array .int
  | 1 => .array .int
  | 2 => .array .int
  | _ => .int
theorem nmX0 : ∀ a, a < 4 → ∀ b, b < 4 → a ≠ b → (TX0 a).2.1 ≠ (TX0 b).2.1 := by decide +kernel
theorem tyX0_ok : ∀ k, k < 4 → parseFieldDescriptor (TX0 k).2.2.1 = some (tyX0 k) := by decide +kernel
def RX1 : String := "CinemaClock$Calendar"
def TX1 : u_T := fun k => match k with
  | 0 => ("CinemaClock$Calendar", "forms", "I", false)
  | 1 => ("CinemaClock$Calendar", "minutes", "J", false)
  | 2 => ("CinemaClock$Calendar", "hours", "I", false)
  | 3 => ("CinemaClock$Calendar", "weekdays", "I", false)
  | 4 => ("CinemaClock$Calendar", "days", "I", false)
  | 5 => ("CinemaClock$Calendar", "weeks", "I", false)
  | 6 => ("CinemaClock$Calendar", "months", "I", false)
  | _ => ("CinemaClock$Calendar", "lastDayAlone", "Z", false)
def tyX1 : Nat → FieldType := fun k => match k with
  | 0 => .int
  | 1 => .long
  | 2 => .int
  | 3 => .int
  | 4 => .int
  | 5 => .int
  | 6 => .int
  | _ => .boolean
theorem nmX1 : ∀ a, a < 8 → ∀ b, b < 8 → a ≠ b → (TX1 a).2.1 ≠ (TX1 b).2.1 := by decide +kernel
theorem tyX1_ok : ∀ k, k < 8 → parseFieldDescriptor (TX1 k).2.2.1 = some (tyX1 k) := by decide +kernel
def RX2 : String := "CinemaClock$Dues"
def TX2 : u_T := fun k => match k with
  | 0 => ("CinemaClock$Dues", "task", "[LCinemaClock$Task;", true)
  | 1 => ("CinemaClock$Dues", "minute", "[I", true)
  | 2 => ("CinemaClock$Dues", "late", "[Z", true)
  | _ => ("CinemaClock$Dues", "count", "I", false)
def tyX2 : Nat → FieldType := fun k => match k with
  | 0 => .array (.object "CinemaClock$Task")
  | 1 => .array .int
  | 2 => .array .boolean
  | _ => .int
theorem nmX2 : ∀ a, a < 4 → ∀ b, b < 4 → a ≠ b → (TX2 a).2.1 ≠ (TX2 b).2.1 := by decide +kernel
theorem tyX2_ok : ∀ k, k < 4 → parseFieldDescriptor (TX2 k).2.2.1 = some (tyX2 k) := by decide +kernel
def RX3 : String := "CinemaClock$Notes"
def TX3 : u_T := fun k => match k with
  | 0 => ("CinemaClock$Notes", "other", "[I", true)
  | 1 => ("CinemaClock$Notes", "how", "[I", true)
  | _ => ("CinemaClock$Notes", "count", "I", false)
def tyX3 : Nat → FieldType := fun k => match k with
  | 0 => .array .int
  | 1 => .array .int
  | _ => .int
theorem nmX3 : ∀ a, a < 3 → ∀ b, b < 3 → a ≠ b → (TX3 a).2.1 ≠ (TX3 b).2.1 := by decide +kernel
theorem tyX3_ok : ∀ k, k < 3 → parseFieldDescriptor (TX3 k).2.2.1 = some (tyX3 k) := by decide +kernel
def RX4 : String := "CinemaClock$Plans"
def TX4 : u_T := fun k => match k with
  | 0 => ("CinemaClock$Plans", "task", "[I", true)
  | 1 => ("CinemaClock$Plans", "time", "[I", true)
  | 2 => ("CinemaClock$Plans", "kind", "[I", true)
  | _ => ("CinemaClock$Plans", "count", "I", false)
def tyX4 : Nat → FieldType := fun k => match k with
  | 0 => .array .int
  | 1 => .array .int
  | 2 => .array .int
  | _ => .int
theorem nmX4 : ∀ a, a < 4 → ∀ b, b < 4 → a ≠ b → (TX4 a).2.1 ≠ (TX4 b).2.1 := by decide +kernel
theorem tyX4_ok : ∀ k, k < 4 → parseFieldDescriptor (TX4 k).2.2.1 = some (tyX4 k) := by decide +kernel
def RX5 : String := "CinemaClock$Run"
def TX5 : u_T := fun k => match k with
  | 0 => ("CinemaClock$Run", "number", "I", true)
  | 1 => ("CinemaClock$Run", "task", "LCinemaClock$Task;", true)
  | 2 => ("CinemaClock$Run", "time", "I", true)
  | 3 => ("CinemaClock$Run", "dueMinute", "I", true)
  | 4 => ("CinemaClock$Run", "began", "I", true)
  | 5 => ("CinemaClock$Run", "end", "I", true)
  | 6 => ("CinemaClock$Run", "worker", "I", true)
  | 7 => ("CinemaClock$Run", "group", "I", true)
  | 8 => ("CinemaClock$Run", "ended", "I", false)
  | 9 => ("CinemaClock$Run", "outcome", "I", false)
  | _ => ("CinemaClock$Run", "failure", "I", false)
def tyX5 : Nat → FieldType := fun k => match k with
  | 0 => .int
  | 1 => .object "CinemaClock$Task"
  | 2 => .int
  | 3 => .int
  | 4 => .int
  | 5 => .int
  | 6 => .int
  | 7 => .int
  | 8 => .int
  | 9 => .int
  | _ => .int
theorem nmX5 : ∀ a, a < 11 → ∀ b, b < 11 → a ≠ b → (TX5 a).2.1 ≠ (TX5 b).2.1 := by decide +kernel
theorem tyX5_ok : ∀ k, k < 11 → parseFieldDescriptor (TX5 k).2.2.1 = some (tyX5 k) := by decide +kernel
def RX6 : String := "CinemaClock$Task"
def TX6 : u_T := fun k => match k with
  | 0 => ("CinemaClock$Task", "number", "I", true)
  | 1 => ("CinemaClock$Task", "kind", "I", true)
  | 2 => ("CinemaClock$Task", "a", "I", true)
  | 3 => ("CinemaClock$Task", "b", "I", true)
  | 4 => ("CinemaClock$Task", "told", "[I", true)
  | 5 => ("CinemaClock$Task", "calendar", "LCinemaClock$Calendar;", true)
  | 6 => ("CinemaClock$Task", "notes", "LCinemaClock$Notes;", true)
  | 7 => ("CinemaClock$Task", "act", "I", false)
  | 8 => ("CinemaClock$Task", "x", "I", false)
  | 9 => ("CinemaClock$Task", "y", "I", false)
  | 10 => ("CinemaClock$Task", "state", "I", false)
  | 11 => ("CinemaClock$Task", "nextDue", "I", false)
  | 12 => ("CinemaClock$Task", "restsTill", "I", false)
  | 13 => ("CinemaClock$Task", "failures", "I", false)
  | 14 => ("CinemaClock$Task", "began", "I", false)
  | 15 => ("CinemaClock$Task", "working", "I", false)
  | 16 => ("CinemaClock$Task", "waits", "I", false)
  | 17 => ("CinemaClock$Task", "skipped", "I", false)
  | 18 => ("CinemaClock$Task", "firedFor", "I", false)
  | _ => ("CinemaClock$Task", "firedBefore", "I", false)
def tyX6 : Nat → FieldType := fun k => match k with
  | 0 => .int
  | 1 => .int
  | 2 => .int
  | 3 => .int
  | 4 => .array .int
  | 5 => .object "CinemaClock$Calendar"
  | 6 => .object "CinemaClock$Notes"
  | 7 => .int
  | 8 => .int
  | 9 => .int
  | 10 => .int
  | 11 => .int
  | 12 => .int
  | 13 => .int
  | 14 => .int
  | 15 => .int
  | 16 => .int
  | 17 => .int
  | 18 => .int
  | _ => .int
theorem nmX6 : ∀ a, a < 20 → ∀ b, b < 20 → a ≠ b → (TX6 a).2.1 ≠ (TX6 b).2.1 := by decide +kernel
theorem tyX6_ok : ∀ k, k < 20 → parseFieldDescriptor (TX6 k).2.2.1 = some (tyX6 k) := by decide +kernel
def RX7 : String := "CinemaClock"
def TX7 : u_T := fun k => match k with
  | 0 => ("CinemaClock", "tasks", "[LCinemaClock$Task;", true)
  | 1 => ("CinemaClock", "runs", "[LCinemaClock$Run;", true)
  | 2 => ("CinemaClock", "atWork", "[LCinemaClock$Run;", true)
  | 3 => ("CinemaClock", "dues", "LCinemaClock$Dues;", true)
  | 4 => ("CinemaClock", "book", "LCinemaClock$Book;", true)
  | 5 => ("CinemaClock", "plans", "LCinemaClock$Plans;", true)
  | 6 => ("CinemaClock", "groupMost", "[I", true)
  | 7 => ("CinemaClock", "idleMinutes", "[I", true)
  | 8 => ("CinemaClock", "busy", "[Z", true)
  | 9 => ("CinemaClock", "cells", "[I", true)
  | 10 => ("CinemaClock", "chain", "[I", true)
  | 11 => ("CinemaClock", "taskCount", "I", false)
  | 12 => ("CinemaClock", "runCount", "I", false)
  | 13 => ("CinemaClock", "workCount", "I", false)
  | 14 => ("CinemaClock", "groupCount", "I", false)
  | 15 => ("CinemaClock", "workerCount", "I", false)
  | 16 => ("CinemaClock", "now", "I", false)
  | 17 => ("CinemaClock", "offset", "I", false)
  | 18 => ("CinemaClock", "high", "I", false)
  | _ => ("CinemaClock", "houseStopped", "Z", false)
def tyX7 : Nat → FieldType := fun k => match k with
  | 0 => .array (.object "CinemaClock$Task")
  | 1 => .array (.object "CinemaClock$Run")
  | 2 => .array (.object "CinemaClock$Run")
  | 3 => .object "CinemaClock$Dues"
  | 4 => .object "CinemaClock$Book"
  | 5 => .object "CinemaClock$Plans"
  | 6 => .array .int
  | 7 => .array .int
  | 8 => .array .boolean
  | 9 => .array .int
  | 10 => .array .int
  | 11 => .int
  | 12 => .int
  | 13 => .int
  | 14 => .int
  | 15 => .int
  | 16 => .int
  | 17 => .int
  | 18 => .int
  | _ => .boolean
theorem nmX7 : ∀ a, a < 20 → ∀ b, b < 20 → a ≠ b → (TX7 a).2.1 ≠ (TX7 b).2.1 := by decide +kernel
theorem tyX7_ok : ∀ k, k < 20 → parseFieldDescriptor (TX7 k).2.2.1 = some (tyX7 k) := by decide +kernel
def RX8 : String := "CinemaClockModel"
def TX8 : u_T := fun k => match k with
  | 0 => ("CinemaClockModel", "now", "I", false)
  | 1 => ("CinemaClockModel", "offset", "I", false)
  | 2 => ("CinemaClockModel", "high", "I", false)
  | 3 => ("CinemaClockModel", "stopped", "Z", false)
  | 4 => ("CinemaClockModel", "workers", "I", false)
  | 5 => ("CinemaClockModel", "worker", "[I", true)
  | 6 => ("CinemaClockModel", "idle", "[I", true)
  | 7 => ("CinemaClockModel", "groups", "I", false)
  | 8 => ("CinemaClockModel", "most", "[I", true)
  | 9 => ("CinemaClockModel", "tasks", "I", false)
  | 10 => ("CinemaClockModel", "kind", "[I", true)
  | 11 => ("CinemaClockModel", "first", "[I", true)
  | 12 => ("CinemaClockModel", "gap", "[I", true)
  | 13 => ("CinemaClockModel", "length", "[I", true)
  | 14 => ("CinemaClockModel", "rank", "[I", true)
  | 15 => ("CinemaClockModel", "group", "[I", true)
  | 16 => ("CinemaClockModel", "overlap", "[I", true)
  | 17 => ("CinemaClockModel", "miss", "[I", true)
  | 18 => ("CinemaClockModel", "fail", "[I", true)
  | 19 => ("CinemaClockModel", "act", "[I", true)
  | 20 => ("CinemaClockModel", "actX", "[I", true)
  | 21 => ("CinemaClockModel", "actY", "[I", true)
  | 22 => ("CinemaClockModel", "left", "[I", true)
  | 23 => ("CinemaClockModel", "dueNext", "[I", true)
  | 24 => ("CinemaClockModel", "skipped", "[I", true)
  | 25 => ("CinemaClockModel", "inRow", "[I", true)
  | 26 => ("CinemaClockModel", "restsTill", "[I", true)
  | 27 => ("CinemaClockModel", "began", "[I", true)
  | 28 => ("CinemaClockModel", "fired", "[Z", true)
  | 29 => ("CinemaClockModel", "firedNext", "[Z", true)
  | 30 => ("CinemaClockModel", "forms", "[I", true)
  | 31 => ("CinemaClockModel", "form", "[I", true)
  | 32 => ("CinemaClockModel", "formA", "[I", true)
  | 33 => ("CinemaClockModel", "formB", "[I", true)
  | 34 => ("CinemaClockModel", "notes", "[I", true)
  | 35 => ("CinemaClockModel", "noteOf", "[I", true)
  | 36 => ("CinemaClockModel", "noteHow", "[I", true)
  | 37 => ("CinemaClockModel", "plans", "I", false)
  | 38 => ("CinemaClockModel", "planTask", "[I", true)
  | 39 => ("CinemaClockModel", "planTime", "[I", true)
  | 40 => ("CinemaClockModel", "planKind", "[I", true)
  | 41 => ("CinemaClockModel", "cells", "[I", true)
  | 42 => ("CinemaClockModel", "runs", "I", false)
  | 43 => ("CinemaClockModel", "runTask", "[I", true)
  | 44 => ("CinemaClockModel", "runDue", "[I", true)
  | 45 => ("CinemaClockModel", "runFrom", "[I", true)
  | 46 => ("CinemaClockModel", "runTo", "[I", true)
  | 47 => ("CinemaClockModel", "runEnd", "[I", true)
  | 48 => ("CinemaClockModel", "runState", "[I", true)
  | 49 => ("CinemaClockModel", "runKind", "[I", true)
  | 50 => ("CinemaClockModel", "runWorker", "[I", true)
  | 51 => ("CinemaClockModel", "runGroup", "[I", true)
  | 52 => ("CinemaClockModel", "runTime", "[I", true)
  | 53 => ("CinemaClockModel", "dues", "I", false)
  | 54 => ("CinemaClockModel", "dueTask", "[I", true)
  | 55 => ("CinemaClockModel", "dueMinute", "[I", true)
  | 56 => ("CinemaClockModel", "dueLate", "[Z", true)
  | 57 => ("CinemaClockModel", "rows", "I", false)
  | 58 => ("CinemaClockModel", "bookTask", "[I", true)
  | 59 => ("CinemaClockModel", "bookMinute", "[I", true)
  | 60 => ("CinemaClockModel", "bookWhat", "[I", true)
  | 61 => ("CinemaClockModel", "reached", "[Z", true)
  | 62 => ("CinemaClockModel", "month", "I", false)
  | 63 => ("CinemaClockModel", "dayOfMonth", "I", false)
  | 64 => ("CinemaClockModel", "weekday", "I", false)
  | 65 => ("CinemaClockModel", "daysInMonth", "I", false)
  | _ => ("CinemaClockModel", "started", "I", false)
def tyX8 : Nat → FieldType := fun k => match k with
  | 0 => .int
  | 1 => .int
  | 2 => .int
  | 3 => .boolean
  | 4 => .int
  | 5 => .array .int
  | 6 => .array .int
  | 7 => .int
  | 8 => .array .int
  | 9 => .int
  | 10 => .array .int
  | 11 => .array .int
  | 12 => .array .int
  | 13 => .array .int
  | 14 => .array .int
  | 15 => .array .int
  | 16 => .array .int
  | 17 => .array .int
  | 18 => .array .int
  | 19 => .array .int
  | 20 => .array .int
  | 21 => .array .int
  | 22 => .array .int
  | 23 => .array .int
  | 24 => .array .int
  | 25 => .array .int
  | 26 => .array .int
  | 27 => .array .int
  | 28 => .array .boolean
  | 29 => .array .boolean
  | 30 => .array .int
  | 31 => .array .int
  | 32 => .array .int
  | 33 => .array .int
  | 34 => .array .int
  | 35 => .array .int
  | 36 => .array .int
  | 37 => .int
  | 38 => .array .int
  | 39 => .array .int
  | 40 => .array .int
  | 41 => .array .int
  | 42 => .int
  | 43 => .array .int
  | 44 => .array .int
  | 45 => .array .int
  | 46 => .array .int
  | 47 => .array .int
  | 48 => .array .int
  | 49 => .array .int
  | 50 => .array .int
  | 51 => .array .int
  | 52 => .array .int
  | 53 => .int
  | 54 => .array .int
  | 55 => .array .int
  | 56 => .array .boolean
  | 57 => .int
  | 58 => .array .int
  | 59 => .array .int
  | 60 => .array .int
  | 61 => .array .boolean
  | 62 => .int
  | 63 => .int
  | 64 => .int
  | 65 => .int
  | _ => .int
theorem nmX8 : ∀ a, a < 67 → ∀ b, b < 67 → a ≠ b → (TX8 a).2.1 ≠ (TX8 b).2.1 := by decide +kernel
theorem tyX8_ok : ∀ k, k < 67 → parseFieldDescriptor (TX8 k).2.2.1 = some (tyX8 k) := by decide +kernel
def yX0_init : MethodName := ⟨RX0, "<init>", "()V"⟩
def yX0_add : MethodName := ⟨RX0, "add", "(III)V"⟩
def yX1_init : MethodName := ⟨RX1, "<init>", "()V"⟩
def yX1_isForm : MethodName := ⟨RX1, "isForm", "(III)Z"⟩
def yX1_add : MethodName := ⟨RX1, "add", "(III)V"⟩
def yX1_ring : MethodName := ⟨RX1, "ring", "(III)I"⟩
def yX1_fits : MethodName := ⟨RX1, "fits", "(I)Z"⟩
def yX1_minuteFits : MethodName := ⟨RX1, "minuteFits", "(I)Z"⟩
def yX1_hourFits : MethodName := ⟨RX1, "hourFits", "(I)Z"⟩
def yX1_dayFits : MethodName := ⟨RX1, "dayFits", "(I)Z"⟩
def yX1_firstFit : MethodName := ⟨RX1, "firstFit", "(II)I"⟩
def yX1_monthOf : MethodName := ⟨RX1, "monthOf", "(I)I"⟩
def yX2_init : MethodName := ⟨RX2, "<init>", "()V"⟩
def yX2_add : MethodName := ⟨RX2, "add", "(LCinemaClock$Task;I)V"⟩
def yX2_remove : MethodName := ⟨RX2, "remove", "(I)V"⟩
def yX2_removeAll : MethodName := ⟨RX2, "removeAll", "(LCinemaClock$Task;)V"⟩
def yX2_clear : MethodName := ⟨RX2, "clear", "()V"⟩
def yX2_isAhead : MethodName := ⟨RX2, "isAhead", "(II)Z"⟩
def yX3_init : MethodName := ⟨RX3, "<init>", "()V"⟩
def yX3_add : MethodName := ⟨RX3, "add", "(II)V"⟩
def yX3_fit : MethodName := ⟨RX3, "fit", "(IZ)Z"⟩
def yX4_init : MethodName := ⟨RX4, "<init>", "()V"⟩
def yX4_placeOf : MethodName := ⟨RX4, "placeOf", "(II)I"⟩
def yX4_put : MethodName := ⟨RX4, "put", "(III)Z"⟩
def yX4_kindOf : MethodName := ⟨RX4, "kindOf", "(II)I"⟩
def yX5_init : MethodName := ⟨RX5, "<init>", "(ILCinemaClock$Task;III)V"⟩
def yX6_init : MethodName := ⟨RX6, "<init>", "(IIII)V"⟩
def yX6_isActive : MethodName := ⟨RX6, "isActive", "()Z"⟩
def yX6_fireFor : MethodName := ⟨RX6, "fireFor", "(I)V"⟩
def yX6_isFiredFor : MethodName := ⟨RX6, "isFiredFor", "(I)Z"⟩
def yX6_step : MethodName := ⟨RX6, "step", "()I"⟩
def yX6_firstOfRate : MethodName := ⟨RX6, "firstOfRate", "(I)I"⟩
def yX7_init : MethodName := ⟨RX7, "<init>", "()V"⟩
def yX7_workers : MethodName := ⟨RX7, "workers", "(I)I"⟩
def yX7_group : MethodName := ⟨RX7, "group", "(I)I"⟩
def yX7_task : MethodName := ⟨RX7, "task", "(III)I"⟩
def yX7_set : MethodName := ⟨RX7, "set", "(III)I"⟩
def yX7_leastTold : MethodName := ⟨RX7, "leastTold", "(I)I"⟩
def yX7_mostTold : MethodName := ⟨RX7, "mostTold", "(I)I"⟩
def yX7_calendar : MethodName := ⟨RX7, "calendar", "(IIII)I"⟩
def yX7_body : MethodName := ⟨RX7, "body", "(IIII)I"⟩
def yX7_after : MethodName := ⟨RX7, "after", "(III)I"⟩
def yX7_comesAfter : MethodName := ⟨RX7, "comesAfter", "(II)Z"⟩
def yX7_link : MethodName := ⟨RX7, "link", "(II)I"⟩
def yX7_plan : MethodName := ⟨RX7, "plan", "(III)I"⟩
def yX7_clearPlan : MethodName := ⟨RX7, "clearPlan", "()I"⟩
def yX7_clock : MethodName := ⟨RX7, "clock", "(I)I"⟩
def yX7_treatMinute : MethodName := ⟨RX7, "treatMinute", "()V"⟩
def yX7_endRuns : MethodName := ⟨RX7, "endRuns", "()V"⟩
def yX7_firstEnding : MethodName := ⟨RX7, "firstEnding", "()LCinemaClock$Run;"⟩
def yX7_endRun : MethodName := ⟨RX7, "endRun", "(LCinemaClock$Run;)V"⟩
def yX7_act : MethodName := ⟨RX7, "act", "(LCinemaClock$Run;)I"⟩
def yX7_followEnd : MethodName := ⟨RX7, "followEnd", "(LCinemaClock$Task;Z)V"⟩
def yX7_restAfter : MethodName := ⟨RX7, "restAfter", "(I)I"⟩
def yX7_layDown : MethodName := ⟨RX7, "layDown", "(LCinemaClock$Run;I)V"⟩
def yX7_tellAfters : MethodName := ⟨RX7, "tellAfters", "(LCinemaClock$Task;Z)V"⟩
def yX7_bringDues : MethodName := ⟨RX7, "bringDues", "()V"⟩
def yX7_isDueByKind : MethodName := ⟨RX7, "isDueByKind", "(LCinemaClock$Task;I)Z"⟩
def yX7_comeDue : MethodName := ⟨RX7, "comeDue", "(LCinemaClock$Task;)V"⟩
def yX7_fateOfDue : MethodName := ⟨RX7, "fateOfDue", "(LCinemaClock$Task;)I"⟩
def yX7_pauseAgain : MethodName := ⟨RX7, "pauseAgain", "(LCinemaClock$Task;)V"⟩
def yX7_missDues : MethodName := ⟨RX7, "missDues", "()V"⟩
def yX7_isMissed : MethodName := ⟨RX7, "isMissed", "(LCinemaClock$Task;I)Z"⟩
def yX7_missDue : MethodName := ⟨RX7, "missDue", "(LCinemaClock$Task;I)I"⟩
def yX7_beginRuns : MethodName := ⟨RX7, "beginRuns", "()V"⟩
def yX7_freeWorker : MethodName := ⟨RX7, "freeWorker", "()I"⟩
def yX7_firstToBegin : MethodName := ⟨RX7, "firstToBegin", "()I"⟩
def yX7_mayBegin : MethodName := ⟨RX7, "mayBegin", "(LCinemaClock$Task;)Z"⟩
def yX7_workIn : MethodName := ⟨RX7, "workIn", "(I)I"⟩
def yX7_beginRun : MethodName := ⟨RX7, "beginRun", "(II)V"⟩
def yX7_jump : MethodName := ⟨RX7, "jump", "(I)I"⟩
def yX7_jumpOver : MethodName := ⟨RX7, "jumpOver", "(II)V"⟩
def yX7_missJumped : MethodName := ⟨RX7, "missJumped", "(LCinemaClock$Task;II)V"⟩
def yX7_cancel : MethodName := ⟨RX7, "cancel", "(II)I"⟩
def yX7_leave : MethodName := ⟨RX7, "leave", "(LCinemaClock$Task;I)V"⟩
def yX7_interruptRuns : MethodName := ⟨RX7, "interruptRuns", "(LCinemaClock$Task;)V"⟩
def yX7_firstAtWork : MethodName := ⟨RX7, "firstAtWork", "(LCinemaClock$Task;)LCinemaClock$Run;"⟩
def yX7_stop : MethodName := ⟨RX7, "stop", "(I)I"⟩
def yX7_dropDues : MethodName := ⟨RX7, "dropDues", "()V"⟩
def yX7_go : MethodName := ⟨RX7, "go", "()I"⟩
def yX7_run : MethodName := ⟨RX7, "run", "(II)I"⟩
def yX7_of : MethodName := ⟨RX7, "of", "(II)I"⟩
def yX7_stateOf : MethodName := ⟨RX7, "stateOf", "(LCinemaClock$Task;)I"⟩
def yX7_next : MethodName := ⟨RX7, "next", "(II)I"⟩
def yX7_dueMinute : MethodName := ⟨RX7, "dueMinute", "(LCinemaClock$Task;I)I"⟩
def yX7_calendarMinute : MethodName := ⟨RX7, "calendarMinute", "(LCinemaClock$Calendar;I)I"⟩
def yX7_waiting : MethodName := ⟨RX7, "waiting", "(II)I"⟩
def yX7_book : MethodName := ⟨RX7, "book", "(II)I"⟩
def yX7_count : MethodName := ⟨RX7, "count", "(I)I"⟩
def yX7_cell : MethodName := ⟨RX7, "cell", "(I)I"⟩
def yX7_day : MethodName := ⟨RX7, "day", "(II)I"⟩
def yX7_idle : MethodName := ⟨RX7, "idle", "(I)I"⟩
def yX7_load : MethodName := ⟨RX7, "load", "(I)I"⟩
def yX7_quiet : MethodName := ⟨RX7, "quiet", "()I"⟩
def yX7_isWithin : MethodName := ⟨RX7, "isWithin", "(III)Z"⟩
def yX7_taskAt : MethodName := ⟨RX7, "taskAt", "(I)LCinemaClock$Task;"⟩
def yX7_isActive : MethodName := ⟨RX7, "isActive", "(LCinemaClock$Task;)Z"⟩
def yX8_init : MethodName := ⟨RX8, "<init>", "()V"⟩
def yX8_in : MethodName := ⟨RX8, "in", "(III)Z"⟩
def yX8_isTask : MethodName := ⟨RX8, "isTask", "(I)Z"⟩
def yX8_isActive : MethodName := ⟨RX8, "isActive", "(I)Z"⟩
def yX8_atWork : MethodName := ⟨RX8, "atWork", "()I"⟩
def yX8_isRunning : MethodName := ⟨RX8, "isRunning", "(I)Z"⟩
def yX8_loadOf : MethodName := ⟨RX8, "loadOf", "(I)I"⟩
def yX8_duesOf : MethodName := ⟨RX8, "duesOf", "(I)I"⟩
def yX8_monthLength : MethodName := ⟨RX8, "monthLength", "(I)I"⟩
def yX8_look : MethodName := ⟨RX8, "look", "(I)V"⟩
def yX8_fitsDay : MethodName := ⟨RX8, "fitsDay", "(I)Z"⟩
def yX8_fitsMinute : MethodName := ⟨RX8, "fitsMinute", "(II)Z"⟩
def yX8_fits : MethodName := ⟨RX8, "fits", "(II)Z"⟩
def yX8_hasMinute : MethodName := ⟨RX8, "hasMinute", "(I)Z"⟩
def yX8_dueFrom : MethodName := ⟨RX8, "dueFrom", "(II)I"⟩
def yX8_calendarFrom : MethodName := ⟨RX8, "calendarFrom", "(II)I"⟩
def yX8_books : MethodName := ⟨RX8, "books", "(III)V"⟩
def yX8_dueGone : MethodName := ⟨RX8, "dueGone", "(II)V"⟩
def yX8_comes : MethodName := ⟨RX8, "comes", "(II)V"⟩
def yX8_takeDue : MethodName := ⟨RX8, "takeDue", "(I)V"⟩
def yX8_dropDues : MethodName := ⟨RX8, "dropDues", "(I)V"⟩
def yX8_notes : MethodName := ⟨RX8, "notes", "(IZI)V"⟩
def yX8_frees : MethodName := ⟨RX8, "frees", "(III)V"⟩
def yX8_interrupts : MethodName := ⟨RX8, "interrupts", "(IZ)V"⟩
def yX8_planned : MethodName := ⟨RX8, "planned", "(II)I"⟩
def yX8_does : MethodName := ⟨RX8, "does", "(III)I"⟩
def yX8_ends : MethodName := ⟨RX8, "ends", "(II)V"⟩
def yX8_failed : MethodName := ⟨RX8, "failed", "(II)V"⟩
def yX8_treat : MethodName := ⟨RX8, "treat", "(I)V"⟩
def yX8_isDue : MethodName := ⟨RX8, "isDue", "(II)Z"⟩
def yX8_misses : MethodName := ⟨RX8, "misses", "(I)V"⟩
def yX8_canBegin : MethodName := ⟨RX8, "canBegin", "(I)Z"⟩
def yX8_begins : MethodName := ⟨RX8, "begins", "(I)Z"⟩
def yX8_isAhead : MethodName := ⟨RX8, "isAhead", "(II)Z"⟩
def yX8_clock : MethodName := ⟨RX8, "clock", "(I)I"⟩
def yX8_workers : MethodName := ⟨RX8, "workers", "(I)I"⟩
def yX8_group : MethodName := ⟨RX8, "group", "(I)I"⟩
def yX8_task : MethodName := ⟨RX8, "task", "(III)I"⟩
def yX8_set : MethodName := ⟨RX8, "set", "(III)I"⟩
def yX8_isForm : MethodName := ⟨RX8, "isForm", "(III)Z"⟩
def yX8_calendar : MethodName := ⟨RX8, "calendar", "(IIII)I"⟩
def yX8_body : MethodName := ⟨RX8, "body", "(IIII)I"⟩
def yX8_leads : MethodName := ⟨RX8, "leads", "(II)Z"⟩
def yX8_after : MethodName := ⟨RX8, "after", "(III)I"⟩
def yX8_plan : MethodName := ⟨RX8, "plan", "(III)I"⟩
def yX8_clearPlan : MethodName := ⟨RX8, "clearPlan", "()I"⟩
def yX8_jump : MethodName := ⟨RX8, "jump", "(I)I"⟩
def yX8_cancel : MethodName := ⟨RX8, "cancel", "(II)I"⟩
def yX8_stop : MethodName := ⟨RX8, "stop", "(I)I"⟩
def yX8_go : MethodName := ⟨RX8, "go", "()I"⟩
def yX8_run : MethodName := ⟨RX8, "run", "(II)I"⟩
def yX8_of : MethodName := ⟨RX8, "of", "(II)I"⟩
def yX8_next : MethodName := ⟨RX8, "next", "(II)I"⟩
def yX8_waiting : MethodName := ⟨RX8, "waiting", "(II)I"⟩
def yX8_book : MethodName := ⟨RX8, "book", "(II)I"⟩
def yX8_count : MethodName := ⟨RX8, "count", "(I)I"⟩
def yX8_cell : MethodName := ⟨RX8, "cell", "(I)I"⟩
def yX8_day : MethodName := ⟨RX8, "day", "(II)I"⟩
def yX8_idle : MethodName := ⟨RX8, "idle", "(I)I"⟩
def yX8_load : MethodName := ⟨RX8, "load", "(I)I"⟩
def yX8_quiet : MethodName := ⟨RX8, "quiet", "()I"⟩
def jy_max : MethodName := ⟨"java/lang/Math", "max", "(II)I"⟩
def jy_min : MethodName := ⟨"java/lang/Math", "min", "(II)I"⟩
def jy_floorMod : MethodName := ⟨"java/lang/Math", "floorMod", "(II)I"⟩
end
section
def zz_len : Nat → Nat := fun k => [0, 13, 9, 20, 4, 4, 4, 20, 8, 3, 11, 60, 2000, 8, 8, 8, 8, 8, 60, 100, 100, 100, 300, 300, 300, 40, 40, 40, 6, 4, 4, 0, 0, 0, 0, 0, 0, 0, 0, 0, 67, 8, 8, 8, 60, 60, 60, 60, 60, 60, 60, 60, 60, 60, 60, 60, 60, 60, 60, 60, 60, 60, 60, 60, 60, 240, 240, 240, 60, 240, 240, 40, 40, 40, 8, 2000, 2000, 2000, 2000, 2000, 2000, 2000, 2000, 2000, 2000, 100, 100, 100, 300, 300, 300, 60].getD k 0
/-- 0 an object, 1 ints, 2 booleans, 3 references -/
def zz_ar : Nat → Nat := fun k => [1, 1, 1, 0, 0, 0, 0, 0, 0, 0, 0, 3, 3, 3, 1, 1, 2, 1, 1, 3, 1, 2, 1, 1, 1, 1, 1, 1, 1, 1, 1, 9, 9, 9, 9, 9, 9, 9, 9, 9, 0, 1, 1, 1, 1, 1, 1, 1, 1, 1, 1, 1, 1, 1, 1, 1, 1, 1, 1, 1, 1, 1, 2, 2, 1, 1, 1, 1, 1, 1, 1, 1, 1, 1, 1, 1, 1, 1, 1, 1, 1, 1, 1, 1, 1, 1, 1, 2, 1, 1, 1, 2].getD k 0
def zz_et : Nat → Nat := fun k => [0, 0, 0, 0, 0, 0, 0, 0, 0, 0, 0, 9, 12, 12, 0, 0, 0, 0, 0, 9, 0, 0, 0, 0, 0, 0, 0, 0, 0, 0, 0, 0, 0, 0, 0, 0, 0, 0, 0, 0, 0, 0, 0, 0, 0, 0, 0, 0, 0, 0, 0, 0, 0, 0, 0, 0, 0, 0, 0, 0, 0, 0, 0, 0, 0, 0, 0, 0, 0, 0, 0, 0, 0, 0, 0, 0, 0, 0, 0, 0, 0, 0, 0, 0, 0, 0, 0, 0, 0, 0, 0, 0].getD k 0
def zz_ty : Nat → List Nat := fun k => match k with
  | 3 => [13, 14, 15, 6, 7, 8, 16, 17, 18, 19, 20, 0, 0, 0, 0, 0, 0, 0, 0, 0]
  | 4 => [21, 22, 23, 0]
  | 5 => [24, 25, 26, 0]
  | 6 => [27, 28, 29, 0]
  | 7 => [0, 0, 0, 0, 30, 10, 11, 0, 0, 0, 0, 0, 0, 0, 0, 0, 0, 0, 0, 0]
  | 8 => [0, 1, 0, 0, 0, 0, 0, 0]
  | 9 => [31, 32, 0]
  | 10 => [0, 9, 0, 0, 0, 0, 0, 0, 0, 0, 0]
  | 40 => [0, 0, 0, 0, 0, 43, 44, 0, 45, 0, 46, 47, 48, 49, 50, 51, 52, 53, 54, 55, 56, 57, 58, 59, 60, 61, 62, 63, 64, 65, 66, 67, 68, 69, 70, 71, 72, 0, 73, 74, 75, 76, 0, 77, 78, 79, 80, 81, 82, 83, 84, 85, 86, 0, 87, 88, 89, 0, 90, 91, 92, 93, 0, 0, 0, 0, 0]
  | _ => []
def zz_own : Nat → List (Nat × Nat) := fun k => match k with
  | 3 => [(0, 11), (1, 12), (2, 13), (3, 4), (4, 5), (5, 6), (6, 14), (7, 15), (8, 16), (9, 17), (10, 18)]
  | 4 => [(0, 19), (1, 20), (2, 21)]
  | 5 => [(0, 22), (1, 23), (2, 24)]
  | 6 => [(0, 25), (1, 26), (2, 27)]
  | 7 => [(4, 28), (5, 8), (6, 9)]
  | 9 => [(0, 29), (1, 30)]
  | 40 => [(5, 41), (6, 42), (8, 43), (10, 44), (11, 45), (12, 46), (13, 47), (14, 48), (15, 49), (16, 50), (17, 51), (18, 52), (19, 53), (20, 54), (21, 55), (22, 56), (23, 57), (24, 58), (25, 59), (26, 60), (27, 61), (28, 62), (29, 63), (30, 64), (31, 65), (32, 66), (33, 67), (34, 68), (35, 69), (36, 70), (38, 71), (39, 72), (40, 73), (41, 74), (43, 75), (44, 76), (45, 77), (46, 78), (47, 79), (48, 80), (49, 81), (50, 82), (51, 83), (52, 84), (54, 85), (55, 86), (56, 87), (58, 88), (59, 89), (60, 90), (61, 91)]
  | _ => []
/-- which half of the heap a kind belongs to: 0 the class, 1 the reference, 3 neither (only read) -/
def zz_sd (k : Nat) : Nat := cond (Nat.ble k 2) 3 (cond (Nat.ble k 30) 0 1)
/-! THE ABSTRACT MACHINE: a typed heap (kind, number, slot) of whole numbers, and an evaluator of the instructions over it.
    A state: how many cells and slots were made; how many objects of a kind there are, and how many of them are complete; what the slots hold. -/
abbrev zz_S : Type := (Nat × Nat) × ((Nat → Int) × (Nat → Int)) × (Nat → Int → Int → Int)
abbrev zz_V : Type := Nat × Int
abbrev zz_R : Type := Option (Int × zz_S)
abbrev zz_E : Type := Nat × Bool × Instr × Nat × Nat × (Nat × Nat × Nat × Nat) × Int × List Nat
def zz_nc (σ : zz_S) : Nat := σ.1.1
def zz_ns (σ : zz_S) : Nat := σ.1.2
def zz_c (σ : zz_S) (k : Nat) : Int := σ.2.1.1 k
def zz_m (σ : zz_S) (k : Nat) : Int := σ.2.1.2 k
def zz_h (σ : zz_S) (k : Nat) (i j : Int) : Int := σ.2.2 k i j
def zz_w (σ : zz_S) (k : Nat) (i j v : Int) : zz_S := (σ.1, σ.2.1, fun k' i' j' => if k' = k ∧ i' = i ∧ j' = j then v else σ.2.2 k' i' j')
/-- a new array (b = 1: complete at once) or object (b = 0) of the kind k with n slots -/
def zz_n (σ : zz_S) (k : Nat) (b : Int) (n : Nat) : zz_S := ((σ.1.1 + 1, σ.1.2 + n), (fun k' => if k' = k then σ.2.1.1 k + 1 else σ.2.1.1 k', fun k' => if k' = k then σ.2.1.2 k + b else σ.2.1.2 k'), fun k' i' j' => if k' = k ∧ i' = σ.2.1.1 k + 1 then 0 else σ.2.2 k' i' j')
/-- the youngest object of a kind is complete -/
def zz_f (σ : zz_S) (k : Nat) : zz_S := (σ.1, (σ.2.1.1, fun k' => if k' = k then σ.2.1.2 k + 1 else σ.2.1.2 k'), σ.2.2)
-- numbers
def zz_r (z : Int) : Int := (Int32.ofInt z).toInt
def zz_and (x y : Int) : Int := (Int32.ofInt x &&& Int32.ofInt y).toInt
def zz_or (x y : Int) : Int := (Int32.ofInt x ||| Int32.ofInt y).toInt
def zz_xor (x y : Int) : Int := (Int32.ofInt x ^^^ Int32.ofInt y).toInt
def zz_shl (x y : Int) : Int := (Int32.ofInt x <<< (Int32.ofInt y &&& 31)).toInt
def zz_shr (x y : Int) : Int := (Int32.ofInt x >>> (Int32.ofInt y &&& 31)).toInt
def zz_div (x y : Int) : Int := (Int32.ofInt x / Int32.ofInt y).toInt
def zz_rem (x y : Int) : Int := (Int32.ofInt x - Int32.ofInt x / Int32.ofInt y * Int32.ofInt y).toInt
def zz_land (x y : Int) : Int := (Int64.ofInt x &&& Int64.ofInt y).toInt
def zz_lshl (x y : Int) : Int := (Int64.ofInt x <<< ((Int32.ofInt y).toInt64 &&& 63)).toInt
def zz_lshr (x y : Int) : Int := (Int64.ofInt x >>> ((Int32.ofInt y).toInt64 &&& 63)).toInt
def zz_lc (x y : Int) : Int := if x < y then -1 else if x = y then 0 else 1
/-- length of an array: of the script (kind 0) it stands in its place -1 -/
def zz_al (σ : zz_S) (k : Nat) (x : Int) : Int := if k = 0 then zz_h σ 0 1 (-1) else (zz_len k : Int)
abbrev zz_b (σ : zz_S) (k : Nat) (x j : Int) : Prop := 0 ≤ j ∧ j < zz_al σ k x
abbrev zz_o (v : Int) : Prop := v = 0 ∨ v = 1
-- stack and locals
def zz_i1 (sk : List zz_V) (f : Int → List zz_V → zz_R) : zz_R := match sk with
  | [] => none
  | (t, x) :: r => cond (Nat.beq t 0) (f x r) none
def zz_i2 (sk : List zz_V) (f : Int → Int → List zz_V → zz_R) : zz_R := zz_i1 sk fun y r => zz_i1 r fun x r => f x y r
def zz_a1 (u : Nat) (sk : List zz_V) (f : Int → List zz_V → zz_R) : zz_R := match sk with
  | [] => none
  | (t, x) :: r => cond (Nat.beq t u) (f x r) none
def zz_lk : List (Nat × zz_V) → Nat → zz_V
  | [], _ => (1, 0)
  | (j, v) :: r, i => cond (Nat.beq j i) v (zz_lk r i)
def zz_sw (J : Nat → zz_R) (x : Int) (d : Nat) : Int → List Nat → zz_R
  | _, [] => J d
  | k, o :: os => if x = k then J o else zz_sw J x d (k + 1) os
def zz_sk : List zz_E → Nat → List zz_E
  | [], _ => []
  | e :: es, q => cond (Nat.beq e.1 q) (e :: es) (zz_sk es q)
/-- the arguments that lie on the stack, the last one on top, by their tags (from the last to the first) -/
def zz_ta : List Nat → List zz_V → List Int → Option (List Int × List zz_V)
  | [], sk, vs => some (vs, sk)
  | _ :: _, [], _ => none
  | u :: us, (t, x) :: sk, vs => cond (Nat.beq t u || (Nat.beq t 3000 && (Nat.ble 2 u && Nat.ble u 999))) (zz_ta us sk (x :: vs)) none
/-- an object is complete: its raw references become plain ones -/
def zz_un (t : Nat) : List zz_V → List zz_V
  | [] => []
  | (u, x) :: r => (cond (Nat.beq u t) (t - 998) u, x) :: zz_un t r
def zz_ow (σ : zz_S) (k : Nat) (x : Int) : List (Nat × Nat) → Bool
  | [] => true
  | q :: r => decide (zz_h σ k x q.1 = x) && zz_ow σ k x r
/-- what is stored in a slot with the tag t (z: a boolean one) -/
def zz_st (t : Nat) (z : Int) (u : Nat) (w : Int) (K : zz_R) : zz_R := cond (Nat.beq u t) (if z = 1 then (if zz_o w then K else none) else K) none
/-- THE EVALUATOR. CE: the methods; KE: the places at which it stops; cs: the whole code; rt, rb: the tag of the answer, and whether it is a boolean; th: in a constructor the kind of what is made, else 0; sd: which half of the heap may be written. -/
def zz_ev (CE : Nat → List Int → zz_S → zz_R) (KE : Nat → List (Nat × zz_V) → List zz_V → zz_S → zz_R) (cs : List zz_E) (rt : Nat) (rb : Bool) (th sd : Nat) : Nat → Bool → List zz_E → List (Nat × zz_V) → List zz_V → zz_S → zz_R
  | 0, _, _, _, _, _ => none
  | _ + 1, _, [], _, _, _ => none
  | n + 1, fst, (pc, ct, ins, _, _, (a, b, t, o), v, tg) :: es, ls, sk, σ =>
    cond (ct && !fst) (KE pc ls sk σ) (match ins with
    | .aconst_null => zz_ev CE KE cs rt rb th sd n false es ls ((3000, 0) :: sk) σ
    | .iconst i => zz_ev CE KE cs rt rb th sd n false es ls ((0, i) :: sk) σ
    | .bipush i => zz_ev CE KE cs rt rb th sd n false es ls ((0, i) :: sk) σ
    | .sipush i => zz_ev CE KE cs rt rb th sd n false es ls ((0, i) :: sk) σ
    | .lconst _ => zz_ev CE KE cs rt rb th sd n false es ls ((1, v) :: sk) σ
    | .ldc _ => zz_ev CE KE cs rt rb th sd n false es ls ((0, v) :: sk) σ
    | .ldc_w _ => zz_ev CE KE cs rt rb th sd n false es ls ((0, v) :: sk) σ
    | .ldc2_w _ => zz_ev CE KE cs rt rb th sd n false es ls ((1, v) :: sk) σ
    | .iload i => (match zz_lk ls i with | (u, x) => cond (Nat.beq u 0) (zz_ev CE KE cs rt rb th sd n false es ls ((0, x) :: sk) σ) none)
    | .iload_n i => (match zz_lk ls i.val with | (u, x) => cond (Nat.beq u 0) (zz_ev CE KE cs rt rb th sd n false es ls ((0, x) :: sk) σ) none)
    | .aload i => (match zz_lk ls i with | (u, x) => cond (Nat.ble 2 u) (zz_ev CE KE cs rt rb th sd n false es ls ((u, x) :: sk) σ) none)
    | .aload_n i => (match zz_lk ls i.val with | (u, x) => cond (Nat.ble 2 u) (zz_ev CE KE cs rt rb th sd n false es ls ((u, x) :: sk) σ) none)
    | .istore i => zz_i1 sk fun x r => zz_ev CE KE cs rt rb th sd n false es ((i, 0, x) :: ls) r σ
    | .istore_n i => zz_i1 sk fun x r => zz_ev CE KE cs rt rb th sd n false es ((i.val, 0, x) :: ls) r σ
    | .astore i => (match sk with | [] => none | (u, x) :: r => cond (Nat.ble 2 u) (zz_ev CE KE cs rt rb th sd n false es ((i, u, x) :: ls) r σ) none)
    | .astore_n i => (match sk with | [] => none | (u, x) :: r => cond (Nat.ble 2 u) (zz_ev CE KE cs rt rb th sd n false es ((i.val, u, x) :: ls) r σ) none)
    | .iinc i c => (match zz_lk ls i with | (u, x) => cond (Nat.beq u 0) (zz_ev CE KE cs rt rb th sd n false es ((i, 0, zz_r (x + c)) :: ls) sk σ) none)
    | .iadd => zz_i2 sk fun x y r => zz_ev CE KE cs rt rb th sd n false es ls ((0, zz_r (x + y)) :: r) σ
    | .isub => zz_i2 sk fun x y r => zz_ev CE KE cs rt rb th sd n false es ls ((0, zz_r (x - y)) :: r) σ
    | .imul => zz_i2 sk fun x y r => zz_ev CE KE cs rt rb th sd n false es ls ((0, zz_r (x * y)) :: r) σ
    | .idiv => zz_i2 sk fun x y r => if y = 0 then none else zz_ev CE KE cs rt rb th sd n false es ls ((0, zz_div x y) :: r) σ
    | .irem => zz_i2 sk fun x y r => if y = 0 then none else zz_ev CE KE cs rt rb th sd n false es ls ((0, zz_rem x y) :: r) σ
    | .iand => zz_i2 sk fun x y r => zz_ev CE KE cs rt rb th sd n false es ls ((0, zz_and x y) :: r) σ
    | .ior => zz_i2 sk fun x y r => zz_ev CE KE cs rt rb th sd n false es ls ((0, zz_or x y) :: r) σ
    | .ixor => zz_i2 sk fun x y r => zz_ev CE KE cs rt rb th sd n false es ls ((0, zz_xor x y) :: r) σ
    | .ishl => zz_i2 sk fun x y r => zz_ev CE KE cs rt rb th sd n false es ls ((0, zz_shl x y) :: r) σ
    | .ishr => zz_i2 sk fun x y r => zz_ev CE KE cs rt rb th sd n false es ls ((0, zz_shr x y) :: r) σ
    | .land => zz_a1 1 sk fun y r => zz_a1 1 r fun x r => zz_ev CE KE cs rt rb th sd n false es ls ((1, zz_land x y) :: r) σ
    | .lshl => zz_i1 sk fun y r => zz_a1 1 r fun x r => zz_ev CE KE cs rt rb th sd n false es ls ((1, zz_lshl x y) :: r) σ
    | .lshr => zz_i1 sk fun y r => zz_a1 1 r fun x r => zz_ev CE KE cs rt rb th sd n false es ls ((1, zz_lshr x y) :: r) σ
    | .lcmp => zz_a1 1 sk fun y r => zz_a1 1 r fun x r => zz_ev CE KE cs rt rb th sd n false es ls ((0, zz_lc x y) :: r) σ
    | .dup => (match sk with | (t1, x1) :: r => cond (Nat.beq t1 1) none (zz_ev CE KE cs rt rb th sd n false es ls ((t1, x1) :: (t1, x1) :: r) σ) | _ => none)
    | .dup_x1 => (match sk with | (t1, x1) :: (t2, x2) :: r => cond (Nat.beq t1 1 || Nat.beq t2 1) none (zz_ev CE KE cs rt rb th sd n false es ls ((t1, x1) :: (t2, x2) :: (t1, x1) :: r) σ) | _ => none)
    | .dup_x2 => (match sk with | (t1, x1) :: (t2, x2) :: (t3, x3) :: r => cond (Nat.beq t1 1 || (Nat.beq t2 1 || Nat.beq t3 1)) none (zz_ev CE KE cs rt rb th sd n false es ls ((t1, x1) :: (t2, x2) :: (t3, x3) :: (t1, x1) :: r) σ) | _ => none)
    | .dup2 => (match sk with | (t1, x1) :: (t2, x2) :: r => cond (Nat.beq t1 1 || Nat.beq t2 1) none (zz_ev CE KE cs rt rb th sd n false es ls ((t1, x1) :: (t2, x2) :: (t1, x1) :: (t2, x2) :: r) σ) | _ => none)
    | .goto _ => zz_ev CE KE cs rt rb th sd n false (zz_sk cs a) ls sk σ
    | .ifCond .eq _ => zz_i1 sk fun x r => if x = 0 then zz_ev CE KE cs rt rb th sd n false (zz_sk cs a) ls r σ else zz_ev CE KE cs rt rb th sd n false es ls r σ
    | .ifCond .ne _ => zz_i1 sk fun x r => if x = 0 then zz_ev CE KE cs rt rb th sd n false es ls r σ else zz_ev CE KE cs rt rb th sd n false (zz_sk cs a) ls r σ
    | .ifCond .lt _ => zz_i1 sk fun x r => if x < 0 then zz_ev CE KE cs rt rb th sd n false (zz_sk cs a) ls r σ else zz_ev CE KE cs rt rb th sd n false es ls r σ
    | .ifCond .ge _ => zz_i1 sk fun x r => if x < 0 then zz_ev CE KE cs rt rb th sd n false es ls r σ else zz_ev CE KE cs rt rb th sd n false (zz_sk cs a) ls r σ
    | .ifCond .le _ => zz_i1 sk fun x r => if x ≤ 0 then zz_ev CE KE cs rt rb th sd n false (zz_sk cs a) ls r σ else zz_ev CE KE cs rt rb th sd n false es ls r σ
    | .ifCond .gt _ => zz_i1 sk fun x r => if x ≤ 0 then zz_ev CE KE cs rt rb th sd n false es ls r σ else zz_ev CE KE cs rt rb th sd n false (zz_sk cs a) ls r σ
    | .if_icmp .eq _ => zz_i2 sk fun x y r => if x = y then zz_ev CE KE cs rt rb th sd n false (zz_sk cs a) ls r σ else zz_ev CE KE cs rt rb th sd n false es ls r σ
    | .if_icmp .ne _ => zz_i2 sk fun x y r => if x = y then zz_ev CE KE cs rt rb th sd n false es ls r σ else zz_ev CE KE cs rt rb th sd n false (zz_sk cs a) ls r σ
    | .if_icmp .lt _ => zz_i2 sk fun x y r => if x < y then zz_ev CE KE cs rt rb th sd n false (zz_sk cs a) ls r σ else zz_ev CE KE cs rt rb th sd n false es ls r σ
    | .if_icmp .ge _ => zz_i2 sk fun x y r => if x < y then zz_ev CE KE cs rt rb th sd n false es ls r σ else zz_ev CE KE cs rt rb th sd n false (zz_sk cs a) ls r σ
    | .if_icmp .le _ => zz_i2 sk fun x y r => if x ≤ y then zz_ev CE KE cs rt rb th sd n false (zz_sk cs a) ls r σ else zz_ev CE KE cs rt rb th sd n false es ls r σ
    | .if_icmp .gt _ => zz_i2 sk fun x y r => if x ≤ y then zz_ev CE KE cs rt rb th sd n false es ls r σ else zz_ev CE KE cs rt rb th sd n false (zz_sk cs a) ls r σ
    | .if_acmp .eq _ => (match sk with | (u, y) :: (w, x) :: r => cond (Nat.beq u w && (Nat.ble 5 u && Nat.ble u 900)) (if x = y then zz_ev CE KE cs rt rb th sd n false (zz_sk cs a) ls r σ else zz_ev CE KE cs rt rb th sd n false es ls r σ) none | _ => none)
    | .if_acmp .ne _ => (match sk with | (u, y) :: (w, x) :: r => cond (Nat.beq u w && (Nat.ble 5 u && Nat.ble u 900)) (if x = y then zz_ev CE KE cs rt rb th sd n false es ls r σ else zz_ev CE KE cs rt rb th sd n false (zz_sk cs a) ls r σ) none | _ => none)
    | .ifnull _ => (match sk with | (u, x) :: r => cond ((Nat.ble 2 u && Nat.ble u 999) || Nat.beq u 3000) (if x = 0 then zz_ev CE KE cs rt rb th sd n false (zz_sk cs a) ls r σ else zz_ev CE KE cs rt rb th sd n false es ls r σ) none | _ => none)
    | .ifnonnull _ => (match sk with | (u, x) :: r => cond ((Nat.ble 2 u && Nat.ble u 999) || Nat.beq u 3000) (if x = 0 then zz_ev CE KE cs rt rb th sd n false es ls r σ else zz_ev CE KE cs rt rb th sd n false (zz_sk cs a) ls r σ) none | _ => none)
    | .tableswitch _ _ _ _ => zz_i1 sk fun x r => zz_sw (fun q => zz_ev CE KE cs rt rb th sd n false (zz_sk cs q) ls r σ) x a v tg
    | .getfield _ => (match sk with
      | (u, x) :: r => cond (Nat.beq u (2 + a)) (if x = 0 then none else cond (Nat.beq o 1) (zz_ev CE KE cs rt rb th sd n false es ls ((t, x) :: r) σ) (zz_ev CE KE cs rt rb th sd n false es ls ((t, zz_h σ a x b) :: r) σ))
          (cond (Nat.beq u (1000 + a)) (cond (Nat.beq o 1) (if zz_h σ a x b = x then zz_ev CE KE cs rt rb th sd n false es ls ((t, x) :: r) σ else none) (zz_ev CE KE cs rt rb th sd n false es ls ((t, zz_h σ a x b) :: r) σ)) none)
      | _ => none)
    | .putfield _ => (match sk with
      | (u', w) :: (u, x) :: r => zz_st t v u' w (cond (Nat.beq (zz_sd a) sd) (cond (Nat.beq u (2 + a) && !Nat.beq o 1) (if x = 0 then none else zz_ev CE KE cs rt rb th sd n false es ls r (zz_w σ a x b w))
          (cond (Nat.beq u (1000 + a)) (if Nat.beq o 1 = true ∧ w ≠ x then none else zz_ev CE KE cs rt rb th sd n false es ls r (zz_w σ a x b w)) none)) none)
      | _ => none)
    | .getstatic _ => zz_ev CE KE cs rt rb th sd n false es ls ((2 + a, 1) :: sk) σ
    | .iaload => zz_i1 sk fun j r => zz_a1 (2 + a) r fun x r => if x = 0 then none else if zz_b σ a x j then zz_ev CE KE cs rt rb th sd n false es ls ((0, zz_h σ a x j) :: r) σ else none
    | .baload => zz_i1 sk fun j r => zz_a1 (2 + a) r fun x r => if x = 0 then none else if zz_b σ a x j then zz_ev CE KE cs rt rb th sd n false es ls ((0, zz_h σ a x j) :: r) σ else none
    | .aaload => zz_i1 sk fun j r => zz_a1 (2 + a) r fun x r => if x = 0 then none else if zz_b σ a x j then zz_ev CE KE cs rt rb th sd n false es ls ((t, zz_h σ a x j) :: r) σ else none
    | .iastore => zz_i1 sk fun w r => zz_i1 r fun j r => zz_a1 (2 + a) r fun x r => cond (Nat.beq (zz_sd a) sd) (if x = 0 then none else if zz_b σ a x j then zz_ev CE KE cs rt rb th sd n false es ls r (zz_w σ a x j w) else none) none
    | .bastore => zz_i1 sk fun w r => zz_i1 r fun j r => zz_a1 (2 + a) r fun x r => cond (Nat.beq (zz_sd a) sd) (if x = 0 then none else if zz_b σ a x j then if zz_o w then zz_ev CE KE cs rt rb th sd n false es ls r (zz_w σ a x j w) else none else none) none
    | .aastore => zz_a1 t sk fun w r => zz_i1 r fun j r => zz_a1 (2 + a) r fun x r => cond (Nat.beq (zz_sd a) sd) (if x = 0 then none else if zz_b σ a x j then if w = 0 then none else zz_ev CE KE cs rt rb th sd n false es ls r (zz_w σ a x j w) else none) none
    | .arraylength => zz_a1 (2 + a) sk fun x r => if x = 0 then none else zz_ev CE KE cs rt rb th sd n false es ls ((0, zz_al σ a x) :: r) σ
    | .new _ => cond (Nat.beq (zz_sd a) sd || Nat.beq sd 2) (zz_ev CE KE cs rt rb th sd n false es ls ((1000 + a, zz_c σ a + 1) :: sk) (zz_n σ a 0 (zz_len a))) none
    | .newarray _ => zz_i1 sk fun x r => cond (Nat.beq (zz_sd a) sd) (if x = (zz_len a : Int) then zz_ev CE KE cs rt rb th sd n false es ls ((2 + a, zz_c σ a + 1) :: r) (zz_n σ a 1 (zz_len a)) else none) none
    | .anewarray _ => zz_i1 sk fun x r => cond (Nat.beq (zz_sd a) sd) (if x = (zz_len a : Int) then zz_ev CE KE cs rt rb th sd n false es ls ((2 + a, zz_c σ a + 1) :: r) (zz_n σ a 1 (zz_len a)) else none) none
    | .invokestatic _ => (match zz_ta tg sk [] with
      | some (vs, r) => cond (Nat.ble r.length 4) ((CE a vs σ).bind fun q => cond (Nat.beq t 999) (zz_ev CE KE cs rt rb th sd n false es ls r q.2) (zz_ev CE KE cs rt rb th sd n false es ls ((t, q.1) :: r) q.2)) none
      | none => none)
    | .invokevirtual _ => (match zz_ta tg sk [] with
      | some (x :: vs, r) => cond (Nat.ble r.length 4) (if x = 0 then none else (CE a (x :: vs) σ).bind fun q => cond (Nat.beq t 999) (zz_ev CE KE cs rt rb th sd n false es ls r q.2) (zz_ev CE KE cs rt rb th sd n false es ls ((t, q.1) :: r) q.2)) none
      | _ => none)
    | .invokespecial _ => cond (Nat.beq a 0)
        (match sk with | (u, _) :: r => cond (Nat.ble 1000 u && (Nat.ble u 1900 && Nat.ble r.length 4)) (zz_ev CE KE cs rt rb th sd n false es ls r σ) none | [] => none)
        (match zz_ta tg sk [] with
        | some (x :: vs, r) => cond (Nat.ble r.length 4) ((CE a (x :: vs) σ).bind fun q => if zz_c q.2 b = zz_m q.2 b then zz_ev CE KE cs rt rb th sd n false es ls (zz_un (1000 + b) r) q.2 else none) none
        | _ => none)
    | .ireturn => (match sk with | [(u, x)] => cond (Nat.beq u 0 && Nat.beq rt 0) (cond rb (if zz_o x then some (x, σ) else none) (some (x, σ))) none | _ => none)
    | .areturn => (match sk with | [(u, x)] => cond ((Nat.beq u rt || Nat.beq u 3000) && (Nat.ble 2 rt && Nat.ble rt 900)) (some (x, σ)) none | _ => none)
    | .return_ => (match sk with | [] => cond (Nat.beq rt 999) (cond (Nat.beq th 0) (some (0, σ)) (match zz_lk ls 0 with | (u, x) => cond (Nat.beq u (1000 + th)) (if zz_ow σ th x (zz_own th) = true ∧ zz_m σ th + 1 = x then some (0, zz_f σ th) else none) none)) none | _ => none)
    | _ => none)
def zz_CE : List (Nat × (List Int → zz_S → zz_R)) → Nat → List Int → zz_S → zz_R
  | [], _, _, _ => none
  | p :: L, i, vs, σ => cond (Nat.beq p.1 i) (p.2 vs σ) (zz_CE L i vs σ)
/-- the live locals of a place at which the evaluator stops: local, tag, whether it is the only one of its kind -/
def zz_kc : List (Nat × Nat × Bool) → List (Nat × zz_V) → (List Int → zz_R) → zz_R
  | [], _, f => f []
  | (i, t, s) :: sp, ls, f => match zz_lk ls i with
    | (u, x) => cond (Nat.beq u t || (Nat.beq u 3000 && (Nat.ble 2 t && Nat.ble t 999))) (cond s (if x = 1 then zz_kc sp ls f else none) (zz_kc sp ls (fun r => f (x :: r)))) none
def zz_KE : List (Nat × List (Nat × Nat × Bool) × (List Int → zz_S → zz_R)) → Nat → List (Nat × zz_V) → List zz_V → zz_S → zz_R
  | [], _, _, _, _ => none
  | p :: L, pc, ls, sk, σ => cond (Nat.beq p.1 pc) (match sk with | [] => zz_kc p.2.1 ls (fun vs => p.2.2 vs σ) | _ => none) (zz_KE L pc ls sk σ)
theorem zz_fu_ex : ∃ n : Nat, 1000000000 ≤ n := ⟨1000000000, Nat.le_refl _⟩
/-- the fuel of a loop: large, and nothing that can be counted down by unfolding -/
noncomputable def zz_fu : Nat := Classical.choose zz_fu_ex
end
section
/-! WHAT THE ABSTRACT HEAP SAYS OF THE MACHINE'S -/
abbrev zz_vw : List vw_C := [(RX0, TX0, 4), (RX1, TX1, 8), (RX2, TX2, 4), (RX3, TX3, 3), (RX4, TX4, 4), (RX5, TX5, 11), (RX6, TX6, 20), (RX7, TX7, 20), (RX8, TX8, 67)]
def zz_ft : Nat → Nat → FieldType := fun c => match c with | 0 => tyX0 | 1 => tyX1 | 2 => tyX2 | 3 => tyX3 | 4 => tyX4 | 5 => tyX5 | 6 => tyX6 | 7 => tyX7 | _ => tyX8
/-- the class of an object kind, by its place in zz_vw -/
def zz_cl : Nat → Nat := fun k => match k with | 3 => 7 | 4 => 2 | 5 => 0 | 6 => 4 | 7 => 6 | 8 => 1 | 9 => 3 | 10 => 5 | _ => 8
def zz_aty : Nat → FieldType := fun k => match zz_ar k with | 2 => .boolean | 3 => (match k with | 11 => .object RX6 | 19 => .object RX6 | _ => .object RX5) | _ => .int
def zz_nw : List Cond := [.arrayOver (.object RX6), .arrayOver (.object RX5)]
def zz_nm : List (String × Nat × MethodName × String) := [("CinemaClock", 26, yX2_init, "CinemaClock"), ("CinemaClock", 33, yX0_init, "CinemaClock"), ("CinemaClock", 40, yX4_init, "CinemaClock"), ("CinemaClock$Task", 17, yX1_init, "CinemaClock"), ("CinemaClock$Task", 24, yX3_init, "CinemaClock"), ("CinemaClock$Calendar", 44, yX7_isWithin, "CinemaClock"), ("CinemaClock$Dues", 32, yX7_isWithin, "CinemaClock")]
def zz_nl (q : String × Nat × MethodName × String) : Cond := .methodLinkNest q.1 q.2.1 q.2.2.1 q.2.2.2
/-- the tables' words that a method may hand on -/
def zz_tb : List Jvm.Cond := lw_tbl.filter goodWord
set_option maxRecDepth 100000 in
theorem zz_cw : ∀ (c : Nat) (q : vw_C), zz_vw[c]? = some q → (∀ w ∈ u_ws q.1 q.2.1 q.2.2, w ∈ zz_tb) ∧ (∀ k, k < q.2.2 → parseFieldDescriptor (q.2.1 k).2.2.1 = some (zz_ft c k)) ∧ (∀ a, a < q.2.2 → ∀ b, b < q.2.2 → a ≠ b → (q.2.1 a).2.1 ≠ (q.2.1 b).2.1) ∧ Jvm.Cond.instantiable q.1 q.2.2 ∈ zz_tb ∧ Jvm.Cond.initialized q.1 ∈ zz_tb
  | 0, _, h => by cases h; exact ⟨by decide +kernel, tyX0_ok, nmX0, by decide +kernel, by decide +kernel⟩
  | 1, _, h => by cases h; exact ⟨by decide +kernel, tyX1_ok, nmX1, by decide +kernel, by decide +kernel⟩
  | 2, _, h => by cases h; exact ⟨by decide +kernel, tyX2_ok, nmX2, by decide +kernel, by decide +kernel⟩
  | 3, _, h => by cases h; exact ⟨by decide +kernel, tyX3_ok, nmX3, by decide +kernel, by decide +kernel⟩
  | 4, _, h => by cases h; exact ⟨by decide +kernel, tyX4_ok, nmX4, by decide +kernel, by decide +kernel⟩
  | 5, _, h => by cases h; exact ⟨by decide +kernel, tyX5_ok, nmX5, by decide +kernel, by decide +kernel⟩
  | 6, _, h => by cases h; exact ⟨by decide +kernel, tyX6_ok, nmX6, by decide +kernel, by decide +kernel⟩
  | 7, _, h => by cases h; exact ⟨by decide +kernel, tyX7_ok, nmX7, by decide +kernel, by decide +kernel⟩
  | 8, _, h => by cases h; exact ⟨by decide +kernel, tyX8_ok, nmX8, by decide +kernel, by decide +kernel⟩
  | c + 9, _, h => by simp [zz_vw] at h
-- values
def zz_cv (ad : Nat → Int → Nat) (v : zz_V) : Value := if v.1 = 0 then .int (Int32.ofInt v.2) else if v.1 = 1 then .long (Int64.ofInt v.2) else if v.2 = 0 then .null else .ref (ad (if v.1 ≤ 999 then v.1 - 2 else v.1 - 1000) v.2)
def zz_ok (σ : zz_S) (v : zz_V) : Prop := if v.1 = 0 then -2147483648 ≤ v.2 ∧ v.2 < 2147483648 else if v.1 = 1 then -9223372036854775808 ≤ v.2 ∧ v.2 < 9223372036854775808 else if v.1 ≤ 999 then 0 ≤ v.2 ∧ v.2 ≤ zz_m σ (v.1 - 2) else if v.1 = 3000 then v.2 = 0 else 1 ≤ v.2 ∧ v.2 ≤ zz_c σ (v.1 - 1000)
/-- the tag of a slot -/
def zz_tg (k : Nat) (j : Int) : Nat := if zz_ar k = 0 then (zz_ty k).getD j.toNat 0 else zz_et k
def zz_vs (σ : zz_S) : Prop := (∀ k i j, 1 ≤ i → i ≤ zz_c σ k → zz_ok σ (zz_tg k j, zz_h σ k i j)) ∧ (∀ k q, q ∈ zz_own k → ∀ i, 1 ≤ i → i ≤ zz_m σ k → zz_h σ k i q.1 = i) ∧ (∀ k, 0 ≤ zz_m σ k ∧ zz_m σ k ≤ zz_c σ k) ∧ 1 ≤ zz_m σ 1 ∧ 1 ≤ zz_m σ 2 ∧ ∀ k, zz_ar k ≠ 0 → zz_m σ k = zz_c σ k
def zz_vl (σ : zz_S) (ls : List (Nat × zz_V)) : Prop := ∀ i, zz_ok σ (zz_lk ls i)
def zz_vk (σ : zz_S) (sk : List zz_V) : Prop := ∀ v ∈ sk, zz_ok σ v
def zz_gr (σ τ : zz_S) : Prop := (∀ k, zz_c σ k ≤ zz_c τ k ∧ zz_m σ k ≤ zz_m τ k) ∧ zz_nc σ ≤ zz_nc τ ∧ zz_ns σ ≤ zz_ns τ
def zz_fr (sd : Nat) (σ τ : zz_S) : Prop := sd = 2 ∨ ∀ k, zz_sd k ≠ sd → zz_c τ k = zz_c σ k ∧ zz_m τ k = zz_m σ k ∧ ∀ i j, zz_h τ k i j = zz_h σ k i j
theorem zz_gr.rf {σ : zz_S} : zz_gr σ σ := ⟨fun _ => ⟨Int.le_refl _, Int.le_refl _⟩, Nat.le_refl _, Nat.le_refl _⟩
theorem zz_gr.tr {a b c : zz_S} (h : zz_gr a b) (g : zz_gr b c) : zz_gr a c := ⟨fun k => ⟨Int.le_trans (h.1 k).1 (g.1 k).1, Int.le_trans (h.1 k).2 (g.1 k).2⟩, Nat.le_trans h.2.1 g.2.1, Nat.le_trans h.2.2 g.2.2⟩
theorem zz_fr.rf {sd : Nat} {σ : zz_S} : zz_fr sd σ σ := Or.inr fun _ _ => ⟨rfl, rfl, fun _ _ => rfl⟩
theorem zz_fr.tr {sd : Nat} {a b c : zz_S} (h : zz_fr sd a b) (g : zz_fr sd b c) : zz_fr sd a c := by
  rcases h with h | h
  · exact Or.inl h
  rcases g with g | g
  · exact Or.inl g
  exact Or.inr fun k hk => ⟨(g k hk).1.trans (h k hk).1, (g k hk).2.1.trans (h k hk).2.1, fun i j => ((g k hk).2.2 i j).trans ((h k hk).2.2 i j)⟩
theorem zz_ok.mono {σ τ : zz_S} {v : zz_V} (g : zz_gr σ τ) (h : zz_ok σ v) : zz_ok τ v := by
  unfold zz_ok at *
  split <;> rename_i h0
  · rwa [if_pos h0] at h
  rw [if_neg h0] at h
  split <;> rename_i h1
  · rwa [if_pos h1] at h
  rw [if_neg h1] at h
  split <;> rename_i h2
  · rw [if_pos h2] at h
    exact ⟨h.1, Int.le_trans h.2 (g.1 _).2⟩
  rw [if_neg h2] at h
  split <;> rename_i h3
  · rwa [if_pos h3] at h
  rw [if_neg h3] at h
  exact ⟨h.1, Int.le_trans h.2 (g.1 _).1⟩
theorem zz_vk.mono {σ τ : zz_S} {sk : List zz_V} (g : zz_gr σ τ) (h : zz_vk σ sk) : zz_vk τ sk := fun v hv => (h v hv).mono g
theorem zz_vl.mono {σ τ : zz_S} {ls : List (Nat × zz_V)} (g : zz_gr σ τ) (h : zz_vl σ ls) : zz_vl τ ls := fun i => (h i).mono g
theorem zz_ok_i {σ : zz_S} {x : Int} : zz_ok σ (0, x) ↔ -2147483648 ≤ x ∧ x < 2147483648 := by simp [zz_ok]
theorem zz_ok_l {σ : zz_S} {x : Int} : zz_ok σ (1, x) ↔ -9223372036854775808 ≤ x ∧ x < 9223372036854775808 := by simp [zz_ok]
theorem zz_ok_r {σ : zz_S} {t : Nat} {x : Int} (h : 2 ≤ t) (h2 : t ≤ 999) : zz_ok σ (t, x) ↔ 0 ≤ x ∧ x ≤ zz_m σ (t - 2) := by
  unfold zz_ok
  rw [if_neg (show ¬ t = 0 by omega), if_neg (show ¬ t = 1 by omega), if_pos (show t ≤ 999 from h2)]
theorem zz_ok_w {σ : zz_S} {t : Nat} {x : Int} (h : 1000 ≤ t) (h2 : t ≠ 3000) : zz_ok σ (t, x) ↔ 1 ≤ x ∧ x ≤ zz_c σ (t - 1000) := by
  unfold zz_ok
  rw [if_neg (show ¬ t = 0 by omega), if_neg (show ¬ t = 1 by omega), if_neg (show ¬ t ≤ 999 by omega), if_neg (show ¬ t = 3000 from h2)]
theorem zz_cv_i (ad : Nat → Int → Nat) (x : Int) : zz_cv ad (0, x) = .int (Int32.ofInt x) := rfl
theorem zz_cv_l (ad : Nat → Int → Nat) (x : Int) : zz_cv ad (1, x) = .long (Int64.ofInt x) := rfl
theorem zz_cv_0 (ad : Nat → Int → Nat) {t : Nat} (h : 2 ≤ t) : zz_cv ad (t, 0) = .null := by
  unfold zz_cv
  rw [if_neg (show ¬ t = 0 by omega), if_neg (show ¬ t = 1 by omega), if_pos rfl]
theorem zz_cv_r (ad : Nat → Int → Nat) {k : Nat} {x : Int} (h2 : k ≤ 900) (hx : ¬ x = 0) : zz_cv ad (2 + k, x) = .ref (ad k x) := by
  unfold zz_cv
  rw [if_neg (show ¬ 2 + k = 0 by omega), if_neg (show ¬ 2 + k = 1 by omega), if_neg (show ¬ (2 + k, x).2 = 0 from hx), if_pos (show 2 + k ≤ 999 by omega), show 2 + k - 2 = k by omega]
theorem zz_cv_w (ad : Nat → Int → Nat) {k : Nat} {x : Int} (hx : ¬ x = 0) : zz_cv ad (1000 + k, x) = .ref (ad k x) := by
  unfold zz_cv
  rw [if_neg (show ¬ 1000 + k = 0 by omega), if_neg (show ¬ 1000 + k = 1 by omega), if_neg (show ¬ (1000 + k, x).2 = 0 from hx), if_neg (show ¬ 1000 + k ≤ 999 by omega), show 1000 + k - 1000 = k by omega]
theorem zz_cat (ad : Nat → Int → Nat) {t : Nat} {x : Int} (h : t ≠ 1) : (zz_cv ad (t, x)).category = 1 := by
  unfold zz_cv
  split
  · rfl
  · split <;> first | rfl | (split <;> rfl)
theorem zz_catle (v : Value) : v.category ≤ 2 := by cases v <;> simp [Value.category]
/-- addresses that were given before stay -/
def zz_Ex (σ : zz_S) (ad ad' : Nat → Int → Nat) : Prop := ∀ k i, 1 ≤ i → i ≤ zz_c σ k → ad' k i = ad k i
theorem zz_Ex.rf {σ : zz_S} {ad : Nat → Int → Nat} : zz_Ex σ ad ad := fun _ _ _ _ => rfl
theorem zz_Ex.tr {σ τ : zz_S} {a b c : Nat → Int → Nat} (g : zz_gr σ τ) (h : zz_Ex σ a b) (h2 : zz_Ex τ b c) : zz_Ex σ a c := fun k i h1 h3 => (h2 k i h1 (Int.le_trans h3 (g.1 k).1)).trans (h k i h1 h3)
theorem zz_cv_ex {σ : zz_S} {ad ad' : Nat → Int → Nat} (hm : ∀ k, 0 ≤ zz_m σ k ∧ zz_m σ k ≤ zz_c σ k) {v : zz_V} (h : zz_ok σ v) (e : zz_Ex σ ad ad') : zz_cv ad' v = zz_cv ad v := by
  obtain ⟨t, x⟩ := v
  unfold zz_cv
  split
  · rfl
  split
  · rfl
  split
  · rfl
  rename_i h0 h1 h2
  have h0 : ¬ t = 0 := h0
  have h1 : ¬ t = 1 := h1
  have h2 : ¬ x = 0 := h2
  congr 1
  split <;> rename_i h3
  · have h3 : t ≤ 999 := h3
    obtain ⟨a, b⟩ := (zz_ok_r (by omega) h3).mp h
    exact e _ _ (by show 1 ≤ x; omega) (Int.le_trans b (hm _).2)
  · have h3 : ¬ t ≤ 999 := h3
    by_cases h4 : t = 3000
    · subst h4
      exact absurd (show x = 0 from h) h2
    · obtain ⟨a, b⟩ := (zz_ok_w (by omega) h4).mp h
      exact e _ _ a b
theorem zz_gd {l : List Nat} {b : Nat} (h : ∀ t ∈ l, t ≤ b) : ∀ k, l.getD k 0 ≤ b := by
  induction l with
  | nil => exact fun k => Nat.zero_le b
  | cons a l ih =>
    intro k
    cases k with
    | zero => exact h a List.mem_cons_self
    | succ k => exact ih (fun t ht => h t (List.mem_cons_of_mem _ ht)) k
theorem zz_et_le (k : Nat) : zz_et k ≤ 900 := zz_gd (b := 900) (by decide +kernel) k
end
section
theorem zz_tg_le (k : Nat) (j : Int) : zz_tg k j ≤ 900 := by
  unfold zz_tg
  split
  · have h : ∀ k, ∀ t ∈ zz_ty k, t ≤ 900 := by
      intro k
      unfold zz_ty
      split <;> decide +kernel
    exact zz_gd (h k) _
  · exact zz_et_le k
theorem zz_h_w (σ : zz_S) (k : Nat) (i j v : Int) (k' : Nat) (i' j' : Int) : zz_h (zz_w σ k i j v) k' i' j' = if k' = k ∧ i' = i ∧ j' = j then v else zz_h σ k' i' j' := rfl
theorem zz_c_w (σ : zz_S) (k : Nat) (i j v : Int) (k' : Nat) : zz_c (zz_w σ k i j v) k' = zz_c σ k' := rfl
theorem zz_m_w (σ : zz_S) (k : Nat) (i j v : Int) (k' : Nat) : zz_m (zz_w σ k i j v) k' = zz_m σ k' := rfl
theorem zz_h_n (σ : zz_S) (k : Nat) (b : Int) (n : Nat) (k' : Nat) (i' j' : Int) : zz_h (zz_n σ k b n) k' i' j' = if k' = k ∧ i' = zz_c σ k + 1 then 0 else zz_h σ k' i' j' := rfl
theorem zz_c_n (σ : zz_S) (k : Nat) (b : Int) (n : Nat) (k' : Nat) : zz_c (zz_n σ k b n) k' = if k' = k then zz_c σ k + 1 else zz_c σ k' := rfl
theorem zz_m_n (σ : zz_S) (k : Nat) (b : Int) (n : Nat) (k' : Nat) : zz_m (zz_n σ k b n) k' = if k' = k then zz_m σ k + b else zz_m σ k' := rfl
theorem zz_h_f (σ : zz_S) (k : Nat) (k' : Nat) (i' j' : Int) : zz_h (zz_f σ k) k' i' j' = zz_h σ k' i' j' := rfl
theorem zz_c_f (σ : zz_S) (k : Nat) (k' : Nat) : zz_c (zz_f σ k) k' = zz_c σ k' := rfl
theorem zz_m_f (σ : zz_S) (k : Nat) (k' : Nat) : zz_m (zz_f σ k) k' = if k' = k then zz_m σ k + 1 else zz_m σ k' := rfl
theorem zz_gr_w (σ : zz_S) (k : Nat) (i j v : Int) : zz_gr σ (zz_w σ k i j v) := ⟨fun _ => ⟨Int.le_refl _, Int.le_refl _⟩, Nat.le_refl _, Nat.le_refl _⟩
theorem zz_gr_n (σ : zz_S) (k : Nat) {b : Int} (hb : 0 ≤ b) (n : Nat) : zz_gr σ (zz_n σ k b n) := by
  refine ⟨fun q => ⟨?_, ?_⟩, Nat.le_succ _, Nat.le_add_right _ _⟩
  · rw [zz_c_n]
    split
    · rename_i e
      rw [e]
      omega
    · omega
  · rw [zz_m_n]
    split
    · rename_i e
      rw [e]
      omega
    · omega
theorem zz_gr_f (σ : zz_S) (k : Nat) : zz_gr σ (zz_f σ k) := by
  refine ⟨fun q => ⟨Int.le_refl _, ?_⟩, Nat.le_refl _, Nat.le_refl _⟩
  rw [zz_m_f]
  split
  · rename_i e
    rw [e]
    omega
  · omega
theorem zz_fr_w {sd : Nat} (σ : zz_S) {k : Nat} (hk : zz_sd k = sd) (i j v : Int) : zz_fr sd σ (zz_w σ k i j v) := Or.inr fun q hq => ⟨rfl, rfl, fun a b => by
  rw [zz_h_w, if_neg]
  rintro ⟨rfl, -, -⟩
  exact hq hk⟩
theorem zz_fr_n {sd : Nat} (σ : zz_S) {k : Nat} (hk : zz_sd k = sd ∨ sd = 2) (b : Int) (n : Nat) : zz_fr sd σ (zz_n σ k b n) := by
  rcases hk with hk | hk
  · refine Or.inr fun q hq => ?_
    have e : ¬ q = k := fun e => hq (e ▸ hk)
    refine ⟨?_, ?_, fun a b => ?_⟩
    · rw [zz_c_n, if_neg e]
    · rw [zz_m_n, if_neg e]
    · rw [zz_h_n, if_neg (fun z => e z.1)]
  · exact Or.inl hk
theorem zz_fr_f {sd : Nat} (σ : zz_S) {k : Nat} (hk : zz_sd k = sd) : zz_fr sd σ (zz_f σ k) := by
  refine Or.inr fun q hq => ⟨rfl, ?_, fun _ _ => rfl⟩
  rw [zz_m_f, if_neg (show ¬ q = k from fun e => hq (by rw [e]; exact hk))]
theorem zz_ok_0 {σ : zz_S} (hm : ∀ k, 0 ≤ zz_m σ k ∧ zz_m σ k ≤ zz_c σ k) {t : Nat} (h : t ≤ 999) : zz_ok σ (t, 0) := by
  by_cases h0 : t = 0
  · subst h0
    exact zz_ok_i.mpr ⟨by omega, by omega⟩
  by_cases h1 : t = 1
  · subst h1
    exact zz_ok_l.mpr ⟨by omega, by omega⟩
  exact (zz_ok_r (by omega) h).mpr ⟨Int.le_refl _, (hm _).1⟩
theorem zz_ok_eq {σ τ : zz_S} (hc : ∀ k, zz_c σ k = zz_c τ k) (hm : ∀ k, zz_m σ k = zz_m τ k) {v : zz_V} (h : zz_ok σ v) : zz_ok τ v := by
  unfold zz_ok at *
  simpa only [hc, hm] using h
theorem zz_vs_w {σ : zz_S} (h : zz_vs σ) {k : Nat} {i j v : Int} (hv : zz_ok σ (zz_tg k j, v)) (ho : ∀ q ∈ zz_own k, j = q.1 → i ≤ zz_m σ k → v = i) : zz_vs (zz_w σ k i j v) := by
  obtain ⟨h1, h2, h3, h4⟩ := h
  refine ⟨fun k' i' j' a b => ?_, fun k' q hq i' a b => ?_, h3, h4⟩
  · refine zz_ok_eq (σ := σ) (fun _ => rfl) (fun _ => rfl) ?_
    rw [zz_h_w]
    split
    · rename_i e
      obtain ⟨rfl, rfl, rfl⟩ := e
      exact hv
    · exact h1 _ _ _ a b
  · rw [zz_h_w]
    split
    · rename_i e
      obtain ⟨rfl, rfl, e⟩ := e
      exact ho q hq e.symm b
    · exact h2 _ q hq _ a b
theorem zz_vs_n {σ : zz_S} (h : zz_vs σ) {k : Nat} {b : Int} (hb : (b = 0 ∧ zz_ar k = 0) ∨ (b = 1 ∧ zz_own k = [])) (n : Nat) : zz_vs (zz_n σ k b n) := by
  have hb0 : 0 ≤ b ∧ b ≤ 1 := by rcases hb with ⟨rfl, -⟩ | ⟨rfl, -⟩ <;> omega
  have hg := zz_gr_n σ k hb0.1 n
  obtain ⟨h1, h2, h3, h4⟩ := h
  have hm : ∀ q, 0 ≤ zz_m (zz_n σ k b n) q ∧ zz_m (zz_n σ k b n) q ≤ zz_c (zz_n σ k b n) q := by
    intro q
    rw [zz_m_n, zz_c_n]
    have := h3 k
    have := h3 q
    split <;> omega
  refine ⟨fun k' i' j' a b' => ?_, fun k' q hq i' a b' => ?_, hm, Int.le_trans h4.1 (hg.1 1).2, Int.le_trans h4.2.1 (hg.1 2).2, fun k' hk' => ?_⟩
  · rw [zz_h_n]
    split
    · exact zz_ok_0 hm (Nat.le_trans (zz_tg_le _ _) (by omega))
    · rename_i e
      refine (h1 k' i' j' a ?_).mono hg
      rw [zz_c_n] at b'
      split at b'
      · rename_i e2
        subst e2
        have : ¬ i' = zz_c σ k' + 1 := fun z => e ⟨rfl, z⟩
        omega
      · exact b'
  · rw [zz_m_n] at b'
    have hkc := h3 k
    split at b'
    · rename_i e
      subst e
      rcases hb with ⟨hb, -⟩ | ⟨-, hb⟩
      · subst hb
        rw [zz_h_n, if_neg (by rintro ⟨-, e⟩; omega)]
        exact h2 _ q hq _ a (by omega)
      · rw [hb] at hq
        cases hq
    · rename_i e
      rw [zz_h_n, if_neg (by rintro ⟨e2, -⟩; exact e e2)]
      exact h2 _ q hq _ a b'
  · rw [zz_m_n, zz_c_n]
    have h5 := h4.2.2 k' hk'
    split
    · rename_i e
      subst e
      rcases hb with ⟨-, hb⟩ | ⟨hb, -⟩
      · exact absurd hb hk'
      · omega
    · exact h5
theorem zz_ow_mem {σ : zz_S} {k : Nat} {x : Int} : ∀ {l : List (Nat × Nat)}, zz_ow σ k x l = true → ∀ q ∈ l, zz_h σ k x q.1 = x
  | [], _, q, hq => by cases hq
  | a :: l, h, q, hq => by
    simp only [zz_ow, Bool.and_eq_true, decide_eq_true_eq] at h
    rcases List.mem_cons.mp hq with rfl | hq
    · exact h.1
    · exact zz_ow_mem h.2 q hq
theorem zz_vs_f {σ : zz_S} (h : zz_vs σ) {k : Nat} {x : Int} (hk0 : zz_ar k = 0) (ho : zz_ow σ k x (zz_own k) = true) (hx : zz_m σ k + 1 = x) (hc : x ≤ zz_c σ k) : zz_vs (zz_f σ k) := by
  have hg := zz_gr_f σ k
  obtain ⟨h1, h2, h3, h4⟩ := h
  refine ⟨fun k' i' j' a b' => (h1 k' i' j' a b').mono hg, fun k' q hq i' a b' => ?_, fun q => ?_, Int.le_trans h4.1 (hg.1 1).2, Int.le_trans h4.2.1 (hg.1 2).2, fun k' hk' => ?_⟩
  · rw [zz_m_f] at b'
    split at b'
    · rename_i e
      subst e
      by_cases e : i' = x
      · subst e
        exact zz_ow_mem ho q hq
      · exact h2 _ q hq _ a (by omega)
    · exact h2 _ q hq _ a b'
  · rw [zz_m_f, zz_c_f]
    have := h3 k
    have := h3 q
    split
    · rename_i e
      subst e
      omega
    · omega
  · rw [zz_m_f, if_neg (fun e => hk' (by rw [e]; exact hk0))]
    exact h4.2.2 k' hk'
-- the cells
def zz_ac (U : State) (cell : Cell) (k : Nat) : Prop := U.isArrayOf cell (zz_aty k) ∧ cell.vm ≠ .unknown ∧ (zz_ar k = 3 → va_RA U cell.cls (zz_aty k))
def zz_ce (D : va_G) (ad : Nat → Int → Nat) (σ : zz_S) (U : State) (H : Heap) (k : Nat) (i : Int) : Prop :=
  ∃ cell : Cell, H[ad k i]? = some cell ∧ ((zz_ar k = 0 ∧ cell.cls = D.1 (zz_cl k) ∧ cell.vm = .none ∧ ∀ j : Nat, j < zz_len k → cell.slots[D.2 (zz_cl k) j]? = some (zz_cv ad (zz_tg k j, zz_h σ k i j))) ∨ (zz_ar k ≠ 0 ∧ zz_ac U cell k ∧ (cell.slots.size : Int) = zz_al σ k i ∧ ∀ j : Nat, j < cell.slots.size → cell.slots[j]? = some (zz_cv ad (zz_et k, zz_h σ k i j))))
def zz_K (D : va_G) (U : State) : Prop := (∀ (c : Nat) (q : vw_C), zz_vw[c]? = some q → u_Kn U q.1 q.2.1 q.2.2 (D.1 c) (D.2 c)) ∧ (va_AO RX6 U ∧ va_AO RX5 U) ∧ ∀ q ∈ zz_nm, va_Nw (zz_nl q) U
def zz_Z (n0 t1 t2 : Nat) (U : State) (H : Heap) : Prop := va_Z "CinemaClock$Calendar" "MONTH_STARTS" "[I" (.ref t1) (fun q => n0 ≤ q) U H ∧ va_Z "CinemaClock$Calendar" "LAST_A" "[I" (.ref t2) (fun q => n0 ≤ q) U H
def zz_Hd (D : va_G) (n0 : Nat) (ad : Nat → Int → Nat) (σ : zz_S) (U : State) (H : Heap) : Prop :=
  n0 ≤ H.size ∧ (∀ k i, 1 ≤ i → i ≤ zz_c σ k → zz_ce D ad σ U H k i ∧ (k ≤ 2 → ad k i < n0) ∧ (3 ≤ k → n0 ≤ ad k i)) ∧ (∀ k i k' i', 3 ≤ k → 3 ≤ k' → (1 ≤ i ∧ i ≤ zz_c σ k) → (1 ≤ i' ∧ i' ≤ zz_c σ k') → ad k i = ad k' i' → k = k' ∧ i = i') ∧ zz_Z n0 (ad 1 1) (ad 2 1) U H
theorem zz_K.calling {D : va_G} {U : State} {g : JFrame} {mk : MethodId} {a : Array Value} (h : zz_K D U) : zz_K D (U.calling g mk a) := by
  refine ⟨fun c q hq => u_Kn_moved (u := U) (U := U.calling g mk a) (Vm.Alike.refl U.vm) (h.1 c q hq), ⟨va_AO.moved (u := U) (U := U.calling g mk a) (Vm.Alike.refl U.vm) h.2.1.1, va_AO.moved (u := U) (U := U.calling g mk a) (Vm.Alike.refl U.vm) h.2.1.2⟩, fun q hq => va_Nw.same rfl (u := U) (U := U.calling g mk a) rfl (h.2.2 q hq)⟩
theorem zz_K.warm {D : va_G} {s U : State} (hW : s.WarmedH U.vm) (h : zz_K D s) : zz_K D U :=
  ⟨fun c q hq => u_Kn_moved hW.alike (h.1 c q hq), ⟨va_AO.moved hW.alike h.2.1.1, va_AO.moved hW.alike h.2.1.2⟩, fun q hq => va_Nw.warmM hW (h.2.2 q hq)⟩
theorem zz_ac.moved {u U : State} (hvm : u.vm.Alike U.vm) {cell : Cell} {k : Nat} (h : zz_ac u cell k) : zz_ac U cell k := ⟨State.isArrayOf_alike hvm h.1, h.2.1, fun e => (h.2.2 e).moved hvm⟩
theorem zz_Hd.moved {D : va_G} {n0 : Nat} {ad : Nat → Int → Nat} {σ : zz_S} {u U : State} {H : Heap} (hvm : u.vm.Alike U.vm) (h : zz_Hd D n0 ad σ u H) : zz_Hd D n0 ad σ U H := by
  obtain ⟨h0, h1, h2, h3, h4⟩ := h
  refine ⟨h0, fun k i a b => ⟨?_, (h1 k i a b).2⟩, h2, h3.moved hvm, h4.moved hvm⟩
  obtain ⟨⟨cell, hc, r⟩, -⟩ := h1 k i a b
  refine ⟨cell, hc, ?_⟩
  rcases r with r | ⟨r1, r2, r3⟩
  · exact Or.inl r
  · exact Or.inr ⟨r1, r2.moved hvm, r3⟩
theorem zz_Hd.put {D : va_G} {n0 : Nat} {ad : Nat → Int → Nat} {σ : zz_S} {U : State} {H H' : Heap} (h : zz_Hd D n0 ad σ U H) {k : Nat} {i j v : Int} (hk : 3 ≤ k) (hi : 1 ≤ i) (hc : i ≤ zz_c σ k) (hz : H'.size = H.size) (ho : ∀ q : Nat, q ≠ ad k i → H'[q]? = H[q]?) (hn : zz_ce D ad (zz_w σ k i j v) U H' k i) : zz_Hd D n0 ad (zz_w σ k i j v) U H' := by
  obtain ⟨h0, h1, h2, h3, h4⟩ := h
  have hge : n0 ≤ ad k i := (h1 k i hi hc).2.2 hk
  refine ⟨by omega, fun k' i' a b => ⟨?_, (h1 k' i' a b).2⟩, h2, h3.kept (fun q _ hq => ho q (fun e => hq (by omega))), h4.kept (fun q _ hq => ho q (fun e => hq (by omega)))⟩
  by_cases e : k' = k ∧ i' = i
  · obtain ⟨rfl, rfl⟩ := e
    exact hn
  · have hne : ad k' i' ≠ ad k i := by
      intro z
      by_cases hk' : 3 ≤ k'
      · exact e (h2 k' i' k i hk' hk ⟨a, b⟩ ⟨hi, hc⟩ z)
      · have := (h1 k' i' a b).2.1 (by omega)
        omega
    obtain ⟨⟨cell, g1, r⟩, -⟩ := h1 k' i' a b
    refine ⟨cell, by rw [ho _ hne]; exact g1, ?_⟩
    have hh : ∀ j', zz_h (zz_w σ k i j v) k' i' j' = zz_h σ k' i' j' := fun j' => by
      rw [zz_h_w, if_neg (fun z => e ⟨z.1, z.2.1⟩)]
    have hl : zz_al (zz_w σ k i j v) k' i' = zz_al σ k' i' := by
      unfold zz_al
      split
      · rw [zz_h_w, if_neg (fun z => by omega)]
      · rfl
    simp only [hh, hl]
    exact r
def zz_up (ad : Nat → Int → Nat) (k : Nat) (i : Int) (q : Nat) : Nat → Int → Nat := fun k' i' => if k' = k ∧ i' = i then q else ad k' i'
theorem zz_up_ex {σ : zz_S} {ad : Nat → Int → Nat} {k : Nat} {q : Nat} : zz_Ex σ ad (zz_up ad k (zz_c σ k + 1) q) := fun k' i' a b => by
  unfold zz_up
  rw [if_neg]
  rintro ⟨rfl, rfl⟩
  omega
theorem zz_Hd.new {D : va_G} {n0 : Nat} {ad : Nat → Int → Nat} {σ : zz_S} {U : State} {H H' : Heap} (hv : zz_vs σ) (h : zz_Hd D n0 ad σ U H) {k : Nat} {b : Int} {n : Nat} (hk : 3 ≤ k) (ho : ∀ q : Nat, q < H.size → H'[q]? = H[q]?) (hz : H'.size = H.size + 1) (hn : zz_ce D (zz_up ad k (zz_c σ k + 1) H.size) (zz_n σ k b n) U H' k (zz_c σ k + 1)) : zz_Hd D n0 (zz_up ad k (zz_c σ k + 1) H.size) (zz_n σ k b n) U H' := by
  obtain ⟨h0, h1, h2, h3, h4⟩ := h
  have hex := zz_up_ex (σ := σ) (ad := ad) (k := k) (q := H.size)
  have hold : ∀ k' i', 1 ≤ i' → i' ≤ zz_c (zz_n σ k b n) k' → (k' = k ∧ i' = zz_c σ k + 1) ∨ i' ≤ zz_c σ k' := by
    intro k' i' a b'
    rw [zz_c_n] at b'
    split at b'
    · rename_i e
      subst e
      by_cases e : i' = zz_c σ k' + 1
      · exact Or.inl ⟨rfl, e⟩
      · exact Or.inr (by omega)
    · exact Or.inr b'
  have hlt : ∀ k' i', 1 ≤ i' → i' ≤ zz_c σ k' → ad k' i' < H.size := by
    intro k' i' a b'
    obtain ⟨⟨cell, g1, -⟩, -⟩ := h1 k' i' a b'
    exact (Array.getElem?_eq_some_iff.mp g1).1
  have hself : zz_up ad k (zz_c σ k + 1) H.size k (zz_c σ k + 1) = H.size := if_pos ⟨rfl, rfl⟩
  have k1 : zz_up ad k (zz_c σ k + 1) H.size 1 1 = ad 1 1 := if_neg (by rintro ⟨e, -⟩; omega)
  have k2 : zz_up ad k (zz_c σ k + 1) H.size 2 1 = ad 2 1 := if_neg (by rintro ⟨e, -⟩; omega)
  refine ⟨by omega, fun k' i' a b' => ?_, fun k' i' k'' i'' e1 e2 f1 f2 e => ?_, by rw [k1]; exact h3.kept (fun q hq _ => ho q hq), by rw [k2]; exact h4.kept (fun q hq _ => ho q hq)⟩
  · rcases hold k' i' a b' with ⟨rfl, rfl⟩ | hc
    · exact ⟨hn, fun e => by omega, fun _ => by rw [hself]; exact h0⟩
    · rw [hex k' i' a hc]
      refine ⟨?_, (h1 k' i' a hc).2⟩
      obtain ⟨⟨cell, g1, r⟩, -⟩ := h1 k' i' a hc
      refine ⟨cell, by rw [hex k' i' a hc, ho _ (hlt k' i' a hc)]; exact g1, ?_⟩
      have hne : ¬ (k' = k ∧ i' = zz_c σ k + 1) := by
        rintro ⟨rfl, rfl⟩
        omega
      have hh : ∀ j', zz_h (zz_n σ k b n) k' i' j' = zz_h σ k' i' j' := fun j' => by rw [zz_h_n, if_neg hne]
      have hl : zz_al (zz_n σ k b n) k' i' = zz_al σ k' i' := by
        unfold zz_al
        split
        · rw [zz_h_n, if_neg (fun z => by omega)]
        · rfl
      rcases r with ⟨r0, r1, r2, r3⟩ | ⟨r0, r1, r2, r3⟩
      · refine Or.inl ⟨r0, r1, r2, fun j hj => ?_⟩
        rw [hh, zz_cv_ex hv.2.2.1 (hv.1 k' i' j a hc) hex]
        exact r3 j hj
      · refine Or.inr ⟨r0, r1, by rw [hl]; exact r2, fun j hj => ?_⟩
        have ht := hv.1 k' i' j a hc
        unfold zz_tg at ht
        rw [if_neg r0] at ht
        rw [hh, zz_cv_ex hv.2.2.1 ht hex]
        exact r3 j hj
  · rcases hold k' i' f1.1 f1.2 with ⟨rfl, rfl⟩ | c1 <;> rcases hold k'' i'' f2.1 f2.2 with ⟨rfl, rfl⟩ | c2
    · exact ⟨rfl, rfl⟩
    · rw [hself, hex k'' i'' f2.1 c2] at e
      have := hlt k'' i'' f2.1 c2
      omega
    · rw [hself, hex k' i' f1.1 c1] at e
      have := hlt k' i' f1.1 c1
      omega
    · rw [hex k'' i'' f2.1 c2, hex k' i' f1.1 c1] at e
      exact h2 k' i' k'' i'' e1 e2 ⟨f1.1, c1⟩ ⟨f2.1, c2⟩ e
end
section
/-! A METHOD'S FRAME AT A PLACE: what the evaluator says comes true on the machine -/
abbrev zz_M : Type := String × ByteArray × Nat × Option FieldType × Nat × Bool × Nat × Nat × Nat
abbrev zm_own (M : zz_M) : String := M.1
abbrev zm_b (M : zz_M) : ByteArray := M.2.1
abbrev zm_l (M : zz_M) : Nat := M.2.2.1
abbrev zm_ret (M : zz_M) : Option FieldType := M.2.2.2.1
abbrev zm_rt (M : zz_M) : Nat := M.2.2.2.2.1
abbrev zm_rb (M : zz_M) : Bool := M.2.2.2.2.2.1
abbrev zm_th (M : zz_M) : Nat := M.2.2.2.2.2.2.1
abbrev zm_sd (M : zz_M) : Nat := M.2.2.2.2.2.2.2.1
abbrev zm_h (M : zz_M) : Nat := M.2.2.2.2.2.2.2.2
def zz_Cx (M : zz_M) (p : Program) (R : Room) (s : State) (m : MethodId) (args : Array Value) (meth : Method) (c : Code) : Prop :=
  p.tables.exec = Jvm.exec ∧ c.code = zm_b M ∧ c.maxLocals = zm_l M ∧ s.vm.findClass (zm_own M) = some m.cls ∧ (∀ w ∈ zz_tb, w.before args s = true) ∧ meth.sig.returnType = zm_ret M ∧ meth.locks = false ∧ zm_h M ≤ R.frames ∧ 26 * zm_h M ≤ R.locals ∧ (zm_th M ≠ 0 → meth.name = "<init>")
def zz_L (ls : Array Slot) (nL : Nat) (ad : Nat → Int → Nat) (lv : List (Nat × zz_V)) : Prop := lv_has ls nL [] ∧ ∀ i, (zz_lk lv i).1 ≠ 1 → ls[i]? = some (.val (zz_cv ad (zz_lk lv i)))
def zz_rv (M : zz_M) (ad : Nat → Int → Nat) (r : Int) : List Value := if zm_rt M = 999 then [] else [zz_cv ad (zm_rt M, r)]
def zz_rd (M : zz_M) (pc : Nat) : Prop := decode (zm_b M) pc = .ok (if zm_rt M = 999 then .return_ else if zm_rt M = 0 then .ireturn else .areturn, 1)
def zz_go (M : zz_M) (σ : zz_S) (r : Int) (τ : zz_S) : Prop := zz_vs τ ∧ (zm_rt M ≠ 999 → zz_ok τ (zm_rt M, r)) ∧ (zm_rb M = true → zz_o r) ∧ zz_gr σ τ ∧ zz_fr (zm_sd M) σ τ
def zz_At (M : zz_M) (pc : Nat) (lv : List (Nat × zz_V)) (sk : List zz_V) (σ : zz_S) (r : Int) (τ : zz_S) : Prop := zz_vs σ → zz_vl σ lv → zz_vk σ sk → zz_go M σ r τ ∧
  ∀ (p : Program) (l : Launch) (e : Env) (R : Room) (s : State) (m : MethodId) (args : Array Value) (below : List Frame) (meth : Method) (c : Code), zz_Cx M p R s m args meth c → ∀ (D : va_G) (n0 : Nat) (ad : Nat → Int → Nat) (H : Heap) (locs : List Loc) (cells slots : Nat) (ls : Array Slot) (Q : State → Prop), zz_K D s → zz_Hd D n0 ad σ s H → zz_L ls (zm_l M) ad lv → (∀ q ∈ locs, n0 ≤ q.base) → cells + (zz_nc τ - zz_nc σ) ≤ R.cells → slots + (zz_ns τ - zz_ns σ) ≤ R.slots →
    (∀ (ad' : Nat → Int → Nat) (H' : Heap) (locs' : List Loc) (ls' : Array Slot) (pc' : Nat), zz_Ex σ ad ad' → zz_Hd D n0 ad' τ s H' → (∀ q ∈ locs', n0 ≤ q.base) → zz_rd M pc' → W p l e R s m args below meth c H' locs' (cells + (zz_nc τ - zz_nc σ)) (slots + (zz_ns τ - zz_ns σ)) Q (F0 m pc' ls' (zz_rv M ad' r))) →
    W p l e R s m args below meth c H locs cells slots Q (F0 m pc ls (sk.map (zz_cv ad)))
section ZSTEP
variable {M : zz_M} {pc pc2 : Nat} {lv lv2 : List (Nat × zz_V)} {sk sk2 : List zz_V} {σ σ2 τ : zz_S} {r : Int}
theorem zz_At.step (hv : zz_vs σ → zz_vl σ lv → zz_vk σ sk → zz_vs σ2 ∧ zz_vl σ2 lv2 ∧ zz_vk σ2 sk2 ∧ zz_gr σ σ2 ∧ zz_fr (zm_sd M) σ σ2)
    (hm : zz_vs σ → zz_vl σ lv → zz_vk σ sk → ∀ (p : Program) (l : Launch) (e : Env) (R : Room) (s : State) (m : MethodId) (args : Array Value) (below : List Frame) (meth : Method) (c : Code), zz_Cx M p R s m args meth c → ∀ (D : va_G) (n0 : Nat) (ad : Nat → Int → Nat) (H : Heap) (locs : List Loc) (cells slots : Nat) (ls : Array Slot) (Q : State → Prop), zz_K D s → zz_Hd D n0 ad σ s H → zz_L ls (zm_l M) ad lv → (∀ q ∈ locs, n0 ≤ q.base) → cells + (zz_nc σ2 - zz_nc σ) ≤ R.cells → slots + (zz_ns σ2 - zz_ns σ) ≤ R.slots →
      (∀ (ad' : Nat → Int → Nat) (H' : Heap) (locs' : List Loc) (ls' : Array Slot), zz_Ex σ ad ad' → zz_Hd D n0 ad' σ2 s H' → zz_L ls' (zm_l M) ad' lv2 → (∀ q ∈ locs', n0 ≤ q.base) → W p l e R s m args below meth c H' locs' (cells + (zz_nc σ2 - zz_nc σ)) (slots + (zz_ns σ2 - zz_ns σ)) Q (F0 m pc2 ls' (sk2.map (zz_cv ad')))) →
      W p l e R s m args below meth c H locs cells slots Q (F0 m pc ls (sk.map (zz_cv ad))))
    (h : zz_At M pc2 lv2 sk2 σ2 r τ) : zz_At M pc lv sk σ r τ := by
  intro a1 a2 a3
  obtain ⟨b1, b2, b3, g1, f1⟩ := hv a1 a2 a3
  obtain ⟨⟨c1, c2, c3, c4, c5⟩, hW⟩ := h b1 b2 b3
  refine ⟨⟨c1, c2, c3, g1.tr c4, f1.tr c5⟩, ?_⟩
  intro p l e R s m args below meth c C D n0 ad H locs cells slots ls Q hK hH hL hlo hcl hsl k
  have n1 := g1.2.1
  have n2 := c4.2.1
  have n3 := g1.2.2
  have n4 := c4.2.2
  refine hm a1 a2 a3 p l e R s m args below meth c C D n0 ad H locs cells slots ls Q hK hH hL hlo (by omega) (by omega) ?_
  intro ad' H' locs' ls' hex hH' hL' hlo'
  refine hW p l e R s m args below meth c C D n0 ad' H' locs' _ _ ls' Q hK hH' hL' hlo' (by omega) (by omega) ?_
  intro ad2 H2 locs2 ls2 pc' hex2 hH2 hlo2 hrd
  have e1 : cells + (zz_nc σ2 - zz_nc σ) + (zz_nc τ - zz_nc σ2) = cells + (zz_nc τ - zz_nc σ) := by omega
  have e2 : slots + (zz_ns σ2 - zz_ns σ) + (zz_ns τ - zz_ns σ2) = slots + (zz_ns τ - zz_ns σ) := by omega
  rw [e1, e2]
  exact k ad2 H2 locs2 ls2 pc' (hex.tr g1 hex2) hH2 hlo2 hrd
/-- nothing but the place and the stack changes -/
theorem zz_At.pure (hv : zz_vs σ → zz_vl σ lv → zz_vk σ sk → zz_vk σ sk2)
    (hm : zz_vs σ → zz_vl σ lv → zz_vk σ sk → ∀ (p : Program) (l : Launch) (e : Env) (R : Room) (s : State) (m : MethodId) (args : Array Value) (below : List Frame) (meth : Method) (c : Code), zz_Cx M p R s m args meth c → ∀ (D : va_G) (n0 : Nat) (ad : Nat → Int → Nat) (H : Heap) (locs : List Loc) (cells slots : Nat) (ls : Array Slot) (Q : State → Prop), zz_K D s → zz_Hd D n0 ad σ s H → zz_L ls (zm_l M) ad lv →
      W p l e R s m args below meth c H locs cells slots Q (F0 m pc2 ls (sk2.map (zz_cv ad))) →
      W p l e R s m args below meth c H locs cells slots Q (F0 m pc ls (sk.map (zz_cv ad))))
    (h : zz_At M pc2 lv sk2 σ r τ) : zz_At M pc lv sk σ r τ := by
  refine zz_At.step (fun a b c => ⟨a, b, hv a b c, zz_gr.rf, zz_fr.rf⟩) ?_ h
  intro a1 a2 a3 p l e R s m args below meth c C D n0 ad H locs cells slots ls Q hK hH hL hlo hcl hsl k
  have k := k ad H locs ls zz_Ex.rf hH hL hlo
  rw [Nat.sub_self, Nat.sub_self] at k
  exact hm a1 a2 a3 p l e R s m args below meth c C D n0 ad H locs cells slots ls Q hK hH hL k
/-- nothing but the place and the locals changes -/
theorem zz_At.loc (hv : zz_vs σ → zz_vl σ lv → zz_vk σ sk → zz_vl σ lv2 ∧ zz_vk σ sk2)
    (hm : zz_vs σ → zz_vl σ lv → zz_vk σ sk → ∀ (p : Program) (l : Launch) (e : Env) (R : Room) (s : State) (m : MethodId) (args : Array Value) (below : List Frame) (meth : Method) (c : Code), zz_Cx M p R s m args meth c → ∀ (ad : Nat → Int → Nat) (H : Heap) (locs : List Loc) (cells slots : Nat) (ls : Array Slot) (Q : State → Prop), zz_L ls (zm_l M) ad lv →
      (∀ ls', zz_L ls' (zm_l M) ad lv2 → W p l e R s m args below meth c H locs cells slots Q (F0 m pc2 ls' (sk2.map (zz_cv ad)))) →
      W p l e R s m args below meth c H locs cells slots Q (F0 m pc ls (sk.map (zz_cv ad))))
    (h : zz_At M pc2 lv2 sk2 σ r τ) : zz_At M pc lv sk σ r τ := by
  refine zz_At.step (fun a b c => ⟨a, (hv a b c).1, (hv a b c).2, zz_gr.rf, zz_fr.rf⟩) ?_ h
  intro a1 a2 a3 p l e R s m args below meth c C D n0 ad H locs cells slots ls Q hK hH hL hlo hcl hsl k
  refine hm a1 a2 a3 p l e R s m args below meth c C ad H locs cells slots ls Q hL fun ls' hL' => ?_
  have k := k ad H locs ls' zz_Ex.rf hH hL' hlo
  rw [Nat.sub_self, Nat.sub_self] at k
  exact k
end ZSTEP
-- numbers
theorem zz_rng (x : Int32) : -2147483648 ≤ x.toInt ∧ x.toInt < 2147483648 := by
  have h1 := Int32.le_toInt x
  have h2 := Int32.toInt_lt x
  omega
theorem zz_rngL (x : Int64) : -9223372036854775808 ≤ x.toInt ∧ x.toInt < 9223372036854775808 := by
  have h1 := Int64.le_toInt x
  have h2 := Int64.toInt_lt x
  omega
theorem zz_toI {z : Int} (h : -2147483648 ≤ z ∧ z < 2147483648) : (Int32.ofInt z).toInt = z := by
  have e : ((Int32.size : Nat) : Int) = 4294967296 := rfl
  rw [Int32.toInt_ofInt, Int.bmod_eq_of_le (by omega) (by omega)]
theorem zz_toL {z : Int} (h : -9223372036854775808 ≤ z ∧ z < 9223372036854775808) : (Int64.ofInt z).toInt = z := by
  have e : ((Int64.size : Nat) : Int) = 18446744073709551616 := rfl
  rw [Int64.toInt_ofInt, Int.bmod_eq_of_le (by omega) (by omega)]
theorem zz_ok_t {σ : zz_S} (x : Int32) : zz_ok σ (0, x.toInt) := zz_ok_i.mpr (zz_rng x)
theorem zz_ok_tL {σ : zz_S} (x : Int64) : zz_ok σ (1, x.toInt) := zz_ok_l.mpr (zz_rngL x)
theorem zz_lt {x y : Int} (hx : -2147483648 ≤ x ∧ x < 2147483648) (hy : -2147483648 ≤ y ∧ y < 2147483648) : Int32.ofInt x < Int32.ofInt y ↔ x < y := by
  rw [Int32.lt_iff_toInt_lt, zz_toI hx, zz_toI hy]
theorem zz_le {x y : Int} (hx : -2147483648 ≤ x ∧ x < 2147483648) (hy : -2147483648 ≤ y ∧ y < 2147483648) : Int32.ofInt x ≤ Int32.ofInt y ↔ x ≤ y := by
  rw [Int32.le_iff_toInt_le, zz_toI hx, zz_toI hy]
theorem zz_eq {x y : Int} (hx : -2147483648 ≤ x ∧ x < 2147483648) (hy : -2147483648 ≤ y ∧ y < 2147483648) : Int32.ofInt x = Int32.ofInt y ↔ x = y := by
  rw [← Int32.toInt_inj, zz_toI hx, zz_toI hy]
theorem zz_eq0 {x : Int} (hx : -2147483648 ≤ x ∧ x < 2147483648) : Int32.ofInt x = 0 ↔ x = 0 := zz_eq hx (y := 0) ⟨by omega, by omega⟩
theorem zz_of32 (x : Int32) : Int32.ofInt x.toInt = x := Int32.ofInt_toInt x
theorem zz_of64 (x : Int64) : Int64.ofInt x.toInt = x := Int64.ofInt_toInt x
theorem zz_lcv {x y : Int} (hx : -9223372036854775808 ≤ x ∧ x < 9223372036854775808) (hy : -9223372036854775808 ≤ y ∧ y < 9223372036854775808) : lg_cmp (Int64.ofInt x) (Int64.ofInt y) = Int32.ofInt (zz_lc x y) := by
  unfold lg_cmp zz_lc
  have e1 : Int64.ofInt x > Int64.ofInt y ↔ y < x := by
    show Int64.ofInt y < Int64.ofInt x ↔ _
    rw [Int64.lt_iff_toInt_lt, zz_toL hx, zz_toL hy]
  have e2 : Int64.ofInt x = Int64.ofInt y ↔ x = y := by rw [← Int64.toInt_inj, zz_toL hx, zz_toL hy]
  by_cases h1 : y < x
  · rw [if_pos (e1.mpr h1), if_neg (by omega), if_neg (by omega)]
    rfl
  · rw [if_neg (fun z => h1 (e1.mp z))]
    by_cases h2 : x = y
    · rw [if_pos (e2.mpr h2), if_neg (by omega), if_pos h2]
      rfl
    · rw [if_neg (fun z => h2 (e2.mp z)), if_pos (by omega)]
      rfl
theorem zz_clamp {x : Int} (h0 : 0 ≤ x) (h1 : x < 2147483648) : ¬ Int32.ofInt x < 0 ∧ (Int32.ofInt x).toNatClampNeg = x.toNat := by
  have e := zz_toI (z := x) ⟨by omega, h1⟩
  refine ⟨fun h => ?_, ?_⟩
  · rw [Int32.lt_iff_toInt_lt, e] at h
    have : (0 : Int32).toInt = 0 := rfl
    omega
  · show (Int32.ofInt x).toInt.toNat = _
    rw [e]
end
section
section ZROWS
variable {M : zz_M} {pc : Nat} {lv : List (Nat × zz_V)} {sk : List zz_V} {σ τ : zz_S} {r : Int}
theorem zz_vk_c {v : zz_V} : zz_vk σ (v :: sk) ↔ zz_ok σ v ∧ zz_vk σ sk := List.forall_mem_cons
theorem zz_v0 {v : zz_V} (h : zz_ok σ v) (_ : zz_vs σ) (_ : zz_vl σ lv) (k : zz_vk σ sk) : zz_vk σ (v :: sk) := zz_vk_c.mpr ⟨h, k⟩
theorem zz_v1 {v a : zz_V} (h : zz_ok σ v) (_ : zz_vs σ) (_ : zz_vl σ lv) (k : zz_vk σ (a :: sk)) : zz_vk σ (v :: sk) := zz_vk_c.mpr ⟨h, (zz_vk_c.mp k).2⟩
theorem zz_v2 {v a b : zz_V} (h : zz_ok σ v) (_ : zz_vs σ) (_ : zz_vl σ lv) (k : zz_vk σ (a :: b :: sk)) : zz_vk σ (v :: sk) := zz_vk_c.mpr ⟨h, (zz_vk_c.mp (zz_vk_c.mp k).2).2⟩
theorem zz_vd1 {a : zz_V} (_ : zz_vs σ) (_ : zz_vl σ lv) (k : zz_vk σ (a :: sk)) : zz_vk σ sk := (zz_vk_c.mp k).2
theorem zz_vd2 {a b : zz_V} (_ : zz_vs σ) (_ : zz_vl σ lv) (k : zz_vk σ (a :: b :: sk)) : zz_vk σ sk := (zz_vk_c.mp (zz_vk_c.mp k).2).2
theorem zz_cv_ref (ad : Nat → Int → Nat) {t : Nat} {x : Int} (h : 2 ≤ t) (hx : ¬ x = 0) : ∃ q : Nat, zz_cv ad (t, x) = .ref q := by
  unfold zz_cv
  rw [if_neg (show ¬ (t, x).1 = 0 from (by show ¬ t = 0; omega)), if_neg (show ¬ (t, x).1 = 1 from (by show ¬ t = 1; omega)), if_neg (show ¬ (t, x).2 = 0 from hx)]
  exact ⟨_, rfl⟩
theorem zs_null (hd : decode (zm_b M) pc = .ok (.aconst_null, 1)) (h : zz_At M (pc + 1) lv ((3000, 0) :: sk) σ r τ) : zz_At M pc lv sk σ r τ :=
  zz_At.pure (sk2 := ((3000, 0) :: sk)) (zz_v0 (by rfl)) (fun a1 a2 a3 p l e R s m args below meth c C D n0 ad H locs cells slots ls Q hK hH hL k => lv_null C.1 C.2.1 hd k) h
theorem zs_iconst {i : Int} (hd : decode (zm_b M) pc = .ok (.iconst i, 1)) (hi : -2147483648 ≤ i ∧ i < 2147483648) (h : zz_At M (pc + 1) lv ((0, i) :: sk) σ r τ) : zz_At M pc lv sk σ r τ :=
  zz_At.pure (sk2 := ((0, i) :: sk)) (zz_v0 (zz_ok_i.mpr hi)) (fun a1 a2 a3 p l e R s m args below meth c C D n0 ad H locs cells slots ls Q hK hH hL k => lv_iconst (v := Int32.ofInt i) C.1 C.2.1 hd rfl k) h
theorem zs_bipush {i : Int} (hd : decode (zm_b M) pc = .ok (.bipush i, 2)) (hi : -2147483648 ≤ i ∧ i < 2147483648) (he : (Int8.ofInt i).toInt32 = Int32.ofInt i) (h : zz_At M (pc + 2) lv ((0, i) :: sk) σ r τ) : zz_At M pc lv sk σ r τ :=
  zz_At.pure (sk2 := ((0, i) :: sk)) (zz_v0 (zz_ok_i.mpr hi)) (fun a1 a2 a3 p l e R s m args below meth c C D n0 ad H locs cells slots ls Q hK hH hL k => lv_bipush (v := Int32.ofInt i) C.1 C.2.1 hd he k) h
theorem zs_sipush {i : Int} (hd : decode (zm_b M) pc = .ok (.sipush i, 3)) (hi : -2147483648 ≤ i ∧ i < 2147483648) (he : (Int16.ofInt i).toInt32 = Int32.ofInt i) (h : zz_At M (pc + 3) lv ((0, i) :: sk) σ r τ) : zz_At M pc lv sk σ r τ :=
  zz_At.pure (sk2 := ((0, i) :: sk)) (zz_v0 (zz_ok_i.mpr hi)) (fun a1 a2 a3 p l e R s m args below meth c C D n0 ad H locs cells slots ls Q hK hH hL k => lv_sipush (v := Int32.ofInt i) C.1 C.2.1 hd he k) h
theorem zs_lconst {i : Fin 2} {v : Int} (hd : decode (zm_b M) pc = .ok (.lconst i, 1)) (hi : -9223372036854775808 ≤ v ∧ v < 9223372036854775808) (he : Int64.ofNat (i : Nat) = Int64.ofInt v) (h : zz_At M (pc + 1) lv ((1, v) :: sk) σ r τ) : zz_At M pc lv sk σ r τ :=
  zz_At.pure (sk2 := ((1, v) :: sk)) (zz_v0 (zz_ok_l.mpr hi)) (fun a1 a2 a3 p l e R s m args below meth c C D n0 ad H locs cells slots ls Q hK hH hL k => lv_lconst (v := Int64.ofInt v) C.1 C.2.1 hd he k) h
theorem zs_ldc {i : Nat} {v : Int} (hd : decode (zm_b M) pc = .ok (.ldc i, 2)) (hi : -2147483648 ≤ v ∧ v < 2147483648) (hw : Jvm.Cond.constant (zm_own M) i (Int32.ofInt v) ∈ zz_tb) (h : zz_At M (pc + 2) lv ((0, v) :: sk) σ r τ) : zz_At M pc lv sk σ r τ :=
  zz_At.pure (sk2 := ((0, v) :: sk)) (zz_v0 (zz_ok_i.mpr hi)) (fun a1 a2 a3 p l e R s m args below meth c C D n0 ad H locs cells slots ls Q hK hH hL k => lv_ldc C.1 C.2.1 C.2.2.2.1 (C.2.2.2.2.1 _ hw) hd k) h
theorem zs_ldcw {i : Nat} {v : Int} (hd : decode (zm_b M) pc = .ok (.ldc_w i, 3)) (hi : -2147483648 ≤ v ∧ v < 2147483648) (hw : Jvm.Cond.constant (zm_own M) i (Int32.ofInt v) ∈ zz_tb) (h : zz_At M (pc + 3) lv ((0, v) :: sk) σ r τ) : zz_At M pc lv sk σ r τ :=
  zz_At.pure (sk2 := ((0, v) :: sk)) (zz_v0 (zz_ok_i.mpr hi)) (fun a1 a2 a3 p l e R s m args below meth c C D n0 ad H locs cells slots ls Q hK hH hL k => lv_ldcw C.1 C.2.1 C.2.2.2.1 (C.2.2.2.2.1 _ hw) hd k) h
theorem zs_ldc2 {i : Nat} {v : Int} (hd : decode (zm_b M) pc = .ok (.ldc2_w i, 3)) (hi : -9223372036854775808 ≤ v ∧ v < 9223372036854775808) (hw : Jvm.Cond.constantLong (zm_own M) i (Int64.ofInt v) ∈ zz_tb) (h : zz_At M (pc + 3) lv ((1, v) :: sk) σ r τ) : zz_At M pc lv sk σ r τ :=
  zz_At.pure (sk2 := ((1, v) :: sk)) (zz_v0 (zz_ok_l.mpr hi)) (fun a1 a2 a3 p l e R s m args below meth c C D n0 ad H locs cells slots ls Q hK hH hL k => lv_ldc2 C.1 C.2.1 C.2.2.2.1 (C.2.2.2.2.1 _ hw) hd k) h
theorem zz_L.at {ls : Array Slot} {nL : Nat} {ad : Nat → Int → Nat} {i t : Nat} {x : Int} (h : zz_L ls nL ad lv) (e : zz_lk lv i = (t, x)) (ht : t ≠ 1) : ls[i]? = some (.val (zz_cv ad (t, x))) := by
  have := h.2 i (by rw [e]; exact ht)
  rwa [e] at this
theorem zz_vl_at {i t : Nat} {x : Int} (e : zz_lk lv i = (t, x)) (_ : zz_vs σ) (a : zz_vl σ lv) (k : zz_vk σ sk) : zz_vk σ ((t, x) :: sk) := zz_vk_c.mpr ⟨by have := a i; rwa [e] at this, k⟩
theorem zs_iload {i : Nat} {x : Int} (hd : decode (zm_b M) pc = .ok (.iload i, 2)) (he : zz_lk lv i = (0, x)) (h : zz_At M (pc + 2) lv ((0, x) :: sk) σ r τ) : zz_At M pc lv sk σ r τ :=
  zz_At.pure (sk2 := ((0, x) :: sk)) (zz_vl_at he) (fun a1 a2 a3 p l e R s m args below meth c C D n0 ad H locs cells slots ls Q hK hH hL k => lv_iload C.1 C.2.1 hd (hL.at he (by decide)) k) h
theorem zs_iloadn {i : Fin 4} {x : Int} (hd : decode (zm_b M) pc = .ok (.iload_n i, 1)) (he : zz_lk lv i.val = (0, x)) (h : zz_At M (pc + 1) lv ((0, x) :: sk) σ r τ) : zz_At M pc lv sk σ r τ :=
  zz_At.pure (sk2 := ((0, x) :: sk)) (zz_vl_at he) (fun a1 a2 a3 p l e R s m args below meth c C D n0 ad H locs cells slots ls Q hK hH hL k => lv_iload_n C.1 C.2.1 hd rfl (hL.at he (by decide)) k) h
theorem zs_aload {i : Nat} {t : Nat} {x : Int} (hd : decode (zm_b M) pc = .ok (.aload i, 2)) (he : zz_lk lv i = (t, x)) (ht : 2 ≤ t) (h : zz_At M (pc + 2) lv ((t, x) :: sk) σ r τ) : zz_At M pc lv sk σ r τ := by
  refine zz_At.pure (zz_vl_at he) (fun a1 a2 a3 p l e R s m args below meth c C D n0 ad H locs cells slots ls Q hK hH hL k => ?_) h
  have hl := hL.at he (by omega)
  by_cases hx : x = 0
  · subst hx
    rw [zz_cv_0 ad ht] at hl
    rw [List.map_cons, zz_cv_0 ad ht] at k
    exact lv_aloadN C.1 C.2.1 hd hl k
  · obtain ⟨q, hq⟩ := zz_cv_ref ad ht hx
    rw [hq] at hl
    rw [List.map_cons, hq] at k
    exact lv_aload C.1 C.2.1 hd hl k
theorem zs_aloadn {i : Fin 4} {t : Nat} {x : Int} (hd : decode (zm_b M) pc = .ok (.aload_n i, 1)) (he : zz_lk lv i.val = (t, x)) (ht : 2 ≤ t) (h : zz_At M (pc + 1) lv ((t, x) :: sk) σ r τ) : zz_At M pc lv sk σ r τ := by
  refine zz_At.pure (zz_vl_at he) (fun a1 a2 a3 p l e R s m args below meth c C D n0 ad H locs cells slots ls Q hK hH hL k => ?_) h
  have hl := hL.at he (by omega)
  by_cases hx : x = 0
  · subst hx
    rw [zz_cv_0 ad ht] at hl
    rw [List.map_cons, zz_cv_0 ad ht] at k
    exact lv_aload_nN C.1 C.2.1 hd rfl hl k
  · obtain ⟨q, hq⟩ := zz_cv_ref ad ht hx
    rw [hq] at hl
    rw [List.map_cons, hq] at k
    exact lv_aload_n C.1 C.2.1 hd rfl hl k
def zz_ll (lv : List (Nat × zz_V)) (ad : Nat → Int → Nat) (n : Nat) : List (Nat × Value) := (List.range n).filterMap fun j => if (zz_lk lv j).1 = 1 then none else some (j, zz_cv ad (zz_lk lv j))
theorem zz_ll_mem {ad : Nat → Int → Nat} {n : Nat} {q : Nat × Value} : q ∈ zz_ll lv ad n ↔ q.1 < n ∧ (zz_lk lv q.1).1 ≠ 1 ∧ q.2 = zz_cv ad (zz_lk lv q.1) := by
  unfold zz_ll
  rw [List.mem_filterMap]
  constructor
  · rintro ⟨j, hj, e⟩
    split at e
    · cases e
    · cases e
      exact ⟨List.mem_range.mp hj, by assumption, rfl⟩
  · rintro ⟨h1, h2, h3⟩
    refine ⟨q.1, List.mem_range.mpr h1, ?_⟩
    rw [if_neg h2, ← h3]
theorem zz_nb {i j : Nat} (e : ¬ i = j) : Nat.beq i j = false := by
  cases hb : Nat.beq i j with
  | false => rfl
  | true => exact absurd (Nat.eq_of_beq_eq_true hb) e
theorem zz_L.all {ls : Array Slot} {nL : Nat} {ad : Nat → Int → Nat} (h : zz_L ls nL ad lv) : lv_has ls nL (zz_ll lv ad nL) := by
  refine ⟨h.1.1, h.1.2.1, fun q hq => ?_⟩
  obtain ⟨-, h2, h3⟩ := zz_ll_mem.mp hq
  rw [h3]
  exact h.2 _ h2
theorem zz_L.set {ls ls' : Array Slot} {nL : Nat} {ad : Nat → Int → Nat} {i t : Nat} {x : Int} (h : zz_L ls nL ad lv) (ht : t ≠ 1) (h' : lv_has ls' nL ((i, zz_cv ad (t, x)) :: (zz_ll lv ad nL).filter (fun q => !(q.1 == i) && !(q.1 + 1 == i && q.2.category == 2)))) : zz_L ls' nL ad ((i, t, x) :: lv) := by
  refine ⟨⟨h'.1, h'.2.1, fun q hq => by cases hq⟩, fun j hj => ?_⟩
  by_cases e : i = j
  · subst e
    have e2 : zz_lk ((i, t, x) :: lv) i = (t, x) := by simp [zz_lk]
    rw [e2]
    exact h'.2.2 _ List.mem_cons_self
  · have e2 : zz_lk ((i, t, x) :: lv) j = zz_lk lv j := by simp [zz_lk, zz_nb e]
    rw [e2] at hj ⊢
    have hl := h.2 j hj
    refine h'.2.2 (j, zz_cv ad (zz_lk lv j)) (List.mem_cons_of_mem _ (List.mem_filter.mpr ⟨zz_ll_mem.mpr ⟨?_, hj, rfl⟩, ?_⟩))
    · have := (Array.getElem?_eq_some_iff.mp hl).1
      rw [h.1.1] at this
      exact this
    · have hc := zz_cat ad (t := (zz_lk lv j).1) (x := (zz_lk lv j).2) hj
      have e3 : ¬ j = i := fun z => e z.symm
      have hc : (zz_cv ad (zz_lk lv j)).category = 1 := hc
      simp [e3, hc]
theorem zz_vl_set {i : Nat} {v : zz_V} (a : zz_vl σ lv) (hv : zz_ok σ v) : zz_vl σ ((i, v) :: lv) := by
  intro j
  by_cases e : i = j
  · subst e
    have : zz_lk ((i, v) :: lv) i = v := by simp [zz_lk]
    rw [this]
    exact hv
  · have : zz_lk ((i, v) :: lv) j = zz_lk lv j := by simp [zz_lk, zz_nb e]
    rw [this]
    exact a j
theorem zs_istore {i : Nat} {x : Int} (hd : decode (zm_b M) pc = .ok (.istore i, 2)) (hn : i < zm_l M) (h : zz_At M (pc + 2) ((i, 0, x) :: lv) sk σ r τ) : zz_At M pc lv ((0, x) :: sk) σ r τ :=
  zz_At.loc (fun _ b c => ⟨zz_vl_set b (zz_vk_c.mp c).1, (zz_vk_c.mp c).2⟩) (fun a1 a2 a3 p l e R s m args below meth c C ad H locs cells slots ls Q hL k => lv_istore (lv := zz_ll lv ad (zm_l M)) (nL := zm_l M) C.1 C.2.1 hd hL.all hn rfl (fun ls' hl' => k ls' (hL.set (by decide) hl'))) h
theorem zs_istoren {i : Fin 4} {x : Int} (hd : decode (zm_b M) pc = .ok (.istore_n i, 1)) (hn : i.val < zm_l M) (h : zz_At M (pc + 1) ((i.val, 0, x) :: lv) sk σ r τ) : zz_At M pc lv ((0, x) :: sk) σ r τ :=
  zz_At.loc (fun _ b c => ⟨zz_vl_set b (zz_vk_c.mp c).1, (zz_vk_c.mp c).2⟩) (fun a1 a2 a3 p l e R s m args below meth c C ad H locs cells slots ls Q hL k => lv_istore_n (lv := zz_ll lv ad (zm_l M)) (nL := zm_l M) C.1 C.2.1 hd rfl hL.all hn rfl (fun ls' hl' => k ls' (hL.set (by decide) hl'))) h
theorem zs_astore {i : Nat} {t : Nat} {x : Int} (hd : decode (zm_b M) pc = .ok (.astore i, 2)) (hn : i < zm_l M) (ht : 2 ≤ t) (h : zz_At M (pc + 2) ((i, t, x) :: lv) sk σ r τ) : zz_At M pc lv ((t, x) :: sk) σ r τ := by
  refine zz_At.loc (fun _ b c => ⟨zz_vl_set b (zz_vk_c.mp c).1, (zz_vk_c.mp c).2⟩) (fun a1 a2 a3 p l e R s m args below meth c C ad H locs cells slots ls Q hL k => ?_) h
  rw [List.map_cons]
  by_cases hx : x = 0
  · have e1 : zz_cv ad (t, x) = .null := by rw [hx]; exact zz_cv_0 ad ht
    rw [e1]
    exact lv_astoreN (lv := zz_ll lv ad (zm_l M)) (nL := zm_l M) C.1 C.2.1 hd hL.all hn rfl (fun ls' hl' => k ls' (hL.set (by omega) (by rw [e1]; exact hl')))
  · obtain ⟨q, hq⟩ := zz_cv_ref ad ht hx
    rw [hq]
    exact lv_astore (lv := zz_ll lv ad (zm_l M)) (nL := zm_l M) C.1 C.2.1 hd hL.all hn rfl (fun ls' hl' => k ls' (hL.set (by omega) (by rw [hq]; exact hl')))
theorem zs_astoren {i : Fin 4} {t : Nat} {x : Int} (hd : decode (zm_b M) pc = .ok (.astore_n i, 1)) (hn : i.val < zm_l M) (ht : 2 ≤ t) (h : zz_At M (pc + 1) ((i.val, t, x) :: lv) sk σ r τ) : zz_At M pc lv ((t, x) :: sk) σ r τ := by
  refine zz_At.loc (fun _ b c => ⟨zz_vl_set b (zz_vk_c.mp c).1, (zz_vk_c.mp c).2⟩) (fun a1 a2 a3 p l e R s m args below meth c C ad H locs cells slots ls Q hL k => ?_) h
  rw [List.map_cons]
  by_cases hx : x = 0
  · have e1 : zz_cv ad (t, x) = .null := by rw [hx]; exact zz_cv_0 ad ht
    rw [e1]
    exact lv_astore_nN (lv := zz_ll lv ad (zm_l M)) (nL := zm_l M) C.1 C.2.1 hd rfl hL.all hn rfl (fun ls' hl' => k ls' (hL.set (by omega) (by rw [e1]; exact hl')))
  · obtain ⟨q, hq⟩ := zz_cv_ref ad ht hx
    rw [hq]
    exact lv_astore_n (lv := zz_ll lv ad (zm_l M)) (nL := zm_l M) C.1 C.2.1 hd rfl hL.all hn rfl (fun ls' hl' => k ls' (hL.set (by omega) (by rw [hq]; exact hl')))
theorem zz_e_add (x y : Int) : Int32.ofInt (zz_r (x + y)) = Int32.ofInt x + Int32.ofInt y := by
  unfold zz_r
  rw [Int32.ofInt_toInt, Int32.ofInt_add]
theorem zz_e_sub (x y : Int) : Int32.ofInt (zz_r (x - y)) = Int32.ofInt x - Int32.ofInt y := by
  unfold zz_r
  rw [Int32.ofInt_toInt, Int32.ofInt_sub]
theorem zz_e_mul (x y : Int) : Int32.ofInt (zz_r (x * y)) = Int32.ofInt x * Int32.ofInt y := by
  unfold zz_r
  rw [Int32.ofInt_toInt, Int32.ofInt_mul]
theorem zs_iinc {i : Nat} {n x : Int} (hd : decode (zm_b M) pc = .ok (.iinc i n, 3)) (he : zz_lk lv i = (0, x)) (hn : i < zm_l M) (h : zz_At M (pc + 3) ((i, 0, zz_r (x + n)) :: lv) sk σ r τ) : zz_At M pc lv sk σ r τ := by
  refine zz_At.loc (fun _ b c => ⟨zz_vl_set b (zz_ok_t _), c⟩) (fun a1 a2 a3 p l e R s m args below meth c C ad H locs cells slots ls Q hL k => ?_) h
  have hm : (i, zz_cv ad (0, x)) ∈ zz_ll lv ad (zm_l M) := zz_ll_mem.mpr ⟨hn, by rw [he]; show (0 : Nat) ≠ 1; decide, by rw [he]⟩
  obtain ⟨j, hj⟩ := List.getElem?_of_mem hm
  exact lv_iinc (lv := zz_ll lv ad (zm_l M)) (nL := zm_l M) (k := j) C.1 C.2.1 hd hL.all hj (zz_e_add x n).symm hn rfl (fun ls' hl' => k ls' (hL.set (by decide) hl'))
theorem zs_iadd {x y : Int} (hd : decode (zm_b M) pc = .ok (.iadd, 1)) (h : zz_At M (pc + 1) lv ((0, zz_r (x + y)) :: sk) σ r τ) : zz_At M pc lv ((0, y) :: (0, x) :: sk) σ r τ :=
  zz_At.pure (sk2 := ((0, zz_r (x + y)) :: sk)) (zz_v2 (zz_ok_t _)) (fun a1 a2 a3 p l e R s m args below meth c C D n0 ad H locs cells slots ls Q hK hH hL k => lv_iadd C.1 C.2.1 hd (by have k := k; rw [List.map_cons, zz_cv_i, show Int32.ofInt (zz_r (x + y)) = _ from zz_e_add x y] at k; exact k)) h
theorem zs_isub {x y : Int} (hd : decode (zm_b M) pc = .ok (.isub, 1)) (h : zz_At M (pc + 1) lv ((0, zz_r (x - y)) :: sk) σ r τ) : zz_At M pc lv ((0, y) :: (0, x) :: sk) σ r τ :=
  zz_At.pure (sk2 := ((0, zz_r (x - y)) :: sk)) (zz_v2 (zz_ok_t _)) (fun a1 a2 a3 p l e R s m args below meth c C D n0 ad H locs cells slots ls Q hK hH hL k => lv_isub C.1 C.2.1 hd (by have k := k; rw [List.map_cons, zz_cv_i, show Int32.ofInt (zz_r (x - y)) = _ from zz_e_sub x y] at k; exact k)) h
theorem zs_imul {x y : Int} (hd : decode (zm_b M) pc = .ok (.imul, 1)) (h : zz_At M (pc + 1) lv ((0, zz_r (x * y)) :: sk) σ r τ) : zz_At M pc lv ((0, y) :: (0, x) :: sk) σ r τ :=
  zz_At.pure (sk2 := ((0, zz_r (x * y)) :: sk)) (zz_v2 (zz_ok_t _)) (fun a1 a2 a3 p l e R s m args below meth c C D n0 ad H locs cells slots ls Q hK hH hL k => lv_imul C.1 C.2.1 hd (by have k := k; rw [List.map_cons, zz_cv_i, show Int32.ofInt (zz_r (x * y)) = _ from zz_e_mul x y] at k; exact k)) h
theorem zs_iand {x y : Int} (hd : decode (zm_b M) pc = .ok (.iand, 1)) (h : zz_At M (pc + 1) lv ((0, zz_and x y) :: sk) σ r τ) : zz_At M pc lv ((0, y) :: (0, x) :: sk) σ r τ :=
  zz_At.pure (sk2 := ((0, zz_and x y) :: sk)) (zz_v2 (zz_ok_t _)) (fun a1 a2 a3 p l e R s m args below meth c C D n0 ad H locs cells slots ls Q hK hH hL k => lv_iand C.1 C.2.1 hd (by have k := k; rw [List.map_cons, zz_cv_i, show Int32.ofInt (zz_and x y) = _ from zz_of32 _] at k; exact k)) h
theorem zs_ior {x y : Int} (hd : decode (zm_b M) pc = .ok (.ior, 1)) (h : zz_At M (pc + 1) lv ((0, zz_or x y) :: sk) σ r τ) : zz_At M pc lv ((0, y) :: (0, x) :: sk) σ r τ :=
  zz_At.pure (sk2 := ((0, zz_or x y) :: sk)) (zz_v2 (zz_ok_t _)) (fun a1 a2 a3 p l e R s m args below meth c C D n0 ad H locs cells slots ls Q hK hH hL k => lv_ior C.1 C.2.1 hd (by have k := k; rw [List.map_cons, zz_cv_i, show Int32.ofInt (zz_or x y) = _ from zz_of32 _] at k; exact k)) h
theorem zs_ixor {x y : Int} (hd : decode (zm_b M) pc = .ok (.ixor, 1)) (h : zz_At M (pc + 1) lv ((0, zz_xor x y) :: sk) σ r τ) : zz_At M pc lv ((0, y) :: (0, x) :: sk) σ r τ :=
  zz_At.pure (sk2 := ((0, zz_xor x y) :: sk)) (zz_v2 (zz_ok_t _)) (fun a1 a2 a3 p l e R s m args below meth c C D n0 ad H locs cells slots ls Q hK hH hL k => lv_ixor C.1 C.2.1 hd (by have k := k; rw [List.map_cons, zz_cv_i, show Int32.ofInt (zz_xor x y) = _ from zz_of32 _] at k; exact k)) h
theorem zs_ishl {x y : Int} (hd : decode (zm_b M) pc = .ok (.ishl, 1)) (h : zz_At M (pc + 1) lv ((0, zz_shl x y) :: sk) σ r τ) : zz_At M pc lv ((0, y) :: (0, x) :: sk) σ r τ :=
  zz_At.pure (sk2 := ((0, zz_shl x y) :: sk)) (zz_v2 (zz_ok_t _)) (fun a1 a2 a3 p l e R s m args below meth c C D n0 ad H locs cells slots ls Q hK hH hL k => lv_ishl C.1 C.2.1 hd (by have k := k; rw [List.map_cons, zz_cv_i, show Int32.ofInt (zz_shl x y) = _ from zz_of32 _] at k; exact k)) h
theorem zs_ishr {x y : Int} (hd : decode (zm_b M) pc = .ok (.ishr, 1)) (h : zz_At M (pc + 1) lv ((0, zz_shr x y) :: sk) σ r τ) : zz_At M pc lv ((0, y) :: (0, x) :: sk) σ r τ :=
  zz_At.pure (sk2 := ((0, zz_shr x y) :: sk)) (zz_v2 (zz_ok_t _)) (fun a1 a2 a3 p l e R s m args below meth c C D n0 ad H locs cells slots ls Q hK hH hL k => lv_ishr C.1 C.2.1 hd (by have k := k; rw [List.map_cons, zz_cv_i, show Int32.ofInt (zz_shr x y) = _ from zz_of32 _] at k; exact k)) h
theorem zs_idiv {x y : Int} (hd : decode (zm_b M) pc = .ok (.idiv, 1)) (hy : ¬ y = 0) (h : zz_At M (pc + 1) lv ((0, zz_div x y) :: sk) σ r τ) : zz_At M pc lv ((0, y) :: (0, x) :: sk) σ r τ :=
  zz_At.pure (sk2 := ((0, zz_div x y) :: sk)) (zz_v2 (zz_ok_t _)) (fun a1 a2 a3 p l e R s m args below meth c C D n0 ad H locs cells slots ls Q hK hH hL k => lv_idiv C.1 C.2.1 hd (by exact fun z => hy ((zz_eq0 (zz_ok_i.mp (zz_vk_c.mp a3).1)).mp z)) (by have k := k; rw [List.map_cons, zz_cv_i, show Int32.ofInt (zz_div x y) = _ from zz_of32 _] at k; exact k)) h
theorem zs_irem {x y : Int} (hd : decode (zm_b M) pc = .ok (.irem, 1)) (hy : ¬ y = 0) (h : zz_At M (pc + 1) lv ((0, zz_rem x y) :: sk) σ r τ) : zz_At M pc lv ((0, y) :: (0, x) :: sk) σ r τ :=
  zz_At.pure (sk2 := ((0, zz_rem x y) :: sk)) (zz_v2 (zz_ok_t _)) (fun a1 a2 a3 p l e R s m args below meth c C D n0 ad H locs cells slots ls Q hK hH hL k => lv_irem C.1 C.2.1 hd (by exact fun z => hy ((zz_eq0 (zz_ok_i.mp (zz_vk_c.mp a3).1)).mp z)) (by have k := k; rw [List.map_cons, zz_cv_i, show Int32.ofInt (zz_rem x y) = _ from zz_of32 _] at k; exact k)) h
theorem zs_land {x y : Int} (hd : decode (zm_b M) pc = .ok (.land, 1)) (h : zz_At M (pc + 1) lv ((1, zz_land x y) :: sk) σ r τ) : zz_At M pc lv ((1, y) :: (1, x) :: sk) σ r τ :=
  zz_At.pure (sk2 := ((1, zz_land x y) :: sk)) (zz_v2 (zz_ok_tL _)) (fun a1 a2 a3 p l e R s m args below meth c C D n0 ad H locs cells slots ls Q hK hH hL k => lv_land C.1 C.2.1 hd (by have k := k; rw [List.map_cons, zz_cv_l, show Int64.ofInt (zz_land x y) = _ from zz_of64 _] at k; exact k)) h
theorem zs_lshl {x y : Int} (hd : decode (zm_b M) pc = .ok (.lshl, 1)) (h : zz_At M (pc + 1) lv ((1, zz_lshl x y) :: sk) σ r τ) : zz_At M pc lv ((0, y) :: (1, x) :: sk) σ r τ :=
  zz_At.pure (sk2 := ((1, zz_lshl x y) :: sk)) (zz_v2 (zz_ok_tL _)) (fun a1 a2 a3 p l e R s m args below meth c C D n0 ad H locs cells slots ls Q hK hH hL k => lv_lshl C.1 C.2.1 hd rfl (by have k := k; rw [List.map_cons, zz_cv_l, show Int64.ofInt (zz_lshl x y) = _ from zz_of64 _] at k; exact k)) h
theorem zs_lshr {x y : Int} (hd : decode (zm_b M) pc = .ok (.lshr, 1)) (h : zz_At M (pc + 1) lv ((1, zz_lshr x y) :: sk) σ r τ) : zz_At M pc lv ((0, y) :: (1, x) :: sk) σ r τ :=
  zz_At.pure (sk2 := ((1, zz_lshr x y) :: sk)) (zz_v2 (zz_ok_tL _)) (fun a1 a2 a3 p l e R s m args below meth c C D n0 ad H locs cells slots ls Q hK hH hL k => lv_lshr C.1 C.2.1 hd rfl (by have k := k; rw [List.map_cons, zz_cv_l, show Int64.ofInt (zz_lshr x y) = _ from zz_of64 _] at k; exact k)) h
theorem zz_lc_ok {x y : Int} : zz_ok σ (0, zz_lc x y) := by
  unfold zz_lc
  refine zz_ok_i.mpr ?_
  split
  · omega
  · split <;> omega
theorem zs_lcmp {x y : Int} (hd : decode (zm_b M) pc = .ok (.lcmp, 1)) (h : zz_At M (pc + 1) lv ((0, zz_lc x y) :: sk) σ r τ) : zz_At M pc lv ((1, y) :: (1, x) :: sk) σ r τ :=
  zz_At.pure (sk2 := ((0, zz_lc x y) :: sk)) (zz_v2 zz_lc_ok) (fun a1 a2 a3 p l e R s m args below meth c C D n0 ad H locs cells slots ls Q hK hH hL k => W.lcmp C.1 C.2.1 hd (by have k := k; rw [List.map_cons, zz_cv_i, ← zz_lcv (zz_ok_l.mp (zz_vk_c.mp (zz_vk_c.mp a3).2).1) (zz_ok_l.mp (zz_vk_c.mp a3).1)] at k; exact k)) h
theorem zs_dup {v : zz_V} (hd : decode (zm_b M) pc = .ok (.dup, 1)) (hv : v.1 ≠ 1) (h : zz_At M (pc + 1) lv (v :: v :: sk) σ r τ) : zz_At M pc lv (v :: sk) σ r τ :=
  zz_At.pure (fun _ _ k => zz_vk_c.mpr ⟨(zz_vk_c.mp k).1, k⟩) (fun a1 a2 a3 p l e R s m args below meth c C D n0 ad H locs cells slots ls Q hK hH hL k => lv_dup C.1 C.2.1 hd (zz_cat ad hv) k) h
theorem zs_dup_x1 {v w : zz_V} (hd : decode (zm_b M) pc = .ok (.dup_x1, 1)) (hv : v.1 ≠ 1) (hw : w.1 ≠ 1) (h : zz_At M (pc + 1) lv (v :: w :: v :: sk) σ r τ) : zz_At M pc lv (v :: w :: sk) σ r τ :=
  zz_At.pure (fun _ _ k => by have h1 := zz_vk_c.mp k; have h2 := zz_vk_c.mp h1.2; exact zz_vk_c.mpr ⟨h1.1, zz_vk_c.mpr ⟨h2.1, zz_vk_c.mpr ⟨h1.1, h2.2⟩⟩⟩) (fun a1 a2 a3 p l e R s m args below meth c C D n0 ad H locs cells slots ls Q hK hH hL k => lv_dup_x1 C.1 C.2.1 hd (zz_cat ad hv) (zz_cat ad hw) k) h
theorem zs_dup_x2 {v w u : zz_V} (hd : decode (zm_b M) pc = .ok (.dup_x2, 1)) (hv : v.1 ≠ 1) (hw : w.1 ≠ 1) (hu : u.1 ≠ 1) (h : zz_At M (pc + 1) lv (v :: w :: u :: v :: sk) σ r τ) : zz_At M pc lv (v :: w :: u :: sk) σ r τ :=
  zz_At.pure (fun _ _ k => by have h1 := zz_vk_c.mp k; have h2 := zz_vk_c.mp h1.2; have h3 := zz_vk_c.mp h2.2; exact zz_vk_c.mpr ⟨h1.1, zz_vk_c.mpr ⟨h2.1, zz_vk_c.mpr ⟨h3.1, zz_vk_c.mpr ⟨h1.1, h3.2⟩⟩⟩⟩) (fun a1 a2 a3 p l e R s m args below meth c C D n0 ad H locs cells slots ls Q hK hH hL k => lv_dup_x2 C.1 C.2.1 hd (zz_cat ad hv) (zz_cat ad hw) (zz_cat ad hu) k) h
theorem zs_dup2 {v w : zz_V} (hd : decode (zm_b M) pc = .ok (.dup2, 1)) (hv : v.1 ≠ 1) (hw : w.1 ≠ 1) (h : zz_At M (pc + 1) lv (v :: w :: v :: w :: sk) σ r τ) : zz_At M pc lv (v :: w :: sk) σ r τ :=
  zz_At.pure (fun _ _ k => by have h1 := zz_vk_c.mp k; have h2 := zz_vk_c.mp h1.2; exact zz_vk_c.mpr ⟨h1.1, zz_vk_c.mpr ⟨h2.1, k⟩⟩) (fun a1 a2 a3 p l e R s m args below meth c C D n0 ad H locs cells slots ls Q hK hH hL k => lv_dup2_11 C.1 C.2.1 hd (zz_cat ad hv) (zz_cat ad hw) k) h
theorem zs_goto {off : Int} {tgt : Nat} (hd : decode (zm_b M) pc = .ok (.goto off, 3)) (ht : (pc : Int) + off = (tgt : Int)) (h : zz_At M tgt lv sk σ r τ) : zz_At M pc lv sk σ r τ :=
  zz_At.pure (fun _ _ k => k) (fun a1 a2 a3 p l e R s m args below meth c C D n0 ad H locs cells slots ls Q hK hH hL k => lv_goto C.1 C.2.1 hd ht k) h
theorem zs_if_eq {x off : Int} {tgt : Nat} (hd : decode (zm_b M) pc = .ok (.ifCond .eq off, 3)) (ht : (pc : Int) + off = (tgt : Int)) (h1 : x = 0 → zz_At M tgt lv sk σ r τ) (h2 : ¬ x = 0 → zz_At M (pc + 3) lv sk σ r τ) : zz_At M pc lv ((0, x) :: sk) σ r τ := by
  by_cases hc : x = 0
  · refine zz_At.pure zz_vd1 (fun a1 a2 a3 p l e R s m args below meth c C D n0 ad H locs cells slots ls Q hK hH hL k => ?_) (h1 hc)
    have hm := (zz_eq (zz_ok_i.mp (zz_vk_c.mp a3).1) (y := 0) ⟨by omega, by omega⟩).mpr hc
    exact lv_if_eq C.1 C.2.1 hd ht (fun z => by first | exact k | exact absurd hm z | exact absurd hm (by simpa using z)) (fun z => by first | exact k | exact absurd hm z | exact absurd hm (by simpa using z))
  · refine zz_At.pure zz_vd1 (fun a1 a2 a3 p l e R s m args below meth c C D n0 ad H locs cells slots ls Q hK hH hL k => ?_) (h2 hc)
    have hm := fun z => hc ((zz_eq (zz_ok_i.mp (zz_vk_c.mp a3).1) (y := 0) ⟨by omega, by omega⟩).mp z)
    exact lv_if_eq C.1 C.2.1 hd ht (fun z => by first | exact k | exact absurd z hm | exact absurd (by simpa using z) hm) (fun z => by first | exact k | exact absurd z hm | exact absurd (by simpa using z) hm)
theorem zs_icmp_eq {x y off : Int} {tgt : Nat} (hd : decode (zm_b M) pc = .ok (.if_icmp .eq off, 3)) (ht : (pc : Int) + off = (tgt : Int)) (h1 : x = y → zz_At M tgt lv sk σ r τ) (h2 : ¬ x = y → zz_At M (pc + 3) lv sk σ r τ) : zz_At M pc lv ((0, y) :: (0, x) :: sk) σ r τ := by
  by_cases hc : x = y
  · refine zz_At.pure zz_vd2 (fun a1 a2 a3 p l e R s m args below meth c C D n0 ad H locs cells slots ls Q hK hH hL k => ?_) (h1 hc)
    have hm := (zz_eq (zz_ok_i.mp (zz_vk_c.mp (zz_vk_c.mp a3).2).1) (zz_ok_i.mp (zz_vk_c.mp a3).1)).mpr hc
    exact lv_icmp_eq C.1 C.2.1 hd ht (fun z => by first | exact k | exact absurd hm z | exact absurd hm (by simpa using z)) (fun z => by first | exact k | exact absurd hm z | exact absurd hm (by simpa using z))
  · refine zz_At.pure zz_vd2 (fun a1 a2 a3 p l e R s m args below meth c C D n0 ad H locs cells slots ls Q hK hH hL k => ?_) (h2 hc)
    have hm := fun z => hc ((zz_eq (zz_ok_i.mp (zz_vk_c.mp (zz_vk_c.mp a3).2).1) (zz_ok_i.mp (zz_vk_c.mp a3).1)).mp z)
    exact lv_icmp_eq C.1 C.2.1 hd ht (fun z => by first | exact k | exact absurd z hm | exact absurd (by simpa using z) hm) (fun z => by first | exact k | exact absurd z hm | exact absurd (by simpa using z) hm)
theorem zs_if_ne {x off : Int} {tgt : Nat} (hd : decode (zm_b M) pc = .ok (.ifCond .ne off, 3)) (ht : (pc : Int) + off = (tgt : Int)) (h1 : x = 0 → zz_At M (pc + 3) lv sk σ r τ) (h2 : ¬ x = 0 → zz_At M tgt lv sk σ r τ) : zz_At M pc lv ((0, x) :: sk) σ r τ := by
  by_cases hc : x = 0
  · refine zz_At.pure zz_vd1 (fun a1 a2 a3 p l e R s m args below meth c C D n0 ad H locs cells slots ls Q hK hH hL k => ?_) (h1 hc)
    have hm := (zz_eq (zz_ok_i.mp (zz_vk_c.mp a3).1) (y := 0) ⟨by omega, by omega⟩).mpr hc
    exact lv_if_ne C.1 C.2.1 hd ht (fun z => by first | exact k | exact absurd hm z | exact absurd hm (by simpa using z)) (fun z => by first | exact k | exact absurd hm z | exact absurd hm (by simpa using z))
  · refine zz_At.pure zz_vd1 (fun a1 a2 a3 p l e R s m args below meth c C D n0 ad H locs cells slots ls Q hK hH hL k => ?_) (h2 hc)
    have hm := fun z => hc ((zz_eq (zz_ok_i.mp (zz_vk_c.mp a3).1) (y := 0) ⟨by omega, by omega⟩).mp z)
    exact lv_if_ne C.1 C.2.1 hd ht (fun z => by first | exact k | exact absurd z hm | exact absurd (by simpa using z) hm) (fun z => by first | exact k | exact absurd z hm | exact absurd (by simpa using z) hm)
theorem zs_icmp_ne {x y off : Int} {tgt : Nat} (hd : decode (zm_b M) pc = .ok (.if_icmp .ne off, 3)) (ht : (pc : Int) + off = (tgt : Int)) (h1 : x = y → zz_At M (pc + 3) lv sk σ r τ) (h2 : ¬ x = y → zz_At M tgt lv sk σ r τ) : zz_At M pc lv ((0, y) :: (0, x) :: sk) σ r τ := by
  by_cases hc : x = y
  · refine zz_At.pure zz_vd2 (fun a1 a2 a3 p l e R s m args below meth c C D n0 ad H locs cells slots ls Q hK hH hL k => ?_) (h1 hc)
    have hm := (zz_eq (zz_ok_i.mp (zz_vk_c.mp (zz_vk_c.mp a3).2).1) (zz_ok_i.mp (zz_vk_c.mp a3).1)).mpr hc
    exact lv_icmp_ne C.1 C.2.1 hd ht (fun z => by first | exact k | exact absurd hm z | exact absurd hm (by simpa using z)) (fun z => by first | exact k | exact absurd hm z | exact absurd hm (by simpa using z))
  · refine zz_At.pure zz_vd2 (fun a1 a2 a3 p l e R s m args below meth c C D n0 ad H locs cells slots ls Q hK hH hL k => ?_) (h2 hc)
    have hm := fun z => hc ((zz_eq (zz_ok_i.mp (zz_vk_c.mp (zz_vk_c.mp a3).2).1) (zz_ok_i.mp (zz_vk_c.mp a3).1)).mp z)
    exact lv_icmp_ne C.1 C.2.1 hd ht (fun z => by first | exact k | exact absurd z hm | exact absurd (by simpa using z) hm) (fun z => by first | exact k | exact absurd z hm | exact absurd (by simpa using z) hm)
theorem zs_if_lt {x off : Int} {tgt : Nat} (hd : decode (zm_b M) pc = .ok (.ifCond .lt off, 3)) (ht : (pc : Int) + off = (tgt : Int)) (h1 : x < 0 → zz_At M tgt lv sk σ r τ) (h2 : ¬ x < 0 → zz_At M (pc + 3) lv sk σ r τ) : zz_At M pc lv ((0, x) :: sk) σ r τ := by
  by_cases hc : x < 0
  · refine zz_At.pure zz_vd1 (fun a1 a2 a3 p l e R s m args below meth c C D n0 ad H locs cells slots ls Q hK hH hL k => ?_) (h1 hc)
    have hm := (zz_lt (zz_ok_i.mp (zz_vk_c.mp a3).1) (y := 0) ⟨by omega, by omega⟩).mpr hc
    exact lv_if_lt C.1 C.2.1 hd ht (fun z => by first | exact k | exact absurd hm z | exact absurd hm (by simpa using z)) (fun z => by first | exact k | exact absurd hm z | exact absurd hm (by simpa using z))
  · refine zz_At.pure zz_vd1 (fun a1 a2 a3 p l e R s m args below meth c C D n0 ad H locs cells slots ls Q hK hH hL k => ?_) (h2 hc)
    have hm := fun z => hc ((zz_lt (zz_ok_i.mp (zz_vk_c.mp a3).1) (y := 0) ⟨by omega, by omega⟩).mp z)
    exact lv_if_lt C.1 C.2.1 hd ht (fun z => by first | exact k | exact absurd z hm | exact absurd (by simpa using z) hm) (fun z => by first | exact k | exact absurd z hm | exact absurd (by simpa using z) hm)
theorem zs_icmp_lt {x y off : Int} {tgt : Nat} (hd : decode (zm_b M) pc = .ok (.if_icmp .lt off, 3)) (ht : (pc : Int) + off = (tgt : Int)) (h1 : x < y → zz_At M tgt lv sk σ r τ) (h2 : ¬ x < y → zz_At M (pc + 3) lv sk σ r τ) : zz_At M pc lv ((0, y) :: (0, x) :: sk) σ r τ := by
  by_cases hc : x < y
  · refine zz_At.pure zz_vd2 (fun a1 a2 a3 p l e R s m args below meth c C D n0 ad H locs cells slots ls Q hK hH hL k => ?_) (h1 hc)
    have hm := (zz_lt (zz_ok_i.mp (zz_vk_c.mp (zz_vk_c.mp a3).2).1) (zz_ok_i.mp (zz_vk_c.mp a3).1)).mpr hc
    exact lv_icmp_lt C.1 C.2.1 hd ht (fun z => by first | exact k | exact absurd hm z | exact absurd hm (by simpa using z)) (fun z => by first | exact k | exact absurd hm z | exact absurd hm (by simpa using z))
  · refine zz_At.pure zz_vd2 (fun a1 a2 a3 p l e R s m args below meth c C D n0 ad H locs cells slots ls Q hK hH hL k => ?_) (h2 hc)
    have hm := fun z => hc ((zz_lt (zz_ok_i.mp (zz_vk_c.mp (zz_vk_c.mp a3).2).1) (zz_ok_i.mp (zz_vk_c.mp a3).1)).mp z)
    exact lv_icmp_lt C.1 C.2.1 hd ht (fun z => by first | exact k | exact absurd z hm | exact absurd (by simpa using z) hm) (fun z => by first | exact k | exact absurd z hm | exact absurd (by simpa using z) hm)
theorem zs_if_ge {x off : Int} {tgt : Nat} (hd : decode (zm_b M) pc = .ok (.ifCond .ge off, 3)) (ht : (pc : Int) + off = (tgt : Int)) (h1 : x < 0 → zz_At M (pc + 3) lv sk σ r τ) (h2 : ¬ x < 0 → zz_At M tgt lv sk σ r τ) : zz_At M pc lv ((0, x) :: sk) σ r τ := by
  by_cases hc : x < 0
  · refine zz_At.pure zz_vd1 (fun a1 a2 a3 p l e R s m args below meth c C D n0 ad H locs cells slots ls Q hK hH hL k => ?_) (h1 hc)
    have hm := (zz_lt (zz_ok_i.mp (zz_vk_c.mp a3).1) (y := 0) ⟨by omega, by omega⟩).mpr hc
    exact lv_if_ge C.1 C.2.1 hd ht (fun z => by first | exact k | exact absurd hm z | exact absurd hm (by simpa using z)) (fun z => by first | exact k | exact absurd hm z | exact absurd hm (by simpa using z))
  · refine zz_At.pure zz_vd1 (fun a1 a2 a3 p l e R s m args below meth c C D n0 ad H locs cells slots ls Q hK hH hL k => ?_) (h2 hc)
    have hm := fun z => hc ((zz_lt (zz_ok_i.mp (zz_vk_c.mp a3).1) (y := 0) ⟨by omega, by omega⟩).mp z)
    exact lv_if_ge C.1 C.2.1 hd ht (fun z => by first | exact k | exact absurd z hm | exact absurd (by simpa using z) hm) (fun z => by first | exact k | exact absurd z hm | exact absurd (by simpa using z) hm)
theorem zs_icmp_ge {x y off : Int} {tgt : Nat} (hd : decode (zm_b M) pc = .ok (.if_icmp .ge off, 3)) (ht : (pc : Int) + off = (tgt : Int)) (h1 : x < y → zz_At M (pc + 3) lv sk σ r τ) (h2 : ¬ x < y → zz_At M tgt lv sk σ r τ) : zz_At M pc lv ((0, y) :: (0, x) :: sk) σ r τ := by
  by_cases hc : x < y
  · refine zz_At.pure zz_vd2 (fun a1 a2 a3 p l e R s m args below meth c C D n0 ad H locs cells slots ls Q hK hH hL k => ?_) (h1 hc)
    have hm := (zz_lt (zz_ok_i.mp (zz_vk_c.mp (zz_vk_c.mp a3).2).1) (zz_ok_i.mp (zz_vk_c.mp a3).1)).mpr hc
    exact lv_icmp_ge C.1 C.2.1 hd ht (fun z => by first | exact k | exact absurd hm z | exact absurd hm (by simpa using z)) (fun z => by first | exact k | exact absurd hm z | exact absurd hm (by simpa using z))
  · refine zz_At.pure zz_vd2 (fun a1 a2 a3 p l e R s m args below meth c C D n0 ad H locs cells slots ls Q hK hH hL k => ?_) (h2 hc)
    have hm := fun z => hc ((zz_lt (zz_ok_i.mp (zz_vk_c.mp (zz_vk_c.mp a3).2).1) (zz_ok_i.mp (zz_vk_c.mp a3).1)).mp z)
    exact lv_icmp_ge C.1 C.2.1 hd ht (fun z => by first | exact k | exact absurd z hm | exact absurd (by simpa using z) hm) (fun z => by first | exact k | exact absurd z hm | exact absurd (by simpa using z) hm)
theorem zs_if_le {x off : Int} {tgt : Nat} (hd : decode (zm_b M) pc = .ok (.ifCond .le off, 3)) (ht : (pc : Int) + off = (tgt : Int)) (h1 : x ≤ 0 → zz_At M tgt lv sk σ r τ) (h2 : ¬ x ≤ 0 → zz_At M (pc + 3) lv sk σ r τ) : zz_At M pc lv ((0, x) :: sk) σ r τ := by
  by_cases hc : x ≤ 0
  · refine zz_At.pure zz_vd1 (fun a1 a2 a3 p l e R s m args below meth c C D n0 ad H locs cells slots ls Q hK hH hL k => ?_) (h1 hc)
    have hm := (zz_le (zz_ok_i.mp (zz_vk_c.mp a3).1) (y := 0) ⟨by omega, by omega⟩).mpr hc
    exact lv_if_le C.1 C.2.1 hd ht (fun z => by first | exact k | exact absurd hm z | exact absurd hm (by simpa using z)) (fun z => by first | exact k | exact absurd hm z | exact absurd hm (by simpa using z))
  · refine zz_At.pure zz_vd1 (fun a1 a2 a3 p l e R s m args below meth c C D n0 ad H locs cells slots ls Q hK hH hL k => ?_) (h2 hc)
    have hm := fun z => hc ((zz_le (zz_ok_i.mp (zz_vk_c.mp a3).1) (y := 0) ⟨by omega, by omega⟩).mp z)
    exact lv_if_le C.1 C.2.1 hd ht (fun z => by first | exact k | exact absurd z hm | exact absurd (by simpa using z) hm) (fun z => by first | exact k | exact absurd z hm | exact absurd (by simpa using z) hm)
theorem zs_icmp_le {x y off : Int} {tgt : Nat} (hd : decode (zm_b M) pc = .ok (.if_icmp .le off, 3)) (ht : (pc : Int) + off = (tgt : Int)) (h1 : x ≤ y → zz_At M tgt lv sk σ r τ) (h2 : ¬ x ≤ y → zz_At M (pc + 3) lv sk σ r τ) : zz_At M pc lv ((0, y) :: (0, x) :: sk) σ r τ := by
  by_cases hc : x ≤ y
  · refine zz_At.pure zz_vd2 (fun a1 a2 a3 p l e R s m args below meth c C D n0 ad H locs cells slots ls Q hK hH hL k => ?_) (h1 hc)
    have hm := (zz_le (zz_ok_i.mp (zz_vk_c.mp (zz_vk_c.mp a3).2).1) (zz_ok_i.mp (zz_vk_c.mp a3).1)).mpr hc
    exact lv_icmp_le C.1 C.2.1 hd ht (fun z => by first | exact k | exact absurd hm z | exact absurd hm (by simpa using z)) (fun z => by first | exact k | exact absurd hm z | exact absurd hm (by simpa using z))
  · refine zz_At.pure zz_vd2 (fun a1 a2 a3 p l e R s m args below meth c C D n0 ad H locs cells slots ls Q hK hH hL k => ?_) (h2 hc)
    have hm := fun z => hc ((zz_le (zz_ok_i.mp (zz_vk_c.mp (zz_vk_c.mp a3).2).1) (zz_ok_i.mp (zz_vk_c.mp a3).1)).mp z)
    exact lv_icmp_le C.1 C.2.1 hd ht (fun z => by first | exact k | exact absurd z hm | exact absurd (by simpa using z) hm) (fun z => by first | exact k | exact absurd z hm | exact absurd (by simpa using z) hm)
theorem zs_if_gt {x off : Int} {tgt : Nat} (hd : decode (zm_b M) pc = .ok (.ifCond .gt off, 3)) (ht : (pc : Int) + off = (tgt : Int)) (h1 : x ≤ 0 → zz_At M (pc + 3) lv sk σ r τ) (h2 : ¬ x ≤ 0 → zz_At M tgt lv sk σ r τ) : zz_At M pc lv ((0, x) :: sk) σ r τ := by
  by_cases hc : x ≤ 0
  · refine zz_At.pure zz_vd1 (fun a1 a2 a3 p l e R s m args below meth c C D n0 ad H locs cells slots ls Q hK hH hL k => ?_) (h1 hc)
    have hm := (zz_le (zz_ok_i.mp (zz_vk_c.mp a3).1) (y := 0) ⟨by omega, by omega⟩).mpr hc
    exact lv_if_gt C.1 C.2.1 hd ht (fun z => by first | exact k | exact absurd hm z | exact absurd hm (by simpa using z)) (fun z => by first | exact k | exact absurd hm z | exact absurd hm (by simpa using z))
  · refine zz_At.pure zz_vd1 (fun a1 a2 a3 p l e R s m args below meth c C D n0 ad H locs cells slots ls Q hK hH hL k => ?_) (h2 hc)
    have hm := fun z => hc ((zz_le (zz_ok_i.mp (zz_vk_c.mp a3).1) (y := 0) ⟨by omega, by omega⟩).mp z)
    exact lv_if_gt C.1 C.2.1 hd ht (fun z => by first | exact k | exact absurd z hm | exact absurd (by simpa using z) hm) (fun z => by first | exact k | exact absurd z hm | exact absurd (by simpa using z) hm)
theorem zs_icmp_gt {x y off : Int} {tgt : Nat} (hd : decode (zm_b M) pc = .ok (.if_icmp .gt off, 3)) (ht : (pc : Int) + off = (tgt : Int)) (h1 : x ≤ y → zz_At M (pc + 3) lv sk σ r τ) (h2 : ¬ x ≤ y → zz_At M tgt lv sk σ r τ) : zz_At M pc lv ((0, y) :: (0, x) :: sk) σ r τ := by
  by_cases hc : x ≤ y
  · refine zz_At.pure zz_vd2 (fun a1 a2 a3 p l e R s m args below meth c C D n0 ad H locs cells slots ls Q hK hH hL k => ?_) (h1 hc)
    have hm := (zz_le (zz_ok_i.mp (zz_vk_c.mp (zz_vk_c.mp a3).2).1) (zz_ok_i.mp (zz_vk_c.mp a3).1)).mpr hc
    exact lv_icmp_gt C.1 C.2.1 hd ht (fun z => by first | exact k | exact absurd hm z | exact absurd hm (by simpa using z)) (fun z => by first | exact k | exact absurd hm z | exact absurd hm (by simpa using z))
  · refine zz_At.pure zz_vd2 (fun a1 a2 a3 p l e R s m args below meth c C D n0 ad H locs cells slots ls Q hK hH hL k => ?_) (h2 hc)
    have hm := fun z => hc ((zz_le (zz_ok_i.mp (zz_vk_c.mp (zz_vk_c.mp a3).2).1) (zz_ok_i.mp (zz_vk_c.mp a3).1)).mp z)
    exact lv_icmp_gt C.1 C.2.1 hd ht (fun z => by first | exact k | exact absurd z hm | exact absurd (by simpa using z) hm) (fun z => by first | exact k | exact absurd z hm | exact absurd (by simpa using z) hm)
theorem zs_ifnull {t : Nat} {x off : Int} {tgt : Nat} (hd : decode (zm_b M) pc = .ok (.ifnull off, 3)) (ht : (pc : Int) + off = (tgt : Int)) (ht2 : 2 ≤ t) (h1 : x = 0 → zz_At M tgt lv sk σ r τ) (h2 : ¬ x = 0 → zz_At M (pc + 3) lv sk σ r τ) : zz_At M pc lv ((t, x) :: sk) σ r τ := by
  by_cases hc : x = 0
  · refine zz_At.pure zz_vd1 (fun a1 a2 a3 p l e R s m args below meth c C D n0 ad H locs cells slots ls Q hK hH hL k => ?_) (h1 hc)
    rw [List.map_cons, hc, zz_cv_0 ad ht2]
    exact lv_ifnullN C.1 C.2.1 hd ht k
  · refine zz_At.pure zz_vd1 (fun a1 a2 a3 p l e R s m args below meth c C D n0 ad H locs cells slots ls Q hK hH hL k => ?_) (h2 hc)
    obtain ⟨q, hq⟩ := zz_cv_ref ad ht2 hc
    rw [List.map_cons, hq]
    exact lv_ifnull C.1 C.2.1 hd k
theorem zs_ifnonnull {t : Nat} {x off : Int} {tgt : Nat} (hd : decode (zm_b M) pc = .ok (.ifnonnull off, 3)) (ht : (pc : Int) + off = (tgt : Int)) (ht2 : 2 ≤ t) (h1 : x = 0 → zz_At M (pc + 3) lv sk σ r τ) (h2 : ¬ x = 0 → zz_At M tgt lv sk σ r τ) : zz_At M pc lv ((t, x) :: sk) σ r τ := by
  by_cases hc : x = 0
  · refine zz_At.pure zz_vd1 (fun a1 a2 a3 p l e R s m args below meth c C D n0 ad H locs cells slots ls Q hK hH hL k => ?_) (h1 hc)
    rw [List.map_cons, hc, zz_cv_0 ad ht2]
    exact lv_ifnonnullN C.1 C.2.1 hd k
  · refine zz_At.pure zz_vd1 (fun a1 a2 a3 p l e R s m args below meth c C D n0 ad H locs cells slots ls Q hK hH hL k => ?_) (h2 hc)
    obtain ⟨q, hq⟩ := zz_cv_ref ad ht2 hc
    rw [List.map_cons, hq]
    exact lv_ifnonnull C.1 C.2.1 hd ht k
theorem zz_cv_rf (ad : Nat → Int → Nat) {k : Nat} {x : Int} (h2 : k ≤ 900) : zz_cv ad (2 + k, x) = va_rf (if x = 0 then none else some (ad k x)) := by
  by_cases hx : x = 0
  · rw [if_pos hx, hx, zz_cv_0 ad (by omega)]
    rfl
  · rw [if_neg hx, zz_cv_r ad h2 hx]
    rfl
theorem zz_inj {D : va_G} {n0 : Nat} {ad : Nat → Int → Nat} {s : State} {H : Heap} (hs : zz_vs σ) (hH : zz_Hd D n0 ad σ s H) {k : Nat} (h3 : 3 ≤ k) (h2 : k ≤ 900) {x y : Int} (hx : zz_ok σ (2 + k, x)) (hy : zz_ok σ (2 + k, y)) : (if x = 0 then none else some (ad k x)) = (if y = 0 then none else some (ad k y)) ↔ x = y := by
  have e : 2 + k - 2 = k := by omega
  have hx := (zz_ok_r (by omega) (by omega)).mp hx
  have hy := (zz_ok_r (by omega) (by omega)).mp hy
  rw [e] at hx hy
  have hm := hs.2.2.1 k
  constructor
  · intro h
    by_cases h0 : x = 0 <;> by_cases h1 : y = 0
    · omega
    · rw [if_pos h0, if_neg h1] at h
      cases h
    · rw [if_neg h0, if_pos h1] at h
      cases h
    · rw [if_neg h0, if_neg h1] at h
      exact (hH.2.2.1 k x k y h3 h3 ⟨by omega, by omega⟩ ⟨by omega, by omega⟩ (Option.some.inj h)).2
  · intro h
    rw [h]
theorem zs_acmp_eq {k : Nat} {x y off : Int} {tgt : Nat} (hd : decode (zm_b M) pc = .ok (.if_acmp .eq off, 3)) (ht : (pc : Int) + off = (tgt : Int)) (h3 : 3 ≤ k) (h9 : k ≤ 900) (h1 : x = y → zz_At M tgt lv sk σ r τ) (h2 : ¬ x = y → zz_At M (pc + 3) lv sk σ r τ) : zz_At M pc lv ((2 + k, y) :: (2 + k, x) :: sk) σ r τ := by
  by_cases hc : x = y
  · refine zz_At.pure zz_vd2 (fun a1 a2 a3 p l e R s m args below meth c C D n0 ad H locs cells slots ls Q hK hH hL kk => ?_) (h1 hc)
    have hm := (zz_inj a1 hH h3 h9 (zz_vk_c.mp (zz_vk_c.mp a3).2).1 (zz_vk_c.mp a3).1).mpr hc
    rw [List.map_cons, List.map_cons, zz_cv_rf ad h9, zz_cv_rf ad h9]
    exact lv_acmp_eq C.1 C.2.1 hd ht (fun z => by first | exact kk | exact absurd hm z | exact absurd hm (by simpa using z)) (fun z => by first | exact kk | exact absurd hm z | exact absurd hm (by simpa using z))
  · refine zz_At.pure zz_vd2 (fun a1 a2 a3 p l e R s m args below meth c C D n0 ad H locs cells slots ls Q hK hH hL kk => ?_) (h2 hc)
    have hm := fun z => hc ((zz_inj a1 hH h3 h9 (zz_vk_c.mp (zz_vk_c.mp a3).2).1 (zz_vk_c.mp a3).1).mp z)
    rw [List.map_cons, List.map_cons, zz_cv_rf ad h9, zz_cv_rf ad h9]
    exact lv_acmp_eq C.1 C.2.1 hd ht (fun z => by first | exact kk | exact absurd z hm | exact absurd (by simpa using z) hm) (fun z => by first | exact kk | exact absurd z hm | exact absurd (by simpa using z) hm)
theorem zs_acmp_ne {k : Nat} {x y off : Int} {tgt : Nat} (hd : decode (zm_b M) pc = .ok (.if_acmp .ne off, 3)) (ht : (pc : Int) + off = (tgt : Int)) (h3 : 3 ≤ k) (h9 : k ≤ 900) (h1 : x = y → zz_At M (pc + 3) lv sk σ r τ) (h2 : ¬ x = y → zz_At M tgt lv sk σ r τ) : zz_At M pc lv ((2 + k, y) :: (2 + k, x) :: sk) σ r τ := by
  by_cases hc : x = y
  · refine zz_At.pure zz_vd2 (fun a1 a2 a3 p l e R s m args below meth c C D n0 ad H locs cells slots ls Q hK hH hL kk => ?_) (h1 hc)
    have hm := (zz_inj a1 hH h3 h9 (zz_vk_c.mp (zz_vk_c.mp a3).2).1 (zz_vk_c.mp a3).1).mpr hc
    rw [List.map_cons, List.map_cons, zz_cv_rf ad h9, zz_cv_rf ad h9]
    exact lv_acmp_ne C.1 C.2.1 hd ht (fun z => by first | exact kk | exact absurd hm z | exact absurd hm (by simpa using z)) (fun z => by first | exact kk | exact absurd hm z | exact absurd hm (by simpa using z))
  · refine zz_At.pure zz_vd2 (fun a1 a2 a3 p l e R s m args below meth c C D n0 ad H locs cells slots ls Q hK hH hL kk => ?_) (h2 hc)
    have hm := fun z => hc ((zz_inj a1 hH h3 h9 (zz_vk_c.mp (zz_vk_c.mp a3).2).1 (zz_vk_c.mp a3).1).mp z)
    rw [List.map_cons, List.map_cons, zz_cv_rf ad h9, zz_cv_rf ad h9]
    exact lv_acmp_ne C.1 C.2.1 hd ht (fun z => by first | exact kk | exact absurd z hm | exact absurd (by simpa using z) hm) (fun z => by first | exact kk | exact absurd z hm | exact absurd (by simpa using z) hm)
theorem zs_switch {x d lo hi : Int} {offs : Array Int} {len : Nat} (hd : decode (zm_b M) pc = .ok (.tableswitch d lo hi offs, len))
    (h : (x < lo ∨ hi < x → ∃ tgt : Nat, (pc : Int) + d = (tgt : Int) ∧ zz_At M tgt lv sk σ r τ) ∧ (¬ x < lo → ¬ hi < x → ∃ (off : Int) (tgt : Nat), offs[(x - lo).toNat]? = some off ∧ (pc : Int) + off = (tgt : Int) ∧ zz_At M tgt lv sk σ r τ)) : zz_At M pc lv ((0, x) :: sk) σ r τ := by
  by_cases hc : x < lo ∨ hi < x
  · obtain ⟨tgt, ht, h⟩ := h.1 hc
    refine zz_At.pure zz_vd1 (fun a1 a2 a3 p l e R s m args below meth c C D n0 ad H locs cells slots ls Q hK hH hL k => ?_) h
    have e := zz_toI (zz_ok_i.mp (zz_vk_c.mp a3).1)
    exact lv_tableOut C.1 C.2.1 hd (by rw [e]; exact hc) ht k
  · obtain ⟨off, tgt, ho, ht, h⟩ := h.2 (fun z => hc (Or.inl z)) (fun z => hc (Or.inr z))
    refine zz_At.pure zz_vd1 (fun a1 a2 a3 p l e R s m args below meth c C D n0 ad H locs cells slots ls Q hK hH hL k => ?_) h
    have e := zz_toI (zz_ok_i.mp (zz_vk_c.mp a3).1)
    exact lv_tableIn C.1 C.2.1 hd (by rw [e]; exact fun z => hc (Or.inl z)) (by rw [e]; exact fun z => hc (Or.inr z)) (by rw [e]; exact ho) ht k
end ZROWS
end
section
section ZHEAP
variable {M : zz_M} {pc : Nat} {lv : List (Nat × zz_V)} {sk : List zz_V} {σ τ : zz_S} {r : Int}
/-- an object kind's class, by the table -/
def zz_ob (k : Nat) (q : vw_C) : Prop := zz_ar k = 0 ∧ zz_vw[zz_cl k]? = some q ∧ q.2.2 = zz_len k ∧ k ≤ 900
theorem zz_kid {σ : zz_S} (hs : zz_vs σ) {k : Nat} (hk : k ≤ 900) {x : Int} (hx : zz_ok σ (2 + k, x)) (h0 : ¬ x = 0) : 1 ≤ x ∧ x ≤ zz_c σ k ∧ x ≤ zz_m σ k := by
  have h := (zz_ok_r (by omega) (by omega)).mp hx
  rw [show 2 + k - 2 = k by omega] at h
  have := hs.2.2.1 k
  omega
theorem zz_wid {σ : zz_S} {k : Nat} (hk : k ≤ 900) {x : Int} (hx : zz_ok σ (1000 + k, x)) : 1 ≤ x ∧ x ≤ zz_c σ k := by
  have h := (zz_ok_w (by omega) (by omega)).mp hx
  rwa [show 1000 + k - 1000 = k by omega] at h
/-- a field is read -/
theorem zz_get {p : Program} {l : Launch} {e : Env} {R : Room} {s : State} {m : MethodId} {args : Array Value} {below : List Frame} {meth : Method} {c : Code} {H : Heap} {locs : List Loc} {cells slots : Nat} {Q : State → Prop} {ls : Array Slot} {rest : List Value} {D : va_G} {n0 : Nat} {ad : Nat → Int → Nat} (C : zz_Cx M p R s m args meth c) (hK : zz_K D s) (hH : zz_Hd D n0 ad σ s H) {k b i : Nat} {q : vw_C} (hq : zz_ob k q) (hb : b < zz_len k) (hw : Jvm.Cond.fieldLink (zm_own M) i (q.2.1 b).1 (q.2.1 b).2.1 (q.2.1 b).2.2.1 ∈ zz_tb) {x : Int} (h1 : 1 ≤ x) (h2 : x ≤ zz_c σ k)
    (hd : decode (zm_b M) pc = .ok (.getfield i, 3)) (kk : W p l e R s m args below meth c H locs cells slots Q (F0 m (pc + 3) ls (zz_cv ad (zz_tg k b, zz_h σ k x b) :: rest))) : W p l e R s m args below meth c H locs cells slots Q (F0 m pc ls (.ref (ad k x) :: rest)) := by
  obtain ⟨q0, q1, q2, q3⟩ := hq
  obtain ⟨⟨cell, g1, r⟩, -⟩ := hH.2.1 k x h1 h2
  rcases r with ⟨-, r1, r2, r3⟩ | ⟨r0, -⟩
  · obtain ⟨hS, hfc, kC, hkC, hkind⟩ := hK.1 _ _ q1
    obtain ⟨cf, kf, fi, f, hi, hsl⟩ := hS b (by rw [q2]; exact hb)
    refine W.getf C.1 C.2.1 C.2.2.2.1 (C.2.2.2.2.1 _ hw) hi (u_facts hfc hkC (u_lays C.2.2.2.2.1 (zz_cw _ _ q1).1 (by rw [q2]; exact hb)) hi).1 g1 (by rw [r2]; exact fun h => by cases h) (v := zz_cv ad (zz_tg k b, zz_h σ k x b)) ?_ rfl rfl hd kk
    rw [hsl]
    exact r3 b hb
  · exact absurd q0 r0
theorem zs_getf {k b i t : Nat} {q : vw_C} (hq : zz_ob k q) (hb : b < zz_len k) (hw : Jvm.Cond.fieldLink (zm_own M) i (q.2.1 b).1 (q.2.1 b).2.1 (q.2.1 b).2.2.1 ∈ zz_tb) (ht : t = zz_tg k b) {x : Int} (hx : ¬ x = 0) (hd : decode (zm_b M) pc = .ok (.getfield i, 3)) (h : zz_At M (pc + 3) lv ((t, zz_h σ k x b) :: sk) σ r τ) : zz_At M pc lv ((2 + k, x) :: sk) σ r τ := by
  subst ht
  refine zz_At.pure (fun a b' c => ?_) (fun a1 a2 a3 p l e R s m args below meth c C D n0 ad H locs cells slots ls Q hK hH hL kk => ?_) h
  · obtain ⟨i1, i2, -⟩ := zz_kid a hq.2.2.2 (zz_vk_c.mp c).1 hx
    exact zz_vk_c.mpr ⟨a.1 _ _ _ i1 i2, (zz_vk_c.mp c).2⟩
  · obtain ⟨i1, i2, -⟩ := zz_kid a1 hq.2.2.2 (zz_vk_c.mp a3).1 hx
    rw [List.map_cons, zz_cv_r ad hq.2.2.2 hx]
    exact zz_get C hK hH hq hb hw i1 i2 hd kk
theorem zs_getfo {k b i t : Nat} {q : vw_C} (hq : zz_ob k q) (hb : b < zz_len k) (hw : Jvm.Cond.fieldLink (zm_own M) i (q.2.1 b).1 (q.2.1 b).2.1 (q.2.1 b).2.2.1 ∈ zz_tb) (ht : t = zz_tg k b) (hon : (b, t - 2) ∈ zz_own k) {x : Int} (hx : ¬ x = 0) (hd : decode (zm_b M) pc = .ok (.getfield i, 3)) (h : zz_At M (pc + 3) lv ((t, x) :: sk) σ r τ) : zz_At M pc lv ((2 + k, x) :: sk) σ r τ := by
  intro a1 a2 a3
  obtain ⟨i1, i2, i3⟩ := zz_kid a1 hq.2.2.2 (zz_vk_c.mp a3).1 hx
  have e : zz_h σ k x b = x := a1.2.1 k _ hon x i1 i3
  have h2 : zz_At M (pc + 3) lv ((t, zz_h σ k x b) :: sk) σ r τ := by rw [e]; exact h
  exact zs_getf hq hb hw ht hx hd h2 a1 a2 a3
theorem zs_getfw {k b i t : Nat} {q : vw_C} (hq : zz_ob k q) (hb : b < zz_len k) (hw : Jvm.Cond.fieldLink (zm_own M) i (q.2.1 b).1 (q.2.1 b).2.1 (q.2.1 b).2.2.1 ∈ zz_tb) (ht : t = zz_tg k b) {x : Int} (hd : decode (zm_b M) pc = .ok (.getfield i, 3)) (h : zz_At M (pc + 3) lv ((t, zz_h σ k x b) :: sk) σ r τ) : zz_At M pc lv ((1000 + k, x) :: sk) σ r τ := by
  subst ht
  refine zz_At.pure (fun a b' c => ?_) (fun a1 a2 a3 p l e R s m args below meth c C D n0 ad H locs cells slots ls Q hK hH hL kk => ?_) h
  · obtain ⟨i1, i2⟩ := zz_wid hq.2.2.2 (zz_vk_c.mp c).1
    exact zz_vk_c.mpr ⟨a.1 _ _ _ i1 i2, (zz_vk_c.mp c).2⟩
  · obtain ⟨i1, i2⟩ := zz_wid hq.2.2.2 (zz_vk_c.mp a3).1
    rw [List.map_cons, zz_cv_w ad (by omega)]
    exact zz_get C hK hH hq hb hw i1 i2 hd kk
/-- what a slot of a type takes -/
def zz_fk (ty : FieldType) (t : Nat) (z : Int) : Bool := match ty with
  | .int => decide (t = 0 ∧ z = 0)
  | .boolean => decide (t = 0 ∧ z = 1)
  | .long => decide (t = 1 ∧ z = 0)
  | .object _ => decide (2 ≤ t ∧ t ≤ 900 ∧ z = 0)
  | .array _ => decide (2 ≤ t ∧ t ≤ 900 ∧ z = 0)
  | _ => false
theorem zz_fk_ok {ty : FieldType} {t : Nat} {z : Int} (h : zz_fk ty t z = true) (ad : Nat → Int → Nat) {w : Int} (hz : z = 1 → zz_o w) : narrow ty (zz_cv ad (t, w)) = zz_cv ad (t, w) ∧ fits ty (zz_cv ad (t, w)) = true := by
  have ref : ∀ (n : Nat), 2 ≤ n → zz_cv ad (n, w) = .null ∨ ∃ q, zz_cv ad (n, w) = .ref q := by
    intro n hn
    by_cases hw : w = 0
    · exact Or.inl (by rw [hw]; exact zz_cv_0 ad hn)
    · exact Or.inr (zz_cv_ref ad hn hw)
  unfold zz_fk at h
  split at h <;> first
    | (obtain ⟨rfl, rfl⟩ := of_decide_eq_true h; exact ⟨rfl, rfl⟩)
    | (obtain ⟨rfl, rfl⟩ := of_decide_eq_true h; rcases hz rfl with rfl | rfl <;> exact ⟨rfl, rfl⟩)
    | (obtain ⟨h1, h2, -⟩ := of_decide_eq_true h; rcases ref t h1 with e | ⟨q, e⟩ <;> rw [e] <;> exact ⟨rfl, rfl⟩)
    | cases h
/-- a field is written -/
theorem zz_put {p : Program} {l : Launch} {e : Env} {R : Room} {s : State} {m : MethodId} {args : Array Value} {below : List Frame} {meth : Method} {c : Code} {H : Heap} {locs : List Loc} {cells slots : Nat} {Q : State → Prop} {ls : Array Slot} {rest : List Value} {D : va_G} {n0 : Nat} {ad : Nat → Int → Nat} (C : zz_Cx M p R s m args meth c) (hK : zz_K D s) (hs : zz_vs σ) (hH : zz_Hd D n0 ad σ s H) (hlo : ∀ q ∈ locs, n0 ≤ q.base) {k b i t : Nat} {z : Int} {q : vw_C} (hq : zz_ob k q) (h3 : 3 ≤ k) (hb : b < zz_len k) (hw : Jvm.Cond.fieldLink (zm_own M) i (q.2.1 b).1 (q.2.1 b).2.1 (q.2.1 b).2.2.1 ∈ zz_tb) (ht : t = zz_tg k b) (hf : zz_fk (zz_ft (zz_cl k) b) t z = true) (hfin : (q.2.1 b).2.2.2 = true → zm_th M ≠ 0 ∧ (q.2.1 b).1 = zm_own M) {x w : Int} (hz : z = 1 → zz_o w) (h1 : 1 ≤ x) (h2 : x ≤ zz_c σ k)
    (hd : decode (zm_b M) pc = .ok (.putfield i, 3)) (kk : ∀ (H' : Heap) (locs' : List Loc), zz_Hd D n0 ad (zz_w σ k x b w) s H' → (∀ q ∈ locs', n0 ≤ q.base) → W p l e R s m args below meth c H' locs' cells slots Q (F0 m (pc + 3) ls rest)) : W p l e R s m args below meth c H locs cells slots Q (F0 m pc ls (zz_cv ad (t, w) :: .ref (ad k x) :: rest)) := by
  obtain ⟨q0, q1, q2, q3⟩ := hq
  obtain ⟨cw1, cw2, cw3, -⟩ := zz_cw _ _ q1
  have hb2 : b < q.2.2 := by rw [q2]; exact hb
  have hap := va_apart (own := zm_own M) (tys := []) (cl := zz_vw) (D := D) C.2.2.2.2.1 cw1 _ cw2 cw3 ⟨hK.1, fun k q h => by simp at h⟩ q1
  obtain ⟨⟨cell, g1, r⟩, -, hge⟩ := hH.2.1 k x h1 h2
  rcases r with ⟨-, r1, r2, r3⟩ | ⟨r0, -⟩
  · obtain ⟨hS, hfc, kC, hkC, hkind⟩ := hK.1 _ _ q1
    obtain ⟨cf, kf, fi, f, hi, hsl⟩ := hS b hb2
    have hlay := C.2.2.2.2.1 _ (cw1 _ (u_in_lay hb2))
    have hst := (u_facts hfc hkC (u_lays C.2.2.2.2.1 cw1 hb2) hi).1
    obtain ⟨hn, hfit⟩ := zz_fk_ok hf ad hz
    have fin : ∀ H' : Heap, H'[ad k x]? = some (cell.setSlot f.slot (zz_cv ad (t, w))) → H'.size = H.size → (∀ q, q ≠ ad k x → H'[q]? = H[q]?) → W p l e R s m args below meth c H' (locs ++ [⟨ad k x, f.slot⟩]) cells slots Q (F0 m (pc + 3) ls rest) := by
      intro H' e1 e2 e3
      refine kk H' _ (hH.put h3 h1 h2 e2 e3 ⟨_, e1, Or.inl ⟨q0, r1, r2, fun j hj => ?_⟩⟩) (fun y hy => ?_)
      · rw [hsl]
        have := t_set (N := zz_len k) r3 (by rw [← q2]; exact hap) hb (zz_cv ad (t, w)) j hj
        rw [this]
        unfold updV
        rw [zz_h_w]
        by_cases ej : j = b
        · subst ej
          rw [if_pos rfl, if_pos ⟨rfl, rfl, rfl⟩, ht]
        · rw [if_neg ej, if_neg (fun z => ej (by omega))]
      · rcases List.mem_append.mp hy with hy | hy
        · exact hlo y hy
        · rw [List.mem_singleton.mp hy]
          exact hge h3
    cases hfi : (q.2.1 b).2.2.2 with
    | false =>
      unfold u_lay at hlay
      rw [if_neg (by rw [hfi]; decide)] at hlay
      have h6 := u_store hfc hkC hkind hlay hi (cw2 b hb2) hn hfit
      exact W.putK C.1 C.2.1 (f := f) ⟨C.2.2.2.1, C.2.2.2.2.1 _ hw, ⟨_, _, _, hi⟩, hst⟩ (by rw [r1]; exact h6) g1 r2 (by rw [hsl]; exact k2_hasslot (r3 b hb)) rfl rfl hd fin
    | true =>
      unfold u_lay at hlay
      rw [if_pos hfi] at hlay
      obtain ⟨f1, f2⟩ := hfin hfi
      have hcf : m.cls = cf := by
        obtain ⟨_, _, c', _, _, _, -, -, hf', -, -, -, hown2, -⟩ := Cond.laysFinal_spec hlay
        have e1 : c' = cf := by have := hi.symm.trans hf'; simp at this; exact this.1.symm
        rw [f2] at hown2
        rw [← e1]
        exact Option.some.inj (C.2.2.2.1.symm.trans hown2)
      have h6 := u_fits hfc hkC hkind (Or.inr hlay) hi (cw2 b hb2) hn hfit
      exact W.putFinK C.1 C.2.1 C.2.2.2.1 (C.2.2.2.2.1 _ hw) hi hst hcf (C.2.2.2.2.2.2.2.2.2 f1) (by rw [r1]; exact h6) g1 r2 (by rw [hsl]; exact k2_hasslot (r3 b hb)) rfl rfl hd fin
  · exact absurd q0 r0
theorem zs_put {k b i t u : Nat} {z : Int} {q : vw_C} (hq : zz_ob k q) (h3 : 3 ≤ k) (hb : b < zz_len k) (hw : Jvm.Cond.fieldLink (zm_own M) i (q.2.1 b).1 (q.2.1 b).2.1 (q.2.1 b).2.2.1 ∈ zz_tb) (ht : t = zz_tg k b) (hf : zz_fk (zz_ft (zz_cl k) b) t z = true) (hfin : (q.2.1 b).2.2.2 = true → zm_th M ≠ 0 ∧ (q.2.1 b).1 = zm_own M) (hsd : zz_sd k = zm_sd M) {x w : Int} (hz : z = 1 → zz_o w) (hu : (u = 2 + k ∧ ¬ x = 0 ∧ ∀ q ∈ zz_own k, ¬ b = q.1) ∨ (u = 1000 + k ∧ ((∃ q ∈ zz_own k, b = q.1) → w = x)))
    (hd : decode (zm_b M) pc = .ok (.putfield i, 3)) (h : zz_At M (pc + 3) lv sk (zz_w σ k x b w) r τ) : zz_At M pc lv ((t, w) :: (u, x) :: sk) σ r τ := by
  have hid : zz_vs σ → zz_vk σ ((t, w) :: (u, x) :: sk) → 1 ≤ x ∧ x ≤ zz_c σ k := by
    intro a1 a3
    have := (zz_vk_c.mp (zz_vk_c.mp a3).2).1
    rcases hu with ⟨rfl, h0, -⟩ | ⟨rfl, -⟩
    · obtain ⟨i1, i2, -⟩ := zz_kid a1 hq.2.2.2 this h0
      exact ⟨i1, i2⟩
    · exact zz_wid hq.2.2.2 this
  refine zz_At.step (fun a1 a2 a3 => ?_) (fun a1 a2 a3 p l e R s m args below meth c C D n0 ad H locs cells slots ls Q hK hH hL hlo hcl hsl kk => ?_) h
  · have g := zz_gr_w σ k x b w
    refine ⟨zz_vs_w a1 (by rw [← ht]; exact (zz_vk_c.mp a3).1) (fun q hq' e _ => ?_), a2.mono g, (zz_vk_c.mp (zz_vk_c.mp a3).2).2.mono g, g, zz_fr_w σ hsd _ _ _⟩
    rcases hu with ⟨-, -, hn⟩ | ⟨-, hn⟩
    · exact absurd (by omega) (hn q hq')
    · exact hn ⟨q, hq', by omega⟩
  · obtain ⟨i1, i2⟩ := hid a1 a3
    have e : zz_cv ad (u, x) = .ref (ad k x) := by
      rcases hu with ⟨rfl, h0, -⟩ | ⟨rfl, -⟩
      · exact zz_cv_r ad hq.2.2.2 h0
      · exact zz_cv_w ad (by omega)
    rw [List.map_cons, List.map_cons, e]
    refine zz_put C hK a1 hH hlo hq h3 hb hw ht hf hfin hz i1 i2 hd fun H' locs' hH' hlo' => ?_
    have k2 := kk ad H' locs' ls zz_Ex.rf hH' hL hlo'
    rw [show zz_nc (zz_w σ k x b w) - zz_nc σ = 0 from Nat.sub_self _, show zz_ns (zz_w σ k x b w) - zz_ns σ = 0 from Nat.sub_self _] at k2
    exact k2
end ZHEAP
end
section
section ZARR
variable {M : zz_M} {pc : Nat} {lv : List (Nat × zz_V)} {sk : List zz_V} {σ τ : zz_S} {r : Int}
/-- a place of an array -/
theorem zz_elem {D : va_G} {n0 : Nat} {ad : Nat → Int → Nat} {s : State} {H : Heap} (hH : zz_Hd D n0 ad σ s H) {k : Nat} (hk : zz_ar k ≠ 0) {x j : Int} (h1 : 1 ≤ x) (h2 : x ≤ zz_c σ k) (hj : zz_b σ k x j) (hr : -2147483648 ≤ j ∧ j < 2147483648) : ∃ cell : Cell, H[ad k x]? = some cell ∧ zz_ac s cell k ∧ ¬ (Int32.ofInt j < 0 ∨ cell.slots.size ≤ (Int32.ofInt j).toNatClampNeg) ∧ cell.slots[(Int32.ofInt j).toNatClampNeg]? = some (zz_cv ad (zz_et k, zz_h σ k x j)) ∧ (cell.slots.size : Int) = zz_al σ k x ∧ (∀ i : Nat, i < cell.slots.size → cell.slots[i]? = some (zz_cv ad (zz_et k, zz_h σ k x i))) ∧ (Int32.ofInt j).toNatClampNeg = j.toNat := by
  obtain ⟨⟨cell, g1, q⟩, -⟩ := hH.2.1 k x h1 h2
  obtain ⟨j0, j1⟩ := hj
  rcases q with ⟨r0, -⟩ | ⟨-, r1, r2, r3⟩
  · exact absurd r0 hk
  · obtain ⟨e1, e2⟩ := zz_clamp j0 hr.2
    have e3 : ((j.toNat : Nat) : Int) = j := by omega
    refine ⟨cell, g1, r1, ?_, ?_, r2, r3, e2⟩
    · rintro (z | z)
      · exact e1 z
      · rw [e2] at z
        omega
    · rw [e2, r3 _ (by omega), e3]
theorem zs_ald {k : Nat} {ins : Instr} {t : Nat} (hk : zz_ar k ≠ 0 ∧ k ≤ 900) (ht : t = zz_et k) {x j : Int} (hx : ¬ x = 0) (hj : zz_b σ k x j)
    (row : ∀ (p : Program) (l : Launch) (e : Env) (R : Room) (s : State) (m : MethodId) (args : Array Value) (below : List Frame) (meth : Method) (c : Code), zz_Cx M p R s m args meth c → ∀ (H : Heap) (locs : List Loc) (cells slots : Nat) (ls : Array Slot) (Q : State → Prop) (a : Nat) (cell : Cell) (v : Value) (rest : List Value), H[a]? = some cell → zz_ac s cell k → ¬ (Int32.ofInt j < 0 ∨ cell.slots.size ≤ (Int32.ofInt j).toNatClampNeg) → cell.slots[(Int32.ofInt j).toNatClampNeg]? = some v → W p l e R s m args below meth c H locs cells slots Q (F0 m (pc + 1) ls (v :: rest)) → W p l e R s m args below meth c H locs cells slots Q (F0 m pc ls (.int (Int32.ofInt j) :: .ref a :: rest)))
    (h : zz_At M (pc + 1) lv ((t, zz_h σ k x j) :: sk) σ r τ) : zz_At M pc lv ((0, j) :: (2 + k, x) :: sk) σ r τ := by
  subst ht
  refine zz_At.pure (fun a b' c => ?_) (fun a1 a2 a3 p l e R s m args below meth c C D n0 ad H locs cells slots ls Q hK hH hL kk => ?_) h
  · obtain ⟨i1, i2, -⟩ := zz_kid a hk.2 (zz_vk_c.mp (zz_vk_c.mp c).2).1 hx
    have := a.1 k x j i1 i2
    unfold zz_tg at this
    rw [if_neg hk.1] at this
    exact zz_vk_c.mpr ⟨this, (zz_vk_c.mp (zz_vk_c.mp c).2).2⟩
  · obtain ⟨i1, i2, -⟩ := zz_kid a1 hk.2 (zz_vk_c.mp (zz_vk_c.mp a3).2).1 hx
    obtain ⟨cell, g1, g2, g3, g4, -⟩ := zz_elem hH hk.1 i1 i2 hj (zz_ok_i.mp (zz_vk_c.mp a3).1)
    rw [List.map_cons, List.map_cons, zz_cv_r ad hk.2 hx]
    exact row p l e R s m args below meth c C H locs cells slots ls Q _ cell _ _ g1 g2 g3 g4 kk
theorem zs_iald {k t : Nat} (hk : zz_ar k = 1 ∧ k ≤ 900) (ha : zz_aty k = .int) (ht : t = zz_et k) {x j : Int} (hx : ¬ x = 0) (hj : zz_b σ k x j) (hd : decode (zm_b M) pc = .ok (.iaload, 1)) (h : zz_At M (pc + 1) lv ((t, zz_h σ k x j) :: sk) σ r τ) : zz_At M pc lv ((0, j) :: (2 + k, x) :: sk) σ r τ :=
  zs_ald (ins := .iaload) ⟨by rw [hk.1]; decide, hk.2⟩ ht hx hj (fun p l e R s m args below meth c C H locs cells slots ls Q a cell v rest g1 g2 g3 g4 kk => W.iald C.1 C.2.1 g1 (by have := g2.1; rwa [ha] at this) g2.2.1 g3 g4 rfl rfl hd kk) h
theorem zs_zald {k t : Nat} (hk : zz_ar k = 2 ∧ k ≤ 900) (ha : zz_aty k = .boolean) (ht : t = zz_et k) {x j : Int} (hx : ¬ x = 0) (hj : zz_b σ k x j) (hd : decode (zm_b M) pc = .ok (.baload, 1)) (h : zz_At M (pc + 1) lv ((t, zz_h σ k x j) :: sk) σ r τ) : zz_At M pc lv ((0, j) :: (2 + k, x) :: sk) σ r τ :=
  zs_ald (ins := .baload) ⟨by rw [hk.1]; decide, hk.2⟩ ht hx hj (fun p l e R s m args below meth c C H locs cells slots ls Q a cell v rest g1 g2 g3 g4 kk => W.zald C.1 C.2.1 g1 (by have := g2.1; rwa [ha] at this) g2.2.1 g3 g4 rfl rfl hd kk) h
theorem zs_aald {k t : Nat} (hk : zz_ar k = 3 ∧ k ≤ 900) (ha : (zz_aty k).isReference = true) (ht : t = zz_et k) {x j : Int} (hx : ¬ x = 0) (hj : zz_b σ k x j) (hd : decode (zm_b M) pc = .ok (.aaload, 1)) (h : zz_At M (pc + 1) lv ((t, zz_h σ k x j) :: sk) σ r τ) : zz_At M pc lv ((0, j) :: (2 + k, x) :: sk) σ r τ :=
  zs_ald (ins := .aaload) ⟨by rw [hk.1]; decide, hk.2⟩ ht hx hj (fun p l e R s m args below meth c C H locs cells slots ls Q a cell v rest g1 g2 g3 g4 kk => W.aald C.1 C.2.1 g1 g2.1 ha g2.2.1 g3 g4 rfl rfl hd kk) h
theorem zs_alen {k : Nat} (hk : zz_ar k ≠ 0 ∧ k ≤ 900) {x : Int} (hx : ¬ x = 0) (hd : decode (zm_b M) pc = .ok (.arraylength, 1)) (h : zz_At M (pc + 1) lv ((0, zz_al σ k x) :: sk) σ r τ) : zz_At M pc lv ((2 + k, x) :: sk) σ r τ := by
  have hl0 : zz_vs σ → zz_vk σ ((2 + k, x) :: sk) → zz_ok σ (0, zz_al σ k x) := by
    intro a c
    obtain ⟨i1, i2, -⟩ := zz_kid a hk.2 (zz_vk_c.mp c).1 hx
    unfold zz_al
    split
    · rename_i e
      subst e
      have hc := a.2.2.1 0
      have h1 : 1 ≤ zz_c σ 0 := by omega
      exact a.1 0 1 (-1) (by omega) h1
    · have : zz_len k ≤ 3000 := zz_gd (b := 3000) (by decide +kernel) k
      exact zz_ok_i.mpr ⟨by omega, by omega⟩
  refine zz_At.pure (fun a b' c => zz_vk_c.mpr ⟨hl0 a c, (zz_vk_c.mp c).2⟩) (fun a1 a2 a3 p l e R s m args below meth c C D n0 ad H locs cells slots ls Q hK hH hL kk => ?_) h
  obtain ⟨i1, i2, -⟩ := zz_kid a1 hk.2 (zz_vk_c.mp a3).1 hx
  obtain ⟨⟨cell, g1, q⟩, -⟩ := hH.2.1 k x i1 i2
  rcases q with ⟨r0, -⟩ | ⟨-, r1, r2, r3⟩
  · exact absurd r0 hk.1
  · rw [List.map_cons, zz_cv_r ad hk.2 hx]
    refine W.alen (n := Int32.ofInt (zz_al σ k x)) C.1 C.2.1 g1 r1.1 ?_ rfl rfl hd kk
    rw [← r2]
    rfl
/-- a place of an array is written -/
theorem zz_ce_set {D : va_G} {ad : Nat → Int → Nat} {U : State} {H' : Heap} {cell : Cell} {k : Nat} (hk : zz_ar k ≠ 0) (h3 : 3 ≤ k) {x j w : Int} {jn : Nat} (hj : (jn : Int) = j) (hjn : jn < cell.slots.size) (g1 : H'[ad k x]? = some (cell.setSlot jn (zz_cv ad (zz_et k, w)))) (g2 : zz_ac U cell k) (g3 : (cell.slots.size : Int) = zz_al σ k x) (g4 : ∀ i : Nat, i < cell.slots.size → cell.slots[i]? = some (zz_cv ad (zz_et k, zz_h σ k x i))) : zz_ce D ad (zz_w σ k x j w) U H' k x := by
  have hsz : (cell.setSlot jn (zz_cv ad (zz_et k, w))).slots.size = cell.slots.size := by simp [Cell.setSlot]
  refine ⟨_, g1, Or.inr ⟨hk, g2, ?_, fun i hi => ?_⟩⟩
  · rw [hsz, g3]
    unfold zz_al
    rw [if_neg (by omega), if_neg (by omega)]
  · rw [hsz] at hi
    rw [zz_h_w]
    by_cases e : i = jn
    · subst e
      rw [Cell.slots_setSlot_self _ hjn, if_pos ⟨rfl, rfl, hj⟩]
    · rw [slot_ne _ _ (fun z => e z.symm), if_neg (fun z => e (by omega))]
      exact g4 i hi
theorem zs_ast {k t : Nat} {ins : Instr} (hk : zz_ar k ≠ 0 ∧ k ≤ 900 ∧ 3 ≤ k ∧ zz_own k = []) (ht : t = zz_et k) (hsd : zz_sd k = zm_sd M) {x j w : Int} (hx : ¬ x = 0) (hj : zz_b σ k x j)
    (row : zz_vs σ → zz_ok σ (t, w) → ∀ (p : Program) (l : Launch) (e : Env) (R : Room) (s : State) (m : MethodId) (args : Array Value) (below : List Frame) (meth : Method) (c : Code), zz_Cx M p R s m args meth c → ∀ (D : va_G) (n0 : Nat) (ad : Nat → Int → Nat) (H : Heap) (locs : List Loc) (cells slots : Nat) (ls : Array Slot) (Q : State → Prop) (a : Nat) (cell : Cell) (rest : List Value), zz_K D s → zz_Hd D n0 ad σ s H → H[a]? = some cell → zz_ac s cell k → ¬ (Int32.ofInt j < 0 ∨ cell.slots.size ≤ (Int32.ofInt j).toNatClampNeg) →
      (∀ H' : Heap, H'[a]? = some (cell.setSlot (Int32.ofInt j).toNatClampNeg (zz_cv ad (t, w))) → H'.size = H.size → (∀ q, q ≠ a → H'[q]? = H[q]?) → W p l e R s m args below meth c H' (locs ++ [⟨a, (Int32.ofInt j).toNatClampNeg⟩]) cells slots Q (F0 m (pc + 1) ls rest)) → W p l e R s m args below meth c H locs cells slots Q (F0 m pc ls (zz_cv ad (t, w) :: .int (Int32.ofInt j) :: .ref a :: rest)))
    (h : zz_At M (pc + 1) lv sk (zz_w σ k x j w) r τ) : zz_At M pc lv ((t, w) :: (0, j) :: (2 + k, x) :: sk) σ r τ := by
  subst ht
  refine zz_At.step (fun a1 a2 a3 => ?_) (fun a1 a2 a3 p l e R s m args below meth c C D n0 ad H locs cells slots ls Q hK hH hL hlo hcl hsl kk => ?_) h
  · have g := zz_gr_w σ k x j w
    refine ⟨zz_vs_w a1 ?_ (fun q hq => by rw [hk.2.2.2] at hq; cases hq), a2.mono g, (zz_vk_c.mp (zz_vk_c.mp (zz_vk_c.mp a3).2).2).2.mono g, g, zz_fr_w σ hsd _ _ _⟩
    unfold zz_tg
    rw [if_neg hk.1]
    exact (zz_vk_c.mp a3).1
  · obtain ⟨i1, i2, -⟩ := zz_kid a1 hk.2.1 (zz_vk_c.mp (zz_vk_c.mp (zz_vk_c.mp a3).2).2).1 hx
    obtain ⟨cell, g1, g2, g3, g4, g5, g6, g7⟩ := zz_elem hH hk.1 i1 i2 hj (zz_ok_i.mp (zz_vk_c.mp (zz_vk_c.mp a3).2).1)
    rw [List.map_cons, List.map_cons, List.map_cons, zz_cv_r ad hk.2.1 hx]
    refine row a1 (zz_vk_c.mp a3).1 p l e R s m args below meth c C D n0 ad H locs cells slots ls Q _ cell _ hK hH g1 g2 g3 fun H' e1 e2 e3 => ?_
    have hjn : (Int32.ofInt j).toNatClampNeg < cell.slots.size := Nat.not_le.mp fun z => g3 (Or.inr z)
    have k2 := kk ad H' (locs ++ [⟨ad k x, (Int32.ofInt j).toNatClampNeg⟩]) ls zz_Ex.rf (hH.put hk.2.2.1 i1 i2 e2 e3 (zz_ce_set hk.1 hk.2.2.1 (by rw [g7]; have := hj.1; omega) hjn e1 g2 g5 g6)) hL (fun y hy => by
      rcases List.mem_append.mp hy with hy | hy
      · exact hlo y hy
      · rw [List.mem_singleton.mp hy]
        exact (hH.2.1 k x i1 i2).2.2 hk.2.2.1)
    rw [show zz_nc (zz_w σ k x j w) - zz_nc σ = 0 from Nat.sub_self _, show zz_ns (zz_w σ k x j w) - zz_ns σ = 0 from Nat.sub_self _] at k2
    exact k2
theorem zs_iast {k t : Nat} (hk : zz_ar k = 1 ∧ k ≤ 900 ∧ 3 ≤ k ∧ zz_own k = []) (ha : zz_aty k = .int) (ht : t = zz_et k) (ht0 : t = 0) (hsd : zz_sd k = zm_sd M) {x j w : Int} (hx : ¬ x = 0) (hj : zz_b σ k x j) (hd : decode (zm_b M) pc = .ok (.iastore, 1)) (h : zz_At M (pc + 1) lv sk (zz_w σ k x j w) r τ) : zz_At M pc lv ((t, w) :: (0, j) :: (2 + k, x) :: sk) σ r τ := by
  refine zs_ast (ins := .iastore) ⟨by rw [hk.1]; decide, hk.2⟩ ht hsd hx hj (fun a1 aw p l e R s m args below meth c C D n0 ad H locs cells slots ls Q a cell rest hK hH g1 g2 g3 kk => ?_) h
  subst ht0
  exact W.iast C.1 C.2.1 g1 (by have := g2.1; rwa [ha] at this) g2.2.1 g3 rfl rfl hd kk
theorem zs_zast {k t : Nat} (hk : zz_ar k = 2 ∧ k ≤ 900 ∧ 3 ≤ k ∧ zz_own k = []) (ha : zz_aty k = .boolean) (ht : t = zz_et k) (ht0 : t = 0) (hsd : zz_sd k = zm_sd M) {x j w : Int} (hx : ¬ x = 0) (hj : zz_b σ k x j) (hw : zz_o w) (hd : decode (zm_b M) pc = .ok (.bastore, 1)) (h : zz_At M (pc + 1) lv sk (zz_w σ k x j w) r τ) : zz_At M pc lv ((t, w) :: (0, j) :: (2 + k, x) :: sk) σ r τ := by
  refine zs_ast (ins := .bastore) ⟨by rw [hk.1]; decide, hk.2⟩ ht hsd hx hj (fun a1 aw p l e R s m args below meth c C D n0 ad H locs cells slots ls Q a cell rest hK hH g1 g2 g3 kk => ?_) h
  subst ht0
  refine W.zast (x := Int32.ofInt w) C.1 C.2.1 g1 (by have := g2.1; rwa [ha] at this) g2.2.1 g3 rfl rfl hd fun H' e1 => kk H' ?_
  rw [e1]
  rcases hw with rfl | rfl <;> rfl
theorem zs_aast {k t : Nat} {q : vw_C} (hk : zz_ar k = 3 ∧ k ≤ 900 ∧ 3 ≤ k ∧ zz_own k = []) (ht : t = zz_et k) (ht2 : 2 ≤ t) (hq : zz_ob (t - 2) q) (ha : zz_aty k = .object q.1) (hsd : zz_sd k = zm_sd M) {x j w : Int} (hx : ¬ x = 0) (hj : zz_b σ k x j) (hw : ¬ w = 0) (hd : decode (zm_b M) pc = .ok (.aastore, 1)) (h : zz_At M (pc + 1) lv sk (zz_w σ k x j w) r τ) : zz_At M pc lv ((t, w) :: (0, j) :: (2 + k, x) :: sk) σ r τ := by
  refine zs_ast (ins := .aastore) ⟨by rw [hk.1]; decide, hk.2⟩ ht hsd hx hj (fun a1 aw p l e R s m args below meth c C D n0 ad H locs cells slots ls Q a cell rest hK hH g1 g2 g3 kk => ?_) h
  have et : t = 2 + (t - 2) := by omega
  rw [et] at aw kk ⊢
  obtain ⟨i1, i2, -⟩ := zz_kid a1 hq.2.2.2 aw hw
  obtain ⟨⟨cv, v1, v2⟩, -⟩ := hH.2.1 (t - 2) w i1 i2
  rw [zz_cv_r ad hq.2.2.2 hw] at kk ⊢
  rcases v2 with ⟨-, w1, w2, -⟩ | ⟨w0, -⟩
  · have hra := g2.2.2 hk.1
    rw [ha] at hra
    obtain ⟨kA, comp, r1, r2, r3, -⟩ := hra
    obtain ⟨-, hfc, kC, hkC, hkind⟩ := hK.1 _ _ hq.2.1
    cases r3.symm.trans hfc
    exact W.aast (v := ad (t - 2) w) C.1 C.2.1 g1 (fun z => g2.1.1 z) g2.2.1 r1 r2 rfl hkC ⟨fun z => g3 (Or.inl z), Nat.not_le.mp fun z => g3 (Or.inr z)⟩ v1 (fun z h => by rw [w2] at h; cases h) (by rw [w1]; exact hkC) (by rw [w1]; exact va_asg _ _) rfl rfl hd kk
  · exact absurd hq.1 w0
-- static arrays
theorem zs_gets {k i : Nat} {n : String} (hk : (k = 1 ∧ n = "MONTH_STARTS") ∨ (k = 2 ∧ n = "LAST_A")) (hw : Jvm.Cond.fieldLink (zm_own M) i "CinemaClock$Calendar" n "[I" ∈ zz_tb) (hd : decode (zm_b M) pc = .ok (.getstatic i, 3)) (h : zz_At M (pc + 3) lv ((2 + k, 1) :: sk) σ r τ) : zz_At M pc lv sk σ r τ := by
  refine zz_At.pure (fun a b' c => zz_vk_c.mpr ⟨?_, c⟩) (fun a1 a2 a3 p l e R s m args below meth c C D n0 ad H locs cells slots ls Q hK hH hL kk => ?_) h
  · rcases hk with ⟨rfl, -⟩ | ⟨rfl, -⟩
    · exact (zz_ok_r (by omega) (by omega)).mpr ⟨by omega, a.2.2.2.1⟩
    · exact (zz_ok_r (by omega) (by omega)).mpr ⟨by omega, a.2.2.2.2.1⟩
  · rw [List.map_cons, zz_cv_r ad (by omega) (by omega)] at kk
    have hZ : va_Z "CinemaClock$Calendar" n "[I" (.ref (ad k 1)) (fun q => n0 ≤ q) s H := by
      rcases hk with ⟨rfl, rfl⟩ | ⟨rfl, rfl⟩
      · exact hH.2.2.2.1
      · exact hH.2.2.2.2
    obtain ⟨cf, kf, fi, f, a, cell, h1, h2, h3, h4, h5, h6, h7, h8⟩ := hZ
    exact W.gets C.1 C.2.1 C.2.2.2.1 (C.2.2.2.2.1 _ hw) h1 h2 h3 h4 h5 (fun e => by rw [e] at h6; cases h6) h7 rfl hd kk
end ZARR
end
section
section ZNEW
variable {M : zz_M} {pc : Nat} {lv : List (Nat × zz_V)} {sk : List zz_V} {σ τ : zz_S} {r : Int}
theorem zz_map_ex {ad ad' : Nat → Int → Nat} (hs : zz_vs σ) (h : zz_vk σ sk) (e : zz_Ex σ ad ad') : sk.map (zz_cv ad') = sk.map (zz_cv ad) := List.map_congr_left fun v hv => zz_cv_ex hs.2.2.1 (h v hv) e
theorem zz_L.ex {ls : Array Slot} {nL : Nat} {ad ad' : Nat → Int → Nat} (h : zz_L ls nL ad lv) (hs : zz_vs σ) (hl : zz_vl σ lv) (e : zz_Ex σ ad ad') : zz_L ls nL ad' lv := ⟨h.1, fun i hi => by rw [zz_cv_ex hs.2.2.1 (hl i) e]; exact h.2 i hi⟩
def zz_dv (k : Nat) : Bool := (List.range (zz_len k)).all fun j => zz_fk (zz_ft (zz_cl k) j) (zz_tg k j) 0 || zz_fk (zz_ft (zz_cl k) j) (zz_tg k j) 1
theorem zz_dv_ok {k j : Nat} (h : zz_dv k = true) (hj : j < zz_len k) (ad : Nat → Int → Nat) : defaultValue (zz_ft (zz_cl k) j) = zz_cv ad (zz_tg k j, 0) := by
  have h1 := List.all_eq_true.mp h j (List.mem_range.mpr hj)
  generalize zz_ft (zz_cl k) j = ty at h1 ⊢
  generalize zz_tg k j = t at h1 ⊢
  rw [Bool.or_eq_true] at h1
  rcases h1 with h1 | h1 <;> unfold zz_fk at h1 <;> split at h1 <;> first
    | (obtain ⟨rfl, -⟩ := of_decide_eq_true h1; rfl)
    | (obtain ⟨h2, -, -⟩ := of_decide_eq_true h1; rw [zz_cv_0 ad h2]; rfl)
    | cases h1
theorem zs_new {k i : Nat} {q : vw_C} (hq : zz_ob k q) (h3 : 3 ≤ k) (hdv : zz_dv k = true) (hw : Jvm.Cond.classLink (zm_own M) i q.1 ∈ zz_tb) (hsd : zz_sd k = zm_sd M ∨ zm_sd M = 2) (hd : decode (zm_b M) pc = .ok (.new i, 3)) (h : zz_At M (pc + 3) lv ((1000 + k, zz_c σ k + 1) :: sk) (zz_n σ k 0 (zz_len k)) r τ) : zz_At M pc lv sk σ r τ := by
  obtain ⟨q0, q1, q2, q3⟩ := hq
  have g := zz_gr_n σ k (b := 0) (Int.le_refl _) (zz_len k)
  refine zz_At.step (fun a1 a2 a3 => ?_) (fun a1 a2 a3 p l e R s m args below meth c C D n0 ad H locs cells slots ls Q hK hH hL hlo hcl hsl kk => ?_) h
  · refine ⟨zz_vs_n a1 (Or.inl ⟨rfl, q0⟩) _, a2.mono g, zz_vk_c.mpr ⟨?_, a3.mono g⟩, g, zz_fr_n σ hsd _ _⟩
    refine (zz_ok_w (by omega) (by omega)).mpr ?_
    rw [show 1000 + k - 1000 = k by omega, zz_c_n, if_pos rfl]
    have := a1.2.2.1 k
    omega
  · have e1 : zz_nc (zz_n σ k 0 (zz_len k)) - zz_nc σ = 1 := by show zz_nc σ + 1 - zz_nc σ = 1; omega
    have e2 : zz_ns (zz_n σ k 0 (zz_len k)) - zz_ns σ = zz_len k := by show zz_ns σ + zz_len k - zz_ns σ = _; omega
    rw [e1] at hcl kk
    rw [e2] at hsl kk
    obtain ⟨cw1, cw2, cw3, cw4, cw5⟩ := zz_cw _ _ q1
    rw [q2] at cw4
    have hKn := hK.1 _ _ q1
    refine W.newcK C.1 C.2.1 C.2.2.2.1 (C.2.2.2.2.1 _ hw) (C.2.2.2.2.1 _ cw4) (C.2.2.2.2.1 _ cw5) rfl hd hcl hsl hKn.2.1 rfl fun H1 kC hkC f1 z1 o1 => ?_
    have hex := zz_up_ex (σ := σ) (ad := ad) (k := k) (q := H.size)
    have hself : zz_up ad k (zz_c σ k + 1) H.size k (zz_c σ k + 1) = H.size := if_pos ⟨rfl, rfl⟩
    obtain ⟨cell, b1, b2, b3, b4⟩ := u_born _ C.2.2.2.2.1 cw1 hKn hkC f1 cw2
    have k2 := kk (zz_up ad k (zz_c σ k + 1) H.size) H1 locs ls hex (hH.new a1 h3 o1 z1 ⟨cell, by rw [hself]; exact b1, Or.inl ⟨q0, b2, b3, fun j hj => by
      rw [zz_h_n, if_pos ⟨rfl, rfl⟩, ← zz_dv_ok hdv hj]
      exact b4 j (by rw [q2]; exact hj)⟩⟩) (hL.ex a1 a2 hex) hlo
    rw [List.map_cons, zz_map_ex a1 a3 hex, zz_cv_w _ (by have := a1.2.2.1 k; omega), hself] at k2
    exact k2
theorem zs_arr {k : Nat} {w : Nat} {ins : Instr} (hk : zz_ar k ≠ 0 ∧ k ≤ 900 ∧ 3 ≤ k ∧ zz_own k = []) (hsd : zz_sd k = zm_sd M) {x : Int} (hx : x = (zz_len k : Int)) (hlt : zz_len k < 2147483648)
    (row : ∀ (p : Program) (l : Launch) (e : Env) (R : Room) (s : State) (m : MethodId) (args : Array Value) (below : List Frame) (meth : Method) (c : Code), zz_Cx M p R s m args meth c → ∀ (D : va_G) (H : Heap) (locs : List Loc) (cells slots : Nat) (ls : Array Slot) (Q : State → Prop) (rest : List Value), zz_K D s → ¬ Int32.ofInt x < 0 → (Int32.ofInt x).toNatClampNeg = zz_len k → cells + 1 ≤ R.cells → slots + zz_len k ≤ R.slots →
      (∀ (H' : Heap) (cell : Cell), H'[H.size]? = some cell → H'.size = H.size + 1 → (∀ q : Nat, q < H.size → H'[q]? = H[q]?) → zz_ac s cell k → cell.slots.size = zz_len k → (∀ (ad : Nat → Int → Nat) (j : Nat), j < zz_len k → cell.slots[j]? = some (zz_cv ad (zz_et k, 0))) → W p l e R s m args below meth c H' locs (cells + 1) (slots + zz_len k) Q (F0 m (pc + w) ls (.ref H.size :: rest))) → W p l e R s m args below meth c H locs cells slots Q (F0 m pc ls (.int (Int32.ofInt x) :: rest)))
    (h : zz_At M (pc + w) lv ((2 + k, zz_c σ k + 1) :: sk) (zz_n σ k 1 (zz_len k)) r τ) : zz_At M pc lv ((0, x) :: sk) σ r τ := by
  have g := zz_gr_n σ k (b := 1) (by omega) (zz_len k)
  refine zz_At.step (fun a1 a2 a3 => ?_) (fun a1 a2 a3 p l e R s m args below meth c C D n0 ad H locs cells slots ls Q hK hH hL hlo hcl hsl kk => ?_) h
  · refine ⟨zz_vs_n a1 (Or.inr ⟨rfl, hk.2.2.2⟩) _, a2.mono g, zz_vk_c.mpr ⟨?_, (zz_vk_c.mp a3).2.mono g⟩, g, zz_fr_n σ (Or.inl hsd) _ _⟩
    refine (zz_ok_r (by omega) (by omega)).mpr ?_
    rw [show 2 + k - 2 = k by omega, zz_m_n, if_pos rfl]
    have := a1.2.2.1 k
    have := a1.2.2.2.2.2 k hk.1
    omega
  · have e1 : zz_nc (zz_n σ k 1 (zz_len k)) - zz_nc σ = 1 := by show zz_nc σ + 1 - zz_nc σ = 1; omega
    have e2 : zz_ns (zz_n σ k 1 (zz_len k)) - zz_ns σ = zz_len k := by show zz_ns σ + zz_len k - zz_ns σ = _; omega
    rw [e1] at hcl kk
    rw [e2] at hsl kk
    obtain ⟨y1, y2⟩ := zz_clamp (x := x) (by omega) (by omega)
    refine row p l e R s m args below meth c C D H locs cells slots ls Q (sk.map (zz_cv ad)) hK y1 (by rw [y2, hx]; rfl) hcl hsl fun H1 cell f1 z1 o1 b1 b2 b3 => ?_
    have hex := zz_up_ex (σ := σ) (ad := ad) (k := k) (q := H.size)
    have hself : zz_up ad k (zz_c σ k + 1) H.size k (zz_c σ k + 1) = H.size := if_pos ⟨rfl, rfl⟩
    have k2 := kk (zz_up ad k (zz_c σ k + 1) H.size) H1 locs ls hex (hH.new a1 hk.2.2.1 o1 z1 ⟨cell, by rw [hself]; exact f1, Or.inr ⟨hk.1, b1, by
      unfold zz_al
      rw [if_neg (by omega), b2], fun j hj => by
      rw [zz_h_n, if_pos ⟨rfl, rfl⟩]
      exact b3 _ j (by rw [← b2]; exact hj)⟩⟩) (hL.ex a1 a2 hex) hlo
    rw [List.map_cons, zz_map_ex a1 (zz_vk_c.mp a3).2 hex, zz_cv_r _ hk.2.1 (by have := a1.2.2.1 k; omega), hself] at k2
    exact k2
theorem zs_newa {k : Nat} {aty : ArrayType} (hk : zz_ar k ≠ 0 ∧ k ≤ 900 ∧ 3 ≤ k ∧ zz_own k = []) (ht : (aty = .int ∨ aty = .boolean) ∧ newarray.typeOf aty = zz_aty k) (hr : zz_ar k ≠ 3) (he : zz_et k = 0) (hw : Jvm.Cond.arrayClass (newarray.typeOf aty) ∈ zz_tb) (hsd : zz_sd k = zm_sd M) {x : Int} (hx : x = (zz_len k : Int)) (hlt : zz_len k ≤ 3000) (hd : decode (zm_b M) pc = .ok (.newarray aty, 2)) (h : zz_At M (pc + 2) lv ((2 + k, zz_c σ k + 1) :: sk) (zz_n σ k 1 (zz_len k)) r τ) : zz_At M pc lv ((0, x) :: sk) σ r τ := by
  refine zs_arr (ins := .newarray aty) (w := 2) hk hsd hx (by omega) (fun p l e R s m args below meth c C D H locs cells slots ls Q rest hK y1 y2 hcl hsl kk => ?_) h
  refine va_newaK C.1 C.2.1 (C.2.2.2.2.1 _ hw) rfl hd rfl y1 y2 (by rcases ht.1 with rfl | rfl <;> show zz_len k * _ ≤ _ <;> simp [componentBytes, newarray.typeOf] <;> omega) hcl hsl rfl fun H1 cA f1 z1 o1 hAr hNm => ?_
  refine kk H1 _ f1 z1 o1 ⟨by rw [← ht.2]; exact hAr _ _, (fun z => by cases z), fun z => absurd z hr⟩ (arrV_size _ _ _) (fun ad j hj => ?_)
  rw [arrV_read _ _ hj, he]
  rcases ht.1 with rfl | rfl <;> rfl
theorem zs_anew {k i : Nat} {C0 : String} (hk : zz_ar k ≠ 0 ∧ k ≤ 900 ∧ 3 ≤ k ∧ zz_own k = []) (ha : zz_aty k = .object C0) (hC : C0 = RX6 ∨ C0 = RX5) (he : 2 ≤ zz_et k) (hw : Jvm.Cond.classLink (zm_own M) i C0 ∈ zz_tb) (hsd : zz_sd k = zm_sd M) {x : Int} (hx : x = (zz_len k : Int)) (hlt : zz_len k ≤ 3000) (hd : decode (zm_b M) pc = .ok (.anewarray i, 3)) (h : zz_At M (pc + 3) lv ((2 + k, zz_c σ k + 1) :: sk) (zz_n σ k 1 (zz_len k)) r τ) : zz_At M pc lv ((0, x) :: sk) σ r τ := by
  refine zs_arr (ins := .anewarray i) (w := 3) hk hsd hx (by omega) (fun p l e R s m args below meth c C D H locs cells slots ls Q rest hK y1 y2 hcl hsl kk => ?_) h
  have hover : va_AO C0 s := by
    rcases hC with rfl | rfl
    · exact hK.2.1.1
    · exact hK.2.1.2
  refine W.anew C.1 C.2.1 C.2.2.2.1 (C.2.2.2.2.1 _ hw) (va_AO.use hover) rfl hd rfl y1 (by rw [y2]; omega) hcl (by rw [y2]; exact hsl) fun cA kA comp f1 f2 f3 f4 => ?_
  rw [y2, arrV_new]
  refine kk _ (arrV cA (zz_len k) (fun _ => .null)) ?_ ?_ ?_ ⟨⟨(fun k h => by cases h), kA, f2, comp, by rw [ha]; exact f3⟩, (fun z => by cases z), fun _ => ?_⟩ (arrV_size _ _ _) (fun ad j hj => ?_)
  · simp
  · simp
  · intro q hq
    rw [Array.getElem?_push, if_neg (Nat.ne_of_lt hq)]
  · rw [ha]
    exact ⟨kA, comp, f2, f3, f4, f1⟩
  · rw [arrV_read _ _ hj, zz_cv_0 ad he]
end ZNEW
section ZRET
variable {M : zz_M} {pc : Nat} {lv : List (Nat × zz_V)} {sk : List zz_V} {σ τ : zz_S} {r : Int}
/-- the frame stands at its return -/
theorem zs_end (hrd : zz_rd M pc) (hg : zz_vs σ → zz_vl σ lv → zz_vk σ sk → zz_go M σ r τ) (hn : zz_nc τ = zz_nc σ ∧ zz_ns τ = zz_ns σ) (hH : ∀ (D : va_G) (n0 : Nat) (ad : Nat → Int → Nat) (s : State) (H : Heap), zz_Hd D n0 ad σ s H → zz_Hd D n0 ad τ s H) (hs : zz_vs σ → zz_vk σ sk → ∀ ad, sk.map (zz_cv ad) = zz_rv M ad r) : zz_At M pc lv sk σ r τ := by
  intro a1 a2 a3
  refine ⟨hg a1 a2 a3, ?_⟩
  intro p l e R s m args below meth c C D n0 ad H locs cells slots ls Q hK hH0 hL hlo hcl hsl k
  have k2 := k ad H locs ls pc zz_Ex.rf (hH D n0 ad s H hH0) hlo hrd
  rw [hn.1, hn.2, Nat.sub_self, Nat.sub_self] at k2
  rw [hs a1 a3 ad]
  exact k2
theorem zs_ireturn {x : Int} (hrt : zm_rt M = 0) (hb : zm_rb M = true → zz_o x) (hd : decode (zm_b M) pc = .ok (.ireturn, 1)) : zz_At M pc lv [(0, x)] σ x σ := by
  refine zs_end ?_ (fun a1 a2 a3 => ⟨a1, fun _ => by rw [hrt]; exact (zz_vk_c.mp a3).1, hb, zz_gr.rf, zz_fr.rf⟩) ⟨rfl, rfl⟩ (fun _ _ _ _ _ h => h) (fun _ _ ad => ?_)
  · unfold zz_rd
    rw [hrt, if_neg (by decide), if_pos rfl]
    exact hd
  · unfold zz_rv
    rw [hrt, if_neg (by decide)]
    rfl
theorem zs_areturn {x : Int} {u : Nat} (hrt : 2 ≤ zm_rt M ∧ zm_rt M ≤ 900) (hb : zm_rb M = false) (hu : u = zm_rt M ∨ u = 3000) (hd : decode (zm_b M) pc = .ok (.areturn, 1)) : zz_At M pc lv [(u, x)] σ x σ := by
  have hx : zz_vk σ [(u, x)] → u = 3000 → x = 0 := by
    rintro h rfl
    exact (zz_vk_c.mp h).1
  refine zs_end ?_ (fun a1 a2 a3 => ⟨a1, fun _ => ?_, fun z => Bool.noConfusion (hb.symm.trans z), zz_gr.rf, zz_fr.rf⟩) ⟨rfl, rfl⟩ (fun _ _ _ _ _ h => h) (fun a1 a3 ad => ?_)
  · unfold zz_rd
    rw [if_neg (by omega), if_neg (by omega)]
    exact hd
  · rcases hu with rfl | rfl
    · exact (zz_vk_c.mp a3).1
    · rw [hx a3 rfl]
      exact zz_ok_0 a1.2.2.1 (by omega)
  · unfold zz_rv
    rw [if_neg (by omega)]
    rcases hu with rfl | rfl
    · rfl
    · rw [hx a3 rfl, zz_cv_0 ad hrt.1]
      rfl
theorem zs_return (hrt : zm_rt M = 999) (hb : zm_rb M = false) (hd : decode (zm_b M) pc = .ok (.return_, 1)) : zz_At M pc lv [] σ 0 σ := by
  refine zs_end ?_ (fun a1 a2 a3 => ⟨a1, fun z => absurd hrt z, fun z => Bool.noConfusion (hb.symm.trans z), zz_gr.rf, zz_fr.rf⟩) ⟨rfl, rfl⟩ (fun _ _ _ _ _ h => h) (fun _ _ ad => ?_)
  · unfold zz_rd
    rw [if_pos hrt]
    exact hd
  · unfold zz_rv
    rw [if_pos hrt]
    rfl
theorem zs_returnC {k : Nat} {x : Int} (hrt : zm_rt M = 999) (hb : zm_rb M = false) (hk : k ≤ 900 ∧ zz_ar k = 0) (hsd : zz_sd k = zm_sd M) (hl : zz_lk lv 0 = (1000 + k, x)) (ho : zz_ow σ k x (zz_own k) = true) (hm : zz_m σ k + 1 = x) (hd : decode (zm_b M) pc = .ok (.return_, 1)) : zz_At M pc lv [] σ 0 (zz_f σ k) := by
  refine zs_end ?_ (fun a1 a2 a3 => ⟨zz_vs_f a1 hk.2 ho hm ?_, fun z => absurd hrt z, fun z => Bool.noConfusion (hb.symm.trans z), zz_gr_f σ k, zz_fr_f σ hsd⟩) ⟨rfl, rfl⟩ (fun _ _ _ _ _ h => h) (fun _ _ ad => ?_)
  · unfold zz_rd
    rw [if_pos hrt]
    exact hd
  · have h0 := a2 0
    rw [hl] at h0
    exact (zz_wid hk.1 h0).2
  · unfold zz_rv
    rw [if_pos hrt]
    rfl
end ZRET
end
section
/-! CALLS: a method's contract, and how it is used -/
theorem zz_tb_good {w : Jvm.Cond} (h : w ∈ zz_tb) : (w.onTables && w.keeps) = true ∨ ∃ ty, w = .arrayClass ty := good_of_word (List.mem_filter.mp h).2
def zz_Pc (D : va_G) (n0 : Nat) (ad : Nat → Int → Nat) (σ : zz_S) (vs : List zz_V) : Array Value → State → Prop := fun a U => a = (vs.map (zz_cv ad)).toArray ∧ zz_K D U ∧ zz_Hd D n0 ad σ U U.heap
def zz_Qc (M : zz_M) (D : va_G) (n0 : Nat) (ad : Nat → Int → Nat) (σ : zz_S) (r : Int) (τ : zz_S) : Array Value → State → Outcome → State → Prop := fun _ _ o t => ∃ ad', zz_Ex σ ad ad' ∧ zz_Hd D n0 ad' τ t t.heap ∧ o = .returned (zz_rv M ad' r).head?
def zz_rm (M : zz_M) (σ τ : zz_S) : Room := { frames := zm_h M, cells := zz_nc τ - zz_nc σ, slots := zz_ns τ - zz_ns σ, locals := 26 * zm_h M }
def zz_MOK (y : MethodName) (M : zz_M) (pt : List Nat) (vs : List Int) (σ : zz_S) (r : Int) (τ : zz_S) : Prop := vs.length = pt.length → zz_vs σ → zz_vk σ (pt.zip vs) → zz_go M σ r τ ∧
  ∀ (l : Launch) (D : va_G) (n0 : Nat) (ad : Nat → Int → Nat), Met l y (Jvm.Cond.code y (zm_b M) (zm_l M) (zm_ret M) :: zz_tb) (zz_rm M σ τ) (zz_Pc D n0 ad σ (pt.zip vs)) (zz_Qc M D n0 ad σ r τ) (zz_nc τ - zz_nc σ) (zz_ns τ - zz_ns σ) (fun q => n0 ≤ q)
theorem zz_Pc_blind {D : va_G} {n0 : Nat} {ad : Nat → Int → Nat} {σ : zz_S} {vs : List zz_V} : FrameBlind (zz_Pc D n0 ad σ vs) := fun a U g mk ⟨q1, q2, q3⟩ => ⟨q1, q2.calling, zz_Hd.moved (u := U) (U := U.calling g mk a) (Vm.Alike.refl U.vm) q3⟩
/-- the kinds of answers -/
def zz_rr (M : zz_M) : Prop := (zm_rt M = 999 ∧ zm_ret M = none) ∨ (zm_rt M = 0 ∧ zm_ret M = some .int) ∨ (zm_rt M = 0 ∧ zm_ret M = some .boolean ∧ zm_rb M = true) ∨ (2 ≤ zm_rt M ∧ zm_rt M ≤ 900 ∧ ∃ n, zm_ret M = some (.object n))
def zz_lv0 : Nat → List zz_V → List (Nat × zz_V)
  | _, [] => []
  | i, v :: r => (i, v) :: zz_lv0 (i + 1) r
theorem zz_lv0_lk : ∀ (vs : List zz_V) (i j : Nat), zz_lk (zz_lv0 i vs) j = if i ≤ j then (vs[j - i]?).getD (1, 0) else (1, 0)
  | [], i, j => by simp [zz_lv0, zz_lk]
  | v :: vs, i, j => by
    show cond (Nat.beq i j) v (zz_lk (zz_lv0 (i + 1) vs) j) = _
    by_cases e : i = j
    · subst e
      simp
    · rw [zz_nb e, zz_lv0_lk vs (i + 1) j]
      show (if i + 1 ≤ j then _ else _) = _
      by_cases h : i + 1 ≤ j
      · rw [if_pos h, if_pos (by omega), show j - i = (j - (i + 1)) + 1 by omega, List.getElem?_cons_succ]
      · rw [if_neg h, if_neg (by omega)]
theorem zz_args_lv {ad : Nat → Int → Nat} : ∀ (vs : List zz_V) (i : Nat), (∀ v ∈ vs, v.1 ≠ 1) → ∀ q, q ∈ lv_args i (vs.map (zz_cv ad)) ↔ ∃ j : Nat, ∃ v, vs[j]? = some v ∧ q = (i + j, zz_cv ad v)
  | [], i, _, q => by simp [lv_args]
  | v :: vs, i, h, q => by
    have hc : (zz_cv ad v).category = 1 := zz_cat ad (h v List.mem_cons_self)
    rw [List.map_cons, lv_args, if_neg (by rw [hc]; decide), List.mem_cons, zz_args_lv vs (i + 1) (fun w hw => h w (List.mem_cons_of_mem _ hw))]
    constructor
    · rintro (rfl | ⟨j, w, h1, h2⟩)
      · exact ⟨0, v, rfl, rfl⟩
      · exact ⟨j + 1, w, h1, by rw [h2, show i + 1 + j = i + (j + 1) by omega]⟩
    · rintro ⟨j, w, h1, h2⟩
      cases j with
      | zero =>
        cases h1
        exact Or.inl h2
      | succ j => exact Or.inr ⟨j, w, h1, by rw [h2, show i + 1 + j = i + (j + 1) by omega]⟩
theorem zz_sl_len {ad : Nat → Int → Nat} : ∀ (vs : List zz_V), (∀ v ∈ vs, v.1 ≠ 1) → (lg_sl (vs.map (zz_cv ad))).length = vs.length
  | [], _ => rfl
  | v :: vs, h => by
    have hc : (zz_cv ad v).category = 1 := zz_cat ad (h v List.mem_cons_self)
    have ih := zz_sl_len (ad := ad) vs (fun w hw => h w (List.mem_cons_of_mem _ hw))
    unfold lg_sl at ih ⊢
    rw [List.map_cons, List.flatMap_cons, if_neg (by rw [hc]; decide), List.length_append, ih]
    simp [Nat.add_comm]
theorem zz_ofW {l : Launch} {y : MethodName} {ws ws' : List Jvm.Cond} {rm : Room} {Pc : Array Value → State → Prop} {Qc : Array Value → State → Outcome → State → Prop} {mc ms : Nat} {free : Addr → Prop} {cc : ByteArray} {maxL : Nat} {ret : Option FieldType}
    (hy : plainFor y = true) (hw : ws = Jvm.Cond.code y cc maxL ret :: ws')
    (body : ∀ p e s m args below meth c s₁, BodyLoose p l y (headSpec ws rm) cc maxL ret e s m args below meth c s₁ → c.maxLocals = maxL → Pc args s →
      W p l e (headSpec ws rm).room s m args below meth c s.heap [] 0 0 (MQ below Qc args s mc ms free) (entryFrame m args maxL)) : Met l y ws rm Pc Qc mc ms free := by
  refine MetFree.of_bodySF (code := cc) (maxLocals := maxL) (ret := ret) hy ?_ ?_
  · intro args s m h hn
    obtain ⟨meth, c, h1, h2, h3, h4, h5, h6, -, -⟩ := Cond.code_spec hn (atoms_spec (ws := ws) h _ (by rw [hw]; exact List.mem_cons_self))
    exact ⟨meth, c, h1, h2, h3, h4, h5, h6⟩
  · intro p e s m args below meth c s₁ B hml hP _
    have hh0 : s₁.heap = s.heap := by rw [B.state]; rfl
    obtain ⟨t, a1, o, b1, b2, b3⟩ := body p e s m args below meth c s₁ B hml hP s₁ hh0 (Stand.of_body B)
    exact ⟨t, o, a1, b1, b2, ⟨b3.1, b3.2⟩⟩
/-- the contract, out of what holds at the method's first place -/
theorem zz_MOK_of {y : MethodName} {M : zz_M} {pt : List Nat} {vs : List Int} {σ τ : zz_S} {r : Int} (hy : plainFor y = true) (hown : y.cls = zm_own M) (hth : zm_th M ≠ 0 → y.name = "<init>") (hrr : zz_rr M) (hpt : ∀ t ∈ pt, t ≠ 1) (hpl : pt.length ≤ zm_l M) (h : vs.length = pt.length → zz_At M 0 (zz_lv0 0 (pt.zip vs)) [] σ r τ) : zz_MOK y M pt vs σ r τ := by
  intro hlen a1 a2
  have hne : ∀ v ∈ pt.zip vs, v.1 ≠ 1 := fun v hv => hpt _ (List.of_mem_zip hv).1
  have a3 : zz_vl σ (zz_lv0 0 (pt.zip vs)) := by
    intro j
    rw [zz_lv0_lk, if_pos (Nat.zero_le _)]
    cases e : (pt.zip vs)[j - 0]? with
    | none => exact zz_ok_l.mpr ⟨by omega, by omega⟩
    | some v => exact a2 v (List.mem_of_getElem? e)
  obtain ⟨hg, hW⟩ := h hlen a1 a3 (fun v hv => by cases hv)
  refine ⟨hg, fun l D n0 ad => ?_⟩
  refine zz_ofW (cc := zm_b M) (maxL := zm_l M) (ret := zm_ret M) hy rfl ?_
  intro p e s m args below meth c s₁ B hml hv
  obtain ⟨rfl, hK, hH⟩ := hv
  have hts := atoms_spec (ws := Jvm.Cond.code y (zm_b M) (zm_l M) (zm_ret M) :: zz_tb) B.pre
  have hlocks : meth.locks = false := B.notSynchronized
  have C : zz_Cx M p (zz_rm M σ τ) s m (((pt.zip vs).map (zz_cv ad)).toArray) meth c := ⟨B.exec, B.bytes, hml, by rw [← hown]; exact findClass_of_methodNamed B.named, fun w hw => hts w (List.mem_cons_of_mem _ hw), B.returns, hlocks, Nat.le_refl _, Nat.le_refl _, fun z => (name_of_methodNamed B.named B.method).1.trans (hth z)⟩
  have hll : (lg_sl ((pt.zip vs).map (zz_cv ad))).length ≤ zm_l M := by
    rw [zz_sl_len _ hne, List.length_zip]
    omega
  have hl := lv_entry ((pt.zip vs).map (zz_cv ad)) (n := zm_l M) hll
  rw [lg_entry_eq]
  generalize (lg_sl ((pt.zip vs).map (zz_cv ad)) ++ List.replicate (zm_l M - (lg_sl ((pt.zip vs).map (zz_cv ad))).length) Slot.unset).toArray = ls at hl ⊢
  have hL : zz_L ls (zm_l M) ad (zz_lv0 0 (pt.zip vs)) := by
    refine ⟨⟨hl.1, hl.2.1, fun q hq => by cases hq⟩, fun j hj => ?_⟩
    rw [zz_lv0_lk, if_pos (Nat.zero_le _)] at hj ⊢
    cases e : (pt.zip vs)[j - 0]? with
    | none =>
      rw [e] at hj
      exact absurd rfl hj
    | some v =>
      have := hl.2.2 (0 + (j - 0), zz_cv ad v) ((zz_args_lv _ 0 hne _).mpr ⟨j - 0, v, e, rfl⟩)
      rw [show 0 + (j - 0) = j by omega] at this
      exact this
  have k := hW p l e (zz_rm M σ τ) s m _ below meth c C D n0 ad s.heap [] 0 0 ls (MQ below (zz_Qc M D n0 ad σ r τ) (((pt.zip vs).map (zz_cv ad)).toArray) s (zz_nc τ - zz_nc σ) (zz_ns τ - zz_ns σ) (fun q => n0 ≤ q)) hK hH hL (fun q hq => by cases hq) (by rw [Nat.zero_add]; exact Nat.le_refl _) (by rw [Nat.zero_add]; exact Nat.le_refl _)
  refine k fun ad' H' locs' ls' pc' hex hH' hlo' hrd => ?_
  rw [Nat.zero_add, Nat.zero_add]
  have hq : ∀ t : State, t.heap = H' → s.WarmedH t.vm → zz_Qc M D n0 ad σ r τ (((pt.zip vs).map (zz_cv ad)).toArray) s (.returned (zz_rv M ad' r).head?) t := fun t ht hWm => ⟨ad', hex, by rw [ht]; exact hH'.moved hWm.alike, rfl⟩
  have hr := B.returns
  unfold zz_rd at hrd
  unfold zz_rv at hq ⊢
  rcases hrr with ⟨e1, e2⟩ | ⟨e1, e2⟩ | ⟨e1, e2, e3⟩ | ⟨e1, e2, n, e3⟩
  · rw [e1, if_pos rfl] at hrd
    rw [e1, if_pos rfl] at hq ⊢
    rw [e2] at hr
    exact W.vret B.exec B.bytes hr hq hlo' hrd
  · rw [e1, if_neg (by decide), if_pos rfl] at hrd
    rw [e1, if_neg (by decide)] at hq ⊢
    rw [e2] at hr
    exact W.iret (v := Int32.ofInt r) B.exec B.bytes hr hq hlo' hrd
  · rw [e1, if_neg (by decide), if_pos rfl] at hrd
    rw [e1, if_neg (by decide)] at hq ⊢
    rw [e2] at hr
    exact W.zret (v := Int32.ofInt r) (ty := .boolean) B.exec B.bytes hr (by rcases hg.2.2.1 e3 with rfl | rfl <;> rfl) hq hlo' hrd
  · rw [if_neg (by omega), if_neg (by omega)] at hrd
    rw [if_neg (by omega)] at hq ⊢
    rw [e3] at hr
    refine W.aret (v := zz_cv ad' (zm_rt M, r)) B.exec B.bytes hr (Or.inl ⟨n, rfl⟩) ?_ hq hlo' hrd
    by_cases hx : r = 0
    · exact Or.inl (by rw [hx]; exact zz_cv_0 ad' e1)
    · exact Or.inr (zz_cv_ref ad' e1 hx)
section ZCALL
variable {M M' : zz_M} {pc : Nat} {lv : List (Nat × zz_V)} {sk rest : List zz_V} {σ σ2 τ : zz_S} {r q : Int} {y : MethodName} {pt : List Nat} {vs : List Int}
theorem zz_after {p : Program} {l : Launch} {e : Env} {R : Room} {s : State} {m : MethodId} {args : Array Value} {below : List Frame} {meth : Method} {c : Code} {H : Heap} {locs : List Loc} {cells slots mc ms : Nat} {Q : State → Prop} {ls : Array Slot} {st0 rs : List Value} {D : va_G} {n0 : Nat} {ad : Nat → Int → Nat} {a : Array Value}
    (hr : va_Run p l e R s m args below meth c H locs cells slots mc ms (F0 m pc ls st0) rs (zz_Qc M' D n0 ad σ q σ2 a) (fun x => n0 ≤ x)) (hlo : ∀ x ∈ locs, n0 ≤ x.base)
    (kk : ∀ (ad' : Nat → Int → Nat) (H' : Heap) (locs' : List Loc), zz_Ex σ ad ad' → zz_Hd D n0 ad' σ2 s H' → (∀ x ∈ locs', n0 ≤ x.base) → W p l e R s m args below meth c H' locs' (cells + mc) (slots + ms) Q (F0 m (pc + 3) ls ((zz_rv M' ad' q).head?.toList ++ rs))) : W p l e R s m args below meth c H locs cells slots Q (F0 m pc ls st0) := by
  intro T hT X
  obtain ⟨v, st₀, t, T', L, h0, X', hL, e1, e2, ⟨ad', x1, x2, x3⟩, st⟩ := hr T hT X
  cases x3
  have hal : t.vm.Alike s.vm := by rw [← e2]; exact X'.warmed.alike.symm
  obtain ⟨t2, a1, b1⟩ := kk ad' T'.heap (locs ++ L) x1 (by rw [e1]; exact x2.moved hal) (fun x hx => by
    rcases List.mem_append.mp hx with hx | hx
    · exact hlo x hx
    · exact hL x hx) T' rfl X'
  exact ⟨t2, st t2 a1, b1⟩
/-- what a call says, whatever its kind: the arguments lie on the stack, the callee's contract holds, and the machine runs it -/
theorem zs_call {s2 : List zz_V} (hM : zz_MOK y M' pt vs σ q σ2) (hlen : vs.length = pt.length) (hsd : zm_sd M' = zm_sd M ∨ zm_sd M = 2) (hrr : zz_rr M')
    (hsk : zz_vs σ → zz_vk σ sk → zz_vk σ (pt.zip vs) ∧ zz_vk σ rest)
    (hs2 : zz_vs σ → zz_vk σ sk → zz_go M' σ q σ2 → zz_vk σ2 s2 ∧ ∀ ad ad', zz_Ex σ ad ad' → s2.map (zz_cv ad') = (zz_rv M' ad' q).head?.toList ++ rest.map (zz_cv ad))
    (run : zz_vs σ → zz_vk σ sk → zz_go M' σ q σ2 → ∀ (p : Program) (l : Launch) (e : Env) (R : Room) (s : State) (m : MethodId) (args : Array Value) (below : List Frame) (meth : Method) (c : Code), zz_Cx M p R s m args meth c → ∀ (D : va_G) (n0 : Nat) (ad : Nat → Int → Nat) (H : Heap) (locs : List Loc) (cells slots : Nat) (ls : Array Slot), zz_K D s → zz_Hd D n0 ad σ s H → ls.size = zm_l M → cells + (zz_nc σ2 - zz_nc σ) ≤ R.cells → slots + (zz_ns σ2 - zz_ns σ) ≤ R.slots →
      ∃ a, va_Run p l e R s m args below meth c H locs cells slots (zz_nc σ2 - zz_nc σ) (zz_ns σ2 - zz_ns σ) (F0 m pc ls (sk.map (zz_cv ad))) (rest.map (zz_cv ad)) (zz_Qc M' D n0 ad σ q σ2 a) (fun x => n0 ≤ x))
    (h : zz_At M (pc + 3) lv s2 σ2 r τ) : zz_At M pc lv sk σ r τ := by
  refine zz_At.step (fun a1 a2 a3 => ?_) (fun a1 a2 a3 p l e R s m args below meth c C D n0 ad H locs cells slots ls Q hK hH hL hlo hcl hsl kk => ?_) h
  · obtain ⟨hz, -⟩ := hM hlen a1 (hsk a1 a3).1
    refine ⟨hz.1, a2.mono hz.2.2.2.1, (hs2 a1 a3 hz).1, hz.2.2.2.1, ?_⟩
    rcases hsd with hsd | hsd
    · rw [← hsd]
      exact hz.2.2.2.2
    · exact Or.inl hsd
  · obtain ⟨hz, -⟩ := hM hlen a1 (hsk a1 a3).1
    obtain ⟨a, hrun⟩ := run a1 a3 hz p l e R s m args below meth c C D n0 ad H locs cells slots ls hK hH hL.1.1 hcl hsl
    refine zz_after hrun hlo fun ad' H' locs' hex hH' hlo' => ?_
    have k2 := kk ad' H' locs' ls hex hH' (hL.ex a1 a2 hex) hlo'
    rw [(hs2 a1 a3 hz).2 ad ad' hex] at k2
    exact k2
end ZCALL
end
section
section ZCALLS
variable {M M' : zz_M} {pc : Nat} {lv : List (Nat × zz_V)} {sk rest : List zz_V} {σ σ2 τ : zz_S} {r q : Int} {y : MethodName} {pt : List Nat} {vs : List Int}
theorem zz_null_ok {x : Int} (h : zz_ok σ (3000, x)) : x = 0 := h
theorem zz_ta_spec : ∀ (us : List Nat) (sk : List zz_V) (acc : List Int) (vs : List Int) (rest : List zz_V), zz_ta us sk acc = some (vs, rest) → ∃ ws : List Int, vs = ws ++ acc ∧ ws.length = us.length ∧ (zz_vs σ → zz_vk σ sk → zz_vk σ (us.reverse.zip ws) ∧ zz_vk σ rest ∧ ∀ ad, sk.map (zz_cv ad) = ((us.reverse.zip ws).map (zz_cv ad)).reverse ++ rest.map (zz_cv ad))
  | [], sk, acc, vs, rest, h => by
    cases h
    exact ⟨[], rfl, rfl, fun _ k => ⟨fun v hv => (by cases hv), k, fun _ => rfl⟩⟩
  | u :: us, [], acc, vs, rest, h => by cases h
  | u :: us, (t, x) :: sk, acc, vs, rest, h => by
    unfold zz_ta at h
    cases hb : (Nat.beq t u || (Nat.beq t 3000 && (Nat.ble 2 u && Nat.ble u 999))) with
    | false => rw [hb] at h; cases h
    | true =>
      rw [hb] at h
      obtain ⟨ws, e1, e2, e3⟩ := zz_ta_spec us sk (x :: acc) vs rest h
      refine ⟨ws ++ [x], by rw [e1]; simp, by simp [e2], fun a1 k => ?_⟩
      obtain ⟨k1, k2⟩ := zz_vk_c.mp k
      obtain ⟨f1, f2, f3⟩ := e3 a1 k2
      have ht : zz_ok σ (u, x) ∧ ∀ ad, zz_cv ad (t, x) = zz_cv ad (u, x) := by
        rw [Bool.or_eq_true] at hb
        rcases hb with hb | hb
        · have := Nat.eq_of_beq_eq_true hb
          subst this
          exact ⟨k1, fun _ => rfl⟩
        · rw [Bool.and_eq_true, Bool.and_eq_true] at hb
          obtain ⟨b1, b2, b3⟩ := hb
          have := Nat.eq_of_beq_eq_true b1
          subst this
          have b2 := Nat.le_of_ble_eq_true b2
          have b3 := Nat.le_of_ble_eq_true b3
          have := zz_null_ok k1
          subst this
          exact ⟨zz_ok_0 a1.2.2.1 b3, fun ad => by rw [zz_cv_0 ad (by omega), zz_cv_0 ad b2]⟩
      rw [List.reverse_cons, List.zip_append (by rw [List.length_reverse, e2])]
      refine ⟨fun v hv => ?_, f2, fun ad => ?_⟩
      · rcases List.mem_append.mp hv with hv | hv
        · exact f1 v hv
        · rw [List.mem_singleton.mp hv]
          exact ht.1
      · rw [List.map_append, List.reverse_append]
        show zz_cv ad (t, x) :: sk.map (zz_cv ad) = zz_cv ad (u, x) :: (_ ++ _)
        rw [ht.2 ad, f3 ad]
        rfl
theorem zz_sum {l : List zz_V} {ad : Nat → Int → Nat} (h : l.length ≤ 4) : ((l.map (zz_cv ad)).map fun v => v.category).sum ≤ 8 := by
  have : ∀ l : List zz_V, ((l.map (zz_cv ad)).map fun v => v.category).sum ≤ 2 * l.length := by
    intro l
    induction l with
    | nil => exact Nat.le_refl _
    | cons a l ih =>
      rw [List.map_cons, List.map_cons, List.sum_cons, List.length_cons]
      have := zz_catle (zz_cv ad a)
      omega
  have := this l
  omega
/-- the room of a call, and the words that a call hands on -/
theorem zz_room {R : Room} (h1 : zm_h M' + 1 ≤ zm_h M) (h2 : zm_l M' ≤ 7) (hf : zm_h M ≤ R.frames) (hl : 26 * zm_h M ≤ R.locals) : (zz_rm M' σ σ2).frames + 1 ≤ R.frames ∧ 8 + (zm_l M' + 11) + (zz_rm M' σ σ2).locals ≤ R.locals := by
  show zm_h M' + 1 ≤ _ ∧ 8 + (zm_l M' + 11) + 26 * zm_h M' ≤ _
  omega
theorem zz_gws (hc : Jvm.Cond.code y (zm_b M') (zm_l M') (zm_ret M') ∈ zz_tb) : GoodIn zz_tb (Jvm.Cond.code y (zm_b M') (zm_l M') (zm_ret M') :: zz_tb) := by
  intro w hw
  rcases List.mem_cons.mp hw with rfl | hw
  · exact ⟨hc, zz_tb_good hc⟩
  · exact ⟨hw, zz_tb_good hw⟩
def zz_cd (M M' : zz_M) (y : MethodName) (pt : List Nat) (n : Nat) : Prop := zm_h M' + 1 ≤ zm_h M ∧ zm_l M' ≤ 7 ∧ Jvm.Cond.code y (zm_b M') (zm_l M') (zm_ret M') ∈ zz_tb ∧ Jvm.Cond.initialized y.cls ∈ zz_tb ∧ y.cls ≠ "java/lang/invoke/MethodHandle" ∧ y.cls ≠ "java/lang/invoke/VarHandle" ∧ (parseMethodDescriptor y.desc).map (fun d => d.parameters.length) = some n
theorem zz_callB {R : Room} {s : State} {args : Array Value} {p : Program} {m : MethodId} {meth : Method} {c : Code} {n i : Nat} (C : zz_Cx M p R s m args meth c) (hd : zz_cd M M' y pt n) (hl : Jvm.Cond.methodLink (zm_own M) i y ∈ zz_tb) : CallB R s args (zm_own M) i y (zm_b M') (zm_l M') (zm_ret M') (Jvm.Cond.code y (zm_b M') (zm_l M') (zm_ret M') :: zz_tb) (zz_rm M' σ σ2) (zz_nc σ2 - zz_nc σ) (zz_ns σ2 - zz_ns σ) n :=
  callB_of n C.2.2.2.2.1 (zz_gws hd.2.2.1) rfl rfl rfl (C.2.2.2.2.1 _ hd.2.2.2.1) (C.2.2.2.2.1 _ hl) ⟨hd.2.2.2.2.1, hd.2.2.2.2.2.1, hd.2.2.2.2.2.2⟩ (zz_room hd.1 hd.2.1 C.2.2.2.2.2.2.2.1 C.2.2.2.2.2.2.2.2.1)
theorem zz_callN {R : Room} {s : State} {args : Array Value} {p : Program} {m : MethodId} {meth : Method} {c : Code} {n i : Nat} {D : va_G} {host : String} (C : zz_Cx M p R s m args meth c) (hK : zz_K D s) (hd : zz_cd M M' y pt n) (hl : (zm_own M, i, y, host) ∈ zz_nm) : va_CN R s args (zm_own M) i y host (zm_b M') (zm_l M') (zm_ret M') (Jvm.Cond.code y (zm_b M') (zm_l M') (zm_ret M') :: zz_tb) (zz_rm M' σ σ2) (zz_nc σ2 - zz_nc σ) (zz_ns σ2 - zz_ns σ) n :=
  va_cnB n C.2.2.2.2.1 (zz_gws hd.2.2.1) rfl rfl rfl (hK.2.2 _ hl) (C.2.2.2.2.1 _ hd.2.2.2.1) ⟨hd.2.2.2.2.1, hd.2.2.2.2.2.1, hd.2.2.2.2.2.2⟩ (zz_room hd.1 hd.2.1 C.2.2.2.2.2.2.2.1 C.2.2.2.2.2.2.2.2.1)
theorem zz_fix {R : Room} {s : State} {args : Array Value} {p : Program} {m : MethodId} {meth : Method} {c : Code} (C : zz_Cx M p R s m args meth c) : CallFix p m c (zm_b M) (zm_l M) s args zz_tb (zm_own M) := ⟨C.1, C.2.1, C.2.2.1, C.2.2.2.1, C.2.2.2.2.1⟩
/-- what is on the stack behind a call -/
theorem zz_s2 (hrr : zz_rr M') (a1 : zz_vs σ) (hr0 : zz_vk σ rest) (hz : zz_go M' σ q σ2) : zz_vk σ2 (if zm_rt M' = 999 then rest else (zm_rt M', q) :: rest) ∧ ∀ ad ad', zz_Ex σ ad ad' → (if zm_rt M' = 999 then rest else (zm_rt M', q) :: rest).map (zz_cv ad') = (zz_rv M' ad' q).head?.toList ++ rest.map (zz_cv ad) := by
  have hrest := hr0.mono hz.2.2.2.1
  unfold zz_rv
  split
  · rename_i e
    exact ⟨hrest, fun ad ad' hex => by rw [zz_map_ex a1 hr0 hex]; rfl⟩
  · rename_i e
    exact ⟨zz_vk_c.mpr ⟨hz.2.1 e, hrest⟩, fun ad ad' hex => by rw [List.map_cons, zz_map_ex a1 hr0 hex]; rfl⟩
theorem zs_static {i n : Nat} (hM : zz_MOK y M' pt vs σ q σ2) (hsd : zm_sd M' = zm_sd M ∨ zm_sd M = 2) (hrr : zz_rr M') (hta : zz_ta pt.reverse sk [] = some (vs, rest)) (hr4 : rest.length ≤ 4) (hcd : zz_cd M M' y pt n) (hn : n = pt.length) (hst : Jvm.Cond.static y ∈ zz_tb) (hl : Jvm.Cond.methodLink (zm_own M) i y ∈ zz_tb ∨ ∃ host, (zm_own M, i, y, host) ∈ zz_nm) (hd : decode (zm_b M) pc = .ok (.invokestatic i, 3)) (h : zz_At M (pc + 3) lv (if zm_rt M' = 999 then rest else (zm_rt M', q) :: rest) σ2 r τ) : zz_At M pc lv sk σ r τ := by
  obtain ⟨ws, e1, e2, e3⟩ := zz_ta_spec (σ := σ) _ _ _ _ _ hta
  rw [List.append_nil] at e1
  subst e1
  rw [List.reverse_reverse] at e3
  rw [List.length_reverse] at e2
  refine zs_call hM e2 hsd hrr (fun a1 a3 => ⟨(e3 a1 a3).1, (e3 a1 a3).2.1⟩) (fun a1 a3 hz => zz_s2 hrr a1 (e3 a1 a3).2.1 hz) (fun a1 a3 hz p l e R s m args below meth c C D n0 ad H locs cells slots ls hK hH hls hcl hsl => ?_) h
  obtain ⟨f1, f2, f3⟩ := e3 a1 a3
  obtain ⟨-, hMet⟩ := hM e2 a1 f1
  have hp : PreS s H (zz_Pc D n0 ad σ (pt.zip vs)) ((pt.zip vs).map (zz_cv ad)) := ⟨zz_Pc_blind, fun U hU hW => ⟨rfl, hK.warm hW, by rw [hU]; exact hH.moved hW.alike⟩⟩
  have hlen : ((pt.zip vs).map (zz_cv ad)).length = n := by
    rw [List.length_map, List.length_zip, hn]
    omega
  rcases hl with hl | ⟨host, hl⟩
  · exact ⟨_, va_runS (As := (pt.zip vs).map (zz_cv ad)) (rest := rest.map (zz_cv ad)) (zz_fix C) (hMet l D n0 ad) ⟨zz_callB C hcd hl, C.2.2.2.2.1 _ hst⟩ hp rfl hlen hls (f3 ad) (lv_room (zz_sum hr4)) hd ⟨hcl, hsl⟩⟩
  · exact ⟨_, va_runSN (As := (pt.zip vs).map (zz_cv ad)) (rest := rest.map (zz_cv ad)) (zz_fix C) (hMet l D n0 ad) ⟨zz_callN C hK hcd hl, C.2.2.2.2.1 _ hst, trivial⟩ hp rfl hlen hls (f3 ad) (lv_room (zz_sum hr4)) hd ⟨hcl, hsl⟩⟩
theorem zs_virtual {i n k : Nat} {x : Int} {us : List Nat} {xs : List Int} {Cq : vw_C} (hpt : pt = (2 + k) :: us) (hvs : vs = x :: xs) (hx : ¬ x = 0) (hq : zz_ob k Cq) (hy : y.cls = Cq.1) (hM : zz_MOK y M' pt vs σ q σ2) (hsd : zm_sd M' = zm_sd M ∨ zm_sd M = 2) (hrr : zz_rr M') (hta : zz_ta pt.reverse sk [] = some (vs, rest)) (hr4 : rest.length ≤ 4) (hcd : zz_cd M M' y pt n) (hn : n + 1 = pt.length) (hin : Jvm.Cond.instanceMethod y ∈ zz_tb) (hse : ∀ (s : State) (args : Array Value), (∀ w ∈ zz_tb, w.before args s = true) → (Jvm.Cond.selects y.cls y y).before args s = true) (hl : Jvm.Cond.methodLink (zm_own M) i y ∈ zz_tb) (hd : decode (zm_b M) pc = .ok (.invokevirtual i, 3)) (h : zz_At M (pc + 3) lv (if zm_rt M' = 999 then rest else (zm_rt M', q) :: rest) σ2 r τ) : zz_At M pc lv sk σ r τ := by
  obtain ⟨ws, e1, e2, e3⟩ := zz_ta_spec (σ := σ) _ _ _ _ _ hta
  rw [List.append_nil] at e1
  subst e1
  rw [List.reverse_reverse] at e3
  rw [List.length_reverse] at e2
  refine zs_call hM e2 hsd hrr (fun a1 a3 => ⟨(e3 a1 a3).1, (e3 a1 a3).2.1⟩) (fun a1 a3 hz => zz_s2 hrr a1 (e3 a1 a3).2.1 hz) (fun a1 a3 hz p l e R s m args below meth c C D n0 ad H locs cells slots ls hK hH hls hcl hsl => ?_) h
  obtain ⟨f1, f2, f3⟩ := e3 a1 a3
  obtain ⟨-, hMet⟩ := hM e2 a1 f1
  subst hpt
  subst hvs
  have hok : zz_ok σ (2 + k, x) := f1 _ (by simp)
  obtain ⟨i1, i2, -⟩ := zz_kid a1 hq.2.2.2 hok hx
  obtain ⟨⟨cell, g1, g2⟩, -⟩ := hH.2.1 k x i1 i2
  have hz1 : (((2 + k) :: us).zip (x :: xs)).map (zz_cv ad) = .ref (ad k x) :: (us.zip xs).map (zz_cv ad) := by
    rw [List.zip_cons_cons, List.map_cons, zz_cv_r ad hq.2.2.2 hx]
  have hp : PreV s H y.cls (ad k x) (zz_Pc D n0 ad σ (((2 + k) :: us).zip (x :: xs))) ((us.zip xs).map (zz_cv ad)) := by
    refine ⟨zz_Pc_blind, ⟨cell, g1, ?_⟩, fun U hU hW => ⟨by rw [hz1], hK.warm hW, by rw [hU]; exact hH.moved hW.alike⟩⟩
    rcases g2 with ⟨-, w1, w2, -⟩ | ⟨w0, -⟩
    · obtain ⟨-, hfc, -⟩ := hK.1 _ _ hq.2.1
      exact ⟨by rw [w2]; rfl, by rw [w1, hy]; exact hfc⟩
    · exact absurd hq.1 w0
  have hlen : ((us.zip xs).map (zz_cv ad)).length = n := by
    simp only [List.length_cons] at e2 hn
    rw [List.length_map, List.length_zip]
    omega
  exact ⟨_, va_runV (As := (us.zip xs).map (zz_cv ad)) (rest := rest.map (zz_cv ad)) (zz_fix C) (hMet l D n0 ad) ⟨zz_callB C hcd hl, C.2.2.2.2.1 _ hin, hse s args C.2.2.2.2.1⟩ hp rfl hlen hls (by rw [f3 ad, hz1]; simp) (lv_room (zz_sum hr4)) hd ⟨hcl, hsl⟩⟩
theorem zz_un_vk {k : Nat} (hk : k ≤ 900) (hm : ∀ x, zz_ok σ (1000 + k, x) → zz_ok σ (2 + k, x)) : ∀ l : List zz_V, zz_vk σ l → zz_vk σ (zz_un (1000 + k) l)
  | [], h => h
  | (u, x) :: l, h => by
    obtain ⟨h1, h2⟩ := zz_vk_c.mp h
    refine zz_vk_c.mpr ⟨?_, zz_un_vk hk hm l h2⟩
    cases hb : Nat.beq u (1000 + k) with
    | false => exact h1
    | true =>
      have := Nat.eq_of_beq_eq_true hb
      subst this
      show zz_ok σ (1000 + k - 998, x)
      rw [show 1000 + k - 998 = 2 + k by omega]
      exact hm x h1
theorem zz_un_cv {k : Nat} (hk : k ≤ 900) (ad : Nat → Int → Nat) : ∀ l : List zz_V, (zz_un (1000 + k) l).map (zz_cv ad) = l.map (zz_cv ad)
  | [] => rfl
  | (u, x) :: l => by
    show zz_cv ad (cond (Nat.beq u (1000 + k)) (1000 + k - 998) u, x) :: (zz_un (1000 + k) l).map (zz_cv ad) = zz_cv ad (u, x) :: l.map (zz_cv ad)
    rw [zz_un_cv hk ad l]
    congr 1
    cases hb : Nat.beq u (1000 + k) with
    | false => rfl
    | true =>
      have := Nat.eq_of_beq_eq_true hb
      subst this
      show zz_cv ad (1000 + k - 998, x) = _
      rw [show 1000 + k - 998 = 2 + k by omega]
      by_cases hx : x = 0
      · subst hx
        rw [zz_cv_0 ad (by omega), zz_cv_0 ad (by omega)]
      · rw [zz_cv_r ad hk hx, zz_cv_w ad hx]
theorem zs_special {i n k : Nat} {x : Int} {us : List Nat} {xs : List Int} (hpt : pt = (1000 + k) :: us) (hvs : vs = x :: xs) (hk : k ≤ 900) (hall : zz_c σ2 k = zz_m σ2 k) (hM : zz_MOK y M' pt vs σ q σ2) (hsd : zm_sd M' = zm_sd M ∨ zm_sd M = 2) (hrr : zz_rr M') (hrt : zm_rt M' = 999) (hta : zz_ta pt.reverse sk [] = some (vs, rest)) (hr4 : rest.length ≤ 4) (hcd : zz_cd M M' y pt n) (hn : n + 1 = pt.length) (hin : Jvm.Cond.instanceMethod y ∈ zz_tb) (hy : y.name = "<init>") (hret : zm_ret M' = none) (hl : Jvm.Cond.methodLink (zm_own M) i y ∈ zz_tb ∨ ∃ host, (zm_own M, i, y, host) ∈ zz_nm) (hd : decode (zm_b M) pc = .ok (.invokespecial i, 3)) (h : zz_At M (pc + 3) lv (zz_un (1000 + k) rest) σ2 r τ) : zz_At M pc lv sk σ r τ := by
  obtain ⟨ws, e1, e2, e3⟩ := zz_ta_spec (σ := σ) _ _ _ _ _ hta
  rw [List.append_nil] at e1
  subst e1
  rw [List.reverse_reverse] at e3
  rw [List.length_reverse] at e2
  have hs2 : zz_vs σ → zz_vk σ sk → zz_go M' σ q σ2 → zz_vk σ2 (zz_un (1000 + k) rest) ∧ ∀ ad ad', zz_Ex σ ad ad' → (zz_un (1000 + k) rest).map (zz_cv ad') = (zz_rv M' ad' q).head?.toList ++ rest.map (zz_cv ad) := by
    intro a1 a3 hz
    obtain ⟨f1, f2, f3⟩ := e3 a1 a3
    refine ⟨zz_un_vk hk (fun x hx => ?_) _ (f2.mono hz.2.2.2.1), fun ad ad' hex => ?_⟩
    · have := zz_wid hk hx
      refine (zz_ok_r (by omega) (by omega)).mpr ?_
      rw [show 2 + k - 2 = k by omega]
      omega
    · rw [zz_un_cv hk, zz_map_ex a1 f2 hex]
      unfold zz_rv
      rw [if_pos hrt]
      rfl
  refine zs_call hM e2 hsd hrr (fun a1 a3 => ⟨(e3 a1 a3).1, (e3 a1 a3).2.1⟩) hs2 (fun a1 a3 hz p l e R s m args below meth c C D n0 ad H locs cells slots ls hK hH hls hcl hsl => ?_) h
  obtain ⟨f1, f2, f3⟩ := e3 a1 a3
  obtain ⟨-, hMet⟩ := hM e2 a1 f1
  subst hpt
  subst hvs
  have hok : zz_ok σ (1000 + k, x) := f1 _ (by simp)
  obtain ⟨i1, i2⟩ := zz_wid hk hok
  have hz1 : (((1000 + k) :: us).zip (x :: xs)).map (zz_cv ad) = .ref (ad k x) :: (us.zip xs).map (zz_cv ad) := by
    rw [List.zip_cons_cons, List.map_cons, zz_cv_w ad (by omega)]
  have hp : PreS s H (zz_Pc D n0 ad σ (((1000 + k) :: us).zip (x :: xs))) (.ref (ad k x) :: (us.zip xs).map (zz_cv ad)) := ⟨zz_Pc_blind, fun U hU hW => ⟨by rw [hz1], hK.warm hW, by rw [hU]; exact hH.moved hW.alike⟩⟩
  have hlen : ((us.zip xs).map (zz_cv ad)).length = n := by
    simp only [List.length_cons] at e2 hn
    rw [List.length_map, List.length_zip]
    omega
  rcases hl with hl | ⟨host, hl⟩
  · have cb := zz_callB (σ := σ) (σ2 := σ2) C hcd hl
    have hm := hMet l D n0 ad
    rw [hret] at cb hm
    exact ⟨_, va_runI (As := (us.zip xs).map (zz_cv ad)) (rest := rest.map (zz_cv ad)) (zz_fix C) hm ⟨cb, hy, C.2.2.2.2.1 _ hin⟩ hp rfl hlen hls (by rw [f3 ad, hz1]; simp) (lv_room (zz_sum hr4)) hd ⟨hcl, hsl⟩⟩
  · have cb := zz_callN (σ := σ) (σ2 := σ2) C hK hcd hl
    have hm := hMet l D n0 ad
    rw [hret] at cb hm
    exact ⟨_, va_runIN (As := (us.zip xs).map (zz_cv ad)) (rest := rest.map (zz_cv ad)) (zz_fix C) hm ⟨cb, hy, C.2.2.2.2.1 _ hin⟩ hp rfl hlen hls (by rw [f3 ad, hz1]; simp) (lv_room (zz_sum hr4)) hd ⟨hcl, hsl⟩⟩
theorem zs_objinit {i u : Nat} {x : Int} (hu : 1000 ≤ u ∧ u ≤ 1900) (hr4 : rest.length ≤ 4) (hh : 1 ≤ zm_h M) (hl : Jvm.Cond.methodLink (zm_own M) i objectInit ∈ zz_tb) (hin : Jvm.Cond.instanceMethod objectInit ∈ zz_tb) (hc : Jvm.Cond.code objectInit ⟨#[0xb1]⟩ 1 none ∈ zz_tb) (hd : decode (zm_b M) pc = .ok (.invokespecial i, 3)) (h : zz_At M (pc + 3) lv rest σ r τ) : zz_At M pc lv ((u, x) :: rest) σ r τ := by
  refine zz_At.pure zz_vd1 (fun a1 a2 a3 p l e R s m args below meth c C D n0 ad H locs cells slots ls Q hK hH hL kk => ?_) h
  have hok := (zz_vk_c.mp a3).1
  obtain ⟨k, rfl⟩ : ∃ k, u = 1000 + k := ⟨u - 1000, by omega⟩
  have := zz_wid (k := k) (by omega) hok
  rw [List.map_cons, zz_cv_w ad (by omega)]
  have hs := zz_sum (l := rest) (ad := ad) hr4
  refine W.objInit C.1 C.2.1 C.2.2.2.1 (C.2.2.2.2.1 _ hl) (C.2.2.2.2.1 _ hin) (C.2.2.2.2.1 _ hc) rfl (by rw [C.2.2.1]; exact hL.1.1) rfl hd (by have := C.2.2.2.2.2.2.2.1; omega) ?_ kk
  have := C.2.2.2.2.2.2.2.2.1
  show 2 * 0 + _ + 12 ≤ _
  omega
end ZCALLS
end
section
/-! THE CHECK OF A CODE TABLE, and what it gives -/
abbrev zz_I : Type := MethodName × zz_M × List Nat × (Nat × Nat × Nat × Nat)
def zz_in (z : Int) : Bool := decide (-2147483648 ≤ z ∧ z < 2147483648)
def zz_inL (z : Int) : Bool := decide (-9223372036854775808 ≤ z ∧ z < 9223372036854775808)
def zz_wd (w : Nat) (c : Jvm.Cond) : Bool := decide (lw_tbl[w]? = some c) && goodWord c
theorem zz_wd_ok {w : Nat} {c : Jvm.Cond} (h : zz_wd w c = true) : c ∈ zz_tb := by
  unfold zz_wd at h
  rw [Bool.and_eq_true, decide_eq_true_eq] at h
  exact List.mem_filter.mpr ⟨List.mem_of_getElem? h.1, h.2⟩
def zz_obk (k : Nat) (f : vw_C → Bool) : Bool := match zz_vw[zz_cl k]? with
  | some q => decide (zz_ar k = 0 ∧ q.2.2 = zz_len k ∧ k ≤ 900) && f q
  | none => false
theorem zz_obk_ok {k : Nat} {f : vw_C → Bool} (h : zz_obk k f = true) : ∃ q, zz_ob k q ∧ f q = true := by
  unfold zz_obk at h
  cases e : zz_vw[zz_cl k]? with
  | none => rw [e] at h; cases h
  | some q =>
    rw [e] at h
    dsimp only at h
    rw [Bool.and_eq_true, decide_eq_true_eq] at h
    exact ⟨q, ⟨h.1.1, e, h.1.2.1, h.1.2.2⟩, h.2⟩
def zz_jp (pc : Nat) (off : Int) (q : Nat) : Bool := decide ((pc : Int) + off = (q : Int))
/-- an array kind of one of the three sorts -/
def zz_ak (k n : Nat) (ty : FieldType) : Bool := decide (zz_ar k = n ∧ k ≤ 900 ∧ zz_aty k = ty)
/-- the method's own row -/
def zz_mck (M : zz_M) (I : zz_I) (n : Nat) : Bool := match I with
  | (y, M', _, (wc, wi, _, _)) => decide (zm_h M' + 1 ≤ zm_h M ∧ zm_l M' ≤ 7 ∧ (zm_sd M' = zm_sd M ∨ zm_sd M = 2) ∧ y.cls ≠ "java/lang/invoke/MethodHandle" ∧ y.cls ≠ "java/lang/invoke/VarHandle" ∧ (parseMethodDescriptor y.desc).map (fun d => d.parameters.length) = some n) && (zz_wd wc (Jvm.Cond.code y (zm_b M') (zm_l M') (zm_ret M')) && zz_wd wi (Jvm.Cond.initialized y.cls))
theorem zz_mck_ok {M : zz_M} {I : zz_I} {n : Nat} (h : zz_mck M I n = true) : zz_cd M I.2.1 I.1 I.2.2.1 n ∧ (zm_sd I.2.1 = zm_sd M ∨ zm_sd M = 2) := by
  obtain ⟨y, M', pt, wc, wi, w3, w4⟩ := I
  unfold zz_mck at h
  dsimp only at h
  rw [Bool.and_eq_true, Bool.and_eq_true, decide_eq_true_eq] at h
  obtain ⟨⟨h1, h2, h3, h4, h5, h6⟩, h7, h8⟩ := h
  exact ⟨⟨h1, h2, zz_wd_ok h7, zz_wd_ok h8, h4, h5, h6⟩, h3⟩
def zz_rrB (M : zz_M) : Bool := match zm_ret M with
  | none => decide (zm_rt M = 999)
  | some .int => decide (zm_rt M = 0)
  | some .boolean => decide (zm_rt M = 0) && zm_rb M
  | some (.object _) => decide (2 ≤ zm_rt M ∧ zm_rt M ≤ 900)
  | _ => false
theorem zz_rrB_ok {M : zz_M} (h : zz_rrB M = true) : zz_rr M := by
  unfold zz_rrB at h
  split at h
  · exact Or.inl ⟨of_decide_eq_true h, by assumption⟩
  · exact Or.inr (Or.inl ⟨of_decide_eq_true h, by assumption⟩)
  · rw [Bool.and_eq_true] at h
    exact Or.inr (Or.inr (Or.inl ⟨of_decide_eq_true h.1, by assumption, h.2⟩))
  · obtain ⟨h1, h2⟩ := of_decide_eq_true h
    exact Or.inr (Or.inr (Or.inr ⟨h1, h2, _, by assumption⟩))
  · cases h
def zz_ca (inf : Nat → Option zz_I) (a : Nat) (t : Nat) (tg : List Nat) (f : zz_I → Bool) : Bool := match inf a with
  | some I => decide (I.2.2.1.reverse = tg ∧ zm_rt I.2.1 = t) && (zz_rrB I.2.1 && f I)
  | none => false
theorem zz_ca_ok {inf : Nat → Option zz_I} {a t : Nat} {tg : List Nat} {f : zz_I → Bool} (h : zz_ca inf a t tg f = true) : ∃ I, inf a = some I ∧ tg = I.2.2.1.reverse ∧ t = zm_rt I.2.1 ∧ zz_rr I.2.1 ∧ f I = true := by
  unfold zz_ca at h
  cases e : inf a with
  | none => rw [e] at h; cases h
  | some I =>
    rw [e] at h
    dsimp only at h
    rw [Bool.and_eq_true, Bool.and_eq_true, decide_eq_true_eq] at h
    exact ⟨I, rfl, h.1.1.symm, h.1.2.symm, zz_rrB_ok h.2.1, h.2.2⟩
def zz_ck (inf : Nat → Option zz_I) (M : zz_M) : zz_E → Bool
  | (pc, _, ins, ln, w, (a, b, t, o), v, tg) => decide (decode (zm_b M) pc = .ok (ins, ln)) && (match ins with
    | .aconst_null => decide (ln = 1)
    | .iconst i => decide (ln = 1) && zz_in i
    | .bipush i => decide (ln = 2 ∧ (Int8.ofInt i).toInt32 = Int32.ofInt i) && zz_in i
    | .sipush i => decide (ln = 3 ∧ (Int16.ofInt i).toInt32 = Int32.ofInt i) && zz_in i
    | .lconst i => decide (ln = 1 ∧ Int64.ofNat i.val = Int64.ofInt v) && zz_inL v
    | .ldc i => decide (ln = 2) && (zz_in v && zz_wd w (.constant (zm_own M) i (Int32.ofInt v)))
    | .ldc_w i => decide (ln = 3) && (zz_in v && zz_wd w (.constant (zm_own M) i (Int32.ofInt v)))
    | .ldc2_w i => decide (ln = 3) && (zz_inL v && zz_wd w (.constantLong (zm_own M) i (Int64.ofInt v)))
    | .iload _ => decide (ln = 2)
    | .iload_n _ => decide (ln = 1)
    | .aload _ => decide (ln = 2)
    | .aload_n _ => decide (ln = 1)
    | .istore i => decide (ln = 2 ∧ i < zm_l M)
    | .istore_n i => decide (ln = 1 ∧ i.val < zm_l M)
    | .astore i => decide (ln = 2 ∧ i < zm_l M)
    | .astore_n i => decide (ln = 1 ∧ i.val < zm_l M)
    | .iinc i _ => decide (ln = 3 ∧ i < zm_l M)
    | .goto off => decide (ln = 3) && zz_jp pc off a
    | .ifCond _ off => decide (ln = 3) && zz_jp pc off a
    | .if_icmp _ off => decide (ln = 3) && zz_jp pc off a
    | .if_acmp _ off => decide (ln = 3) && zz_jp pc off a
    | .ifnull off => decide (ln = 3) && zz_jp pc off a
    | .ifnonnull off => decide (ln = 3) && zz_jp pc off a
    | .tableswitch d lo hi offs => zz_jp pc d a && (decide (v = lo ∧ hi = lo + (offs.size : Int) - 1 ∧ tg.length = offs.size) && (offs.toList.zip tg).all fun q => zz_jp pc q.1 q.2)
    | .getfield i => decide (ln = 3) && zz_obk a fun q => decide (b < zz_len a ∧ t = zz_tg a b ∧ (o = 1 → (b, t - 2) ∈ zz_own a)) && zz_wd w (.fieldLink (zm_own M) i (q.2.1 b).1 (q.2.1 b).2.1 (q.2.1 b).2.2.1)
    | .putfield i => decide (ln = 3) && zz_obk a fun q => decide (b < zz_len a ∧ t = zz_tg a b ∧ 3 ≤ a ∧ ((q.2.1 b).2.2.2 = true → zm_th M ≠ 0 ∧ (q.2.1 b).1 = zm_own M) ∧ (o = 1 ∨ ∀ x ∈ zz_own a, ¬ b = x.1)) && (zz_fk (zz_ft (zz_cl a) b) t v && zz_wd w (.fieldLink (zm_own M) i (q.2.1 b).1 (q.2.1 b).2.1 (q.2.1 b).2.2.1))
    | .getstatic i => decide (ln = 3) && ((decide (a = 1) && zz_wd w (.fieldLink (zm_own M) i "CinemaClock$Calendar" "MONTH_STARTS" "[I")) || (decide (a = 2) && zz_wd w (.fieldLink (zm_own M) i "CinemaClock$Calendar" "LAST_A" "[I")))
    | .iaload => decide (ln = 1 ∧ zz_et a = 0) && zz_ak a 1 .int
    | .baload => decide (ln = 1 ∧ zz_et a = 0) && zz_ak a 2 .boolean
    | .aaload => decide (ln = 1 ∧ zz_ar a = 3 ∧ a ≤ 900 ∧ (zz_aty a).isReference = true ∧ t = zz_et a)
    | .iastore => decide (ln = 1 ∧ zz_et a = 0 ∧ 3 ≤ a ∧ zz_own a = []) && zz_ak a 1 .int
    | .bastore => decide (ln = 1 ∧ zz_et a = 0 ∧ 3 ≤ a ∧ zz_own a = []) && zz_ak a 2 .boolean
    | .aastore => decide (ln = 1 ∧ zz_ar a = 3 ∧ a ≤ 900 ∧ 3 ≤ a ∧ zz_own a = [] ∧ t = zz_et a ∧ 2 ≤ t) && zz_obk (t - 2) fun q => decide (zz_aty a = .object q.1)
    | .arraylength => decide (ln = 1 ∧ zz_ar a ≠ 0 ∧ a ≤ 900)
    | .new i => decide (ln = 3 ∧ 3 ≤ a) && (zz_dv a && zz_obk a fun q => zz_wd w (.classLink (zm_own M) i q.1))
    | .newarray aty => decide (ln = 2 ∧ zz_ar a ≠ 0 ∧ zz_ar a ≠ 3 ∧ a ≤ 900 ∧ 3 ≤ a ∧ zz_own a = [] ∧ zz_et a = 0 ∧ (aty = .int ∨ aty = .boolean) ∧ newarray.typeOf aty = zz_aty a ∧ zz_len a ≤ 3000)
    | .anewarray i => decide (ln = 3 ∧ zz_ar a = 3 ∧ a ≤ 900 ∧ 3 ≤ a ∧ zz_own a = [] ∧ 2 ≤ zz_et a ∧ zz_len a ≤ 3000) && ((decide (zz_aty a = .object RX6) && zz_wd w (.classLink (zm_own M) i RX6)) || (decide (zz_aty a = .object RX5) && zz_wd w (.classLink (zm_own M) i RX5)))
    | .invokestatic i => decide (ln = 3) && zz_ca inf a t tg fun I => zz_mck M I I.2.2.1.length && (zz_wd I.2.2.2.2.2.1 (.static I.1) && (decide ((zm_own M, i, I.1, "CinemaClock") ∈ zz_nm) || zz_wd w (.methodLink (zm_own M) i I.1)))
    | .invokevirtual i => decide (ln = 3) && zz_ca inf a t tg fun I => zz_mck M I (I.2.2.1.length - 1) && ((match I.2.2.1 with | [] => false | u :: _ => decide (2 ≤ u) && zz_obk (u - 2) fun q => decide (I.1.cls = q.1)) && (zz_wd I.2.2.2.2.2.1 (.instanceMethod I.1) && (zz_wd I.2.2.2.2.2.2 (.selects I.1.cls I.1 I.1) && zz_wd w (.methodLink (zm_own M) i I.1))))
    | .invokespecial i => decide (ln = 3) && (if a = 0 then decide (1 ≤ zm_h M) && zz_wd w (.methodLink (zm_own M) i objectInit) else
        zz_ca inf a t tg fun I => zz_mck M I (I.2.2.1.length - 1) && (decide (b ≤ 900 ∧ zm_rt I.2.1 = 999 ∧ zm_ret I.2.1 = none ∧ I.1.name = "<init>" ∧ I.2.2.1.head? = some (1000 + b)) && (zz_wd I.2.2.2.2.2.1 (.instanceMethod I.1) && (decide ((zm_own M, i, I.1, "CinemaClock") ∈ zz_nm) || zz_wd w (.methodLink (zm_own M) i I.1)))))
    | .areturn => decide (ln = 1 ∧ zm_rb M = false)
    | .return_ => decide (ln = 1 ∧ zm_rb M = false ∧ (zm_th M = 0 ∨ (zm_th M ≤ 900 ∧ zz_ar (zm_th M) = 0 ∧ zz_sd (zm_th M) = zm_sd M)))
    | _ => decide (ln = 1))
/-- the entries stand one behind the other -/
def zz_ch : List zz_E → Bool
  | [] => true
  | e :: r => (match r with | [] => true | e2 :: _ => decide (e2.1 = e.1 + e.2.2.2.1)) && zz_ch r
theorem zz_i1_ok {sk : List zz_V} {f : Int → List zz_V → zz_R} {z : Int × zz_S} (h : zz_i1 sk f = some z) : ∃ x r, sk = (0, x) :: r ∧ f x r = some z := by
  unfold zz_i1 at h
  split at h
  · cases h
  · rename_i t x r
    cases hb : Nat.beq t 0 with
    | false => rw [hb] at h; cases h
    | true =>
      rw [hb] at h
      have := Nat.eq_of_beq_eq_true hb
      subst this
      exact ⟨x, r, rfl, h⟩
theorem zz_i2_ok {sk : List zz_V} {f : Int → Int → List zz_V → zz_R} {z : Int × zz_S} (h : zz_i2 sk f = some z) : ∃ x y r, sk = (0, y) :: (0, x) :: r ∧ f x y r = some z := by
  obtain ⟨y, r1, e1, h1⟩ := zz_i1_ok h
  obtain ⟨x, r2, e2, h2⟩ := zz_i1_ok h1
  exact ⟨x, y, r2, by rw [e1, e2], h2⟩
theorem zz_a1_ok {u : Nat} {sk : List zz_V} {f : Int → List zz_V → zz_R} {z : Int × zz_S} (h : zz_a1 u sk f = some z) : ∃ x r, sk = (u, x) :: r ∧ f x r = some z := by
  unfold zz_a1 at h
  split at h
  · cases h
  · rename_i t x r
    cases hb : Nat.beq t u with
    | false => rw [hb] at h; cases h
    | true =>
      rw [hb] at h
      have := Nat.eq_of_beq_eq_true hb
      subst this
      exact ⟨x, r, rfl, h⟩
theorem zz_cn {b : Bool} {x : zz_R} {z : Int × zz_S} (h : cond b x none = some z) : b = true ∧ x = some z := by
  cases b with
  | false => cases h
  | true => exact ⟨rfl, h⟩
theorem zz_nc' {b : Bool} {x : zz_R} {z : Int × zz_S} (h : cond b none x = some z) : b = false ∧ x = some z := by
  cases b with
  | true => cases h
  | false => exact ⟨rfl, h⟩
theorem zz_it {c : Prop} {d : Decidable c} {x : zz_R} {z : Int × zz_S} (h : (@ite zz_R c d x none) = some z) : c ∧ x = some z := by
  by_cases hc : c
  · rw [if_pos hc] at h
    exact ⟨hc, h⟩
  · rw [if_neg hc] at h
    cases h
theorem zz_ie {c : Prop} {d : Decidable c} {x : zz_R} {z : Int × zz_S} (h : (@ite zz_R c d none x) = some z) : ¬ c ∧ x = some z := by
  by_cases hc : c
  · rw [if_pos hc] at h
    cases h
  · rw [if_neg hc] at h
    exact ⟨hc, h⟩
theorem zz_bq {a b : Nat} (h : Nat.beq a b = true) : a = b := Nat.eq_of_beq_eq_true h
theorem zz_bn {a b : Nat} (h : Nat.beq a b = false) : a ≠ b := fun e => by rw [e, Nat.beq_refl] at h; cases h
theorem zz_sk_ok : ∀ (cs : List zz_E) (q : Nat), zz_sk cs q = [] ∨ ∃ e es, zz_sk cs q = e :: es ∧ e.1 = q ∧ (e :: es) <:+ cs
  | [], _ => Or.inl rfl
  | e :: es, q => by
    unfold zz_sk
    cases hb : Nat.beq e.1 q with
    | true => exact Or.inr ⟨e, es, rfl, zz_bq hb, List.suffix_refl _⟩
    | false =>
      rcases zz_sk_ok es q with h | ⟨e', es', h1, h2, h3⟩
      · exact Or.inl h
      · exact Or.inr ⟨e', es', h1, h2, h3.trans (List.suffix_cons e es)⟩
theorem zz_ch_ok : ∀ (cs : List zz_E) (e e2 : zz_E) (r : List zz_E), zz_ch cs = true → (e :: e2 :: r) <:+ cs → e2.1 = e.1 + e.2.2.2.1
  | [], _, _, _, _, hs => by
    have := hs.length_le
    simp at this
  | c :: cs, e, e2, r, h, hs => by
    unfold zz_ch at h
    rw [Bool.and_eq_true] at h
    rcases List.suffix_cons_iff.mp hs with hs | hs
    · cases hs
      exact of_decide_eq_true h.1
    · exact zz_ch_ok cs e e2 r h.2 hs
end
section
theorem zz_sw_ok {P : Nat → Prop} {J : Nat → zz_R} {x : Int} {d : Nat} {z : Int × zz_S} (hJ : ∀ q, J q = some z → P q) : ∀ (tg : List Nat) (k : Int), zz_sw J x d k tg = some z → (¬ (k ≤ x ∧ x < k + (tg.length : Int)) ∧ P d) ∨ ∃ (j q : Nat), tg[j]? = some q ∧ x = k + (j : Int) ∧ P q
  | [], k, h => Or.inl ⟨by simp only [List.length_nil]; omega, hJ _ h⟩
  | t :: tg, k, h => by
    unfold zz_sw at h
    by_cases hx : x = k
    · rw [if_pos hx] at h
      exact Or.inr ⟨0, t, rfl, by omega, hJ _ h⟩
    · rw [if_neg hx] at h
      rcases zz_sw_ok hJ tg (k + 1) h with ⟨h1, h2⟩ | ⟨j, q, h1, h2, h3⟩
      · exact Or.inl ⟨by simp only [List.length_cons]; omega, h2⟩
      · exact Or.inr ⟨j + 1, q, h1, by omega, h3⟩
theorem zz_st_ok {t u : Nat} {z w : Int} {K : zz_R} {y : Int × zz_S} (h : zz_st t z u w K = some y) : u = t ∧ (z = 1 → zz_o w) ∧ K = some y := by
  unfold zz_st at h
  obtain ⟨b1, h⟩ := zz_cn h
  by_cases hz : z = 1
  · rw [if_pos hz] at h
    obtain ⟨hw, h⟩ := zz_it h
    exact ⟨zz_bq b1, fun _ => hw, h⟩
  · rw [if_neg hz] at h
    exact ⟨zz_bq b1, fun z' => absurd z' hz, h⟩
theorem hac1 : Jvm.Cond.arrayClass .int ∈ zz_tb := by decide +kernel
theorem hac2 : Jvm.Cond.arrayClass .boolean ∈ zz_tb := by decide +kernel
theorem hob1 : Jvm.Cond.instanceMethod objectInit ∈ zz_tb := by decide +kernel
theorem hob2 : Jvm.Cond.code objectInit ⟨#[0xb1]⟩ 1 none ∈ zz_tb := by decide +kernel
set_option maxHeartbeats 4000000 in
set_option maxRecDepth 100000 in
/-- THE EVALUATOR IS RIGHT: what it answers, the machine does -/
theorem zz_sound {M : zz_M} {CE : Nat → List Int → zz_S → zz_R} {KE : Nat → List (Nat × zz_V) → List zz_V → zz_S → zz_R} {cs : List zz_E} {inf : Nat → Option zz_I} (hck : cs.all (zz_ck inf M) = true) (hch : zz_ch cs = true)
    (hCE : ∀ i vs σ q σ2, CE i vs σ = some (q, σ2) → ∃ I, inf i = some I ∧ zz_MOK I.1 I.2.1 I.2.2.1 vs σ q σ2)
    (hKE : ∀ pc lv sk σ r τ, KE pc lv sk σ = some (r, τ) → zz_At M pc lv sk σ r τ) :
    ∀ (n : Nat) (fst : Bool) (e : zz_E) (es : List zz_E) (lv : List (Nat × zz_V)) (sk : List zz_V) (σ : zz_S) (r : Int) (τ : zz_S), (e :: es) <:+ cs → zz_ev CE KE cs (zm_rt M) (zm_rb M) (zm_th M) (zm_sd M) n fst (e :: es) lv sk σ = some (r, τ) → zz_At M e.1 lv sk σ r τ := by
  intro n
  induction n with
  | zero => intro fst e es lv sk σ r τ hs h; cases h
  | succ n ih =>
    intro fst e es lv sk σ r τ hs h
    obtain ⟨pc, ct, ins, ln, w, ⟨a, b, t, o⟩, v, tg⟩ := e
    have hc := List.all_eq_true.mp hck _ (hs.subset List.mem_cons_self)
    have next : ∀ lv sk σ, zz_ev CE KE cs (zm_rt M) (zm_rb M) (zm_th M) (zm_sd M) n false es lv sk σ = some (r, τ) → zz_At M (pc + ln) lv sk σ r τ := by
      intro lv sk σ h
      cases es with
      | nil => cases n <;> cases h
      | cons e2 es =>
        have e1 := zz_ch_ok cs _ e2 es hch hs
        have := ih false e2 es lv sk σ r τ ((List.suffix_cons _ _).trans hs) h
        rw [e1] at this
        exact this
    have jump : ∀ q lv sk σ, zz_ev CE KE cs (zm_rt M) (zm_rb M) (zm_th M) (zm_sd M) n false (zz_sk cs q) lv sk σ = some (r, τ) → zz_At M q lv sk σ r τ := by
      intro q lv sk σ h
      rcases zz_sk_ok cs q with e1 | ⟨e1, es1, e2, e3, e4⟩
      · rw [e1] at h
        cases n <;> cases h
      · rw [e2] at h
        have := ih false e1 es1 lv sk σ r τ e4 h
        rw [e3] at this
        exact this
    show zz_At M pc lv sk σ r τ
    unfold zz_ev at h
    cases hct : (ct && !fst) with
    | true =>
      rw [hct] at h
      exact hKE _ _ _ _ _ _ h
    | false =>
      rw [hct, cond_false] at h
      unfold zz_ck at hc
      dsimp only at hc
      rw [Bool.and_eq_true, decide_eq_true_eq] at hc
      obtain ⟨hd, hc⟩ := hc
      cases ins with
      | aconst_null =>
        dsimp only at h hc
        have e1 := of_decide_eq_true hc; subst e1
        exact zs_null hd (next _ _ _ h)
      | iconst i =>
        dsimp only at h hc
        rw [Bool.and_eq_true, decide_eq_true_eq] at hc
        obtain ⟨e1, hc⟩ := hc; subst e1
        exact zs_iconst hd (of_decide_eq_true hc) (next _ _ _ h)
      | bipush i =>
        dsimp only at h hc
        rw [Bool.and_eq_true, decide_eq_true_eq] at hc
        obtain ⟨⟨e1, e2⟩, hc⟩ := hc; subst e1
        exact zs_bipush hd (of_decide_eq_true hc) e2 (next _ _ _ h)
      | sipush i =>
        dsimp only at h hc
        rw [Bool.and_eq_true, decide_eq_true_eq] at hc
        obtain ⟨⟨e1, e2⟩, hc⟩ := hc; subst e1
        exact zs_sipush hd (of_decide_eq_true hc) e2 (next _ _ _ h)
      | lconst i =>
        dsimp only at h hc
        rw [Bool.and_eq_true, decide_eq_true_eq] at hc
        obtain ⟨⟨e1, e2⟩, hc⟩ := hc; subst e1
        exact zs_lconst hd (of_decide_eq_true hc) e2 (next _ _ _ h)
      | ldc i =>
        dsimp only at h hc
        rw [Bool.and_eq_true, Bool.and_eq_true, decide_eq_true_eq] at hc
        obtain ⟨e1, e2, e3⟩ := hc; subst e1
        exact zs_ldc hd (of_decide_eq_true e2) (zz_wd_ok e3) (next _ _ _ h)
      | ldc_w i =>
        dsimp only at h hc
        rw [Bool.and_eq_true, Bool.and_eq_true, decide_eq_true_eq] at hc
        obtain ⟨e1, e2, e3⟩ := hc; subst e1
        exact zs_ldcw hd (of_decide_eq_true e2) (zz_wd_ok e3) (next _ _ _ h)
      | ldc2_w i =>
        dsimp only at h hc
        rw [Bool.and_eq_true, Bool.and_eq_true, decide_eq_true_eq] at hc
        obtain ⟨e1, e2, e3⟩ := hc; subst e1
        exact zs_ldc2 hd (of_decide_eq_true e2) (zz_wd_ok e3) (next _ _ _ h)
      | iload i =>
        dsimp only at h hc
        have e1 := of_decide_eq_true hc; subst e1
        cases e : zz_lk lv i with
        | mk u x =>
          rw [e] at h
          replace h := zz_cn h; obtain ⟨hb, h⟩ := h
          have e2 := zz_bq hb; subst e2
          exact zs_iload hd e (next _ _ _ h)
      | iload_n i =>
        dsimp only at h hc
        have e1 := of_decide_eq_true hc; subst e1
        cases e : zz_lk lv i.val with
        | mk u x =>
          rw [e] at h
          replace h := zz_cn h; obtain ⟨hb, h⟩ := h
          have e2 := zz_bq hb; subst e2
          exact zs_iloadn hd e (next _ _ _ h)
      | aload i =>
        dsimp only at h hc
        have e1 := of_decide_eq_true hc; subst e1
        cases e : zz_lk lv i with
        | mk u x =>
          rw [e] at h
          replace h := zz_cn h; obtain ⟨hb, h⟩ := h
          exact zs_aload hd e (Nat.le_of_ble_eq_true hb) (next _ _ _ h)
      | aload_n i =>
        dsimp only at h hc
        have e1 := of_decide_eq_true hc; subst e1
        cases e : zz_lk lv i.val with
        | mk u x =>
          rw [e] at h
          replace h := zz_cn h; obtain ⟨hb, h⟩ := h
          exact zs_aloadn hd e (Nat.le_of_ble_eq_true hb) (next _ _ _ h)
      | istore i =>
        dsimp only at h hc
        obtain ⟨e1, e2⟩ := of_decide_eq_true hc; subst e1
        replace h := zz_i1_ok h; obtain ⟨x, rr, e3, h⟩ := h; subst e3
        exact zs_istore hd e2 (next _ _ _ h)
      | istore_n i =>
        dsimp only at h hc
        obtain ⟨e1, e2⟩ := of_decide_eq_true hc; subst e1
        replace h := zz_i1_ok h; obtain ⟨x, rr, e3, h⟩ := h; subst e3
        exact zs_istoren hd e2 (next _ _ _ h)
      | astore i =>
        dsimp only at h hc
        obtain ⟨e1, e2⟩ := of_decide_eq_true hc; subst e1
        cases sk with
        | nil => cases h
        | cons a rr =>
          obtain ⟨u, x⟩ := a
          replace h := zz_cn h; obtain ⟨hb, h⟩ := h
          exact zs_astore hd e2 (Nat.le_of_ble_eq_true hb) (next _ _ _ h)
      | astore_n i =>
        dsimp only at h hc
        obtain ⟨e1, e2⟩ := of_decide_eq_true hc; subst e1
        cases sk with
        | nil => cases h
        | cons a rr =>
          obtain ⟨u, x⟩ := a
          replace h := zz_cn h; obtain ⟨hb, h⟩ := h
          exact zs_astoren hd e2 (Nat.le_of_ble_eq_true hb) (next _ _ _ h)
      | iinc i c =>
        dsimp only at h hc
        obtain ⟨e1, e2⟩ := of_decide_eq_true hc; subst e1
        cases e : zz_lk lv i with
        | mk u x =>
          rw [e] at h
          replace h := zz_cn h; obtain ⟨hb, h⟩ := h
          have e3 := zz_bq hb; subst e3
          exact zs_iinc hd e e2 (next _ _ _ h)
      | iadd =>
        dsimp only at h hc
        have e1 := of_decide_eq_true hc; subst e1
        replace h := zz_i2_ok h; obtain ⟨x, y, rr, e3, h⟩ := h; subst e3
        exact zs_iadd hd (next _ _ _ h)
      | isub =>
        dsimp only at h hc
        have e1 := of_decide_eq_true hc; subst e1
        replace h := zz_i2_ok h; obtain ⟨x, y, rr, e3, h⟩ := h; subst e3
        exact zs_isub hd (next _ _ _ h)
      | imul =>
        dsimp only at h hc
        have e1 := of_decide_eq_true hc; subst e1
        replace h := zz_i2_ok h; obtain ⟨x, y, rr, e3, h⟩ := h; subst e3
        exact zs_imul hd (next _ _ _ h)
      | iand =>
        dsimp only at h hc
        have e1 := of_decide_eq_true hc; subst e1
        replace h := zz_i2_ok h; obtain ⟨x, y, rr, e3, h⟩ := h; subst e3
        exact zs_iand hd (next _ _ _ h)
      | ior =>
        dsimp only at h hc
        have e1 := of_decide_eq_true hc; subst e1
        replace h := zz_i2_ok h; obtain ⟨x, y, rr, e3, h⟩ := h; subst e3
        exact zs_ior hd (next _ _ _ h)
      | ixor =>
        dsimp only at h hc
        have e1 := of_decide_eq_true hc; subst e1
        replace h := zz_i2_ok h; obtain ⟨x, y, rr, e3, h⟩ := h; subst e3
        exact zs_ixor hd (next _ _ _ h)
      | ishl =>
        dsimp only at h hc
        have e1 := of_decide_eq_true hc; subst e1
        replace h := zz_i2_ok h; obtain ⟨x, y, rr, e3, h⟩ := h; subst e3
        exact zs_ishl hd (next _ _ _ h)
      | ishr =>
        dsimp only at h hc
        have e1 := of_decide_eq_true hc; subst e1
        replace h := zz_i2_ok h; obtain ⟨x, y, rr, e3, h⟩ := h; subst e3
        exact zs_ishr hd (next _ _ _ h)
      | idiv =>
        dsimp only at h hc
        have e1 := of_decide_eq_true hc; subst e1
        replace h := zz_i2_ok h; obtain ⟨x, y, rr, e3, h⟩ := h; subst e3
        replace h := zz_ie h; obtain ⟨hy, h⟩ := h
        exact zs_idiv hd hy (next _ _ _ h)
      | irem =>
        dsimp only at h hc
        have e1 := of_decide_eq_true hc; subst e1
        replace h := zz_i2_ok h; obtain ⟨x, y, rr, e3, h⟩ := h; subst e3
        replace h := zz_ie h; obtain ⟨hy, h⟩ := h
        exact zs_irem hd hy (next _ _ _ h)
      | land =>
        dsimp only at h hc
        have e1 := of_decide_eq_true hc; subst e1
        obtain ⟨y, r1, e3, h1⟩ := zz_a1_ok h
        obtain ⟨x, r2, e4, h2⟩ := zz_a1_ok h1
        subst e4; subst e3
        exact zs_land hd (next _ _ _ h2)
      | lcmp =>
        dsimp only at h hc
        have e1 := of_decide_eq_true hc; subst e1
        obtain ⟨y, r1, e3, h1⟩ := zz_a1_ok h
        obtain ⟨x, r2, e4, h2⟩ := zz_a1_ok h1
        subst e4; subst e3
        exact zs_lcmp hd (next _ _ _ h2)
      | lshl =>
        dsimp only at h hc
        have e1 := of_decide_eq_true hc; subst e1
        obtain ⟨y, r1, e3, h1⟩ := zz_i1_ok h
        obtain ⟨x, r2, e4, h2⟩ := zz_a1_ok h1
        subst e4; subst e3
        exact zs_lshl hd (next _ _ _ h2)
      | lshr =>
        dsimp only at h hc
        have e1 := of_decide_eq_true hc; subst e1
        obtain ⟨y, r1, e3, h1⟩ := zz_i1_ok h
        obtain ⟨x, r2, e4, h2⟩ := zz_a1_ok h1
        subst e4; subst e3
        exact zs_lshr hd (next _ _ _ h2)
      | dup =>
        dsimp only at h hc
        have e1 := of_decide_eq_true hc; subst e1
        match sk, h with
        | [], h => cases h
        | (t1, x1) :: rr, h =>
          replace h := zz_nc' h; obtain ⟨hb, h⟩ := h
          exact zs_dup hd (zz_bn hb) (next _ _ _ h)
      | dup_x1 =>
        dsimp only at h hc
        have e1 := of_decide_eq_true hc; subst e1
        match sk, h with
        | [], h => cases h
        | [_], h => cases h
        | (t1, x1) :: (t2, x2) :: rr, h =>
          replace h := zz_nc' h; obtain ⟨hb, h⟩ := h
          rw [Bool.or_eq_false_iff] at hb
          exact zs_dup_x1 hd (zz_bn hb.1) (zz_bn hb.2) (next _ _ _ h)
      | dup2 =>
        dsimp only at h hc
        have e1 := of_decide_eq_true hc; subst e1
        match sk, h with
        | [], h => cases h
        | [_], h => cases h
        | (t1, x1) :: (t2, x2) :: rr, h =>
          replace h := zz_nc' h; obtain ⟨hb, h⟩ := h
          rw [Bool.or_eq_false_iff] at hb
          exact zs_dup2 hd (zz_bn hb.1) (zz_bn hb.2) (next _ _ _ h)
      | dup_x2 =>
        dsimp only at h hc
        have e1 := of_decide_eq_true hc; subst e1
        match sk, h with
        | [], h => cases h
        | [_], h => cases h
        | [_, _], h => cases h
        | (t1, x1) :: (t2, x2) :: (t3, x3) :: rr, h =>
          replace h := zz_nc' h; obtain ⟨hb, h⟩ := h
          rw [Bool.or_eq_false_iff, Bool.or_eq_false_iff] at hb
          exact zs_dup_x2 hd (zz_bn hb.1) (zz_bn hb.2.1) (zz_bn hb.2.2) (next _ _ _ h)
      | goto off =>
        dsimp only at h hc
        rw [Bool.and_eq_true, decide_eq_true_eq] at hc
        obtain ⟨e1, e2⟩ := hc; subst e1
        exact zs_goto hd (of_decide_eq_true e2) (jump _ _ _ _ h)
      | ifCond cnd off =>
        dsimp only at hc
        rw [Bool.and_eq_true, decide_eq_true_eq] at hc
        obtain ⟨e1, e2⟩ := hc; subst e1
        cases cnd with
        | eq =>
          dsimp only at h
          replace h := zz_i1_ok h; obtain ⟨x, rr, e3, h⟩ := h; subst e3
          exact zs_if_eq hd (of_decide_eq_true e2) (fun c => jump _ _ _ _ ((if_pos c).symm.trans h)) (fun c => next _ _ _ ((if_neg c).symm.trans h))
        | ne =>
          dsimp only at h
          replace h := zz_i1_ok h; obtain ⟨x, rr, e3, h⟩ := h; subst e3
          exact zs_if_ne hd (of_decide_eq_true e2) (fun c => next _ _ _ ((if_pos c).symm.trans h)) (fun c => jump _ _ _ _ ((if_neg c).symm.trans h))
        | lt =>
          dsimp only at h
          replace h := zz_i1_ok h; obtain ⟨x, rr, e3, h⟩ := h; subst e3
          exact zs_if_lt hd (of_decide_eq_true e2) (fun c => jump _ _ _ _ ((if_pos c).symm.trans h)) (fun c => next _ _ _ ((if_neg c).symm.trans h))
        | ge =>
          dsimp only at h
          replace h := zz_i1_ok h; obtain ⟨x, rr, e3, h⟩ := h; subst e3
          exact zs_if_ge hd (of_decide_eq_true e2) (fun c => next _ _ _ ((if_pos c).symm.trans h)) (fun c => jump _ _ _ _ ((if_neg c).symm.trans h))
        | le =>
          dsimp only at h
          replace h := zz_i1_ok h; obtain ⟨x, rr, e3, h⟩ := h; subst e3
          exact zs_if_le hd (of_decide_eq_true e2) (fun c => jump _ _ _ _ ((if_pos c).symm.trans h)) (fun c => next _ _ _ ((if_neg c).symm.trans h))
        | gt =>
          dsimp only at h
          replace h := zz_i1_ok h; obtain ⟨x, rr, e3, h⟩ := h; subst e3
          exact zs_if_gt hd (of_decide_eq_true e2) (fun c => next _ _ _ ((if_pos c).symm.trans h)) (fun c => jump _ _ _ _ ((if_neg c).symm.trans h))
      | if_icmp cnd off =>
        dsimp only at hc
        rw [Bool.and_eq_true, decide_eq_true_eq] at hc
        obtain ⟨e1, e2⟩ := hc; subst e1
        cases cnd with
        | eq =>
          dsimp only at h
          replace h := zz_i2_ok h; obtain ⟨x, y, rr, e3, h⟩ := h; subst e3
          exact zs_icmp_eq hd (of_decide_eq_true e2) (fun c => jump _ _ _ _ ((if_pos c).symm.trans h)) (fun c => next _ _ _ ((if_neg c).symm.trans h))
        | ne =>
          dsimp only at h
          replace h := zz_i2_ok h; obtain ⟨x, y, rr, e3, h⟩ := h; subst e3
          exact zs_icmp_ne hd (of_decide_eq_true e2) (fun c => next _ _ _ ((if_pos c).symm.trans h)) (fun c => jump _ _ _ _ ((if_neg c).symm.trans h))
        | lt =>
          dsimp only at h
          replace h := zz_i2_ok h; obtain ⟨x, y, rr, e3, h⟩ := h; subst e3
          exact zs_icmp_lt hd (of_decide_eq_true e2) (fun c => jump _ _ _ _ ((if_pos c).symm.trans h)) (fun c => next _ _ _ ((if_neg c).symm.trans h))
        | ge =>
          dsimp only at h
          replace h := zz_i2_ok h; obtain ⟨x, y, rr, e3, h⟩ := h; subst e3
          exact zs_icmp_ge hd (of_decide_eq_true e2) (fun c => next _ _ _ ((if_pos c).symm.trans h)) (fun c => jump _ _ _ _ ((if_neg c).symm.trans h))
        | le =>
          dsimp only at h
          replace h := zz_i2_ok h; obtain ⟨x, y, rr, e3, h⟩ := h; subst e3
          exact zs_icmp_le hd (of_decide_eq_true e2) (fun c => jump _ _ _ _ ((if_pos c).symm.trans h)) (fun c => next _ _ _ ((if_neg c).symm.trans h))
        | gt =>
          dsimp only at h
          replace h := zz_i2_ok h; obtain ⟨x, y, rr, e3, h⟩ := h; subst e3
          exact zs_icmp_gt hd (of_decide_eq_true e2) (fun c => next _ _ _ ((if_pos c).symm.trans h)) (fun c => jump _ _ _ _ ((if_neg c).symm.trans h))
      | if_acmp cnd off =>
        dsimp only at hc
        rw [Bool.and_eq_true, decide_eq_true_eq] at hc
        obtain ⟨e1, e2⟩ := hc; subst e1
        cases cnd with
        | eq =>
          dsimp only at h
          match sk, h with
          | [], h => cases h
          | [_], h => cases h
          | (u, y) :: (w', x) :: rr, h =>
            dsimp only at h
            replace h := zz_cn h; obtain ⟨hb, h⟩ := h
            rw [Bool.and_eq_true, Bool.and_eq_true] at hb
            obtain ⟨b1, b2, b3⟩ := hb
            have b1 := zz_bq b1; subst b1
            have b2 := Nat.le_of_ble_eq_true b2
            have b3 := Nat.le_of_ble_eq_true b3
            obtain ⟨k, rfl⟩ : ∃ k, u = 2 + k := ⟨u - 2, by omega⟩
            exact zs_acmp_eq hd (of_decide_eq_true e2) (by omega) (by omega) (fun c => jump _ _ _ _ ((if_pos c).symm.trans h)) (fun c => next _ _ _ ((if_neg c).symm.trans h))
        | ne =>
          dsimp only at h
          match sk, h with
          | [], h => cases h
          | [_], h => cases h
          | (u, y) :: (w', x) :: rr, h =>
            dsimp only at h
            replace h := zz_cn h; obtain ⟨hb, h⟩ := h
            rw [Bool.and_eq_true, Bool.and_eq_true] at hb
            obtain ⟨b1, b2, b3⟩ := hb
            have b1 := zz_bq b1; subst b1
            have b2 := Nat.le_of_ble_eq_true b2
            have b3 := Nat.le_of_ble_eq_true b3
            obtain ⟨k, rfl⟩ : ∃ k, u = 2 + k := ⟨u - 2, by omega⟩
            exact zs_acmp_ne hd (of_decide_eq_true e2) (by omega) (by omega) (fun c => next _ _ _ ((if_pos c).symm.trans h)) (fun c => jump _ _ _ _ ((if_neg c).symm.trans h))
      | ifnull off =>
        dsimp only at h hc
        rw [Bool.and_eq_true, decide_eq_true_eq] at hc
        obtain ⟨e1, e2⟩ := hc; subst e1
        match sk, h with
        | [], h => cases h
        | (u, x) :: rr, h =>
          dsimp only at h
          replace h := zz_cn h; obtain ⟨hb, h⟩ := h
          have h2 : 2 ≤ u := by
            rw [Bool.or_eq_true, Bool.and_eq_true] at hb
            rcases hb with ⟨hb, -⟩ | hb
            · exact Nat.le_of_ble_eq_true hb
            · have := zz_bq hb
              omega
          exact zs_ifnull hd (of_decide_eq_true e2) h2 (fun c => jump _ _ _ _ ((if_pos c).symm.trans h)) (fun c => next _ _ _ ((if_neg c).symm.trans h))
      | ifnonnull off =>
        dsimp only at h hc
        rw [Bool.and_eq_true, decide_eq_true_eq] at hc
        obtain ⟨e1, e2⟩ := hc; subst e1
        match sk, h with
        | [], h => cases h
        | (u, x) :: rr, h =>
          dsimp only at h
          replace h := zz_cn h; obtain ⟨hb, h⟩ := h
          have h2 : 2 ≤ u := by
            rw [Bool.or_eq_true, Bool.and_eq_true] at hb
            rcases hb with ⟨hb, -⟩ | hb
            · exact Nat.le_of_ble_eq_true hb
            · have := zz_bq hb
              omega
          exact zs_ifnonnull hd (of_decide_eq_true e2) h2 (fun c => next _ _ _ ((if_pos c).symm.trans h)) (fun c => jump _ _ _ _ ((if_neg c).symm.trans h))
      | tableswitch d lo hi offs =>
        dsimp only at h hc
        rw [Bool.and_eq_true, Bool.and_eq_true, decide_eq_true_eq] at hc
        obtain ⟨e1, ⟨e2, e3, e4⟩, e5⟩ := hc
        replace h := zz_i1_ok h; obtain ⟨x, rr, e6, h⟩ := h; subst e6
        have e5 := List.all_eq_true.mp e5
        have sw := zz_sw_ok (P := fun q => zz_At M q lv rr σ r τ) (fun q hq => jump q _ _ _ hq) tg v h
        refine zs_switch hd ⟨fun hx => ⟨a, of_decide_eq_true e1, ?_⟩, fun h1 h2 => ?_⟩
        · rcases sw with ⟨s1, s2⟩ | ⟨j, q, s1, s2, s3⟩
          · exact s2
          · exfalso
            have := (List.getElem?_eq_some_iff.mp s1).1
            omega
        · rcases sw with ⟨s1, s2⟩ | ⟨j, q, s1, s2, s3⟩
          · exact absurd (show v ≤ x ∧ x < v + (tg.length : Int) by omega) s1
          · have hj := (List.getElem?_eq_some_iff.mp s1).1
            have hjo : j < offs.size := by omega
            refine ⟨offs[j], q, ?_, ?_, s3⟩
            · rw [show (x - lo).toNat = j by omega]
              exact Array.getElem?_eq_getElem hjo
            · refine of_decide_eq_true (e5 (offs[j], q) ?_)
              refine List.mem_of_getElem? (i := j) ?_
              rw [List.getElem?_zip_eq_some]
              refine ⟨?_, s1⟩
              rw [Array.getElem?_toList]
              exact Array.getElem?_eq_getElem hjo
      | getfield i =>
        dsimp only at h hc
        rw [Bool.and_eq_true, decide_eq_true_eq] at hc
        obtain ⟨e1, hc⟩ := hc; subst e1
        obtain ⟨q, hq, hc⟩ := zz_obk_ok hc
        rw [Bool.and_eq_true, decide_eq_true_eq] at hc
        obtain ⟨⟨c1, c2, c3⟩, c4⟩ := hc
        match sk, h with
        | [], h => cases h
        | (u, x) :: rr, h =>
          dsimp only at h
          cases hb : Nat.beq u (2 + a) with
          | true =>
            rw [hb] at h
            have e2 := zz_bq hb; subst e2
            replace h := zz_ie h; obtain ⟨hx, h⟩ := h
            cases ho : Nat.beq o 1 with
            | true =>
              rw [ho] at h
              exact zs_getfo hq c1 (zz_wd_ok c4) c2 (c3 (zz_bq ho)) hx hd (next _ _ _ h)
            | false =>
              rw [ho] at h
              exact zs_getf hq c1 (zz_wd_ok c4) c2 hx hd (next _ _ _ h)
          | false =>
            rw [hb] at h
            replace h := zz_cn h; obtain ⟨hw, h⟩ := h
            have e2 := zz_bq hw; subst e2
            cases ho : Nat.beq o 1 with
            | true =>
              rw [ho] at h
              replace h := zz_it h; obtain ⟨hx, h⟩ := h
              exact zs_getfw hq c1 (zz_wd_ok c4) c2 hd (by rw [hx]; exact next _ _ _ h)
            | false =>
              rw [ho] at h
              exact zs_getfw hq c1 (zz_wd_ok c4) c2 hd (next _ _ _ h)
      | putfield i =>
        dsimp only at h hc
        rw [Bool.and_eq_true, decide_eq_true_eq] at hc
        obtain ⟨e1, hc⟩ := hc; subst e1
        obtain ⟨q, hq, hc⟩ := zz_obk_ok hc
        rw [Bool.and_eq_true, Bool.and_eq_true, decide_eq_true_eq] at hc
        obtain ⟨⟨c1, c2, c3, c4, c5⟩, c6, c7⟩ := hc
        match sk, h with
        | [], h => cases h
        | [_], h => cases h
        | (u', w') :: (u, x) :: rr, g =>
          dsimp only at g
          replace g := zz_st_ok g; obtain ⟨e2, hz, g⟩ := g
          subst e2
          replace g := zz_cn g; obtain ⟨hs, g⟩ := g
          cases hb : (Nat.beq u (2 + a) && !Nat.beq o 1) with
          | true =>
            rw [hb] at g
            rw [Bool.and_eq_true] at hb
            obtain ⟨b1, b2⟩ := hb
            replace g := zz_ie g; obtain ⟨hx, g⟩ := g
            have b3 : ¬ o = 1 := by
              intro e
              subst e
              cases b2
            exact zs_put hq c3 c1 (zz_wd_ok c7) c2 c6 c4 (zz_bq hs) hz (Or.inl ⟨zz_bq b1, hx, fun y hy => (c5.resolve_left b3) y hy⟩) hd (next _ _ _ g)
          | false =>
            rw [hb] at g
            replace g := zz_cn g; obtain ⟨b1, g⟩ := g
            replace g := zz_ie g; obtain ⟨hx, g⟩ := g
            refine zs_put hq c3 c1 (zz_wd_ok c7) c2 c6 c4 (zz_bq hs) hz (Or.inr ⟨zz_bq b1, fun ⟨y, hy, e⟩ => ?_⟩) hd (next _ _ _ g)
            rcases c5 with c5 | c5
            · subst c5
              exact Classical.byContradiction fun z => hx ⟨rfl, z⟩
            · exact absurd e (c5 y hy)
      | getstatic i =>
        dsimp only at h hc
        rw [Bool.and_eq_true, decide_eq_true_eq] at hc
        obtain ⟨e1, hc⟩ := hc; subst e1
        rw [Bool.or_eq_true, Bool.and_eq_true, Bool.and_eq_true, decide_eq_true_eq, decide_eq_true_eq] at hc
        rcases hc with ⟨c1, c2⟩ | ⟨c1, c2⟩
        · subst c1
          exact zs_gets (Or.inl ⟨rfl, rfl⟩) (zz_wd_ok c2) hd (next _ _ _ h)
        · subst c1
          exact zs_gets (Or.inr ⟨rfl, rfl⟩) (zz_wd_ok c2) hd (next _ _ _ h)
      | iaload =>
        dsimp only at h hc
        rw [Bool.and_eq_true, decide_eq_true_eq] at hc
        obtain ⟨⟨e1, e2⟩, hc⟩ := hc; subst e1
        obtain ⟨c1, c2, c3⟩ := of_decide_eq_true hc
        obtain ⟨j, r1, e3, h1⟩ := zz_i1_ok h
        obtain ⟨x, r2, e4, h2⟩ := zz_a1_ok h1
        subst e4; subst e3
        obtain ⟨hx, h3⟩ := zz_ie h2
        obtain ⟨hj, h4⟩ := zz_it h3
        exact zs_iald ⟨c1, c2⟩ c3 e2.symm hx hj hd (next _ _ _ h4)
      | baload =>
        dsimp only at h hc
        rw [Bool.and_eq_true, decide_eq_true_eq] at hc
        obtain ⟨⟨e1, e2⟩, hc⟩ := hc; subst e1
        obtain ⟨c1, c2, c3⟩ := of_decide_eq_true hc
        obtain ⟨j, r1, e3, h1⟩ := zz_i1_ok h
        obtain ⟨x, r2, e4, h2⟩ := zz_a1_ok h1
        subst e4; subst e3
        obtain ⟨hx, h3⟩ := zz_ie h2
        obtain ⟨hj, h4⟩ := zz_it h3
        exact zs_zald ⟨c1, c2⟩ c3 e2.symm hx hj hd (next _ _ _ h4)
      | aaload =>
        dsimp only at h hc
        obtain ⟨e1, c1, c2, c3, c4⟩ := of_decide_eq_true hc; subst e1
        obtain ⟨j, r1, e3, h1⟩ := zz_i1_ok h
        obtain ⟨x, r2, e4, h2⟩ := zz_a1_ok h1
        subst e4; subst e3
        obtain ⟨hx, h3⟩ := zz_ie h2
        obtain ⟨hj, h4⟩ := zz_it h3
        exact zs_aald ⟨c1, c2⟩ c3 c4 hx hj hd (next _ _ _ h4)
      | iastore =>
        dsimp only at h hc
        rw [Bool.and_eq_true, decide_eq_true_eq] at hc
        obtain ⟨⟨e1, e2, e5, e6⟩, hc⟩ := hc; subst e1
        obtain ⟨c1, c2, c3⟩ := of_decide_eq_true hc
        obtain ⟨w', r0, e7, h0⟩ := zz_i1_ok h
        obtain ⟨j, r1, e3, h1⟩ := zz_i1_ok h0
        obtain ⟨x, r2, e4, h2⟩ := zz_a1_ok h1
        subst e4; subst e3; subst e7
        obtain ⟨hs, h2⟩ := zz_cn h2
        obtain ⟨hx, h3⟩ := zz_ie h2
        obtain ⟨hj, h4⟩ := zz_it h3
        exact zs_iast ⟨c1, c2, e5, e6⟩ c3 e2.symm rfl (zz_bq hs) hx hj hd (next _ _ _ h4)
      | bastore =>
        dsimp only at h hc
        rw [Bool.and_eq_true, decide_eq_true_eq] at hc
        obtain ⟨⟨e1, e2, e5, e6⟩, hc⟩ := hc; subst e1
        obtain ⟨c1, c2, c3⟩ := of_decide_eq_true hc
        obtain ⟨w', r0, e7, h0⟩ := zz_i1_ok h
        obtain ⟨j, r1, e3, h1⟩ := zz_i1_ok h0
        obtain ⟨x, r2, e4, h2⟩ := zz_a1_ok h1
        subst e4; subst e3; subst e7
        obtain ⟨hs, h2⟩ := zz_cn h2
        obtain ⟨hx, h3⟩ := zz_ie h2
        obtain ⟨hj, h4⟩ := zz_it h3
        obtain ⟨hw, h5⟩ := zz_it h4
        exact zs_zast ⟨c1, c2, e5, e6⟩ c3 e2.symm rfl (zz_bq hs) hx hj hw hd (next _ _ _ h5)
      | aastore =>
        dsimp only at h hc
        rw [Bool.and_eq_true, decide_eq_true_eq] at hc
        obtain ⟨⟨e1, c1, c2, e5, e6, c3, c4⟩, hc⟩ := hc; subst e1
        obtain ⟨q, hq, hc⟩ := zz_obk_ok hc
        obtain ⟨w', r0, e7, h0⟩ := zz_a1_ok h
        obtain ⟨j, r1, e3, h1⟩ := zz_i1_ok h0
        obtain ⟨x, r2, e4, h2⟩ := zz_a1_ok h1
        subst e4; subst e3; subst e7
        obtain ⟨hs, h2⟩ := zz_cn h2
        obtain ⟨hx, h3⟩ := zz_ie h2
        obtain ⟨hj, h4⟩ := zz_it h3
        obtain ⟨hw, h5⟩ := zz_ie h4
        exact zs_aast ⟨c1, c2, e5, e6⟩ c3 c4 hq (of_decide_eq_true hc) (zz_bq hs) hx hj hw hd (next _ _ _ h5)
      | arraylength =>
        dsimp only at h hc
        obtain ⟨e1, c1, c2⟩ := of_decide_eq_true hc; subst e1
        obtain ⟨x, r2, e4, h2⟩ := zz_a1_ok h
        subst e4
        obtain ⟨hx, h3⟩ := zz_ie h2
        exact zs_alen ⟨c1, c2⟩ hx hd (next _ _ _ h3)
      | new i =>
        dsimp only at h hc
        rw [Bool.and_eq_true, Bool.and_eq_true, decide_eq_true_eq] at hc
        obtain ⟨⟨e1, e2⟩, c1, hc⟩ := hc; subst e1
        obtain ⟨q, hq, hc⟩ := zz_obk_ok hc
        replace h := zz_cn h; obtain ⟨hs, h⟩ := h
        rw [Bool.or_eq_true] at hs
        exact zs_new hq e2 c1 (zz_wd_ok hc) (hs.imp zz_bq zz_bq) hd (next _ _ _ h)
      | newarray aty =>
        dsimp only at h hc
        obtain ⟨e1, c1, c2, c3, c4, c5, c6, c7, c8, c9⟩ := of_decide_eq_true hc; subst e1
        obtain ⟨x, r1, e3, h1⟩ := zz_i1_ok h
        subst e3
        obtain ⟨hs, h2⟩ := zz_cn h1
        obtain ⟨hx, h3⟩ := zz_it h2
        have hw : Jvm.Cond.arrayClass (newarray.typeOf aty) ∈ zz_tb := by
          rcases c7 with rfl | rfl
          · exact hac1
          · exact hac2
        exact zs_newa ⟨c1, c3, c4, c5⟩ ⟨c7, c8⟩ c2 c6 hw (zz_bq hs) hx c9 hd (next _ _ _ h3)
      | anewarray i =>
        dsimp only at h hc
        rw [Bool.and_eq_true, decide_eq_true_eq] at hc
        obtain ⟨⟨e1, c1, c3, c4, c5, c6, c9⟩, hc⟩ := hc; subst e1
        obtain ⟨x, r1, e3, h1⟩ := zz_i1_ok h
        subst e3
        obtain ⟨hs, h2⟩ := zz_cn h1
        obtain ⟨hx, h3⟩ := zz_it h2
        have c0 : zz_ar a ≠ 0 := by rw [c1]; decide
        rw [Bool.or_eq_true, Bool.and_eq_true, Bool.and_eq_true, decide_eq_true_eq, decide_eq_true_eq] at hc
        rcases hc with ⟨d1, d2⟩ | ⟨d1, d2⟩
        · exact zs_anew ⟨c0, c3, c4, c5⟩ d1 (Or.inl rfl) c6 (zz_wd_ok d2) (zz_bq hs) hx c9 hd (next _ _ _ h3)
        · exact zs_anew ⟨c0, c3, c4, c5⟩ d1 (Or.inr rfl) c6 (zz_wd_ok d2) (zz_bq hs) hx c9 hd (next _ _ _ h3)
      | invokestatic i =>
        dsimp only at h hc
        rw [Bool.and_eq_true, decide_eq_true_eq] at hc
        obtain ⟨e1, hc⟩ := hc; subst e1
        obtain ⟨I, i1, i2, i3, i4, hc⟩ := zz_ca_ok hc
        rw [Bool.and_eq_true, Bool.and_eq_true] at hc
        obtain ⟨c1, c2, c3⟩ := hc
        obtain ⟨m1, m2⟩ := zz_mck_ok c1
        cases hta : zz_ta tg sk [] with
        | none => rw [hta] at h; cases h
        | some z =>
          obtain ⟨vs, rr⟩ := z
          rw [hta] at h
          replace h := zz_cn h; obtain ⟨b1, h⟩ := h
          replace h := Option.bind_eq_some_iff.mp h; obtain ⟨⟨q, σ2⟩, d1, h⟩ := h
          obtain ⟨I', j1, j2⟩ := hCE _ _ _ _ _ d1
          cases i1.symm.trans j1
          subst i2
          have hl : Jvm.Cond.methodLink (zm_own M) i I.1 ∈ zz_tb ∨ ∃ host, (zm_own M, i, I.1, host) ∈ zz_nm := by
            rw [Bool.or_eq_true] at c3
            rcases c3 with c3 | c3
            · exact Or.inr ⟨_, of_decide_eq_true c3⟩
            · exact Or.inl (zz_wd_ok c3)
          refine zs_static j2 m2 i4 hta (Nat.le_of_ble_eq_true b1) m1 rfl (zz_wd_ok c2) hl hd ?_
          rw [← i3]
          cases ht : Nat.beq t 999 with
          | true =>
            rw [ht] at h
            rw [if_pos (zz_bq ht)]
            exact next _ _ _ h
          | false =>
            rw [ht] at h
            rw [if_neg (zz_bn ht)]
            exact next _ _ _ h
      | invokevirtual i =>
        dsimp only at h hc
        rw [Bool.and_eq_true, decide_eq_true_eq] at hc
        obtain ⟨e1, hc⟩ := hc; subst e1
        obtain ⟨I, i1, i2, i3, i4, hc⟩ := zz_ca_ok hc
        rw [Bool.and_eq_true, Bool.and_eq_true, Bool.and_eq_true, Bool.and_eq_true] at hc
        obtain ⟨c1, c2, c3, c4, c5⟩ := hc
        obtain ⟨m1, m2⟩ := zz_mck_ok c1
        cases hta : zz_ta tg sk [] with
        | none => rw [hta] at h; cases h
        | some z =>
          obtain ⟨vs, rr⟩ := z
          rw [hta] at h
          cases vs with
          | nil => cases h
          | cons x xs =>
            replace h := zz_cn h; obtain ⟨b1, h⟩ := h
            replace h := zz_ie h; obtain ⟨hx, h⟩ := h
            replace h := Option.bind_eq_some_iff.mp h; obtain ⟨⟨q, σ2⟩, d1, h⟩ := h
            obtain ⟨I', j1, j2⟩ := hCE _ _ _ _ _ d1
            cases i1.symm.trans j1
            subst i2
            cases hpt : I.2.2.1 with
            | nil => rw [hpt] at c2; cases c2
            | cons u us =>
              rw [hpt] at c2
              dsimp only at c2
              rw [Bool.and_eq_true, decide_eq_true_eq] at c2
              obtain ⟨c6, c7⟩ := c2
              obtain ⟨Cq, hq, c8⟩ := zz_obk_ok c7
              have eu : u = 2 + (u - 2) := by omega
              refine zs_virtual (pt := I.2.2.1) (k := u - 2) (us := us) (by rw [hpt, ← eu]) rfl hx hq (of_decide_eq_true c8) j2 m2 i4 hta (Nat.le_of_ble_eq_true b1) m1 (by rw [hpt]; simp) (zz_wd_ok c3) (fun s args hw => hw _ (zz_wd_ok c4)) (zz_wd_ok c5) hd ?_
              rw [← i3]
              cases ht : Nat.beq t 999 with
              | true =>
                rw [ht] at h
                rw [if_pos (zz_bq ht)]
                exact next _ _ _ h
              | false =>
                rw [ht] at h
                rw [if_neg (zz_bn ht)]
                exact next _ _ _ h
      | invokespecial i =>
        dsimp only at h hc
        rw [Bool.and_eq_true, decide_eq_true_eq] at hc
        obtain ⟨e1, hc⟩ := hc; subst e1
        cases ha : Nat.beq a 0 with
        | true =>
          rw [ha] at h
          rw [if_pos (zz_bq ha), Bool.and_eq_true, decide_eq_true_eq] at hc
          match sk, h with
          | [], h => cases h
          | (u, x) :: rr, h =>
            dsimp only at h
            replace h := zz_cn h; obtain ⟨b1, h⟩ := h
            rw [Bool.and_eq_true, Bool.and_eq_true] at b1
            exact zs_objinit ⟨Nat.le_of_ble_eq_true b1.1, Nat.le_of_ble_eq_true b1.2.1⟩ (Nat.le_of_ble_eq_true b1.2.2) hc.1 (zz_wd_ok hc.2) hob1 hob2 hd (next _ _ _ h)
        | false =>
          rw [ha] at h
          rw [if_neg (zz_bn ha)] at hc
          obtain ⟨I, i1, i2, i3, i4, hc⟩ := zz_ca_ok hc
          rw [Bool.and_eq_true, Bool.and_eq_true, Bool.and_eq_true, decide_eq_true_eq] at hc
          obtain ⟨c1, ⟨c2, c3, c4, c5, c6⟩, c7, c8⟩ := hc
          obtain ⟨m1, m2⟩ := zz_mck_ok c1
          cases hta : zz_ta tg sk [] with
          | none => rw [hta] at h; cases h
          | some z =>
            obtain ⟨vs, rr⟩ := z
            rw [hta] at h
            cases vs with
            | nil => cases h
            | cons x xs =>
              replace h := zz_cn h; obtain ⟨b1, h⟩ := h
              replace h := Option.bind_eq_some_iff.mp h; obtain ⟨⟨q, σ2⟩, d1, h⟩ := h
              replace h := zz_it h; obtain ⟨hcm, h⟩ := h
              obtain ⟨I', j1, j2⟩ := hCE _ _ _ _ _ d1
              cases i1.symm.trans j1
              subst i2
              cases hpt : I.2.2.1 with
              | nil => rw [hpt] at c6; cases c6
              | cons u us =>
                rw [hpt] at c6
                cases c6
                have hl : Jvm.Cond.methodLink (zm_own M) i I.1 ∈ zz_tb ∨ ∃ host, (zm_own M, i, I.1, host) ∈ zz_nm := by
                  rw [Bool.or_eq_true] at c8
                  rcases c8 with c8 | c8
                  · exact Or.inr ⟨_, of_decide_eq_true c8⟩
                  · exact Or.inl (zz_wd_ok c8)
                exact zs_special (pt := I.2.2.1) (k := b) (us := us) hpt rfl c2 hcm j2 m2 i4 c3 hta (Nat.le_of_ble_eq_true b1) m1 (by rw [hpt]; simp) (zz_wd_ok c7) c5 c4 hl hd (next _ _ _ h)
      | ireturn =>
        dsimp only at h hc
        have e1 := of_decide_eq_true hc; subst e1
        match sk, h with
        | [], h => cases h
        | [(u, x)], h =>
          replace h := zz_cn h; obtain ⟨b1, h⟩ := h
          rw [Bool.and_eq_true] at b1
          have b2 := zz_bq b1.1; subst b2
          cases hrb : zm_rb M with
          | true =>
            rw [hrb] at h
            replace h := zz_it h; obtain ⟨hx, h⟩ := h
            cases h
            exact zs_ireturn (zz_bq b1.2) (fun _ => hx) hd
          | false =>
            rw [hrb] at h
            cases h
            exact zs_ireturn (zz_bq b1.2) (fun z => by rw [hrb] at z; cases z) hd
        | _ :: _ :: _, h => cases h
      | areturn =>
        dsimp only at h hc
        obtain ⟨e1, e2⟩ := of_decide_eq_true hc; subst e1
        match sk, h with
        | [], h => cases h
        | [(u, x)], h =>
          replace h := zz_cn h; obtain ⟨b1, h⟩ := h
          rw [Bool.and_eq_true, Bool.and_eq_true, Bool.or_eq_true] at b1
          cases h
          exact zs_areturn ⟨Nat.le_of_ble_eq_true b1.2.1, Nat.le_of_ble_eq_true b1.2.2⟩ e2 (b1.1.imp zz_bq zz_bq) hd
        | _ :: _ :: _, h => cases h
      | return_ =>
        dsimp only at h hc
        obtain ⟨e1, e2, e3⟩ := of_decide_eq_true hc; subst e1
        match sk, h with
        | [], h =>
          replace h := zz_cn h; obtain ⟨b1, h⟩ := h
          cases hth : Nat.beq (zm_th M) 0 with
          | true =>
            rw [hth] at h
            cases h
            exact zs_return (zz_bq b1) e2 hd
          | false =>
            rw [hth] at h
            cases e : zz_lk lv 0 with
            | mk u x =>
              rw [e] at h
              replace h := zz_cn h; obtain ⟨b2, h⟩ := h
              replace h := zz_it h; obtain ⟨⟨b3, b4⟩, h⟩ := h
              have b5 := zz_bq b2; subst b5
              cases h
              obtain ⟨f1, f2, f3⟩ := e3.resolve_left (zz_bn hth)
              exact zs_returnC (zz_bq b1) e2 ⟨f1, f2⟩ f3 e b3 b4 hd
        | _ :: _, h => cases h
      | _ => exact absurd h (by dsimp only; exact fun z => by cases z)
end
section
/-! FROM THE EVALUATOR TO THE BLOCKS: lists of callees and of places, wrappers by the number of arguments -/
def zz_f0 (g : zz_S → zz_R) : List Int → zz_S → zz_R := fun vs σ => match vs with
  | [] => g σ
  | _ => none
def zz_f1 (g : Int → zz_S → zz_R) : List Int → zz_S → zz_R := fun vs σ => match vs with
  | [a] => g a σ
  | _ => none
def zz_f2 (g : Int → Int → zz_S → zz_R) : List Int → zz_S → zz_R := fun vs σ => match vs with
  | [a, b] => g a b σ
  | _ => none
def zz_f3 (g : Int → Int → Int → zz_S → zz_R) : List Int → zz_S → zz_R := fun vs σ => match vs with
  | [a, b, c] => g a b c σ
  | _ => none
def zz_f4 (g : Int → Int → Int → Int → zz_S → zz_R) : List Int → zz_S → zz_R := fun vs σ => match vs with
  | [a, b, c, d] => g a b c d σ
  | _ => none
def zz_f5 (g : Int → Int → Int → Int → Int → zz_S → zz_R) : List Int → zz_S → zz_R := fun vs σ => match vs with
  | [a, b, c, d, e] => g a b c d e σ
  | _ => none
def zz_f6 (g : Int → Int → Int → Int → Int → Int → zz_S → zz_R) : List Int → zz_S → zz_R := fun vs σ => match vs with
  | [a, b, c, d, e, f] => g a b c d e f σ
  | _ => none
theorem zz_f0_ok {g : zz_S → zz_R} {vs : List Int} {σ : zz_S} {z : Int × zz_S} (h : zz_f0 g vs σ = some z) : vs = [] ∧ g σ = some z := by
  match vs, h with
  | [], h => exact ⟨rfl, h⟩
theorem zz_f1_ok {g : Int → zz_S → zz_R} {vs : List Int} {σ : zz_S} {z : Int × zz_S} (h : zz_f1 g vs σ = some z) : ∃ a, vs = [a] ∧ g a σ = some z := by
  match vs, h with
  | [a], h => exact ⟨a, rfl, h⟩
theorem zz_f2_ok {g : Int → Int → zz_S → zz_R} {vs : List Int} {σ : zz_S} {z : Int × zz_S} (h : zz_f2 g vs σ = some z) : ∃ a b, vs = [a, b] ∧ g a b σ = some z := by
  match vs, h with
  | [a, b], h => exact ⟨a, b, rfl, h⟩
theorem zz_f3_ok {g : Int → Int → Int → zz_S → zz_R} {vs : List Int} {σ : zz_S} {z : Int × zz_S} (h : zz_f3 g vs σ = some z) : ∃ a b c, vs = [a, b, c] ∧ g a b c σ = some z := by
  match vs, h with
  | [a, b, c], h => exact ⟨a, b, c, rfl, h⟩
theorem zz_f4_ok {g : Int → Int → Int → Int → zz_S → zz_R} {vs : List Int} {σ : zz_S} {z : Int × zz_S} (h : zz_f4 g vs σ = some z) : ∃ a b c d, vs = [a, b, c, d] ∧ g a b c d σ = some z := by
  match vs, h with
  | [a, b, c, d], h => exact ⟨a, b, c, d, rfl, h⟩
theorem zz_f5_ok {g : Int → Int → Int → Int → Int → zz_S → zz_R} {vs : List Int} {σ : zz_S} {z : Int × zz_S} (h : zz_f5 g vs σ = some z) : ∃ a b c d e, vs = [a, b, c, d, e] ∧ g a b c d e σ = some z := by
  match vs, h with
  | [a, b, c, d, e], h => exact ⟨a, b, c, d, e, rfl, h⟩
theorem zz_f6_ok {g : Int → Int → Int → Int → Int → Int → zz_S → zz_R} {vs : List Int} {σ : zz_S} {z : Int × zz_S} (h : zz_f6 g vs σ = some z) : ∃ a b c d e f, vs = [a, b, c, d, e, f] ∧ g a b c d e f σ = some z := by
  match vs, h with
  | [a, b, c, d, e, f], h => exact ⟨a, b, c, d, e, f, rfl, h⟩
/-- the locals of a place, by its list and the values -/
def zz_cs : List (Nat × Nat × Bool) → List Int → List (Nat × zz_V)
  | [], _ => []
  | (i, t, true) :: sp, vs => (i, t, 1) :: zz_cs sp vs
  | (i, t, false) :: sp, v :: vs => (i, t, v) :: zz_cs sp vs
  | (_, _, false) :: _, [] => []
def zz_okb (M : zz_M) (pc : Nat) (sp : List (Nat × Nat × Bool)) (f : List Int → zz_S → zz_R) : Prop := ∀ vs σ r τ, f vs σ = some (r, τ) → zz_At M pc (zz_cs sp vs) [] σ r τ
def zz_okl (M : zz_M) (L : List (Nat × List (Nat × Nat × Bool) × (List Int → zz_S → zz_R))) : Prop := ∀ p ∈ L, zz_okb M p.1 p.2.1 p.2.2
theorem zz_ol0 {M : zz_M} : zz_okl M [] := fun p hp => by cases hp
theorem zz_olc {M : zz_M} {pc : Nat} {sp : List (Nat × Nat × Bool)} {f : List Int → zz_S → zz_R} {L : List (Nat × List (Nat × Nat × Bool) × (List Int → zz_S → zz_R))} (h : zz_okb M pc sp f) (hL : zz_okl M L) : zz_okl M ((pc, sp, f) :: L) := fun p hp => by
  rcases List.mem_cons.mp hp with rfl | hp
  · exact h
  · exact hL p hp
def zz_okm (inf : Nat → Option zz_I) (i : Nat) (f : List Int → zz_S → zz_R) : Prop := ∀ vs σ q τ, f vs σ = some (q, τ) → ∃ I, inf i = some I ∧ zz_MOK I.1 I.2.1 I.2.2.1 vs σ q τ
def zz_okc (inf : Nat → Option zz_I) (L : List (Nat × (List Int → zz_S → zz_R))) : Prop := ∀ p ∈ L, zz_okm inf p.1 p.2
theorem zz_oc0 {inf : Nat → Option zz_I} : zz_okc inf [] := fun p hp => by cases hp
theorem zz_occ {inf : Nat → Option zz_I} {i : Nat} {f : List Int → zz_S → zz_R} {L : List (Nat × (List Int → zz_S → zz_R))} (h : zz_okm inf i f) (hL : zz_okc inf L) : zz_okc inf ((i, f) :: L) := fun p hp => by
  rcases List.mem_cons.mp hp with rfl | hp
  · exact h
  · exact hL p hp
theorem zz_CE_ok {inf : Nat → Option zz_I} : ∀ {L : List (Nat × (List Int → zz_S → zz_R))}, zz_okc inf L → ∀ i, zz_okm inf i (zz_CE L i)
  | [], _, i, vs, σ, q, τ, h => by cases h
  | p :: L, hL, i, vs, σ, q, τ, h => by
    unfold zz_CE at h
    cases hb : Nat.beq p.1 i with
    | true =>
      rw [hb] at h
      rw [← zz_bq hb]
      exact hL p List.mem_cons_self vs σ q τ h
    | false =>
      rw [hb] at h
      exact zz_CE_ok (fun p hp => hL p (List.mem_cons_of_mem _ hp)) i vs σ q τ h
theorem zz_lk_mem : ∀ (c : List (Nat × zz_V)) (i : Nat), zz_lk c i = (1, 0) ∨ (i, zz_lk c i) ∈ c
  | [], i => Or.inl rfl
  | (j, v) :: c, i => by
    cases hb : Nat.beq j i with
    | true =>
      have e : zz_lk ((j, v) :: c) i = v := by unfold zz_lk; rw [hb]; rfl
      rw [e, ← zz_bq hb]
      exact Or.inr List.mem_cons_self
    | false =>
      have e : zz_lk ((j, v) :: c) i = zz_lk c i := by
        show cond (Nat.beq j i) v (zz_lk c i) = _
        rw [hb]
        rfl
      rw [e]
      exact (zz_lk_mem c i).imp id (fun h => List.mem_cons_of_mem _ h)
/-- a place's locals may know less -/
theorem zz_At.weak {M : zz_M} {pc : Nat} {c lv : List (Nat × zz_V)} {sk : List zz_V} {σ τ : zz_S} {r : Int} (hw : ∀ q ∈ c, zz_lk lv q.1 = q.2 ∨ (zz_lk lv q.1 = (3000, q.2.2) ∧ 2 ≤ q.2.1 ∧ q.2.1 ≤ 999)) (h : zz_At M pc c sk σ r τ) : zz_At M pc lv sk σ r τ := by
  intro a1 a2 a3
  have hv : zz_vl σ c := by
    intro i
    rcases zz_lk_mem c i with e | e
    · rw [e]
      exact zz_ok_l.mpr ⟨by omega, by omega⟩
    · rcases hw _ e with h1 | ⟨h1, h2, h3⟩
      · have := a2 i
        rw [h1] at this
        exact this
      · have := a2 i
        rw [h1] at this
        have e0 := zz_null_ok this
        have : zz_lk c i = ((zz_lk c i).1, 0) := by rw [← e0]
        rw [this]
        exact zz_ok_0 a1.2.2.1 h3
  obtain ⟨g, hW⟩ := h a1 hv a3
  refine ⟨g, ?_⟩
  intro p l e R s m args below meth c' C D n0 ad H locs cells slots ls Q hK hH hL
  refine hW p l e R s m args below meth c' C D n0 ad H locs cells slots ls Q hK hH ⟨hL.1, fun i hi => ?_⟩
  rcases zz_lk_mem c i with e | e
  · rw [e] at hi
    exact absurd rfl hi
  · rcases hw _ e with h1 | ⟨h1, h2, h3⟩
    · have h1 : zz_lk lv i = zz_lk c i := h1
      rw [← h1]
      exact hL.2 i (by rw [h1]; exact hi)
    · have := hL.2 i (by rw [h1]; show (3000 : Nat) ≠ 1; decide)
      rw [h1] at this
      have e0 := a2 i
      rw [h1] at e0
      have e0 := zz_null_ok e0
      have e2 : zz_lk c i = ((zz_lk c i).1, 0) := by rw [← e0]
      rw [e2, zz_cv_0 ad h2, this]
      show some (Slot.val (zz_cv ad (3000, (zz_lk c i).2))) = _
      rw [e0, zz_cv_0 ad (by omega)]
theorem zz_kc_ok : ∀ (sp : List (Nat × Nat × Bool)) (lv : List (Nat × zz_V)) (f : List Int → zz_R) (z : Int × zz_S), zz_kc sp lv f = some z → ∃ vs, f vs = some z ∧ ∀ q ∈ zz_cs sp vs, zz_lk lv q.1 = q.2 ∨ (zz_lk lv q.1 = (3000, q.2.2) ∧ 2 ≤ q.2.1 ∧ q.2.1 ≤ 999)
  | [], lv, f, z, h => ⟨[], h, fun q hq => by cases hq⟩
  | (i, t, s) :: sp, lv, f, z, h => by
    unfold zz_kc at h
    cases e : zz_lk lv i with
    | mk u x =>
      rw [e] at h
      dsimp only at h
      obtain ⟨hb, h⟩ := zz_cn h
      have ht : (u, x) = (t, x) ∨ ((u, x) = (3000, x) ∧ 2 ≤ t ∧ t ≤ 999) := by
        rw [Bool.or_eq_true, Bool.and_eq_true, Bool.and_eq_true] at hb
        rcases hb with hb | ⟨b1, b2, b3⟩
        · exact Or.inl (by rw [zz_bq hb])
        · exact Or.inr ⟨by rw [zz_bq b1], Nat.le_of_ble_eq_true b2, Nat.le_of_ble_eq_true b3⟩
      cases s with
      | true =>
        obtain ⟨hx, h⟩ := zz_it h
        subst hx
        obtain ⟨vs, h1, h2⟩ := zz_kc_ok sp lv f z h
        refine ⟨vs, h1, fun q hq => ?_⟩
        rcases List.mem_cons.mp hq with rfl | hq
        · show zz_lk lv i = (t, 1) ∨ (zz_lk lv i = (3000, 1) ∧ _)
          rw [e]
          exact ht
        · exact h2 q hq
      | false =>
        obtain ⟨vs, h1, h2⟩ := zz_kc_ok sp lv (fun r => f (x :: r)) z h
        refine ⟨x :: vs, h1, fun q hq => ?_⟩
        rcases List.mem_cons.mp hq with rfl | hq
        · show zz_lk lv i = (t, x) ∨ (zz_lk lv i = (3000, x) ∧ _)
          rw [e]
          exact ht
        · exact h2 q hq
theorem zz_KE_ok {M : zz_M} : ∀ {L : List (Nat × List (Nat × Nat × Bool) × (List Int → zz_S → zz_R))}, zz_okl M L → ∀ pc lv sk σ r τ, zz_KE L pc lv sk σ = some (r, τ) → zz_At M pc lv sk σ r τ
  | [], _, pc, lv, sk, σ, r, τ, h => by cases h
  | p :: L, hL, pc, lv, sk, σ, r, τ, h => by
    unfold zz_KE at h
    cases hb : Nat.beq p.1 pc with
    | true =>
      rw [hb] at h
      cases sk with
      | cons a sk => cases h
      | nil =>
        obtain ⟨vs, h1, h2⟩ := zz_kc_ok p.2.1 lv (fun vs => p.2.2 vs σ) _ h
        rw [← zz_bq hb]
        exact (hL p List.mem_cons_self vs σ r τ h1).weak h2
    | false =>
      rw [hb] at h
      exact zz_KE_ok (fun p hp => hL p (List.mem_cons_of_mem _ hp)) pc lv sk σ r τ h
/-- a block, out of its equation with the evaluator -/
theorem zz_from {M : zz_M} {inf : Nat → Option zz_I} {CL : List (Nat × (List Int → zz_S → zz_R))} {KL : List (Nat × List (Nat × Nat × Bool) × (List Int → zz_S → zz_R))} {cs : List zz_E} (hck : cs.all (zz_ck inf M) = true ∧ zz_ch cs = true) (hC : zz_okc inf CL) (hK : zz_okl M KL) {n q : Nat} {lv : List (Nat × zz_V)} {sk : List zz_V} {σ τ : zz_S} {r : Int} (h : zz_ev (zz_CE CL) (zz_KE KL) cs (zm_rt M) (zm_rb M) (zm_th M) (zm_sd M) n true (zz_sk cs q) lv sk σ = some (r, τ)) : zz_At M q lv sk σ r τ := by
  rcases zz_sk_ok cs q with e1 | ⟨e1, es1, e2, e3, e4⟩
  · rw [e1] at h
    cases n <;> cases h
  · rw [e2] at h
    have := zz_sound (inf := inf) hck.1 hck.2 (fun i vs σ q σ2 hh => zz_CE_ok hC i vs σ q σ2 hh) (zz_KE_ok hK) n true e1 es1 lv sk σ r τ e4 h
    rw [e3] at this
    exact this
def zz_mk (y : MethodName) (M : zz_M) (pt : List Nat) : Bool := plainFor y && (decide (y.cls = zm_own M ∧ (zm_th M ≠ 0 → y.name = "<init>") ∧ pt.length ≤ zm_l M) && (pt.all (fun t => decide (t ≠ 1)) && zz_rrB M))
theorem zz_meth {inf : Nat → Option zz_I} {i : Nat} {y : MethodName} {M : zz_M} {pt : List Nat} {ws : Nat × Nat × Nat × Nat} {vs : List Int} {σ τ : zz_S} {r : Int} (hi : inf i = some (y, M, pt, ws)) (hm : zz_mk y M pt = true) (h : zz_At M 0 (zz_lv0 0 (pt.zip vs)) [] σ r τ) : ∃ I, inf i = some I ∧ zz_MOK I.1 I.2.1 I.2.2.1 vs σ r τ := by
  unfold zz_mk at hm
  rw [Bool.and_eq_true, Bool.and_eq_true, Bool.and_eq_true, decide_eq_true_eq] at hm
  obtain ⟨m1, ⟨m2, m3, m4⟩, m5, m6⟩ := hm
  exact ⟨_, hi, zz_MOK_of m1 m2 m3 (zz_rrB_ok m6) (fun t ht => of_decide_eq_true (List.all_eq_true.mp m5 t ht)) m4 (fun _ => h)⟩
end
section
def zM_x_new : zz_M := ("CinemaClock", prog_1_method_1_code, 1, none, 999, false, 3, 0, 2)
def zM_x_workers : zz_M := ("CinemaClock", prog_1_method_2_code, 3, (some .int), 0, false, 0, 0, 1)
def zM_x_group : zz_M := ("CinemaClock", prog_1_method_3_code, 2, (some .int), 0, false, 0, 0, 1)
def zM_x_task : zz_M := ("CinemaClock", prog_1_method_4_code, 4, (some .int), 0, false, 0, 0, 3)
def zM_x_set : zz_M := ("CinemaClock", prog_1_method_5_code, 6, (some .int), 0, false, 0, 0, 2)
def zM_x_leastTold : zz_M := ("CinemaClock", prog_1_method_6_code, 1, (some .int), 0, false, 0, 0, 0)
def zM_x_mostTold : zz_M := ("CinemaClock", prog_1_method_7_code, 2, (some .int), 0, false, 0, 0, 0)
def zM_x_calendar : zz_M := ("CinemaClock", prog_1_method_8_code, 6, (some .int), 0, false, 0, 0, 2)
def zM_x_body : zz_M := ("CinemaClock", prog_1_method_9_code, 7, (some .int), 0, false, 0, 0, 2)
def zM_x_after : zz_M := ("CinemaClock", prog_1_method_10_code, 5, (some .int), 0, false, 0, 0, 3)
def zM_x_comesAfter : zz_M := ("CinemaClock", prog_1_method_11_code, 7, (some .boolean), 0, true, 0, 0, 2)
def zM_x_link : zz_M := ("CinemaClock", prog_1_method_12_code, 4, (some .int), 0, false, 0, 0, 0)
def zM_x_plan : zz_M := ("CinemaClock", prog_1_method_13_code, 4, (some .int), 0, false, 0, 0, 2)
def zM_x_clearPlan : zz_M := ("CinemaClock", prog_1_method_14_code, 2, (some .int), 0, false, 0, 0, 0)
def zM_x_clock : zz_M := ("CinemaClock", prog_1_method_15_code, 5, (some .int), 0, false, 0, 0, 6)
def zM_x_treatMinute : zz_M := ("CinemaClock", prog_1_method_16_code, 2, none, 999, false, 0, 0, 5)
def zM_x_endRuns : zz_M := ("CinemaClock", prog_1_method_17_code, 3, none, 999, false, 0, 0, 4)
def zM_x_firstEnding : zz_M := ("CinemaClock", prog_1_method_18_code, 3, (some (.object "CinemaClock$Run")), 12, false, 0, 0, 0)
def zM_x_endRun : zz_M := ("CinemaClock", prog_1_method_19_code, 5, none, 999, false, 0, 0, 3)
def zM_x_act : zz_M := ("CinemaClock", prog_1_method_20_code, 5, (some .int), 0, false, 0, 0, 2)
def zM_x_followEnd : zz_M := ("CinemaClock", prog_1_method_21_code, 4, none, 999, false, 0, 0, 2)
def zM_x_restAfter : zz_M := ("CinemaClock", prog_1_method_22_code, 1, (some .int), 0, false, 0, 0, 1)
def zM_x_layDown : zz_M := ("CinemaClock", prog_1_method_23_code, 5, none, 999, false, 0, 0, 0)
def zM_x_tellAfters : zz_M := ("CinemaClock", prog_1_method_24_code, 5, none, 999, false, 0, 0, 2)
def zM_x_bringDues : zz_M := ("CinemaClock", prog_1_method_25_code, 4, none, 999, false, 0, 0, 4)
def zM_x_isDueByKind : zz_M := ("CinemaClock", prog_1_method_26_code, 3, (some .boolean), 0, true, 0, 0, 3)
def zM_x_comeDue : zz_M := ("CinemaClock", prog_1_method_27_code, 3, none, 999, false, 0, 0, 1)
def zM_x_fateOfDue : zz_M := ("CinemaClock", prog_1_method_28_code, 2, (some .int), 0, false, 0, 0, 0)
def zM_x_pauseAgain : zz_M := ("CinemaClock", prog_1_method_29_code, 2, none, 999, false, 0, 0, 0)
def zM_x_missDues : zz_M := ("CinemaClock", prog_1_method_30_code, 4, none, 999, false, 0, 0, 3)
def zM_x_isMissed : zz_M := ("CinemaClock", prog_1_method_31_code, 3, (some .boolean), 0, true, 0, 0, 0)
def zM_x_missDue : zz_M := ("CinemaClock", prog_1_method_32_code, 4, (some .int), 0, false, 0, 0, 2)
def zM_x_beginRuns : zz_M := ("CinemaClock", prog_1_method_33_code, 4, none, 999, false, 0, 0, 3)
def zM_x_freeWorker : zz_M := ("CinemaClock", prog_1_method_34_code, 2, (some .int), 0, false, 0, 0, 0)
def zM_x_firstToBegin : zz_M := ("CinemaClock", prog_1_method_35_code, 3, (some .int), 0, false, 0, 0, 2)
def zM_x_mayBegin : zz_M := ("CinemaClock", prog_1_method_36_code, 3, (some .boolean), 0, true, 0, 0, 1)
def zM_x_workIn : zz_M := ("CinemaClock", prog_1_method_37_code, 5, (some .int), 0, false, 0, 0, 0)
def zM_x_beginRun : zz_M := ("CinemaClock", prog_1_method_38_code, 5, none, 999, false, 0, 0, 2)
def zM_x_jump : zz_M := ("CinemaClock", prog_1_method_39_code, 2, (some .int), 0, false, 0, 0, 5)
def zM_x_jumpOver : zz_M := ("CinemaClock", prog_1_method_40_code, 6, none, 999, false, 0, 0, 4)
def zM_x_missJumped : zz_M := ("CinemaClock", prog_1_method_41_code, 7, none, 999, false, 0, 0, 3)
def zM_x_cancel : zz_M := ("CinemaClock", prog_1_method_42_code, 4, (some .int), 0, false, 0, 0, 4)
def zM_x_leave : zz_M := ("CinemaClock", prog_1_method_43_code, 3, none, 999, false, 0, 0, 1)
def zM_x_interruptRuns : zz_M := ("CinemaClock", prog_1_method_44_code, 4, none, 999, false, 0, 0, 3)
def zM_x_firstAtWork : zz_M := ("CinemaClock", prog_1_method_45_code, 4, (some (.object "CinemaClock$Run")), 12, false, 0, 0, 0)
def zM_x_stop : zz_M := ("CinemaClock", prog_1_method_46_code, 2, (some .int), 0, false, 0, 0, 4)
def zM_x_dropDues : zz_M := ("CinemaClock", prog_1_method_47_code, 3, none, 999, false, 0, 0, 1)
def zM_x_go : zz_M := ("CinemaClock", prog_1_method_48_code, 1, (some .int), 0, false, 0, 0, 0)
def zM_x_run : zz_M := ("CinemaClock", prog_1_method_49_code, 4, (some .int), 0, false, 0, 0, 1)
def zM_x_of : zz_M := ("CinemaClock", prog_1_method_50_code, 4, (some .int), 0, false, 0, 0, 2)
def zM_x_stateOf : zz_M := ("CinemaClock", prog_1_method_51_code, 3, (some .int), 0, false, 0, 0, 1)
def zM_x_next : zz_M := ("CinemaClock", prog_1_method_52_code, 4, (some .int), 0, false, 0, 0, 5)
def zM_x_dueMinute : zz_M := ("CinemaClock", prog_1_method_53_code, 4, (some .int), 0, false, 0, 0, 4)
def zM_x_calendarMinute : zz_M := ("CinemaClock", prog_1_method_54_code, 6, (some .int), 0, false, 0, 0, 3)
def zM_x_waiting : zz_M := ("CinemaClock", prog_1_method_55_code, 4, (some .int), 0, false, 0, 0, 1)
def zM_x_book : zz_M := ("CinemaClock", prog_1_method_56_code, 3, (some .int), 0, false, 0, 0, 1)
def zM_x_count : zz_M := ("CinemaClock", prog_1_method_57_code, 2, (some .int), 0, false, 0, 0, 0)
def zM_x_cell : zz_M := ("CinemaClock", prog_1_method_58_code, 2, (some .int), 0, false, 0, 0, 1)
def zM_x_day : zz_M := ("CinemaClock", prog_1_method_59_code, 5, (some .int), 0, false, 0, 0, 1)
def zM_x_idle : zz_M := ("CinemaClock", prog_1_method_60_code, 2, (some .int), 0, false, 0, 0, 1)
def zM_x_load : zz_M := ("CinemaClock", prog_1_method_61_code, 2, (some .int), 0, false, 0, 0, 1)
def zM_x_quiet : zz_M := ("CinemaClock", prog_1_method_62_code, 3, (some .int), 0, false, 0, 0, 5)
def zM_x_isWithin : zz_M := ("CinemaClock", prog_1_method_63_code, 3, (some .boolean), 0, true, 0, 0, 0)
def zM_x_taskAt : zz_M := ("CinemaClock", prog_1_method_64_code, 2, (some (.object "CinemaClock$Task")), 9, false, 0, 0, 1)
def zM_x_isActive : zz_M := ("CinemaClock", prog_1_method_65_code, 1, (some .boolean), 0, true, 0, 0, 1)
def zM_xD_new : zz_M := ("CinemaClock$Dues", prog_4_method_1_code, 1, none, 999, false, 4, 0, 1)
def zM_xD_add : zz_M := ("CinemaClock$Dues", prog_4_method_2_code, 3, none, 999, false, 0, 0, 0)
def zM_xD_remove : zz_M := ("CinemaClock$Dues", prog_4_method_3_code, 4, none, 999, false, 0, 0, 1)
def zM_xD_removeAll : zz_M := ("CinemaClock$Dues", prog_4_method_4_code, 4, none, 999, false, 0, 0, 0)
def zM_xD_clear : zz_M := ("CinemaClock$Dues", prog_4_method_5_code, 3, none, 999, false, 0, 0, 0)
def zM_xD_isAhead : zz_M := ("CinemaClock$Dues", prog_4_method_6_code, 5, (some .boolean), 0, true, 0, 0, 0)
def zM_xB_new : zz_M := ("CinemaClock$Book", prog_2_method_1_code, 1, none, 999, false, 5, 0, 1)
def zM_xB_add : zz_M := ("CinemaClock$Book", prog_2_method_2_code, 4, none, 999, false, 0, 0, 0)
def zM_xP_new : zz_M := ("CinemaClock$Plans", prog_6_method_1_code, 1, none, 999, false, 6, 0, 1)
def zM_xP_placeOf : zz_M := ("CinemaClock$Plans", prog_6_method_2_code, 4, (some .int), 0, false, 0, 0, 0)
def zM_xP_put : zz_M := ("CinemaClock$Plans", prog_6_method_3_code, 5, (some .boolean), 0, true, 0, 0, 1)
def zM_xP_kindOf : zz_M := ("CinemaClock$Plans", prog_6_method_4_code, 4, (some .int), 0, false, 0, 0, 1)
def zM_xT_new : zz_M := ("CinemaClock$Task", prog_8_method_1_code, 5, none, 999, false, 7, 0, 2)
def zM_xT_isActive : zz_M := ("CinemaClock$Task", prog_8_method_2_code, 1, (some .boolean), 0, true, 0, 0, 0)
def zM_xT_fireFor : zz_M := ("CinemaClock$Task", prog_8_method_3_code, 2, none, 999, false, 0, 0, 0)
def zM_xT_isFiredFor : zz_M := ("CinemaClock$Task", prog_8_method_4_code, 2, (some .boolean), 0, true, 0, 0, 0)
def zM_xT_step : zz_M := ("CinemaClock$Task", prog_8_method_5_code, 1, (some .int), 0, false, 0, 0, 1)
def zM_xT_firstOfRate : zz_M := ("CinemaClock$Task", prog_8_method_6_code, 3, (some .int), 0, false, 0, 0, 2)
def zM_xC_new : zz_M := ("CinemaClock$Calendar", prog_3_method_1_code, 1, none, 999, false, 8, 0, 1)
def zM_xC_isForm : zz_M := ("CinemaClock$Calendar", prog_3_method_2_code, 3, (some .boolean), 0, true, 0, 0, 1)
def zM_xC_add : zz_M := ("CinemaClock$Calendar", prog_3_method_3_code, 4, none, 999, false, 0, 0, 1)
def zM_xC_ring : zz_M := ("CinemaClock$Calendar", prog_3_method_4_code, 6, (some .int), 0, false, 0, 0, 0)
def zM_xC_fits : zz_M := ("CinemaClock$Calendar", prog_3_method_5_code, 2, (some .boolean), 0, true, 0, 0, 2)
def zM_xC_minuteFits : zz_M := ("CinemaClock$Calendar", prog_3_method_6_code, 2, (some .boolean), 0, true, 0, 0, 0)
def zM_xC_hourFits : zz_M := ("CinemaClock$Calendar", prog_3_method_7_code, 2, (some .boolean), 0, true, 0, 0, 0)
def zM_xC_dayFits : zz_M := ("CinemaClock$Calendar", prog_3_method_8_code, 4, (some .boolean), 0, true, 0, 0, 1)
def zM_xC_firstFit : zz_M := ("CinemaClock$Calendar", prog_3_method_9_code, 4, (some .int), 0, false, 0, 0, 2)
def zM_xC_monthOf : zz_M := ("CinemaClock$Calendar", prog_3_method_10_code, 2, (some .int), 0, false, 0, 0, 0)
def zM_xN_new : zz_M := ("CinemaClock$Notes", prog_5_method_1_code, 1, none, 999, false, 9, 0, 1)
def zM_xN_add : zz_M := ("CinemaClock$Notes", prog_5_method_2_code, 3, none, 999, false, 0, 0, 0)
def zM_xN_fit : zz_M := ("CinemaClock$Notes", prog_5_method_3_code, 4, (some .boolean), 0, true, 0, 0, 0)
def zM_xR_new : zz_M := ("CinemaClock$Run", prog_7_method_1_code, 6, none, 999, false, 10, 0, 1)
def zM_m_new : zz_M := ("CinemaClockModel", prog_10_method_1_code, 2, none, 999, false, 40, 1, 1)
def zM_m_in : zz_M := ("CinemaClockModel", prog_10_method_2_code, 3, (some .boolean), 0, true, 0, 1, 0)
def zM_m_isTask : zz_M := ("CinemaClockModel", prog_10_method_3_code, 2, (some .boolean), 0, true, 0, 1, 1)
def zM_m_isActive : zz_M := ("CinemaClockModel", prog_10_method_4_code, 2, (some .boolean), 0, true, 0, 1, 0)
def zM_m_atWork : zz_M := ("CinemaClockModel", prog_10_method_5_code, 3, (some .int), 0, false, 0, 1, 0)
def zM_m_isRunning : zz_M := ("CinemaClockModel", prog_10_method_6_code, 3, (some .boolean), 0, true, 0, 1, 0)
def zM_m_loadOf : zz_M := ("CinemaClockModel", prog_10_method_7_code, 4, (some .int), 0, false, 0, 1, 0)
def zM_m_duesOf : zz_M := ("CinemaClockModel", prog_10_method_8_code, 4, (some .int), 0, false, 0, 1, 0)
def zM_m_monthLength : zz_M := ("CinemaClockModel", prog_10_method_9_code, 1, (some .int), 0, false, 0, 1, 0)
def zM_m_look : zz_M := ("CinemaClockModel", prog_10_method_10_code, 3, none, 999, false, 0, 1, 1)
def zM_m_fitsDay : zz_M := ("CinemaClockModel", prog_10_method_11_code, 6, (some .boolean), 0, true, 0, 1, 1)
def zM_m_fitsMinute : zz_M := ("CinemaClockModel", prog_10_method_12_code, 5, (some .boolean), 0, true, 0, 1, 1)
def zM_m_fits : zz_M := ("CinemaClockModel", prog_10_method_13_code, 3, (some .boolean), 0, true, 0, 1, 2)
def zM_m_hasMinute : zz_M := ("CinemaClockModel", prog_10_method_14_code, 3, (some .boolean), 0, true, 0, 1, 2)
def zM_m_dueFrom : zz_M := ("CinemaClockModel", prog_10_method_15_code, 5, (some .int), 0, false, 0, 1, 4)
def zM_m_calendarFrom : zz_M := ("CinemaClockModel", prog_10_method_16_code, 6, (some .int), 0, false, 0, 1, 3)
def zM_m_books : zz_M := ("CinemaClockModel", prog_10_method_17_code, 4, none, 999, false, 0, 1, 0)
def zM_m_dueGone : zz_M := ("CinemaClockModel", prog_10_method_18_code, 3, none, 999, false, 0, 1, 0)
def zM_m_comes : zz_M := ("CinemaClockModel", prog_10_method_19_code, 3, none, 999, false, 0, 1, 1)
def zM_m_takeDue : zz_M := ("CinemaClockModel", prog_10_method_20_code, 3, none, 999, false, 0, 1, 0)
def zM_m_dropDues : zz_M := ("CinemaClockModel", prog_10_method_21_code, 3, none, 999, false, 0, 1, 1)
def zM_m_notes : zz_M := ("CinemaClockModel", prog_10_method_22_code, 7, none, 999, false, 0, 1, 2)
def zM_m_frees : zz_M := ("CinemaClockModel", prog_10_method_23_code, 4, none, 999, false, 0, 1, 0)
def zM_m_interrupts : zz_M := ("CinemaClockModel", prog_10_method_24_code, 5, none, 999, false, 0, 1, 3)
def zM_m_planned : zz_M := ("CinemaClockModel", prog_10_method_25_code, 4, (some .int), 0, false, 0, 1, 0)
def zM_m_does : zz_M := ("CinemaClockModel", prog_10_method_26_code, 6, (some .int), 0, false, 0, 1, 2)
def zM_m_ends : zz_M := ("CinemaClockModel", prog_10_method_27_code, 7, none, 999, false, 0, 1, 3)
def zM_m_failed : zz_M := ("CinemaClockModel", prog_10_method_28_code, 4, none, 999, false, 0, 1, 2)
def zM_m_treat : zz_M := ("CinemaClockModel", prog_10_method_29_code, 3, none, 999, false, 0, 1, 4)
def zM_m_isDue : zz_M := ("CinemaClockModel", prog_10_method_30_code, 3, (some .boolean), 0, true, 0, 1, 3)
def zM_m_misses : zz_M := ("CinemaClockModel", prog_10_method_31_code, 6, none, 999, false, 0, 1, 1)
def zM_m_canBegin : zz_M := ("CinemaClockModel", prog_10_method_32_code, 2, (some .boolean), 0, true, 0, 1, 1)
def zM_m_begins : zz_M := ("CinemaClockModel", prog_10_method_33_code, 6, (some .boolean), 0, true, 0, 1, 2)
def zM_m_isAhead : zz_M := ("CinemaClockModel", prog_10_method_34_code, 5, (some .boolean), 0, true, 0, 1, 0)
def zM_m_clock : zz_M := ("CinemaClockModel", prog_10_method_35_code, 2, (some .int), 0, false, 0, 1, 5)
def zM_m_workers : zz_M := ("CinemaClockModel", prog_10_method_36_code, 3, (some .int), 0, false, 0, 1, 1)
def zM_m_group : zz_M := ("CinemaClockModel", prog_10_method_37_code, 2, (some .int), 0, false, 0, 1, 1)
def zM_m_task : zz_M := ("CinemaClockModel", prog_10_method_38_code, 5, (some .int), 0, false, 0, 1, 1)
def zM_m_set : zz_M := ("CinemaClockModel", prog_10_method_39_code, 5, (some .int), 0, false, 0, 1, 2)
def zM_m_isForm : zz_M := ("CinemaClockModel", prog_10_method_40_code, 3, (some .boolean), 0, true, 0, 1, 1)
def zM_m_calendar : zz_M := ("CinemaClockModel", prog_10_method_41_code, 6, (some .int), 0, false, 0, 1, 2)
def zM_m_body : zz_M := ("CinemaClockModel", prog_10_method_42_code, 6, (some .int), 0, false, 0, 1, 2)
def zM_m_leads : zz_M := ("CinemaClockModel", prog_10_method_43_code, 6, (some .boolean), 0, true, 0, 1, 0)
def zM_m_after : zz_M := ("CinemaClockModel", prog_10_method_44_code, 4, (some .int), 0, false, 0, 1, 2)
def zM_m_plan : zz_M := ("CinemaClockModel", prog_10_method_45_code, 5, (some .int), 0, false, 0, 1, 2)
def zM_m_clearPlan : zz_M := ("CinemaClockModel", prog_10_method_46_code, 2, (some .int), 0, false, 0, 1, 0)
def zM_m_jump : zz_M := ("CinemaClockModel", prog_10_method_47_code, 6, (some .int), 0, false, 0, 1, 3)
def zM_m_cancel : zz_M := ("CinemaClockModel", prog_10_method_48_code, 3, (some .int), 0, false, 0, 1, 4)
def zM_m_stop : zz_M := ("CinemaClockModel", prog_10_method_49_code, 3, (some .int), 0, false, 0, 1, 4)
def zM_m_go : zz_M := ("CinemaClockModel", prog_10_method_50_code, 1, (some .int), 0, false, 0, 1, 0)
def zM_m_run : zz_M := ("CinemaClockModel", prog_10_method_51_code, 3, (some .int), 0, false, 0, 1, 1)
def zM_m_of : zz_M := ("CinemaClockModel", prog_10_method_52_code, 3, (some .int), 0, false, 0, 1, 2)
def zM_m_next : zz_M := ("CinemaClockModel", prog_10_method_53_code, 5, (some .int), 0, false, 0, 1, 5)
def zM_m_waiting : zz_M := ("CinemaClockModel", prog_10_method_54_code, 3, (some .int), 0, false, 0, 1, 1)
def zM_m_book : zz_M := ("CinemaClockModel", prog_10_method_55_code, 3, (some .int), 0, false, 0, 1, 1)
def zM_m_count : zz_M := ("CinemaClockModel", prog_10_method_56_code, 2, (some .int), 0, false, 0, 1, 1)
def zM_m_cell : zz_M := ("CinemaClockModel", prog_10_method_57_code, 2, (some .int), 0, false, 0, 1, 1)
def zM_m_day : zz_M := ("CinemaClockModel", prog_10_method_58_code, 3, (some .int), 0, false, 0, 1, 2)
def zM_m_idle : zz_M := ("CinemaClockModel", prog_10_method_59_code, 2, (some .int), 0, false, 0, 1, 1)
def zM_m_load : zz_M := ("CinemaClockModel", prog_10_method_60_code, 2, (some .int), 0, false, 0, 1, 1)
def zM_m_quiet : zz_M := ("CinemaClockModel", prog_10_method_61_code, 2, (some .int), 0, false, 0, 1, 5)
def zM_j_max : zz_M := ("java/lang/Math", prog_11_method_65_code, 2, (some .int), 0, false, 0, 0, 0)
def zM_j_min : zz_M := ("java/lang/Math", prog_11_method_69_code, 2, (some .int), 0, false, 0, 0, 0)
def zM_j_floorMod : zz_M := ("java/lang/Math", prog_11_method_50_code, 3, (some .int), 0, false, 0, 0, 0)
def zM_l_law : zz_M := ("CinemaClockLaw", code, 4, (some .boolean), 0, true, 0, 2, 8)
def zz_infs : List zz_I := [(yX7_init, zM_x_new, [1003], (86, 72, 85, 0)),
  (yX7_workers, zM_x_workers, [5, 0], (227, 72, 225, 226)),
  (yX7_group, zM_x_group, [5, 0], (234, 72, 232, 233)),
  (yX7_task, zM_x_task, [5, 0, 0, 0], (238, 72, 236, 237)),
  (yX7_set, zM_x_set, [5, 0, 0, 0], (384, 72, 382, 383)),
  (yX7_leastTold, zM_x_leastTold, [0], (391, 72, 390, 0)),
  (yX7_mostTold, zM_x_mostTold, [5, 0], (395, 72, 394, 1)),
  (yX7_calendar, zM_x_calendar, [5, 0, 0, 0, 0], (399, 72, 397, 398)),
  (yX7_body, zM_x_body, [5, 0, 0, 0, 0], (416, 72, 414, 415)),
  (yX7_after, zM_x_after, [5, 0, 0, 0], (420, 72, 418, 419)),
  (yX7_comesAfter, zM_x_comesAfter, [5, 0, 0], (424, 72, 423, 2)),
  (yX7_link, zM_x_link, [5, 0, 0], (428, 72, 427, 3)),
  (yX7_plan, zM_x_plan, [5, 0, 0, 0], (436, 72, 434, 435)),
  (yX7_clearPlan, zM_x_clearPlan, [5], (451, 72, 449, 450)),
  (yX7_clock, zM_x_clock, [5, 0], (455, 72, 453, 454)),
  (yX7_treatMinute, zM_x_treatMinute, [5], (462, 72, 461, 5)),
  (yX7_endRuns, zM_x_endRuns, [5], (466, 72, 465, 6)),
  (yX7_firstEnding, zM_x_firstEnding, [5], (470, 72, 469, 7)),
  (yX7_endRun, zM_x_endRun, [5, 12], (474, 72, 473, 8)),
  (yX7_act, zM_x_act, [5, 12], (482, 72, 481, 9)),
  (yX7_followEnd, zM_x_followEnd, [5, 9, 0], (506, 72, 505, 12)),
  (yX7_restAfter, zM_x_restAfter, [0], (509, 72, 508, 0)),
  (yX7_layDown, zM_x_layDown, [5, 12, 0], (502, 72, 501, 11)),
  (yX7_tellAfters, zM_x_tellAfters, [5, 9, 0], (514, 72, 513, 13)),
  (yX7_bringDues, zM_x_bringDues, [5], (545, 72, 544, 17)),
  (yX7_isDueByKind, zM_x_isDueByKind, [5, 9, 0], (549, 72, 548, 18)),
  (yX7_comeDue, zM_x_comeDue, [5, 9], (525, 72, 524, 14)),
  (yX7_fateOfDue, zM_x_fateOfDue, [5, 9], (529, 72, 528, 15)),
  (yX7_pauseAgain, zM_x_pauseAgain, [5, 9], (541, 72, 540, 16)),
  (yX7_missDues, zM_x_missDues, [5], (586, 72, 585, 22)),
  (yX7_isMissed, zM_x_isMissed, [5, 9, 0], (590, 72, 589, 23)),
  (yX7_missDue, zM_x_missDue, [5, 9, 0], (594, 72, 593, 24)),
  (yX7_beginRuns, zM_x_beginRuns, [5], (603, 72, 602, 25)),
  (yX7_freeWorker, zM_x_freeWorker, [5], (607, 72, 606, 26)),
  (yX7_firstToBegin, zM_x_firstToBegin, [5], (611, 72, 610, 27)),
  (yX7_mayBegin, zM_x_mayBegin, [5, 9], (615, 72, 614, 28)),
  (yX7_workIn, zM_x_workIn, [5, 0], (619, 72, 618, 29)),
  (yX7_beginRun, zM_x_beginRun, [5, 0, 0], (627, 72, 626, 30)),
  (yX7_jump, zM_x_jump, [5, 0], (681, 72, 679, 680)),
  (yX7_jumpOver, zM_x_jumpOver, [5, 0, 0], (685, 72, 684, 31)),
  (yX7_missJumped, zM_x_missJumped, [5, 9, 0, 0], (689, 72, 688, 32)),
  (yX7_cancel, zM_x_cancel, [5, 0, 0], (699, 72, 697, 698)),
  (yX7_leave, zM_x_leave, [5, 9, 0], (490, 72, 489, 10)),
  (yX7_interruptRuns, zM_x_interruptRuns, [5, 9], (703, 72, 702, 33)),
  (yX7_firstAtWork, zM_x_firstAtWork, [5, 9], (707, 72, 706, 34)),
  (yX7_stop, zM_x_stop, [5, 0], (711, 72, 709, 710)),
  (yX7_dropDues, zM_x_dropDues, [5], (715, 72, 714, 35)),
  (yX7_go, zM_x_go, [5], (723, 72, 721, 722)),
  (yX7_run, zM_x_run, [5, 0, 0], (727, 72, 725, 726)),
  (yX7_of, zM_x_of, [5, 0, 0], (731, 72, 729, 730)),
  (yX7_stateOf, zM_x_stateOf, [5, 9], (735, 72, 734, 36)),
  (yX7_next, zM_x_next, [5, 0, 0], (739, 72, 737, 738)),
  (yX7_dueMinute, zM_x_dueMinute, [5, 9, 0], (743, 72, 742, 37)),
  (yX7_calendarMinute, zM_x_calendarMinute, [5, 10, 0], (752, 72, 751, 38)),
  (yX7_waiting, zM_x_waiting, [5, 0, 0], (756, 72, 754, 755)),
  (yX7_book, zM_x_book, [5, 0, 0], (760, 72, 758, 759)),
  (yX7_count, zM_x_count, [5, 0], (764, 72, 762, 763)),
  (yX7_cell, zM_x_cell, [5, 0], (768, 72, 766, 767)),
  (yX7_day, zM_x_day, [5, 0, 0], (772, 72, 770, 771)),
  (yX7_idle, zM_x_idle, [5, 0], (779, 72, 777, 778)),
  (yX7_load, zM_x_load, [5, 0], (783, 72, 781, 782)),
  (yX7_quiet, zM_x_quiet, [5], (787, 72, 785, 786)),
  (yX7_isWithin, zM_x_isWithin, [0, 0, 0], (230, 72, 229, 0)),
  (yX7_taskAt, zM_x_taskAt, [5, 0], (388, 72, 387, 0)),
  (yX7_isActive, zM_x_isActive, [9], (517, 72, 516, 0)),
  (yX2_init, zM_xD_new, [1004], (98, 73, 97, 0)),
  (yX2_add, zM_xD_add, [6, 9, 0], (533, 73, 531, 532)),
  (yX2_remove, zM_xD_remove, [6, 0], (598, 73, 596, 597)),
  (yX2_removeAll, zM_xD_removeAll, [6, 9], (494, 73, 492, 493)),
  (yX2_clear, zM_xD_clear, [6], (719, 73, 717, 718)),
  (yX2_isAhead, zM_xD_isAhead, [6, 0, 0], (623, 73, 621, 622)),
  (yX0_init, zM_xB_new, [1005], (124, 74, 123, 0)),
  (yX0_add, zM_xB_add, [7, 0, 0, 0], (537, 74, 535, 536)),
  (yX4_init, zM_xP_new, [1006], (147, 75, 146, 0)),
  (yX4_placeOf, zM_xP_placeOf, [8, 0, 0], (444, 75, 443, 4)),
  (yX4_put, zM_xP_put, [8, 0, 0, 0], (440, 75, 438, 439)),
  (yX4_kindOf, zM_xP_kindOf, [8, 0, 0], (478, 75, 476, 477)),
  (yX6_init, zM_xT_new, [1007, 0, 0, 0, 0], (244, 77, 243, 0)),
  (yX6_isActive, zM_xT_isActive, [9], (486, 77, 484, 485)),
  (yX6_fireFor, zM_xT_fireFor, [9, 0], (498, 77, 496, 497)),
  (yX6_isFiredFor, zM_xT_isFiredFor, [9, 0], (582, 77, 580, 581)),
  (yX6_step, zM_xT_step, [9], (553, 77, 551, 552)),
  (yX6_firstOfRate, zM_xT_firstOfRate, [9, 0], (747, 77, 745, 746)),
  (yX1_init, zM_xC_new, [1008], (250, 78, 249, 0)),
  (yX1_isForm, zM_xC_isForm, [0, 0, 0], (402, 78, 401, 0)),
  (yX1_add, zM_xC_add, [10, 0, 0, 0], (409, 78, 407, 408)),
  (yX1_ring, zM_xC_ring, [0, 0, 0], (412, 78, 411, 0)),
  (yX1_fits, zM_xC_fits, [10, 0], (561, 78, 559, 560)),
  (yX1_minuteFits, zM_xC_minuteFits, [10, 0], (565, 78, 564, 19)),
  (yX1_hourFits, zM_xC_hourFits, [10, 0], (569, 78, 568, 20)),
  (yX1_dayFits, zM_xC_dayFits, [10, 0], (573, 78, 572, 21)),
  (yX1_firstFit, zM_xC_firstFit, [10, 0, 0], (693, 78, 691, 692)),
  (yX1_monthOf, zM_xC_monthOf, [0], (576, 78, 575, 0)),
  (yX3_init, zM_xN_new, [1009], (283, 79, 282, 0)),
  (yX3_add, zM_xN_add, [11, 0, 0], (432, 79, 430, 431)),
  (yX3_fit, zM_xN_fit, [11, 0, 0], (521, 79, 519, 520)),
  (yX5_init, zM_xR_new, [1010, 0, 9, 0, 0, 0], (631, 81, 630, 0)),
  (yX8_init, zM_m_new, [1040], (792, 76, 791, 0)),
  (yX8_in, zM_m_in, [0, 0, 0], (1023, 76, 1022, 0)),
  (yX8_isTask, zM_m_isTask, [42, 0], (1020, 76, 1019, 43)),
  (yX8_isActive, zM_m_isActive, [42, 0], (1027, 76, 1026, 44)),
  (yX8_atWork, zM_m_atWork, [42], (1102, 76, 1101, 62)),
  (yX8_isRunning, zM_m_isRunning, [42, 0], (1063, 76, 1062, 53)),
  (yX8_loadOf, zM_m_loadOf, [42, 0], (1110, 76, 1109, 64)),
  (yX8_duesOf, zM_m_duesOf, [42, 0], (1094, 76, 1093, 60)),
  (yX8_monthLength, zM_m_monthLength, [0], (1082, 76, 1081, 0)),
  (yX8_look, zM_m_look, [42, 0], (1079, 76, 1078, 57)),
  (yX8_fitsDay, zM_m_fitsDay, [42, 0], (1086, 76, 1085, 58)),
  (yX8_fitsMinute, zM_m_fitsMinute, [42, 0, 0], (1075, 76, 1074, 56)),
  (yX8_fits, zM_m_fits, [42, 0, 0], (1071, 76, 1070, 55)),
  (yX8_hasMinute, zM_m_hasMinute, [42, 0], (1202, 76, 1201, 70)),
  (yX8_dueFrom, zM_m_dueFrom, [42, 0, 0], (1194, 76, 1193, 68)),
  (yX8_calendarFrom, zM_m_calendarFrom, [42, 0, 0], (1198, 76, 1197, 69)),
  (yX8_books, zM_m_books, [42, 0, 0, 0], (1055, 76, 1054, 51)),
  (yX8_dueGone, zM_m_dueGone, [42, 0, 0], (1059, 76, 1058, 52)),
  (yX8_comes, zM_m_comes, [42, 0, 0], (1051, 76, 1050, 50)),
  (yX8_takeDue, zM_m_takeDue, [42, 0], (1035, 76, 1034, 46)),
  (yX8_dropDues, zM_m_dropDues, [42, 0], (1031, 76, 1030, 45)),
  (yX8_notes, zM_m_notes, [42, 0, 0, 0], (1047, 76, 1046, 49)),
  (yX8_frees, zM_m_frees, [42, 0, 0, 0], (1039, 76, 1038, 47)),
  (yX8_interrupts, zM_m_interrupts, [42, 0, 0], (1170, 76, 1169, 67)),
  (yX8_planned, zM_m_planned, [42, 0, 0], (1012, 76, 1011, 41)),
  (yX8_does, zM_m_does, [42, 0, 0, 0], (1016, 76, 1015, 42)),
  (yX8_ends, zM_m_ends, [42, 0, 0], (1008, 76, 1007, 40)),
  (yX8_failed, zM_m_failed, [42, 0, 0], (1043, 76, 1042, 48)),
  (yX8_treat, zM_m_treat, [42, 0], (1004, 76, 1003, 39)),
  (yX8_isDue, zM_m_isDue, [42, 0, 0], (1067, 76, 1066, 54)),
  (yX8_misses, zM_m_misses, [42, 0], (1090, 76, 1089, 59)),
  (yX8_canBegin, zM_m_canBegin, [42, 0], (1106, 76, 1105, 63)),
  (yX8_begins, zM_m_begins, [42, 0], (1098, 76, 1097, 61)),
  (yX8_isAhead, zM_m_isAhead, [42, 0, 0], (1114, 76, 1113, 65)),
  (yX8_clock, zM_m_clock, [42, 0], (999, 76, 997, 998)),
  (yX8_workers, zM_m_workers, [42, 0], (1118, 76, 1116, 1117)),
  (yX8_group, zM_m_group, [42, 0], (1122, 76, 1120, 1121)),
  (yX8_task, zM_m_task, [42, 0, 0, 0], (1126, 76, 1124, 1125)),
  (yX8_set, zM_m_set, [42, 0, 0, 0], (1131, 76, 1129, 1130)),
  (yX8_isForm, zM_m_isForm, [0, 0, 0], (1138, 76, 1137, 0)),
  (yX8_calendar, zM_m_calendar, [42, 0, 0, 0, 0], (1135, 76, 1133, 1134)),
  (yX8_body, zM_m_body, [42, 0, 0, 0, 0], (1142, 76, 1140, 1141)),
  (yX8_leads, zM_m_leads, [42, 0, 0], (1150, 76, 1149, 66)),
  (yX8_after, zM_m_after, [42, 0, 0, 0], (1146, 76, 1144, 1145)),
  (yX8_plan, zM_m_plan, [42, 0, 0, 0], (1154, 76, 1152, 1153)),
  (yX8_clearPlan, zM_m_clearPlan, [42], (1158, 76, 1156, 1157)),
  (yX8_jump, zM_m_jump, [42, 0], (1162, 76, 1160, 1161)),
  (yX8_cancel, zM_m_cancel, [42, 0, 0], (1166, 76, 1164, 1165)),
  (yX8_stop, zM_m_stop, [42, 0], (1174, 76, 1172, 1173)),
  (yX8_go, zM_m_go, [42], (1178, 76, 1176, 1177)),
  (yX8_run, zM_m_run, [42, 0, 0], (1182, 76, 1180, 1181)),
  (yX8_of, zM_m_of, [42, 0, 0], (1186, 76, 1184, 1185)),
  (yX8_next, zM_m_next, [42, 0, 0], (1190, 76, 1188, 1189)),
  (yX8_waiting, zM_m_waiting, [42, 0, 0], (1206, 76, 1204, 1205)),
  (yX8_book, zM_m_book, [42, 0, 0], (1210, 76, 1208, 1209)),
  (yX8_count, zM_m_count, [42, 0], (1214, 76, 1212, 1213)),
  (yX8_cell, zM_m_cell, [42, 0], (1218, 76, 1216, 1217)),
  (yX8_day, zM_m_day, [42, 0, 0], (1222, 76, 1220, 1221)),
  (yX8_idle, zM_m_idle, [42, 0], (1227, 76, 1225, 1226)),
  (yX8_load, zM_m_load, [42, 0], (1231, 76, 1229, 1230)),
  (yX8_quiet, zM_m_quiet, [42], (1235, 76, 1233, 1234)),
  (jy_max, zM_j_max, [0, 0], (447, 80, 446, 0)),
  (jy_min, zM_j_min, [0, 0], (458, 80, 457, 0)),
  (jy_floorMod, zM_j_floorMod, [0, 0], (557, 80, 556, 0))]
def zz_inf (i : Nat) : Option zz_I := zz_infs[i - 10]?
theorem zi_x_new : zz_inf 10 = some (yX7_init, zM_x_new, [1003], (86, 72, 85, 0)) := rfl
theorem zi_x_workers : zz_inf 11 = some (yX7_workers, zM_x_workers, [5, 0], (227, 72, 225, 226)) := rfl
theorem zi_x_group : zz_inf 12 = some (yX7_group, zM_x_group, [5, 0], (234, 72, 232, 233)) := rfl
theorem zi_x_task : zz_inf 13 = some (yX7_task, zM_x_task, [5, 0, 0, 0], (238, 72, 236, 237)) := rfl
theorem zi_x_set : zz_inf 14 = some (yX7_set, zM_x_set, [5, 0, 0, 0], (384, 72, 382, 383)) := rfl
theorem zi_x_leastTold : zz_inf 15 = some (yX7_leastTold, zM_x_leastTold, [0], (391, 72, 390, 0)) := rfl
theorem zi_x_mostTold : zz_inf 16 = some (yX7_mostTold, zM_x_mostTold, [5, 0], (395, 72, 394, 1)) := rfl
theorem zi_x_calendar : zz_inf 17 = some (yX7_calendar, zM_x_calendar, [5, 0, 0, 0, 0], (399, 72, 397, 398)) := rfl
theorem zi_x_body : zz_inf 18 = some (yX7_body, zM_x_body, [5, 0, 0, 0, 0], (416, 72, 414, 415)) := rfl
theorem zi_x_after : zz_inf 19 = some (yX7_after, zM_x_after, [5, 0, 0, 0], (420, 72, 418, 419)) := rfl
theorem zi_x_comesAfter : zz_inf 20 = some (yX7_comesAfter, zM_x_comesAfter, [5, 0, 0], (424, 72, 423, 2)) := rfl
theorem zi_x_link : zz_inf 21 = some (yX7_link, zM_x_link, [5, 0, 0], (428, 72, 427, 3)) := rfl
theorem zi_x_plan : zz_inf 22 = some (yX7_plan, zM_x_plan, [5, 0, 0, 0], (436, 72, 434, 435)) := rfl
theorem zi_x_clearPlan : zz_inf 23 = some (yX7_clearPlan, zM_x_clearPlan, [5], (451, 72, 449, 450)) := rfl
theorem zi_x_clock : zz_inf 24 = some (yX7_clock, zM_x_clock, [5, 0], (455, 72, 453, 454)) := rfl
theorem zi_x_treatMinute : zz_inf 25 = some (yX7_treatMinute, zM_x_treatMinute, [5], (462, 72, 461, 5)) := rfl
theorem zi_x_endRuns : zz_inf 26 = some (yX7_endRuns, zM_x_endRuns, [5], (466, 72, 465, 6)) := rfl
theorem zi_x_firstEnding : zz_inf 27 = some (yX7_firstEnding, zM_x_firstEnding, [5], (470, 72, 469, 7)) := rfl
theorem zi_x_endRun : zz_inf 28 = some (yX7_endRun, zM_x_endRun, [5, 12], (474, 72, 473, 8)) := rfl
theorem zi_x_act : zz_inf 29 = some (yX7_act, zM_x_act, [5, 12], (482, 72, 481, 9)) := rfl
theorem zi_x_followEnd : zz_inf 30 = some (yX7_followEnd, zM_x_followEnd, [5, 9, 0], (506, 72, 505, 12)) := rfl
theorem zi_x_restAfter : zz_inf 31 = some (yX7_restAfter, zM_x_restAfter, [0], (509, 72, 508, 0)) := rfl
theorem zi_x_layDown : zz_inf 32 = some (yX7_layDown, zM_x_layDown, [5, 12, 0], (502, 72, 501, 11)) := rfl
theorem zi_x_tellAfters : zz_inf 33 = some (yX7_tellAfters, zM_x_tellAfters, [5, 9, 0], (514, 72, 513, 13)) := rfl
theorem zi_x_bringDues : zz_inf 34 = some (yX7_bringDues, zM_x_bringDues, [5], (545, 72, 544, 17)) := rfl
theorem zi_x_isDueByKind : zz_inf 35 = some (yX7_isDueByKind, zM_x_isDueByKind, [5, 9, 0], (549, 72, 548, 18)) := rfl
theorem zi_x_comeDue : zz_inf 36 = some (yX7_comeDue, zM_x_comeDue, [5, 9], (525, 72, 524, 14)) := rfl
theorem zi_x_fateOfDue : zz_inf 37 = some (yX7_fateOfDue, zM_x_fateOfDue, [5, 9], (529, 72, 528, 15)) := rfl
theorem zi_x_pauseAgain : zz_inf 38 = some (yX7_pauseAgain, zM_x_pauseAgain, [5, 9], (541, 72, 540, 16)) := rfl
theorem zi_x_missDues : zz_inf 39 = some (yX7_missDues, zM_x_missDues, [5], (586, 72, 585, 22)) := rfl
theorem zi_x_isMissed : zz_inf 40 = some (yX7_isMissed, zM_x_isMissed, [5, 9, 0], (590, 72, 589, 23)) := rfl
theorem zi_x_missDue : zz_inf 41 = some (yX7_missDue, zM_x_missDue, [5, 9, 0], (594, 72, 593, 24)) := rfl
theorem zi_x_beginRuns : zz_inf 42 = some (yX7_beginRuns, zM_x_beginRuns, [5], (603, 72, 602, 25)) := rfl
theorem zi_x_freeWorker : zz_inf 43 = some (yX7_freeWorker, zM_x_freeWorker, [5], (607, 72, 606, 26)) := rfl
theorem zi_x_firstToBegin : zz_inf 44 = some (yX7_firstToBegin, zM_x_firstToBegin, [5], (611, 72, 610, 27)) := rfl
theorem zi_x_mayBegin : zz_inf 45 = some (yX7_mayBegin, zM_x_mayBegin, [5, 9], (615, 72, 614, 28)) := rfl
theorem zi_x_workIn : zz_inf 46 = some (yX7_workIn, zM_x_workIn, [5, 0], (619, 72, 618, 29)) := rfl
theorem zi_x_beginRun : zz_inf 47 = some (yX7_beginRun, zM_x_beginRun, [5, 0, 0], (627, 72, 626, 30)) := rfl
theorem zi_x_jump : zz_inf 48 = some (yX7_jump, zM_x_jump, [5, 0], (681, 72, 679, 680)) := rfl
theorem zi_x_jumpOver : zz_inf 49 = some (yX7_jumpOver, zM_x_jumpOver, [5, 0, 0], (685, 72, 684, 31)) := rfl
theorem zi_x_missJumped : zz_inf 50 = some (yX7_missJumped, zM_x_missJumped, [5, 9, 0, 0], (689, 72, 688, 32)) := rfl
theorem zi_x_cancel : zz_inf 51 = some (yX7_cancel, zM_x_cancel, [5, 0, 0], (699, 72, 697, 698)) := rfl
theorem zi_x_leave : zz_inf 52 = some (yX7_leave, zM_x_leave, [5, 9, 0], (490, 72, 489, 10)) := rfl
theorem zi_x_interruptRuns : zz_inf 53 = some (yX7_interruptRuns, zM_x_interruptRuns, [5, 9], (703, 72, 702, 33)) := rfl
theorem zi_x_firstAtWork : zz_inf 54 = some (yX7_firstAtWork, zM_x_firstAtWork, [5, 9], (707, 72, 706, 34)) := rfl
theorem zi_x_stop : zz_inf 55 = some (yX7_stop, zM_x_stop, [5, 0], (711, 72, 709, 710)) := rfl
theorem zi_x_dropDues : zz_inf 56 = some (yX7_dropDues, zM_x_dropDues, [5], (715, 72, 714, 35)) := rfl
theorem zi_x_go : zz_inf 57 = some (yX7_go, zM_x_go, [5], (723, 72, 721, 722)) := rfl
theorem zi_x_run : zz_inf 58 = some (yX7_run, zM_x_run, [5, 0, 0], (727, 72, 725, 726)) := rfl
theorem zi_x_of : zz_inf 59 = some (yX7_of, zM_x_of, [5, 0, 0], (731, 72, 729, 730)) := rfl
theorem zi_x_stateOf : zz_inf 60 = some (yX7_stateOf, zM_x_stateOf, [5, 9], (735, 72, 734, 36)) := rfl
theorem zi_x_next : zz_inf 61 = some (yX7_next, zM_x_next, [5, 0, 0], (739, 72, 737, 738)) := rfl
theorem zi_x_dueMinute : zz_inf 62 = some (yX7_dueMinute, zM_x_dueMinute, [5, 9, 0], (743, 72, 742, 37)) := rfl
theorem zi_x_calendarMinute : zz_inf 63 = some (yX7_calendarMinute, zM_x_calendarMinute, [5, 10, 0], (752, 72, 751, 38)) := rfl
theorem zi_x_waiting : zz_inf 64 = some (yX7_waiting, zM_x_waiting, [5, 0, 0], (756, 72, 754, 755)) := rfl
theorem zi_x_book : zz_inf 65 = some (yX7_book, zM_x_book, [5, 0, 0], (760, 72, 758, 759)) := rfl
theorem zi_x_count : zz_inf 66 = some (yX7_count, zM_x_count, [5, 0], (764, 72, 762, 763)) := rfl
theorem zi_x_cell : zz_inf 67 = some (yX7_cell, zM_x_cell, [5, 0], (768, 72, 766, 767)) := rfl
theorem zi_x_day : zz_inf 68 = some (yX7_day, zM_x_day, [5, 0, 0], (772, 72, 770, 771)) := rfl
theorem zi_x_idle : zz_inf 69 = some (yX7_idle, zM_x_idle, [5, 0], (779, 72, 777, 778)) := rfl
theorem zi_x_load : zz_inf 70 = some (yX7_load, zM_x_load, [5, 0], (783, 72, 781, 782)) := rfl
theorem zi_x_quiet : zz_inf 71 = some (yX7_quiet, zM_x_quiet, [5], (787, 72, 785, 786)) := rfl
theorem zi_x_isWithin : zz_inf 72 = some (yX7_isWithin, zM_x_isWithin, [0, 0, 0], (230, 72, 229, 0)) := rfl
theorem zi_x_taskAt : zz_inf 73 = some (yX7_taskAt, zM_x_taskAt, [5, 0], (388, 72, 387, 0)) := rfl
theorem zi_x_isActive : zz_inf 74 = some (yX7_isActive, zM_x_isActive, [9], (517, 72, 516, 0)) := rfl
theorem zi_xD_new : zz_inf 75 = some (yX2_init, zM_xD_new, [1004], (98, 73, 97, 0)) := rfl
theorem zi_xD_add : zz_inf 76 = some (yX2_add, zM_xD_add, [6, 9, 0], (533, 73, 531, 532)) := rfl
theorem zi_xD_remove : zz_inf 77 = some (yX2_remove, zM_xD_remove, [6, 0], (598, 73, 596, 597)) := rfl
theorem zi_xD_removeAll : zz_inf 78 = some (yX2_removeAll, zM_xD_removeAll, [6, 9], (494, 73, 492, 493)) := rfl
theorem zi_xD_clear : zz_inf 79 = some (yX2_clear, zM_xD_clear, [6], (719, 73, 717, 718)) := rfl
theorem zi_xD_isAhead : zz_inf 80 = some (yX2_isAhead, zM_xD_isAhead, [6, 0, 0], (623, 73, 621, 622)) := rfl
theorem zi_xB_new : zz_inf 81 = some (yX0_init, zM_xB_new, [1005], (124, 74, 123, 0)) := rfl
theorem zi_xB_add : zz_inf 82 = some (yX0_add, zM_xB_add, [7, 0, 0, 0], (537, 74, 535, 536)) := rfl
theorem zi_xP_new : zz_inf 83 = some (yX4_init, zM_xP_new, [1006], (147, 75, 146, 0)) := rfl
theorem zi_xP_placeOf : zz_inf 84 = some (yX4_placeOf, zM_xP_placeOf, [8, 0, 0], (444, 75, 443, 4)) := rfl
theorem zi_xP_put : zz_inf 85 = some (yX4_put, zM_xP_put, [8, 0, 0, 0], (440, 75, 438, 439)) := rfl
theorem zi_xP_kindOf : zz_inf 86 = some (yX4_kindOf, zM_xP_kindOf, [8, 0, 0], (478, 75, 476, 477)) := rfl
theorem zi_xT_new : zz_inf 87 = some (yX6_init, zM_xT_new, [1007, 0, 0, 0, 0], (244, 77, 243, 0)) := rfl
theorem zi_xT_isActive : zz_inf 88 = some (yX6_isActive, zM_xT_isActive, [9], (486, 77, 484, 485)) := rfl
theorem zi_xT_fireFor : zz_inf 89 = some (yX6_fireFor, zM_xT_fireFor, [9, 0], (498, 77, 496, 497)) := rfl
theorem zi_xT_isFiredFor : zz_inf 90 = some (yX6_isFiredFor, zM_xT_isFiredFor, [9, 0], (582, 77, 580, 581)) := rfl
theorem zi_xT_step : zz_inf 91 = some (yX6_step, zM_xT_step, [9], (553, 77, 551, 552)) := rfl
theorem zi_xT_firstOfRate : zz_inf 92 = some (yX6_firstOfRate, zM_xT_firstOfRate, [9, 0], (747, 77, 745, 746)) := rfl
theorem zi_xC_new : zz_inf 93 = some (yX1_init, zM_xC_new, [1008], (250, 78, 249, 0)) := rfl
theorem zi_xC_isForm : zz_inf 94 = some (yX1_isForm, zM_xC_isForm, [0, 0, 0], (402, 78, 401, 0)) := rfl
theorem zi_xC_add : zz_inf 95 = some (yX1_add, zM_xC_add, [10, 0, 0, 0], (409, 78, 407, 408)) := rfl
theorem zi_xC_ring : zz_inf 96 = some (yX1_ring, zM_xC_ring, [0, 0, 0], (412, 78, 411, 0)) := rfl
theorem zi_xC_fits : zz_inf 97 = some (yX1_fits, zM_xC_fits, [10, 0], (561, 78, 559, 560)) := rfl
theorem zi_xC_minuteFits : zz_inf 98 = some (yX1_minuteFits, zM_xC_minuteFits, [10, 0], (565, 78, 564, 19)) := rfl
theorem zi_xC_hourFits : zz_inf 99 = some (yX1_hourFits, zM_xC_hourFits, [10, 0], (569, 78, 568, 20)) := rfl
theorem zi_xC_dayFits : zz_inf 100 = some (yX1_dayFits, zM_xC_dayFits, [10, 0], (573, 78, 572, 21)) := rfl
theorem zi_xC_firstFit : zz_inf 101 = some (yX1_firstFit, zM_xC_firstFit, [10, 0, 0], (693, 78, 691, 692)) := rfl
theorem zi_xC_monthOf : zz_inf 102 = some (yX1_monthOf, zM_xC_monthOf, [0], (576, 78, 575, 0)) := rfl
theorem zi_xN_new : zz_inf 103 = some (yX3_init, zM_xN_new, [1009], (283, 79, 282, 0)) := rfl
theorem zi_xN_add : zz_inf 104 = some (yX3_add, zM_xN_add, [11, 0, 0], (432, 79, 430, 431)) := rfl
theorem zi_xN_fit : zz_inf 105 = some (yX3_fit, zM_xN_fit, [11, 0, 0], (521, 79, 519, 520)) := rfl
theorem zi_xR_new : zz_inf 106 = some (yX5_init, zM_xR_new, [1010, 0, 9, 0, 0, 0], (631, 81, 630, 0)) := rfl
theorem zi_m_new : zz_inf 107 = some (yX8_init, zM_m_new, [1040], (792, 76, 791, 0)) := rfl
theorem zi_m_in : zz_inf 108 = some (yX8_in, zM_m_in, [0, 0, 0], (1023, 76, 1022, 0)) := rfl
theorem zi_m_isTask : zz_inf 109 = some (yX8_isTask, zM_m_isTask, [42, 0], (1020, 76, 1019, 43)) := rfl
theorem zi_m_isActive : zz_inf 110 = some (yX8_isActive, zM_m_isActive, [42, 0], (1027, 76, 1026, 44)) := rfl
theorem zi_m_atWork : zz_inf 111 = some (yX8_atWork, zM_m_atWork, [42], (1102, 76, 1101, 62)) := rfl
theorem zi_m_isRunning : zz_inf 112 = some (yX8_isRunning, zM_m_isRunning, [42, 0], (1063, 76, 1062, 53)) := rfl
theorem zi_m_loadOf : zz_inf 113 = some (yX8_loadOf, zM_m_loadOf, [42, 0], (1110, 76, 1109, 64)) := rfl
theorem zi_m_duesOf : zz_inf 114 = some (yX8_duesOf, zM_m_duesOf, [42, 0], (1094, 76, 1093, 60)) := rfl
theorem zi_m_monthLength : zz_inf 115 = some (yX8_monthLength, zM_m_monthLength, [0], (1082, 76, 1081, 0)) := rfl
theorem zi_m_look : zz_inf 116 = some (yX8_look, zM_m_look, [42, 0], (1079, 76, 1078, 57)) := rfl
theorem zi_m_fitsDay : zz_inf 117 = some (yX8_fitsDay, zM_m_fitsDay, [42, 0], (1086, 76, 1085, 58)) := rfl
theorem zi_m_fitsMinute : zz_inf 118 = some (yX8_fitsMinute, zM_m_fitsMinute, [42, 0, 0], (1075, 76, 1074, 56)) := rfl
theorem zi_m_fits : zz_inf 119 = some (yX8_fits, zM_m_fits, [42, 0, 0], (1071, 76, 1070, 55)) := rfl
theorem zi_m_hasMinute : zz_inf 120 = some (yX8_hasMinute, zM_m_hasMinute, [42, 0], (1202, 76, 1201, 70)) := rfl
theorem zi_m_dueFrom : zz_inf 121 = some (yX8_dueFrom, zM_m_dueFrom, [42, 0, 0], (1194, 76, 1193, 68)) := rfl
theorem zi_m_calendarFrom : zz_inf 122 = some (yX8_calendarFrom, zM_m_calendarFrom, [42, 0, 0], (1198, 76, 1197, 69)) := rfl
theorem zi_m_books : zz_inf 123 = some (yX8_books, zM_m_books, [42, 0, 0, 0], (1055, 76, 1054, 51)) := rfl
theorem zi_m_dueGone : zz_inf 124 = some (yX8_dueGone, zM_m_dueGone, [42, 0, 0], (1059, 76, 1058, 52)) := rfl
theorem zi_m_comes : zz_inf 125 = some (yX8_comes, zM_m_comes, [42, 0, 0], (1051, 76, 1050, 50)) := rfl
theorem zi_m_takeDue : zz_inf 126 = some (yX8_takeDue, zM_m_takeDue, [42, 0], (1035, 76, 1034, 46)) := rfl
theorem zi_m_dropDues : zz_inf 127 = some (yX8_dropDues, zM_m_dropDues, [42, 0], (1031, 76, 1030, 45)) := rfl
theorem zi_m_notes : zz_inf 128 = some (yX8_notes, zM_m_notes, [42, 0, 0, 0], (1047, 76, 1046, 49)) := rfl
theorem zi_m_frees : zz_inf 129 = some (yX8_frees, zM_m_frees, [42, 0, 0, 0], (1039, 76, 1038, 47)) := rfl
theorem zi_m_interrupts : zz_inf 130 = some (yX8_interrupts, zM_m_interrupts, [42, 0, 0], (1170, 76, 1169, 67)) := rfl
theorem zi_m_planned : zz_inf 131 = some (yX8_planned, zM_m_planned, [42, 0, 0], (1012, 76, 1011, 41)) := rfl
theorem zi_m_does : zz_inf 132 = some (yX8_does, zM_m_does, [42, 0, 0, 0], (1016, 76, 1015, 42)) := rfl
theorem zi_m_ends : zz_inf 133 = some (yX8_ends, zM_m_ends, [42, 0, 0], (1008, 76, 1007, 40)) := rfl
theorem zi_m_failed : zz_inf 134 = some (yX8_failed, zM_m_failed, [42, 0, 0], (1043, 76, 1042, 48)) := rfl
theorem zi_m_treat : zz_inf 135 = some (yX8_treat, zM_m_treat, [42, 0], (1004, 76, 1003, 39)) := rfl
theorem zi_m_isDue : zz_inf 136 = some (yX8_isDue, zM_m_isDue, [42, 0, 0], (1067, 76, 1066, 54)) := rfl
theorem zi_m_misses : zz_inf 137 = some (yX8_misses, zM_m_misses, [42, 0], (1090, 76, 1089, 59)) := rfl
theorem zi_m_canBegin : zz_inf 138 = some (yX8_canBegin, zM_m_canBegin, [42, 0], (1106, 76, 1105, 63)) := rfl
theorem zi_m_begins : zz_inf 139 = some (yX8_begins, zM_m_begins, [42, 0], (1098, 76, 1097, 61)) := rfl
theorem zi_m_isAhead : zz_inf 140 = some (yX8_isAhead, zM_m_isAhead, [42, 0, 0], (1114, 76, 1113, 65)) := rfl
theorem zi_m_clock : zz_inf 141 = some (yX8_clock, zM_m_clock, [42, 0], (999, 76, 997, 998)) := rfl
theorem zi_m_workers : zz_inf 142 = some (yX8_workers, zM_m_workers, [42, 0], (1118, 76, 1116, 1117)) := rfl
theorem zi_m_group : zz_inf 143 = some (yX8_group, zM_m_group, [42, 0], (1122, 76, 1120, 1121)) := rfl
theorem zi_m_task : zz_inf 144 = some (yX8_task, zM_m_task, [42, 0, 0, 0], (1126, 76, 1124, 1125)) := rfl
theorem zi_m_set : zz_inf 145 = some (yX8_set, zM_m_set, [42, 0, 0, 0], (1131, 76, 1129, 1130)) := rfl
theorem zi_m_isForm : zz_inf 146 = some (yX8_isForm, zM_m_isForm, [0, 0, 0], (1138, 76, 1137, 0)) := rfl
theorem zi_m_calendar : zz_inf 147 = some (yX8_calendar, zM_m_calendar, [42, 0, 0, 0, 0], (1135, 76, 1133, 1134)) := rfl
theorem zi_m_body : zz_inf 148 = some (yX8_body, zM_m_body, [42, 0, 0, 0, 0], (1142, 76, 1140, 1141)) := rfl
theorem zi_m_leads : zz_inf 149 = some (yX8_leads, zM_m_leads, [42, 0, 0], (1150, 76, 1149, 66)) := rfl
theorem zi_m_after : zz_inf 150 = some (yX8_after, zM_m_after, [42, 0, 0, 0], (1146, 76, 1144, 1145)) := rfl
theorem zi_m_plan : zz_inf 151 = some (yX8_plan, zM_m_plan, [42, 0, 0, 0], (1154, 76, 1152, 1153)) := rfl
theorem zi_m_clearPlan : zz_inf 152 = some (yX8_clearPlan, zM_m_clearPlan, [42], (1158, 76, 1156, 1157)) := rfl
theorem zi_m_jump : zz_inf 153 = some (yX8_jump, zM_m_jump, [42, 0], (1162, 76, 1160, 1161)) := rfl
theorem zi_m_cancel : zz_inf 154 = some (yX8_cancel, zM_m_cancel, [42, 0, 0], (1166, 76, 1164, 1165)) := rfl
theorem zi_m_stop : zz_inf 155 = some (yX8_stop, zM_m_stop, [42, 0], (1174, 76, 1172, 1173)) := rfl
theorem zi_m_go : zz_inf 156 = some (yX8_go, zM_m_go, [42], (1178, 76, 1176, 1177)) := rfl
theorem zi_m_run : zz_inf 157 = some (yX8_run, zM_m_run, [42, 0, 0], (1182, 76, 1180, 1181)) := rfl
theorem zi_m_of : zz_inf 158 = some (yX8_of, zM_m_of, [42, 0, 0], (1186, 76, 1184, 1185)) := rfl
theorem zi_m_next : zz_inf 159 = some (yX8_next, zM_m_next, [42, 0, 0], (1190, 76, 1188, 1189)) := rfl
theorem zi_m_waiting : zz_inf 160 = some (yX8_waiting, zM_m_waiting, [42, 0, 0], (1206, 76, 1204, 1205)) := rfl
theorem zi_m_book : zz_inf 161 = some (yX8_book, zM_m_book, [42, 0, 0], (1210, 76, 1208, 1209)) := rfl
theorem zi_m_count : zz_inf 162 = some (yX8_count, zM_m_count, [42, 0], (1214, 76, 1212, 1213)) := rfl
theorem zi_m_cell : zz_inf 163 = some (yX8_cell, zM_m_cell, [42, 0], (1218, 76, 1216, 1217)) := rfl
theorem zi_m_day : zz_inf 164 = some (yX8_day, zM_m_day, [42, 0, 0], (1222, 76, 1220, 1221)) := rfl
theorem zi_m_idle : zz_inf 165 = some (yX8_idle, zM_m_idle, [42, 0], (1227, 76, 1225, 1226)) := rfl
theorem zi_m_load : zz_inf 166 = some (yX8_load, zM_m_load, [42, 0], (1231, 76, 1229, 1230)) := rfl
theorem zi_m_quiet : zz_inf 167 = some (yX8_quiet, zM_m_quiet, [42], (1235, 76, 1233, 1234)) := rfl
theorem zi_j_max : zz_inf 168 = some (jy_max, zM_j_max, [0, 0], (447, 80, 446, 0)) := rfl
theorem zi_j_min : zz_inf 169 = some (jy_min, zM_j_min, [0, 0], (458, 80, 457, 0)) := rfl
theorem zi_j_floorMod : zz_inf 170 = some (jy_floorMod, zM_j_floorMod, [0, 0], (557, 80, 556, 0)) := rfl
theorem zy_x_new : zz_mk yX7_init zM_x_new [1003] = true := by decide +kernel
theorem zy_x_workers : zz_mk yX7_workers zM_x_workers [5, 0] = true := by decide +kernel
theorem zy_x_group : zz_mk yX7_group zM_x_group [5, 0] = true := by decide +kernel
theorem zy_x_task : zz_mk yX7_task zM_x_task [5, 0, 0, 0] = true := by decide +kernel
theorem zy_x_set : zz_mk yX7_set zM_x_set [5, 0, 0, 0] = true := by decide +kernel
theorem zy_x_leastTold : zz_mk yX7_leastTold zM_x_leastTold [0] = true := by decide +kernel
theorem zy_x_mostTold : zz_mk yX7_mostTold zM_x_mostTold [5, 0] = true := by decide +kernel
theorem zy_x_calendar : zz_mk yX7_calendar zM_x_calendar [5, 0, 0, 0, 0] = true := by decide +kernel
theorem zy_x_body : zz_mk yX7_body zM_x_body [5, 0, 0, 0, 0] = true := by decide +kernel
theorem zy_x_after : zz_mk yX7_after zM_x_after [5, 0, 0, 0] = true := by decide +kernel
theorem zy_x_comesAfter : zz_mk yX7_comesAfter zM_x_comesAfter [5, 0, 0] = true := by decide +kernel
theorem zy_x_link : zz_mk yX7_link zM_x_link [5, 0, 0] = true := by decide +kernel
theorem zy_x_plan : zz_mk yX7_plan zM_x_plan [5, 0, 0, 0] = true := by decide +kernel
theorem zy_x_clearPlan : zz_mk yX7_clearPlan zM_x_clearPlan [5] = true := by decide +kernel
theorem zy_x_clock : zz_mk yX7_clock zM_x_clock [5, 0] = true := by decide +kernel
theorem zy_x_treatMinute : zz_mk yX7_treatMinute zM_x_treatMinute [5] = true := by decide +kernel
theorem zy_x_endRuns : zz_mk yX7_endRuns zM_x_endRuns [5] = true := by decide +kernel
theorem zy_x_firstEnding : zz_mk yX7_firstEnding zM_x_firstEnding [5] = true := by decide +kernel
theorem zy_x_endRun : zz_mk yX7_endRun zM_x_endRun [5, 12] = true := by decide +kernel
theorem zy_x_act : zz_mk yX7_act zM_x_act [5, 12] = true := by decide +kernel
theorem zy_x_followEnd : zz_mk yX7_followEnd zM_x_followEnd [5, 9, 0] = true := by decide +kernel
theorem zy_x_restAfter : zz_mk yX7_restAfter zM_x_restAfter [0] = true := by decide +kernel
theorem zy_x_layDown : zz_mk yX7_layDown zM_x_layDown [5, 12, 0] = true := by decide +kernel
theorem zy_x_tellAfters : zz_mk yX7_tellAfters zM_x_tellAfters [5, 9, 0] = true := by decide +kernel
theorem zy_x_bringDues : zz_mk yX7_bringDues zM_x_bringDues [5] = true := by decide +kernel
theorem zy_x_isDueByKind : zz_mk yX7_isDueByKind zM_x_isDueByKind [5, 9, 0] = true := by decide +kernel
theorem zy_x_comeDue : zz_mk yX7_comeDue zM_x_comeDue [5, 9] = true := by decide +kernel
theorem zy_x_fateOfDue : zz_mk yX7_fateOfDue zM_x_fateOfDue [5, 9] = true := by decide +kernel
theorem zy_x_pauseAgain : zz_mk yX7_pauseAgain zM_x_pauseAgain [5, 9] = true := by decide +kernel
theorem zy_x_missDues : zz_mk yX7_missDues zM_x_missDues [5] = true := by decide +kernel
theorem zy_x_isMissed : zz_mk yX7_isMissed zM_x_isMissed [5, 9, 0] = true := by decide +kernel
theorem zy_x_missDue : zz_mk yX7_missDue zM_x_missDue [5, 9, 0] = true := by decide +kernel
theorem zy_x_beginRuns : zz_mk yX7_beginRuns zM_x_beginRuns [5] = true := by decide +kernel
theorem zy_x_freeWorker : zz_mk yX7_freeWorker zM_x_freeWorker [5] = true := by decide +kernel
theorem zy_x_firstToBegin : zz_mk yX7_firstToBegin zM_x_firstToBegin [5] = true := by decide +kernel
theorem zy_x_mayBegin : zz_mk yX7_mayBegin zM_x_mayBegin [5, 9] = true := by decide +kernel
theorem zy_x_workIn : zz_mk yX7_workIn zM_x_workIn [5, 0] = true := by decide +kernel
theorem zy_x_beginRun : zz_mk yX7_beginRun zM_x_beginRun [5, 0, 0] = true := by decide +kernel
theorem zy_x_jump : zz_mk yX7_jump zM_x_jump [5, 0] = true := by decide +kernel
theorem zy_x_jumpOver : zz_mk yX7_jumpOver zM_x_jumpOver [5, 0, 0] = true := by decide +kernel
theorem zy_x_missJumped : zz_mk yX7_missJumped zM_x_missJumped [5, 9, 0, 0] = true := by decide +kernel
theorem zy_x_cancel : zz_mk yX7_cancel zM_x_cancel [5, 0, 0] = true := by decide +kernel
theorem zy_x_leave : zz_mk yX7_leave zM_x_leave [5, 9, 0] = true := by decide +kernel
theorem zy_x_interruptRuns : zz_mk yX7_interruptRuns zM_x_interruptRuns [5, 9] = true := by decide +kernel
theorem zy_x_firstAtWork : zz_mk yX7_firstAtWork zM_x_firstAtWork [5, 9] = true := by decide +kernel
theorem zy_x_stop : zz_mk yX7_stop zM_x_stop [5, 0] = true := by decide +kernel
theorem zy_x_dropDues : zz_mk yX7_dropDues zM_x_dropDues [5] = true := by decide +kernel
theorem zy_x_go : zz_mk yX7_go zM_x_go [5] = true := by decide +kernel
theorem zy_x_run : zz_mk yX7_run zM_x_run [5, 0, 0] = true := by decide +kernel
theorem zy_x_of : zz_mk yX7_of zM_x_of [5, 0, 0] = true := by decide +kernel
theorem zy_x_stateOf : zz_mk yX7_stateOf zM_x_stateOf [5, 9] = true := by decide +kernel
theorem zy_x_next : zz_mk yX7_next zM_x_next [5, 0, 0] = true := by decide +kernel
theorem zy_x_dueMinute : zz_mk yX7_dueMinute zM_x_dueMinute [5, 9, 0] = true := by decide +kernel
theorem zy_x_calendarMinute : zz_mk yX7_calendarMinute zM_x_calendarMinute [5, 10, 0] = true := by decide +kernel
theorem zy_x_waiting : zz_mk yX7_waiting zM_x_waiting [5, 0, 0] = true := by decide +kernel
theorem zy_x_book : zz_mk yX7_book zM_x_book [5, 0, 0] = true := by decide +kernel
theorem zy_x_count : zz_mk yX7_count zM_x_count [5, 0] = true := by decide +kernel
theorem zy_x_cell : zz_mk yX7_cell zM_x_cell [5, 0] = true := by decide +kernel
theorem zy_x_day : zz_mk yX7_day zM_x_day [5, 0, 0] = true := by decide +kernel
theorem zy_x_idle : zz_mk yX7_idle zM_x_idle [5, 0] = true := by decide +kernel
theorem zy_x_load : zz_mk yX7_load zM_x_load [5, 0] = true := by decide +kernel
theorem zy_x_quiet : zz_mk yX7_quiet zM_x_quiet [5] = true := by decide +kernel
theorem zy_x_isWithin : zz_mk yX7_isWithin zM_x_isWithin [0, 0, 0] = true := by decide +kernel
theorem zy_x_taskAt : zz_mk yX7_taskAt zM_x_taskAt [5, 0] = true := by decide +kernel
theorem zy_x_isActive : zz_mk yX7_isActive zM_x_isActive [9] = true := by decide +kernel
theorem zy_xD_new : zz_mk yX2_init zM_xD_new [1004] = true := by decide +kernel
theorem zy_xD_add : zz_mk yX2_add zM_xD_add [6, 9, 0] = true := by decide +kernel
theorem zy_xD_remove : zz_mk yX2_remove zM_xD_remove [6, 0] = true := by decide +kernel
theorem zy_xD_removeAll : zz_mk yX2_removeAll zM_xD_removeAll [6, 9] = true := by decide +kernel
theorem zy_xD_clear : zz_mk yX2_clear zM_xD_clear [6] = true := by decide +kernel
theorem zy_xD_isAhead : zz_mk yX2_isAhead zM_xD_isAhead [6, 0, 0] = true := by decide +kernel
theorem zy_xB_new : zz_mk yX0_init zM_xB_new [1005] = true := by decide +kernel
theorem zy_xB_add : zz_mk yX0_add zM_xB_add [7, 0, 0, 0] = true := by decide +kernel
theorem zy_xP_new : zz_mk yX4_init zM_xP_new [1006] = true := by decide +kernel
theorem zy_xP_placeOf : zz_mk yX4_placeOf zM_xP_placeOf [8, 0, 0] = true := by decide +kernel
theorem zy_xP_put : zz_mk yX4_put zM_xP_put [8, 0, 0, 0] = true := by decide +kernel
theorem zy_xP_kindOf : zz_mk yX4_kindOf zM_xP_kindOf [8, 0, 0] = true := by decide +kernel
theorem zy_xT_new : zz_mk yX6_init zM_xT_new [1007, 0, 0, 0, 0] = true := by decide +kernel
theorem zy_xT_isActive : zz_mk yX6_isActive zM_xT_isActive [9] = true := by decide +kernel
theorem zy_xT_fireFor : zz_mk yX6_fireFor zM_xT_fireFor [9, 0] = true := by decide +kernel
theorem zy_xT_isFiredFor : zz_mk yX6_isFiredFor zM_xT_isFiredFor [9, 0] = true := by decide +kernel
theorem zy_xT_step : zz_mk yX6_step zM_xT_step [9] = true := by decide +kernel
theorem zy_xT_firstOfRate : zz_mk yX6_firstOfRate zM_xT_firstOfRate [9, 0] = true := by decide +kernel
theorem zy_xC_new : zz_mk yX1_init zM_xC_new [1008] = true := by decide +kernel
theorem zy_xC_isForm : zz_mk yX1_isForm zM_xC_isForm [0, 0, 0] = true := by decide +kernel
theorem zy_xC_add : zz_mk yX1_add zM_xC_add [10, 0, 0, 0] = true := by decide +kernel
theorem zy_xC_ring : zz_mk yX1_ring zM_xC_ring [0, 0, 0] = true := by decide +kernel
theorem zy_xC_fits : zz_mk yX1_fits zM_xC_fits [10, 0] = true := by decide +kernel
theorem zy_xC_minuteFits : zz_mk yX1_minuteFits zM_xC_minuteFits [10, 0] = true := by decide +kernel
theorem zy_xC_hourFits : zz_mk yX1_hourFits zM_xC_hourFits [10, 0] = true := by decide +kernel
theorem zy_xC_dayFits : zz_mk yX1_dayFits zM_xC_dayFits [10, 0] = true := by decide +kernel
theorem zy_xC_firstFit : zz_mk yX1_firstFit zM_xC_firstFit [10, 0, 0] = true := by decide +kernel
theorem zy_xC_monthOf : zz_mk yX1_monthOf zM_xC_monthOf [0] = true := by decide +kernel
theorem zy_xN_new : zz_mk yX3_init zM_xN_new [1009] = true := by decide +kernel
theorem zy_xN_add : zz_mk yX3_add zM_xN_add [11, 0, 0] = true := by decide +kernel
theorem zy_xN_fit : zz_mk yX3_fit zM_xN_fit [11, 0, 0] = true := by decide +kernel
theorem zy_xR_new : zz_mk yX5_init zM_xR_new [1010, 0, 9, 0, 0, 0] = true := by decide +kernel
theorem zy_m_new : zz_mk yX8_init zM_m_new [1040] = true := by decide +kernel
theorem zy_m_in : zz_mk yX8_in zM_m_in [0, 0, 0] = true := by decide +kernel
theorem zy_m_isTask : zz_mk yX8_isTask zM_m_isTask [42, 0] = true := by decide +kernel
theorem zy_m_isActive : zz_mk yX8_isActive zM_m_isActive [42, 0] = true := by decide +kernel
theorem zy_m_atWork : zz_mk yX8_atWork zM_m_atWork [42] = true := by decide +kernel
theorem zy_m_isRunning : zz_mk yX8_isRunning zM_m_isRunning [42, 0] = true := by decide +kernel
theorem zy_m_loadOf : zz_mk yX8_loadOf zM_m_loadOf [42, 0] = true := by decide +kernel
theorem zy_m_duesOf : zz_mk yX8_duesOf zM_m_duesOf [42, 0] = true := by decide +kernel
theorem zy_m_monthLength : zz_mk yX8_monthLength zM_m_monthLength [0] = true := by decide +kernel
theorem zy_m_look : zz_mk yX8_look zM_m_look [42, 0] = true := by decide +kernel
theorem zy_m_fitsDay : zz_mk yX8_fitsDay zM_m_fitsDay [42, 0] = true := by decide +kernel
theorem zy_m_fitsMinute : zz_mk yX8_fitsMinute zM_m_fitsMinute [42, 0, 0] = true := by decide +kernel
theorem zy_m_fits : zz_mk yX8_fits zM_m_fits [42, 0, 0] = true := by decide +kernel
theorem zy_m_hasMinute : zz_mk yX8_hasMinute zM_m_hasMinute [42, 0] = true := by decide +kernel
theorem zy_m_dueFrom : zz_mk yX8_dueFrom zM_m_dueFrom [42, 0, 0] = true := by decide +kernel
theorem zy_m_calendarFrom : zz_mk yX8_calendarFrom zM_m_calendarFrom [42, 0, 0] = true := by decide +kernel
theorem zy_m_books : zz_mk yX8_books zM_m_books [42, 0, 0, 0] = true := by decide +kernel
theorem zy_m_dueGone : zz_mk yX8_dueGone zM_m_dueGone [42, 0, 0] = true := by decide +kernel
theorem zy_m_comes : zz_mk yX8_comes zM_m_comes [42, 0, 0] = true := by decide +kernel
theorem zy_m_takeDue : zz_mk yX8_takeDue zM_m_takeDue [42, 0] = true := by decide +kernel
theorem zy_m_dropDues : zz_mk yX8_dropDues zM_m_dropDues [42, 0] = true := by decide +kernel
theorem zy_m_notes : zz_mk yX8_notes zM_m_notes [42, 0, 0, 0] = true := by decide +kernel
theorem zy_m_frees : zz_mk yX8_frees zM_m_frees [42, 0, 0, 0] = true := by decide +kernel
theorem zy_m_interrupts : zz_mk yX8_interrupts zM_m_interrupts [42, 0, 0] = true := by decide +kernel
theorem zy_m_planned : zz_mk yX8_planned zM_m_planned [42, 0, 0] = true := by decide +kernel
theorem zy_m_does : zz_mk yX8_does zM_m_does [42, 0, 0, 0] = true := by decide +kernel
theorem zy_m_ends : zz_mk yX8_ends zM_m_ends [42, 0, 0] = true := by decide +kernel
theorem zy_m_failed : zz_mk yX8_failed zM_m_failed [42, 0, 0] = true := by decide +kernel
theorem zy_m_treat : zz_mk yX8_treat zM_m_treat [42, 0] = true := by decide +kernel
theorem zy_m_isDue : zz_mk yX8_isDue zM_m_isDue [42, 0, 0] = true := by decide +kernel
theorem zy_m_misses : zz_mk yX8_misses zM_m_misses [42, 0] = true := by decide +kernel
theorem zy_m_canBegin : zz_mk yX8_canBegin zM_m_canBegin [42, 0] = true := by decide +kernel
theorem zy_m_begins : zz_mk yX8_begins zM_m_begins [42, 0] = true := by decide +kernel
theorem zy_m_isAhead : zz_mk yX8_isAhead zM_m_isAhead [42, 0, 0] = true := by decide +kernel
theorem zy_m_clock : zz_mk yX8_clock zM_m_clock [42, 0] = true := by decide +kernel
theorem zy_m_workers : zz_mk yX8_workers zM_m_workers [42, 0] = true := by decide +kernel
theorem zy_m_group : zz_mk yX8_group zM_m_group [42, 0] = true := by decide +kernel
theorem zy_m_task : zz_mk yX8_task zM_m_task [42, 0, 0, 0] = true := by decide +kernel
theorem zy_m_set : zz_mk yX8_set zM_m_set [42, 0, 0, 0] = true := by decide +kernel
theorem zy_m_isForm : zz_mk yX8_isForm zM_m_isForm [0, 0, 0] = true := by decide +kernel
theorem zy_m_calendar : zz_mk yX8_calendar zM_m_calendar [42, 0, 0, 0, 0] = true := by decide +kernel
theorem zy_m_body : zz_mk yX8_body zM_m_body [42, 0, 0, 0, 0] = true := by decide +kernel
theorem zy_m_leads : zz_mk yX8_leads zM_m_leads [42, 0, 0] = true := by decide +kernel
theorem zy_m_after : zz_mk yX8_after zM_m_after [42, 0, 0, 0] = true := by decide +kernel
theorem zy_m_plan : zz_mk yX8_plan zM_m_plan [42, 0, 0, 0] = true := by decide +kernel
theorem zy_m_clearPlan : zz_mk yX8_clearPlan zM_m_clearPlan [42] = true := by decide +kernel
theorem zy_m_jump : zz_mk yX8_jump zM_m_jump [42, 0] = true := by decide +kernel
theorem zy_m_cancel : zz_mk yX8_cancel zM_m_cancel [42, 0, 0] = true := by decide +kernel
theorem zy_m_stop : zz_mk yX8_stop zM_m_stop [42, 0] = true := by decide +kernel
theorem zy_m_go : zz_mk yX8_go zM_m_go [42] = true := by decide +kernel
theorem zy_m_run : zz_mk yX8_run zM_m_run [42, 0, 0] = true := by decide +kernel
theorem zy_m_of : zz_mk yX8_of zM_m_of [42, 0, 0] = true := by decide +kernel
theorem zy_m_next : zz_mk yX8_next zM_m_next [42, 0, 0] = true := by decide +kernel
theorem zy_m_waiting : zz_mk yX8_waiting zM_m_waiting [42, 0, 0] = true := by decide +kernel
theorem zy_m_book : zz_mk yX8_book zM_m_book [42, 0, 0] = true := by decide +kernel
theorem zy_m_count : zz_mk yX8_count zM_m_count [42, 0] = true := by decide +kernel
theorem zy_m_cell : zz_mk yX8_cell zM_m_cell [42, 0] = true := by decide +kernel
theorem zy_m_day : zz_mk yX8_day zM_m_day [42, 0, 0] = true := by decide +kernel
theorem zy_m_idle : zz_mk yX8_idle zM_m_idle [42, 0] = true := by decide +kernel
theorem zy_m_load : zz_mk yX8_load zM_m_load [42, 0] = true := by decide +kernel
theorem zy_m_quiet : zz_mk yX8_quiet zM_m_quiet [42] = true := by decide +kernel
theorem zy_j_max : zz_mk jy_max zM_j_max [0, 0] = true := by decide +kernel
theorem zy_j_min : zz_mk jy_min zM_j_min [0, 0] = true := by decide +kernel
theorem zy_j_floorMod : zz_mk jy_floorMod zM_j_floorMod [0, 0] = true := by decide +kernel
end
section
def zk_xD_new : List zz_E := [(0, false, .aload_n 0, 1, 0, (0, 0, 0, 0), 0, []),
  (1, false, .invokespecial 3, 3, 99, (0, 0, 0, 0), 0, []),
  (4, false, .aload_n 0, 1, 0, (0, 0, 0, 0), 0, []),
  (5, false, .bipush 100, 2, 0, (0, 0, 0, 0), 0, []),
  (7, false, .anewarray 9, 3, 100, (19, 0, 0, 0), 0, []),
  (10, false, .putfield 11, 3, 101, (4, 0, 21, 1), 0, []),
  (13, false, .aload_n 0, 1, 0, (0, 0, 0, 0), 0, []),
  (14, false, .bipush 100, 2, 0, (0, 0, 0, 0), 0, []),
  (16, false, .newarray .int, 2, 0, (20, 0, 0, 0), 0, []),
  (18, false, .putfield 17, 3, 103, (4, 1, 22, 1), 0, []),
  (21, false, .aload_n 0, 1, 0, (0, 0, 0, 0), 0, []),
  (22, false, .bipush 100, 2, 0, (0, 0, 0, 0), 0, []),
  (24, false, .newarray .boolean, 2, 0, (21, 0, 0, 0), 0, []),
  (26, false, .putfield 21, 3, 105, (4, 2, 23, 1), 0, []),
  (29, false, .aload_n 0, 1, 0, (0, 0, 0, 0), 0, []),
  (30, false, .iconst 0, 1, 0, (0, 0, 0, 0), 0, []),
  (31, false, .putfield 25, 3, 107, (4, 3, 0, 0), 0, []),
  (34, false, .return_, 1, 0, (0, 0, 0, 0), 0, [])]
theorem zc_xD_new : zk_xD_new.all (zz_ck zz_inf zM_xD_new) = true ∧ zz_ch zk_xD_new = true := ⟨by decide +kernel, by decide +kernel⟩
noncomputable def xD_new (v0 : Int) (σ : zz_S) : zz_R := (let s1 := zz_n σ 19 1 100; (if true = true ∧ (zz_c σ 19 + 1) ≠ v0 then none else (let s2 := zz_w s1 4 v0 0 (zz_c σ 19 + 1); (let s3 := zz_n s2 20 1 100; (if true = true ∧ (zz_c s2 20 + 1) ≠ v0 then none else (let s4 := zz_w s3 4 v0 1 (zz_c s2 20 + 1); (let s5 := zz_n s4 21 1 100; (if true = true ∧ (zz_c s4 21 + 1) ≠ v0 then none else (let s6 := zz_w s5 4 v0 2 (zz_c s4 21 + 1); (let s7 := zz_w s6 4 v0 3 0; (if zz_ow s7 4 v0 (zz_own 4) = true ∧ zz_m s7 4 + 1 = v0 then (some (0, zz_f s7 4)) else none)))))))))))
set_option maxRecDepth 100000 in
set_option maxHeartbeats 4000000 in
theorem ze_xD_new (v0 : Int) (σ : zz_S) : xD_new v0 σ = zz_ev (zz_CE []) (zz_KE []) zk_xD_new 999 false 4 0 400 true (zz_sk zk_xD_new 0) [(0, 1004, v0)] [] σ := rfl
theorem zo_xD_new : zz_okb zM_xD_new 0 [(0, 1004, false)] (zz_f1 xD_new) :=
  fun vs σ r τ h => by
    obtain ⟨v0, rfl, h⟩ := zz_f1_ok h
    exact zz_from zc_xD_new zz_oc0 zz_ol0 ((ze_xD_new v0 σ).symm.trans h)
noncomputable def zw_xD_new : List Int → zz_S → zz_R := zz_f1 fun a0 σ => xD_new a0 σ
theorem zo_m_xD_new : zz_okm zz_inf 75 zw_xD_new := fun vs σ r τ h => by
  obtain ⟨a0, rfl, h⟩ := zz_f1_ok h
  exact zz_meth zi_xD_new zy_xD_new (zo_xD_new [a0] σ r τ h)
def zk_xB_new : List zz_E := [(0, false, .aload_n 0, 1, 0, (0, 0, 0, 0), 0, []),
  (1, false, .invokespecial 3, 3, 125, (0, 0, 0, 0), 0, []),
  (4, false, .aload_n 0, 1, 0, (0, 0, 0, 0), 0, []),
  (5, false, .sipush 300, 3, 0, (0, 0, 0, 0), 0, []),
  (8, false, .newarray .int, 2, 0, (22, 0, 0, 0), 0, []),
  (10, false, .putfield 9, 3, 126, (5, 0, 24, 1), 0, []),
  (13, false, .aload_n 0, 1, 0, (0, 0, 0, 0), 0, []),
  (14, false, .sipush 300, 3, 0, (0, 0, 0, 0), 0, []),
  (17, false, .newarray .int, 2, 0, (23, 0, 0, 0), 0, []),
  (19, false, .putfield 15, 3, 128, (5, 1, 25, 1), 0, []),
  (22, false, .aload_n 0, 1, 0, (0, 0, 0, 0), 0, []),
  (23, false, .sipush 300, 3, 0, (0, 0, 0, 0), 0, []),
  (26, false, .newarray .int, 2, 0, (24, 0, 0, 0), 0, []),
  (28, false, .putfield 18, 3, 130, (5, 2, 26, 1), 0, []),
  (31, false, .aload_n 0, 1, 0, (0, 0, 0, 0), 0, []),
  (32, false, .iconst 0, 1, 0, (0, 0, 0, 0), 0, []),
  (33, false, .putfield 21, 3, 132, (5, 3, 0, 0), 0, []),
  (36, false, .return_, 1, 0, (0, 0, 0, 0), 0, [])]
theorem zc_xB_new : zk_xB_new.all (zz_ck zz_inf zM_xB_new) = true ∧ zz_ch zk_xB_new = true := ⟨by decide +kernel, by decide +kernel⟩
noncomputable def xB_new (v0 : Int) (σ : zz_S) : zz_R := (let s1 := zz_n σ 22 1 300; (if true = true ∧ (zz_c σ 22 + 1) ≠ v0 then none else (let s2 := zz_w s1 5 v0 0 (zz_c σ 22 + 1); (let s3 := zz_n s2 23 1 300; (if true = true ∧ (zz_c s2 23 + 1) ≠ v0 then none else (let s4 := zz_w s3 5 v0 1 (zz_c s2 23 + 1); (let s5 := zz_n s4 24 1 300; (if true = true ∧ (zz_c s4 24 + 1) ≠ v0 then none else (let s6 := zz_w s5 5 v0 2 (zz_c s4 24 + 1); (let s7 := zz_w s6 5 v0 3 0; (if zz_ow s7 5 v0 (zz_own 5) = true ∧ zz_m s7 5 + 1 = v0 then (some (0, zz_f s7 5)) else none)))))))))))
set_option maxRecDepth 100000 in
set_option maxHeartbeats 4000000 in
theorem ze_xB_new (v0 : Int) (σ : zz_S) : xB_new v0 σ = zz_ev (zz_CE []) (zz_KE []) zk_xB_new 999 false 5 0 400 true (zz_sk zk_xB_new 0) [(0, 1005, v0)] [] σ := rfl
theorem zo_xB_new : zz_okb zM_xB_new 0 [(0, 1005, false)] (zz_f1 xB_new) :=
  fun vs σ r τ h => by
    obtain ⟨v0, rfl, h⟩ := zz_f1_ok h
    exact zz_from zc_xB_new zz_oc0 zz_ol0 ((ze_xB_new v0 σ).symm.trans h)
noncomputable def zw_xB_new : List Int → zz_S → zz_R := zz_f1 fun a0 σ => xB_new a0 σ
theorem zo_m_xB_new : zz_okm zz_inf 81 zw_xB_new := fun vs σ r τ h => by
  obtain ⟨a0, rfl, h⟩ := zz_f1_ok h
  exact zz_meth zi_xB_new zy_xB_new (zo_xB_new [a0] σ r τ h)
def zk_xP_new : List zz_E := [(0, false, .aload_n 0, 1, 0, (0, 0, 0, 0), 0, []),
  (1, false, .invokespecial 3, 3, 148, (0, 0, 0, 0), 0, []),
  (4, false, .aload_n 0, 1, 0, (0, 0, 0, 0), 0, []),
  (5, false, .bipush 40, 2, 0, (0, 0, 0, 0), 0, []),
  (7, false, .newarray .int, 2, 0, (25, 0, 0, 0), 0, []),
  (9, false, .putfield 9, 3, 149, (6, 0, 27, 1), 0, []),
  (12, false, .aload_n 0, 1, 0, (0, 0, 0, 0), 0, []),
  (13, false, .bipush 40, 2, 0, (0, 0, 0, 0), 0, []),
  (15, false, .newarray .int, 2, 0, (26, 0, 0, 0), 0, []),
  (17, false, .putfield 15, 3, 150, (6, 1, 28, 1), 0, []),
  (20, false, .aload_n 0, 1, 0, (0, 0, 0, 0), 0, []),
  (21, false, .bipush 40, 2, 0, (0, 0, 0, 0), 0, []),
  (23, false, .newarray .int, 2, 0, (27, 0, 0, 0), 0, []),
  (25, false, .putfield 18, 3, 151, (6, 2, 29, 1), 0, []),
  (28, false, .aload_n 0, 1, 0, (0, 0, 0, 0), 0, []),
  (29, false, .iconst 0, 1, 0, (0, 0, 0, 0), 0, []),
  (30, false, .putfield 21, 3, 152, (6, 3, 0, 0), 0, []),
  (33, false, .return_, 1, 0, (0, 0, 0, 0), 0, [])]
theorem zc_xP_new : zk_xP_new.all (zz_ck zz_inf zM_xP_new) = true ∧ zz_ch zk_xP_new = true := ⟨by decide +kernel, by decide +kernel⟩
noncomputable def xP_new (v0 : Int) (σ : zz_S) : zz_R := (let s1 := zz_n σ 25 1 40; (if true = true ∧ (zz_c σ 25 + 1) ≠ v0 then none else (let s2 := zz_w s1 6 v0 0 (zz_c σ 25 + 1); (let s3 := zz_n s2 26 1 40; (if true = true ∧ (zz_c s2 26 + 1) ≠ v0 then none else (let s4 := zz_w s3 6 v0 1 (zz_c s2 26 + 1); (let s5 := zz_n s4 27 1 40; (if true = true ∧ (zz_c s4 27 + 1) ≠ v0 then none else (let s6 := zz_w s5 6 v0 2 (zz_c s4 27 + 1); (let s7 := zz_w s6 6 v0 3 0; (if zz_ow s7 6 v0 (zz_own 6) = true ∧ zz_m s7 6 + 1 = v0 then (some (0, zz_f s7 6)) else none)))))))))))
set_option maxRecDepth 100000 in
set_option maxHeartbeats 4000000 in
theorem ze_xP_new (v0 : Int) (σ : zz_S) : xP_new v0 σ = zz_ev (zz_CE []) (zz_KE []) zk_xP_new 999 false 6 0 400 true (zz_sk zk_xP_new 0) [(0, 1006, v0)] [] σ := rfl
theorem zo_xP_new : zz_okb zM_xP_new 0 [(0, 1006, false)] (zz_f1 xP_new) :=
  fun vs σ r τ h => by
    obtain ⟨v0, rfl, h⟩ := zz_f1_ok h
    exact zz_from zc_xP_new zz_oc0 zz_ol0 ((ze_xP_new v0 σ).symm.trans h)
noncomputable def zw_xP_new : List Int → zz_S → zz_R := zz_f1 fun a0 σ => xP_new a0 σ
theorem zo_m_xP_new : zz_okm zz_inf 83 zw_xP_new := fun vs σ r τ h => by
  obtain ⟨a0, rfl, h⟩ := zz_f1_ok h
  exact zz_meth zi_xP_new zy_xP_new (zo_xP_new [a0] σ r τ h)
def zk_x_new : List zz_E := [(0, false, .aload_n 0, 1, 0, (0, 0, 0, 0), 0, []),
  (1, false, .invokespecial 1, 3, 87, (0, 0, 0, 0), 0, []),
  (4, false, .aload_n 0, 1, 0, (0, 0, 0, 0), 0, []),
  (5, false, .bipush 60, 2, 0, (0, 0, 0, 0), 0, []),
  (7, false, .anewarray 9, 3, 90, (11, 0, 0, 0), 0, []),
  (10, false, .putfield 11, 3, 163, (3, 0, 13, 1), 0, []),
  (13, false, .aload_n 0, 1, 0, (0, 0, 0, 0), 0, []),
  (14, false, .sipush 2000, 3, 0, (0, 0, 0, 0), 0, []),
  (17, false, .anewarray 15, 3, 92, (12, 0, 0, 0), 0, []),
  (20, false, .putfield 17, 3, 164, (3, 1, 14, 1), 0, []),
  (23, false, .aload_n 0, 1, 0, (0, 0, 0, 0), 0, []),
  (24, false, .bipush 8, 2, 0, (0, 0, 0, 0), 0, []),
  (26, false, .anewarray 15, 3, 92, (13, 0, 0, 0), 0, []),
  (29, false, .putfield 21, 3, 165, (3, 2, 15, 1), 0, []),
  (32, false, .aload_n 0, 1, 0, (0, 0, 0, 0), 0, []),
  (33, false, .new 24, 3, 94, (4, 0, 0, 0), 0, []),
  (36, false, .dup, 1, 0, (0, 0, 0, 0), 0, []),
  (37, false, .invokespecial 26, 3, 96, (75, 4, 999, 1), 0, [1004]),
  (40, false, .putfield 27, 3, 166, (3, 3, 6, 1), 0, []),
  (43, false, .aload_n 0, 1, 0, (0, 0, 0, 0), 0, []),
  (44, false, .new 31, 3, 120, (5, 0, 0, 0), 0, []),
  (47, false, .dup, 1, 0, (0, 0, 0, 0), 0, []),
  (48, false, .invokespecial 33, 3, 122, (81, 5, 999, 1), 0, [1005]),
  (51, false, .putfield 34, 3, 167, (3, 4, 7, 1), 0, []),
  (54, false, .aload_n 0, 1, 0, (0, 0, 0, 0), 0, []),
  (55, false, .new 38, 3, 143, (6, 0, 0, 0), 0, []),
  (58, false, .dup, 1, 0, (0, 0, 0, 0), 0, []),
  (59, false, .invokespecial 40, 3, 145, (83, 6, 999, 1), 0, [1006]),
  (62, false, .putfield 41, 3, 168, (3, 5, 8, 1), 0, []),
  (65, false, .aload_n 0, 1, 0, (0, 0, 0, 0), 0, []),
  (66, false, .bipush 8, 2, 0, (0, 0, 0, 0), 0, []),
  (68, false, .newarray .int, 2, 0, (14, 0, 0, 0), 0, []),
  (70, false, .putfield 45, 3, 169, (3, 6, 16, 1), 0, []),
  (73, false, .aload_n 0, 1, 0, (0, 0, 0, 0), 0, []),
  (74, false, .bipush 8, 2, 0, (0, 0, 0, 0), 0, []),
  (76, false, .newarray .int, 2, 0, (15, 0, 0, 0), 0, []),
  (78, false, .putfield 49, 3, 170, (3, 7, 17, 1), 0, []),
  (81, false, .aload_n 0, 1, 0, (0, 0, 0, 0), 0, []),
  (82, false, .bipush 8, 2, 0, (0, 0, 0, 0), 0, []),
  (84, false, .newarray .boolean, 2, 0, (16, 0, 0, 0), 0, []),
  (86, false, .putfield 52, 3, 171, (3, 8, 18, 1), 0, []),
  (89, false, .aload_n 0, 1, 0, (0, 0, 0, 0), 0, []),
  (90, false, .bipush 8, 2, 0, (0, 0, 0, 0), 0, []),
  (92, false, .newarray .int, 2, 0, (17, 0, 0, 0), 0, []),
  (94, false, .putfield 56, 3, 172, (3, 9, 19, 1), 0, []),
  (97, false, .aload_n 0, 1, 0, (0, 0, 0, 0), 0, []),
  (98, false, .bipush 60, 2, 0, (0, 0, 0, 0), 0, []),
  (100, false, .newarray .int, 2, 0, (18, 0, 0, 0), 0, []),
  (102, false, .putfield 59, 3, 173, (3, 10, 20, 1), 0, []),
  (105, false, .aload_n 0, 1, 0, (0, 0, 0, 0), 0, []),
  (106, false, .iconst 0, 1, 0, (0, 0, 0, 0), 0, []),
  (107, false, .putfield 62, 3, 174, (3, 11, 0, 0), 0, []),
  (110, false, .aload_n 0, 1, 0, (0, 0, 0, 0), 0, []),
  (111, false, .iconst 0, 1, 0, (0, 0, 0, 0), 0, []),
  (112, false, .putfield 66, 3, 175, (3, 12, 0, 0), 0, []),
  (115, false, .aload_n 0, 1, 0, (0, 0, 0, 0), 0, []),
  (116, false, .iconst 0, 1, 0, (0, 0, 0, 0), 0, []),
  (117, false, .putfield 69, 3, 176, (3, 13, 0, 0), 0, []),
  (120, false, .aload_n 0, 1, 0, (0, 0, 0, 0), 0, []),
  (121, false, .iconst 0, 1, 0, (0, 0, 0, 0), 0, []),
  (122, false, .putfield 72, 3, 177, (3, 14, 0, 0), 0, []),
  (125, false, .aload_n 0, 1, 0, (0, 0, 0, 0), 0, []),
  (126, false, .iconst 1, 1, 0, (0, 0, 0, 0), 0, []),
  (127, false, .putfield 75, 3, 178, (3, 15, 0, 0), 0, []),
  (130, false, .aload_n 0, 1, 0, (0, 0, 0, 0), 0, []),
  (131, false, .iconst 0, 1, 0, (0, 0, 0, 0), 0, []),
  (132, false, .putfield 78, 3, 179, (3, 16, 0, 0), 0, []),
  (135, false, .aload_n 0, 1, 0, (0, 0, 0, 0), 0, []),
  (136, false, .iconst 0, 1, 0, (0, 0, 0, 0), 0, []),
  (137, false, .putfield 81, 3, 180, (3, 17, 0, 0), 0, []),
  (140, false, .aload_n 0, 1, 0, (0, 0, 0, 0), 0, []),
  (141, false, .iconst (-1), 1, 0, (0, 0, 0, 0), 0, []),
  (142, false, .putfield 84, 3, 181, (3, 18, 0, 0), 0, []),
  (145, false, .aload_n 0, 1, 0, (0, 0, 0, 0), 0, []),
  (146, false, .iconst 0, 1, 0, (0, 0, 0, 0), 0, []),
  (147, false, .putfield 87, 3, 182, (3, 19, 0, 0), 1, []),
  (150, false, .return_, 1, 0, (0, 0, 0, 0), 0, [])]
theorem zc_x_new : zk_x_new.all (zz_ck zz_inf zM_x_new) = true ∧ zz_ch zk_x_new = true := ⟨by decide +kernel, by decide +kernel⟩
noncomputable def x_new (v0 : Int) (σ : zz_S) : zz_R := (let s1 := zz_n σ 11 1 60; (if true = true ∧ (zz_c σ 11 + 1) ≠ v0 then none else (let s2 := zz_w s1 3 v0 0 (zz_c σ 11 + 1); (let s3 := zz_n s2 12 1 2000; (if true = true ∧ (zz_c s2 12 + 1) ≠ v0 then none else (let s4 := zz_w s3 3 v0 1 (zz_c s2 12 + 1); (let s5 := zz_n s4 13 1 8; (if true = true ∧ (zz_c s4 13 + 1) ≠ v0 then none else (let s6 := zz_w s5 3 v0 2 (zz_c s4 13 + 1); (let s7 := zz_n s6 4 0 4; ((xD_new (zz_c s6 4 + 1) s7).bind fun q8 => (if zz_c q8.2 4 = zz_m q8.2 4 then (if true = true ∧ (zz_c s6 4 + 1) ≠ v0 then none else (let s9 := zz_w q8.2 3 v0 3 (zz_c s6 4 + 1); (let s10 := zz_n s9 5 0 4; ((xB_new (zz_c s9 5 + 1) s10).bind fun q11 => (if zz_c q11.2 5 = zz_m q11.2 5 then (if true = true ∧ (zz_c s9 5 + 1) ≠ v0 then none else (let s12 := zz_w q11.2 3 v0 4 (zz_c s9 5 + 1); (let s13 := zz_n s12 6 0 4; ((xP_new (zz_c s12 6 + 1) s13).bind fun q14 => (if zz_c q14.2 6 = zz_m q14.2 6 then (if true = true ∧ (zz_c s12 6 + 1) ≠ v0 then none else (let s15 := zz_w q14.2 3 v0 5 (zz_c s12 6 + 1); (let s16 := zz_n s15 14 1 8; (if true = true ∧ (zz_c s15 14 + 1) ≠ v0 then none else (let s17 := zz_w s16 3 v0 6 (zz_c s15 14 + 1); (let s18 := zz_n s17 15 1 8; (if true = true ∧ (zz_c s17 15 + 1) ≠ v0 then none else (let s19 := zz_w s18 3 v0 7 (zz_c s17 15 + 1); (let s20 := zz_n s19 16 1 8; (if true = true ∧ (zz_c s19 16 + 1) ≠ v0 then none else (let s21 := zz_w s20 3 v0 8 (zz_c s19 16 + 1); (let s22 := zz_n s21 17 1 8; (if true = true ∧ (zz_c s21 17 + 1) ≠ v0 then none else (let s23 := zz_w s22 3 v0 9 (zz_c s21 17 + 1); (let s24 := zz_n s23 18 1 60; (if true = true ∧ (zz_c s23 18 + 1) ≠ v0 then none else (let s25 := zz_w s24 3 v0 10 (zz_c s23 18 + 1); (let s26 := zz_w s25 3 v0 11 0; (let s27 := zz_w s26 3 v0 12 0; (let s28 := zz_w s27 3 v0 13 0; (let s29 := zz_w s28 3 v0 14 0; (let s30 := zz_w s29 3 v0 15 1; (let s31 := zz_w s30 3 v0 16 0; (let s32 := zz_w s31 3 v0 17 0; (let s33 := zz_w s32 3 v0 18 (-1); (let s34 := zz_w s33 3 v0 19 0; (if zz_ow s34 3 v0 (zz_own 3) = true ∧ zz_m s34 3 + 1 = v0 then (some (0, zz_f s34 3)) else none))))))))))))))))))))))))))) else none))))) else none))))) else none))))))))))))
set_option maxRecDepth 100000 in
set_option maxHeartbeats 4000000 in
theorem ze_x_new (v0 : Int) (σ : zz_S) : x_new v0 σ = zz_ev (zz_CE [(75, zw_xD_new), (81, zw_xB_new), (83, zw_xP_new)]) (zz_KE []) zk_x_new 999 false 3 0 400 true (zz_sk zk_x_new 0) [(0, 1003, v0)] [] σ := rfl
theorem zo_x_new : zz_okb zM_x_new 0 [(0, 1003, false)] (zz_f1 x_new) :=
  fun vs σ r τ h => by
    obtain ⟨v0, rfl, h⟩ := zz_f1_ok h
    exact zz_from zc_x_new (zz_occ zo_m_xD_new (zz_occ zo_m_xB_new (zz_occ zo_m_xP_new zz_oc0))) zz_ol0 ((ze_x_new v0 σ).symm.trans h)
noncomputable def zw_x_new : List Int → zz_S → zz_R := zz_f1 fun a0 σ => x_new a0 σ
theorem zo_m_x_new : zz_okm zz_inf 10 zw_x_new := fun vs σ r τ h => by
  obtain ⟨a0, rfl, h⟩ := zz_f1_ok h
  exact zz_meth zi_x_new zy_x_new (zo_x_new [a0] σ r τ h)
def zk_x_isWithin : List zz_E := [(0, false, .iload_n 0, 1, 0, (0, 0, 0, 0), 0, []),
  (1, false, .iload_n 1, 1, 0, (0, 0, 0, 0), 0, []),
  (2, false, .if_icmp .lt 12, 3, 0, (14, 0, 0, 0), 0, []),
  (5, false, .iload_n 0, 1, 0, (0, 0, 0, 0), 0, []),
  (6, false, .iload_n 2, 1, 0, (0, 0, 0, 0), 0, []),
  (7, false, .if_icmp .gt 7, 3, 0, (14, 0, 0, 0), 0, []),
  (10, false, .iconst 1, 1, 0, (0, 0, 0, 0), 0, []),
  (11, false, .goto 4, 3, 0, (15, 0, 0, 0), 0, []),
  (14, false, .iconst 0, 1, 0, (0, 0, 0, 0), 0, []),
  (15, false, .ireturn, 1, 0, (0, 0, 0, 0), 0, [])]
theorem zc_x_isWithin : zk_x_isWithin.all (zz_ck zz_inf zM_x_isWithin) = true ∧ zz_ch zk_x_isWithin = true := ⟨by decide +kernel, by decide +kernel⟩
noncomputable def x_isWithin (v0 v1 v2 : Int) (σ : zz_S) : zz_R := (if v0 < v1 then (some (0, σ)) else (if v0 ≤ v2 then (some (1, σ)) else (some (0, σ))))
set_option maxRecDepth 100000 in
set_option maxHeartbeats 4000000 in
theorem ze_x_isWithin (v0 v1 v2 : Int) (σ : zz_S) : x_isWithin v0 v1 v2 σ = zz_ev (zz_CE []) (zz_KE []) zk_x_isWithin 0 true 0 0 400 true (zz_sk zk_x_isWithin 0) [(0, 0, v0), (1, 0, v1), (2, 0, v2)] [] σ := rfl
theorem zo_x_isWithin : zz_okb zM_x_isWithin 0 [(0, 0, false), (1, 0, false), (2, 0, false)] (zz_f3 x_isWithin) :=
  fun vs σ r τ h => by
    obtain ⟨v0, v1, v2, rfl, h⟩ := zz_f3_ok h
    exact zz_from zc_x_isWithin zz_oc0 zz_ol0 ((ze_x_isWithin v0 v1 v2 σ).symm.trans h)
noncomputable def zw_x_isWithin : List Int → zz_S → zz_R := zz_f3 fun a0 a1 a2 σ => x_isWithin a0 a1 a2 σ
theorem zo_m_x_isWithin : zz_okm zz_inf 72 zw_x_isWithin := fun vs σ r τ h => by
  obtain ⟨a0, a1, a2, rfl, h⟩ := zz_f3_ok h
  exact zz_meth zi_x_isWithin zy_x_isWithin (zo_x_isWithin [a0, a1, a2] σ r τ h)
def zk_x_workers : List zz_E := [(0, false, .iload_n 1, 1, 0, (0, 0, 0, 0), 0, []),
  (1, false, .iconst 1, 1, 0, (0, 0, 0, 0), 0, []),
  (2, false, .bipush 8, 2, 0, (0, 0, 0, 0), 0, []),
  (4, false, .invokestatic 91, 3, 228, (72, 3, 0, 0), 0, [0, 0, 0]),
  (7, false, .ifCond .ne 6, 3, 0, (13, 0, 0, 0), 0, []),
  (10, false, .bipush (-2), 2, 0, (0, 0, 0, 0), 0, []),
  (12, false, .ireturn, 1, 0, (0, 0, 0, 0), 0, []),
  (13, false, .aload_n 0, 1, 0, (0, 0, 0, 0), 0, []),
  (14, false, .getfield 69, 3, 176, (3, 13, 0, 0), 0, []),
  (17, false, .ifCond .le 6, 3, 0, (23, 0, 0, 0), 0, []),
  (20, false, .bipush (-3), 2, 0, (0, 0, 0, 0), 0, []),
  (22, false, .ireturn, 1, 0, (0, 0, 0, 0), 0, []),
  (23, false, .aload_n 0, 1, 0, (0, 0, 0, 0), 0, []),
  (24, false, .iload_n 1, 1, 0, (0, 0, 0, 0), 0, []),
  (25, false, .putfield 75, 3, 178, (3, 15, 0, 0), 0, []),
  (28, false, .iconst 0, 1, 0, (0, 0, 0, 0), 0, []),
  (29, false, .istore_n 2, 1, 0, (0, 0, 0, 0), 0, []),
  (30, true, .iload_n 2, 1, 0, (0, 0, 0, 0), 0, []),
  (31, false, .bipush 8, 2, 0, (0, 0, 0, 0), 0, []),
  (33, false, .if_icmp .ge 16, 3, 0, (49, 0, 0, 0), 0, []),
  (36, false, .aload_n 0, 1, 0, (0, 0, 0, 0), 0, []),
  (37, false, .getfield 49, 3, 170, (3, 7, 17, 1), 0, []),
  (40, false, .iload_n 2, 1, 0, (0, 0, 0, 0), 0, []),
  (41, false, .iconst 0, 1, 0, (0, 0, 0, 0), 0, []),
  (42, false, .iastore, 1, 0, (15, 0, 0, 0), 0, []),
  (43, false, .iinc 2 1, 3, 0, (0, 0, 0, 0), 0, []),
  (46, false, .goto (-16), 3, 0, (30, 0, 0, 0), 0, []),
  (49, false, .iload_n 1, 1, 0, (0, 0, 0, 0), 0, []),
  (50, false, .ireturn, 1, 0, (0, 0, 0, 0), 0, [])]
theorem zc_x_workers : zk_x_workers.all (zz_ck zz_inf zM_x_workers) = true ∧ zz_ch zk_x_workers = true := ⟨by decide +kernel, by decide +kernel⟩
noncomputable def x_workers_30 : Nat → Int → Int → zz_S → zz_R
  | 0, _, _, _ => none
  | n + 1, v1, v2, σ => (if v2 < 8 then (if zz_b σ 15 1 v2 then (let s1 := zz_w σ 15 1 v2 0; (x_workers_30 n v1 (zz_r (v2 + 1)) s1)) else none) else (some (v1, σ)))
set_option maxRecDepth 100000 in
set_option maxHeartbeats 4000000 in
theorem ze_x_workers_30 (n : Nat) (v1 v2 : Int) (σ : zz_S) : x_workers_30 (n + 1) v1 v2 σ = zz_ev (zz_CE []) (zz_KE [(30, [(0, 5, true), (1, 0, false), (2, 0, false)], zz_f2 (x_workers_30 n))]) zk_x_workers 0 false 0 0 400 true (zz_sk zk_x_workers 30) [(0, 5, 1), (1, 0, v1), (2, 0, v2)] [] σ := rfl
theorem zo_x_workers_30 : ∀ n : Nat, zz_okb zM_x_workers 30 [(0, 5, true), (1, 0, false), (2, 0, false)] (zz_f2 (x_workers_30 n))
  | 0 => fun vs σ r τ h => by
    obtain ⟨v1, v2, rfl, h⟩ := zz_f2_ok h
    exact nomatch (show (none : zz_R) = some (r, τ) from h)
  | n + 1 => by
    have ih := zo_x_workers_30 n
    exact fun vs σ r τ h => by
        obtain ⟨v1, v2, rfl, h⟩ := zz_f2_ok h
        exact zz_from zc_x_workers zz_oc0 (zz_olc ih zz_ol0) ((ze_x_workers_30 n v1 v2 σ).symm.trans h)
noncomputable def x_workers (v1 : Int) (σ : zz_S) : zz_R := ((x_isWithin v1 1 8 σ).bind fun q1 => (if q1.1 = 0 then (some ((-2), q1.2)) else (if (zz_h q1.2 3 1 13) ≤ 0 then (let s2 := zz_w q1.2 3 1 15 v1; (x_workers_30 zz_fu v1 0 s2)) else (some ((-3), q1.2)))))
set_option maxRecDepth 100000 in
set_option maxHeartbeats 4000000 in
theorem ze_x_workers (v1 : Int) (σ : zz_S) : x_workers v1 σ = zz_ev (zz_CE [(72, zw_x_isWithin)]) (zz_KE [(30, [(0, 5, true), (1, 0, false), (2, 0, false)], zz_f2 (x_workers_30 zz_fu))]) zk_x_workers 0 false 0 0 400 true (zz_sk zk_x_workers 0) [(0, 5, 1), (1, 0, v1)] [] σ := rfl
theorem zo_x_workers : zz_okb zM_x_workers 0 [(0, 5, true), (1, 0, false)] (zz_f1 x_workers) :=
  fun vs σ r τ h => by
    obtain ⟨v1, rfl, h⟩ := zz_f1_ok h
    exact zz_from zc_x_workers (zz_occ zo_m_x_isWithin zz_oc0) (zz_olc (zo_x_workers_30 zz_fu) zz_ol0) ((ze_x_workers v1 σ).symm.trans h)
noncomputable def zw_x_workers : List Int → zz_S → zz_R := zz_f2 fun a0 a1 σ => if a0 = 1 then x_workers a1 σ else none
theorem zo_m_x_workers : zz_okm zz_inf 11 zw_x_workers := fun vs σ r τ h => by
  obtain ⟨a0, a1, rfl, h⟩ := zz_f2_ok h
  obtain ⟨e, h⟩ := zz_it h
  subst e
  exact zz_meth zi_x_workers zy_x_workers (zo_x_workers [a1] σ r τ h)
def zk_x_group : List zz_E := [(0, false, .iload_n 1, 1, 0, (0, 0, 0, 0), 0, []),
  (1, false, .iconst 1, 1, 0, (0, 0, 0, 0), 0, []),
  (2, false, .bipush 8, 2, 0, (0, 0, 0, 0), 0, []),
  (4, false, .invokestatic 91, 3, 228, (72, 3, 0, 0), 0, [0, 0, 0]),
  (7, false, .ifCond .ne 6, 3, 0, (13, 0, 0, 0), 0, []),
  (10, false, .bipush (-2), 2, 0, (0, 0, 0, 0), 0, []),
  (12, false, .ireturn, 1, 0, (0, 0, 0, 0), 0, []),
  (13, false, .aload_n 0, 1, 0, (0, 0, 0, 0), 0, []),
  (14, false, .getfield 72, 3, 177, (3, 14, 0, 0), 0, []),
  (17, false, .bipush 8, 2, 0, (0, 0, 0, 0), 0, []),
  (19, false, .if_icmp .lt 6, 3, 0, (25, 0, 0, 0), 0, []),
  (22, false, .bipush (-4), 2, 0, (0, 0, 0, 0), 0, []),
  (24, false, .ireturn, 1, 0, (0, 0, 0, 0), 0, []),
  (25, false, .aload_n 0, 1, 0, (0, 0, 0, 0), 0, []),
  (26, false, .getfield 45, 3, 169, (3, 6, 16, 1), 0, []),
  (29, false, .aload_n 0, 1, 0, (0, 0, 0, 0), 0, []),
  (30, false, .getfield 72, 3, 177, (3, 14, 0, 0), 0, []),
  (33, false, .iload_n 1, 1, 0, (0, 0, 0, 0), 0, []),
  (34, false, .iastore, 1, 0, (14, 0, 0, 0), 0, []),
  (35, false, .aload_n 0, 1, 0, (0, 0, 0, 0), 0, []),
  (36, false, .dup, 1, 0, (0, 0, 0, 0), 0, []),
  (37, false, .getfield 72, 3, 177, (3, 14, 0, 0), 0, []),
  (40, false, .iconst 1, 1, 0, (0, 0, 0, 0), 0, []),
  (41, false, .iadd, 1, 0, (0, 0, 0, 0), 0, []),
  (42, false, .putfield 72, 3, 177, (3, 14, 0, 0), 0, []),
  (45, false, .aload_n 0, 1, 0, (0, 0, 0, 0), 0, []),
  (46, false, .getfield 72, 3, 177, (3, 14, 0, 0), 0, []),
  (49, false, .iconst 1, 1, 0, (0, 0, 0, 0), 0, []),
  (50, false, .isub, 1, 0, (0, 0, 0, 0), 0, []),
  (51, false, .ireturn, 1, 0, (0, 0, 0, 0), 0, [])]
theorem zc_x_group : zk_x_group.all (zz_ck zz_inf zM_x_group) = true ∧ zz_ch zk_x_group = true := ⟨by decide +kernel, by decide +kernel⟩
noncomputable def x_group (v1 : Int) (σ : zz_S) : zz_R := ((x_isWithin v1 1 8 σ).bind fun q1 => (if q1.1 = 0 then (some ((-2), q1.2)) else (if (zz_h q1.2 3 1 14) < 8 then (if zz_b q1.2 14 1 (zz_h q1.2 3 1 14) then (let s2 := zz_w q1.2 14 1 (zz_h q1.2 3 1 14) v1; (let s3 := zz_w s2 3 1 14 (zz_r ((zz_h s2 3 1 14) + 1)); (some ((zz_r ((zz_h s3 3 1 14) - 1)), s3)))) else none) else (some ((-4), q1.2)))))
set_option maxRecDepth 100000 in
set_option maxHeartbeats 4000000 in
theorem ze_x_group (v1 : Int) (σ : zz_S) : x_group v1 σ = zz_ev (zz_CE [(72, zw_x_isWithin)]) (zz_KE []) zk_x_group 0 false 0 0 400 true (zz_sk zk_x_group 0) [(0, 5, 1), (1, 0, v1)] [] σ := rfl
theorem zo_x_group : zz_okb zM_x_group 0 [(0, 5, true), (1, 0, false)] (zz_f1 x_group) :=
  fun vs σ r τ h => by
    obtain ⟨v1, rfl, h⟩ := zz_f1_ok h
    exact zz_from zc_x_group (zz_occ zo_m_x_isWithin zz_oc0) zz_ol0 ((ze_x_group v1 σ).symm.trans h)
noncomputable def zw_x_group : List Int → zz_S → zz_R := zz_f2 fun a0 a1 σ => if a0 = 1 then x_group a1 σ else none
theorem zo_m_x_group : zz_okm zz_inf 12 zw_x_group := fun vs σ r τ h => by
  obtain ⟨a0, a1, rfl, h⟩ := zz_f2_ok h
  obtain ⟨e, h⟩ := zz_it h
  subst e
  exact zz_meth zi_x_group zy_x_group (zo_x_group [a1] σ r τ h)
def zk_xC_new : List zz_E := [(0, false, .aload_n 0, 1, 0, (0, 0, 0, 0), 0, []),
  (1, false, .invokespecial 3, 3, 251, (0, 0, 0, 0), 0, []),
  (4, false, .aload_n 0, 1, 0, (0, 0, 0, 0), 0, []),
  (5, false, .iconst 0, 1, 0, (0, 0, 0, 0), 0, []),
  (6, false, .putfield 9, 3, 253, (8, 0, 0, 0), 0, []),
  (9, false, .aload_n 0, 1, 0, (0, 0, 0, 0), 0, []),
  (10, false, .ldc2_w 15, 3, 252, (0, 0, 0, 0), (-1), []),
  (13, false, .putfield 17, 3, 255, (8, 1, 1, 0), 0, []),
  (16, false, .aload_n 0, 1, 0, (0, 0, 0, 0), 0, []),
  (17, false, .iconst (-1), 1, 0, (0, 0, 0, 0), 0, []),
  (18, false, .putfield 21, 3, 256, (8, 2, 0, 0), 0, []),
  (21, false, .aload_n 0, 1, 0, (0, 0, 0, 0), 0, []),
  (22, false, .iconst (-1), 1, 0, (0, 0, 0, 0), 0, []),
  (23, false, .putfield 24, 3, 257, (8, 3, 0, 0), 0, []),
  (26, false, .aload_n 0, 1, 0, (0, 0, 0, 0), 0, []),
  (27, false, .iconst (-1), 1, 0, (0, 0, 0, 0), 0, []),
  (28, false, .putfield 27, 3, 258, (8, 4, 0, 0), 0, []),
  (31, false, .aload_n 0, 1, 0, (0, 0, 0, 0), 0, []),
  (32, false, .iconst (-1), 1, 0, (0, 0, 0, 0), 0, []),
  (33, false, .putfield 30, 3, 259, (8, 5, 0, 0), 0, []),
  (36, false, .aload_n 0, 1, 0, (0, 0, 0, 0), 0, []),
  (37, false, .iconst (-1), 1, 0, (0, 0, 0, 0), 0, []),
  (38, false, .putfield 33, 3, 260, (8, 6, 0, 0), 0, []),
  (41, false, .aload_n 0, 1, 0, (0, 0, 0, 0), 0, []),
  (42, false, .iconst 0, 1, 0, (0, 0, 0, 0), 0, []),
  (43, false, .putfield 36, 3, 261, (8, 7, 0, 0), 1, []),
  (46, false, .return_, 1, 0, (0, 0, 0, 0), 0, [])]
theorem zc_xC_new : zk_xC_new.all (zz_ck zz_inf zM_xC_new) = true ∧ zz_ch zk_xC_new = true := ⟨by decide +kernel, by decide +kernel⟩
noncomputable def xC_new (v0 : Int) (σ : zz_S) : zz_R := (let s1 := zz_w σ 8 v0 0 0; (let s2 := zz_w s1 8 v0 1 (-1); (let s3 := zz_w s2 8 v0 2 (-1); (let s4 := zz_w s3 8 v0 3 (-1); (let s5 := zz_w s4 8 v0 4 (-1); (let s6 := zz_w s5 8 v0 5 (-1); (let s7 := zz_w s6 8 v0 6 (-1); (let s8 := zz_w s7 8 v0 7 0; (if zz_ow s8 8 v0 (zz_own 8) = true ∧ zz_m s8 8 + 1 = v0 then (some (0, zz_f s8 8)) else none)))))))))
set_option maxRecDepth 100000 in
set_option maxHeartbeats 4000000 in
theorem ze_xC_new (v0 : Int) (σ : zz_S) : xC_new v0 σ = zz_ev (zz_CE []) (zz_KE []) zk_xC_new 999 false 8 0 400 true (zz_sk zk_xC_new 0) [(0, 1008, v0)] [] σ := rfl
theorem zo_xC_new : zz_okb zM_xC_new 0 [(0, 1008, false)] (zz_f1 xC_new) :=
  fun vs σ r τ h => by
    obtain ⟨v0, rfl, h⟩ := zz_f1_ok h
    exact zz_from zc_xC_new zz_oc0 zz_ol0 ((ze_xC_new v0 σ).symm.trans h)
noncomputable def zw_xC_new : List Int → zz_S → zz_R := zz_f1 fun a0 σ => xC_new a0 σ
theorem zo_m_xC_new : zz_okm zz_inf 93 zw_xC_new := fun vs σ r τ h => by
  obtain ⟨a0, rfl, h⟩ := zz_f1_ok h
  exact zz_meth zi_xC_new zy_xC_new (zo_xC_new [a0] σ r τ h)
def zk_xN_new : List zz_E := [(0, false, .aload_n 0, 1, 0, (0, 0, 0, 0), 0, []),
  (1, false, .invokespecial 3, 3, 284, (0, 0, 0, 0), 0, []),
  (4, false, .aload_n 0, 1, 0, (0, 0, 0, 0), 0, []),
  (5, false, .iconst 4, 1, 0, (0, 0, 0, 0), 0, []),
  (6, false, .newarray .int, 2, 0, (29, 0, 0, 0), 0, []),
  (8, false, .putfield 9, 3, 285, (9, 0, 31, 1), 0, []),
  (11, false, .aload_n 0, 1, 0, (0, 0, 0, 0), 0, []),
  (12, false, .iconst 4, 1, 0, (0, 0, 0, 0), 0, []),
  (13, false, .newarray .int, 2, 0, (30, 0, 0, 0), 0, []),
  (15, false, .putfield 15, 3, 287, (9, 1, 32, 1), 0, []),
  (18, false, .aload_n 0, 1, 0, (0, 0, 0, 0), 0, []),
  (19, false, .iconst 0, 1, 0, (0, 0, 0, 0), 0, []),
  (20, false, .putfield 18, 3, 288, (9, 2, 0, 0), 0, []),
  (23, false, .return_, 1, 0, (0, 0, 0, 0), 0, [])]
theorem zc_xN_new : zk_xN_new.all (zz_ck zz_inf zM_xN_new) = true ∧ zz_ch zk_xN_new = true := ⟨by decide +kernel, by decide +kernel⟩
noncomputable def xN_new (v0 : Int) (σ : zz_S) : zz_R := (let s1 := zz_n σ 29 1 4; (if true = true ∧ (zz_c σ 29 + 1) ≠ v0 then none else (let s2 := zz_w s1 9 v0 0 (zz_c σ 29 + 1); (let s3 := zz_n s2 30 1 4; (if true = true ∧ (zz_c s2 30 + 1) ≠ v0 then none else (let s4 := zz_w s3 9 v0 1 (zz_c s2 30 + 1); (let s5 := zz_w s4 9 v0 2 0; (if zz_ow s5 9 v0 (zz_own 9) = true ∧ zz_m s5 9 + 1 = v0 then (some (0, zz_f s5 9)) else none))))))))
set_option maxRecDepth 100000 in
set_option maxHeartbeats 4000000 in
theorem ze_xN_new (v0 : Int) (σ : zz_S) : xN_new v0 σ = zz_ev (zz_CE []) (zz_KE []) zk_xN_new 999 false 9 0 400 true (zz_sk zk_xN_new 0) [(0, 1009, v0)] [] σ := rfl
theorem zo_xN_new : zz_okb zM_xN_new 0 [(0, 1009, false)] (zz_f1 xN_new) :=
  fun vs σ r τ h => by
    obtain ⟨v0, rfl, h⟩ := zz_f1_ok h
    exact zz_from zc_xN_new zz_oc0 zz_ol0 ((ze_xN_new v0 σ).symm.trans h)
noncomputable def zw_xN_new : List Int → zz_S → zz_R := zz_f1 fun a0 σ => xN_new a0 σ
theorem zo_m_xN_new : zz_okm zz_inf 103 zw_xN_new := fun vs σ r τ h => by
  obtain ⟨a0, rfl, h⟩ := zz_f1_ok h
  exact zz_meth zi_xN_new zy_xN_new (zo_xN_new [a0] σ r τ h)
def zk_xT_new : List zz_E := [(0, false, .aload_n 0, 1, 0, (0, 0, 0, 0), 0, []),
  (1, false, .invokespecial 3, 3, 245, (0, 0, 0, 0), 0, []),
  (4, false, .aload_n 0, 1, 0, (0, 0, 0, 0), 0, []),
  (5, false, .bipush 6, 2, 0, (0, 0, 0, 0), 0, []),
  (7, false, .newarray .int, 2, 0, (28, 0, 0, 0), 0, []),
  (9, false, .dup, 1, 0, (0, 0, 0, 0), 0, []),
  (10, false, .iconst 0, 1, 0, (0, 0, 0, 0), 0, []),
  (11, false, .iconst 1, 1, 0, (0, 0, 0, 0), 0, []),
  (12, false, .iastore, 1, 0, (28, 0, 0, 0), 0, []),
  (13, false, .dup, 1, 0, (0, 0, 0, 0), 0, []),
  (14, false, .iconst 1, 1, 0, (0, 0, 0, 0), 0, []),
  (15, false, .iconst 0, 1, 0, (0, 0, 0, 0), 0, []),
  (16, false, .iastore, 1, 0, (28, 0, 0, 0), 0, []),
  (17, false, .dup, 1, 0, (0, 0, 0, 0), 0, []),
  (18, false, .iconst 2, 1, 0, (0, 0, 0, 0), 0, []),
  (19, false, .iconst (-1), 1, 0, (0, 0, 0, 0), 0, []),
  (20, false, .iastore, 1, 0, (28, 0, 0, 0), 0, []),
  (21, false, .dup, 1, 0, (0, 0, 0, 0), 0, []),
  (22, false, .iconst 3, 1, 0, (0, 0, 0, 0), 0, []),
  (23, false, .iconst 0, 1, 0, (0, 0, 0, 0), 0, []),
  (24, false, .iastore, 1, 0, (28, 0, 0, 0), 0, []),
  (25, false, .dup, 1, 0, (0, 0, 0, 0), 0, []),
  (26, false, .iconst 4, 1, 0, (0, 0, 0, 0), 0, []),
  (27, false, .iconst 0, 1, 0, (0, 0, 0, 0), 0, []),
  (28, false, .iastore, 1, 0, (28, 0, 0, 0), 0, []),
  (29, false, .dup, 1, 0, (0, 0, 0, 0), 0, []),
  (30, false, .iconst 5, 1, 0, (0, 0, 0, 0), 0, []),
  (31, false, .iconst 0, 1, 0, (0, 0, 0, 0), 0, []),
  (32, false, .iastore, 1, 0, (28, 0, 0, 0), 0, []),
  (33, false, .putfield 9, 3, 306, (7, 4, 30, 1), 0, []),
  (36, false, .aload_n 0, 1, 0, (0, 0, 0, 0), 0, []),
  (37, false, .new 15, 3, 246, (8, 0, 0, 0), 0, []),
  (40, false, .dup, 1, 0, (0, 0, 0, 0), 0, []),
  (41, false, .invokespecial 17, 3, 248, (93, 8, 999, 1), 0, [1008]),
  (44, false, .putfield 18, 3, 310, (7, 5, 10, 1), 0, []),
  (47, false, .aload_n 0, 1, 0, (0, 0, 0, 0), 0, []),
  (48, false, .new 22, 3, 279, (9, 0, 0, 0), 0, []),
  (51, false, .dup, 1, 0, (0, 0, 0, 0), 0, []),
  (52, false, .invokespecial 24, 3, 281, (103, 9, 999, 1), 0, [1009]),
  (55, false, .putfield 25, 3, 312, (7, 6, 11, 1), 0, []),
  (58, false, .aload_n 0, 1, 0, (0, 0, 0, 0), 0, []),
  (59, false, .iconst 0, 1, 0, (0, 0, 0, 0), 0, []),
  (60, false, .putfield 29, 3, 314, (7, 7, 0, 0), 0, []),
  (63, false, .aload_n 0, 1, 0, (0, 0, 0, 0), 0, []),
  (64, false, .iconst 0, 1, 0, (0, 0, 0, 0), 0, []),
  (65, false, .putfield 33, 3, 316, (7, 8, 0, 0), 0, []),
  (68, false, .aload_n 0, 1, 0, (0, 0, 0, 0), 0, []),
  (69, false, .iconst 0, 1, 0, (0, 0, 0, 0), 0, []),
  (70, false, .putfield 36, 3, 318, (7, 9, 0, 0), 0, []),
  (73, false, .aload_n 0, 1, 0, (0, 0, 0, 0), 0, []),
  (74, false, .iconst 0, 1, 0, (0, 0, 0, 0), 0, []),
  (75, false, .putfield 39, 3, 320, (7, 10, 0, 0), 0, []),
  (78, false, .aload_n 0, 1, 0, (0, 0, 0, 0), 0, []),
  (79, false, .iconst 0, 1, 0, (0, 0, 0, 0), 0, []),
  (80, false, .putfield 42, 3, 324, (7, 12, 0, 0), 0, []),
  (83, false, .aload_n 0, 1, 0, (0, 0, 0, 0), 0, []),
  (84, false, .iconst 0, 1, 0, (0, 0, 0, 0), 0, []),
  (85, false, .putfield 45, 3, 326, (7, 13, 0, 0), 0, []),
  (88, false, .aload_n 0, 1, 0, (0, 0, 0, 0), 0, []),
  (89, false, .iconst 0, 1, 0, (0, 0, 0, 0), 0, []),
  (90, false, .putfield 48, 3, 329, (7, 14, 0, 0), 0, []),
  (93, false, .aload_n 0, 1, 0, (0, 0, 0, 0), 0, []),
  (94, false, .iconst 0, 1, 0, (0, 0, 0, 0), 0, []),
  (95, false, .putfield 51, 3, 331, (7, 15, 0, 0), 0, []),
  (98, false, .aload_n 0, 1, 0, (0, 0, 0, 0), 0, []),
  (99, false, .iconst 0, 1, 0, (0, 0, 0, 0), 0, []),
  (100, false, .putfield 54, 3, 333, (7, 16, 0, 0), 0, []),
  (103, false, .aload_n 0, 1, 0, (0, 0, 0, 0), 0, []),
  (104, false, .iconst 0, 1, 0, (0, 0, 0, 0), 0, []),
  (105, false, .putfield 57, 3, 336, (7, 17, 0, 0), 0, []),
  (108, false, .aload_n 0, 1, 0, (0, 0, 0, 0), 0, []),
  (109, false, .iconst (-1), 1, 0, (0, 0, 0, 0), 0, []),
  (110, false, .putfield 60, 3, 338, (7, 18, 0, 0), 0, []),
  (113, false, .aload_n 0, 1, 0, (0, 0, 0, 0), 0, []),
  (114, false, .iconst (-1), 1, 0, (0, 0, 0, 0), 0, []),
  (115, false, .putfield 63, 3, 339, (7, 19, 0, 0), 0, []),
  (118, false, .aload_n 0, 1, 0, (0, 0, 0, 0), 0, []),
  (119, false, .iload_n 1, 1, 0, (0, 0, 0, 0), 0, []),
  (120, false, .putfield 66, 3, 297, (7, 0, 0, 0), 0, []),
  (123, false, .aload_n 0, 1, 0, (0, 0, 0, 0), 0, []),
  (124, false, .iload_n 2, 1, 0, (0, 0, 0, 0), 0, []),
  (125, false, .putfield 69, 3, 300, (7, 1, 0, 0), 0, []),
  (128, false, .aload_n 0, 1, 0, (0, 0, 0, 0), 0, []),
  (129, false, .iload_n 3, 1, 0, (0, 0, 0, 0), 0, []),
  (130, false, .putfield 72, 3, 302, (7, 2, 0, 0), 0, []),
  (133, false, .aload_n 0, 1, 0, (0, 0, 0, 0), 0, []),
  (134, false, .iload 4, 2, 0, (0, 0, 0, 0), 0, []),
  (136, false, .putfield 75, 3, 304, (7, 3, 0, 0), 0, []),
  (139, false, .aload_n 0, 1, 0, (0, 0, 0, 0), 0, []),
  (140, false, .iload_n 2, 1, 0, (0, 0, 0, 0), 0, []),
  (141, false, .iconst 2, 1, 0, (0, 0, 0, 0), 0, []),
  (142, false, .if_icmp .ne 7, 3, 0, (149, 0, 0, 0), 0, []),
  (145, false, .iload_n 3, 1, 0, (0, 0, 0, 0), 0, []),
  (146, false, .goto 4, 3, 0, (150, 0, 0, 0), 0, []),
  (149, false, .iconst (-1), 1, 0, (0, 0, 0, 0), 0, []),
  (150, false, .putfield 78, 3, 322, (7, 11, 0, 0), 0, []),
  (153, false, .return_, 1, 0, (0, 0, 0, 0), 0, [])]
theorem zc_xT_new : zk_xT_new.all (zz_ck zz_inf zM_xT_new) = true ∧ zz_ch zk_xT_new = true := ⟨by decide +kernel, by decide +kernel⟩
noncomputable def xT_new (v0 v1 v2 v3 v4 : Int) (σ : zz_S) : zz_R := (let s1 := zz_n σ 28 1 6; (if (zz_c σ 28 + 1) = 0 then none else (if zz_b s1 28 (zz_c σ 28 + 1) 0 then (let s2 := zz_w s1 28 (zz_c σ 28 + 1) 0 1; (if (zz_c σ 28 + 1) = 0 then none else (if zz_b s2 28 (zz_c σ 28 + 1) 1 then (let s3 := zz_w s2 28 (zz_c σ 28 + 1) 1 0; (if (zz_c σ 28 + 1) = 0 then none else (if zz_b s3 28 (zz_c σ 28 + 1) 2 then (let s4 := zz_w s3 28 (zz_c σ 28 + 1) 2 (-1); (if (zz_c σ 28 + 1) = 0 then none else (if zz_b s4 28 (zz_c σ 28 + 1) 3 then (let s5 := zz_w s4 28 (zz_c σ 28 + 1) 3 0; (if (zz_c σ 28 + 1) = 0 then none else (if zz_b s5 28 (zz_c σ 28 + 1) 4 then (let s6 := zz_w s5 28 (zz_c σ 28 + 1) 4 0; (if (zz_c σ 28 + 1) = 0 then none else (if zz_b s6 28 (zz_c σ 28 + 1) 5 then (let s7 := zz_w s6 28 (zz_c σ 28 + 1) 5 0; (if true = true ∧ (zz_c σ 28 + 1) ≠ v0 then none else (let s8 := zz_w s7 7 v0 4 (zz_c σ 28 + 1); (let s9 := zz_n s8 8 0 8; ((xC_new (zz_c s8 8 + 1) s9).bind fun q10 => (if zz_c q10.2 8 = zz_m q10.2 8 then (if true = true ∧ (zz_c s8 8 + 1) ≠ v0 then none else (let s11 := zz_w q10.2 7 v0 5 (zz_c s8 8 + 1); (let s12 := zz_n s11 9 0 3; ((xN_new (zz_c s11 9 + 1) s12).bind fun q13 => (if zz_c q13.2 9 = zz_m q13.2 9 then (if true = true ∧ (zz_c s11 9 + 1) ≠ v0 then none else (let s14 := zz_w q13.2 7 v0 6 (zz_c s11 9 + 1); (let s15 := zz_w s14 7 v0 7 0; (let s16 := zz_w s15 7 v0 8 0; (let s17 := zz_w s16 7 v0 9 0; (let s18 := zz_w s17 7 v0 10 0; (let s19 := zz_w s18 7 v0 12 0; (let s20 := zz_w s19 7 v0 13 0; (let s21 := zz_w s20 7 v0 14 0; (let s22 := zz_w s21 7 v0 15 0; (let s23 := zz_w s22 7 v0 16 0; (let s24 := zz_w s23 7 v0 17 0; (let s25 := zz_w s24 7 v0 18 (-1); (let s26 := zz_w s25 7 v0 19 (-1); (let s27 := zz_w s26 7 v0 0 v1; (let s28 := zz_w s27 7 v0 1 v2; (let s29 := zz_w s28 7 v0 2 v3; (let s30 := zz_w s29 7 v0 3 v4; (if v2 = 2 then (let s31 := zz_w s30 7 v0 11 v3; (if zz_ow s31 7 v0 (zz_own 7) = true ∧ zz_m s31 7 + 1 = v0 then (some (0, zz_f s31 7)) else none)) else (let s32 := zz_w s30 7 v0 11 (-1); (if zz_ow s32 7 v0 (zz_own 7) = true ∧ zz_m s32 7 + 1 = v0 then (some (0, zz_f s32 7)) else none))))))))))))))))))))) else none))))) else none)))))) else none))) else none))) else none))) else none))) else none))) else none)))
set_option maxRecDepth 100000 in
set_option maxHeartbeats 4000000 in
theorem ze_xT_new (v0 v1 v2 v3 v4 : Int) (σ : zz_S) : xT_new v0 v1 v2 v3 v4 σ = zz_ev (zz_CE [(93, zw_xC_new), (103, zw_xN_new)]) (zz_KE []) zk_xT_new 999 false 7 0 400 true (zz_sk zk_xT_new 0) [(0, 1007, v0), (1, 0, v1), (2, 0, v2), (3, 0, v3), (4, 0, v4)] [] σ := rfl
theorem zo_xT_new : zz_okb zM_xT_new 0 [(0, 1007, false), (1, 0, false), (2, 0, false), (3, 0, false), (4, 0, false)] (zz_f5 xT_new) :=
  fun vs σ r τ h => by
    obtain ⟨v0, v1, v2, v3, v4, rfl, h⟩ := zz_f5_ok h
    exact zz_from zc_xT_new (zz_occ zo_m_xC_new (zz_occ zo_m_xN_new zz_oc0)) zz_ol0 ((ze_xT_new v0 v1 v2 v3 v4 σ).symm.trans h)
noncomputable def zw_xT_new : List Int → zz_S → zz_R := zz_f5 fun a0 a1 a2 a3 a4 σ => xT_new a0 a1 a2 a3 a4 σ
theorem zo_m_xT_new : zz_okm zz_inf 87 zw_xT_new := fun vs σ r τ h => by
  obtain ⟨a0, a1, a2, a3, a4, rfl, h⟩ := zz_f5_ok h
  exact zz_meth zi_xT_new zy_xT_new (zo_xT_new [a0, a1, a2, a3, a4] σ r τ h)
def zk_x_task : List zz_E := [(0, false, .iload_n 1, 1, 0, (0, 0, 0, 0), 0, []),
  (1, false, .iconst 0, 1, 0, (0, 0, 0, 0), 0, []),
  (2, false, .iconst 4, 1, 0, (0, 0, 0, 0), 0, []),
  (3, false, .invokestatic 91, 3, 228, (72, 3, 0, 0), 0, [0, 0, 0]),
  (6, false, .ifCond .ne 6, 3, 0, (12, 0, 0, 0), 0, []),
  (9, false, .bipush (-2), 2, 0, (0, 0, 0, 0), 0, []),
  (11, false, .ireturn, 1, 0, (0, 0, 0, 0), 0, []),
  (12, false, .iload_n 1, 1, 0, (0, 0, 0, 0), 0, []),
  (13, false, .iconst 2, 1, 0, (0, 0, 0, 0), 0, []),
  (14, false, .if_icmp .gt 19, 3, 0, (33, 0, 0, 0), 0, []),
  (17, false, .iload_n 2, 1, 0, (0, 0, 0, 0), 0, []),
  (18, false, .aload_n 0, 1, 0, (0, 0, 0, 0), 0, []),
  (19, false, .getfield 78, 3, 179, (3, 16, 0, 0), 0, []),
  (22, false, .ldc 95, 2, 239, (0, 0, 0, 0), 400000, []),
  (24, false, .invokestatic 91, 3, 228, (72, 3, 0, 0), 0, [0, 0, 0]),
  (27, false, .ifCond .ne 6, 3, 0, (33, 0, 0, 0), 0, []),
  (30, false, .bipush (-2), 2, 0, (0, 0, 0, 0), 0, []),
  (32, false, .ireturn, 1, 0, (0, 0, 0, 0), 0, []),
  (33, true, .iload_n 1, 1, 0, (0, 0, 0, 0), 0, []),
  (34, false, .iconst 1, 1, 0, (0, 0, 0, 0), 0, []),
  (35, false, .if_icmp .eq 8, 3, 0, (43, 0, 0, 0), 0, []),
  (38, false, .iload_n 1, 1, 0, (0, 0, 0, 0), 0, []),
  (39, false, .iconst 2, 1, 0, (0, 0, 0, 0), 0, []),
  (40, false, .if_icmp .ne 16, 3, 0, (56, 0, 0, 0), 0, []),
  (43, false, .iload_n 3, 1, 0, (0, 0, 0, 0), 0, []),
  (44, false, .iconst 1, 1, 0, (0, 0, 0, 0), 0, []),
  (45, false, .ldc 96, 2, 240, (0, 0, 0, 0), 100000, []),
  (47, false, .invokestatic 91, 3, 228, (72, 3, 0, 0), 0, [0, 0, 0]),
  (50, false, .ifCond .ne 6, 3, 0, (56, 0, 0, 0), 0, []),
  (53, false, .bipush (-2), 2, 0, (0, 0, 0, 0), 0, []),
  (55, false, .ireturn, 1, 0, (0, 0, 0, 0), 0, []),
  (56, true, .aload_n 0, 1, 0, (0, 0, 0, 0), 0, []),
  (57, false, .getfield 62, 3, 174, (3, 11, 0, 0), 0, []),
  (60, false, .bipush 60, 2, 0, (0, 0, 0, 0), 0, []),
  (62, false, .if_icmp .lt 6, 3, 0, (68, 0, 0, 0), 0, []),
  (65, false, .bipush (-4), 2, 0, (0, 0, 0, 0), 0, []),
  (67, false, .ireturn, 1, 0, (0, 0, 0, 0), 0, []),
  (68, false, .aload_n 0, 1, 0, (0, 0, 0, 0), 0, []),
  (69, false, .getfield 11, 3, 163, (3, 0, 13, 1), 0, []),
  (72, false, .aload_n 0, 1, 0, (0, 0, 0, 0), 0, []),
  (73, false, .getfield 62, 3, 174, (3, 11, 0, 0), 0, []),
  (76, false, .new 9, 3, 90, (7, 0, 0, 0), 0, []),
  (79, false, .dup, 1, 0, (0, 0, 0, 0), 0, []),
  (80, false, .aload_n 0, 1, 0, (0, 0, 0, 0), 0, []),
  (81, false, .getfield 62, 3, 174, (3, 11, 0, 0), 0, []),
  (84, false, .iload_n 1, 1, 0, (0, 0, 0, 0), 0, []),
  (85, false, .iload_n 2, 1, 0, (0, 0, 0, 0), 0, []),
  (86, false, .iload_n 3, 1, 0, (0, 0, 0, 0), 0, []),
  (87, false, .invokespecial 97, 3, 242, (87, 7, 999, 0), 0, [0, 0, 0, 0, 1007]),
  (90, false, .aastore, 1, 0, (11, 0, 9, 0), 0, []),
  (91, false, .aload_n 0, 1, 0, (0, 0, 0, 0), 0, []),
  (92, false, .dup, 1, 0, (0, 0, 0, 0), 0, []),
  (93, false, .getfield 62, 3, 174, (3, 11, 0, 0), 0, []),
  (96, false, .iconst 1, 1, 0, (0, 0, 0, 0), 0, []),
  (97, false, .iadd, 1, 0, (0, 0, 0, 0), 0, []),
  (98, false, .putfield 62, 3, 174, (3, 11, 0, 0), 0, []),
  (101, false, .aload_n 0, 1, 0, (0, 0, 0, 0), 0, []),
  (102, false, .getfield 62, 3, 174, (3, 11, 0, 0), 0, []),
  (105, false, .iconst 1, 1, 0, (0, 0, 0, 0), 0, []),
  (106, false, .isub, 1, 0, (0, 0, 0, 0), 0, []),
  (107, false, .ireturn, 1, 0, (0, 0, 0, 0), 0, [])]
theorem zc_x_task : zk_x_task.all (zz_ck zz_inf zM_x_task) = true ∧ zz_ch zk_x_task = true := ⟨by decide +kernel, by decide +kernel⟩
noncomputable def x_task_56 (v1 v2 v3 : Int) (σ : zz_S) : zz_R := (if (zz_h σ 3 1 11) < 60 then (let s1 := zz_n σ 7 0 20; ((xT_new (zz_c σ 7 + 1) (zz_h s1 3 1 11) v1 v2 v3 s1).bind fun q2 => (if zz_c q2.2 7 = zz_m q2.2 7 then (if zz_b q2.2 11 1 (zz_h σ 3 1 11) then (if (zz_c σ 7 + 1) = 0 then none else (let s3 := zz_w q2.2 11 1 (zz_h σ 3 1 11) (zz_c σ 7 + 1); (let s4 := zz_w s3 3 1 11 (zz_r ((zz_h s3 3 1 11) + 1)); (some ((zz_r ((zz_h s4 3 1 11) - 1)), s4))))) else none) else none))) else (some ((-4), σ)))
set_option maxRecDepth 100000 in
set_option maxHeartbeats 4000000 in
theorem ze_x_task_56 (v1 v2 v3 : Int) (σ : zz_S) : x_task_56 v1 v2 v3 σ = zz_ev (zz_CE [(87, zw_xT_new)]) (zz_KE []) zk_x_task 0 false 0 0 400 true (zz_sk zk_x_task 56) [(0, 5, 1), (1, 0, v1), (2, 0, v2), (3, 0, v3)] [] σ := rfl
theorem zo_x_task_56 : zz_okb zM_x_task 56 [(0, 5, true), (1, 0, false), (2, 0, false), (3, 0, false)] (zz_f3 x_task_56) :=
  fun vs σ r τ h => by
    obtain ⟨v1, v2, v3, rfl, h⟩ := zz_f3_ok h
    exact zz_from zc_x_task (zz_occ zo_m_xT_new zz_oc0) zz_ol0 ((ze_x_task_56 v1 v2 v3 σ).symm.trans h)
noncomputable def x_task_33 (v1 v2 v3 : Int) (σ : zz_S) : zz_R := (if v1 = 1 then ((x_isWithin v3 1 100000 σ).bind fun q1 => (if q1.1 = 0 then (some ((-2), q1.2)) else (x_task_56 v1 v2 v3 q1.2))) else (if v1 = 2 then ((x_isWithin v3 1 100000 σ).bind fun q2 => (if q2.1 = 0 then (some ((-2), q2.2)) else (x_task_56 v1 v2 v3 q2.2))) else (x_task_56 v1 v2 v3 σ)))
set_option maxRecDepth 100000 in
set_option maxHeartbeats 4000000 in
theorem ze_x_task_33 (v1 v2 v3 : Int) (σ : zz_S) : x_task_33 v1 v2 v3 σ = zz_ev (zz_CE [(72, zw_x_isWithin)]) (zz_KE [(56, [(0, 5, true), (1, 0, false), (2, 0, false), (3, 0, false)], zz_f3 (x_task_56))]) zk_x_task 0 false 0 0 400 true (zz_sk zk_x_task 33) [(0, 5, 1), (1, 0, v1), (2, 0, v2), (3, 0, v3)] [] σ := rfl
theorem zo_x_task_33 : zz_okb zM_x_task 33 [(0, 5, true), (1, 0, false), (2, 0, false), (3, 0, false)] (zz_f3 x_task_33) :=
  fun vs σ r τ h => by
    obtain ⟨v1, v2, v3, rfl, h⟩ := zz_f3_ok h
    exact zz_from zc_x_task (zz_occ zo_m_x_isWithin zz_oc0) (zz_olc (zo_x_task_56) zz_ol0) ((ze_x_task_33 v1 v2 v3 σ).symm.trans h)
noncomputable def x_task (v1 v2 v3 : Int) (σ : zz_S) : zz_R := ((x_isWithin v1 0 4 σ).bind fun q1 => (if q1.1 = 0 then (some ((-2), q1.2)) else (if v1 ≤ 2 then ((x_isWithin v2 (zz_h q1.2 3 1 16) 400000 q1.2).bind fun q2 => (if q2.1 = 0 then (some ((-2), q2.2)) else (x_task_33 v1 v2 v3 q2.2))) else (x_task_33 v1 v2 v3 q1.2))))
set_option maxRecDepth 100000 in
set_option maxHeartbeats 4000000 in
theorem ze_x_task (v1 v2 v3 : Int) (σ : zz_S) : x_task v1 v2 v3 σ = zz_ev (zz_CE [(72, zw_x_isWithin)]) (zz_KE [(33, [(0, 5, true), (1, 0, false), (2, 0, false), (3, 0, false)], zz_f3 (x_task_33))]) zk_x_task 0 false 0 0 400 true (zz_sk zk_x_task 0) [(0, 5, 1), (1, 0, v1), (2, 0, v2), (3, 0, v3)] [] σ := rfl
theorem zo_x_task : zz_okb zM_x_task 0 [(0, 5, true), (1, 0, false), (2, 0, false), (3, 0, false)] (zz_f3 x_task) :=
  fun vs σ r τ h => by
    obtain ⟨v1, v2, v3, rfl, h⟩ := zz_f3_ok h
    exact zz_from zc_x_task (zz_occ zo_m_x_isWithin zz_oc0) (zz_olc (zo_x_task_33) zz_ol0) ((ze_x_task v1 v2 v3 σ).symm.trans h)
noncomputable def zw_x_task : List Int → zz_S → zz_R := zz_f4 fun a0 a1 a2 a3 σ => if a0 = 1 then x_task a1 a2 a3 σ else none
theorem zo_m_x_task : zz_okm zz_inf 13 zw_x_task := fun vs σ r τ h => by
  obtain ⟨a0, a1, a2, a3, rfl, h⟩ := zz_f4_ok h
  obtain ⟨e, h⟩ := zz_it h
  subst e
  exact zz_meth zi_x_task zy_x_task (zo_x_task [a1, a2, a3] σ r τ h)
def zk_x_taskAt : List zz_E := [(0, false, .iload_n 1, 1, 0, (0, 0, 0, 0), 0, []),
  (1, false, .iconst 0, 1, 0, (0, 0, 0, 0), 0, []),
  (2, false, .aload_n 0, 1, 0, (0, 0, 0, 0), 0, []),
  (3, false, .getfield 62, 3, 174, (3, 11, 0, 0), 0, []),
  (6, false, .iconst 1, 1, 0, (0, 0, 0, 0), 0, []),
  (7, false, .isub, 1, 0, (0, 0, 0, 0), 0, []),
  (8, false, .invokestatic 91, 3, 228, (72, 3, 0, 0), 0, [0, 0, 0]),
  (11, false, .ifCond .eq 12, 3, 0, (23, 0, 0, 0), 0, []),
  (14, false, .aload_n 0, 1, 0, (0, 0, 0, 0), 0, []),
  (15, false, .getfield 11, 3, 163, (3, 0, 13, 1), 0, []),
  (18, false, .iload_n 1, 1, 0, (0, 0, 0, 0), 0, []),
  (19, false, .aaload, 1, 0, (11, 0, 9, 0), 0, []),
  (20, false, .goto 4, 3, 0, (24, 0, 0, 0), 0, []),
  (23, false, .aconst_null, 1, 0, (0, 0, 0, 0), 0, []),
  (24, false, .areturn, 1, 0, (0, 0, 0, 0), 0, [])]
theorem zc_x_taskAt : zk_x_taskAt.all (zz_ck zz_inf zM_x_taskAt) = true ∧ zz_ch zk_x_taskAt = true := ⟨by decide +kernel, by decide +kernel⟩
noncomputable def x_taskAt (v1 : Int) (σ : zz_S) : zz_R := ((x_isWithin v1 0 (zz_r ((zz_h σ 3 1 11) - 1)) σ).bind fun q1 => (if q1.1 = 0 then (some (0, q1.2)) else (if zz_b q1.2 11 1 v1 then (some ((zz_h q1.2 11 1 v1), q1.2)) else none)))
set_option maxRecDepth 100000 in
set_option maxHeartbeats 4000000 in
theorem ze_x_taskAt (v1 : Int) (σ : zz_S) : x_taskAt v1 σ = zz_ev (zz_CE [(72, zw_x_isWithin)]) (zz_KE []) zk_x_taskAt 9 false 0 0 400 true (zz_sk zk_x_taskAt 0) [(0, 5, 1), (1, 0, v1)] [] σ := rfl
theorem zo_x_taskAt : zz_okb zM_x_taskAt 0 [(0, 5, true), (1, 0, false)] (zz_f1 x_taskAt) :=
  fun vs σ r τ h => by
    obtain ⟨v1, rfl, h⟩ := zz_f1_ok h
    exact zz_from zc_x_taskAt (zz_occ zo_m_x_isWithin zz_oc0) zz_ol0 ((ze_x_taskAt v1 σ).symm.trans h)
noncomputable def zw_x_taskAt : List Int → zz_S → zz_R := zz_f2 fun a0 a1 σ => if a0 = 1 then x_taskAt a1 σ else none
theorem zo_m_x_taskAt : zz_okm zz_inf 73 zw_x_taskAt := fun vs σ r τ h => by
  obtain ⟨a0, a1, rfl, h⟩ := zz_f2_ok h
  obtain ⟨e, h⟩ := zz_it h
  subst e
  exact zz_meth zi_x_taskAt zy_x_taskAt (zo_x_taskAt [a1] σ r τ h)
def zk_x_leastTold : List zz_E := [(0, false, .iload_n 0, 1, 0, (0, 0, 0, 0), 0, []),
  (1, false, .ifCond .ne 5, 3, 0, (6, 0, 0, 0), 0, []),
  (4, false, .iconst 1, 1, 0, (0, 0, 0, 0), 0, []),
  (5, false, .ireturn, 1, 0, (0, 0, 0, 0), 0, []),
  (6, false, .iload_n 0, 1, 0, (0, 0, 0, 0), 0, []),
  (7, false, .iconst 2, 1, 0, (0, 0, 0, 0), 0, []),
  (8, false, .if_icmp .ne 7, 3, 0, (15, 0, 0, 0), 0, []),
  (11, false, .iconst (-1), 1, 0, (0, 0, 0, 0), 0, []),
  (12, false, .goto 4, 3, 0, (16, 0, 0, 0), 0, []),
  (15, false, .iconst 0, 1, 0, (0, 0, 0, 0), 0, []),
  (16, false, .ireturn, 1, 0, (0, 0, 0, 0), 0, [])]
theorem zc_x_leastTold : zk_x_leastTold.all (zz_ck zz_inf zM_x_leastTold) = true ∧ zz_ch zk_x_leastTold = true := ⟨by decide +kernel, by decide +kernel⟩
noncomputable def x_leastTold (v0 : Int) (σ : zz_S) : zz_R := (if v0 = 0 then (some (1, σ)) else (if v0 = 2 then (some ((-1), σ)) else (some (0, σ))))
set_option maxRecDepth 100000 in
set_option maxHeartbeats 4000000 in
theorem ze_x_leastTold (v0 : Int) (σ : zz_S) : x_leastTold v0 σ = zz_ev (zz_CE []) (zz_KE []) zk_x_leastTold 0 false 0 0 400 true (zz_sk zk_x_leastTold 0) [(0, 0, v0)] [] σ := rfl
theorem zo_x_leastTold : zz_okb zM_x_leastTold 0 [(0, 0, false)] (zz_f1 x_leastTold) :=
  fun vs σ r τ h => by
    obtain ⟨v0, rfl, h⟩ := zz_f1_ok h
    exact zz_from zc_x_leastTold zz_oc0 zz_ol0 ((ze_x_leastTold v0 σ).symm.trans h)
noncomputable def zw_x_leastTold : List Int → zz_S → zz_R := zz_f1 fun a0 σ => x_leastTold a0 σ
theorem zo_m_x_leastTold : zz_okm zz_inf 15 zw_x_leastTold := fun vs σ r τ h => by
  obtain ⟨a0, rfl, h⟩ := zz_f1_ok h
  exact zz_meth zi_x_leastTold zy_x_leastTold (zo_x_leastTold [a0] σ r τ h)
def zk_x_mostTold : List zz_E := [(0, false, .iload_n 1, 1, 0, (0, 0, 0, 0), 0, []),
  (1, false, .tableswitch 40 0 2 #[27, 30, 33], 27, 0, (41, 0, 0, 0), 0, [28, 31, 34]),
  (28, false, .bipush 120, 2, 0, (0, 0, 0, 0), 0, []),
  (30, false, .ireturn, 1, 0, (0, 0, 0, 0), 0, []),
  (31, false, .bipush 9, 2, 0, (0, 0, 0, 0), 0, []),
  (33, false, .ireturn, 1, 0, (0, 0, 0, 0), 0, []),
  (34, false, .aload_n 0, 1, 0, (0, 0, 0, 0), 0, []),
  (35, false, .getfield 72, 3, 177, (3, 14, 0, 0), 0, []),
  (38, false, .iconst 1, 1, 0, (0, 0, 0, 0), 0, []),
  (39, false, .isub, 1, 0, (0, 0, 0, 0), 0, []),
  (40, false, .ireturn, 1, 0, (0, 0, 0, 0), 0, []),
  (41, false, .iconst 2, 1, 0, (0, 0, 0, 0), 0, []),
  (42, false, .ireturn, 1, 0, (0, 0, 0, 0), 0, [])]
theorem zc_x_mostTold : zk_x_mostTold.all (zz_ck zz_inf zM_x_mostTold) = true ∧ zz_ch zk_x_mostTold = true := ⟨by decide +kernel, by decide +kernel⟩
noncomputable def x_mostTold (v1 : Int) (σ : zz_S) : zz_R := (if v1 = 0 then (some (120, σ)) else (if v1 = 1 then (some (9, σ)) else (if v1 = 2 then (some ((zz_r ((zz_h σ 3 1 14) - 1)), σ)) else (some (2, σ)))))
set_option maxRecDepth 100000 in
set_option maxHeartbeats 4000000 in
theorem ze_x_mostTold (v1 : Int) (σ : zz_S) : x_mostTold v1 σ = zz_ev (zz_CE []) (zz_KE []) zk_x_mostTold 0 false 0 0 400 true (zz_sk zk_x_mostTold 0) [(0, 5, 1), (1, 0, v1)] [] σ := rfl
theorem zo_x_mostTold : zz_okb zM_x_mostTold 0 [(0, 5, true), (1, 0, false)] (zz_f1 x_mostTold) :=
  fun vs σ r τ h => by
    obtain ⟨v1, rfl, h⟩ := zz_f1_ok h
    exact zz_from zc_x_mostTold zz_oc0 zz_ol0 ((ze_x_mostTold v1 σ).symm.trans h)
noncomputable def zw_x_mostTold : List Int → zz_S → zz_R := zz_f2 fun a0 a1 σ => if a0 = 1 then x_mostTold a1 σ else none
theorem zo_m_x_mostTold : zz_okm zz_inf 16 zw_x_mostTold := fun vs σ r τ h => by
  obtain ⟨a0, a1, rfl, h⟩ := zz_f2_ok h
  obtain ⟨e, h⟩ := zz_it h
  subst e
  exact zz_meth zi_x_mostTold zy_x_mostTold (zo_x_mostTold [a1] σ r τ h)
def zk_x_set : List zz_E := [(0, false, .aload_n 0, 1, 0, (0, 0, 0, 0), 0, []),
  (1, false, .iload_n 1, 1, 0, (0, 0, 0, 0), 0, []),
  (2, false, .invokevirtual 100, 3, 385, (73, 2, 9, 0), 0, [0, 5]),
  (5, false, .astore 4, 2, 0, (0, 0, 0, 0), 0, []),
  (7, false, .aload 4, 2, 0, (0, 0, 0, 0), 0, []),
  (9, false, .ifnull 12, 3, 0, (21, 0, 0, 0), 0, []),
  (12, false, .iload_n 2, 1, 0, (0, 0, 0, 0), 0, []),
  (13, false, .iconst 0, 1, 0, (0, 0, 0, 0), 0, []),
  (14, false, .iconst 5, 1, 0, (0, 0, 0, 0), 0, []),
  (15, false, .invokestatic 91, 3, 228, (72, 3, 0, 0), 0, [0, 0, 0]),
  (18, false, .ifCond .ne 6, 3, 0, (24, 0, 0, 0), 0, []),
  (21, false, .bipush (-2), 2, 0, (0, 0, 0, 0), 0, []),
  (23, false, .ireturn, 1, 0, (0, 0, 0, 0), 0, []),
  (24, false, .iload_n 3, 1, 0, (0, 0, 0, 0), 0, []),
  (25, false, .iload_n 2, 1, 0, (0, 0, 0, 0), 0, []),
  (26, false, .invokestatic 104, 3, 389, (15, 1, 0, 0), 0, [0]),
  (29, false, .aload_n 0, 1, 0, (0, 0, 0, 0), 0, []),
  (30, false, .iload_n 2, 1, 0, (0, 0, 0, 0), 0, []),
  (31, false, .invokevirtual 108, 3, 392, (16, 2, 0, 0), 0, [0, 5]),
  (34, false, .invokestatic 91, 3, 228, (72, 3, 0, 0), 0, [0, 0, 0]),
  (37, false, .ifCond .ne 6, 3, 0, (43, 0, 0, 0), 0, []),
  (40, false, .bipush (-2), 2, 0, (0, 0, 0, 0), 0, []),
  (42, false, .ireturn, 1, 0, (0, 0, 0, 0), 0, []),
  (43, false, .aload 4, 2, 0, (0, 0, 0, 0), 0, []),
  (45, false, .getfield 111, 3, 308, (7, 4, 30, 1), 0, []),
  (48, false, .iload_n 2, 1, 0, (0, 0, 0, 0), 0, []),
  (49, false, .iaload, 1, 0, (28, 0, 0, 0), 0, []),
  (50, false, .istore 5, 2, 0, (0, 0, 0, 0), 0, []),
  (52, false, .aload 4, 2, 0, (0, 0, 0, 0), 0, []),
  (54, false, .getfield 111, 3, 308, (7, 4, 30, 1), 0, []),
  (57, false, .iload_n 2, 1, 0, (0, 0, 0, 0), 0, []),
  (58, false, .iload_n 3, 1, 0, (0, 0, 0, 0), 0, []),
  (59, false, .iastore, 1, 0, (28, 0, 0, 0), 0, []),
  (60, false, .iload 5, 2, 0, (0, 0, 0, 0), 0, []),
  (62, false, .ireturn, 1, 0, (0, 0, 0, 0), 0, [])]
theorem zc_x_set : zk_x_set.all (zz_ck zz_inf zM_x_set) = true ∧ zz_ch zk_x_set = true := ⟨by decide +kernel, by decide +kernel⟩
noncomputable def x_set (v1 v2 v3 : Int) (σ : zz_S) : zz_R := ((x_taskAt v1 σ).bind fun q1 => (if q1.1 = 0 then (some ((-2), q1.2)) else ((x_isWithin v2 0 5 q1.2).bind fun q2 => (if q2.1 = 0 then (some ((-2), q2.2)) else ((x_leastTold v2 q2.2).bind fun q3 => ((x_mostTold v2 q3.2).bind fun q4 => ((x_isWithin v3 q3.1 q4.1 q4.2).bind fun q5 => (if q5.1 = 0 then (some ((-2), q5.2)) else (if q1.1 = 0 then none else (if q1.1 = 0 then none else (if zz_b q5.2 28 q1.1 v2 then (if q1.1 = 0 then none else (if q1.1 = 0 then none else (if zz_b q5.2 28 q1.1 v2 then (let s6 := zz_w q5.2 28 q1.1 v2 v3; (some ((zz_h q5.2 28 q1.1 v2), s6))) else none))) else none)))))))))))
set_option maxRecDepth 100000 in
set_option maxHeartbeats 4000000 in
theorem ze_x_set (v1 v2 v3 : Int) (σ : zz_S) : x_set v1 v2 v3 σ = zz_ev (zz_CE [(15, zw_x_leastTold), (16, zw_x_mostTold), (72, zw_x_isWithin), (73, zw_x_taskAt)]) (zz_KE []) zk_x_set 0 false 0 0 400 true (zz_sk zk_x_set 0) [(0, 5, 1), (1, 0, v1), (2, 0, v2), (3, 0, v3)] [] σ := rfl
theorem zo_x_set : zz_okb zM_x_set 0 [(0, 5, true), (1, 0, false), (2, 0, false), (3, 0, false)] (zz_f3 x_set) :=
  fun vs σ r τ h => by
    obtain ⟨v1, v2, v3, rfl, h⟩ := zz_f3_ok h
    exact zz_from zc_x_set (zz_occ zo_m_x_leastTold (zz_occ zo_m_x_mostTold (zz_occ zo_m_x_isWithin (zz_occ zo_m_x_taskAt zz_oc0)))) zz_ol0 ((ze_x_set v1 v2 v3 σ).symm.trans h)
noncomputable def zw_x_set : List Int → zz_S → zz_R := zz_f4 fun a0 a1 a2 a3 σ => if a0 = 1 then x_set a1 a2 a3 σ else none
theorem zo_m_x_set : zz_okm zz_inf 14 zw_x_set := fun vs σ r τ h => by
  obtain ⟨a0, a1, a2, a3, rfl, h⟩ := zz_f4_ok h
  obtain ⟨e, h⟩ := zz_it h
  subst e
  exact zz_meth zi_x_set zy_x_set (zo_x_set [a1, a2, a3] σ r τ h)
def zk_xC_isForm : List zz_E := [(0, false, .iload_n 0, 1, 0, (0, 0, 0, 0), 0, []),
  (1, false, .iconst 0, 1, 0, (0, 0, 0, 0), 0, []),
  (2, false, .getstatic 40, 3, 403, (2, 0, 0, 0), 0, []),
  (5, false, .arraylength, 1, 0, (2, 0, 0, 0), 0, []),
  (6, false, .iconst 1, 1, 0, (0, 0, 0, 0), 0, []),
  (7, false, .isub, 1, 0, (0, 0, 0, 0), 0, []),
  (8, false, .invokestatic 44, 3, 405, (72, 3, 0, 1), 0, [0, 0, 0]),
  (11, false, .ifCond .ne 5, 3, 0, (16, 0, 0, 0), 0, []),
  (14, false, .iconst 0, 1, 0, (0, 0, 0, 0), 0, []),
  (15, false, .ireturn, 1, 0, (0, 0, 0, 0), 0, []),
  (16, false, .iload_n 0, 1, 0, (0, 0, 0, 0), 0, []),
  (17, false, .bipush 6, 2, 0, (0, 0, 0, 0), 0, []),
  (19, false, .if_icmp .eq 33, 3, 0, (52, 0, 0, 0), 0, []),
  (22, false, .iload_n 1, 1, 0, (0, 0, 0, 0), 0, []),
  (23, false, .iload_n 0, 1, 0, (0, 0, 0, 0), 0, []),
  (24, false, .iconst 5, 1, 0, (0, 0, 0, 0), 0, []),
  (25, false, .if_icmp .eq 9, 3, 0, (34, 0, 0, 0), 0, []),
  (28, false, .iload_n 0, 1, 0, (0, 0, 0, 0), 0, []),
  (29, false, .bipush 7, 2, 0, (0, 0, 0, 0), 0, []),
  (31, false, .if_icmp .lt 7, 3, 0, (38, 0, 0, 0), 0, []),
  (34, false, .iconst 1, 1, 0, (0, 0, 0, 0), 0, []),
  (35, false, .goto 4, 3, 0, (39, 0, 0, 0), 0, []),
  (38, false, .iconst 0, 1, 0, (0, 0, 0, 0), 0, []),
  (39, false, .getstatic 40, 3, 403, (2, 0, 0, 0), 0, []),
  (42, false, .iload_n 0, 1, 0, (0, 0, 0, 0), 0, []),
  (43, false, .iaload, 1, 0, (2, 0, 0, 0), 0, []),
  (44, false, .invokestatic 44, 3, 405, (72, 3, 0, 1), 0, [0, 0, 0]),
  (47, false, .ifCond .ne 5, 3, 0, (52, 0, 0, 0), 0, []),
  (50, false, .iconst 0, 1, 0, (0, 0, 0, 0), 0, []),
  (51, false, .ireturn, 1, 0, (0, 0, 0, 0), 0, []),
  (52, true, .iload_n 0, 1, 0, (0, 0, 0, 0), 0, []),
  (53, false, .iconst 2, 1, 0, (0, 0, 0, 0), 0, []),
  (54, false, .if_icmp .ne 11, 3, 0, (65, 0, 0, 0), 0, []),
  (57, false, .iload_n 2, 1, 0, (0, 0, 0, 0), 0, []),
  (58, false, .iload_n 1, 1, 0, (0, 0, 0, 0), 0, []),
  (59, false, .bipush 23, 2, 0, (0, 0, 0, 0), 0, []),
  (61, false, .invokestatic 44, 3, 405, (72, 3, 0, 1), 0, [0, 0, 0]),
  (64, false, .ireturn, 1, 0, (0, 0, 0, 0), 0, []),
  (65, false, .iload_n 0, 1, 0, (0, 0, 0, 0), 0, []),
  (66, false, .iconst 4, 1, 0, (0, 0, 0, 0), 0, []),
  (67, false, .if_icmp .eq 9, 3, 0, (76, 0, 0, 0), 0, []),
  (70, false, .iload_n 0, 1, 0, (0, 0, 0, 0), 0, []),
  (71, false, .bipush 7, 2, 0, (0, 0, 0, 0), 0, []),
  (73, false, .if_icmp .ne 13, 3, 0, (86, 0, 0, 0), 0, []),
  (76, true, .iload_n 2, 1, 0, (0, 0, 0, 0), 0, []),
  (77, false, .iconst 0, 1, 0, (0, 0, 0, 0), 0, []),
  (78, false, .bipush 6, 2, 0, (0, 0, 0, 0), 0, []),
  (80, false, .invokestatic 44, 3, 405, (72, 3, 0, 1), 0, [0, 0, 0]),
  (83, false, .ifCond .eq 7, 3, 0, (90, 0, 0, 0), 0, []),
  (86, false, .iconst 1, 1, 0, (0, 0, 0, 0), 0, []),
  (87, false, .goto 4, 3, 0, (91, 0, 0, 0), 0, []),
  (90, false, .iconst 0, 1, 0, (0, 0, 0, 0), 0, []),
  (91, false, .ireturn, 1, 0, (0, 0, 0, 0), 0, [])]
theorem zc_xC_isForm : zk_xC_isForm.all (zz_ck zz_inf zM_xC_isForm) = true ∧ zz_ch zk_xC_isForm = true := ⟨by decide +kernel, by decide +kernel⟩
noncomputable def xC_isForm_76 (v2 : Int) (σ : zz_S) : zz_R := ((x_isWithin v2 0 6 σ).bind fun q1 => (if q1.1 = 0 then (some (0, q1.2)) else (some (1, q1.2))))
set_option maxRecDepth 100000 in
set_option maxHeartbeats 4000000 in
theorem ze_xC_isForm_76 (v2 : Int) (σ : zz_S) : xC_isForm_76 v2 σ = zz_ev (zz_CE [(72, zw_x_isWithin)]) (zz_KE []) zk_xC_isForm 0 true 0 0 400 true (zz_sk zk_xC_isForm 76) [(2, 0, v2)] [] σ := rfl
theorem zo_xC_isForm_76 : zz_okb zM_xC_isForm 76 [(2, 0, false)] (zz_f1 xC_isForm_76) :=
  fun vs σ r τ h => by
    obtain ⟨v2, rfl, h⟩ := zz_f1_ok h
    exact zz_from zc_xC_isForm (zz_occ zo_m_x_isWithin zz_oc0) zz_ol0 ((ze_xC_isForm_76 v2 σ).symm.trans h)
noncomputable def xC_isForm_52 (v0 v1 v2 : Int) (σ : zz_S) : zz_R := (if v0 = 2 then ((x_isWithin v2 v1 23 σ).bind fun q1 => (if zz_o q1.1 then (some (q1.1, q1.2)) else none)) else (if v0 = 4 then (xC_isForm_76 v2 σ) else (if v0 = 7 then (xC_isForm_76 v2 σ) else (some (1, σ)))))
set_option maxRecDepth 100000 in
set_option maxHeartbeats 4000000 in
theorem ze_xC_isForm_52 (v0 v1 v2 : Int) (σ : zz_S) : xC_isForm_52 v0 v1 v2 σ = zz_ev (zz_CE [(72, zw_x_isWithin)]) (zz_KE [(76, [(2, 0, false)], zz_f1 (xC_isForm_76))]) zk_xC_isForm 0 true 0 0 400 true (zz_sk zk_xC_isForm 52) [(0, 0, v0), (1, 0, v1), (2, 0, v2)] [] σ := rfl
theorem zo_xC_isForm_52 : zz_okb zM_xC_isForm 52 [(0, 0, false), (1, 0, false), (2, 0, false)] (zz_f3 xC_isForm_52) :=
  fun vs σ r τ h => by
    obtain ⟨v0, v1, v2, rfl, h⟩ := zz_f3_ok h
    exact zz_from zc_xC_isForm (zz_occ zo_m_x_isWithin zz_oc0) (zz_olc (zo_xC_isForm_76) zz_ol0) ((ze_xC_isForm_52 v0 v1 v2 σ).symm.trans h)
noncomputable def xC_isForm (v0 v1 v2 : Int) (σ : zz_S) : zz_R := ((x_isWithin v0 0 (zz_r ((zz_al σ 2 1) - 1)) σ).bind fun q1 => (if q1.1 = 0 then (some (0, q1.2)) else (if v0 = 6 then (xC_isForm_52 v0 v1 v2 q1.2) else (if v0 = 5 then (if zz_b q1.2 2 1 v0 then ((x_isWithin v1 1 (zz_h q1.2 2 1 v0) q1.2).bind fun q2 => (if q2.1 = 0 then (some (0, q2.2)) else (xC_isForm_52 v0 v1 v2 q2.2))) else none) else (if v0 < 7 then (if zz_b q1.2 2 1 v0 then ((x_isWithin v1 0 (zz_h q1.2 2 1 v0) q1.2).bind fun q3 => (if q3.1 = 0 then (some (0, q3.2)) else (xC_isForm_52 v0 v1 v2 q3.2))) else none) else (if zz_b q1.2 2 1 v0 then ((x_isWithin v1 1 (zz_h q1.2 2 1 v0) q1.2).bind fun q4 => (if q4.1 = 0 then (some (0, q4.2)) else (xC_isForm_52 v0 v1 v2 q4.2))) else none))))))
set_option maxRecDepth 100000 in
set_option maxHeartbeats 4000000 in
theorem ze_xC_isForm (v0 v1 v2 : Int) (σ : zz_S) : xC_isForm v0 v1 v2 σ = zz_ev (zz_CE [(72, zw_x_isWithin)]) (zz_KE [(52, [(0, 0, false), (1, 0, false), (2, 0, false)], zz_f3 (xC_isForm_52))]) zk_xC_isForm 0 true 0 0 400 true (zz_sk zk_xC_isForm 0) [(0, 0, v0), (1, 0, v1), (2, 0, v2)] [] σ := rfl
theorem zo_xC_isForm : zz_okb zM_xC_isForm 0 [(0, 0, false), (1, 0, false), (2, 0, false)] (zz_f3 xC_isForm) :=
  fun vs σ r τ h => by
    obtain ⟨v0, v1, v2, rfl, h⟩ := zz_f3_ok h
    exact zz_from zc_xC_isForm (zz_occ zo_m_x_isWithin zz_oc0) (zz_olc (zo_xC_isForm_52) zz_ol0) ((ze_xC_isForm v0 v1 v2 σ).symm.trans h)
noncomputable def zw_xC_isForm : List Int → zz_S → zz_R := zz_f3 fun a0 a1 a2 σ => xC_isForm a0 a1 a2 σ
theorem zo_m_xC_isForm : zz_okm zz_inf 94 zw_xC_isForm := fun vs σ r τ h => by
  obtain ⟨a0, a1, a2, rfl, h⟩ := zz_f3_ok h
  exact zz_meth zi_xC_isForm zy_xC_isForm (zo_xC_isForm [a0, a1, a2] σ r τ h)
def zk_xC_ring : List zz_E := [(0, false, .iconst 0, 1, 0, (0, 0, 0, 0), 0, []),
  (1, false, .istore_n 3, 1, 0, (0, 0, 0, 0), 0, []),
  (2, false, .iconst 0, 1, 0, (0, 0, 0, 0), 0, []),
  (3, false, .istore 4, 2, 0, (0, 0, 0, 0), 0, []),
  (5, true, .iload 4, 2, 0, (0, 0, 0, 0), 0, []),
  (7, false, .iload_n 2, 1, 0, (0, 0, 0, 0), 0, []),
  (8, false, .if_icmp .ge 65, 3, 0, (73, 0, 0, 0), 0, []),
  (11, false, .iload_n 0, 1, 0, (0, 0, 0, 0), 0, []),
  (12, false, .iload_n 1, 1, 0, (0, 0, 0, 0), 0, []),
  (13, false, .if_icmp .gt 23, 3, 0, (36, 0, 0, 0), 0, []),
  (16, false, .iload 4, 2, 0, (0, 0, 0, 0), 0, []),
  (18, false, .iload_n 0, 1, 0, (0, 0, 0, 0), 0, []),
  (19, false, .if_icmp .lt 13, 3, 0, (32, 0, 0, 0), 0, []),
  (22, false, .iload 4, 2, 0, (0, 0, 0, 0), 0, []),
  (24, false, .iload_n 1, 1, 0, (0, 0, 0, 0), 0, []),
  (25, false, .if_icmp .gt 7, 3, 0, (32, 0, 0, 0), 0, []),
  (28, false, .iconst 1, 1, 0, (0, 0, 0, 0), 0, []),
  (29, false, .goto 24, 3, 0, (53, 0, 0, 0), 0, []),
  (32, true, .iconst 0, 1, 0, (0, 0, 0, 0), 0, []),
  (33, false, .goto 20, 3, 0, (53, 0, 0, 0), 0, []),
  (36, false, .iload 4, 2, 0, (0, 0, 0, 0), 0, []),
  (38, false, .iload_n 0, 1, 0, (0, 0, 0, 0), 0, []),
  (39, false, .if_icmp .ge 9, 3, 0, (48, 0, 0, 0), 0, []),
  (42, false, .iload 4, 2, 0, (0, 0, 0, 0), 0, []),
  (44, false, .iload_n 1, 1, 0, (0, 0, 0, 0), 0, []),
  (45, false, .if_icmp .gt 7, 3, 0, (52, 0, 0, 0), 0, []),
  (48, true, .iconst 1, 1, 0, (0, 0, 0, 0), 0, []),
  (49, false, .goto 4, 3, 0, (53, 0, 0, 0), 0, []),
  (52, false, .iconst 0, 1, 0, (0, 0, 0, 0), 0, []),
  (53, false, .istore 5, 2, 0, (0, 0, 0, 0), 0, []),
  (55, false, .iload 5, 2, 0, (0, 0, 0, 0), 0, []),
  (57, false, .ifCond .eq 10, 3, 0, (67, 0, 0, 0), 0, []),
  (60, false, .iload_n 3, 1, 0, (0, 0, 0, 0), 0, []),
  (61, false, .iconst 1, 1, 0, (0, 0, 0, 0), 0, []),
  (62, false, .iload 4, 2, 0, (0, 0, 0, 0), 0, []),
  (64, false, .ishl, 1, 0, (0, 0, 0, 0), 0, []),
  (65, false, .ior, 1, 0, (0, 0, 0, 0), 0, []),
  (66, false, .istore_n 3, 1, 0, (0, 0, 0, 0), 0, []),
  (67, false, .iinc 4 1, 3, 0, (0, 0, 0, 0), 0, []),
  (70, false, .goto (-65), 3, 0, (5, 0, 0, 0), 0, []),
  (73, false, .iload_n 3, 1, 0, (0, 0, 0, 0), 0, []),
  (74, false, .ireturn, 1, 0, (0, 0, 0, 0), 0, [])]
theorem zc_xC_ring : zk_xC_ring.all (zz_ck zz_inf zM_xC_ring) = true ∧ zz_ch zk_xC_ring = true := ⟨by decide +kernel, by decide +kernel⟩
noncomputable def xC_ring_48 (k5 : Int → Int → Int → Int → Int → zz_S → zz_R) (v0 v1 v2 v3 v4 : Int) (σ : zz_S) : zz_R := (k5 v0 v1 v2 (zz_or v3 (zz_shl 1 v4)) (zz_r (v4 + 1)) σ)
set_option maxRecDepth 100000 in
set_option maxHeartbeats 4000000 in
theorem ze_xC_ring_48 (k5 : Int → Int → Int → Int → Int → zz_S → zz_R) (v0 v1 v2 v3 v4 : Int) (σ : zz_S) : xC_ring_48 k5 v0 v1 v2 v3 v4 σ = zz_ev (zz_CE []) (zz_KE [(5, [(0, 0, false), (1, 0, false), (2, 0, false), (3, 0, false), (4, 0, false)], zz_f5 k5)]) zk_xC_ring 0 false 0 0 400 true (zz_sk zk_xC_ring 48) [(0, 0, v0), (1, 0, v1), (2, 0, v2), (3, 0, v3), (4, 0, v4)] [] σ := rfl
theorem zo_xC_ring_48 (k5 : Int → Int → Int → Int → Int → zz_S → zz_R) (hk5 : zz_okb zM_xC_ring 5 [(0, 0, false), (1, 0, false), (2, 0, false), (3, 0, false), (4, 0, false)] (zz_f5 k5)) : zz_okb zM_xC_ring 48 [(0, 0, false), (1, 0, false), (2, 0, false), (3, 0, false), (4, 0, false)] (zz_f5 (xC_ring_48 k5)) :=
  fun vs σ r τ h => by
    obtain ⟨v0, v1, v2, v3, v4, rfl, h⟩ := zz_f5_ok h
    exact zz_from zc_xC_ring zz_oc0 (zz_olc hk5 zz_ol0) ((ze_xC_ring_48 k5 v0 v1 v2 v3 v4 σ).symm.trans h)
noncomputable def xC_ring_32 (k5 : Int → Int → Int → Int → Int → zz_S → zz_R) (v0 v1 v2 v3 v4 : Int) (σ : zz_S) : zz_R := (k5 v0 v1 v2 v3 (zz_r (v4 + 1)) σ)
set_option maxRecDepth 100000 in
set_option maxHeartbeats 4000000 in
theorem ze_xC_ring_32 (k5 : Int → Int → Int → Int → Int → zz_S → zz_R) (v0 v1 v2 v3 v4 : Int) (σ : zz_S) : xC_ring_32 k5 v0 v1 v2 v3 v4 σ = zz_ev (zz_CE []) (zz_KE [(5, [(0, 0, false), (1, 0, false), (2, 0, false), (3, 0, false), (4, 0, false)], zz_f5 k5)]) zk_xC_ring 0 false 0 0 400 true (zz_sk zk_xC_ring 32) [(0, 0, v0), (1, 0, v1), (2, 0, v2), (3, 0, v3), (4, 0, v4)] [] σ := rfl
theorem zo_xC_ring_32 (k5 : Int → Int → Int → Int → Int → zz_S → zz_R) (hk5 : zz_okb zM_xC_ring 5 [(0, 0, false), (1, 0, false), (2, 0, false), (3, 0, false), (4, 0, false)] (zz_f5 k5)) : zz_okb zM_xC_ring 32 [(0, 0, false), (1, 0, false), (2, 0, false), (3, 0, false), (4, 0, false)] (zz_f5 (xC_ring_32 k5)) :=
  fun vs σ r τ h => by
    obtain ⟨v0, v1, v2, v3, v4, rfl, h⟩ := zz_f5_ok h
    exact zz_from zc_xC_ring zz_oc0 (zz_olc hk5 zz_ol0) ((ze_xC_ring_32 k5 v0 v1 v2 v3 v4 σ).symm.trans h)
noncomputable def xC_ring_5 : Nat → Int → Int → Int → Int → Int → zz_S → zz_R
  | 0, _, _, _, _, _, _ => none
  | n + 1, v0, v1, v2, v3, v4, σ => (if v4 < v2 then (if v0 ≤ v1 then (if v4 < v0 then (xC_ring_32 (xC_ring_5 n) v0 v1 v2 v3 v4 σ) else (if v4 ≤ v1 then (xC_ring_5 n v0 v1 v2 (zz_or v3 (zz_shl 1 v4)) (zz_r (v4 + 1)) σ) else (xC_ring_32 (xC_ring_5 n) v0 v1 v2 v3 v4 σ))) else (if v4 < v0 then (if v4 ≤ v1 then (xC_ring_48 (xC_ring_5 n) v0 v1 v2 v3 v4 σ) else (xC_ring_5 n v0 v1 v2 v3 (zz_r (v4 + 1)) σ)) else (xC_ring_48 (xC_ring_5 n) v0 v1 v2 v3 v4 σ))) else (some (v3, σ)))
set_option maxRecDepth 100000 in
set_option maxHeartbeats 4000000 in
theorem ze_xC_ring_5 (n : Nat) (v0 v1 v2 v3 v4 : Int) (σ : zz_S) : xC_ring_5 (n + 1) v0 v1 v2 v3 v4 σ = zz_ev (zz_CE []) (zz_KE [(5, [(0, 0, false), (1, 0, false), (2, 0, false), (3, 0, false), (4, 0, false)], zz_f5 (xC_ring_5 n)), (32, [(0, 0, false), (1, 0, false), (2, 0, false), (3, 0, false), (4, 0, false)], zz_f5 (xC_ring_32 (xC_ring_5 n))), (48, [(0, 0, false), (1, 0, false), (2, 0, false), (3, 0, false), (4, 0, false)], zz_f5 (xC_ring_48 (xC_ring_5 n)))]) zk_xC_ring 0 false 0 0 400 true (zz_sk zk_xC_ring 5) [(0, 0, v0), (1, 0, v1), (2, 0, v2), (3, 0, v3), (4, 0, v4)] [] σ := rfl
theorem zo_xC_ring_5 : ∀ n : Nat, zz_okb zM_xC_ring 5 [(0, 0, false), (1, 0, false), (2, 0, false), (3, 0, false), (4, 0, false)] (zz_f5 (xC_ring_5 n))
  | 0 => fun vs σ r τ h => by
    obtain ⟨v0, v1, v2, v3, v4, rfl, h⟩ := zz_f5_ok h
    exact nomatch (show (none : zz_R) = some (r, τ) from h)
  | n + 1 => by
    have ih := zo_xC_ring_5 n
    exact fun vs σ r τ h => by
        obtain ⟨v0, v1, v2, v3, v4, rfl, h⟩ := zz_f5_ok h
        exact zz_from zc_xC_ring zz_oc0 (zz_olc ih (zz_olc (zo_xC_ring_32 (xC_ring_5 n) ih) (zz_olc (zo_xC_ring_48 (xC_ring_5 n) ih) zz_ol0))) ((ze_xC_ring_5 n v0 v1 v2 v3 v4 σ).symm.trans h)
noncomputable def xC_ring (v0 v1 v2 : Int) (σ : zz_S) : zz_R := (xC_ring_5 zz_fu v0 v1 v2 0 0 σ)
set_option maxRecDepth 100000 in
set_option maxHeartbeats 4000000 in
theorem ze_xC_ring (v0 v1 v2 : Int) (σ : zz_S) : xC_ring v0 v1 v2 σ = zz_ev (zz_CE []) (zz_KE [(5, [(0, 0, false), (1, 0, false), (2, 0, false), (3, 0, false), (4, 0, false)], zz_f5 (xC_ring_5 zz_fu))]) zk_xC_ring 0 false 0 0 400 true (zz_sk zk_xC_ring 0) [(0, 0, v0), (1, 0, v1), (2, 0, v2)] [] σ := rfl
theorem zo_xC_ring : zz_okb zM_xC_ring 0 [(0, 0, false), (1, 0, false), (2, 0, false)] (zz_f3 xC_ring) :=
  fun vs σ r τ h => by
    obtain ⟨v0, v1, v2, rfl, h⟩ := zz_f3_ok h
    exact zz_from zc_xC_ring zz_oc0 (zz_olc (zo_xC_ring_5 zz_fu) zz_ol0) ((ze_xC_ring v0 v1 v2 σ).symm.trans h)
noncomputable def zw_xC_ring : List Int → zz_S → zz_R := zz_f3 fun a0 a1 a2 σ => xC_ring a0 a1 a2 σ
theorem zo_m_xC_ring : zz_okm zz_inf 96 zw_xC_ring := fun vs σ r τ h => by
  obtain ⟨a0, a1, a2, rfl, h⟩ := zz_f3_ok h
  exact zz_meth zi_xC_ring zy_xC_ring (zo_xC_ring [a0, a1, a2] σ r τ h)
def zk_xC_add : List zz_E := [(0, false, .aload_n 0, 1, 0, (0, 0, 0, 0), 0, []),
  (1, false, .dup, 1, 0, (0, 0, 0, 0), 0, []),
  (2, false, .getfield 9, 3, 253, (8, 0, 0, 0), 0, []),
  (5, false, .iconst 1, 1, 0, (0, 0, 0, 0), 0, []),
  (6, false, .iadd, 1, 0, (0, 0, 0, 0), 0, []),
  (7, false, .putfield 9, 3, 253, (8, 0, 0, 0), 0, []),
  (10, false, .iload_n 1, 1, 0, (0, 0, 0, 0), 0, []),
  (11, false, .tableswitch 203 0 8 #[49, 64, 79, 98, 113, 132, 149, 157, 186], 49, 0, (214, 0, 0, 0), 0, [60, 75, 90, 109, 124, 143, 160, 168, 197]),
  (60, false, .aload_n 0, 1, 0, (0, 0, 0, 0), 0, []),
  (61, false, .dup, 1, 0, (0, 0, 0, 0), 0, []),
  (62, false, .getfield 17, 3, 255, (8, 1, 1, 0), 0, []),
  (65, false, .lconst 1, 1, 0, (0, 0, 0, 0), 1, []),
  (66, false, .iload_n 2, 1, 0, (0, 0, 0, 0), 0, []),
  (67, false, .lshl, 1, 0, (0, 0, 0, 0), 0, []),
  (68, false, .land, 1, 0, (0, 0, 0, 0), 0, []),
  (69, false, .putfield 17, 3, 255, (8, 1, 1, 0), 0, []),
  (72, false, .goto 142, 3, 0, (214, 0, 0, 0), 0, []),
  (75, false, .aload_n 0, 1, 0, (0, 0, 0, 0), 0, []),
  (76, false, .dup, 1, 0, (0, 0, 0, 0), 0, []),
  (77, false, .getfield 21, 3, 256, (8, 2, 0, 0), 0, []),
  (80, false, .iconst 1, 1, 0, (0, 0, 0, 0), 0, []),
  (81, false, .iload_n 2, 1, 0, (0, 0, 0, 0), 0, []),
  (82, false, .ishl, 1, 0, (0, 0, 0, 0), 0, []),
  (83, false, .iand, 1, 0, (0, 0, 0, 0), 0, []),
  (84, false, .putfield 21, 3, 256, (8, 2, 0, 0), 0, []),
  (87, false, .goto 127, 3, 0, (214, 0, 0, 0), 0, []),
  (90, false, .aload_n 0, 1, 0, (0, 0, 0, 0), 0, []),
  (91, false, .dup, 1, 0, (0, 0, 0, 0), 0, []),
  (92, false, .getfield 21, 3, 256, (8, 2, 0, 0), 0, []),
  (95, false, .iload_n 2, 1, 0, (0, 0, 0, 0), 0, []),
  (96, false, .iload_n 3, 1, 0, (0, 0, 0, 0), 0, []),
  (97, false, .bipush 24, 2, 0, (0, 0, 0, 0), 0, []),
  (99, false, .invokestatic 48, 3, 410, (96, 3, 0, 0), 0, [0, 0, 0]),
  (102, false, .iand, 1, 0, (0, 0, 0, 0), 0, []),
  (103, false, .putfield 21, 3, 256, (8, 2, 0, 0), 0, []),
  (106, false, .goto 108, 3, 0, (214, 0, 0, 0), 0, []),
  (109, false, .aload_n 0, 1, 0, (0, 0, 0, 0), 0, []),
  (110, false, .dup, 1, 0, (0, 0, 0, 0), 0, []),
  (111, false, .getfield 24, 3, 257, (8, 3, 0, 0), 0, []),
  (114, false, .iconst 1, 1, 0, (0, 0, 0, 0), 0, []),
  (115, false, .iload_n 2, 1, 0, (0, 0, 0, 0), 0, []),
  (116, false, .ishl, 1, 0, (0, 0, 0, 0), 0, []),
  (117, false, .iand, 1, 0, (0, 0, 0, 0), 0, []),
  (118, false, .putfield 24, 3, 257, (8, 3, 0, 0), 0, []),
  (121, false, .goto 93, 3, 0, (214, 0, 0, 0), 0, []),
  (124, false, .aload_n 0, 1, 0, (0, 0, 0, 0), 0, []),
  (125, false, .dup, 1, 0, (0, 0, 0, 0), 0, []),
  (126, false, .getfield 24, 3, 257, (8, 3, 0, 0), 0, []),
  (129, false, .iload_n 2, 1, 0, (0, 0, 0, 0), 0, []),
  (130, false, .iload_n 3, 1, 0, (0, 0, 0, 0), 0, []),
  (131, false, .bipush 7, 2, 0, (0, 0, 0, 0), 0, []),
  (133, false, .invokestatic 48, 3, 410, (96, 3, 0, 0), 0, [0, 0, 0]),
  (136, false, .iand, 1, 0, (0, 0, 0, 0), 0, []),
  (137, false, .putfield 24, 3, 257, (8, 3, 0, 0), 0, []),
  (140, false, .goto 74, 3, 0, (214, 0, 0, 0), 0, []),
  (143, false, .aload_n 0, 1, 0, (0, 0, 0, 0), 0, []),
  (144, false, .dup, 1, 0, (0, 0, 0, 0), 0, []),
  (145, false, .getfield 27, 3, 258, (8, 4, 0, 0), 0, []),
  (148, false, .iconst 1, 1, 0, (0, 0, 0, 0), 0, []),
  (149, false, .iload_n 2, 1, 0, (0, 0, 0, 0), 0, []),
  (150, false, .iconst 1, 1, 0, (0, 0, 0, 0), 0, []),
  (151, false, .isub, 1, 0, (0, 0, 0, 0), 0, []),
  (152, false, .ishl, 1, 0, (0, 0, 0, 0), 0, []),
  (153, false, .iand, 1, 0, (0, 0, 0, 0), 0, []),
  (154, false, .putfield 27, 3, 258, (8, 4, 0, 0), 0, []),
  (157, false, .goto 57, 3, 0, (214, 0, 0, 0), 0, []),
  (160, false, .aload_n 0, 1, 0, (0, 0, 0, 0), 0, []),
  (161, false, .iconst 1, 1, 0, (0, 0, 0, 0), 0, []),
  (162, false, .putfield 36, 3, 261, (8, 7, 0, 0), 1, []),
  (165, false, .goto 49, 3, 0, (214, 0, 0, 0), 0, []),
  (168, false, .aload_n 0, 1, 0, (0, 0, 0, 0), 0, []),
  (169, false, .dup, 1, 0, (0, 0, 0, 0), 0, []),
  (170, false, .getfield 30, 3, 259, (8, 5, 0, 0), 0, []),
  (173, false, .iconst 1, 1, 0, (0, 0, 0, 0), 0, []),
  (174, false, .iload_n 2, 1, 0, (0, 0, 0, 0), 0, []),
  (175, false, .iconst 1, 1, 0, (0, 0, 0, 0), 0, []),
  (176, false, .isub, 1, 0, (0, 0, 0, 0), 0, []),
  (177, false, .ishl, 1, 0, (0, 0, 0, 0), 0, []),
  (178, false, .iand, 1, 0, (0, 0, 0, 0), 0, []),
  (179, false, .putfield 30, 3, 259, (8, 5, 0, 0), 0, []),
  (182, false, .aload_n 0, 1, 0, (0, 0, 0, 0), 0, []),
  (183, false, .dup, 1, 0, (0, 0, 0, 0), 0, []),
  (184, false, .getfield 24, 3, 257, (8, 3, 0, 0), 0, []),
  (187, false, .iconst 1, 1, 0, (0, 0, 0, 0), 0, []),
  (188, false, .iload_n 3, 1, 0, (0, 0, 0, 0), 0, []),
  (189, false, .ishl, 1, 0, (0, 0, 0, 0), 0, []),
  (190, false, .iand, 1, 0, (0, 0, 0, 0), 0, []),
  (191, false, .putfield 24, 3, 257, (8, 3, 0, 0), 0, []),
  (194, false, .goto 20, 3, 0, (214, 0, 0, 0), 0, []),
  (197, false, .aload_n 0, 1, 0, (0, 0, 0, 0), 0, []),
  (198, false, .dup, 1, 0, (0, 0, 0, 0), 0, []),
  (199, false, .getfield 33, 3, 260, (8, 6, 0, 0), 0, []),
  (202, false, .iconst 1, 1, 0, (0, 0, 0, 0), 0, []),
  (203, false, .iload_n 2, 1, 0, (0, 0, 0, 0), 0, []),
  (204, false, .iconst 1, 1, 0, (0, 0, 0, 0), 0, []),
  (205, false, .isub, 1, 0, (0, 0, 0, 0), 0, []),
  (206, false, .ishl, 1, 0, (0, 0, 0, 0), 0, []),
  (207, false, .iand, 1, 0, (0, 0, 0, 0), 0, []),
  (208, false, .putfield 33, 3, 260, (8, 6, 0, 0), 0, []),
  (211, false, .goto 3, 3, 0, (214, 0, 0, 0), 0, []),
  (214, false, .return_, 1, 0, (0, 0, 0, 0), 0, [])]
theorem zc_xC_add : zk_xC_add.all (zz_ck zz_inf zM_xC_add) = true ∧ zz_ch zk_xC_add = true := ⟨by decide +kernel, by decide +kernel⟩
noncomputable def xC_add (v0 v1 v2 v3 : Int) (σ : zz_S) : zz_R := (if v0 = 0 then none else (if v0 = 0 then none else (let s1 := zz_w σ 8 v0 0 (zz_r ((zz_h σ 8 v0 0) + 1)); (if v1 = 0 then (if v0 = 0 then none else (if v0 = 0 then none else (let s13 := zz_w s1 8 v0 1 (zz_land (zz_h s1 8 v0 1) (zz_lshl 1 v2)); (some (0, s13))))) else (if v1 = 1 then (if v0 = 0 then none else (if v0 = 0 then none else (let s12 := zz_w s1 8 v0 2 (zz_and (zz_h s1 8 v0 2) (zz_shl 1 v2)); (some (0, s12))))) else (if v1 = 2 then (if v0 = 0 then none else ((xC_ring v2 v3 24 s1).bind fun q10 => (if v0 = 0 then none else (let s11 := zz_w q10.2 8 v0 2 (zz_and (zz_h s1 8 v0 2) q10.1); (some (0, s11)))))) else (if v1 = 3 then (if v0 = 0 then none else (if v0 = 0 then none else (let s9 := zz_w s1 8 v0 3 (zz_and (zz_h s1 8 v0 3) (zz_shl 1 v2)); (some (0, s9))))) else (if v1 = 4 then (if v0 = 0 then none else ((xC_ring v2 v3 7 s1).bind fun q7 => (if v0 = 0 then none else (let s8 := zz_w q7.2 8 v0 3 (zz_and (zz_h s1 8 v0 3) q7.1); (some (0, s8)))))) else (if v1 = 5 then (if v0 = 0 then none else (if v0 = 0 then none else (let s6 := zz_w s1 8 v0 4 (zz_and (zz_h s1 8 v0 4) (zz_shl 1 (zz_r (v2 - 1)))); (some (0, s6))))) else (if v1 = 6 then (if v0 = 0 then none else (let s5 := zz_w s1 8 v0 7 1; (some (0, s5)))) else (if v1 = 7 then (if v0 = 0 then none else (if v0 = 0 then none else (let s3 := zz_w s1 8 v0 5 (zz_and (zz_h s1 8 v0 5) (zz_shl 1 (zz_r (v2 - 1)))); (if v0 = 0 then none else (if v0 = 0 then none else (let s4 := zz_w s3 8 v0 3 (zz_and (zz_h s3 8 v0 3) (zz_shl 1 v3)); (some (0, s4)))))))) else (if v1 = 8 then (if v0 = 0 then none else (if v0 = 0 then none else (let s2 := zz_w s1 8 v0 6 (zz_and (zz_h s1 8 v0 6) (zz_shl 1 (zz_r (v2 - 1)))); (some (0, s2))))) else (some (0, s1))))))))))))))
set_option maxRecDepth 100000 in
set_option maxHeartbeats 4000000 in
theorem ze_xC_add (v0 v1 v2 v3 : Int) (σ : zz_S) : xC_add v0 v1 v2 v3 σ = zz_ev (zz_CE [(96, zw_xC_ring)]) (zz_KE []) zk_xC_add 999 false 0 0 400 true (zz_sk zk_xC_add 0) [(0, 10, v0), (1, 0, v1), (2, 0, v2), (3, 0, v3)] [] σ := rfl
theorem zo_xC_add : zz_okb zM_xC_add 0 [(0, 10, false), (1, 0, false), (2, 0, false), (3, 0, false)] (zz_f4 xC_add) :=
  fun vs σ r τ h => by
    obtain ⟨v0, v1, v2, v3, rfl, h⟩ := zz_f4_ok h
    exact zz_from zc_xC_add (zz_occ zo_m_xC_ring zz_oc0) zz_ol0 ((ze_xC_add v0 v1 v2 v3 σ).symm.trans h)
noncomputable def zw_xC_add : List Int → zz_S → zz_R := zz_f4 fun a0 a1 a2 a3 σ => xC_add a0 a1 a2 a3 σ
theorem zo_m_xC_add : zz_okm zz_inf 95 zw_xC_add := fun vs σ r τ h => by
  obtain ⟨a0, a1, a2, a3, rfl, h⟩ := zz_f4_ok h
  exact zz_meth zi_xC_add zy_xC_add (zo_xC_add [a0, a1, a2, a3] σ r τ h)
def zk_x_calendar : List zz_E := [(0, false, .aload_n 0, 1, 0, (0, 0, 0, 0), 0, []),
  (1, false, .iload_n 1, 1, 0, (0, 0, 0, 0), 0, []),
  (2, false, .invokevirtual 100, 3, 385, (73, 2, 9, 0), 0, [0, 5]),
  (5, false, .astore 5, 2, 0, (0, 0, 0, 0), 0, []),
  (7, false, .aload 5, 2, 0, (0, 0, 0, 0), 0, []),
  (9, false, .ifnull 22, 3, 0, (31, 0, 0, 0), 0, []),
  (12, false, .aload 5, 2, 0, (0, 0, 0, 0), 0, []),
  (14, false, .getfield 114, 3, 301, (7, 1, 0, 0), 0, []),
  (17, false, .iconst 3, 1, 0, (0, 0, 0, 0), 0, []),
  (18, false, .if_icmp .ne 13, 3, 0, (31, 0, 0, 0), 0, []),
  (21, false, .iload_n 2, 1, 0, (0, 0, 0, 0), 0, []),
  (22, false, .iload_n 3, 1, 0, (0, 0, 0, 0), 0, []),
  (23, false, .iload 4, 2, 0, (0, 0, 0, 0), 0, []),
  (25, false, .invokestatic 117, 3, 400, (94, 3, 0, 0), 0, [0, 0, 0]),
  (28, false, .ifCond .ne 6, 3, 0, (34, 0, 0, 0), 0, []),
  (31, false, .bipush (-2), 2, 0, (0, 0, 0, 0), 0, []),
  (33, false, .ireturn, 1, 0, (0, 0, 0, 0), 0, []),
  (34, false, .aload 5, 2, 0, (0, 0, 0, 0), 0, []),
  (36, false, .getfield 122, 3, 311, (7, 5, 10, 1), 0, []),
  (39, false, .getfield 126, 3, 254, (8, 0, 0, 0), 0, []),
  (42, false, .iconst 4, 1, 0, (0, 0, 0, 0), 0, []),
  (43, false, .if_icmp .lt 6, 3, 0, (49, 0, 0, 0), 0, []),
  (46, false, .bipush (-4), 2, 0, (0, 0, 0, 0), 0, []),
  (48, false, .ireturn, 1, 0, (0, 0, 0, 0), 0, []),
  (49, false, .aload 5, 2, 0, (0, 0, 0, 0), 0, []),
  (51, false, .getfield 122, 3, 311, (7, 5, 10, 1), 0, []),
  (54, false, .iload_n 2, 1, 0, (0, 0, 0, 0), 0, []),
  (55, false, .iload_n 3, 1, 0, (0, 0, 0, 0), 0, []),
  (56, false, .iload 4, 2, 0, (0, 0, 0, 0), 0, []),
  (58, false, .invokevirtual 129, 3, 406, (95, 4, 999, 0), 0, [0, 0, 0, 10]),
  (61, false, .aload 5, 2, 0, (0, 0, 0, 0), 0, []),
  (63, false, .getfield 122, 3, 311, (7, 5, 10, 1), 0, []),
  (66, false, .getfield 126, 3, 254, (8, 0, 0, 0), 0, []),
  (69, false, .ireturn, 1, 0, (0, 0, 0, 0), 0, [])]
theorem zc_x_calendar : zk_x_calendar.all (zz_ck zz_inf zM_x_calendar) = true ∧ zz_ch zk_x_calendar = true := ⟨by decide +kernel, by decide +kernel⟩
noncomputable def x_calendar (v1 v2 v3 v4 : Int) (σ : zz_S) : zz_R := ((x_taskAt v1 σ).bind fun q1 => (if q1.1 = 0 then (some ((-2), q1.2)) else (if q1.1 = 0 then none else (if (zz_h q1.2 7 q1.1 1) = 3 then ((xC_isForm v2 v3 v4 q1.2).bind fun q2 => (if q2.1 = 0 then (some ((-2), q2.2)) else (if q1.1 = 0 then none else (if q1.1 = 0 then none else (if (zz_h q2.2 8 q1.1 0) < 4 then (if q1.1 = 0 then none else (if q1.1 = 0 then none else ((xC_add q1.1 v2 v3 v4 q2.2).bind fun q3 => (if q1.1 = 0 then none else (if q1.1 = 0 then none else (some ((zz_h q3.2 8 q1.1 0), q3.2))))))) else (some ((-4), q2.2))))))) else (some ((-2), q1.2))))))
set_option maxRecDepth 100000 in
set_option maxHeartbeats 4000000 in
theorem ze_x_calendar (v1 v2 v3 v4 : Int) (σ : zz_S) : x_calendar v1 v2 v3 v4 σ = zz_ev (zz_CE [(73, zw_x_taskAt), (94, zw_xC_isForm), (95, zw_xC_add)]) (zz_KE []) zk_x_calendar 0 false 0 0 400 true (zz_sk zk_x_calendar 0) [(0, 5, 1), (1, 0, v1), (2, 0, v2), (3, 0, v3), (4, 0, v4)] [] σ := rfl
theorem zo_x_calendar : zz_okb zM_x_calendar 0 [(0, 5, true), (1, 0, false), (2, 0, false), (3, 0, false), (4, 0, false)] (zz_f4 x_calendar) :=
  fun vs σ r τ h => by
    obtain ⟨v1, v2, v3, v4, rfl, h⟩ := zz_f4_ok h
    exact zz_from zc_x_calendar (zz_occ zo_m_x_taskAt (zz_occ zo_m_xC_isForm (zz_occ zo_m_xC_add zz_oc0))) zz_ol0 ((ze_x_calendar v1 v2 v3 v4 σ).symm.trans h)
noncomputable def zw_x_calendar : List Int → zz_S → zz_R := zz_f5 fun a0 a1 a2 a3 a4 σ => if a0 = 1 then x_calendar a1 a2 a3 a4 σ else none
theorem zo_m_x_calendar : zz_okm zz_inf 17 zw_x_calendar := fun vs σ r τ h => by
  obtain ⟨a0, a1, a2, a3, a4, rfl, h⟩ := zz_f5_ok h
  obtain ⟨e, h⟩ := zz_it h
  subst e
  exact zz_meth zi_x_calendar zy_x_calendar (zo_x_calendar [a1, a2, a3, a4] σ r τ h)
def zk_x_body : List zz_E := [(0, false, .aload_n 0, 1, 0, (0, 0, 0, 0), 0, []),
  (1, false, .iload_n 1, 1, 0, (0, 0, 0, 0), 0, []),
  (2, false, .invokevirtual 100, 3, 385, (73, 2, 9, 0), 0, [0, 5]),
  (5, false, .astore 5, 2, 0, (0, 0, 0, 0), 0, []),
  (7, false, .aload 5, 2, 0, (0, 0, 0, 0), 0, []),
  (9, false, .ifnull 13, 3, 0, (22, 0, 0, 0), 0, []),
  (12, false, .iload_n 2, 1, 0, (0, 0, 0, 0), 0, []),
  (13, false, .iconst 0, 1, 0, (0, 0, 0, 0), 0, []),
  (14, false, .bipush 6, 2, 0, (0, 0, 0, 0), 0, []),
  (16, false, .invokestatic 91, 3, 228, (72, 3, 0, 0), 0, [0, 0, 0]),
  (19, false, .ifCond .ne 6, 3, 0, (25, 0, 0, 0), 0, []),
  (22, false, .bipush (-2), 2, 0, (0, 0, 0, 0), 0, []),
  (24, false, .ireturn, 1, 0, (0, 0, 0, 0), 0, []),
  (25, false, .aload 5, 2, 0, (0, 0, 0, 0), 0, []),
  (27, false, .getfield 133, 3, 315, (7, 7, 0, 0), 0, []),
  (30, false, .istore 6, 2, 0, (0, 0, 0, 0), 0, []),
  (32, false, .aload 5, 2, 0, (0, 0, 0, 0), 0, []),
  (34, false, .iload_n 2, 1, 0, (0, 0, 0, 0), 0, []),
  (35, false, .putfield 133, 3, 315, (7, 7, 0, 0), 0, []),
  (38, false, .aload 5, 2, 0, (0, 0, 0, 0), 0, []),
  (40, false, .iload_n 3, 1, 0, (0, 0, 0, 0), 0, []),
  (41, false, .putfield 136, 3, 317, (7, 8, 0, 0), 0, []),
  (44, false, .aload 5, 2, 0, (0, 0, 0, 0), 0, []),
  (46, false, .iload 4, 2, 0, (0, 0, 0, 0), 0, []),
  (48, false, .putfield 139, 3, 319, (7, 9, 0, 0), 0, []),
  (51, false, .iload 6, 2, 0, (0, 0, 0, 0), 0, []),
  (53, false, .ireturn, 1, 0, (0, 0, 0, 0), 0, [])]
theorem zc_x_body : zk_x_body.all (zz_ck zz_inf zM_x_body) = true ∧ zz_ch zk_x_body = true := ⟨by decide +kernel, by decide +kernel⟩
noncomputable def x_body (v1 v2 v3 v4 : Int) (σ : zz_S) : zz_R := ((x_taskAt v1 σ).bind fun q1 => (if q1.1 = 0 then (some ((-2), q1.2)) else ((x_isWithin v2 0 6 q1.2).bind fun q2 => (if q2.1 = 0 then (some ((-2), q2.2)) else (if q1.1 = 0 then none else (if q1.1 = 0 then none else (let s3 := zz_w q2.2 7 q1.1 7 v2; (if q1.1 = 0 then none else (let s4 := zz_w s3 7 q1.1 8 v3; (if q1.1 = 0 then none else (let s5 := zz_w s4 7 q1.1 9 v4; (some ((zz_h q2.2 7 q1.1 7), s5)))))))))))))
set_option maxRecDepth 100000 in
set_option maxHeartbeats 4000000 in
theorem ze_x_body (v1 v2 v3 v4 : Int) (σ : zz_S) : x_body v1 v2 v3 v4 σ = zz_ev (zz_CE [(72, zw_x_isWithin), (73, zw_x_taskAt)]) (zz_KE []) zk_x_body 0 false 0 0 400 true (zz_sk zk_x_body 0) [(0, 5, 1), (1, 0, v1), (2, 0, v2), (3, 0, v3), (4, 0, v4)] [] σ := rfl
theorem zo_x_body : zz_okb zM_x_body 0 [(0, 5, true), (1, 0, false), (2, 0, false), (3, 0, false), (4, 0, false)] (zz_f4 x_body) :=
  fun vs σ r τ h => by
    obtain ⟨v1, v2, v3, v4, rfl, h⟩ := zz_f4_ok h
    exact zz_from zc_x_body (zz_occ zo_m_x_isWithin (zz_occ zo_m_x_taskAt zz_oc0)) zz_ol0 ((ze_x_body v1 v2 v3 v4 σ).symm.trans h)
noncomputable def zw_x_body : List Int → zz_S → zz_R := zz_f5 fun a0 a1 a2 a3 a4 σ => if a0 = 1 then x_body a1 a2 a3 a4 σ else none
theorem zo_m_x_body : zz_okm zz_inf 18 zw_x_body := fun vs σ r τ h => by
  obtain ⟨a0, a1, a2, a3, a4, rfl, h⟩ := zz_f5_ok h
  obtain ⟨e, h⟩ := zz_it h
  subst e
  exact zz_meth zi_x_body zy_x_body (zo_x_body [a1, a2, a3, a4] σ r τ h)
def zk_x_link : List zz_E := [(0, false, .iload_n 2, 1, 0, (0, 0, 0, 0), 0, []),
  (1, false, .bipush 60, 2, 0, (0, 0, 0, 0), 0, []),
  (3, false, .if_icmp .lt 5, 3, 0, (8, 0, 0, 0), 0, []),
  (6, false, .iload_n 2, 1, 0, (0, 0, 0, 0), 0, []),
  (7, false, .ireturn, 1, 0, (0, 0, 0, 0), 0, []),
  (8, false, .iconst 0, 1, 0, (0, 0, 0, 0), 0, []),
  (9, false, .istore_n 3, 1, 0, (0, 0, 0, 0), 0, []),
  (10, true, .iload_n 3, 1, 0, (0, 0, 0, 0), 0, []),
  (11, false, .iload_n 2, 1, 0, (0, 0, 0, 0), 0, []),
  (12, false, .if_icmp .ge 21, 3, 0, (33, 0, 0, 0), 0, []),
  (15, false, .aload_n 0, 1, 0, (0, 0, 0, 0), 0, []),
  (16, false, .getfield 59, 3, 173, (3, 10, 20, 1), 0, []),
  (19, false, .iload_n 3, 1, 0, (0, 0, 0, 0), 0, []),
  (20, false, .iaload, 1, 0, (18, 0, 0, 0), 0, []),
  (21, false, .iload_n 1, 1, 0, (0, 0, 0, 0), 0, []),
  (22, false, .if_icmp .ne 5, 3, 0, (27, 0, 0, 0), 0, []),
  (25, false, .iload_n 2, 1, 0, (0, 0, 0, 0), 0, []),
  (26, false, .ireturn, 1, 0, (0, 0, 0, 0), 0, []),
  (27, false, .iinc 3 1, 3, 0, (0, 0, 0, 0), 0, []),
  (30, false, .goto (-20), 3, 0, (10, 0, 0, 0), 0, []),
  (33, false, .aload_n 0, 1, 0, (0, 0, 0, 0), 0, []),
  (34, false, .getfield 59, 3, 173, (3, 10, 20, 1), 0, []),
  (37, false, .iload_n 2, 1, 0, (0, 0, 0, 0), 0, []),
  (38, false, .iload_n 1, 1, 0, (0, 0, 0, 0), 0, []),
  (39, false, .iastore, 1, 0, (18, 0, 0, 0), 0, []),
  (40, false, .iload_n 2, 1, 0, (0, 0, 0, 0), 0, []),
  (41, false, .iconst 1, 1, 0, (0, 0, 0, 0), 0, []),
  (42, false, .iadd, 1, 0, (0, 0, 0, 0), 0, []),
  (43, false, .ireturn, 1, 0, (0, 0, 0, 0), 0, [])]
theorem zc_x_link : zk_x_link.all (zz_ck zz_inf zM_x_link) = true ∧ zz_ch zk_x_link = true := ⟨by decide +kernel, by decide +kernel⟩
noncomputable def x_link_10 : Nat → Int → Int → Int → zz_S → zz_R
  | 0, _, _, _, _ => none
  | n + 1, v1, v2, v3, σ => (if v3 < v2 then (if zz_b σ 18 1 v3 then (if (zz_h σ 18 1 v3) = v1 then (some (v2, σ)) else (x_link_10 n v1 v2 (zz_r (v3 + 1)) σ)) else none) else (if zz_b σ 18 1 v2 then (let s1 := zz_w σ 18 1 v2 v1; (some ((zz_r (v2 + 1)), s1))) else none))
set_option maxRecDepth 100000 in
set_option maxHeartbeats 4000000 in
theorem ze_x_link_10 (n : Nat) (v1 v2 v3 : Int) (σ : zz_S) : x_link_10 (n + 1) v1 v2 v3 σ = zz_ev (zz_CE []) (zz_KE [(10, [(0, 5, true), (1, 0, false), (2, 0, false), (3, 0, false)], zz_f3 (x_link_10 n))]) zk_x_link 0 false 0 0 400 true (zz_sk zk_x_link 10) [(0, 5, 1), (1, 0, v1), (2, 0, v2), (3, 0, v3)] [] σ := rfl
theorem zo_x_link_10 : ∀ n : Nat, zz_okb zM_x_link 10 [(0, 5, true), (1, 0, false), (2, 0, false), (3, 0, false)] (zz_f3 (x_link_10 n))
  | 0 => fun vs σ r τ h => by
    obtain ⟨v1, v2, v3, rfl, h⟩ := zz_f3_ok h
    exact nomatch (show (none : zz_R) = some (r, τ) from h)
  | n + 1 => by
    have ih := zo_x_link_10 n
    exact fun vs σ r τ h => by
        obtain ⟨v1, v2, v3, rfl, h⟩ := zz_f3_ok h
        exact zz_from zc_x_link zz_oc0 (zz_olc ih zz_ol0) ((ze_x_link_10 n v1 v2 v3 σ).symm.trans h)
noncomputable def x_link (v1 v2 : Int) (σ : zz_S) : zz_R := (if v2 < 60 then (x_link_10 zz_fu v1 v2 0 σ) else (some (v2, σ)))
set_option maxRecDepth 100000 in
set_option maxHeartbeats 4000000 in
theorem ze_x_link (v1 v2 : Int) (σ : zz_S) : x_link v1 v2 σ = zz_ev (zz_CE []) (zz_KE [(10, [(0, 5, true), (1, 0, false), (2, 0, false), (3, 0, false)], zz_f3 (x_link_10 zz_fu))]) zk_x_link 0 false 0 0 400 true (zz_sk zk_x_link 0) [(0, 5, 1), (1, 0, v1), (2, 0, v2)] [] σ := rfl
theorem zo_x_link : zz_okb zM_x_link 0 [(0, 5, true), (1, 0, false), (2, 0, false)] (zz_f2 x_link) :=
  fun vs σ r τ h => by
    obtain ⟨v1, v2, rfl, h⟩ := zz_f2_ok h
    exact zz_from zc_x_link zz_oc0 (zz_olc (zo_x_link_10 zz_fu) zz_ol0) ((ze_x_link v1 v2 σ).symm.trans h)
noncomputable def zw_x_link : List Int → zz_S → zz_R := zz_f3 fun a0 a1 a2 σ => if a0 = 1 then x_link a1 a2 σ else none
theorem zo_m_x_link : zz_okm zz_inf 21 zw_x_link := fun vs σ r τ h => by
  obtain ⟨a0, a1, a2, rfl, h⟩ := zz_f3_ok h
  obtain ⟨e, h⟩ := zz_it h
  subst e
  exact zz_meth zi_x_link zy_x_link (zo_x_link [a1, a2] σ r τ h)
def zk_x_comesAfter : List zz_E := [(0, false, .aload_n 0, 1, 0, (0, 0, 0, 0), 0, []),
  (1, false, .iload_n 1, 1, 0, (0, 0, 0, 0), 0, []),
  (2, false, .iconst 0, 1, 0, (0, 0, 0, 0), 0, []),
  (3, false, .invokevirtual 158, 3, 425, (21, 3, 0, 0), 0, [0, 0, 5]),
  (6, false, .istore_n 3, 1, 0, (0, 0, 0, 0), 0, []),
  (7, false, .iconst 0, 1, 0, (0, 0, 0, 0), 0, []),
  (8, false, .istore 4, 2, 0, (0, 0, 0, 0), 0, []),
  (10, true, .iload 4, 2, 0, (0, 0, 0, 0), 0, []),
  (12, false, .iload_n 3, 1, 0, (0, 0, 0, 0), 0, []),
  (13, false, .if_icmp .ge 80, 3, 0, (93, 0, 0, 0), 0, []),
  (16, false, .aload_n 0, 1, 0, (0, 0, 0, 0), 0, []),
  (17, false, .aload_n 0, 1, 0, (0, 0, 0, 0), 0, []),
  (18, false, .getfield 59, 3, 173, (3, 10, 20, 1), 0, []),
  (21, false, .iload 4, 2, 0, (0, 0, 0, 0), 0, []),
  (23, false, .iaload, 1, 0, (18, 0, 0, 0), 0, []),
  (24, false, .invokevirtual 100, 3, 385, (73, 2, 9, 0), 0, [0, 5]),
  (27, false, .astore 5, 2, 0, (0, 0, 0, 0), 0, []),
  (29, false, .aload 5, 2, 0, (0, 0, 0, 0), 0, []),
  (31, false, .ifnonnull 6, 3, 0, (37, 0, 0, 0), 0, []),
  (34, false, .goto 53, 3, 0, (87, 0, 0, 0), 0, []),
  (37, false, .aload 5, 2, 0, (0, 0, 0, 0), 0, []),
  (39, false, .getfield 162, 3, 299, (7, 0, 0, 0), 0, []),
  (42, false, .iload_n 2, 1, 0, (0, 0, 0, 0), 0, []),
  (43, false, .if_icmp .ne 5, 3, 0, (48, 0, 0, 0), 0, []),
  (46, false, .iconst 1, 1, 0, (0, 0, 0, 0), 0, []),
  (47, false, .ireturn, 1, 0, (0, 0, 0, 0), 0, []),
  (48, false, .iconst 0, 1, 0, (0, 0, 0, 0), 0, []),
  (49, false, .istore 6, 2, 0, (0, 0, 0, 0), 0, []),
  (51, true, .iload 6, 2, 0, (0, 0, 0, 0), 0, []),
  (53, false, .aload 5, 2, 0, (0, 0, 0, 0), 0, []),
  (55, false, .getfield 146, 3, 313, (7, 6, 11, 1), 0, []),
  (58, false, .getfield 150, 3, 289, (9, 2, 0, 0), 0, []),
  (61, false, .if_icmp .ge 26, 3, 0, (87, 0, 0, 0), 0, []),
  (64, false, .aload_n 0, 1, 0, (0, 0, 0, 0), 0, []),
  (65, false, .aload 5, 2, 0, (0, 0, 0, 0), 0, []),
  (67, false, .getfield 146, 3, 313, (7, 6, 11, 1), 0, []),
  (70, false, .getfield 165, 3, 286, (9, 0, 31, 1), 0, []),
  (73, false, .iload 6, 2, 0, (0, 0, 0, 0), 0, []),
  (75, false, .iaload, 1, 0, (29, 0, 0, 0), 0, []),
  (76, false, .iload_n 3, 1, 0, (0, 0, 0, 0), 0, []),
  (77, false, .invokevirtual 158, 3, 425, (21, 3, 0, 0), 0, [0, 0, 5]),
  (80, false, .istore_n 3, 1, 0, (0, 0, 0, 0), 0, []),
  (81, false, .iinc 6 1, 3, 0, (0, 0, 0, 0), 0, []),
  (84, false, .goto (-33), 3, 0, (51, 0, 0, 0), 0, []),
  (87, false, .iinc 4 1, 3, 0, (0, 0, 0, 0), 0, []),
  (90, false, .goto (-80), 3, 0, (10, 0, 0, 0), 0, []),
  (93, false, .iconst 0, 1, 0, (0, 0, 0, 0), 0, []),
  (94, false, .ireturn, 1, 0, (0, 0, 0, 0), 0, [])]
theorem zc_x_comesAfter : zk_x_comesAfter.all (zz_ck zz_inf zM_x_comesAfter) = true ∧ zz_ch zk_x_comesAfter = true := ⟨by decide +kernel, by decide +kernel⟩
noncomputable def x_comesAfter_51 (k10 : Int → Int → Int → zz_S → zz_R) : Nat → Int → Int → Int → Int → Int → zz_S → zz_R
  | 0, _, _, _, _, _, _ => none
  | n + 1, v2, v3, v4, v5, v6, σ => (if v5 = 0 then none else (if v5 = 0 then none else (if v6 < (zz_h σ 9 v5 2) then (if v5 = 0 then none else (if v5 = 0 then none else (if v5 = 0 then none else (if zz_b σ 29 v5 v6 then ((x_link (zz_h σ 29 v5 v6) v3 σ).bind fun q1 => (x_comesAfter_51 k10 n v2 q1.1 v4 v5 (zz_r (v6 + 1)) q1.2)) else none)))) else (k10 v2 v3 (zz_r (v4 + 1)) σ))))
set_option maxRecDepth 100000 in
set_option maxHeartbeats 4000000 in
theorem ze_x_comesAfter_51 (k10 : Int → Int → Int → zz_S → zz_R) (n : Nat) (v2 v3 v4 v5 v6 : Int) (σ : zz_S) : x_comesAfter_51 k10 (n + 1) v2 v3 v4 v5 v6 σ = zz_ev (zz_CE [(21, zw_x_link)]) (zz_KE [(10, [(0, 5, true), (2, 0, false), (3, 0, false), (4, 0, false)], zz_f3 k10), (51, [(0, 5, true), (2, 0, false), (3, 0, false), (4, 0, false), (5, 9, false), (6, 0, false)], zz_f5 (x_comesAfter_51 k10 n))]) zk_x_comesAfter 0 true 0 0 400 true (zz_sk zk_x_comesAfter 51) [(0, 5, 1), (2, 0, v2), (3, 0, v3), (4, 0, v4), (5, 9, v5), (6, 0, v6)] [] σ := rfl
theorem zo_x_comesAfter_51 (k10 : Int → Int → Int → zz_S → zz_R) (hk10 : zz_okb zM_x_comesAfter 10 [(0, 5, true), (2, 0, false), (3, 0, false), (4, 0, false)] (zz_f3 k10)) : ∀ n : Nat, zz_okb zM_x_comesAfter 51 [(0, 5, true), (2, 0, false), (3, 0, false), (4, 0, false), (5, 9, false), (6, 0, false)] (zz_f5 (x_comesAfter_51 k10 n))
  | 0 => fun vs σ r τ h => by
    obtain ⟨v2, v3, v4, v5, v6, rfl, h⟩ := zz_f5_ok h
    exact nomatch (show (none : zz_R) = some (r, τ) from h)
  | n + 1 => by
    have ih := zo_x_comesAfter_51 k10 hk10 n
    exact fun vs σ r τ h => by
        obtain ⟨v2, v3, v4, v5, v6, rfl, h⟩ := zz_f5_ok h
        exact zz_from zc_x_comesAfter (zz_occ zo_m_x_link zz_oc0) (zz_olc hk10 (zz_olc ih zz_ol0)) ((ze_x_comesAfter_51 k10 n v2 v3 v4 v5 v6 σ).symm.trans h)
noncomputable def x_comesAfter_10 : Nat → Int → Int → Int → zz_S → zz_R
  | 0, _, _, _, _ => none
  | n + 1, v2, v3, v4, σ => (if v4 < v3 then (if zz_b σ 18 1 v4 then ((x_taskAt (zz_h σ 18 1 v4) σ).bind fun q1 => (if q1.1 = 0 then (x_comesAfter_10 n v2 v3 (zz_r (v4 + 1)) q1.2) else (if q1.1 = 0 then none else (if (zz_h q1.2 7 q1.1 0) = v2 then (some (1, q1.2)) else (x_comesAfter_51 (x_comesAfter_10 n) zz_fu v2 v3 v4 q1.1 0 q1.2))))) else none) else (some (0, σ)))
set_option maxRecDepth 100000 in
set_option maxHeartbeats 4000000 in
theorem ze_x_comesAfter_10 (n : Nat) (v2 v3 v4 : Int) (σ : zz_S) : x_comesAfter_10 (n + 1) v2 v3 v4 σ = zz_ev (zz_CE [(73, zw_x_taskAt)]) (zz_KE [(10, [(0, 5, true), (2, 0, false), (3, 0, false), (4, 0, false)], zz_f3 (x_comesAfter_10 n)), (51, [(0, 5, true), (2, 0, false), (3, 0, false), (4, 0, false), (5, 9, false), (6, 0, false)], zz_f5 (x_comesAfter_51 (x_comesAfter_10 n) zz_fu))]) zk_x_comesAfter 0 true 0 0 400 true (zz_sk zk_x_comesAfter 10) [(0, 5, 1), (2, 0, v2), (3, 0, v3), (4, 0, v4)] [] σ := rfl
theorem zo_x_comesAfter_10 : ∀ n : Nat, zz_okb zM_x_comesAfter 10 [(0, 5, true), (2, 0, false), (3, 0, false), (4, 0, false)] (zz_f3 (x_comesAfter_10 n))
  | 0 => fun vs σ r τ h => by
    obtain ⟨v2, v3, v4, rfl, h⟩ := zz_f3_ok h
    exact nomatch (show (none : zz_R) = some (r, τ) from h)
  | n + 1 => by
    have ih := zo_x_comesAfter_10 n
    exact fun vs σ r τ h => by
        obtain ⟨v2, v3, v4, rfl, h⟩ := zz_f3_ok h
        exact zz_from zc_x_comesAfter (zz_occ zo_m_x_taskAt zz_oc0) (zz_olc ih (zz_olc (zo_x_comesAfter_51 (x_comesAfter_10 n) ih zz_fu) zz_ol0)) ((ze_x_comesAfter_10 n v2 v3 v4 σ).symm.trans h)
noncomputable def x_comesAfter (v1 v2 : Int) (σ : zz_S) : zz_R := ((x_link v1 0 σ).bind fun q1 => (x_comesAfter_10 zz_fu v2 q1.1 0 q1.2))
set_option maxRecDepth 100000 in
set_option maxHeartbeats 4000000 in
theorem ze_x_comesAfter (v1 v2 : Int) (σ : zz_S) : x_comesAfter v1 v2 σ = zz_ev (zz_CE [(21, zw_x_link)]) (zz_KE [(10, [(0, 5, true), (2, 0, false), (3, 0, false), (4, 0, false)], zz_f3 (x_comesAfter_10 zz_fu))]) zk_x_comesAfter 0 true 0 0 400 true (zz_sk zk_x_comesAfter 0) [(0, 5, 1), (1, 0, v1), (2, 0, v2)] [] σ := rfl
theorem zo_x_comesAfter : zz_okb zM_x_comesAfter 0 [(0, 5, true), (1, 0, false), (2, 0, false)] (zz_f2 x_comesAfter) :=
  fun vs σ r τ h => by
    obtain ⟨v1, v2, rfl, h⟩ := zz_f2_ok h
    exact zz_from zc_x_comesAfter (zz_occ zo_m_x_link zz_oc0) (zz_olc (zo_x_comesAfter_10 zz_fu) zz_ol0) ((ze_x_comesAfter v1 v2 σ).symm.trans h)
noncomputable def zw_x_comesAfter : List Int → zz_S → zz_R := zz_f3 fun a0 a1 a2 σ => if a0 = 1 then x_comesAfter a1 a2 σ else none
theorem zo_m_x_comesAfter : zz_okm zz_inf 20 zw_x_comesAfter := fun vs σ r τ h => by
  obtain ⟨a0, a1, a2, rfl, h⟩ := zz_f3_ok h
  obtain ⟨e, h⟩ := zz_it h
  subst e
  exact zz_meth zi_x_comesAfter zy_x_comesAfter (zo_x_comesAfter [a1, a2] σ r τ h)
def zk_xN_add : List zz_E := [(0, false, .aload_n 0, 1, 0, (0, 0, 0, 0), 0, []),
  (1, false, .getfield 18, 3, 288, (9, 2, 0, 0), 0, []),
  (4, false, .iconst 4, 1, 0, (0, 0, 0, 0), 0, []),
  (5, false, .if_icmp .lt 4, 3, 0, (9, 0, 0, 0), 0, []),
  (8, false, .return_, 1, 0, (0, 0, 0, 0), 0, []),
  (9, false, .aload_n 0, 1, 0, (0, 0, 0, 0), 0, []),
  (10, false, .getfield 9, 3, 285, (9, 0, 31, 1), 0, []),
  (13, false, .aload_n 0, 1, 0, (0, 0, 0, 0), 0, []),
  (14, false, .getfield 18, 3, 288, (9, 2, 0, 0), 0, []),
  (17, false, .iload_n 1, 1, 0, (0, 0, 0, 0), 0, []),
  (18, false, .iastore, 1, 0, (29, 0, 0, 0), 0, []),
  (19, false, .aload_n 0, 1, 0, (0, 0, 0, 0), 0, []),
  (20, false, .getfield 15, 3, 287, (9, 1, 32, 1), 0, []),
  (23, false, .aload_n 0, 1, 0, (0, 0, 0, 0), 0, []),
  (24, false, .getfield 18, 3, 288, (9, 2, 0, 0), 0, []),
  (27, false, .iload_n 2, 1, 0, (0, 0, 0, 0), 0, []),
  (28, false, .iastore, 1, 0, (30, 0, 0, 0), 0, []),
  (29, false, .aload_n 0, 1, 0, (0, 0, 0, 0), 0, []),
  (30, false, .dup, 1, 0, (0, 0, 0, 0), 0, []),
  (31, false, .getfield 18, 3, 288, (9, 2, 0, 0), 0, []),
  (34, false, .iconst 1, 1, 0, (0, 0, 0, 0), 0, []),
  (35, false, .iadd, 1, 0, (0, 0, 0, 0), 0, []),
  (36, false, .putfield 18, 3, 288, (9, 2, 0, 0), 0, []),
  (39, false, .return_, 1, 0, (0, 0, 0, 0), 0, [])]
theorem zc_xN_add : zk_xN_add.all (zz_ck zz_inf zM_xN_add) = true ∧ zz_ch zk_xN_add = true := ⟨by decide +kernel, by decide +kernel⟩
noncomputable def xN_add (v0 v1 v2 : Int) (σ : zz_S) : zz_R := (if v0 = 0 then none else (if (zz_h σ 9 v0 2) < 4 then (if v0 = 0 then none else (if v0 = 0 then none else (if v0 = 0 then none else (if zz_b σ 29 v0 (zz_h σ 9 v0 2) then (let s1 := zz_w σ 29 v0 (zz_h σ 9 v0 2) v1; (if v0 = 0 then none else (if v0 = 0 then none else (if v0 = 0 then none else (if zz_b s1 30 v0 (zz_h s1 9 v0 2) then (let s2 := zz_w s1 30 v0 (zz_h s1 9 v0 2) v2; (if v0 = 0 then none else (if v0 = 0 then none else (let s3 := zz_w s2 9 v0 2 (zz_r ((zz_h s2 9 v0 2) + 1)); (some (0, s3)))))) else none))))) else none)))) else (some (0, σ))))
set_option maxRecDepth 100000 in
set_option maxHeartbeats 4000000 in
theorem ze_xN_add (v0 v1 v2 : Int) (σ : zz_S) : xN_add v0 v1 v2 σ = zz_ev (zz_CE []) (zz_KE []) zk_xN_add 999 false 0 0 400 true (zz_sk zk_xN_add 0) [(0, 11, v0), (1, 0, v1), (2, 0, v2)] [] σ := rfl
theorem zo_xN_add : zz_okb zM_xN_add 0 [(0, 11, false), (1, 0, false), (2, 0, false)] (zz_f3 xN_add) :=
  fun vs σ r τ h => by
    obtain ⟨v0, v1, v2, rfl, h⟩ := zz_f3_ok h
    exact zz_from zc_xN_add zz_oc0 zz_ol0 ((ze_xN_add v0 v1 v2 σ).symm.trans h)
noncomputable def zw_xN_add : List Int → zz_S → zz_R := zz_f3 fun a0 a1 a2 σ => xN_add a0 a1 a2 σ
theorem zo_m_xN_add : zz_okm zz_inf 104 zw_xN_add := fun vs σ r τ h => by
  obtain ⟨a0, a1, a2, rfl, h⟩ := zz_f3_ok h
  exact zz_meth zi_xN_add zy_xN_add (zo_xN_add [a0, a1, a2] σ r τ h)
def zk_x_after : List zz_E := [(0, false, .aload_n 0, 1, 0, (0, 0, 0, 0), 0, []),
  (1, false, .iload_n 1, 1, 0, (0, 0, 0, 0), 0, []),
  (2, false, .invokevirtual 100, 3, 385, (73, 2, 9, 0), 0, [0, 5]),
  (5, false, .astore 4, 2, 0, (0, 0, 0, 0), 0, []),
  (7, false, .aload 4, 2, 0, (0, 0, 0, 0), 0, []),
  (9, false, .ifnull 20, 3, 0, (29, 0, 0, 0), 0, []),
  (12, false, .aload 4, 2, 0, (0, 0, 0, 0), 0, []),
  (14, false, .getfield 114, 3, 301, (7, 1, 0, 0), 0, []),
  (17, false, .iconst 4, 1, 0, (0, 0, 0, 0), 0, []),
  (18, false, .if_icmp .ne 11, 3, 0, (29, 0, 0, 0), 0, []),
  (21, false, .aload_n 0, 1, 0, (0, 0, 0, 0), 0, []),
  (22, false, .iload_n 2, 1, 0, (0, 0, 0, 0), 0, []),
  (23, false, .invokevirtual 100, 3, 385, (73, 2, 9, 0), 0, [0, 5]),
  (26, false, .ifnonnull 6, 3, 0, (32, 0, 0, 0), 0, []),
  (29, false, .bipush (-2), 2, 0, (0, 0, 0, 0), 0, []),
  (31, false, .ireturn, 1, 0, (0, 0, 0, 0), 0, []),
  (32, false, .iload_n 1, 1, 0, (0, 0, 0, 0), 0, []),
  (33, false, .iload_n 2, 1, 0, (0, 0, 0, 0), 0, []),
  (34, false, .if_icmp .eq 12, 3, 0, (46, 0, 0, 0), 0, []),
  (37, false, .iload_n 3, 1, 0, (0, 0, 0, 0), 0, []),
  (38, false, .iconst 0, 1, 0, (0, 0, 0, 0), 0, []),
  (39, false, .iconst 2, 1, 0, (0, 0, 0, 0), 0, []),
  (40, false, .invokestatic 91, 3, 228, (72, 3, 0, 0), 0, [0, 0, 0]),
  (43, false, .ifCond .ne 6, 3, 0, (49, 0, 0, 0), 0, []),
  (46, false, .bipush (-2), 2, 0, (0, 0, 0, 0), 0, []),
  (48, false, .ireturn, 1, 0, (0, 0, 0, 0), 0, []),
  (49, false, .aload_n 0, 1, 0, (0, 0, 0, 0), 0, []),
  (50, false, .iload_n 2, 1, 0, (0, 0, 0, 0), 0, []),
  (51, false, .iload_n 1, 1, 0, (0, 0, 0, 0), 0, []),
  (52, false, .invokevirtual 142, 3, 421, (20, 3, 0, 0), 0, [0, 0, 5]),
  (55, false, .ifCond .eq 6, 3, 0, (61, 0, 0, 0), 0, []),
  (58, false, .bipush (-3), 2, 0, (0, 0, 0, 0), 0, []),
  (60, false, .ireturn, 1, 0, (0, 0, 0, 0), 0, []),
  (61, false, .aload 4, 2, 0, (0, 0, 0, 0), 0, []),
  (63, false, .getfield 146, 3, 313, (7, 6, 11, 1), 0, []),
  (66, false, .getfield 150, 3, 289, (9, 2, 0, 0), 0, []),
  (69, false, .iconst 4, 1, 0, (0, 0, 0, 0), 0, []),
  (70, false, .if_icmp .lt 6, 3, 0, (76, 0, 0, 0), 0, []),
  (73, false, .bipush (-4), 2, 0, (0, 0, 0, 0), 0, []),
  (75, false, .ireturn, 1, 0, (0, 0, 0, 0), 0, []),
  (76, false, .aload 4, 2, 0, (0, 0, 0, 0), 0, []),
  (78, false, .getfield 146, 3, 313, (7, 6, 11, 1), 0, []),
  (81, false, .iload_n 2, 1, 0, (0, 0, 0, 0), 0, []),
  (82, false, .iload_n 3, 1, 0, (0, 0, 0, 0), 0, []),
  (83, false, .invokevirtual 155, 3, 429, (104, 3, 999, 0), 0, [0, 0, 11]),
  (86, false, .aload 4, 2, 0, (0, 0, 0, 0), 0, []),
  (88, false, .getfield 146, 3, 313, (7, 6, 11, 1), 0, []),
  (91, false, .getfield 150, 3, 289, (9, 2, 0, 0), 0, []),
  (94, false, .ireturn, 1, 0, (0, 0, 0, 0), 0, [])]
theorem zc_x_after : zk_x_after.all (zz_ck zz_inf zM_x_after) = true ∧ zz_ch zk_x_after = true := ⟨by decide +kernel, by decide +kernel⟩
noncomputable def x_after (v1 v2 v3 : Int) (σ : zz_S) : zz_R := ((x_taskAt v1 σ).bind fun q1 => (if q1.1 = 0 then (some ((-2), q1.2)) else (if q1.1 = 0 then none else (if (zz_h q1.2 7 q1.1 1) = 4 then ((x_taskAt v2 q1.2).bind fun q2 => (if q2.1 = 0 then (some ((-2), q2.2)) else (if v1 = v2 then (some ((-2), q2.2)) else ((x_isWithin v3 0 2 q2.2).bind fun q3 => (if q3.1 = 0 then (some ((-2), q3.2)) else ((x_comesAfter v2 v1 q3.2).bind fun q4 => (if q4.1 = 0 then (if q1.1 = 0 then none else (if q1.1 = 0 then none else (if (zz_h q4.2 9 q1.1 2) < 4 then (if q1.1 = 0 then none else (if q1.1 = 0 then none else ((xN_add q1.1 v2 v3 q4.2).bind fun q5 => (if q1.1 = 0 then none else (if q1.1 = 0 then none else (some ((zz_h q5.2 9 q1.1 2), q5.2))))))) else (some ((-4), q4.2))))) else (some ((-3), q4.2))))))))) else (some ((-2), q1.2))))))
set_option maxRecDepth 100000 in
set_option maxHeartbeats 4000000 in
theorem ze_x_after (v1 v2 v3 : Int) (σ : zz_S) : x_after v1 v2 v3 σ = zz_ev (zz_CE [(20, zw_x_comesAfter), (72, zw_x_isWithin), (73, zw_x_taskAt), (104, zw_xN_add)]) (zz_KE []) zk_x_after 0 false 0 0 400 true (zz_sk zk_x_after 0) [(0, 5, 1), (1, 0, v1), (2, 0, v2), (3, 0, v3)] [] σ := rfl
theorem zo_x_after : zz_okb zM_x_after 0 [(0, 5, true), (1, 0, false), (2, 0, false), (3, 0, false)] (zz_f3 x_after) :=
  fun vs σ r τ h => by
    obtain ⟨v1, v2, v3, rfl, h⟩ := zz_f3_ok h
    exact zz_from zc_x_after (zz_occ zo_m_x_comesAfter (zz_occ zo_m_x_isWithin (zz_occ zo_m_x_taskAt (zz_occ zo_m_xN_add zz_oc0)))) zz_ol0 ((ze_x_after v1 v2 v3 σ).symm.trans h)
noncomputable def zw_x_after : List Int → zz_S → zz_R := zz_f4 fun a0 a1 a2 a3 σ => if a0 = 1 then x_after a1 a2 a3 σ else none
theorem zo_m_x_after : zz_okm zz_inf 19 zw_x_after := fun vs σ r τ h => by
  obtain ⟨a0, a1, a2, a3, rfl, h⟩ := zz_f4_ok h
  obtain ⟨e, h⟩ := zz_it h
  subst e
  exact zz_meth zi_x_after zy_x_after (zo_x_after [a1, a2, a3] σ r τ h)
end
section
def zk_xP_placeOf : List zz_E := [(0, false, .iconst 0, 1, 0, (0, 0, 0, 0), 0, []),
  (1, false, .istore_n 3, 1, 0, (0, 0, 0, 0), 0, []),
  (2, true, .iload_n 3, 1, 0, (0, 0, 0, 0), 0, []),
  (3, false, .aload_n 0, 1, 0, (0, 0, 0, 0), 0, []),
  (4, false, .getfield 21, 3, 152, (6, 3, 0, 0), 0, []),
  (7, false, .if_icmp .ge 31, 3, 0, (38, 0, 0, 0), 0, []),
  (10, false, .aload_n 0, 1, 0, (0, 0, 0, 0), 0, []),
  (11, false, .getfield 9, 3, 149, (6, 0, 27, 1), 0, []),
  (14, false, .iload_n 3, 1, 0, (0, 0, 0, 0), 0, []),
  (15, false, .iaload, 1, 0, (25, 0, 0, 0), 0, []),
  (16, false, .iload_n 1, 1, 0, (0, 0, 0, 0), 0, []),
  (17, false, .if_icmp .ne 15, 3, 0, (32, 0, 0, 0), 0, []),
  (20, false, .aload_n 0, 1, 0, (0, 0, 0, 0), 0, []),
  (21, false, .getfield 15, 3, 150, (6, 1, 28, 1), 0, []),
  (24, false, .iload_n 3, 1, 0, (0, 0, 0, 0), 0, []),
  (25, false, .iaload, 1, 0, (26, 0, 0, 0), 0, []),
  (26, false, .iload_n 2, 1, 0, (0, 0, 0, 0), 0, []),
  (27, false, .if_icmp .ne 5, 3, 0, (32, 0, 0, 0), 0, []),
  (30, false, .iload_n 3, 1, 0, (0, 0, 0, 0), 0, []),
  (31, false, .ireturn, 1, 0, (0, 0, 0, 0), 0, []),
  (32, false, .iinc 3 1, 3, 0, (0, 0, 0, 0), 0, []),
  (35, false, .goto (-33), 3, 0, (2, 0, 0, 0), 0, []),
  (38, false, .aload_n 0, 1, 0, (0, 0, 0, 0), 0, []),
  (39, false, .getfield 21, 3, 152, (6, 3, 0, 0), 0, []),
  (42, false, .ireturn, 1, 0, (0, 0, 0, 0), 0, [])]
theorem zc_xP_placeOf : zk_xP_placeOf.all (zz_ck zz_inf zM_xP_placeOf) = true ∧ zz_ch zk_xP_placeOf = true := ⟨by decide +kernel, by decide +kernel⟩
noncomputable def xP_placeOf_2 : Nat → Int → Int → Int → zz_S → zz_R
  | 0, _, _, _, _ => none
  | n + 1, v1, v2, v3, σ => (if v3 < (zz_h σ 6 1 3) then (if zz_b σ 25 1 v3 then (if (zz_h σ 25 1 v3) = v1 then (if zz_b σ 26 1 v3 then (if (zz_h σ 26 1 v3) = v2 then (some (v3, σ)) else (xP_placeOf_2 n v1 v2 (zz_r (v3 + 1)) σ)) else none) else (xP_placeOf_2 n v1 v2 (zz_r (v3 + 1)) σ)) else none) else (some ((zz_h σ 6 1 3), σ)))
set_option maxRecDepth 100000 in
set_option maxHeartbeats 4000000 in
theorem ze_xP_placeOf_2 (n : Nat) (v1 v2 v3 : Int) (σ : zz_S) : xP_placeOf_2 (n + 1) v1 v2 v3 σ = zz_ev (zz_CE []) (zz_KE [(2, [(0, 8, true), (1, 0, false), (2, 0, false), (3, 0, false)], zz_f3 (xP_placeOf_2 n))]) zk_xP_placeOf 0 false 0 0 400 true (zz_sk zk_xP_placeOf 2) [(0, 8, 1), (1, 0, v1), (2, 0, v2), (3, 0, v3)] [] σ := rfl
theorem zo_xP_placeOf_2 : ∀ n : Nat, zz_okb zM_xP_placeOf 2 [(0, 8, true), (1, 0, false), (2, 0, false), (3, 0, false)] (zz_f3 (xP_placeOf_2 n))
  | 0 => fun vs σ r τ h => by
    obtain ⟨v1, v2, v3, rfl, h⟩ := zz_f3_ok h
    exact nomatch (show (none : zz_R) = some (r, τ) from h)
  | n + 1 => by
    have ih := zo_xP_placeOf_2 n
    exact fun vs σ r τ h => by
        obtain ⟨v1, v2, v3, rfl, h⟩ := zz_f3_ok h
        exact zz_from zc_xP_placeOf zz_oc0 (zz_olc ih zz_ol0) ((ze_xP_placeOf_2 n v1 v2 v3 σ).symm.trans h)
noncomputable def xP_placeOf (v1 v2 : Int) (σ : zz_S) : zz_R := (xP_placeOf_2 zz_fu v1 v2 0 σ)
set_option maxRecDepth 100000 in
set_option maxHeartbeats 4000000 in
theorem ze_xP_placeOf (v1 v2 : Int) (σ : zz_S) : xP_placeOf v1 v2 σ = zz_ev (zz_CE []) (zz_KE [(2, [(0, 8, true), (1, 0, false), (2, 0, false), (3, 0, false)], zz_f3 (xP_placeOf_2 zz_fu))]) zk_xP_placeOf 0 false 0 0 400 true (zz_sk zk_xP_placeOf 0) [(0, 8, 1), (1, 0, v1), (2, 0, v2)] [] σ := rfl
theorem zo_xP_placeOf : zz_okb zM_xP_placeOf 0 [(0, 8, true), (1, 0, false), (2, 0, false)] (zz_f2 xP_placeOf) :=
  fun vs σ r τ h => by
    obtain ⟨v1, v2, rfl, h⟩ := zz_f2_ok h
    exact zz_from zc_xP_placeOf zz_oc0 (zz_olc (zo_xP_placeOf_2 zz_fu) zz_ol0) ((ze_xP_placeOf v1 v2 σ).symm.trans h)
noncomputable def zw_xP_placeOf : List Int → zz_S → zz_R := zz_f3 fun a0 a1 a2 σ => if a0 = 1 then xP_placeOf a1 a2 σ else none
theorem zo_m_xP_placeOf : zz_okm zz_inf 84 zw_xP_placeOf := fun vs σ r τ h => by
  obtain ⟨a0, a1, a2, rfl, h⟩ := zz_f3_ok h
  obtain ⟨e, h⟩ := zz_it h
  subst e
  exact zz_meth zi_xP_placeOf zy_xP_placeOf (zo_xP_placeOf [a1, a2] σ r τ h)
def zk_j_max : List zz_E := [(0, false, .iload_n 0, 1, 0, (0, 0, 0, 0), 0, []),
  (1, false, .iload_n 1, 1, 0, (0, 0, 0, 0), 0, []),
  (2, false, .if_icmp .lt 7, 3, 0, (9, 0, 0, 0), 0, []),
  (5, false, .iload_n 0, 1, 0, (0, 0, 0, 0), 0, []),
  (6, false, .goto 4, 3, 0, (10, 0, 0, 0), 0, []),
  (9, false, .iload_n 1, 1, 0, (0, 0, 0, 0), 0, []),
  (10, false, .ireturn, 1, 0, (0, 0, 0, 0), 0, [])]
theorem zc_j_max : zk_j_max.all (zz_ck zz_inf zM_j_max) = true ∧ zz_ch zk_j_max = true := ⟨by decide +kernel, by decide +kernel⟩
noncomputable def j_max (v0 v1 : Int) (σ : zz_S) : zz_R := (if v0 < v1 then (some (v1, σ)) else (some (v0, σ)))
set_option maxRecDepth 100000 in
set_option maxHeartbeats 4000000 in
theorem ze_j_max (v0 v1 : Int) (σ : zz_S) : j_max v0 v1 σ = zz_ev (zz_CE []) (zz_KE []) zk_j_max 0 false 0 0 400 true (zz_sk zk_j_max 0) [(0, 0, v0), (1, 0, v1)] [] σ := rfl
theorem zo_j_max : zz_okb zM_j_max 0 [(0, 0, false), (1, 0, false)] (zz_f2 j_max) :=
  fun vs σ r τ h => by
    obtain ⟨v0, v1, rfl, h⟩ := zz_f2_ok h
    exact zz_from zc_j_max zz_oc0 zz_ol0 ((ze_j_max v0 v1 σ).symm.trans h)
noncomputable def zw_j_max : List Int → zz_S → zz_R := zz_f2 fun a0 a1 σ => j_max a0 a1 σ
theorem zo_m_j_max : zz_okm zz_inf 168 zw_j_max := fun vs σ r τ h => by
  obtain ⟨a0, a1, rfl, h⟩ := zz_f2_ok h
  exact zz_meth zi_j_max zy_j_max (zo_j_max [a0, a1] σ r τ h)
def zk_xP_put : List zz_E := [(0, false, .aload_n 0, 1, 0, (0, 0, 0, 0), 0, []),
  (1, false, .iload_n 1, 1, 0, (0, 0, 0, 0), 0, []),
  (2, false, .iload_n 2, 1, 0, (0, 0, 0, 0), 0, []),
  (3, false, .invokevirtual 25, 3, 441, (84, 3, 0, 0), 0, [0, 0, 8]),
  (6, false, .istore 4, 2, 0, (0, 0, 0, 0), 0, []),
  (8, false, .iload 4, 2, 0, (0, 0, 0, 0), 0, []),
  (10, false, .bipush 40, 2, 0, (0, 0, 0, 0), 0, []),
  (12, false, .if_icmp .lt 5, 3, 0, (17, 0, 0, 0), 0, []),
  (15, false, .iconst 0, 1, 0, (0, 0, 0, 0), 0, []),
  (16, false, .ireturn, 1, 0, (0, 0, 0, 0), 0, []),
  (17, false, .aload_n 0, 1, 0, (0, 0, 0, 0), 0, []),
  (18, false, .getfield 9, 3, 149, (6, 0, 27, 1), 0, []),
  (21, false, .iload 4, 2, 0, (0, 0, 0, 0), 0, []),
  (23, false, .iload_n 1, 1, 0, (0, 0, 0, 0), 0, []),
  (24, false, .iastore, 1, 0, (25, 0, 0, 0), 0, []),
  (25, false, .aload_n 0, 1, 0, (0, 0, 0, 0), 0, []),
  (26, false, .getfield 15, 3, 150, (6, 1, 28, 1), 0, []),
  (29, false, .iload 4, 2, 0, (0, 0, 0, 0), 0, []),
  (31, false, .iload_n 2, 1, 0, (0, 0, 0, 0), 0, []),
  (32, false, .iastore, 1, 0, (26, 0, 0, 0), 0, []),
  (33, false, .aload_n 0, 1, 0, (0, 0, 0, 0), 0, []),
  (34, false, .getfield 18, 3, 151, (6, 2, 29, 1), 0, []),
  (37, false, .iload 4, 2, 0, (0, 0, 0, 0), 0, []),
  (39, false, .iload_n 3, 1, 0, (0, 0, 0, 0), 0, []),
  (40, false, .iastore, 1, 0, (27, 0, 0, 0), 0, []),
  (41, false, .aload_n 0, 1, 0, (0, 0, 0, 0), 0, []),
  (42, false, .aload_n 0, 1, 0, (0, 0, 0, 0), 0, []),
  (43, false, .getfield 21, 3, 152, (6, 3, 0, 0), 0, []),
  (46, false, .iload 4, 2, 0, (0, 0, 0, 0), 0, []),
  (48, false, .iconst 1, 1, 0, (0, 0, 0, 0), 0, []),
  (49, false, .iadd, 1, 0, (0, 0, 0, 0), 0, []),
  (50, false, .invokestatic 29, 3, 445, (168, 2, 0, 0), 0, [0, 0]),
  (53, false, .putfield 21, 3, 152, (6, 3, 0, 0), 0, []),
  (56, false, .iconst 1, 1, 0, (0, 0, 0, 0), 0, []),
  (57, false, .ireturn, 1, 0, (0, 0, 0, 0), 0, [])]
theorem zc_xP_put : zk_xP_put.all (zz_ck zz_inf zM_xP_put) = true ∧ zz_ch zk_xP_put = true := ⟨by decide +kernel, by decide +kernel⟩
noncomputable def xP_put (v1 v2 v3 : Int) (σ : zz_S) : zz_R := ((xP_placeOf v1 v2 σ).bind fun q1 => (if q1.1 < 40 then (if zz_b q1.2 25 1 q1.1 then (let s2 := zz_w q1.2 25 1 q1.1 v1; (if zz_b s2 26 1 q1.1 then (let s3 := zz_w s2 26 1 q1.1 v2; (if zz_b s3 27 1 q1.1 then (let s4 := zz_w s3 27 1 q1.1 v3; ((j_max (zz_h s4 6 1 3) (zz_r (q1.1 + 1)) s4).bind fun q5 => (let s6 := zz_w q5.2 6 1 3 q5.1; (some (1, s6))))) else none)) else none)) else none) else (some (0, q1.2))))
set_option maxRecDepth 100000 in
set_option maxHeartbeats 4000000 in
theorem ze_xP_put (v1 v2 v3 : Int) (σ : zz_S) : xP_put v1 v2 v3 σ = zz_ev (zz_CE [(84, zw_xP_placeOf), (168, zw_j_max)]) (zz_KE []) zk_xP_put 0 true 0 0 400 true (zz_sk zk_xP_put 0) [(0, 8, 1), (1, 0, v1), (2, 0, v2), (3, 0, v3)] [] σ := rfl
theorem zo_xP_put : zz_okb zM_xP_put 0 [(0, 8, true), (1, 0, false), (2, 0, false), (3, 0, false)] (zz_f3 xP_put) :=
  fun vs σ r τ h => by
    obtain ⟨v1, v2, v3, rfl, h⟩ := zz_f3_ok h
    exact zz_from zc_xP_put (zz_occ zo_m_xP_placeOf (zz_occ zo_m_j_max zz_oc0)) zz_ol0 ((ze_xP_put v1 v2 v3 σ).symm.trans h)
noncomputable def zw_xP_put : List Int → zz_S → zz_R := zz_f4 fun a0 a1 a2 a3 σ => if a0 = 1 then xP_put a1 a2 a3 σ else none
theorem zo_m_xP_put : zz_okm zz_inf 85 zw_xP_put := fun vs σ r τ h => by
  obtain ⟨a0, a1, a2, a3, rfl, h⟩ := zz_f4_ok h
  obtain ⟨e, h⟩ := zz_it h
  subst e
  exact zz_meth zi_xP_put zy_xP_put (zo_xP_put [a1, a2, a3] σ r τ h)
def zk_x_plan : List zz_E := [(0, false, .aload_n 0, 1, 0, (0, 0, 0, 0), 0, []),
  (1, false, .iload_n 1, 1, 0, (0, 0, 0, 0), 0, []),
  (2, false, .invokevirtual 100, 3, 385, (73, 2, 9, 0), 0, [0, 5]),
  (5, false, .ifnull 13, 3, 0, (18, 0, 0, 0), 0, []),
  (8, false, .iload_n 2, 1, 0, (0, 0, 0, 0), 0, []),
  (9, false, .iconst 1, 1, 0, (0, 0, 0, 0), 0, []),
  (10, false, .bipush 50, 2, 0, (0, 0, 0, 0), 0, []),
  (12, false, .invokestatic 91, 3, 228, (72, 3, 0, 0), 0, [0, 0, 0]),
  (15, false, .ifCond .ne 6, 3, 0, (21, 0, 0, 0), 0, []),
  (18, false, .bipush (-2), 2, 0, (0, 0, 0, 0), 0, []),
  (20, false, .ireturn, 1, 0, (0, 0, 0, 0), 0, []),
  (21, false, .iload_n 3, 1, 0, (0, 0, 0, 0), 0, []),
  (22, false, .iconst 0, 1, 0, (0, 0, 0, 0), 0, []),
  (23, false, .bipush 15, 2, 0, (0, 0, 0, 0), 0, []),
  (25, false, .invokestatic 91, 3, 228, (72, 3, 0, 0), 0, [0, 0, 0]),
  (28, false, .ifCond .ne 6, 3, 0, (34, 0, 0, 0), 0, []),
  (31, false, .bipush (-2), 2, 0, (0, 0, 0, 0), 0, []),
  (33, false, .ireturn, 1, 0, (0, 0, 0, 0), 0, []),
  (34, false, .aload_n 0, 1, 0, (0, 0, 0, 0), 0, []),
  (35, false, .getfield 41, 3, 168, (3, 5, 8, 1), 0, []),
  (38, false, .iload_n 1, 1, 0, (0, 0, 0, 0), 0, []),
  (39, false, .iload_n 2, 1, 0, (0, 0, 0, 0), 0, []),
  (40, false, .iload_n 3, 1, 0, (0, 0, 0, 0), 0, []),
  (41, false, .invokevirtual 168, 3, 437, (85, 4, 0, 0), 0, [0, 0, 0, 8]),
  (44, false, .ifCond .eq 13, 3, 0, (57, 0, 0, 0), 0, []),
  (47, false, .aload_n 0, 1, 0, (0, 0, 0, 0), 0, []),
  (48, false, .getfield 41, 3, 168, (3, 5, 8, 1), 0, []),
  (51, false, .getfield 171, 3, 153, (6, 3, 0, 0), 0, []),
  (54, false, .goto 5, 3, 0, (59, 0, 0, 0), 0, []),
  (57, false, .bipush (-4), 2, 0, (0, 0, 0, 0), 0, []),
  (59, false, .ireturn, 1, 0, (0, 0, 0, 0), 0, [])]
theorem zc_x_plan : zk_x_plan.all (zz_ck zz_inf zM_x_plan) = true ∧ zz_ch zk_x_plan = true := ⟨by decide +kernel, by decide +kernel⟩
noncomputable def x_plan (v1 v2 v3 : Int) (σ : zz_S) : zz_R := ((x_taskAt v1 σ).bind fun q1 => (if q1.1 = 0 then (some ((-2), q1.2)) else ((x_isWithin v2 1 50 q1.2).bind fun q2 => (if q2.1 = 0 then (some ((-2), q2.2)) else ((x_isWithin v3 0 15 q2.2).bind fun q3 => (if q3.1 = 0 then (some ((-2), q3.2)) else ((xP_put v1 v2 v3 q3.2).bind fun q4 => (if q4.1 = 0 then (some ((-4), q4.2)) else (some ((zz_h q4.2 6 1 3), q4.2))))))))))
set_option maxRecDepth 100000 in
set_option maxHeartbeats 4000000 in
theorem ze_x_plan (v1 v2 v3 : Int) (σ : zz_S) : x_plan v1 v2 v3 σ = zz_ev (zz_CE [(72, zw_x_isWithin), (73, zw_x_taskAt), (85, zw_xP_put)]) (zz_KE []) zk_x_plan 0 false 0 0 400 true (zz_sk zk_x_plan 0) [(0, 5, 1), (1, 0, v1), (2, 0, v2), (3, 0, v3)] [] σ := rfl
theorem zo_x_plan : zz_okb zM_x_plan 0 [(0, 5, true), (1, 0, false), (2, 0, false), (3, 0, false)] (zz_f3 x_plan) :=
  fun vs σ r τ h => by
    obtain ⟨v1, v2, v3, rfl, h⟩ := zz_f3_ok h
    exact zz_from zc_x_plan (zz_occ zo_m_x_isWithin (zz_occ zo_m_x_taskAt (zz_occ zo_m_xP_put zz_oc0))) zz_ol0 ((ze_x_plan v1 v2 v3 σ).symm.trans h)
noncomputable def zw_x_plan : List Int → zz_S → zz_R := zz_f4 fun a0 a1 a2 a3 σ => if a0 = 1 then x_plan a1 a2 a3 σ else none
theorem zo_m_x_plan : zz_okm zz_inf 22 zw_x_plan := fun vs σ r τ h => by
  obtain ⟨a0, a1, a2, a3, rfl, h⟩ := zz_f4_ok h
  obtain ⟨e, h⟩ := zz_it h
  subst e
  exact zz_meth zi_x_plan zy_x_plan (zo_x_plan [a1, a2, a3] σ r τ h)
def zk_x_clearPlan : List zz_E := [(0, false, .aload_n 0, 1, 0, (0, 0, 0, 0), 0, []),
  (1, false, .getfield 41, 3, 168, (3, 5, 8, 1), 0, []),
  (4, false, .getfield 171, 3, 153, (6, 3, 0, 0), 0, []),
  (7, false, .istore_n 1, 1, 0, (0, 0, 0, 0), 0, []),
  (8, false, .aload_n 0, 1, 0, (0, 0, 0, 0), 0, []),
  (9, false, .getfield 41, 3, 168, (3, 5, 8, 1), 0, []),
  (12, false, .iconst 0, 1, 0, (0, 0, 0, 0), 0, []),
  (13, false, .putfield 171, 3, 153, (6, 3, 0, 0), 0, []),
  (16, false, .iload_n 1, 1, 0, (0, 0, 0, 0), 0, []),
  (17, false, .ireturn, 1, 0, (0, 0, 0, 0), 0, [])]
theorem zc_x_clearPlan : zk_x_clearPlan.all (zz_ck zz_inf zM_x_clearPlan) = true ∧ zz_ch zk_x_clearPlan = true := ⟨by decide +kernel, by decide +kernel⟩
noncomputable def x_clearPlan (σ : zz_S) : zz_R := (let s1 := zz_w σ 6 1 3 0; (some ((zz_h σ 6 1 3), s1)))
set_option maxRecDepth 100000 in
set_option maxHeartbeats 4000000 in
theorem ze_x_clearPlan (σ : zz_S) : x_clearPlan σ = zz_ev (zz_CE []) (zz_KE []) zk_x_clearPlan 0 false 0 0 400 true (zz_sk zk_x_clearPlan 0) [(0, 5, 1)] [] σ := rfl
theorem zo_x_clearPlan : zz_okb zM_x_clearPlan 0 [(0, 5, true)] (zz_f0 x_clearPlan) :=
  fun vs σ r τ h => by
    obtain ⟨rfl, h⟩ := zz_f0_ok h
    exact zz_from zc_x_clearPlan zz_oc0 zz_ol0 ((ze_x_clearPlan σ).symm.trans h)
noncomputable def zw_x_clearPlan : List Int → zz_S → zz_R := zz_f1 fun a0 σ => if a0 = 1 then x_clearPlan σ else none
theorem zo_m_x_clearPlan : zz_okm zz_inf 23 zw_x_clearPlan := fun vs σ r τ h => by
  obtain ⟨a0, rfl, h⟩ := zz_f1_ok h
  obtain ⟨e, h⟩ := zz_it h
  subst e
  exact zz_meth zi_x_clearPlan zy_x_clearPlan (zo_x_clearPlan [] σ r τ h)
def zk_j_min : List zz_E := [(0, false, .iload_n 0, 1, 0, (0, 0, 0, 0), 0, []),
  (1, false, .iload_n 1, 1, 0, (0, 0, 0, 0), 0, []),
  (2, false, .if_icmp .gt 7, 3, 0, (9, 0, 0, 0), 0, []),
  (5, false, .iload_n 0, 1, 0, (0, 0, 0, 0), 0, []),
  (6, false, .goto 4, 3, 0, (10, 0, 0, 0), 0, []),
  (9, false, .iload_n 1, 1, 0, (0, 0, 0, 0), 0, []),
  (10, false, .ireturn, 1, 0, (0, 0, 0, 0), 0, [])]
theorem zc_j_min : zk_j_min.all (zz_ck zz_inf zM_j_min) = true ∧ zz_ch zk_j_min = true := ⟨by decide +kernel, by decide +kernel⟩
noncomputable def j_min (v0 v1 : Int) (σ : zz_S) : zz_R := (if v0 ≤ v1 then (some (v0, σ)) else (some (v1, σ)))
set_option maxRecDepth 100000 in
set_option maxHeartbeats 4000000 in
theorem ze_j_min (v0 v1 : Int) (σ : zz_S) : j_min v0 v1 σ = zz_ev (zz_CE []) (zz_KE []) zk_j_min 0 false 0 0 400 true (zz_sk zk_j_min 0) [(0, 0, v0), (1, 0, v1)] [] σ := rfl
theorem zo_j_min : zz_okb zM_j_min 0 [(0, 0, false), (1, 0, false)] (zz_f2 j_min) :=
  fun vs σ r τ h => by
    obtain ⟨v0, v1, rfl, h⟩ := zz_f2_ok h
    exact zz_from zc_j_min zz_oc0 zz_ol0 ((ze_j_min v0 v1 σ).symm.trans h)
noncomputable def zw_j_min : List Int → zz_S → zz_R := zz_f2 fun a0 a1 σ => j_min a0 a1 σ
theorem zo_m_j_min : zz_okm zz_inf 169 zw_j_min := fun vs σ r τ h => by
  obtain ⟨a0, a1, rfl, h⟩ := zz_f2_ok h
  exact zz_meth zi_j_min zy_j_min (zo_j_min [a0, a1] σ r τ h)
def zk_x_firstEnding : List zz_E := [(0, false, .iconst 0, 1, 0, (0, 0, 0, 0), 0, []),
  (1, false, .istore_n 1, 1, 0, (0, 0, 0, 0), 0, []),
  (2, true, .iload_n 1, 1, 0, (0, 0, 0, 0), 0, []),
  (3, false, .aload_n 0, 1, 0, (0, 0, 0, 0), 0, []),
  (4, false, .getfield 69, 3, 176, (3, 13, 0, 0), 0, []),
  (7, false, .if_icmp .ge 33, 3, 0, (40, 0, 0, 0), 0, []),
  (10, false, .aload_n 0, 1, 0, (0, 0, 0, 0), 0, []),
  (11, false, .getfield 21, 3, 165, (3, 2, 15, 1), 0, []),
  (14, false, .iload_n 1, 1, 0, (0, 0, 0, 0), 0, []),
  (15, false, .aaload, 1, 0, (13, 0, 12, 0), 0, []),
  (16, false, .astore_n 2, 1, 0, (0, 0, 0, 0), 0, []),
  (17, false, .aload_n 2, 1, 0, (0, 0, 0, 0), 0, []),
  (18, false, .ifnull 16, 3, 0, (34, 0, 0, 0), 0, []),
  (21, false, .aload_n 2, 1, 0, (0, 0, 0, 0), 0, []),
  (22, false, .getfield 200, 3, 644, (10, 5, 0, 0), 0, []),
  (25, false, .aload_n 0, 1, 0, (0, 0, 0, 0), 0, []),
  (26, false, .getfield 78, 3, 179, (3, 16, 0, 0), 0, []),
  (29, false, .if_icmp .ne 5, 3, 0, (34, 0, 0, 0), 0, []),
  (32, false, .aload_n 2, 1, 0, (0, 0, 0, 0), 0, []),
  (33, false, .areturn, 1, 0, (0, 0, 0, 0), 0, []),
  (34, false, .iinc 1 1, 3, 0, (0, 0, 0, 0), 0, []),
  (37, false, .goto (-35), 3, 0, (2, 0, 0, 0), 0, []),
  (40, false, .aconst_null, 1, 0, (0, 0, 0, 0), 0, []),
  (41, false, .areturn, 1, 0, (0, 0, 0, 0), 0, [])]
theorem zc_x_firstEnding : zk_x_firstEnding.all (zz_ck zz_inf zM_x_firstEnding) = true ∧ zz_ch zk_x_firstEnding = true := ⟨by decide +kernel, by decide +kernel⟩
noncomputable def x_firstEnding_2 : Nat → Int → zz_S → zz_R
  | 0, _, _ => none
  | n + 1, v1, σ => (if v1 < (zz_h σ 3 1 13) then (if zz_b σ 13 1 v1 then (if (zz_h σ 13 1 v1) = 0 then (x_firstEnding_2 n (zz_r (v1 + 1)) σ) else (if (zz_h σ 13 1 v1) = 0 then none else (if (zz_h σ 10 (zz_h σ 13 1 v1) 5) = (zz_h σ 3 1 16) then (some ((zz_h σ 13 1 v1), σ)) else (x_firstEnding_2 n (zz_r (v1 + 1)) σ)))) else none) else (some (0, σ)))
set_option maxRecDepth 100000 in
set_option maxHeartbeats 4000000 in
theorem ze_x_firstEnding_2 (n : Nat) (v1 : Int) (σ : zz_S) : x_firstEnding_2 (n + 1) v1 σ = zz_ev (zz_CE []) (zz_KE [(2, [(0, 5, true), (1, 0, false)], zz_f1 (x_firstEnding_2 n))]) zk_x_firstEnding 12 false 0 0 400 true (zz_sk zk_x_firstEnding 2) [(0, 5, 1), (1, 0, v1)] [] σ := rfl
theorem zo_x_firstEnding_2 : ∀ n : Nat, zz_okb zM_x_firstEnding 2 [(0, 5, true), (1, 0, false)] (zz_f1 (x_firstEnding_2 n))
  | 0 => fun vs σ r τ h => by
    obtain ⟨v1, rfl, h⟩ := zz_f1_ok h
    exact nomatch (show (none : zz_R) = some (r, τ) from h)
  | n + 1 => by
    have ih := zo_x_firstEnding_2 n
    exact fun vs σ r τ h => by
        obtain ⟨v1, rfl, h⟩ := zz_f1_ok h
        exact zz_from zc_x_firstEnding zz_oc0 (zz_olc ih zz_ol0) ((ze_x_firstEnding_2 n v1 σ).symm.trans h)
noncomputable def x_firstEnding (σ : zz_S) : zz_R := (x_firstEnding_2 zz_fu 0 σ)
set_option maxRecDepth 100000 in
set_option maxHeartbeats 4000000 in
theorem ze_x_firstEnding (σ : zz_S) : x_firstEnding σ = zz_ev (zz_CE []) (zz_KE [(2, [(0, 5, true), (1, 0, false)], zz_f1 (x_firstEnding_2 zz_fu))]) zk_x_firstEnding 12 false 0 0 400 true (zz_sk zk_x_firstEnding 0) [(0, 5, 1)] [] σ := rfl
theorem zo_x_firstEnding : zz_okb zM_x_firstEnding 0 [(0, 5, true)] (zz_f0 x_firstEnding) :=
  fun vs σ r τ h => by
    obtain ⟨rfl, h⟩ := zz_f0_ok h
    exact zz_from zc_x_firstEnding zz_oc0 (zz_olc (zo_x_firstEnding_2 zz_fu) zz_ol0) ((ze_x_firstEnding σ).symm.trans h)
noncomputable def zw_x_firstEnding : List Int → zz_S → zz_R := zz_f1 fun a0 σ => if a0 = 1 then x_firstEnding σ else none
theorem zo_m_x_firstEnding : zz_okm zz_inf 27 zw_x_firstEnding := fun vs σ r τ h => by
  obtain ⟨a0, rfl, h⟩ := zz_f1_ok h
  obtain ⟨e, h⟩ := zz_it h
  subst e
  exact zz_meth zi_x_firstEnding zy_x_firstEnding (zo_x_firstEnding [] σ r τ h)
def zk_xP_kindOf : List zz_E := [(0, false, .aload_n 0, 1, 0, (0, 0, 0, 0), 0, []),
  (1, false, .iload_n 1, 1, 0, (0, 0, 0, 0), 0, []),
  (2, false, .iload_n 2, 1, 0, (0, 0, 0, 0), 0, []),
  (3, false, .invokevirtual 25, 3, 441, (84, 3, 0, 0), 0, [0, 0, 8]),
  (6, false, .istore_n 3, 1, 0, (0, 0, 0, 0), 0, []),
  (7, false, .iload_n 3, 1, 0, (0, 0, 0, 0), 0, []),
  (8, false, .aload_n 0, 1, 0, (0, 0, 0, 0), 0, []),
  (9, false, .getfield 21, 3, 152, (6, 3, 0, 0), 0, []),
  (12, false, .if_icmp .ge 12, 3, 0, (24, 0, 0, 0), 0, []),
  (15, false, .aload_n 0, 1, 0, (0, 0, 0, 0), 0, []),
  (16, false, .getfield 18, 3, 151, (6, 2, 29, 1), 0, []),
  (19, false, .iload_n 3, 1, 0, (0, 0, 0, 0), 0, []),
  (20, false, .iaload, 1, 0, (27, 0, 0, 0), 0, []),
  (21, false, .goto 4, 3, 0, (25, 0, 0, 0), 0, []),
  (24, false, .iconst (-1), 1, 0, (0, 0, 0, 0), 0, []),
  (25, false, .ireturn, 1, 0, (0, 0, 0, 0), 0, [])]
theorem zc_xP_kindOf : zk_xP_kindOf.all (zz_ck zz_inf zM_xP_kindOf) = true ∧ zz_ch zk_xP_kindOf = true := ⟨by decide +kernel, by decide +kernel⟩
noncomputable def xP_kindOf (v1 v2 : Int) (σ : zz_S) : zz_R := ((xP_placeOf v1 v2 σ).bind fun q1 => (if q1.1 < (zz_h q1.2 6 1 3) then (if zz_b q1.2 27 1 q1.1 then (some ((zz_h q1.2 27 1 q1.1), q1.2)) else none) else (some ((-1), q1.2))))
set_option maxRecDepth 100000 in
set_option maxHeartbeats 4000000 in
theorem ze_xP_kindOf (v1 v2 : Int) (σ : zz_S) : xP_kindOf v1 v2 σ = zz_ev (zz_CE [(84, zw_xP_placeOf)]) (zz_KE []) zk_xP_kindOf 0 false 0 0 400 true (zz_sk zk_xP_kindOf 0) [(0, 8, 1), (1, 0, v1), (2, 0, v2)] [] σ := rfl
theorem zo_xP_kindOf : zz_okb zM_xP_kindOf 0 [(0, 8, true), (1, 0, false), (2, 0, false)] (zz_f2 xP_kindOf) :=
  fun vs σ r τ h => by
    obtain ⟨v1, v2, rfl, h⟩ := zz_f2_ok h
    exact zz_from zc_xP_kindOf (zz_occ zo_m_xP_placeOf zz_oc0) zz_ol0 ((ze_xP_kindOf v1 v2 σ).symm.trans h)
noncomputable def zw_xP_kindOf : List Int → zz_S → zz_R := zz_f3 fun a0 a1 a2 σ => if a0 = 1 then xP_kindOf a1 a2 σ else none
theorem zo_m_xP_kindOf : zz_okm zz_inf 86 zw_xP_kindOf := fun vs σ r τ h => by
  obtain ⟨a0, a1, a2, rfl, h⟩ := zz_f3_ok h
  obtain ⟨e, h⟩ := zz_it h
  subst e
  exact zz_meth zi_xP_kindOf zy_xP_kindOf (zo_xP_kindOf [a1, a2] σ r τ h)
def zk_xT_isActive : List zz_E := [(0, false, .aload_n 0, 1, 0, (0, 0, 0, 0), 0, []),
  (1, false, .getfield 39, 3, 320, (7, 10, 0, 0), 0, []),
  (4, false, .ifCond .ne 7, 3, 0, (11, 0, 0, 0), 0, []),
  (7, false, .iconst 1, 1, 0, (0, 0, 0, 0), 0, []),
  (8, false, .goto 4, 3, 0, (12, 0, 0, 0), 0, []),
  (11, false, .iconst 0, 1, 0, (0, 0, 0, 0), 0, []),
  (12, false, .ireturn, 1, 0, (0, 0, 0, 0), 0, [])]
theorem zc_xT_isActive : zk_xT_isActive.all (zz_ck zz_inf zM_xT_isActive) = true ∧ zz_ch zk_xT_isActive = true := ⟨by decide +kernel, by decide +kernel⟩
noncomputable def xT_isActive (v0 : Int) (σ : zz_S) : zz_R := (if v0 = 0 then none else (if (zz_h σ 7 v0 10) = 0 then (some (1, σ)) else (some (0, σ))))
set_option maxRecDepth 100000 in
set_option maxHeartbeats 4000000 in
theorem ze_xT_isActive (v0 : Int) (σ : zz_S) : xT_isActive v0 σ = zz_ev (zz_CE []) (zz_KE []) zk_xT_isActive 0 true 0 0 400 true (zz_sk zk_xT_isActive 0) [(0, 9, v0)] [] σ := rfl
theorem zo_xT_isActive : zz_okb zM_xT_isActive 0 [(0, 9, false)] (zz_f1 xT_isActive) :=
  fun vs σ r τ h => by
    obtain ⟨v0, rfl, h⟩ := zz_f1_ok h
    exact zz_from zc_xT_isActive zz_oc0 zz_ol0 ((ze_xT_isActive v0 σ).symm.trans h)
noncomputable def zw_xT_isActive : List Int → zz_S → zz_R := zz_f1 fun a0 σ => xT_isActive a0 σ
theorem zo_m_xT_isActive : zz_okm zz_inf 88 zw_xT_isActive := fun vs σ r τ h => by
  obtain ⟨a0, rfl, h⟩ := zz_f1_ok h
  exact zz_meth zi_xT_isActive zy_xT_isActive (zo_xT_isActive [a0] σ r τ h)
def zk_xD_removeAll : List zz_E := [(0, false, .iconst 0, 1, 0, (0, 0, 0, 0), 0, []),
  (1, false, .istore_n 2, 1, 0, (0, 0, 0, 0), 0, []),
  (2, false, .iconst 0, 1, 0, (0, 0, 0, 0), 0, []),
  (3, false, .istore_n 3, 1, 0, (0, 0, 0, 0), 0, []),
  (4, true, .iload_n 3, 1, 0, (0, 0, 0, 0), 0, []),
  (5, false, .aload_n 0, 1, 0, (0, 0, 0, 0), 0, []),
  (6, false, .getfield 25, 3, 107, (4, 3, 0, 0), 0, []),
  (9, false, .if_icmp .ge 58, 3, 0, (67, 0, 0, 0), 0, []),
  (12, false, .aload_n 0, 1, 0, (0, 0, 0, 0), 0, []),
  (13, false, .getfield 11, 3, 101, (4, 0, 21, 1), 0, []),
  (16, false, .iload_n 3, 1, 0, (0, 0, 0, 0), 0, []),
  (17, false, .aaload, 1, 0, (19, 0, 9, 0), 0, []),
  (18, false, .aload_n 1, 1, 0, (0, 0, 0, 0), 0, []),
  (19, false, .if_acmp .eq 42, 3, 0, (61, 0, 0, 0), 0, []),
  (22, false, .aload_n 0, 1, 0, (0, 0, 0, 0), 0, []),
  (23, false, .getfield 11, 3, 101, (4, 0, 21, 1), 0, []),
  (26, false, .iload_n 2, 1, 0, (0, 0, 0, 0), 0, []),
  (27, false, .aload_n 0, 1, 0, (0, 0, 0, 0), 0, []),
  (28, false, .getfield 11, 3, 101, (4, 0, 21, 1), 0, []),
  (31, false, .iload_n 3, 1, 0, (0, 0, 0, 0), 0, []),
  (32, false, .aaload, 1, 0, (19, 0, 9, 0), 0, []),
  (33, false, .aastore, 1, 0, (19, 0, 9, 0), 0, []),
  (34, false, .aload_n 0, 1, 0, (0, 0, 0, 0), 0, []),
  (35, false, .getfield 17, 3, 103, (4, 1, 22, 1), 0, []),
  (38, false, .iload_n 2, 1, 0, (0, 0, 0, 0), 0, []),
  (39, false, .aload_n 0, 1, 0, (0, 0, 0, 0), 0, []),
  (40, false, .getfield 17, 3, 103, (4, 1, 22, 1), 0, []),
  (43, false, .iload_n 3, 1, 0, (0, 0, 0, 0), 0, []),
  (44, false, .iaload, 1, 0, (20, 0, 0, 0), 0, []),
  (45, false, .iastore, 1, 0, (20, 0, 0, 0), 0, []),
  (46, false, .aload_n 0, 1, 0, (0, 0, 0, 0), 0, []),
  (47, false, .getfield 21, 3, 105, (4, 2, 23, 1), 0, []),
  (50, false, .iload_n 2, 1, 0, (0, 0, 0, 0), 0, []),
  (51, false, .aload_n 0, 1, 0, (0, 0, 0, 0), 0, []),
  (52, false, .getfield 21, 3, 105, (4, 2, 23, 1), 0, []),
  (55, false, .iload_n 3, 1, 0, (0, 0, 0, 0), 0, []),
  (56, false, .baload, 1, 0, (21, 0, 0, 0), 0, []),
  (57, false, .bastore, 1, 0, (21, 0, 0, 0), 0, []),
  (58, false, .iinc 2 1, 3, 0, (0, 0, 0, 0), 0, []),
  (61, false, .iinc 3 1, 3, 0, (0, 0, 0, 0), 0, []),
  (64, false, .goto (-60), 3, 0, (4, 0, 0, 0), 0, []),
  (67, false, .aload_n 0, 1, 0, (0, 0, 0, 0), 0, []),
  (68, false, .iload_n 2, 1, 0, (0, 0, 0, 0), 0, []),
  (69, false, .putfield 25, 3, 107, (4, 3, 0, 0), 0, []),
  (72, false, .aload_n 1, 1, 0, (0, 0, 0, 0), 0, []),
  (73, false, .iconst 0, 1, 0, (0, 0, 0, 0), 0, []),
  (74, false, .putfield 29, 3, 334, (7, 16, 0, 0), 0, []),
  (77, false, .return_, 1, 0, (0, 0, 0, 0), 0, [])]
theorem zc_xD_removeAll : zk_xD_removeAll.all (zz_ck zz_inf zM_xD_removeAll) = true ∧ zz_ch zk_xD_removeAll = true := ⟨by decide +kernel, by decide +kernel⟩
noncomputable def xD_removeAll_4 : Nat → Int → Int → Int → zz_S → zz_R
  | 0, _, _, _, _ => none
  | n + 1, v1, v2, v3, σ => (if v3 < (zz_h σ 4 1 3) then (if zz_b σ 19 1 v3 then (if (zz_h σ 19 1 v3) = v1 then (xD_removeAll_4 n v1 v2 (zz_r (v3 + 1)) σ) else (if zz_b σ 19 1 v3 then (if zz_b σ 19 1 v2 then (if (zz_h σ 19 1 v3) = 0 then none else (let s1 := zz_w σ 19 1 v2 (zz_h σ 19 1 v3); (if zz_b s1 20 1 v3 then (if zz_b s1 20 1 v2 then (let s2 := zz_w s1 20 1 v2 (zz_h s1 20 1 v3); (if zz_b s2 21 1 v3 then (if zz_b s2 21 1 v2 then (if zz_o (zz_h s2 21 1 v3) then (let s3 := zz_w s2 21 1 v2 (zz_h s2 21 1 v3); (xD_removeAll_4 n v1 (zz_r (v2 + 1)) (zz_r (v3 + 1)) s3)) else none) else none) else none)) else none) else none))) else none) else none)) else none) else (let s4 := zz_w σ 4 1 3 v2; (if v1 = 0 then none else (let s5 := zz_w s4 7 v1 16 0; (some (0, s5))))))
set_option maxRecDepth 100000 in
set_option maxHeartbeats 4000000 in
theorem ze_xD_removeAll_4 (n : Nat) (v1 v2 v3 : Int) (σ : zz_S) : xD_removeAll_4 (n + 1) v1 v2 v3 σ = zz_ev (zz_CE []) (zz_KE [(4, [(0, 6, true), (1, 9, false), (2, 0, false), (3, 0, false)], zz_f3 (xD_removeAll_4 n))]) zk_xD_removeAll 999 false 0 0 400 true (zz_sk zk_xD_removeAll 4) [(0, 6, 1), (1, 9, v1), (2, 0, v2), (3, 0, v3)] [] σ := rfl
theorem zo_xD_removeAll_4 : ∀ n : Nat, zz_okb zM_xD_removeAll 4 [(0, 6, true), (1, 9, false), (2, 0, false), (3, 0, false)] (zz_f3 (xD_removeAll_4 n))
  | 0 => fun vs σ r τ h => by
    obtain ⟨v1, v2, v3, rfl, h⟩ := zz_f3_ok h
    exact nomatch (show (none : zz_R) = some (r, τ) from h)
  | n + 1 => by
    have ih := zo_xD_removeAll_4 n
    exact fun vs σ r τ h => by
        obtain ⟨v1, v2, v3, rfl, h⟩ := zz_f3_ok h
        exact zz_from zc_xD_removeAll zz_oc0 (zz_olc ih zz_ol0) ((ze_xD_removeAll_4 n v1 v2 v3 σ).symm.trans h)
noncomputable def xD_removeAll (v1 : Int) (σ : zz_S) : zz_R := (xD_removeAll_4 zz_fu v1 0 0 σ)
set_option maxRecDepth 100000 in
set_option maxHeartbeats 4000000 in
theorem ze_xD_removeAll (v1 : Int) (σ : zz_S) : xD_removeAll v1 σ = zz_ev (zz_CE []) (zz_KE [(4, [(0, 6, true), (1, 9, false), (2, 0, false), (3, 0, false)], zz_f3 (xD_removeAll_4 zz_fu))]) zk_xD_removeAll 999 false 0 0 400 true (zz_sk zk_xD_removeAll 0) [(0, 6, 1), (1, 9, v1)] [] σ := rfl
theorem zo_xD_removeAll : zz_okb zM_xD_removeAll 0 [(0, 6, true), (1, 9, false)] (zz_f1 xD_removeAll) :=
  fun vs σ r τ h => by
    obtain ⟨v1, rfl, h⟩ := zz_f1_ok h
    exact zz_from zc_xD_removeAll zz_oc0 (zz_olc (zo_xD_removeAll_4 zz_fu) zz_ol0) ((ze_xD_removeAll v1 σ).symm.trans h)
noncomputable def zw_xD_removeAll : List Int → zz_S → zz_R := zz_f2 fun a0 a1 σ => if a0 = 1 then xD_removeAll a1 σ else none
theorem zo_m_xD_removeAll : zz_okm zz_inf 78 zw_xD_removeAll := fun vs σ r τ h => by
  obtain ⟨a0, a1, rfl, h⟩ := zz_f2_ok h
  obtain ⟨e, h⟩ := zz_it h
  subst e
  exact zz_meth zi_xD_removeAll zy_xD_removeAll (zo_xD_removeAll [a1] σ r τ h)
def zk_x_leave : List zz_E := [(0, false, .aload_n 1, 1, 0, (0, 0, 0, 0), 0, []),
  (1, false, .iload_n 2, 1, 0, (0, 0, 0, 0), 0, []),
  (2, false, .putfield 319, 3, 321, (7, 10, 0, 0), 0, []),
  (5, false, .aload_n 0, 1, 0, (0, 0, 0, 0), 0, []),
  (6, false, .getfield 27, 3, 166, (3, 3, 6, 1), 0, []),
  (9, false, .aload_n 1, 1, 0, (0, 0, 0, 0), 0, []),
  (10, false, .invokevirtual 383, 3, 491, (78, 2, 999, 0), 0, [9, 6]),
  (13, false, .return_, 1, 0, (0, 0, 0, 0), 0, [])]
theorem zc_x_leave : zk_x_leave.all (zz_ck zz_inf zM_x_leave) = true ∧ zz_ch zk_x_leave = true := ⟨by decide +kernel, by decide +kernel⟩
noncomputable def x_leave (v1 v2 : Int) (σ : zz_S) : zz_R := (if v1 = 0 then none else (let s1 := zz_w σ 7 v1 10 v2; ((xD_removeAll v1 s1).bind fun q2 => (some (0, q2.2)))))
set_option maxRecDepth 100000 in
set_option maxHeartbeats 4000000 in
theorem ze_x_leave (v1 v2 : Int) (σ : zz_S) : x_leave v1 v2 σ = zz_ev (zz_CE [(78, zw_xD_removeAll)]) (zz_KE []) zk_x_leave 999 false 0 0 400 true (zz_sk zk_x_leave 0) [(0, 5, 1), (1, 9, v1), (2, 0, v2)] [] σ := rfl
theorem zo_x_leave : zz_okb zM_x_leave 0 [(0, 5, true), (1, 9, false), (2, 0, false)] (zz_f2 x_leave) :=
  fun vs σ r τ h => by
    obtain ⟨v1, v2, rfl, h⟩ := zz_f2_ok h
    exact zz_from zc_x_leave (zz_occ zo_m_xD_removeAll zz_oc0) zz_ol0 ((ze_x_leave v1 v2 σ).symm.trans h)
noncomputable def zw_x_leave : List Int → zz_S → zz_R := zz_f3 fun a0 a1 a2 σ => if a0 = 1 then x_leave a1 a2 σ else none
theorem zo_m_x_leave : zz_okm zz_inf 52 zw_x_leave := fun vs σ r τ h => by
  obtain ⟨a0, a1, a2, rfl, h⟩ := zz_f3_ok h
  obtain ⟨e, h⟩ := zz_it h
  subst e
  exact zz_meth zi_x_leave zy_x_leave (zo_x_leave [a1, a2] σ r τ h)
def zk_xT_fireFor : List zz_E := [(0, false, .aload_n 0, 1, 0, (0, 0, 0, 0), 0, []),
  (1, false, .getfield 60, 3, 338, (7, 18, 0, 0), 0, []),
  (4, false, .iload_n 1, 1, 0, (0, 0, 0, 0), 0, []),
  (5, false, .if_icmp .ne 4, 3, 0, (9, 0, 0, 0), 0, []),
  (8, false, .return_, 1, 0, (0, 0, 0, 0), 0, []),
  (9, false, .aload_n 0, 1, 0, (0, 0, 0, 0), 0, []),
  (10, false, .aload_n 0, 1, 0, (0, 0, 0, 0), 0, []),
  (11, false, .getfield 60, 3, 338, (7, 18, 0, 0), 0, []),
  (14, false, .putfield 63, 3, 339, (7, 19, 0, 0), 0, []),
  (17, false, .aload_n 0, 1, 0, (0, 0, 0, 0), 0, []),
  (18, false, .iload_n 1, 1, 0, (0, 0, 0, 0), 0, []),
  (19, false, .putfield 60, 3, 338, (7, 18, 0, 0), 0, []),
  (22, false, .return_, 1, 0, (0, 0, 0, 0), 0, [])]
theorem zc_xT_fireFor : zk_xT_fireFor.all (zz_ck zz_inf zM_xT_fireFor) = true ∧ zz_ch zk_xT_fireFor = true := ⟨by decide +kernel, by decide +kernel⟩
noncomputable def xT_fireFor (v0 v1 : Int) (σ : zz_S) : zz_R := (if v0 = 0 then none else (if (zz_h σ 7 v0 18) = v1 then (some (0, σ)) else (if v0 = 0 then none else (if v0 = 0 then none else (let s1 := zz_w σ 7 v0 19 (zz_h σ 7 v0 18); (if v0 = 0 then none else (let s2 := zz_w s1 7 v0 18 v1; (some (0, s2)))))))))
set_option maxRecDepth 100000 in
set_option maxHeartbeats 4000000 in
theorem ze_xT_fireFor (v0 v1 : Int) (σ : zz_S) : xT_fireFor v0 v1 σ = zz_ev (zz_CE []) (zz_KE []) zk_xT_fireFor 999 false 0 0 400 true (zz_sk zk_xT_fireFor 0) [(0, 9, v0), (1, 0, v1)] [] σ := rfl
theorem zo_xT_fireFor : zz_okb zM_xT_fireFor 0 [(0, 9, false), (1, 0, false)] (zz_f2 xT_fireFor) :=
  fun vs σ r τ h => by
    obtain ⟨v0, v1, rfl, h⟩ := zz_f2_ok h
    exact zz_from zc_xT_fireFor zz_oc0 zz_ol0 ((ze_xT_fireFor v0 v1 σ).symm.trans h)
noncomputable def zw_xT_fireFor : List Int → zz_S → zz_R := zz_f2 fun a0 a1 σ => xT_fireFor a0 a1 σ
theorem zo_m_xT_fireFor : zz_okm zz_inf 89 zw_xT_fireFor := fun vs σ r τ h => by
  obtain ⟨a0, a1, rfl, h⟩ := zz_f2_ok h
  exact zz_meth zi_xT_fireFor zy_xT_fireFor (zo_xT_fireFor [a0, a1] σ r τ h)
def zk_x_act : List zz_E := [(0, false, .aload_n 1, 1, 0, (0, 0, 0, 0), 0, []),
  (1, false, .getfield 203, 3, 636, (10, 1, 9, 0), 0, []),
  (4, false, .getfield 136, 3, 317, (7, 8, 0, 0), 0, []),
  (7, false, .istore_n 2, 1, 0, (0, 0, 0, 0), 0, []),
  (8, false, .aload_n 1, 1, 0, (0, 0, 0, 0), 0, []),
  (9, false, .getfield 203, 3, 636, (10, 1, 9, 0), 0, []),
  (12, false, .getfield 139, 3, 319, (7, 9, 0, 0), 0, []),
  (15, false, .bipush 7, 2, 0, (0, 0, 0, 0), 0, []),
  (17, false, .iand, 1, 0, (0, 0, 0, 0), 0, []),
  (18, false, .istore_n 3, 1, 0, (0, 0, 0, 0), 0, []),
  (19, false, .aload_n 0, 1, 0, (0, 0, 0, 0), 0, []),
  (20, false, .iload_n 2, 1, 0, (0, 0, 0, 0), 0, []),
  (21, false, .invokevirtual 100, 3, 385, (73, 2, 9, 0), 0, [0, 5]),
  (24, false, .astore 4, 2, 0, (0, 0, 0, 0), 0, []),
  (26, false, .aload_n 1, 1, 0, (0, 0, 0, 0), 0, []),
  (27, false, .getfield 203, 3, 636, (10, 1, 9, 0), 0, []),
  (30, false, .getfield 133, 3, 315, (7, 7, 0, 0), 0, []),
  (33, false, .tableswitch 158 1 6 #[39, 51, 72, 92, 104, 129], 39, 0, (191, 0, 0, 0), 1, [72, 84, 105, 125, 137, 162]),
  (72, false, .aload_n 0, 1, 0, (0, 0, 0, 0), 0, []),
  (73, false, .getfield 56, 3, 172, (3, 9, 19, 1), 0, []),
  (76, false, .iload_n 3, 1, 0, (0, 0, 0, 0), 0, []),
  (77, false, .dup2, 1, 0, (0, 0, 0, 0), 0, []),
  (78, false, .iaload, 1, 0, (17, 0, 0, 0), 0, []),
  (79, false, .iload_n 2, 1, 0, (0, 0, 0, 0), 0, []),
  (80, false, .iadd, 1, 0, (0, 0, 0, 0), 0, []),
  (81, false, .iastore, 1, 0, (17, 0, 0, 0), 0, []),
  (82, false, .iconst (-1), 1, 0, (0, 0, 0, 0), 0, []),
  (83, false, .ireturn, 1, 0, (0, 0, 0, 0), 0, []),
  (84, false, .aload_n 0, 1, 0, (0, 0, 0, 0), 0, []),
  (85, false, .getfield 56, 3, 172, (3, 9, 19, 1), 0, []),
  (88, false, .iload_n 3, 1, 0, (0, 0, 0, 0), 0, []),
  (89, false, .iload_n 2, 1, 0, (0, 0, 0, 0), 0, []),
  (90, false, .aload_n 0, 1, 0, (0, 0, 0, 0), 0, []),
  (91, false, .getfield 56, 3, 172, (3, 9, 19, 1), 0, []),
  (94, false, .iload_n 3, 1, 0, (0, 0, 0, 0), 0, []),
  (95, false, .iaload, 1, 0, (17, 0, 0, 0), 0, []),
  (96, false, .imul, 1, 0, (0, 0, 0, 0), 0, []),
  (97, false, .aload_n 1, 1, 0, (0, 0, 0, 0), 0, []),
  (98, false, .getfield 237, 3, 634, (10, 0, 0, 0), 0, []),
  (101, false, .iadd, 1, 0, (0, 0, 0, 0), 0, []),
  (102, false, .iastore, 1, 0, (17, 0, 0, 0), 0, []),
  (103, false, .iconst (-1), 1, 0, (0, 0, 0, 0), 0, []),
  (104, false, .ireturn, 1, 0, (0, 0, 0, 0), 0, []),
  (105, false, .aload_n 0, 1, 0, (0, 0, 0, 0), 0, []),
  (106, false, .getfield 56, 3, 172, (3, 9, 19, 1), 0, []),
  (109, false, .iload_n 3, 1, 0, (0, 0, 0, 0), 0, []),
  (110, false, .iaload, 1, 0, (17, 0, 0, 0), 0, []),
  (111, false, .iconst 1, 1, 0, (0, 0, 0, 0), 0, []),
  (112, false, .iand, 1, 0, (0, 0, 0, 0), 0, []),
  (113, false, .ifCond .eq 10, 3, 0, (123, 0, 0, 0), 0, []),
  (116, false, .iload_n 2, 1, 0, (0, 0, 0, 0), 0, []),
  (117, false, .bipush 15, 2, 0, (0, 0, 0, 0), 0, []),
  (119, false, .iand, 1, 0, (0, 0, 0, 0), 0, []),
  (120, false, .goto 4, 3, 0, (124, 0, 0, 0), 0, []),
  (123, false, .iconst (-1), 1, 0, (0, 0, 0, 0), 0, []),
  (124, false, .ireturn, 1, 0, (0, 0, 0, 0), 0, []),
  (125, false, .aload_n 0, 1, 0, (0, 0, 0, 0), 0, []),
  (126, false, .getfield 56, 3, 172, (3, 9, 19, 1), 0, []),
  (129, false, .iload_n 3, 1, 0, (0, 0, 0, 0), 0, []),
  (130, false, .aload_n 0, 1, 0, (0, 0, 0, 0), 0, []),
  (131, false, .getfield 78, 3, 179, (3, 16, 0, 0), 0, []),
  (134, false, .iastore, 1, 0, (17, 0, 0, 0), 0, []),
  (135, false, .iconst (-1), 1, 0, (0, 0, 0, 0), 0, []),
  (136, false, .ireturn, 1, 0, (0, 0, 0, 0), 0, []),
  (137, false, .aload 4, 2, 0, (0, 0, 0, 0), 0, []),
  (139, false, .ifnull 11, 3, 0, (150, 0, 0, 0), 0, []),
  (142, false, .aload 4, 2, 0, (0, 0, 0, 0), 0, []),
  (144, false, .invokevirtual 226, 3, 483, (88, 1, 0, 0), 0, [9]),
  (147, false, .ifCond .ne 6, 3, 0, (153, 0, 0, 0), 0, []),
  (150, false, .bipush 14, 2, 0, (0, 0, 0, 0), 0, []),
  (152, false, .ireturn, 1, 0, (0, 0, 0, 0), 0, []),
  (153, false, .aload_n 0, 1, 0, (0, 0, 0, 0), 0, []),
  (154, false, .aload 4, 2, 0, (0, 0, 0, 0), 0, []),
  (156, false, .iconst 3, 1, 0, (0, 0, 0, 0), 0, []),
  (157, false, .invokevirtual 238, 3, 487, (52, 3, 999, 0), 0, [0, 9, 5]),
  (160, false, .iconst (-1), 1, 0, (0, 0, 0, 0), 0, []),
  (161, false, .ireturn, 1, 0, (0, 0, 0, 0), 0, []),
  (162, false, .aload 4, 2, 0, (0, 0, 0, 0), 0, []),
  (164, false, .ifnull 11, 3, 0, (175, 0, 0, 0), 0, []),
  (167, false, .aload 4, 2, 0, (0, 0, 0, 0), 0, []),
  (169, false, .invokevirtual 226, 3, 483, (88, 1, 0, 0), 0, [9]),
  (172, false, .ifCond .ne 6, 3, 0, (178, 0, 0, 0), 0, []),
  (175, false, .bipush 14, 2, 0, (0, 0, 0, 0), 0, []),
  (177, false, .ireturn, 1, 0, (0, 0, 0, 0), 0, []),
  (178, false, .aload 4, 2, 0, (0, 0, 0, 0), 0, []),
  (180, false, .aload_n 0, 1, 0, (0, 0, 0, 0), 0, []),
  (181, false, .getfield 78, 3, 179, (3, 16, 0, 0), 0, []),
  (184, false, .iconst 1, 1, 0, (0, 0, 0, 0), 0, []),
  (185, false, .iadd, 1, 0, (0, 0, 0, 0), 0, []),
  (186, false, .invokevirtual 242, 3, 495, (89, 2, 999, 0), 0, [0, 9]),
  (189, false, .iconst (-1), 1, 0, (0, 0, 0, 0), 0, []),
  (190, false, .ireturn, 1, 0, (0, 0, 0, 0), 0, []),
  (191, false, .iconst (-1), 1, 0, (0, 0, 0, 0), 0, []),
  (192, false, .ireturn, 1, 0, (0, 0, 0, 0), 0, [])]
theorem zc_x_act : zk_x_act.all (zz_ck zz_inf zM_x_act) = true ∧ zz_ch zk_x_act = true := ⟨by decide +kernel, by decide +kernel⟩
noncomputable def x_act (v1 : Int) (σ : zz_S) : zz_R := (if v1 = 0 then none else (if (zz_h σ 10 v1 1) = 0 then none else (if v1 = 0 then none else (if (zz_h σ 10 v1 1) = 0 then none else ((x_taskAt (zz_h σ 7 (zz_h σ 10 v1 1) 8) σ).bind fun q1 => (if v1 = 0 then none else (if (zz_h q1.2 10 v1 1) = 0 then none else (if (zz_h q1.2 7 (zz_h q1.2 10 v1 1) 7) = 1 then (if zz_b q1.2 17 1 (zz_and (zz_h σ 7 (zz_h σ 10 v1 1) 9) 7) then (if zz_b q1.2 17 1 (zz_and (zz_h σ 7 (zz_h σ 10 v1 1) 9) 7) then (let s8 := zz_w q1.2 17 1 (zz_and (zz_h σ 7 (zz_h σ 10 v1 1) 9) 7) (zz_r ((zz_h q1.2 17 1 (zz_and (zz_h σ 7 (zz_h σ 10 v1 1) 9) 7)) + (zz_h σ 7 (zz_h σ 10 v1 1) 8))); (some ((-1), s8))) else none) else none) else (if (zz_h q1.2 7 (zz_h q1.2 10 v1 1) 7) = 2 then (if zz_b q1.2 17 1 (zz_and (zz_h σ 7 (zz_h σ 10 v1 1) 9) 7) then (if v1 = 0 then none else (if zz_b q1.2 17 1 (zz_and (zz_h σ 7 (zz_h σ 10 v1 1) 9) 7) then (let s7 := zz_w q1.2 17 1 (zz_and (zz_h σ 7 (zz_h σ 10 v1 1) 9) 7) (zz_r ((zz_r ((zz_h σ 7 (zz_h σ 10 v1 1) 8) * (zz_h q1.2 17 1 (zz_and (zz_h σ 7 (zz_h σ 10 v1 1) 9) 7)))) + (zz_h q1.2 10 v1 0))); (some ((-1), s7))) else none)) else none) else (if (zz_h q1.2 7 (zz_h q1.2 10 v1 1) 7) = 3 then (if zz_b q1.2 17 1 (zz_and (zz_h σ 7 (zz_h σ 10 v1 1) 9) 7) then (if (zz_and (zz_h q1.2 17 1 (zz_and (zz_h σ 7 (zz_h σ 10 v1 1) 9) 7)) 1) = 0 then (some ((-1), q1.2)) else (some ((zz_and (zz_h σ 7 (zz_h σ 10 v1 1) 8) 15), q1.2))) else none) else (if (zz_h q1.2 7 (zz_h q1.2 10 v1 1) 7) = 4 then (if zz_b q1.2 17 1 (zz_and (zz_h σ 7 (zz_h σ 10 v1 1) 9) 7) then (let s6 := zz_w q1.2 17 1 (zz_and (zz_h σ 7 (zz_h σ 10 v1 1) 9) 7) (zz_h q1.2 3 1 16); (some ((-1), s6))) else none) else (if (zz_h q1.2 7 (zz_h q1.2 10 v1 1) 7) = 5 then (if q1.1 = 0 then (some (14, q1.2)) else (if q1.1 = 0 then none else ((xT_isActive q1.1 q1.2).bind fun q4 => (if q4.1 = 0 then (some (14, q4.2)) else ((x_leave q1.1 3 q4.2).bind fun q5 => (some ((-1), q5.2))))))) else (if (zz_h q1.2 7 (zz_h q1.2 10 v1 1) 7) = 6 then (if q1.1 = 0 then (some (14, q1.2)) else (if q1.1 = 0 then none else ((xT_isActive q1.1 q1.2).bind fun q2 => (if q2.1 = 0 then (some (14, q2.2)) else (if q1.1 = 0 then none else ((xT_fireFor q1.1 (zz_r ((zz_h q2.2 3 1 16) + 1)) q2.2).bind fun q3 => (some ((-1), q3.2)))))))) else (some ((-1), q1.2)))))))))))))))
set_option maxRecDepth 100000 in
set_option maxHeartbeats 4000000 in
theorem ze_x_act (v1 : Int) (σ : zz_S) : x_act v1 σ = zz_ev (zz_CE [(52, zw_x_leave), (73, zw_x_taskAt), (88, zw_xT_isActive), (89, zw_xT_fireFor)]) (zz_KE []) zk_x_act 0 false 0 0 400 true (zz_sk zk_x_act 0) [(0, 5, 1), (1, 12, v1)] [] σ := rfl
theorem zo_x_act : zz_okb zM_x_act 0 [(0, 5, true), (1, 12, false)] (zz_f1 x_act) :=
  fun vs σ r τ h => by
    obtain ⟨v1, rfl, h⟩ := zz_f1_ok h
    exact zz_from zc_x_act (zz_occ zo_m_x_leave (zz_occ zo_m_x_taskAt (zz_occ zo_m_xT_isActive (zz_occ zo_m_xT_fireFor zz_oc0)))) zz_ol0 ((ze_x_act v1 σ).symm.trans h)
noncomputable def zw_x_act : List Int → zz_S → zz_R := zz_f2 fun a0 a1 σ => if a0 = 1 then x_act a1 σ else none
theorem zo_m_x_act : zz_okm zz_inf 29 zw_x_act := fun vs σ r τ h => by
  obtain ⟨a0, a1, rfl, h⟩ := zz_f2_ok h
  obtain ⟨e, h⟩ := zz_it h
  subst e
  exact zz_meth zi_x_act zy_x_act (zo_x_act [a1] σ r τ h)
def zk_x_layDown : List zz_E := [(0, false, .iconst 0, 1, 0, (0, 0, 0, 0), 0, []),
  (1, false, .istore_n 3, 1, 0, (0, 0, 0, 0), 0, []),
  (2, false, .iconst 0, 1, 0, (0, 0, 0, 0), 0, []),
  (3, false, .istore 4, 2, 0, (0, 0, 0, 0), 0, []),
  (5, true, .iload 4, 2, 0, (0, 0, 0, 0), 0, []),
  (7, false, .aload_n 0, 1, 0, (0, 0, 0, 0), 0, []),
  (8, false, .getfield 69, 3, 176, (3, 13, 0, 0), 0, []),
  (11, false, .if_icmp .ge 36, 3, 0, (47, 0, 0, 0), 0, []),
  (14, false, .aload_n 0, 1, 0, (0, 0, 0, 0), 0, []),
  (15, false, .getfield 21, 3, 165, (3, 2, 15, 1), 0, []),
  (18, false, .iload 4, 2, 0, (0, 0, 0, 0), 0, []),
  (20, false, .aaload, 1, 0, (13, 0, 12, 0), 0, []),
  (21, false, .aload_n 1, 1, 0, (0, 0, 0, 0), 0, []),
  (22, false, .if_acmp .eq 19, 3, 0, (41, 0, 0, 0), 0, []),
  (25, false, .aload_n 0, 1, 0, (0, 0, 0, 0), 0, []),
  (26, false, .getfield 21, 3, 165, (3, 2, 15, 1), 0, []),
  (29, false, .iload_n 3, 1, 0, (0, 0, 0, 0), 0, []),
  (30, false, .aload_n 0, 1, 0, (0, 0, 0, 0), 0, []),
  (31, false, .getfield 21, 3, 165, (3, 2, 15, 1), 0, []),
  (34, false, .iload 4, 2, 0, (0, 0, 0, 0), 0, []),
  (36, false, .aaload, 1, 0, (13, 0, 12, 0), 0, []),
  (37, false, .aastore, 1, 0, (13, 0, 12, 0), 0, []),
  (38, false, .iinc 3 1, 3, 0, (0, 0, 0, 0), 0, []),
  (41, false, .iinc 4 1, 3, 0, (0, 0, 0, 0), 0, []),
  (44, false, .goto (-39), 3, 0, (5, 0, 0, 0), 0, []),
  (47, false, .aload_n 0, 1, 0, (0, 0, 0, 0), 0, []),
  (48, false, .iload_n 3, 1, 0, (0, 0, 0, 0), 0, []),
  (49, false, .putfield 69, 3, 176, (3, 13, 0, 0), 0, []),
  (52, false, .aload_n 0, 1, 0, (0, 0, 0, 0), 0, []),
  (53, false, .getfield 52, 3, 171, (3, 8, 18, 1), 0, []),
  (56, false, .aload_n 1, 1, 0, (0, 0, 0, 0), 0, []),
  (57, false, .getfield 261, 3, 646, (10, 6, 0, 0), 0, []),
  (60, false, .iconst 0, 1, 0, (0, 0, 0, 0), 0, []),
  (61, false, .bastore, 1, 0, (16, 0, 0, 0), 0, []),
  (62, false, .aload_n 1, 1, 0, (0, 0, 0, 0), 0, []),
  (63, false, .getfield 203, 3, 636, (10, 1, 9, 0), 0, []),
  (66, false, .dup, 1, 0, (0, 0, 0, 0), 0, []),
  (67, false, .getfield 264, 3, 332, (7, 15, 0, 0), 0, []),
  (70, false, .iconst 1, 1, 0, (0, 0, 0, 0), 0, []),
  (71, false, .isub, 1, 0, (0, 0, 0, 0), 0, []),
  (72, false, .putfield 264, 3, 332, (7, 15, 0, 0), 0, []),
  (75, false, .aload_n 1, 1, 0, (0, 0, 0, 0), 0, []),
  (76, false, .aload_n 0, 1, 0, (0, 0, 0, 0), 0, []),
  (77, false, .getfield 78, 3, 179, (3, 16, 0, 0), 0, []),
  (80, false, .putfield 267, 3, 650, (10, 8, 0, 0), 0, []),
  (83, false, .aload_n 1, 1, 0, (0, 0, 0, 0), 0, []),
  (84, false, .iload_n 2, 1, 0, (0, 0, 0, 0), 0, []),
  (85, false, .putfield 270, 3, 652, (10, 9, 0, 0), 0, []),
  (88, false, .return_, 1, 0, (0, 0, 0, 0), 0, [])]
theorem zc_x_layDown : zk_x_layDown.all (zz_ck zz_inf zM_x_layDown) = true ∧ zz_ch zk_x_layDown = true := ⟨by decide +kernel, by decide +kernel⟩
noncomputable def x_layDown_5 : Nat → Int → Int → Int → Int → zz_S → zz_R
  | 0, _, _, _, _, _ => none
  | n + 1, v1, v2, v3, v4, σ => (if v4 < (zz_h σ 3 1 13) then (if zz_b σ 13 1 v4 then (if (zz_h σ 13 1 v4) = v1 then (x_layDown_5 n v1 v2 v3 (zz_r (v4 + 1)) σ) else (if zz_b σ 13 1 v4 then (if zz_b σ 13 1 v3 then (if (zz_h σ 13 1 v4) = 0 then none else (let s1 := zz_w σ 13 1 v3 (zz_h σ 13 1 v4); (x_layDown_5 n v1 v2 (zz_r (v3 + 1)) (zz_r (v4 + 1)) s1))) else none) else none)) else none) else (let s2 := zz_w σ 3 1 13 v3; (if v1 = 0 then none else (if zz_b s2 16 1 (zz_h s2 10 v1 6) then (let s3 := zz_w s2 16 1 (zz_h s2 10 v1 6) 0; (if v1 = 0 then none else (if (zz_h s3 10 v1 1) = 0 then none else (if (zz_h s3 10 v1 1) = 0 then none else (let s4 := zz_w s3 7 (zz_h s3 10 v1 1) 15 (zz_r ((zz_h s3 7 (zz_h s3 10 v1 1) 15) - 1)); (if v1 = 0 then none else (let s5 := zz_w s4 10 v1 8 (zz_h s4 3 1 16); (if v1 = 0 then none else (let s6 := zz_w s5 10 v1 9 v2; (some (0, s6))))))))))) else none))))
set_option maxRecDepth 100000 in
set_option maxHeartbeats 4000000 in
theorem ze_x_layDown_5 (n : Nat) (v1 v2 v3 v4 : Int) (σ : zz_S) : x_layDown_5 (n + 1) v1 v2 v3 v4 σ = zz_ev (zz_CE []) (zz_KE [(5, [(0, 5, true), (1, 12, false), (2, 0, false), (3, 0, false), (4, 0, false)], zz_f4 (x_layDown_5 n))]) zk_x_layDown 999 false 0 0 400 true (zz_sk zk_x_layDown 5) [(0, 5, 1), (1, 12, v1), (2, 0, v2), (3, 0, v3), (4, 0, v4)] [] σ := rfl
theorem zo_x_layDown_5 : ∀ n : Nat, zz_okb zM_x_layDown 5 [(0, 5, true), (1, 12, false), (2, 0, false), (3, 0, false), (4, 0, false)] (zz_f4 (x_layDown_5 n))
  | 0 => fun vs σ r τ h => by
    obtain ⟨v1, v2, v3, v4, rfl, h⟩ := zz_f4_ok h
    exact nomatch (show (none : zz_R) = some (r, τ) from h)
  | n + 1 => by
    have ih := zo_x_layDown_5 n
    exact fun vs σ r τ h => by
        obtain ⟨v1, v2, v3, v4, rfl, h⟩ := zz_f4_ok h
        exact zz_from zc_x_layDown zz_oc0 (zz_olc ih zz_ol0) ((ze_x_layDown_5 n v1 v2 v3 v4 σ).symm.trans h)
noncomputable def x_layDown (v1 v2 : Int) (σ : zz_S) : zz_R := (x_layDown_5 zz_fu v1 v2 0 0 σ)
set_option maxRecDepth 100000 in
set_option maxHeartbeats 4000000 in
theorem ze_x_layDown (v1 v2 : Int) (σ : zz_S) : x_layDown v1 v2 σ = zz_ev (zz_CE []) (zz_KE [(5, [(0, 5, true), (1, 12, false), (2, 0, false), (3, 0, false), (4, 0, false)], zz_f4 (x_layDown_5 zz_fu))]) zk_x_layDown 999 false 0 0 400 true (zz_sk zk_x_layDown 0) [(0, 5, 1), (1, 12, v1), (2, 0, v2)] [] σ := rfl
theorem zo_x_layDown : zz_okb zM_x_layDown 0 [(0, 5, true), (1, 12, false), (2, 0, false)] (zz_f2 x_layDown) :=
  fun vs σ r τ h => by
    obtain ⟨v1, v2, rfl, h⟩ := zz_f2_ok h
    exact zz_from zc_x_layDown zz_oc0 (zz_olc (zo_x_layDown_5 zz_fu) zz_ol0) ((ze_x_layDown v1 v2 σ).symm.trans h)
noncomputable def zw_x_layDown : List Int → zz_S → zz_R := zz_f3 fun a0 a1 a2 σ => if a0 = 1 then x_layDown a1 a2 σ else none
theorem zo_m_x_layDown : zz_okm zz_inf 32 zw_x_layDown := fun vs σ r τ h => by
  obtain ⟨a0, a1, a2, rfl, h⟩ := zz_f3_ok h
  obtain ⟨e, h⟩ := zz_it h
  subst e
  exact zz_meth zi_x_layDown zy_x_layDown (zo_x_layDown [a1, a2] σ r τ h)
def zk_x_restAfter : List zz_E := [(0, false, .iload_n 0, 1, 0, (0, 0, 0, 0), 0, []),
  (1, false, .bipush 6, 2, 0, (0, 0, 0, 0), 0, []),
  (3, false, .if_icmp .le 8, 3, 0, (11, 0, 0, 0), 0, []),
  (6, false, .bipush 64, 2, 0, (0, 0, 0, 0), 0, []),
  (8, false, .goto 12, 3, 0, (20, 0, 0, 0), 0, []),
  (11, false, .iconst 1, 1, 0, (0, 0, 0, 0), 0, []),
  (12, false, .iload_n 0, 1, 0, (0, 0, 0, 0), 0, []),
  (13, false, .iconst 1, 1, 0, (0, 0, 0, 0), 0, []),
  (14, false, .isub, 1, 0, (0, 0, 0, 0), 0, []),
  (15, false, .iconst 0, 1, 0, (0, 0, 0, 0), 0, []),
  (16, false, .invokestatic 258, 3, 510, (168, 2, 0, 0), 0, [0, 0]),
  (19, false, .ishl, 1, 0, (0, 0, 0, 0), 0, []),
  (20, false, .ireturn, 1, 0, (0, 0, 0, 0), 0, [])]
theorem zc_x_restAfter : zk_x_restAfter.all (zz_ck zz_inf zM_x_restAfter) = true ∧ zz_ch zk_x_restAfter = true := ⟨by decide +kernel, by decide +kernel⟩
noncomputable def x_restAfter (v0 : Int) (σ : zz_S) : zz_R := (if v0 ≤ 6 then ((j_max (zz_r (v0 - 1)) 0 σ).bind fun q1 => (some ((zz_shl 1 q1.1), q1.2))) else (some (64, σ)))
set_option maxRecDepth 100000 in
set_option maxHeartbeats 4000000 in
theorem ze_x_restAfter (v0 : Int) (σ : zz_S) : x_restAfter v0 σ = zz_ev (zz_CE [(168, zw_j_max)]) (zz_KE []) zk_x_restAfter 0 false 0 0 400 true (zz_sk zk_x_restAfter 0) [(0, 0, v0)] [] σ := rfl
theorem zo_x_restAfter : zz_okb zM_x_restAfter 0 [(0, 0, false)] (zz_f1 x_restAfter) :=
  fun vs σ r τ h => by
    obtain ⟨v0, rfl, h⟩ := zz_f1_ok h
    exact zz_from zc_x_restAfter (zz_occ zo_m_j_max zz_oc0) zz_ol0 ((ze_x_restAfter v0 σ).symm.trans h)
noncomputable def zw_x_restAfter : List Int → zz_S → zz_R := zz_f1 fun a0 σ => x_restAfter a0 σ
theorem zo_m_x_restAfter : zz_okm zz_inf 31 zw_x_restAfter := fun vs σ r τ h => by
  obtain ⟨a0, rfl, h⟩ := zz_f1_ok h
  exact zz_meth zi_x_restAfter zy_x_restAfter (zo_x_restAfter [a0] σ r τ h)
def zk_x_followEnd : List zz_E := [(0, false, .aload_n 1, 1, 0, (0, 0, 0, 0), 0, []),
  (1, false, .getfield 114, 3, 301, (7, 1, 0, 0), 0, []),
  (4, false, .iconst 2, 1, 0, (0, 0, 0, 0), 0, []),
  (5, false, .if_icmp .ne 16, 3, 0, (21, 0, 0, 0), 0, []),
  (8, false, .aload_n 1, 1, 0, (0, 0, 0, 0), 0, []),
  (9, false, .aload_n 0, 1, 0, (0, 0, 0, 0), 0, []),
  (10, false, .getfield 78, 3, 179, (3, 16, 0, 0), 0, []),
  (13, false, .aload_n 1, 1, 0, (0, 0, 0, 0), 0, []),
  (14, false, .getfield 246, 3, 305, (7, 3, 0, 0), 0, []),
  (17, false, .iadd, 1, 0, (0, 0, 0, 0), 0, []),
  (18, false, .putfield 249, 3, 323, (7, 11, 0, 0), 0, []),
  (21, true, .iload_n 2, 1, 0, (0, 0, 0, 0), 0, []),
  (22, false, .ifCond .eq 4, 3, 0, (26, 0, 0, 0), 0, []),
  (25, false, .return_, 1, 0, (0, 0, 0, 0), 0, []),
  (26, false, .aload_n 1, 1, 0, (0, 0, 0, 0), 0, []),
  (27, false, .getfield 111, 3, 308, (7, 4, 30, 1), 0, []),
  (30, false, .iconst 5, 1, 0, (0, 0, 0, 0), 0, []),
  (31, false, .iaload, 1, 0, (28, 0, 0, 0), 0, []),
  (32, false, .ifCond .ne 9, 3, 0, (41, 0, 0, 0), 0, []),
  (35, false, .aload_n 0, 1, 0, (0, 0, 0, 0), 0, []),
  (36, false, .aload_n 1, 1, 0, (0, 0, 0, 0), 0, []),
  (37, false, .iconst 4, 1, 0, (0, 0, 0, 0), 0, []),
  (38, false, .invokevirtual 238, 3, 487, (52, 3, 999, 0), 0, [0, 9, 5]),
  (41, true, .aload_n 1, 1, 0, (0, 0, 0, 0), 0, []),
  (42, false, .getfield 111, 3, 308, (7, 4, 30, 1), 0, []),
  (45, false, .iconst 5, 1, 0, (0, 0, 0, 0), 0, []),
  (46, false, .iaload, 1, 0, (28, 0, 0, 0), 0, []),
  (47, false, .iconst 2, 1, 0, (0, 0, 0, 0), 0, []),
  (48, false, .if_icmp .ne 42, 3, 0, (90, 0, 0, 0), 0, []),
  (51, false, .aload_n 1, 1, 0, (0, 0, 0, 0), 0, []),
  (52, false, .getfield 223, 3, 327, (7, 13, 0, 0), 0, []),
  (55, false, .invokestatic 252, 3, 507, (31, 1, 0, 0), 0, [0]),
  (58, false, .istore_n 3, 1, 0, (0, 0, 0, 0), 0, []),
  (59, false, .aload_n 1, 1, 0, (0, 0, 0, 0), 0, []),
  (60, false, .getfield 114, 3, 301, (7, 1, 0, 0), 0, []),
  (63, false, .iconst 2, 1, 0, (0, 0, 0, 0), 0, []),
  (64, false, .if_icmp .ne 16, 3, 0, (80, 0, 0, 0), 0, []),
  (67, false, .aload_n 1, 1, 0, (0, 0, 0, 0), 0, []),
  (68, false, .dup, 1, 0, (0, 0, 0, 0), 0, []),
  (69, false, .getfield 249, 3, 323, (7, 11, 0, 0), 0, []),
  (72, false, .iload_n 3, 1, 0, (0, 0, 0, 0), 0, []),
  (73, false, .iadd, 1, 0, (0, 0, 0, 0), 0, []),
  (74, false, .putfield 249, 3, 323, (7, 11, 0, 0), 0, []),
  (77, false, .goto 13, 3, 0, (90, 0, 0, 0), 0, []),
  (80, false, .aload_n 1, 1, 0, (0, 0, 0, 0), 0, []),
  (81, false, .aload_n 0, 1, 0, (0, 0, 0, 0), 0, []),
  (82, false, .getfield 78, 3, 179, (3, 16, 0, 0), 0, []),
  (85, false, .iload_n 3, 1, 0, (0, 0, 0, 0), 0, []),
  (86, false, .iadd, 1, 0, (0, 0, 0, 0), 0, []),
  (87, false, .putfield 255, 3, 325, (7, 12, 0, 0), 0, []),
  (90, false, .return_, 1, 0, (0, 0, 0, 0), 0, [])]
theorem zc_x_followEnd : zk_x_followEnd.all (zz_ck zz_inf zM_x_followEnd) = true ∧ zz_ch zk_x_followEnd = true := ⟨by decide +kernel, by decide +kernel⟩
noncomputable def x_followEnd_41 (v1 : Int) (σ : zz_S) : zz_R := (if v1 = 0 then none else (if v1 = 0 then none else (if zz_b σ 28 v1 5 then (if (zz_h σ 28 v1 5) = 2 then (if v1 = 0 then none else ((x_restAfter (zz_h σ 7 v1 13) σ).bind fun q1 => (if v1 = 0 then none else (if (zz_h q1.2 7 v1 1) = 2 then (if v1 = 0 then none else (if v1 = 0 then none else (let s2 := zz_w q1.2 7 v1 11 (zz_r ((zz_h q1.2 7 v1 11) + q1.1)); (some (0, s2))))) else (if v1 = 0 then none else (let s3 := zz_w q1.2 7 v1 12 (zz_r ((zz_h q1.2 3 1 16) + q1.1)); (some (0, s3)))))))) else (some (0, σ))) else none)))
set_option maxRecDepth 100000 in
set_option maxHeartbeats 4000000 in
theorem ze_x_followEnd_41 (v1 : Int) (σ : zz_S) : x_followEnd_41 v1 σ = zz_ev (zz_CE [(31, zw_x_restAfter)]) (zz_KE []) zk_x_followEnd 999 false 0 0 400 true (zz_sk zk_x_followEnd 41) [(0, 5, 1), (1, 9, v1)] [] σ := rfl
theorem zo_x_followEnd_41 : zz_okb zM_x_followEnd 41 [(0, 5, true), (1, 9, false)] (zz_f1 x_followEnd_41) :=
  fun vs σ r τ h => by
    obtain ⟨v1, rfl, h⟩ := zz_f1_ok h
    exact zz_from zc_x_followEnd (zz_occ zo_m_x_restAfter zz_oc0) zz_ol0 ((ze_x_followEnd_41 v1 σ).symm.trans h)
noncomputable def x_followEnd_21 (v1 v2 : Int) (σ : zz_S) : zz_R := (if v2 = 0 then (if v1 = 0 then none else (if v1 = 0 then none else (if zz_b σ 28 v1 5 then (if (zz_h σ 28 v1 5) = 0 then ((x_leave v1 4 σ).bind fun q1 => (x_followEnd_41 v1 q1.2)) else (x_followEnd_41 v1 σ)) else none))) else (some (0, σ)))
set_option maxRecDepth 100000 in
set_option maxHeartbeats 4000000 in
theorem ze_x_followEnd_21 (v1 v2 : Int) (σ : zz_S) : x_followEnd_21 v1 v2 σ = zz_ev (zz_CE [(52, zw_x_leave)]) (zz_KE [(41, [(0, 5, true), (1, 9, false)], zz_f1 (x_followEnd_41))]) zk_x_followEnd 999 false 0 0 400 true (zz_sk zk_x_followEnd 21) [(0, 5, 1), (1, 9, v1), (2, 0, v2)] [] σ := rfl
theorem zo_x_followEnd_21 : zz_okb zM_x_followEnd 21 [(0, 5, true), (1, 9, false), (2, 0, false)] (zz_f2 x_followEnd_21) :=
  fun vs σ r τ h => by
    obtain ⟨v1, v2, rfl, h⟩ := zz_f2_ok h
    exact zz_from zc_x_followEnd (zz_occ zo_m_x_leave zz_oc0) (zz_olc (zo_x_followEnd_41) zz_ol0) ((ze_x_followEnd_21 v1 v2 σ).symm.trans h)
noncomputable def x_followEnd (v1 v2 : Int) (σ : zz_S) : zz_R := (if v1 = 0 then none else (if (zz_h σ 7 v1 1) = 2 then (if v1 = 0 then none else (if v1 = 0 then none else (let s1 := zz_w σ 7 v1 11 (zz_r ((zz_h σ 3 1 16) + (zz_h σ 7 v1 3))); (x_followEnd_21 v1 v2 s1)))) else (x_followEnd_21 v1 v2 σ)))
set_option maxRecDepth 100000 in
set_option maxHeartbeats 4000000 in
theorem ze_x_followEnd (v1 v2 : Int) (σ : zz_S) : x_followEnd v1 v2 σ = zz_ev (zz_CE []) (zz_KE [(21, [(0, 5, true), (1, 9, false), (2, 0, false)], zz_f2 (x_followEnd_21))]) zk_x_followEnd 999 false 0 0 400 true (zz_sk zk_x_followEnd 0) [(0, 5, 1), (1, 9, v1), (2, 0, v2)] [] σ := rfl
theorem zo_x_followEnd : zz_okb zM_x_followEnd 0 [(0, 5, true), (1, 9, false), (2, 0, false)] (zz_f2 x_followEnd) :=
  fun vs σ r τ h => by
    obtain ⟨v1, v2, rfl, h⟩ := zz_f2_ok h
    exact zz_from zc_x_followEnd zz_oc0 (zz_olc (zo_x_followEnd_21) zz_ol0) ((ze_x_followEnd v1 v2 σ).symm.trans h)
noncomputable def zw_x_followEnd : List Int → zz_S → zz_R := zz_f3 fun a0 a1 a2 σ => if a0 = 1 then x_followEnd a1 a2 σ else none
theorem zo_m_x_followEnd : zz_okm zz_inf 30 zw_x_followEnd := fun vs σ r τ h => by
  obtain ⟨a0, a1, a2, rfl, h⟩ := zz_f3_ok h
  obtain ⟨e, h⟩ := zz_it h
  subst e
  exact zz_meth zi_x_followEnd zy_x_followEnd (zo_x_followEnd [a1, a2] σ r τ h)
def zk_x_isActive : List zz_E := [(0, false, .aload_n 0, 1, 0, (0, 0, 0, 0), 0, []),
  (1, false, .ifnull 14, 3, 0, (15, 0, 0, 0), 0, []),
  (4, false, .aload_n 0, 1, 0, (0, 0, 0, 0), 0, []),
  (5, false, .invokevirtual 226, 3, 483, (88, 1, 0, 0), 0, [9]),
  (8, false, .ifCond .eq 7, 3, 0, (15, 0, 0, 0), 0, []),
  (11, false, .iconst 1, 1, 0, (0, 0, 0, 0), 0, []),
  (12, false, .goto 4, 3, 0, (16, 0, 0, 0), 0, []),
  (15, false, .iconst 0, 1, 0, (0, 0, 0, 0), 0, []),
  (16, false, .ireturn, 1, 0, (0, 0, 0, 0), 0, [])]
theorem zc_x_isActive : zk_x_isActive.all (zz_ck zz_inf zM_x_isActive) = true ∧ zz_ch zk_x_isActive = true := ⟨by decide +kernel, by decide +kernel⟩
noncomputable def x_isActive (v0 : Int) (σ : zz_S) : zz_R := (if v0 = 0 then (some (0, σ)) else (if v0 = 0 then none else ((xT_isActive v0 σ).bind fun q1 => (if q1.1 = 0 then (some (0, q1.2)) else (some (1, q1.2))))))
set_option maxRecDepth 100000 in
set_option maxHeartbeats 4000000 in
theorem ze_x_isActive (v0 : Int) (σ : zz_S) : x_isActive v0 σ = zz_ev (zz_CE [(88, zw_xT_isActive)]) (zz_KE []) zk_x_isActive 0 true 0 0 400 true (zz_sk zk_x_isActive 0) [(0, 9, v0)] [] σ := rfl
theorem zo_x_isActive : zz_okb zM_x_isActive 0 [(0, 9, false)] (zz_f1 x_isActive) :=
  fun vs σ r τ h => by
    obtain ⟨v0, rfl, h⟩ := zz_f1_ok h
    exact zz_from zc_x_isActive (zz_occ zo_m_xT_isActive zz_oc0) zz_ol0 ((ze_x_isActive v0 σ).symm.trans h)
noncomputable def zw_x_isActive : List Int → zz_S → zz_R := zz_f1 fun a0 σ => x_isActive a0 σ
theorem zo_m_x_isActive : zz_okm zz_inf 74 zw_x_isActive := fun vs σ r τ h => by
  obtain ⟨a0, rfl, h⟩ := zz_f1_ok h
  exact zz_meth zi_x_isActive zy_x_isActive (zo_x_isActive [a0] σ r τ h)
def zk_xN_fit : List zz_E := [(0, false, .iconst 0, 1, 0, (0, 0, 0, 0), 0, []),
  (1, false, .istore_n 3, 1, 0, (0, 0, 0, 0), 0, []),
  (2, true, .iload_n 3, 1, 0, (0, 0, 0, 0), 0, []),
  (3, false, .aload_n 0, 1, 0, (0, 0, 0, 0), 0, []),
  (4, false, .getfield 18, 3, 288, (9, 2, 0, 0), 0, []),
  (7, false, .if_icmp .ge 49, 3, 0, (56, 0, 0, 0), 0, []),
  (10, false, .aload_n 0, 1, 0, (0, 0, 0, 0), 0, []),
  (11, false, .getfield 9, 3, 285, (9, 0, 31, 1), 0, []),
  (14, false, .iload_n 3, 1, 0, (0, 0, 0, 0), 0, []),
  (15, false, .iaload, 1, 0, (29, 0, 0, 0), 0, []),
  (16, false, .iload_n 1, 1, 0, (0, 0, 0, 0), 0, []),
  (17, false, .if_icmp .ne 33, 3, 0, (50, 0, 0, 0), 0, []),
  (20, false, .aload_n 0, 1, 0, (0, 0, 0, 0), 0, []),
  (21, false, .getfield 15, 3, 287, (9, 1, 32, 1), 0, []),
  (24, false, .iload_n 3, 1, 0, (0, 0, 0, 0), 0, []),
  (25, false, .iaload, 1, 0, (30, 0, 0, 0), 0, []),
  (26, false, .iconst 2, 1, 0, (0, 0, 0, 0), 0, []),
  (27, false, .if_icmp .eq 21, 3, 0, (48, 0, 0, 0), 0, []),
  (30, false, .iload_n 2, 1, 0, (0, 0, 0, 0), 0, []),
  (31, false, .aload_n 0, 1, 0, (0, 0, 0, 0), 0, []),
  (32, false, .getfield 15, 3, 287, (9, 1, 32, 1), 0, []),
  (35, false, .iload_n 3, 1, 0, (0, 0, 0, 0), 0, []),
  (36, false, .iaload, 1, 0, (30, 0, 0, 0), 0, []),
  (37, false, .ifCond .ne 7, 3, 0, (44, 0, 0, 0), 0, []),
  (40, false, .iconst 1, 1, 0, (0, 0, 0, 0), 0, []),
  (41, false, .goto 4, 3, 0, (45, 0, 0, 0), 0, []),
  (44, false, .iconst 0, 1, 0, (0, 0, 0, 0), 0, []),
  (45, false, .if_icmp .ne 5, 3, 0, (50, 0, 0, 0), 0, []),
  (48, false, .iconst 1, 1, 0, (0, 0, 0, 0), 0, []),
  (49, false, .ireturn, 1, 0, (0, 0, 0, 0), 0, []),
  (50, false, .iinc 3 1, 3, 0, (0, 0, 0, 0), 0, []),
  (53, false, .goto (-51), 3, 0, (2, 0, 0, 0), 0, []),
  (56, false, .iconst 0, 1, 0, (0, 0, 0, 0), 0, []),
  (57, false, .ireturn, 1, 0, (0, 0, 0, 0), 0, [])]
theorem zc_xN_fit : zk_xN_fit.all (zz_ck zz_inf zM_xN_fit) = true ∧ zz_ch zk_xN_fit = true := ⟨by decide +kernel, by decide +kernel⟩
noncomputable def xN_fit_2 : Nat → Int → Int → Int → Int → zz_S → zz_R
  | 0, _, _, _, _, _ => none
  | n + 1, v0, v1, v2, v3, σ => (if v0 = 0 then none else (if v3 < (zz_h σ 9 v0 2) then (if v0 = 0 then none else (if v0 = 0 then none else (if zz_b σ 29 v0 v3 then (if (zz_h σ 29 v0 v3) = v1 then (if v0 = 0 then none else (if v0 = 0 then none else (if zz_b σ 30 v0 v3 then (if (zz_h σ 30 v0 v3) = 2 then (some (1, σ)) else (if v0 = 0 then none else (if v0 = 0 then none else (if zz_b σ 30 v0 v3 then (if (zz_h σ 30 v0 v3) = 0 then (if v2 = 1 then (some (1, σ)) else (xN_fit_2 n v0 v1 v2 (zz_r (v3 + 1)) σ)) else (if v2 = 0 then (some (1, σ)) else (xN_fit_2 n v0 v1 v2 (zz_r (v3 + 1)) σ))) else none)))) else none))) else (xN_fit_2 n v0 v1 v2 (zz_r (v3 + 1)) σ)) else none))) else (some (0, σ))))
set_option maxRecDepth 100000 in
set_option maxHeartbeats 4000000 in
theorem ze_xN_fit_2 (n : Nat) (v0 v1 v2 v3 : Int) (σ : zz_S) : xN_fit_2 (n + 1) v0 v1 v2 v3 σ = zz_ev (zz_CE []) (zz_KE [(2, [(0, 11, false), (1, 0, false), (2, 0, false), (3, 0, false)], zz_f4 (xN_fit_2 n))]) zk_xN_fit 0 true 0 0 400 true (zz_sk zk_xN_fit 2) [(0, 11, v0), (1, 0, v1), (2, 0, v2), (3, 0, v3)] [] σ := rfl
theorem zo_xN_fit_2 : ∀ n : Nat, zz_okb zM_xN_fit 2 [(0, 11, false), (1, 0, false), (2, 0, false), (3, 0, false)] (zz_f4 (xN_fit_2 n))
  | 0 => fun vs σ r τ h => by
    obtain ⟨v0, v1, v2, v3, rfl, h⟩ := zz_f4_ok h
    exact nomatch (show (none : zz_R) = some (r, τ) from h)
  | n + 1 => by
    have ih := zo_xN_fit_2 n
    exact fun vs σ r τ h => by
        obtain ⟨v0, v1, v2, v3, rfl, h⟩ := zz_f4_ok h
        exact zz_from zc_xN_fit zz_oc0 (zz_olc ih zz_ol0) ((ze_xN_fit_2 n v0 v1 v2 v3 σ).symm.trans h)
noncomputable def xN_fit (v0 v1 v2 : Int) (σ : zz_S) : zz_R := (xN_fit_2 zz_fu v0 v1 v2 0 σ)
set_option maxRecDepth 100000 in
set_option maxHeartbeats 4000000 in
theorem ze_xN_fit (v0 v1 v2 : Int) (σ : zz_S) : xN_fit v0 v1 v2 σ = zz_ev (zz_CE []) (zz_KE [(2, [(0, 11, false), (1, 0, false), (2, 0, false), (3, 0, false)], zz_f4 (xN_fit_2 zz_fu))]) zk_xN_fit 0 true 0 0 400 true (zz_sk zk_xN_fit 0) [(0, 11, v0), (1, 0, v1), (2, 0, v2)] [] σ := rfl
theorem zo_xN_fit : zz_okb zM_xN_fit 0 [(0, 11, false), (1, 0, false), (2, 0, false)] (zz_f3 xN_fit) :=
  fun vs σ r τ h => by
    obtain ⟨v0, v1, v2, rfl, h⟩ := zz_f3_ok h
    exact zz_from zc_xN_fit zz_oc0 (zz_olc (zo_xN_fit_2 zz_fu) zz_ol0) ((ze_xN_fit v0 v1 v2 σ).symm.trans h)
noncomputable def zw_xN_fit : List Int → zz_S → zz_R := zz_f3 fun a0 a1 a2 σ => xN_fit a0 a1 a2 σ
theorem zo_m_xN_fit : zz_okm zz_inf 105 zw_xN_fit := fun vs σ r τ h => by
  obtain ⟨a0, a1, a2, rfl, h⟩ := zz_f3_ok h
  exact zz_meth zi_xN_fit zy_xN_fit (zo_xN_fit [a0, a1, a2] σ r τ h)
def zk_x_fateOfDue : List zz_E := [(0, false, .aload_n 0, 1, 0, (0, 0, 0, 0), 0, []),
  (1, false, .getfield 87, 3, 182, (3, 19, 0, 0), 1, []),
  (4, false, .ifCond .eq 5, 3, 0, (9, 0, 0, 0), 0, []),
  (7, false, .iconst 4, 1, 0, (0, 0, 0, 0), 0, []),
  (8, false, .ireturn, 1, 0, (0, 0, 0, 0), 0, []),
  (9, false, .aload_n 1, 1, 0, (0, 0, 0, 0), 0, []),
  (10, false, .getfield 255, 3, 325, (7, 12, 0, 0), 0, []),
  (13, false, .aload_n 0, 1, 0, (0, 0, 0, 0), 0, []),
  (14, false, .getfield 78, 3, 179, (3, 16, 0, 0), 0, []),
  (17, false, .if_icmp .le 5, 3, 0, (22, 0, 0, 0), 0, []),
  (20, false, .iconst 5, 1, 0, (0, 0, 0, 0), 0, []),
  (21, false, .ireturn, 1, 0, (0, 0, 0, 0), 0, []),
  (22, false, .aload_n 1, 1, 0, (0, 0, 0, 0), 0, []),
  (23, false, .getfield 111, 3, 308, (7, 4, 30, 1), 0, []),
  (26, false, .iconst 3, 1, 0, (0, 0, 0, 0), 0, []),
  (27, false, .iaload, 1, 0, (28, 0, 0, 0), 0, []),
  (28, false, .ifCond .ne 13, 3, 0, (41, 0, 0, 0), 0, []),
  (31, false, .aload_n 1, 1, 0, (0, 0, 0, 0), 0, []),
  (32, false, .getfield 264, 3, 332, (7, 15, 0, 0), 0, []),
  (35, false, .ifCond .le 6, 3, 0, (41, 0, 0, 0), 0, []),
  (38, false, .bipush 7, 2, 0, (0, 0, 0, 0), 0, []),
  (40, false, .ireturn, 1, 0, (0, 0, 0, 0), 0, []),
  (41, true, .aload_n 0, 1, 0, (0, 0, 0, 0), 0, []),
  (42, false, .getfield 27, 3, 166, (3, 3, 6, 1), 0, []),
  (45, false, .getfield 318, 3, 108, (4, 3, 0, 0), 0, []),
  (48, false, .bipush 100, 2, 0, (0, 0, 0, 0), 0, []),
  (50, false, .if_icmp .lt 8, 3, 0, (58, 0, 0, 0), 0, []),
  (53, false, .bipush 6, 2, 0, (0, 0, 0, 0), 0, []),
  (55, false, .goto 5, 3, 0, (60, 0, 0, 0), 0, []),
  (58, false, .bipush 8, 2, 0, (0, 0, 0, 0), 0, []),
  (60, false, .ireturn, 1, 0, (0, 0, 0, 0), 0, [])]
theorem zc_x_fateOfDue : zk_x_fateOfDue.all (zz_ck zz_inf zM_x_fateOfDue) = true ∧ zz_ch zk_x_fateOfDue = true := ⟨by decide +kernel, by decide +kernel⟩
noncomputable def x_fateOfDue_41 (σ : zz_S) : zz_R := (if (zz_h σ 4 1 3) < 100 then (some (8, σ)) else (some (6, σ)))
set_option maxRecDepth 100000 in
set_option maxHeartbeats 4000000 in
theorem ze_x_fateOfDue_41 (σ : zz_S) : x_fateOfDue_41 σ = zz_ev (zz_CE []) (zz_KE []) zk_x_fateOfDue 0 false 0 0 400 true (zz_sk zk_x_fateOfDue 41) [(0, 5, 1)] [] σ := rfl
theorem zo_x_fateOfDue_41 : zz_okb zM_x_fateOfDue 41 [(0, 5, true)] (zz_f0 x_fateOfDue_41) :=
  fun vs σ r τ h => by
    obtain ⟨rfl, h⟩ := zz_f0_ok h
    exact zz_from zc_x_fateOfDue zz_oc0 zz_ol0 ((ze_x_fateOfDue_41 σ).symm.trans h)
noncomputable def x_fateOfDue (v1 : Int) (σ : zz_S) : zz_R := (if (zz_h σ 3 1 19) = 0 then (if v1 = 0 then none else (if (zz_h σ 7 v1 12) ≤ (zz_h σ 3 1 16) then (if v1 = 0 then none else (if v1 = 0 then none else (if zz_b σ 28 v1 3 then (if (zz_h σ 28 v1 3) = 0 then (if v1 = 0 then none else (if (zz_h σ 7 v1 15) ≤ 0 then (x_fateOfDue_41 σ) else (some (7, σ)))) else (x_fateOfDue_41 σ)) else none))) else (some (5, σ)))) else (some (4, σ)))
set_option maxRecDepth 100000 in
set_option maxHeartbeats 4000000 in
theorem ze_x_fateOfDue (v1 : Int) (σ : zz_S) : x_fateOfDue v1 σ = zz_ev (zz_CE []) (zz_KE [(41, [(0, 5, true)], zz_f0 (x_fateOfDue_41))]) zk_x_fateOfDue 0 false 0 0 400 true (zz_sk zk_x_fateOfDue 0) [(0, 5, 1), (1, 9, v1)] [] σ := rfl
theorem zo_x_fateOfDue : zz_okb zM_x_fateOfDue 0 [(0, 5, true), (1, 9, false)] (zz_f1 x_fateOfDue) :=
  fun vs σ r τ h => by
    obtain ⟨v1, rfl, h⟩ := zz_f1_ok h
    exact zz_from zc_x_fateOfDue zz_oc0 (zz_olc (zo_x_fateOfDue_41) zz_ol0) ((ze_x_fateOfDue v1 σ).symm.trans h)
noncomputable def zw_x_fateOfDue : List Int → zz_S → zz_R := zz_f2 fun a0 a1 σ => if a0 = 1 then x_fateOfDue a1 σ else none
theorem zo_m_x_fateOfDue : zz_okm zz_inf 37 zw_x_fateOfDue := fun vs σ r τ h => by
  obtain ⟨a0, a1, rfl, h⟩ := zz_f2_ok h
  obtain ⟨e, h⟩ := zz_it h
  subst e
  exact zz_meth zi_x_fateOfDue zy_x_fateOfDue (zo_x_fateOfDue [a1] σ r τ h)
def zk_xD_add : List zz_E := [(0, false, .aload_n 0, 1, 0, (0, 0, 0, 0), 0, []),
  (1, false, .getfield 25, 3, 107, (4, 3, 0, 0), 0, []),
  (4, false, .bipush 100, 2, 0, (0, 0, 0, 0), 0, []),
  (6, false, .if_icmp .lt 4, 3, 0, (10, 0, 0, 0), 0, []),
  (9, false, .return_, 1, 0, (0, 0, 0, 0), 0, []),
  (10, false, .aload_n 0, 1, 0, (0, 0, 0, 0), 0, []),
  (11, false, .getfield 11, 3, 101, (4, 0, 21, 1), 0, []),
  (14, false, .aload_n 0, 1, 0, (0, 0, 0, 0), 0, []),
  (15, false, .getfield 25, 3, 107, (4, 3, 0, 0), 0, []),
  (18, false, .aload_n 1, 1, 0, (0, 0, 0, 0), 0, []),
  (19, false, .aastore, 1, 0, (19, 0, 9, 0), 0, []),
  (20, false, .aload_n 0, 1, 0, (0, 0, 0, 0), 0, []),
  (21, false, .getfield 17, 3, 103, (4, 1, 22, 1), 0, []),
  (24, false, .aload_n 0, 1, 0, (0, 0, 0, 0), 0, []),
  (25, false, .getfield 25, 3, 107, (4, 3, 0, 0), 0, []),
  (28, false, .iload_n 2, 1, 0, (0, 0, 0, 0), 0, []),
  (29, false, .iastore, 1, 0, (20, 0, 0, 0), 0, []),
  (30, false, .aload_n 0, 1, 0, (0, 0, 0, 0), 0, []),
  (31, false, .getfield 21, 3, 105, (4, 2, 23, 1), 0, []),
  (34, false, .aload_n 0, 1, 0, (0, 0, 0, 0), 0, []),
  (35, false, .getfield 25, 3, 107, (4, 3, 0, 0), 0, []),
  (38, false, .iconst 0, 1, 0, (0, 0, 0, 0), 0, []),
  (39, false, .bastore, 1, 0, (21, 0, 0, 0), 0, []),
  (40, false, .aload_n 0, 1, 0, (0, 0, 0, 0), 0, []),
  (41, false, .dup, 1, 0, (0, 0, 0, 0), 0, []),
  (42, false, .getfield 25, 3, 107, (4, 3, 0, 0), 0, []),
  (45, false, .iconst 1, 1, 0, (0, 0, 0, 0), 0, []),
  (46, false, .iadd, 1, 0, (0, 0, 0, 0), 0, []),
  (47, false, .putfield 25, 3, 107, (4, 3, 0, 0), 0, []),
  (50, false, .aload_n 1, 1, 0, (0, 0, 0, 0), 0, []),
  (51, false, .dup, 1, 0, (0, 0, 0, 0), 0, []),
  (52, false, .getfield 29, 3, 334, (7, 16, 0, 0), 0, []),
  (55, false, .iconst 1, 1, 0, (0, 0, 0, 0), 0, []),
  (56, false, .iadd, 1, 0, (0, 0, 0, 0), 0, []),
  (57, false, .putfield 29, 3, 334, (7, 16, 0, 0), 0, []),
  (60, false, .return_, 1, 0, (0, 0, 0, 0), 0, [])]
theorem zc_xD_add : zk_xD_add.all (zz_ck zz_inf zM_xD_add) = true ∧ zz_ch zk_xD_add = true := ⟨by decide +kernel, by decide +kernel⟩
noncomputable def xD_add (v1 v2 : Int) (σ : zz_S) : zz_R := (if (zz_h σ 4 1 3) < 100 then (if zz_b σ 19 1 (zz_h σ 4 1 3) then (if v1 = 0 then none else (let s1 := zz_w σ 19 1 (zz_h σ 4 1 3) v1; (if zz_b s1 20 1 (zz_h s1 4 1 3) then (let s2 := zz_w s1 20 1 (zz_h s1 4 1 3) v2; (if zz_b s2 21 1 (zz_h s2 4 1 3) then (let s3 := zz_w s2 21 1 (zz_h s2 4 1 3) 0; (let s4 := zz_w s3 4 1 3 (zz_r ((zz_h s3 4 1 3) + 1)); (if v1 = 0 then none else (if v1 = 0 then none else (let s5 := zz_w s4 7 v1 16 (zz_r ((zz_h s4 7 v1 16) + 1)); (some (0, s5))))))) else none)) else none))) else none) else (some (0, σ)))
set_option maxRecDepth 100000 in
set_option maxHeartbeats 4000000 in
theorem ze_xD_add (v1 v2 : Int) (σ : zz_S) : xD_add v1 v2 σ = zz_ev (zz_CE []) (zz_KE []) zk_xD_add 999 false 0 0 400 true (zz_sk zk_xD_add 0) [(0, 6, 1), (1, 9, v1), (2, 0, v2)] [] σ := rfl
theorem zo_xD_add : zz_okb zM_xD_add 0 [(0, 6, true), (1, 9, false), (2, 0, false)] (zz_f2 xD_add) :=
  fun vs σ r τ h => by
    obtain ⟨v1, v2, rfl, h⟩ := zz_f2_ok h
    exact zz_from zc_xD_add zz_oc0 zz_ol0 ((ze_xD_add v1 v2 σ).symm.trans h)
noncomputable def zw_xD_add : List Int → zz_S → zz_R := zz_f3 fun a0 a1 a2 σ => if a0 = 1 then xD_add a1 a2 σ else none
theorem zo_m_xD_add : zz_okm zz_inf 76 zw_xD_add := fun vs σ r τ h => by
  obtain ⟨a0, a1, a2, rfl, h⟩ := zz_f3_ok h
  obtain ⟨e, h⟩ := zz_it h
  subst e
  exact zz_meth zi_xD_add zy_xD_add (zo_xD_add [a1, a2] σ r τ h)
def zk_xB_add : List zz_E := [(0, false, .aload_n 0, 1, 0, (0, 0, 0, 0), 0, []),
  (1, false, .getfield 21, 3, 132, (5, 3, 0, 0), 0, []),
  (4, false, .sipush 300, 3, 0, (0, 0, 0, 0), 0, []),
  (7, false, .if_icmp .ge 33, 3, 0, (40, 0, 0, 0), 0, []),
  (10, false, .aload_n 0, 1, 0, (0, 0, 0, 0), 0, []),
  (11, false, .getfield 9, 3, 126, (5, 0, 24, 1), 0, []),
  (14, false, .aload_n 0, 1, 0, (0, 0, 0, 0), 0, []),
  (15, false, .getfield 21, 3, 132, (5, 3, 0, 0), 0, []),
  (18, false, .iload_n 1, 1, 0, (0, 0, 0, 0), 0, []),
  (19, false, .iastore, 1, 0, (22, 0, 0, 0), 0, []),
  (20, false, .aload_n 0, 1, 0, (0, 0, 0, 0), 0, []),
  (21, false, .getfield 15, 3, 128, (5, 1, 25, 1), 0, []),
  (24, false, .aload_n 0, 1, 0, (0, 0, 0, 0), 0, []),
  (25, false, .getfield 21, 3, 132, (5, 3, 0, 0), 0, []),
  (28, false, .iload_n 2, 1, 0, (0, 0, 0, 0), 0, []),
  (29, false, .iastore, 1, 0, (23, 0, 0, 0), 0, []),
  (30, false, .aload_n 0, 1, 0, (0, 0, 0, 0), 0, []),
  (31, false, .getfield 18, 3, 130, (5, 2, 26, 1), 0, []),
  (34, false, .aload_n 0, 1, 0, (0, 0, 0, 0), 0, []),
  (35, false, .getfield 21, 3, 132, (5, 3, 0, 0), 0, []),
  (38, false, .iload_n 3, 1, 0, (0, 0, 0, 0), 0, []),
  (39, false, .iastore, 1, 0, (24, 0, 0, 0), 0, []),
  (40, false, .aload_n 0, 1, 0, (0, 0, 0, 0), 0, []),
  (41, false, .dup, 1, 0, (0, 0, 0, 0), 0, []),
  (42, false, .getfield 21, 3, 132, (5, 3, 0, 0), 0, []),
  (45, false, .iconst 1, 1, 0, (0, 0, 0, 0), 0, []),
  (46, false, .iadd, 1, 0, (0, 0, 0, 0), 0, []),
  (47, false, .putfield 21, 3, 132, (5, 3, 0, 0), 0, []),
  (50, false, .return_, 1, 0, (0, 0, 0, 0), 0, [])]
theorem zc_xB_add : zk_xB_add.all (zz_ck zz_inf zM_xB_add) = true ∧ zz_ch zk_xB_add = true := ⟨by decide +kernel, by decide +kernel⟩
noncomputable def xB_add (v1 v2 v3 : Int) (σ : zz_S) : zz_R := (if (zz_h σ 5 1 3) < 300 then (if zz_b σ 22 1 (zz_h σ 5 1 3) then (let s1 := zz_w σ 22 1 (zz_h σ 5 1 3) v1; (if zz_b s1 23 1 (zz_h s1 5 1 3) then (let s2 := zz_w s1 23 1 (zz_h s1 5 1 3) v2; (if zz_b s2 24 1 (zz_h s2 5 1 3) then (let s3 := zz_w s2 24 1 (zz_h s2 5 1 3) v3; (let s4 := zz_w s3 5 1 3 (zz_r ((zz_h s3 5 1 3) + 1)); (some (0, s4)))) else none)) else none)) else none) else (let s5 := zz_w σ 5 1 3 (zz_r ((zz_h σ 5 1 3) + 1)); (some (0, s5))))
set_option maxRecDepth 100000 in
set_option maxHeartbeats 4000000 in
theorem ze_xB_add (v1 v2 v3 : Int) (σ : zz_S) : xB_add v1 v2 v3 σ = zz_ev (zz_CE []) (zz_KE []) zk_xB_add 999 false 0 0 400 true (zz_sk zk_xB_add 0) [(0, 7, 1), (1, 0, v1), (2, 0, v2), (3, 0, v3)] [] σ := rfl
theorem zo_xB_add : zz_okb zM_xB_add 0 [(0, 7, true), (1, 0, false), (2, 0, false), (3, 0, false)] (zz_f3 xB_add) :=
  fun vs σ r τ h => by
    obtain ⟨v1, v2, v3, rfl, h⟩ := zz_f3_ok h
    exact zz_from zc_xB_add zz_oc0 zz_ol0 ((ze_xB_add v1 v2 v3 σ).symm.trans h)
noncomputable def zw_xB_add : List Int → zz_S → zz_R := zz_f4 fun a0 a1 a2 a3 σ => if a0 = 1 then xB_add a1 a2 a3 σ else none
theorem zo_m_xB_add : zz_okm zz_inf 82 zw_xB_add := fun vs σ r τ h => by
  obtain ⟨a0, a1, a2, a3, rfl, h⟩ := zz_f4_ok h
  obtain ⟨e, h⟩ := zz_it h
  subst e
  exact zz_meth zi_xB_add zy_xB_add (zo_xB_add [a1, a2, a3] σ r τ h)
def zk_x_pauseAgain : List zz_E := [(0, false, .aload_n 1, 1, 0, (0, 0, 0, 0), 0, []),
  (1, false, .getfield 114, 3, 301, (7, 1, 0, 0), 0, []),
  (4, false, .iconst 2, 1, 0, (0, 0, 0, 0), 0, []),
  (5, false, .if_icmp .ne 23, 3, 0, (28, 0, 0, 0), 0, []),
  (8, false, .aload_n 1, 1, 0, (0, 0, 0, 0), 0, []),
  (9, false, .getfield 319, 3, 321, (7, 10, 0, 0), 0, []),
  (12, false, .ifCond .ne 16, 3, 0, (28, 0, 0, 0), 0, []),
  (15, false, .aload_n 1, 1, 0, (0, 0, 0, 0), 0, []),
  (16, false, .aload_n 0, 1, 0, (0, 0, 0, 0), 0, []),
  (17, false, .getfield 78, 3, 179, (3, 16, 0, 0), 0, []),
  (20, false, .aload_n 1, 1, 0, (0, 0, 0, 0), 0, []),
  (21, false, .getfield 246, 3, 305, (7, 3, 0, 0), 0, []),
  (24, false, .iadd, 1, 0, (0, 0, 0, 0), 0, []),
  (25, false, .putfield 249, 3, 323, (7, 11, 0, 0), 0, []),
  (28, false, .return_, 1, 0, (0, 0, 0, 0), 0, [])]
theorem zc_x_pauseAgain : zk_x_pauseAgain.all (zz_ck zz_inf zM_x_pauseAgain) = true ∧ zz_ch zk_x_pauseAgain = true := ⟨by decide +kernel, by decide +kernel⟩
noncomputable def x_pauseAgain (v1 : Int) (σ : zz_S) : zz_R := (if v1 = 0 then none else (if (zz_h σ 7 v1 1) = 2 then (if v1 = 0 then none else (if (zz_h σ 7 v1 10) = 0 then (if v1 = 0 then none else (if v1 = 0 then none else (let s1 := zz_w σ 7 v1 11 (zz_r ((zz_h σ 3 1 16) + (zz_h σ 7 v1 3))); (some (0, s1))))) else (some (0, σ)))) else (some (0, σ))))
set_option maxRecDepth 100000 in
set_option maxHeartbeats 4000000 in
theorem ze_x_pauseAgain (v1 : Int) (σ : zz_S) : x_pauseAgain v1 σ = zz_ev (zz_CE []) (zz_KE []) zk_x_pauseAgain 999 false 0 0 400 true (zz_sk zk_x_pauseAgain 0) [(0, 5, 1), (1, 9, v1)] [] σ := rfl
theorem zo_x_pauseAgain : zz_okb zM_x_pauseAgain 0 [(0, 5, true), (1, 9, false)] (zz_f1 x_pauseAgain) :=
  fun vs σ r τ h => by
    obtain ⟨v1, rfl, h⟩ := zz_f1_ok h
    exact zz_from zc_x_pauseAgain zz_oc0 zz_ol0 ((ze_x_pauseAgain v1 σ).symm.trans h)
noncomputable def zw_x_pauseAgain : List Int → zz_S → zz_R := zz_f2 fun a0 a1 σ => if a0 = 1 then x_pauseAgain a1 σ else none
theorem zo_m_x_pauseAgain : zz_okm zz_inf 38 zw_x_pauseAgain := fun vs σ r τ h => by
  obtain ⟨a0, a1, rfl, h⟩ := zz_f2_ok h
  obtain ⟨e, h⟩ := zz_it h
  subst e
  exact zz_meth zi_x_pauseAgain zy_x_pauseAgain (zo_x_pauseAgain [a1] σ r τ h)
def zk_x_comeDue : List zz_E := [(0, false, .aload_n 0, 1, 0, (0, 0, 0, 0), 0, []),
  (1, false, .aload_n 1, 1, 0, (0, 0, 0, 0), 0, []),
  (2, false, .invokevirtual 305, 3, 526, (37, 2, 0, 0), 0, [9, 5]),
  (5, false, .istore_n 2, 1, 0, (0, 0, 0, 0), 0, []),
  (6, false, .iload_n 2, 1, 0, (0, 0, 0, 0), 0, []),
  (7, false, .bipush 8, 2, 0, (0, 0, 0, 0), 0, []),
  (9, false, .if_icmp .ne 16, 3, 0, (25, 0, 0, 0), 0, []),
  (12, false, .aload_n 0, 1, 0, (0, 0, 0, 0), 0, []),
  (13, false, .getfield 27, 3, 166, (3, 3, 6, 1), 0, []),
  (16, false, .aload_n 1, 1, 0, (0, 0, 0, 0), 0, []),
  (17, false, .aload_n 0, 1, 0, (0, 0, 0, 0), 0, []),
  (18, false, .getfield 78, 3, 179, (3, 16, 0, 0), 0, []),
  (21, false, .invokevirtual 309, 3, 530, (76, 3, 999, 0), 0, [0, 9, 6]),
  (24, false, .return_, 1, 0, (0, 0, 0, 0), 0, []),
  (25, false, .iload_n 2, 1, 0, (0, 0, 0, 0), 0, []),
  (26, false, .bipush 7, 2, 0, (0, 0, 0, 0), 0, []),
  (28, false, .if_icmp .ne 16, 3, 0, (44, 0, 0, 0), 0, []),
  (31, false, .aload_n 1, 1, 0, (0, 0, 0, 0), 0, []),
  (32, false, .dup, 1, 0, (0, 0, 0, 0), 0, []),
  (33, false, .getfield 311, 3, 337, (7, 17, 0, 0), 0, []),
  (36, false, .iconst 1, 1, 0, (0, 0, 0, 0), 0, []),
  (37, false, .iadd, 1, 0, (0, 0, 0, 0), 0, []),
  (38, false, .putfield 311, 3, 337, (7, 17, 0, 0), 0, []),
  (41, false, .goto 19, 3, 0, (60, 0, 0, 0), 0, []),
  (44, false, .aload_n 0, 1, 0, (0, 0, 0, 0), 0, []),
  (45, false, .getfield 34, 3, 167, (3, 4, 7, 1), 0, []),
  (48, false, .aload_n 1, 1, 0, (0, 0, 0, 0), 0, []),
  (49, false, .getfield 162, 3, 299, (7, 0, 0, 0), 0, []),
  (52, false, .aload_n 0, 1, 0, (0, 0, 0, 0), 0, []),
  (53, false, .getfield 78, 3, 179, (3, 16, 0, 0), 0, []),
  (56, false, .iload_n 2, 1, 0, (0, 0, 0, 0), 0, []),
  (57, false, .invokevirtual 314, 3, 534, (82, 4, 999, 0), 0, [0, 0, 0, 7]),
  (60, false, .aload_n 0, 1, 0, (0, 0, 0, 0), 0, []),
  (61, false, .aload_n 1, 1, 0, (0, 0, 0, 0), 0, []),
  (62, false, .invokevirtual 315, 3, 538, (38, 2, 999, 0), 0, [9, 5]),
  (65, false, .return_, 1, 0, (0, 0, 0, 0), 0, [])]
theorem zc_x_comeDue : zk_x_comeDue.all (zz_ck zz_inf zM_x_comeDue) = true ∧ zz_ch zk_x_comeDue = true := ⟨by decide +kernel, by decide +kernel⟩
noncomputable def x_comeDue (v1 : Int) (σ : zz_S) : zz_R := ((x_fateOfDue v1 σ).bind fun q1 => (if q1.1 = 8 then ((xD_add v1 (zz_h q1.2 3 1 16) q1.2).bind fun q2 => (some (0, q2.2))) else (if q1.1 = 7 then (if v1 = 0 then none else (if v1 = 0 then none else (let s3 := zz_w q1.2 7 v1 17 (zz_r ((zz_h q1.2 7 v1 17) + 1)); ((x_pauseAgain v1 s3).bind fun q4 => (some (0, q4.2)))))) else (if v1 = 0 then none else ((xB_add (zz_h q1.2 7 v1 0) (zz_h q1.2 3 1 16) q1.1 q1.2).bind fun q5 => ((x_pauseAgain v1 q5.2).bind fun q6 => (some (0, q6.2))))))))
set_option maxRecDepth 100000 in
set_option maxHeartbeats 4000000 in
theorem ze_x_comeDue (v1 : Int) (σ : zz_S) : x_comeDue v1 σ = zz_ev (zz_CE [(37, zw_x_fateOfDue), (38, zw_x_pauseAgain), (76, zw_xD_add), (82, zw_xB_add)]) (zz_KE []) zk_x_comeDue 999 false 0 0 400 true (zz_sk zk_x_comeDue 0) [(0, 5, 1), (1, 9, v1)] [] σ := rfl
theorem zo_x_comeDue : zz_okb zM_x_comeDue 0 [(0, 5, true), (1, 9, false)] (zz_f1 x_comeDue) :=
  fun vs σ r τ h => by
    obtain ⟨v1, rfl, h⟩ := zz_f1_ok h
    exact zz_from zc_x_comeDue (zz_occ zo_m_x_fateOfDue (zz_occ zo_m_x_pauseAgain (zz_occ zo_m_xD_add (zz_occ zo_m_xB_add zz_oc0)))) zz_ol0 ((ze_x_comeDue v1 σ).symm.trans h)
noncomputable def zw_x_comeDue : List Int → zz_S → zz_R := zz_f2 fun a0 a1 σ => if a0 = 1 then x_comeDue a1 σ else none
theorem zo_m_x_comeDue : zz_okm zz_inf 36 zw_x_comeDue := fun vs σ r τ h => by
  obtain ⟨a0, a1, rfl, h⟩ := zz_f2_ok h
  obtain ⟨e, h⟩ := zz_it h
  subst e
  exact zz_meth zi_x_comeDue zy_x_comeDue (zo_x_comeDue [a1] σ r τ h)
def zk_x_tellAfters : List zz_E := [(0, false, .iconst 0, 1, 0, (0, 0, 0, 0), 0, []),
  (1, false, .istore_n 3, 1, 0, (0, 0, 0, 0), 0, []),
  (2, true, .iload_n 3, 1, 0, (0, 0, 0, 0), 0, []),
  (3, false, .aload_n 0, 1, 0, (0, 0, 0, 0), 0, []),
  (4, false, .getfield 62, 3, 174, (3, 11, 0, 0), 0, []),
  (7, false, .if_icmp .ge 55, 3, 0, (62, 0, 0, 0), 0, []),
  (10, false, .aload_n 0, 1, 0, (0, 0, 0, 0), 0, []),
  (11, false, .iload_n 3, 1, 0, (0, 0, 0, 0), 0, []),
  (12, false, .invokevirtual 100, 3, 385, (73, 2, 9, 0), 0, [0, 5]),
  (15, false, .astore 4, 2, 0, (0, 0, 0, 0), 0, []),
  (17, false, .aload 4, 2, 0, (0, 0, 0, 0), 0, []),
  (19, false, .invokestatic 273, 3, 515, (74, 1, 0, 0), 0, [9]),
  (22, false, .ifCond .eq 34, 3, 0, (56, 0, 0, 0), 0, []),
  (25, false, .aload 4, 2, 0, (0, 0, 0, 0), 0, []),
  (27, false, .getfield 114, 3, 301, (7, 1, 0, 0), 0, []),
  (30, false, .iconst 4, 1, 0, (0, 0, 0, 0), 0, []),
  (31, false, .if_icmp .ne 25, 3, 0, (56, 0, 0, 0), 0, []),
  (34, false, .aload 4, 2, 0, (0, 0, 0, 0), 0, []),
  (36, false, .getfield 146, 3, 313, (7, 6, 11, 1), 0, []),
  (39, false, .aload_n 1, 1, 0, (0, 0, 0, 0), 0, []),
  (40, false, .getfield 162, 3, 299, (7, 0, 0, 0), 0, []),
  (43, false, .iload_n 2, 1, 0, (0, 0, 0, 0), 0, []),
  (44, false, .invokevirtual 276, 3, 518, (105, 3, 0, 0), 0, [0, 0, 11]),
  (47, false, .ifCond .eq 9, 3, 0, (56, 0, 0, 0), 0, []),
  (50, false, .aload_n 0, 1, 0, (0, 0, 0, 0), 0, []),
  (51, false, .aload 4, 2, 0, (0, 0, 0, 0), 0, []),
  (53, false, .invokevirtual 280, 3, 522, (36, 2, 999, 0), 0, [9, 5]),
  (56, false, .iinc 3 1, 3, 0, (0, 0, 0, 0), 0, []),
  (59, false, .goto (-57), 3, 0, (2, 0, 0, 0), 0, []),
  (62, false, .return_, 1, 0, (0, 0, 0, 0), 0, [])]
theorem zc_x_tellAfters : zk_x_tellAfters.all (zz_ck zz_inf zM_x_tellAfters) = true ∧ zz_ch zk_x_tellAfters = true := ⟨by decide +kernel, by decide +kernel⟩
noncomputable def x_tellAfters_2 : Nat → Int → Int → Int → zz_S → zz_R
  | 0, _, _, _, _ => none
  | n + 1, v1, v2, v3, σ => (if v3 < (zz_h σ 3 1 11) then ((x_taskAt v3 σ).bind fun q1 => ((x_isActive q1.1 q1.2).bind fun q2 => (if q2.1 = 0 then (x_tellAfters_2 n v1 v2 (zz_r (v3 + 1)) q2.2) else (if q1.1 = 0 then none else (if (zz_h q2.2 7 q1.1 1) = 4 then (if q1.1 = 0 then none else (if v1 = 0 then none else (if q1.1 = 0 then none else ((xN_fit q1.1 (zz_h q2.2 7 v1 0) v2 q2.2).bind fun q3 => (if q3.1 = 0 then (x_tellAfters_2 n v1 v2 (zz_r (v3 + 1)) q3.2) else ((x_comeDue q1.1 q3.2).bind fun q4 => (x_tellAfters_2 n v1 v2 (zz_r (v3 + 1)) q4.2))))))) else (x_tellAfters_2 n v1 v2 (zz_r (v3 + 1)) q2.2)))))) else (some (0, σ)))
set_option maxRecDepth 100000 in
set_option maxHeartbeats 4000000 in
theorem ze_x_tellAfters_2 (n : Nat) (v1 v2 v3 : Int) (σ : zz_S) : x_tellAfters_2 (n + 1) v1 v2 v3 σ = zz_ev (zz_CE [(36, zw_x_comeDue), (73, zw_x_taskAt), (74, zw_x_isActive), (105, zw_xN_fit)]) (zz_KE [(2, [(0, 5, true), (1, 9, false), (2, 0, false), (3, 0, false)], zz_f3 (x_tellAfters_2 n))]) zk_x_tellAfters 999 false 0 0 400 true (zz_sk zk_x_tellAfters 2) [(0, 5, 1), (1, 9, v1), (2, 0, v2), (3, 0, v3)] [] σ := rfl
theorem zo_x_tellAfters_2 : ∀ n : Nat, zz_okb zM_x_tellAfters 2 [(0, 5, true), (1, 9, false), (2, 0, false), (3, 0, false)] (zz_f3 (x_tellAfters_2 n))
  | 0 => fun vs σ r τ h => by
    obtain ⟨v1, v2, v3, rfl, h⟩ := zz_f3_ok h
    exact nomatch (show (none : zz_R) = some (r, τ) from h)
  | n + 1 => by
    have ih := zo_x_tellAfters_2 n
    exact fun vs σ r τ h => by
        obtain ⟨v1, v2, v3, rfl, h⟩ := zz_f3_ok h
        exact zz_from zc_x_tellAfters (zz_occ zo_m_x_comeDue (zz_occ zo_m_x_taskAt (zz_occ zo_m_x_isActive (zz_occ zo_m_xN_fit zz_oc0)))) (zz_olc ih zz_ol0) ((ze_x_tellAfters_2 n v1 v2 v3 σ).symm.trans h)
noncomputable def x_tellAfters (v1 v2 : Int) (σ : zz_S) : zz_R := (x_tellAfters_2 zz_fu v1 v2 0 σ)
set_option maxRecDepth 100000 in
set_option maxHeartbeats 4000000 in
theorem ze_x_tellAfters (v1 v2 : Int) (σ : zz_S) : x_tellAfters v1 v2 σ = zz_ev (zz_CE []) (zz_KE [(2, [(0, 5, true), (1, 9, false), (2, 0, false), (3, 0, false)], zz_f3 (x_tellAfters_2 zz_fu))]) zk_x_tellAfters 999 false 0 0 400 true (zz_sk zk_x_tellAfters 0) [(0, 5, 1), (1, 9, v1), (2, 0, v2)] [] σ := rfl
theorem zo_x_tellAfters : zz_okb zM_x_tellAfters 0 [(0, 5, true), (1, 9, false), (2, 0, false)] (zz_f2 x_tellAfters) :=
  fun vs σ r τ h => by
    obtain ⟨v1, v2, rfl, h⟩ := zz_f2_ok h
    exact zz_from zc_x_tellAfters zz_oc0 (zz_olc (zo_x_tellAfters_2 zz_fu) zz_ol0) ((ze_x_tellAfters v1 v2 σ).symm.trans h)
noncomputable def zw_x_tellAfters : List Int → zz_S → zz_R := zz_f3 fun a0 a1 a2 σ => if a0 = 1 then x_tellAfters a1 a2 σ else none
theorem zo_m_x_tellAfters : zz_okm zz_inf 33 zw_x_tellAfters := fun vs σ r τ h => by
  obtain ⟨a0, a1, a2, rfl, h⟩ := zz_f3_ok h
  obtain ⟨e, h⟩ := zz_it h
  subst e
  exact zz_meth zi_x_tellAfters zy_x_tellAfters (zo_x_tellAfters [a1, a2] σ r τ h)
def zk_x_endRun : List zz_E := [(0, false, .aload_n 1, 1, 0, (0, 0, 0, 0), 0, []),
  (1, false, .getfield 203, 3, 636, (10, 1, 9, 0), 0, []),
  (4, false, .astore_n 2, 1, 0, (0, 0, 0, 0), 0, []),
  (5, false, .aload_n 0, 1, 0, (0, 0, 0, 0), 0, []),
  (6, false, .getfield 41, 3, 168, (3, 5, 8, 1), 0, []),
  (9, false, .aload_n 2, 1, 0, (0, 0, 0, 0), 0, []),
  (10, false, .getfield 162, 3, 299, (7, 0, 0, 0), 0, []),
  (13, false, .aload_n 1, 1, 0, (0, 0, 0, 0), 0, []),
  (14, false, .getfield 207, 3, 638, (10, 2, 0, 0), 0, []),
  (17, false, .invokevirtual 210, 3, 475, (86, 3, 0, 0), 0, [0, 0, 8]),
  (20, false, .istore_n 3, 1, 0, (0, 0, 0, 0), 0, []),
  (21, false, .iload_n 3, 1, 0, (0, 0, 0, 0), 0, []),
  (22, false, .iconst (-1), 1, 0, (0, 0, 0, 0), 0, []),
  (23, false, .if_icmp .ne 9, 3, 0, (32, 0, 0, 0), 0, []),
  (26, false, .aload_n 0, 1, 0, (0, 0, 0, 0), 0, []),
  (27, false, .aload_n 1, 1, 0, (0, 0, 0, 0), 0, []),
  (28, false, .invokevirtual 213, 3, 479, (29, 2, 0, 0), 0, [12, 5]),
  (31, false, .istore_n 3, 1, 0, (0, 0, 0, 0), 0, []),
  (32, true, .iload_n 3, 1, 0, (0, 0, 0, 0), 0, []),
  (33, false, .iconst (-1), 1, 0, (0, 0, 0, 0), 0, []),
  (34, false, .if_icmp .ne 7, 3, 0, (41, 0, 0, 0), 0, []),
  (37, false, .iconst 1, 1, 0, (0, 0, 0, 0), 0, []),
  (38, false, .goto 4, 3, 0, (42, 0, 0, 0), 0, []),
  (41, false, .iconst 0, 1, 0, (0, 0, 0, 0), 0, []),
  (42, false, .istore 4, 2, 0, (0, 0, 0, 0), 0, []),
  (44, false, .aload_n 0, 1, 0, (0, 0, 0, 0), 0, []),
  (45, false, .aload_n 1, 1, 0, (0, 0, 0, 0), 0, []),
  (46, false, .iload 4, 2, 0, (0, 0, 0, 0), 0, []),
  (48, false, .ifCond .eq 7, 3, 0, (55, 0, 0, 0), 0, []),
  (51, false, .iconst 1, 1, 0, (0, 0, 0, 0), 0, []),
  (52, false, .goto 4, 3, 0, (56, 0, 0, 0), 0, []),
  (55, false, .iconst 2, 1, 0, (0, 0, 0, 0), 0, []),
  (56, false, .invokevirtual 216, 3, 499, (32, 3, 999, 0), 0, [0, 12, 5]),
  (59, false, .aload_n 1, 1, 0, (0, 0, 0, 0), 0, []),
  (60, false, .iload_n 3, 1, 0, (0, 0, 0, 0), 0, []),
  (61, false, .putfield 220, 3, 654, (10, 10, 0, 0), 0, []),
  (64, false, .iload 4, 2, 0, (0, 0, 0, 0), 0, []),
  (66, false, .ifCond .eq 11, 3, 0, (77, 0, 0, 0), 0, []),
  (69, false, .aload_n 2, 1, 0, (0, 0, 0, 0), 0, []),
  (70, false, .iconst 0, 1, 0, (0, 0, 0, 0), 0, []),
  (71, false, .putfield 223, 3, 327, (7, 13, 0, 0), 0, []),
  (74, false, .goto 13, 3, 0, (87, 0, 0, 0), 0, []),
  (77, false, .aload_n 2, 1, 0, (0, 0, 0, 0), 0, []),
  (78, false, .dup, 1, 0, (0, 0, 0, 0), 0, []),
  (79, false, .getfield 223, 3, 327, (7, 13, 0, 0), 0, []),
  (82, false, .iconst 1, 1, 0, (0, 0, 0, 0), 0, []),
  (83, false, .iadd, 1, 0, (0, 0, 0, 0), 0, []),
  (84, false, .putfield 223, 3, 327, (7, 13, 0, 0), 0, []),
  (87, true, .aload_n 2, 1, 0, (0, 0, 0, 0), 0, []),
  (88, false, .invokevirtual 226, 3, 483, (88, 1, 0, 0), 0, [9]),
  (91, false, .ifCond .eq 10, 3, 0, (101, 0, 0, 0), 0, []),
  (94, false, .aload_n 0, 1, 0, (0, 0, 0, 0), 0, []),
  (95, false, .aload_n 2, 1, 0, (0, 0, 0, 0), 0, []),
  (96, false, .iload 4, 2, 0, (0, 0, 0, 0), 0, []),
  (98, false, .invokevirtual 230, 3, 503, (30, 3, 999, 0), 0, [0, 9, 5]),
  (101, false, .aload_n 0, 1, 0, (0, 0, 0, 0), 0, []),
  (102, false, .aload_n 2, 1, 0, (0, 0, 0, 0), 0, []),
  (103, false, .iload 4, 2, 0, (0, 0, 0, 0), 0, []),
  (105, false, .invokevirtual 234, 3, 511, (33, 3, 999, 0), 0, [0, 9, 5]),
  (108, false, .return_, 1, 0, (0, 0, 0, 0), 0, [])]
theorem zc_x_endRun : zk_x_endRun.all (zz_ck zz_inf zM_x_endRun) = true ∧ zz_ch zk_x_endRun = true := ⟨by decide +kernel, by decide +kernel⟩
noncomputable def x_endRun_87 (v2 v4 : Int) (σ : zz_S) : zz_R := (if v2 = 0 then none else ((xT_isActive v2 σ).bind fun q1 => (if q1.1 = 0 then ((x_tellAfters v2 v4 q1.2).bind fun q2 => (some (0, q2.2))) else ((x_followEnd v2 v4 q1.2).bind fun q3 => ((x_tellAfters v2 v4 q3.2).bind fun q4 => (some (0, q4.2)))))))
set_option maxRecDepth 100000 in
set_option maxHeartbeats 4000000 in
theorem ze_x_endRun_87 (v2 v4 : Int) (σ : zz_S) : x_endRun_87 v2 v4 σ = zz_ev (zz_CE [(30, zw_x_followEnd), (33, zw_x_tellAfters), (88, zw_xT_isActive)]) (zz_KE []) zk_x_endRun 999 false 0 0 400 true (zz_sk zk_x_endRun 87) [(0, 5, 1), (2, 9, v2), (4, 0, v4)] [] σ := rfl
theorem zo_x_endRun_87 : zz_okb zM_x_endRun 87 [(0, 5, true), (2, 9, false), (4, 0, false)] (zz_f2 x_endRun_87) :=
  fun vs σ r τ h => by
    obtain ⟨v2, v4, rfl, h⟩ := zz_f2_ok h
    exact zz_from zc_x_endRun (zz_occ zo_m_x_followEnd (zz_occ zo_m_x_tellAfters (zz_occ zo_m_xT_isActive zz_oc0))) zz_ol0 ((ze_x_endRun_87 v2 v4 σ).symm.trans h)
noncomputable def x_endRun_32 (v1 v2 v3 : Int) (σ : zz_S) : zz_R := (if v3 = (-1) then ((x_layDown v1 1 σ).bind fun q1 => (if v1 = 0 then none else (let s2 := zz_w q1.2 10 v1 10 v3; (if v2 = 0 then none else (let s3 := zz_w s2 7 v2 13 0; (x_endRun_87 v2 1 s3)))))) else ((x_layDown v1 2 σ).bind fun q4 => (if v1 = 0 then none else (let s5 := zz_w q4.2 10 v1 10 v3; (if v2 = 0 then none else (if v2 = 0 then none else (let s6 := zz_w s5 7 v2 13 (zz_r ((zz_h s5 7 v2 13) + 1)); (x_endRun_87 v2 0 s6))))))))
set_option maxRecDepth 100000 in
set_option maxHeartbeats 4000000 in
theorem ze_x_endRun_32 (v1 v2 v3 : Int) (σ : zz_S) : x_endRun_32 v1 v2 v3 σ = zz_ev (zz_CE [(32, zw_x_layDown)]) (zz_KE [(87, [(0, 5, true), (2, 9, false), (4, 0, false)], zz_f2 (x_endRun_87))]) zk_x_endRun 999 false 0 0 400 true (zz_sk zk_x_endRun 32) [(0, 5, 1), (1, 12, v1), (2, 9, v2), (3, 0, v3)] [] σ := rfl
theorem zo_x_endRun_32 : zz_okb zM_x_endRun 32 [(0, 5, true), (1, 12, false), (2, 9, false), (3, 0, false)] (zz_f3 x_endRun_32) :=
  fun vs σ r τ h => by
    obtain ⟨v1, v2, v3, rfl, h⟩ := zz_f3_ok h
    exact zz_from zc_x_endRun (zz_occ zo_m_x_layDown zz_oc0) (zz_olc (zo_x_endRun_87) zz_ol0) ((ze_x_endRun_32 v1 v2 v3 σ).symm.trans h)
noncomputable def x_endRun (v1 : Int) (σ : zz_S) : zz_R := (if v1 = 0 then none else (if (zz_h σ 10 v1 1) = 0 then none else (if v1 = 0 then none else ((xP_kindOf (zz_h σ 7 (zz_h σ 10 v1 1) 0) (zz_h σ 10 v1 2) σ).bind fun q1 => (if q1.1 = (-1) then ((x_act v1 q1.2).bind fun q2 => (x_endRun_32 v1 (zz_h σ 10 v1 1) q2.1 q2.2)) else (x_endRun_32 v1 (zz_h σ 10 v1 1) q1.1 q1.2))))))
set_option maxRecDepth 100000 in
set_option maxHeartbeats 4000000 in
theorem ze_x_endRun (v1 : Int) (σ : zz_S) : x_endRun v1 σ = zz_ev (zz_CE [(29, zw_x_act), (86, zw_xP_kindOf)]) (zz_KE [(32, [(0, 5, true), (1, 12, false), (2, 9, false), (3, 0, false)], zz_f3 (x_endRun_32))]) zk_x_endRun 999 false 0 0 400 true (zz_sk zk_x_endRun 0) [(0, 5, 1), (1, 12, v1)] [] σ := rfl
theorem zo_x_endRun : zz_okb zM_x_endRun 0 [(0, 5, true), (1, 12, false)] (zz_f1 x_endRun) :=
  fun vs σ r τ h => by
    obtain ⟨v1, rfl, h⟩ := zz_f1_ok h
    exact zz_from zc_x_endRun (zz_occ zo_m_x_act (zz_occ zo_m_xP_kindOf zz_oc0)) (zz_olc (zo_x_endRun_32) zz_ol0) ((ze_x_endRun v1 σ).symm.trans h)
noncomputable def zw_x_endRun : List Int → zz_S → zz_R := zz_f2 fun a0 a1 σ => if a0 = 1 then x_endRun a1 σ else none
theorem zo_m_x_endRun : zz_okm zz_inf 28 zw_x_endRun := fun vs σ r τ h => by
  obtain ⟨a0, a1, rfl, h⟩ := zz_f2_ok h
  obtain ⟨e, h⟩ := zz_it h
  subst e
  exact zz_meth zi_x_endRun zy_x_endRun (zo_x_endRun [a1] σ r τ h)
def zk_x_endRuns : List zz_E := [(0, false, .iconst 0, 1, 0, (0, 0, 0, 0), 0, []),
  (1, false, .istore_n 1, 1, 0, (0, 0, 0, 0), 0, []),
  (2, true, .iload_n 1, 1, 0, (0, 0, 0, 0), 0, []),
  (3, false, .bipush 8, 2, 0, (0, 0, 0, 0), 0, []),
  (5, false, .if_icmp .ge 24, 3, 0, (29, 0, 0, 0), 0, []),
  (8, false, .aload_n 0, 1, 0, (0, 0, 0, 0), 0, []),
  (9, false, .invokevirtual 192, 3, 467, (27, 1, 12, 0), 0, [5]),
  (12, false, .astore_n 2, 1, 0, (0, 0, 0, 0), 0, []),
  (13, false, .aload_n 2, 1, 0, (0, 0, 0, 0), 0, []),
  (14, false, .ifnonnull 4, 3, 0, (18, 0, 0, 0), 0, []),
  (17, false, .return_, 1, 0, (0, 0, 0, 0), 0, []),
  (18, false, .aload_n 0, 1, 0, (0, 0, 0, 0), 0, []),
  (19, false, .aload_n 2, 1, 0, (0, 0, 0, 0), 0, []),
  (20, false, .invokevirtual 196, 3, 471, (28, 2, 999, 0), 0, [12, 5]),
  (23, false, .iinc 1 1, 3, 0, (0, 0, 0, 0), 0, []),
  (26, false, .goto (-24), 3, 0, (2, 0, 0, 0), 0, []),
  (29, false, .return_, 1, 0, (0, 0, 0, 0), 0, [])]
theorem zc_x_endRuns : zk_x_endRuns.all (zz_ck zz_inf zM_x_endRuns) = true ∧ zz_ch zk_x_endRuns = true := ⟨by decide +kernel, by decide +kernel⟩
noncomputable def x_endRuns_2 : Nat → Int → zz_S → zz_R
  | 0, _, _ => none
  | n + 1, v1, σ => (if v1 < 8 then ((x_firstEnding σ).bind fun q1 => (if q1.1 = 0 then (some (0, q1.2)) else ((x_endRun q1.1 q1.2).bind fun q2 => (x_endRuns_2 n (zz_r (v1 + 1)) q2.2)))) else (some (0, σ)))
set_option maxRecDepth 100000 in
set_option maxHeartbeats 4000000 in
theorem ze_x_endRuns_2 (n : Nat) (v1 : Int) (σ : zz_S) : x_endRuns_2 (n + 1) v1 σ = zz_ev (zz_CE [(27, zw_x_firstEnding), (28, zw_x_endRun)]) (zz_KE [(2, [(0, 5, true), (1, 0, false)], zz_f1 (x_endRuns_2 n))]) zk_x_endRuns 999 false 0 0 400 true (zz_sk zk_x_endRuns 2) [(0, 5, 1), (1, 0, v1)] [] σ := rfl
theorem zo_x_endRuns_2 : ∀ n : Nat, zz_okb zM_x_endRuns 2 [(0, 5, true), (1, 0, false)] (zz_f1 (x_endRuns_2 n))
  | 0 => fun vs σ r τ h => by
    obtain ⟨v1, rfl, h⟩ := zz_f1_ok h
    exact nomatch (show (none : zz_R) = some (r, τ) from h)
  | n + 1 => by
    have ih := zo_x_endRuns_2 n
    exact fun vs σ r τ h => by
        obtain ⟨v1, rfl, h⟩ := zz_f1_ok h
        exact zz_from zc_x_endRuns (zz_occ zo_m_x_firstEnding (zz_occ zo_m_x_endRun zz_oc0)) (zz_olc ih zz_ol0) ((ze_x_endRuns_2 n v1 σ).symm.trans h)
noncomputable def x_endRuns (σ : zz_S) : zz_R := (x_endRuns_2 zz_fu 0 σ)
set_option maxRecDepth 100000 in
set_option maxHeartbeats 4000000 in
theorem ze_x_endRuns (σ : zz_S) : x_endRuns σ = zz_ev (zz_CE []) (zz_KE [(2, [(0, 5, true), (1, 0, false)], zz_f1 (x_endRuns_2 zz_fu))]) zk_x_endRuns 999 false 0 0 400 true (zz_sk zk_x_endRuns 0) [(0, 5, 1)] [] σ := rfl
theorem zo_x_endRuns : zz_okb zM_x_endRuns 0 [(0, 5, true)] (zz_f0 x_endRuns) :=
  fun vs σ r τ h => by
    obtain ⟨rfl, h⟩ := zz_f0_ok h
    exact zz_from zc_x_endRuns zz_oc0 (zz_olc (zo_x_endRuns_2 zz_fu) zz_ol0) ((ze_x_endRuns σ).symm.trans h)
noncomputable def zw_x_endRuns : List Int → zz_S → zz_R := zz_f1 fun a0 σ => if a0 = 1 then x_endRuns σ else none
theorem zo_m_x_endRuns : zz_okm zz_inf 26 zw_x_endRuns := fun vs σ r τ h => by
  obtain ⟨a0, rfl, h⟩ := zz_f1_ok h
  obtain ⟨e, h⟩ := zz_it h
  subst e
  exact zz_meth zi_x_endRuns zy_x_endRuns (zo_x_endRuns [] σ r τ h)
def zk_xT_step : List zz_E := [(0, false, .aload_n 0, 1, 0, (0, 0, 0, 0), 0, []),
  (1, false, .getfield 75, 3, 304, (7, 3, 0, 0), 0, []),
  (4, false, .iconst 1, 1, 0, (0, 0, 0, 0), 0, []),
  (5, false, .invokestatic 81, 3, 554, (168, 2, 0, 0), 0, [0, 0]),
  (8, false, .ireturn, 1, 0, (0, 0, 0, 0), 0, [])]
theorem zc_xT_step : zk_xT_step.all (zz_ck zz_inf zM_xT_step) = true ∧ zz_ch zk_xT_step = true := ⟨by decide +kernel, by decide +kernel⟩
noncomputable def xT_step (v0 : Int) (σ : zz_S) : zz_R := (if v0 = 0 then none else ((j_max (zz_h σ 7 v0 3) 1 σ).bind fun q1 => (some (q1.1, q1.2))))
set_option maxRecDepth 100000 in
set_option maxHeartbeats 4000000 in
theorem ze_xT_step (v0 : Int) (σ : zz_S) : xT_step v0 σ = zz_ev (zz_CE [(168, zw_j_max)]) (zz_KE []) zk_xT_step 0 false 0 0 400 true (zz_sk zk_xT_step 0) [(0, 9, v0)] [] σ := rfl
theorem zo_xT_step : zz_okb zM_xT_step 0 [(0, 9, false)] (zz_f1 xT_step) :=
  fun vs σ r τ h => by
    obtain ⟨v0, rfl, h⟩ := zz_f1_ok h
    exact zz_from zc_xT_step (zz_occ zo_m_j_max zz_oc0) zz_ol0 ((ze_xT_step v0 σ).symm.trans h)
noncomputable def zw_xT_step : List Int → zz_S → zz_R := zz_f1 fun a0 σ => xT_step a0 σ
theorem zo_m_xT_step : zz_okm zz_inf 91 zw_xT_step := fun vs σ r τ h => by
  obtain ⟨a0, rfl, h⟩ := zz_f1_ok h
  exact zz_meth zi_xT_step zy_xT_step (zo_xT_step [a0] σ r τ h)
def zk_j_floorMod : List zz_E := [(0, false, .iload_n 0, 1, 0, (0, 0, 0, 0), 0, []),
  (1, false, .iload_n 1, 1, 0, (0, 0, 0, 0), 0, []),
  (2, false, .irem, 1, 0, (0, 0, 0, 0), 0, []),
  (3, false, .istore_n 2, 1, 0, (0, 0, 0, 0), 0, []),
  (4, false, .iload_n 0, 1, 0, (0, 0, 0, 0), 0, []),
  (5, false, .iload_n 1, 1, 0, (0, 0, 0, 0), 0, []),
  (6, false, .ixor, 1, 0, (0, 0, 0, 0), 0, []),
  (7, false, .ifCond .ge 11, 3, 0, (18, 0, 0, 0), 0, []),
  (10, false, .iload_n 2, 1, 0, (0, 0, 0, 0), 0, []),
  (11, false, .ifCond .eq 7, 3, 0, (18, 0, 0, 0), 0, []),
  (14, false, .iload_n 2, 1, 0, (0, 0, 0, 0), 0, []),
  (15, false, .iload_n 1, 1, 0, (0, 0, 0, 0), 0, []),
  (16, false, .iadd, 1, 0, (0, 0, 0, 0), 0, []),
  (17, false, .ireturn, 1, 0, (0, 0, 0, 0), 0, []),
  (18, false, .iload_n 2, 1, 0, (0, 0, 0, 0), 0, []),
  (19, false, .ireturn, 1, 0, (0, 0, 0, 0), 0, [])]
theorem zc_j_floorMod : zk_j_floorMod.all (zz_ck zz_inf zM_j_floorMod) = true ∧ zz_ch zk_j_floorMod = true := ⟨by decide +kernel, by decide +kernel⟩
noncomputable def j_floorMod (v0 v1 : Int) (σ : zz_S) : zz_R := (if v1 = 0 then none else (if (zz_xor v0 v1) < 0 then (if (zz_rem v0 v1) = 0 then (some ((zz_rem v0 v1), σ)) else (some ((zz_r ((zz_rem v0 v1) + v1)), σ))) else (some ((zz_rem v0 v1), σ))))
set_option maxRecDepth 100000 in
set_option maxHeartbeats 4000000 in
theorem ze_j_floorMod (v0 v1 : Int) (σ : zz_S) : j_floorMod v0 v1 σ = zz_ev (zz_CE []) (zz_KE []) zk_j_floorMod 0 false 0 0 400 true (zz_sk zk_j_floorMod 0) [(0, 0, v0), (1, 0, v1)] [] σ := rfl
theorem zo_j_floorMod : zz_okb zM_j_floorMod 0 [(0, 0, false), (1, 0, false)] (zz_f2 j_floorMod) :=
  fun vs σ r τ h => by
    obtain ⟨v0, v1, rfl, h⟩ := zz_f2_ok h
    exact zz_from zc_j_floorMod zz_oc0 zz_ol0 ((ze_j_floorMod v0 v1 σ).symm.trans h)
noncomputable def zw_j_floorMod : List Int → zz_S → zz_R := zz_f2 fun a0 a1 σ => j_floorMod a0 a1 σ
theorem zo_m_j_floorMod : zz_okm zz_inf 170 zw_j_floorMod := fun vs σ r τ h => by
  obtain ⟨a0, a1, rfl, h⟩ := zz_f2_ok h
  exact zz_meth zi_j_floorMod zy_j_floorMod (zo_j_floorMod [a0, a1] σ r τ h)
def zk_xC_minuteFits : List zz_E := [(0, false, .aload_n 0, 1, 0, (0, 0, 0, 0), 0, []),
  (1, false, .getfield 17, 3, 255, (8, 1, 1, 0), 0, []),
  (4, false, .iload_n 1, 1, 0, (0, 0, 0, 0), 0, []),
  (5, false, .bipush 60, 2, 0, (0, 0, 0, 0), 0, []),
  (7, false, .irem, 1, 0, (0, 0, 0, 0), 0, []),
  (8, false, .lshr, 1, 0, (0, 0, 0, 0), 0, []),
  (9, false, .lconst 1, 1, 0, (0, 0, 0, 0), 1, []),
  (10, false, .land, 1, 0, (0, 0, 0, 0), 0, []),
  (11, false, .lconst 0, 1, 0, (0, 0, 0, 0), 0, []),
  (12, false, .lcmp, 1, 0, (0, 0, 0, 0), 0, []),
  (13, false, .ifCond .eq 7, 3, 0, (20, 0, 0, 0), 0, []),
  (16, false, .iconst 1, 1, 0, (0, 0, 0, 0), 0, []),
  (17, false, .goto 4, 3, 0, (21, 0, 0, 0), 0, []),
  (20, false, .iconst 0, 1, 0, (0, 0, 0, 0), 0, []),
  (21, false, .ireturn, 1, 0, (0, 0, 0, 0), 0, [])]
theorem zc_xC_minuteFits : zk_xC_minuteFits.all (zz_ck zz_inf zM_xC_minuteFits) = true ∧ zz_ch zk_xC_minuteFits = true := ⟨by decide +kernel, by decide +kernel⟩
noncomputable def xC_minuteFits (v0 v1 : Int) (σ : zz_S) : zz_R := (if v0 = 0 then none else (if (zz_lc (zz_land (zz_lshr (zz_h σ 8 v0 1) (zz_rem v1 60)) 1) 0) = 0 then (some (0, σ)) else (some (1, σ))))
set_option maxRecDepth 100000 in
set_option maxHeartbeats 4000000 in
theorem ze_xC_minuteFits (v0 v1 : Int) (σ : zz_S) : xC_minuteFits v0 v1 σ = zz_ev (zz_CE []) (zz_KE []) zk_xC_minuteFits 0 true 0 0 400 true (zz_sk zk_xC_minuteFits 0) [(0, 10, v0), (1, 0, v1)] [] σ := rfl
theorem zo_xC_minuteFits : zz_okb zM_xC_minuteFits 0 [(0, 10, false), (1, 0, false)] (zz_f2 xC_minuteFits) :=
  fun vs σ r τ h => by
    obtain ⟨v0, v1, rfl, h⟩ := zz_f2_ok h
    exact zz_from zc_xC_minuteFits zz_oc0 zz_ol0 ((ze_xC_minuteFits v0 v1 σ).symm.trans h)
noncomputable def zw_xC_minuteFits : List Int → zz_S → zz_R := zz_f2 fun a0 a1 σ => xC_minuteFits a0 a1 σ
theorem zo_m_xC_minuteFits : zz_okm zz_inf 98 zw_xC_minuteFits := fun vs σ r τ h => by
  obtain ⟨a0, a1, rfl, h⟩ := zz_f2_ok h
  exact zz_meth zi_xC_minuteFits zy_xC_minuteFits (zo_xC_minuteFits [a0, a1] σ r τ h)
def zk_xC_hourFits : List zz_E := [(0, false, .aload_n 0, 1, 0, (0, 0, 0, 0), 0, []),
  (1, false, .getfield 21, 3, 256, (8, 2, 0, 0), 0, []),
  (4, false, .iload_n 1, 1, 0, (0, 0, 0, 0), 0, []),
  (5, false, .bipush 60, 2, 0, (0, 0, 0, 0), 0, []),
  (7, false, .idiv, 1, 0, (0, 0, 0, 0), 0, []),
  (8, false, .bipush 24, 2, 0, (0, 0, 0, 0), 0, []),
  (10, false, .irem, 1, 0, (0, 0, 0, 0), 0, []),
  (11, false, .ishr, 1, 0, (0, 0, 0, 0), 0, []),
  (12, false, .iconst 1, 1, 0, (0, 0, 0, 0), 0, []),
  (13, false, .iand, 1, 0, (0, 0, 0, 0), 0, []),
  (14, false, .ifCond .eq 7, 3, 0, (21, 0, 0, 0), 0, []),
  (17, false, .iconst 1, 1, 0, (0, 0, 0, 0), 0, []),
  (18, false, .goto 4, 3, 0, (22, 0, 0, 0), 0, []),
  (21, false, .iconst 0, 1, 0, (0, 0, 0, 0), 0, []),
  (22, false, .ireturn, 1, 0, (0, 0, 0, 0), 0, [])]
theorem zc_xC_hourFits : zk_xC_hourFits.all (zz_ck zz_inf zM_xC_hourFits) = true ∧ zz_ch zk_xC_hourFits = true := ⟨by decide +kernel, by decide +kernel⟩
noncomputable def xC_hourFits (v0 v1 : Int) (σ : zz_S) : zz_R := (if v0 = 0 then none else (if (zz_and (zz_shr (zz_h σ 8 v0 2) (zz_rem (zz_div v1 60) 24)) 1) = 0 then (some (0, σ)) else (some (1, σ))))
set_option maxRecDepth 100000 in
set_option maxHeartbeats 4000000 in
theorem ze_xC_hourFits (v0 v1 : Int) (σ : zz_S) : xC_hourFits v0 v1 σ = zz_ev (zz_CE []) (zz_KE []) zk_xC_hourFits 0 true 0 0 400 true (zz_sk zk_xC_hourFits 0) [(0, 10, v0), (1, 0, v1)] [] σ := rfl
theorem zo_xC_hourFits : zz_okb zM_xC_hourFits 0 [(0, 10, false), (1, 0, false)] (zz_f2 xC_hourFits) :=
  fun vs σ r τ h => by
    obtain ⟨v0, v1, rfl, h⟩ := zz_f2_ok h
    exact zz_from zc_xC_hourFits zz_oc0 zz_ol0 ((ze_xC_hourFits v0 v1 σ).symm.trans h)
noncomputable def zw_xC_hourFits : List Int → zz_S → zz_R := zz_f2 fun a0 a1 σ => xC_hourFits a0 a1 σ
theorem zo_m_xC_hourFits : zz_okm zz_inf 99 zw_xC_hourFits := fun vs σ r τ h => by
  obtain ⟨a0, a1, rfl, h⟩ := zz_f2_ok h
  exact zz_meth zi_xC_hourFits zy_xC_hourFits (zo_xC_hourFits [a0, a1] σ r τ h)
def zk_xC_monthOf : List zz_E := [(0, false, .iconst 0, 1, 0, (0, 0, 0, 0), 0, []),
  (1, false, .istore_n 1, 1, 0, (0, 0, 0, 0), 0, []),
  (2, true, .iload_n 1, 1, 0, (0, 0, 0, 0), 0, []),
  (3, false, .bipush 11, 2, 0, (0, 0, 0, 0), 0, []),
  (5, false, .if_icmp .ge 20, 3, 0, (25, 0, 0, 0), 0, []),
  (8, false, .iload_n 0, 1, 0, (0, 0, 0, 0), 0, []),
  (9, false, .getstatic 66, 3, 577, (1, 0, 0, 0), 0, []),
  (12, false, .iload_n 1, 1, 0, (0, 0, 0, 0), 0, []),
  (13, false, .iconst 1, 1, 0, (0, 0, 0, 0), 0, []),
  (14, false, .iadd, 1, 0, (0, 0, 0, 0), 0, []),
  (15, false, .iaload, 1, 0, (1, 0, 0, 0), 0, []),
  (16, false, .if_icmp .lt 9, 3, 0, (25, 0, 0, 0), 0, []),
  (19, false, .iinc 1 1, 3, 0, (0, 0, 0, 0), 0, []),
  (22, false, .goto (-20), 3, 0, (2, 0, 0, 0), 0, []),
  (25, false, .iload_n 1, 1, 0, (0, 0, 0, 0), 0, []),
  (26, false, .ireturn, 1, 0, (0, 0, 0, 0), 0, [])]
theorem zc_xC_monthOf : zk_xC_monthOf.all (zz_ck zz_inf zM_xC_monthOf) = true ∧ zz_ch zk_xC_monthOf = true := ⟨by decide +kernel, by decide +kernel⟩
noncomputable def xC_monthOf_2 : Nat → Int → Int → zz_S → zz_R
  | 0, _, _, _ => none
  | n + 1, v0, v1, σ => (if v1 < 11 then (if zz_b σ 1 1 (zz_r (v1 + 1)) then (if v0 < (zz_h σ 1 1 (zz_r (v1 + 1))) then (some (v1, σ)) else (xC_monthOf_2 n v0 (zz_r (v1 + 1)) σ)) else none) else (some (v1, σ)))
set_option maxRecDepth 100000 in
set_option maxHeartbeats 4000000 in
theorem ze_xC_monthOf_2 (n : Nat) (v0 v1 : Int) (σ : zz_S) : xC_monthOf_2 (n + 1) v0 v1 σ = zz_ev (zz_CE []) (zz_KE [(2, [(0, 0, false), (1, 0, false)], zz_f2 (xC_monthOf_2 n))]) zk_xC_monthOf 0 false 0 0 400 true (zz_sk zk_xC_monthOf 2) [(0, 0, v0), (1, 0, v1)] [] σ := rfl
theorem zo_xC_monthOf_2 : ∀ n : Nat, zz_okb zM_xC_monthOf 2 [(0, 0, false), (1, 0, false)] (zz_f2 (xC_monthOf_2 n))
  | 0 => fun vs σ r τ h => by
    obtain ⟨v0, v1, rfl, h⟩ := zz_f2_ok h
    exact nomatch (show (none : zz_R) = some (r, τ) from h)
  | n + 1 => by
    have ih := zo_xC_monthOf_2 n
    exact fun vs σ r τ h => by
        obtain ⟨v0, v1, rfl, h⟩ := zz_f2_ok h
        exact zz_from zc_xC_monthOf zz_oc0 (zz_olc ih zz_ol0) ((ze_xC_monthOf_2 n v0 v1 σ).symm.trans h)
noncomputable def xC_monthOf (v0 : Int) (σ : zz_S) : zz_R := (xC_monthOf_2 zz_fu v0 0 σ)
set_option maxRecDepth 100000 in
set_option maxHeartbeats 4000000 in
theorem ze_xC_monthOf (v0 : Int) (σ : zz_S) : xC_monthOf v0 σ = zz_ev (zz_CE []) (zz_KE [(2, [(0, 0, false), (1, 0, false)], zz_f2 (xC_monthOf_2 zz_fu))]) zk_xC_monthOf 0 false 0 0 400 true (zz_sk zk_xC_monthOf 0) [(0, 0, v0)] [] σ := rfl
theorem zo_xC_monthOf : zz_okb zM_xC_monthOf 0 [(0, 0, false)] (zz_f1 xC_monthOf) :=
  fun vs σ r τ h => by
    obtain ⟨v0, rfl, h⟩ := zz_f1_ok h
    exact zz_from zc_xC_monthOf zz_oc0 (zz_olc (zo_xC_monthOf_2 zz_fu) zz_ol0) ((ze_xC_monthOf v0 σ).symm.trans h)
noncomputable def zw_xC_monthOf : List Int → zz_S → zz_R := zz_f1 fun a0 σ => xC_monthOf a0 σ
theorem zo_m_xC_monthOf : zz_okm zz_inf 102 zw_xC_monthOf := fun vs σ r τ h => by
  obtain ⟨a0, rfl, h⟩ := zz_f1_ok h
  exact zz_meth zi_xC_monthOf zy_xC_monthOf (zo_xC_monthOf [a0] σ r τ h)
def zk_xC_dayFits : List zz_E := [(0, false, .aload_n 0, 1, 0, (0, 0, 0, 0), 0, []),
  (1, false, .getfield 24, 3, 257, (8, 3, 0, 0), 0, []),
  (4, false, .iload_n 1, 1, 0, (0, 0, 0, 0), 0, []),
  (5, false, .bipush 7, 2, 0, (0, 0, 0, 0), 0, []),
  (7, false, .irem, 1, 0, (0, 0, 0, 0), 0, []),
  (8, false, .ishr, 1, 0, (0, 0, 0, 0), 0, []),
  (9, false, .iconst 1, 1, 0, (0, 0, 0, 0), 0, []),
  (10, false, .iand, 1, 0, (0, 0, 0, 0), 0, []),
  (11, false, .ifCond .ne 5, 3, 0, (16, 0, 0, 0), 0, []),
  (14, false, .iconst 0, 1, 0, (0, 0, 0, 0), 0, []),
  (15, false, .ireturn, 1, 0, (0, 0, 0, 0), 0, []),
  (16, false, .iload_n 1, 1, 0, (0, 0, 0, 0), 0, []),
  (17, false, .invokestatic 62, 3, 574, (102, 1, 0, 0), 0, [0]),
  (20, false, .istore_n 2, 1, 0, (0, 0, 0, 0), 0, []),
  (21, false, .iload_n 1, 1, 0, (0, 0, 0, 0), 0, []),
  (22, false, .getstatic 66, 3, 577, (1, 0, 0, 0), 0, []),
  (25, false, .iload_n 2, 1, 0, (0, 0, 0, 0), 0, []),
  (26, false, .iaload, 1, 0, (1, 0, 0, 0), 0, []),
  (27, false, .isub, 1, 0, (0, 0, 0, 0), 0, []),
  (28, false, .istore_n 3, 1, 0, (0, 0, 0, 0), 0, []),
  (29, false, .aload_n 0, 1, 0, (0, 0, 0, 0), 0, []),
  (30, false, .getfield 36, 3, 261, (8, 7, 0, 0), 1, []),
  (33, false, .ifCond .eq 18, 3, 0, (51, 0, 0, 0), 0, []),
  (36, false, .iload_n 1, 1, 0, (0, 0, 0, 0), 0, []),
  (37, false, .iconst 1, 1, 0, (0, 0, 0, 0), 0, []),
  (38, false, .iadd, 1, 0, (0, 0, 0, 0), 0, []),
  (39, false, .getstatic 66, 3, 577, (1, 0, 0, 0), 0, []),
  (42, false, .iload_n 2, 1, 0, (0, 0, 0, 0), 0, []),
  (43, false, .iconst 1, 1, 0, (0, 0, 0, 0), 0, []),
  (44, false, .iadd, 1, 0, (0, 0, 0, 0), 0, []),
  (45, false, .iaload, 1, 0, (1, 0, 0, 0), 0, []),
  (46, false, .if_icmp .eq 5, 3, 0, (51, 0, 0, 0), 0, []),
  (49, false, .iconst 0, 1, 0, (0, 0, 0, 0), 0, []),
  (50, false, .ireturn, 1, 0, (0, 0, 0, 0), 0, []),
  (51, true, .aload_n 0, 1, 0, (0, 0, 0, 0), 0, []),
  (52, false, .getfield 33, 3, 260, (8, 6, 0, 0), 0, []),
  (55, false, .iload_n 2, 1, 0, (0, 0, 0, 0), 0, []),
  (56, false, .ishr, 1, 0, (0, 0, 0, 0), 0, []),
  (57, false, .iconst 1, 1, 0, (0, 0, 0, 0), 0, []),
  (58, false, .iand, 1, 0, (0, 0, 0, 0), 0, []),
  (59, false, .ifCond .eq 32, 3, 0, (91, 0, 0, 0), 0, []),
  (62, false, .aload_n 0, 1, 0, (0, 0, 0, 0), 0, []),
  (63, false, .getfield 27, 3, 258, (8, 4, 0, 0), 0, []),
  (66, false, .iload_n 3, 1, 0, (0, 0, 0, 0), 0, []),
  (67, false, .ishr, 1, 0, (0, 0, 0, 0), 0, []),
  (68, false, .iconst 1, 1, 0, (0, 0, 0, 0), 0, []),
  (69, false, .iand, 1, 0, (0, 0, 0, 0), 0, []),
  (70, false, .ifCond .eq 21, 3, 0, (91, 0, 0, 0), 0, []),
  (73, false, .aload_n 0, 1, 0, (0, 0, 0, 0), 0, []),
  (74, false, .getfield 30, 3, 259, (8, 5, 0, 0), 0, []),
  (77, false, .iload_n 3, 1, 0, (0, 0, 0, 0), 0, []),
  (78, false, .bipush 7, 2, 0, (0, 0, 0, 0), 0, []),
  (80, false, .idiv, 1, 0, (0, 0, 0, 0), 0, []),
  (81, false, .ishr, 1, 0, (0, 0, 0, 0), 0, []),
  (82, false, .iconst 1, 1, 0, (0, 0, 0, 0), 0, []),
  (83, false, .iand, 1, 0, (0, 0, 0, 0), 0, []),
  (84, false, .ifCond .eq 7, 3, 0, (91, 0, 0, 0), 0, []),
  (87, false, .iconst 1, 1, 0, (0, 0, 0, 0), 0, []),
  (88, false, .goto 4, 3, 0, (92, 0, 0, 0), 0, []),
  (91, false, .iconst 0, 1, 0, (0, 0, 0, 0), 0, []),
  (92, false, .ireturn, 1, 0, (0, 0, 0, 0), 0, [])]
theorem zc_xC_dayFits : zk_xC_dayFits.all (zz_ck zz_inf zM_xC_dayFits) = true ∧ zz_ch zk_xC_dayFits = true := ⟨by decide +kernel, by decide +kernel⟩
noncomputable def xC_dayFits_51 (v0 v2 v3 : Int) (σ : zz_S) : zz_R := (if v0 = 0 then none else (if (zz_and (zz_shr (zz_h σ 8 v0 6) v2) 1) = 0 then (some (0, σ)) else (if v0 = 0 then none else (if (zz_and (zz_shr (zz_h σ 8 v0 4) v3) 1) = 0 then (some (0, σ)) else (if v0 = 0 then none else (if (zz_and (zz_shr (zz_h σ 8 v0 5) (zz_div v3 7)) 1) = 0 then (some (0, σ)) else (some (1, σ))))))))
set_option maxRecDepth 100000 in
set_option maxHeartbeats 4000000 in
theorem ze_xC_dayFits_51 (v0 v2 v3 : Int) (σ : zz_S) : xC_dayFits_51 v0 v2 v3 σ = zz_ev (zz_CE []) (zz_KE []) zk_xC_dayFits 0 true 0 0 400 true (zz_sk zk_xC_dayFits 51) [(0, 10, v0), (2, 0, v2), (3, 0, v3)] [] σ := rfl
theorem zo_xC_dayFits_51 : zz_okb zM_xC_dayFits 51 [(0, 10, false), (2, 0, false), (3, 0, false)] (zz_f3 xC_dayFits_51) :=
  fun vs σ r τ h => by
    obtain ⟨v0, v2, v3, rfl, h⟩ := zz_f3_ok h
    exact zz_from zc_xC_dayFits zz_oc0 zz_ol0 ((ze_xC_dayFits_51 v0 v2 v3 σ).symm.trans h)
noncomputable def xC_dayFits (v0 v1 : Int) (σ : zz_S) : zz_R := (if v0 = 0 then none else (if (zz_and (zz_shr (zz_h σ 8 v0 3) (zz_rem v1 7)) 1) = 0 then (some (0, σ)) else ((xC_monthOf v1 σ).bind fun q1 => (if zz_b q1.2 1 1 q1.1 then (if v0 = 0 then none else (if (zz_h q1.2 8 v0 7) = 0 then (xC_dayFits_51 v0 q1.1 (zz_r (v1 - (zz_h q1.2 1 1 q1.1))) q1.2) else (if zz_b q1.2 1 1 (zz_r (q1.1 + 1)) then (if (zz_r (v1 + 1)) = (zz_h q1.2 1 1 (zz_r (q1.1 + 1))) then (xC_dayFits_51 v0 q1.1 (zz_r (v1 - (zz_h q1.2 1 1 q1.1))) q1.2) else (some (0, q1.2))) else none))) else none))))
set_option maxRecDepth 100000 in
set_option maxHeartbeats 4000000 in
theorem ze_xC_dayFits (v0 v1 : Int) (σ : zz_S) : xC_dayFits v0 v1 σ = zz_ev (zz_CE [(102, zw_xC_monthOf)]) (zz_KE [(51, [(0, 10, false), (2, 0, false), (3, 0, false)], zz_f3 (xC_dayFits_51))]) zk_xC_dayFits 0 true 0 0 400 true (zz_sk zk_xC_dayFits 0) [(0, 10, v0), (1, 0, v1)] [] σ := rfl
theorem zo_xC_dayFits : zz_okb zM_xC_dayFits 0 [(0, 10, false), (1, 0, false)] (zz_f2 xC_dayFits) :=
  fun vs σ r τ h => by
    obtain ⟨v0, v1, rfl, h⟩ := zz_f2_ok h
    exact zz_from zc_xC_dayFits (zz_occ zo_m_xC_monthOf zz_oc0) (zz_olc (zo_xC_dayFits_51) zz_ol0) ((ze_xC_dayFits v0 v1 σ).symm.trans h)
noncomputable def zw_xC_dayFits : List Int → zz_S → zz_R := zz_f2 fun a0 a1 σ => xC_dayFits a0 a1 σ
theorem zo_m_xC_dayFits : zz_okm zz_inf 100 zw_xC_dayFits := fun vs σ r τ h => by
  obtain ⟨a0, a1, rfl, h⟩ := zz_f2_ok h
  exact zz_meth zi_xC_dayFits zy_xC_dayFits (zo_xC_dayFits [a0, a1] σ r τ h)
def zk_xC_fits : List zz_E := [(0, false, .iload_n 1, 1, 0, (0, 0, 0, 0), 0, []),
  (1, false, .ifCond .lt 35, 3, 0, (36, 0, 0, 0), 0, []),
  (4, false, .aload_n 0, 1, 0, (0, 0, 0, 0), 0, []),
  (5, false, .iload_n 1, 1, 0, (0, 0, 0, 0), 0, []),
  (6, false, .invokevirtual 52, 3, 562, (98, 2, 0, 0), 0, [0, 10]),
  (9, false, .ifCond .eq 27, 3, 0, (36, 0, 0, 0), 0, []),
  (12, false, .aload_n 0, 1, 0, (0, 0, 0, 0), 0, []),
  (13, false, .iload_n 1, 1, 0, (0, 0, 0, 0), 0, []),
  (14, false, .invokevirtual 56, 3, 566, (99, 2, 0, 0), 0, [0, 10]),
  (17, false, .ifCond .eq 19, 3, 0, (36, 0, 0, 0), 0, []),
  (20, false, .aload_n 0, 1, 0, (0, 0, 0, 0), 0, []),
  (21, false, .iload_n 1, 1, 0, (0, 0, 0, 0), 0, []),
  (22, false, .sipush 1440, 3, 0, (0, 0, 0, 0), 0, []),
  (25, false, .idiv, 1, 0, (0, 0, 0, 0), 0, []),
  (26, false, .invokevirtual 59, 3, 570, (100, 2, 0, 0), 0, [0, 10]),
  (29, false, .ifCond .eq 7, 3, 0, (36, 0, 0, 0), 0, []),
  (32, false, .iconst 1, 1, 0, (0, 0, 0, 0), 0, []),
  (33, false, .goto 4, 3, 0, (37, 0, 0, 0), 0, []),
  (36, false, .iconst 0, 1, 0, (0, 0, 0, 0), 0, []),
  (37, false, .ireturn, 1, 0, (0, 0, 0, 0), 0, [])]
theorem zc_xC_fits : zk_xC_fits.all (zz_ck zz_inf zM_xC_fits) = true ∧ zz_ch zk_xC_fits = true := ⟨by decide +kernel, by decide +kernel⟩
noncomputable def xC_fits (v0 v1 : Int) (σ : zz_S) : zz_R := (if v1 < 0 then (some (0, σ)) else (if v0 = 0 then none else ((xC_minuteFits v0 v1 σ).bind fun q1 => (if q1.1 = 0 then (some (0, q1.2)) else (if v0 = 0 then none else ((xC_hourFits v0 v1 q1.2).bind fun q2 => (if q2.1 = 0 then (some (0, q2.2)) else (if v0 = 0 then none else ((xC_dayFits v0 (zz_div v1 1440) q2.2).bind fun q3 => (if q3.1 = 0 then (some (0, q3.2)) else (some (1, q3.2))))))))))))
set_option maxRecDepth 100000 in
set_option maxHeartbeats 4000000 in
theorem ze_xC_fits (v0 v1 : Int) (σ : zz_S) : xC_fits v0 v1 σ = zz_ev (zz_CE [(98, zw_xC_minuteFits), (99, zw_xC_hourFits), (100, zw_xC_dayFits)]) (zz_KE []) zk_xC_fits 0 true 0 0 400 true (zz_sk zk_xC_fits 0) [(0, 10, v0), (1, 0, v1)] [] σ := rfl
theorem zo_xC_fits : zz_okb zM_xC_fits 0 [(0, 10, false), (1, 0, false)] (zz_f2 xC_fits) :=
  fun vs σ r τ h => by
    obtain ⟨v0, v1, rfl, h⟩ := zz_f2_ok h
    exact zz_from zc_xC_fits (zz_occ zo_m_xC_minuteFits (zz_occ zo_m_xC_hourFits (zz_occ zo_m_xC_dayFits zz_oc0))) zz_ol0 ((ze_xC_fits v0 v1 σ).symm.trans h)
noncomputable def zw_xC_fits : List Int → zz_S → zz_R := zz_f2 fun a0 a1 σ => xC_fits a0 a1 σ
theorem zo_m_xC_fits : zz_okm zz_inf 97 zw_xC_fits := fun vs σ r τ h => by
  obtain ⟨a0, a1, rfl, h⟩ := zz_f2_ok h
  exact zz_meth zi_xC_fits zy_xC_fits (zo_xC_fits [a0, a1] σ r τ h)
end
section
def zk_x_isDueByKind : List zz_E := [(0, false, .aload_n 1, 1, 0, (0, 0, 0, 0), 0, []),
  (1, false, .getfield 114, 3, 301, (7, 1, 0, 0), 0, []),
  (4, false, .tableswitch 127 0 3 #[32, 49, 85, 102], 32, 0, (131, 0, 0, 0), 0, [36, 53, 89, 106]),
  (36, false, .aload_n 1, 1, 0, (0, 0, 0, 0), 0, []),
  (37, false, .getfield 292, 3, 303, (7, 2, 0, 0), 0, []),
  (40, false, .aload_n 0, 1, 0, (0, 0, 0, 0), 0, []),
  (41, false, .getfield 78, 3, 179, (3, 16, 0, 0), 0, []),
  (44, false, .if_icmp .ne 7, 3, 0, (51, 0, 0, 0), 0, []),
  (47, false, .iconst 1, 1, 0, (0, 0, 0, 0), 0, []),
  (48, false, .goto 4, 3, 0, (52, 0, 0, 0), 0, []),
  (51, false, .iconst 0, 1, 0, (0, 0, 0, 0), 0, []),
  (52, false, .ireturn, 1, 0, (0, 0, 0, 0), 0, []),
  (53, false, .aload_n 1, 1, 0, (0, 0, 0, 0), 0, []),
  (54, false, .getfield 292, 3, 303, (7, 2, 0, 0), 0, []),
  (57, false, .aload_n 0, 1, 0, (0, 0, 0, 0), 0, []),
  (58, false, .getfield 78, 3, 179, (3, 16, 0, 0), 0, []),
  (61, false, .if_icmp .gt 26, 3, 0, (87, 0, 0, 0), 0, []),
  (64, false, .aload_n 0, 1, 0, (0, 0, 0, 0), 0, []),
  (65, false, .getfield 78, 3, 179, (3, 16, 0, 0), 0, []),
  (68, false, .aload_n 1, 1, 0, (0, 0, 0, 0), 0, []),
  (69, false, .getfield 292, 3, 303, (7, 2, 0, 0), 0, []),
  (72, false, .isub, 1, 0, (0, 0, 0, 0), 0, []),
  (73, false, .aload_n 1, 1, 0, (0, 0, 0, 0), 0, []),
  (74, false, .invokevirtual 295, 3, 550, (91, 1, 0, 0), 0, [9]),
  (77, false, .invokestatic 299, 3, 555, (170, 2, 0, 0), 0, [0, 0]),
  (80, false, .ifCond .ne 7, 3, 0, (87, 0, 0, 0), 0, []),
  (83, false, .iconst 1, 1, 0, (0, 0, 0, 0), 0, []),
  (84, false, .goto 4, 3, 0, (88, 0, 0, 0), 0, []),
  (87, false, .iconst 0, 1, 0, (0, 0, 0, 0), 0, []),
  (88, false, .ireturn, 1, 0, (0, 0, 0, 0), 0, []),
  (89, false, .aload_n 1, 1, 0, (0, 0, 0, 0), 0, []),
  (90, false, .getfield 249, 3, 323, (7, 11, 0, 0), 0, []),
  (93, false, .aload_n 0, 1, 0, (0, 0, 0, 0), 0, []),
  (94, false, .getfield 78, 3, 179, (3, 16, 0, 0), 0, []),
  (97, false, .if_icmp .ne 7, 3, 0, (104, 0, 0, 0), 0, []),
  (100, false, .iconst 1, 1, 0, (0, 0, 0, 0), 0, []),
  (101, false, .goto 4, 3, 0, (105, 0, 0, 0), 0, []),
  (104, false, .iconst 0, 1, 0, (0, 0, 0, 0), 0, []),
  (105, false, .ireturn, 1, 0, (0, 0, 0, 0), 0, []),
  (106, false, .iload_n 2, 1, 0, (0, 0, 0, 0), 0, []),
  (107, false, .aload_n 0, 1, 0, (0, 0, 0, 0), 0, []),
  (108, false, .getfield 84, 3, 181, (3, 18, 0, 0), 0, []),
  (111, false, .if_icmp .le 18, 3, 0, (129, 0, 0, 0), 0, []),
  (114, false, .aload_n 1, 1, 0, (0, 0, 0, 0), 0, []),
  (115, false, .getfield 122, 3, 311, (7, 5, 10, 1), 0, []),
  (118, false, .iload_n 2, 1, 0, (0, 0, 0, 0), 0, []),
  (119, false, .invokevirtual 302, 3, 558, (97, 2, 0, 0), 0, [0, 10]),
  (122, false, .ifCond .eq 7, 3, 0, (129, 0, 0, 0), 0, []),
  (125, false, .iconst 1, 1, 0, (0, 0, 0, 0), 0, []),
  (126, false, .goto 4, 3, 0, (130, 0, 0, 0), 0, []),
  (129, false, .iconst 0, 1, 0, (0, 0, 0, 0), 0, []),
  (130, false, .ireturn, 1, 0, (0, 0, 0, 0), 0, []),
  (131, false, .iconst 0, 1, 0, (0, 0, 0, 0), 0, []),
  (132, false, .ireturn, 1, 0, (0, 0, 0, 0), 0, [])]
theorem zc_x_isDueByKind : zk_x_isDueByKind.all (zz_ck zz_inf zM_x_isDueByKind) = true ∧ zz_ch zk_x_isDueByKind = true := ⟨by decide +kernel, by decide +kernel⟩
noncomputable def x_isDueByKind (v1 v2 : Int) (σ : zz_S) : zz_R := (if v1 = 0 then none else (if (zz_h σ 7 v1 1) = 0 then (if v1 = 0 then none else (if (zz_h σ 7 v1 2) = (zz_h σ 3 1 16) then (some (1, σ)) else (some (0, σ)))) else (if (zz_h σ 7 v1 1) = 1 then (if v1 = 0 then none else (if (zz_h σ 7 v1 2) ≤ (zz_h σ 3 1 16) then (if v1 = 0 then none else (if v1 = 0 then none else ((xT_step v1 σ).bind fun q2 => ((j_floorMod (zz_r ((zz_h σ 3 1 16) - (zz_h σ 7 v1 2))) q2.1 q2.2).bind fun q3 => (if q3.1 = 0 then (some (1, q3.2)) else (some (0, q3.2))))))) else (some (0, σ)))) else (if (zz_h σ 7 v1 1) = 2 then (if v1 = 0 then none else (if (zz_h σ 7 v1 11) = (zz_h σ 3 1 16) then (some (1, σ)) else (some (0, σ)))) else (if (zz_h σ 7 v1 1) = 3 then (if v2 ≤ (zz_h σ 3 1 18) then (some (0, σ)) else (if v1 = 0 then none else (if v1 = 0 then none else ((xC_fits v1 v2 σ).bind fun q1 => (if q1.1 = 0 then (some (0, q1.2)) else (some (1, q1.2))))))) else (some (0, σ)))))))
set_option maxRecDepth 100000 in
set_option maxHeartbeats 4000000 in
theorem ze_x_isDueByKind (v1 v2 : Int) (σ : zz_S) : x_isDueByKind v1 v2 σ = zz_ev (zz_CE [(91, zw_xT_step), (97, zw_xC_fits), (170, zw_j_floorMod)]) (zz_KE []) zk_x_isDueByKind 0 true 0 0 400 true (zz_sk zk_x_isDueByKind 0) [(0, 5, 1), (1, 9, v1), (2, 0, v2)] [] σ := rfl
theorem zo_x_isDueByKind : zz_okb zM_x_isDueByKind 0 [(0, 5, true), (1, 9, false), (2, 0, false)] (zz_f2 x_isDueByKind) :=
  fun vs σ r τ h => by
    obtain ⟨v1, v2, rfl, h⟩ := zz_f2_ok h
    exact zz_from zc_x_isDueByKind (zz_occ zo_m_xT_step (zz_occ zo_m_xC_fits (zz_occ zo_m_j_floorMod zz_oc0))) zz_ol0 ((ze_x_isDueByKind v1 v2 σ).symm.trans h)
noncomputable def zw_x_isDueByKind : List Int → zz_S → zz_R := zz_f3 fun a0 a1 a2 σ => if a0 = 1 then x_isDueByKind a1 a2 σ else none
theorem zo_m_x_isDueByKind : zz_okm zz_inf 35 zw_x_isDueByKind := fun vs σ r τ h => by
  obtain ⟨a0, a1, a2, rfl, h⟩ := zz_f3_ok h
  obtain ⟨e, h⟩ := zz_it h
  subst e
  exact zz_meth zi_x_isDueByKind zy_x_isDueByKind (zo_x_isDueByKind [a1, a2] σ r τ h)
def zk_xT_isFiredFor : List zz_E := [(0, false, .aload_n 0, 1, 0, (0, 0, 0, 0), 0, []),
  (1, false, .getfield 60, 3, 338, (7, 18, 0, 0), 0, []),
  (4, false, .iload_n 1, 1, 0, (0, 0, 0, 0), 0, []),
  (5, false, .if_icmp .eq 11, 3, 0, (16, 0, 0, 0), 0, []),
  (8, false, .aload_n 0, 1, 0, (0, 0, 0, 0), 0, []),
  (9, false, .getfield 63, 3, 339, (7, 19, 0, 0), 0, []),
  (12, false, .iload_n 1, 1, 0, (0, 0, 0, 0), 0, []),
  (13, false, .if_icmp .ne 7, 3, 0, (20, 0, 0, 0), 0, []),
  (16, false, .iconst 1, 1, 0, (0, 0, 0, 0), 0, []),
  (17, false, .goto 4, 3, 0, (21, 0, 0, 0), 0, []),
  (20, false, .iconst 0, 1, 0, (0, 0, 0, 0), 0, []),
  (21, false, .ireturn, 1, 0, (0, 0, 0, 0), 0, [])]
theorem zc_xT_isFiredFor : zk_xT_isFiredFor.all (zz_ck zz_inf zM_xT_isFiredFor) = true ∧ zz_ch zk_xT_isFiredFor = true := ⟨by decide +kernel, by decide +kernel⟩
noncomputable def xT_isFiredFor (v0 v1 : Int) (σ : zz_S) : zz_R := (if v0 = 0 then none else (if (zz_h σ 7 v0 18) = v1 then (some (1, σ)) else (if v0 = 0 then none else (if (zz_h σ 7 v0 19) = v1 then (some (1, σ)) else (some (0, σ))))))
set_option maxRecDepth 100000 in
set_option maxHeartbeats 4000000 in
theorem ze_xT_isFiredFor (v0 v1 : Int) (σ : zz_S) : xT_isFiredFor v0 v1 σ = zz_ev (zz_CE []) (zz_KE []) zk_xT_isFiredFor 0 true 0 0 400 true (zz_sk zk_xT_isFiredFor 0) [(0, 9, v0), (1, 0, v1)] [] σ := rfl
theorem zo_xT_isFiredFor : zz_okb zM_xT_isFiredFor 0 [(0, 9, false), (1, 0, false)] (zz_f2 xT_isFiredFor) :=
  fun vs σ r τ h => by
    obtain ⟨v0, v1, rfl, h⟩ := zz_f2_ok h
    exact zz_from zc_xT_isFiredFor zz_oc0 zz_ol0 ((ze_xT_isFiredFor v0 v1 σ).symm.trans h)
noncomputable def zw_xT_isFiredFor : List Int → zz_S → zz_R := zz_f2 fun a0 a1 σ => xT_isFiredFor a0 a1 σ
theorem zo_m_xT_isFiredFor : zz_okm zz_inf 90 zw_xT_isFiredFor := fun vs σ r τ h => by
  obtain ⟨a0, a1, rfl, h⟩ := zz_f2_ok h
  exact zz_meth zi_xT_isFiredFor zy_xT_isFiredFor (zo_xT_isFiredFor [a0, a1] σ r τ h)
def zk_x_bringDues : List zz_E := [(0, false, .aload_n 0, 1, 0, (0, 0, 0, 0), 0, []),
  (1, false, .getfield 78, 3, 179, (3, 16, 0, 0), 0, []),
  (4, false, .aload_n 0, 1, 0, (0, 0, 0, 0), 0, []),
  (5, false, .getfield 81, 3, 180, (3, 17, 0, 0), 0, []),
  (8, false, .iadd, 1, 0, (0, 0, 0, 0), 0, []),
  (9, false, .istore_n 1, 1, 0, (0, 0, 0, 0), 0, []),
  (10, false, .iconst 0, 1, 0, (0, 0, 0, 0), 0, []),
  (11, false, .istore_n 2, 1, 0, (0, 0, 0, 0), 0, []),
  (12, true, .iload_n 2, 1, 0, (0, 0, 0, 0), 0, []),
  (13, false, .aload_n 0, 1, 0, (0, 0, 0, 0), 0, []),
  (14, false, .getfield 62, 3, 174, (3, 11, 0, 0), 0, []),
  (17, false, .if_icmp .ge 68, 3, 0, (85, 0, 0, 0), 0, []),
  (20, false, .aload_n 0, 1, 0, (0, 0, 0, 0), 0, []),
  (21, false, .iload_n 2, 1, 0, (0, 0, 0, 0), 0, []),
  (22, false, .invokevirtual 100, 3, 385, (73, 2, 9, 0), 0, [0, 5]),
  (25, false, .astore_n 3, 1, 0, (0, 0, 0, 0), 0, []),
  (26, false, .aload_n 3, 1, 0, (0, 0, 0, 0), 0, []),
  (27, false, .invokestatic 273, 3, 515, (74, 1, 0, 0), 0, [9]),
  (30, false, .ifCond .ne 6, 3, 0, (36, 0, 0, 0), 0, []),
  (33, false, .goto 46, 3, 0, (79, 0, 0, 0), 0, []),
  (36, false, .aload_n 0, 1, 0, (0, 0, 0, 0), 0, []),
  (37, false, .aload_n 3, 1, 0, (0, 0, 0, 0), 0, []),
  (38, false, .iload_n 1, 1, 0, (0, 0, 0, 0), 0, []),
  (39, false, .invokevirtual 284, 3, 546, (35, 3, 0, 0), 0, [0, 9, 5]),
  (42, false, .ifCond .eq 21, 3, 0, (63, 0, 0, 0), 0, []),
  (45, false, .aload_n 3, 1, 0, (0, 0, 0, 0), 0, []),
  (46, false, .getfield 114, 3, 301, (7, 1, 0, 0), 0, []),
  (49, false, .iconst 2, 1, 0, (0, 0, 0, 0), 0, []),
  (50, false, .if_icmp .ne 8, 3, 0, (58, 0, 0, 0), 0, []),
  (53, false, .aload_n 3, 1, 0, (0, 0, 0, 0), 0, []),
  (54, false, .iconst (-1), 1, 0, (0, 0, 0, 0), 0, []),
  (55, false, .putfield 249, 3, 323, (7, 11, 0, 0), 0, []),
  (58, false, .aload_n 0, 1, 0, (0, 0, 0, 0), 0, []),
  (59, false, .aload_n 3, 1, 0, (0, 0, 0, 0), 0, []),
  (60, false, .invokevirtual 280, 3, 522, (36, 2, 999, 0), 0, [9, 5]),
  (63, true, .aload_n 3, 1, 0, (0, 0, 0, 0), 0, []),
  (64, false, .aload_n 0, 1, 0, (0, 0, 0, 0), 0, []),
  (65, false, .getfield 78, 3, 179, (3, 16, 0, 0), 0, []),
  (68, false, .invokevirtual 288, 3, 579, (90, 2, 0, 0), 0, [0, 9]),
  (71, false, .ifCond .eq 8, 3, 0, (79, 0, 0, 0), 0, []),
  (74, false, .aload_n 0, 1, 0, (0, 0, 0, 0), 0, []),
  (75, false, .aload_n 3, 1, 0, (0, 0, 0, 0), 0, []),
  (76, false, .invokevirtual 280, 3, 522, (36, 2, 999, 0), 0, [9, 5]),
  (79, false, .iinc 2 1, 3, 0, (0, 0, 0, 0), 0, []),
  (82, false, .goto (-70), 3, 0, (12, 0, 0, 0), 0, []),
  (85, false, .aload_n 0, 1, 0, (0, 0, 0, 0), 0, []),
  (86, false, .aload_n 0, 1, 0, (0, 0, 0, 0), 0, []),
  (87, false, .getfield 84, 3, 181, (3, 18, 0, 0), 0, []),
  (90, false, .iload_n 1, 1, 0, (0, 0, 0, 0), 0, []),
  (91, false, .invokestatic 258, 3, 510, (168, 2, 0, 0), 0, [0, 0]),
  (94, false, .putfield 84, 3, 181, (3, 18, 0, 0), 0, []),
  (97, false, .return_, 1, 0, (0, 0, 0, 0), 0, [])]
theorem zc_x_bringDues : zk_x_bringDues.all (zz_ck zz_inf zM_x_bringDues) = true ∧ zz_ch zk_x_bringDues = true := ⟨by decide +kernel, by decide +kernel⟩
noncomputable def x_bringDues_63 (k12 : Int → Int → zz_S → zz_R) (v1 v2 v3 : Int) (σ : zz_S) : zz_R := (if v3 = 0 then none else ((xT_isFiredFor v3 (zz_h σ 3 1 16) σ).bind fun q1 => (if q1.1 = 0 then (k12 v1 (zz_r (v2 + 1)) q1.2) else ((x_comeDue v3 q1.2).bind fun q2 => (k12 v1 (zz_r (v2 + 1)) q2.2)))))
set_option maxRecDepth 100000 in
set_option maxHeartbeats 4000000 in
theorem ze_x_bringDues_63 (k12 : Int → Int → zz_S → zz_R) (v1 v2 v3 : Int) (σ : zz_S) : x_bringDues_63 k12 v1 v2 v3 σ = zz_ev (zz_CE [(36, zw_x_comeDue), (90, zw_xT_isFiredFor)]) (zz_KE [(12, [(0, 5, true), (1, 0, false), (2, 0, false)], zz_f2 k12)]) zk_x_bringDues 999 false 0 0 400 true (zz_sk zk_x_bringDues 63) [(0, 5, 1), (1, 0, v1), (2, 0, v2), (3, 9, v3)] [] σ := rfl
theorem zo_x_bringDues_63 (k12 : Int → Int → zz_S → zz_R) (hk12 : zz_okb zM_x_bringDues 12 [(0, 5, true), (1, 0, false), (2, 0, false)] (zz_f2 k12)) : zz_okb zM_x_bringDues 63 [(0, 5, true), (1, 0, false), (2, 0, false), (3, 9, false)] (zz_f3 (x_bringDues_63 k12)) :=
  fun vs σ r τ h => by
    obtain ⟨v1, v2, v3, rfl, h⟩ := zz_f3_ok h
    exact zz_from zc_x_bringDues (zz_occ zo_m_x_comeDue (zz_occ zo_m_xT_isFiredFor zz_oc0)) (zz_olc hk12 zz_ol0) ((ze_x_bringDues_63 k12 v1 v2 v3 σ).symm.trans h)
noncomputable def x_bringDues_12 : Nat → Int → Int → zz_S → zz_R
  | 0, _, _, _ => none
  | n + 1, v1, v2, σ => (if v2 < (zz_h σ 3 1 11) then ((x_taskAt v2 σ).bind fun q1 => ((x_isActive q1.1 q1.2).bind fun q2 => (if q2.1 = 0 then (x_bringDues_12 n v1 (zz_r (v2 + 1)) q2.2) else ((x_isDueByKind q1.1 v1 q2.2).bind fun q3 => (if q3.1 = 0 then (x_bringDues_63 (x_bringDues_12 n) v1 v2 q1.1 q3.2) else (if q1.1 = 0 then none else (if (zz_h q3.2 7 q1.1 1) = 2 then (if q1.1 = 0 then none else (let s4 := zz_w q3.2 7 q1.1 11 (-1); ((x_comeDue q1.1 s4).bind fun q5 => (x_bringDues_63 (x_bringDues_12 n) v1 v2 q1.1 q5.2)))) else ((x_comeDue q1.1 q3.2).bind fun q6 => (x_bringDues_63 (x_bringDues_12 n) v1 v2 q1.1 q6.2))))))))) else ((j_max (zz_h σ 3 1 18) v1 σ).bind fun q7 => (let s8 := zz_w q7.2 3 1 18 q7.1; (some (0, s8)))))
set_option maxRecDepth 100000 in
set_option maxHeartbeats 4000000 in
theorem ze_x_bringDues_12 (n : Nat) (v1 v2 : Int) (σ : zz_S) : x_bringDues_12 (n + 1) v1 v2 σ = zz_ev (zz_CE [(35, zw_x_isDueByKind), (36, zw_x_comeDue), (73, zw_x_taskAt), (74, zw_x_isActive), (168, zw_j_max)]) (zz_KE [(12, [(0, 5, true), (1, 0, false), (2, 0, false)], zz_f2 (x_bringDues_12 n)), (63, [(0, 5, true), (1, 0, false), (2, 0, false), (3, 9, false)], zz_f3 (x_bringDues_63 (x_bringDues_12 n)))]) zk_x_bringDues 999 false 0 0 400 true (zz_sk zk_x_bringDues 12) [(0, 5, 1), (1, 0, v1), (2, 0, v2)] [] σ := rfl
theorem zo_x_bringDues_12 : ∀ n : Nat, zz_okb zM_x_bringDues 12 [(0, 5, true), (1, 0, false), (2, 0, false)] (zz_f2 (x_bringDues_12 n))
  | 0 => fun vs σ r τ h => by
    obtain ⟨v1, v2, rfl, h⟩ := zz_f2_ok h
    exact nomatch (show (none : zz_R) = some (r, τ) from h)
  | n + 1 => by
    have ih := zo_x_bringDues_12 n
    exact fun vs σ r τ h => by
        obtain ⟨v1, v2, rfl, h⟩ := zz_f2_ok h
        exact zz_from zc_x_bringDues (zz_occ zo_m_x_isDueByKind (zz_occ zo_m_x_comeDue (zz_occ zo_m_x_taskAt (zz_occ zo_m_x_isActive (zz_occ zo_m_j_max zz_oc0))))) (zz_olc ih (zz_olc (zo_x_bringDues_63 (x_bringDues_12 n) ih) zz_ol0)) ((ze_x_bringDues_12 n v1 v2 σ).symm.trans h)
noncomputable def x_bringDues (σ : zz_S) : zz_R := (x_bringDues_12 zz_fu (zz_r ((zz_h σ 3 1 16) + (zz_h σ 3 1 17))) 0 σ)
set_option maxRecDepth 100000 in
set_option maxHeartbeats 4000000 in
theorem ze_x_bringDues (σ : zz_S) : x_bringDues σ = zz_ev (zz_CE []) (zz_KE [(12, [(0, 5, true), (1, 0, false), (2, 0, false)], zz_f2 (x_bringDues_12 zz_fu))]) zk_x_bringDues 999 false 0 0 400 true (zz_sk zk_x_bringDues 0) [(0, 5, 1)] [] σ := rfl
theorem zo_x_bringDues : zz_okb zM_x_bringDues 0 [(0, 5, true)] (zz_f0 x_bringDues) :=
  fun vs σ r τ h => by
    obtain ⟨rfl, h⟩ := zz_f0_ok h
    exact zz_from zc_x_bringDues zz_oc0 (zz_olc (zo_x_bringDues_12 zz_fu) zz_ol0) ((ze_x_bringDues σ).symm.trans h)
noncomputable def zw_x_bringDues : List Int → zz_S → zz_R := zz_f1 fun a0 σ => if a0 = 1 then x_bringDues σ else none
theorem zo_m_x_bringDues : zz_okm zz_inf 34 zw_x_bringDues := fun vs σ r τ h => by
  obtain ⟨a0, rfl, h⟩ := zz_f1_ok h
  obtain ⟨e, h⟩ := zz_it h
  subst e
  exact zz_meth zi_x_bringDues zy_x_bringDues (zo_x_bringDues [] σ r τ h)
def zk_x_isMissed : List zz_E := [(0, false, .aload_n 0, 1, 0, (0, 0, 0, 0), 0, []),
  (1, false, .getfield 27, 3, 166, (3, 3, 6, 1), 0, []),
  (4, false, .getfield 331, 3, 106, (4, 2, 23, 1), 0, []),
  (7, false, .iload_n 2, 1, 0, (0, 0, 0, 0), 0, []),
  (8, false, .baload, 1, 0, (21, 0, 0, 0), 0, []),
  (9, false, .ifCond .ne 30, 3, 0, (39, 0, 0, 0), 0, []),
  (12, false, .aload_n 0, 1, 0, (0, 0, 0, 0), 0, []),
  (13, false, .getfield 78, 3, 179, (3, 16, 0, 0), 0, []),
  (16, false, .aload_n 0, 1, 0, (0, 0, 0, 0), 0, []),
  (17, false, .getfield 27, 3, 166, (3, 3, 6, 1), 0, []),
  (20, false, .getfield 334, 3, 104, (4, 1, 22, 1), 0, []),
  (23, false, .iload_n 2, 1, 0, (0, 0, 0, 0), 0, []),
  (24, false, .iaload, 1, 0, (20, 0, 0, 0), 0, []),
  (25, false, .isub, 1, 0, (0, 0, 0, 0), 0, []),
  (26, false, .aload_n 1, 1, 0, (0, 0, 0, 0), 0, []),
  (27, false, .getfield 111, 3, 308, (7, 4, 30, 1), 0, []),
  (30, false, .iconst 0, 1, 0, (0, 0, 0, 0), 0, []),
  (31, false, .iaload, 1, 0, (28, 0, 0, 0), 0, []),
  (32, false, .if_icmp .le 7, 3, 0, (39, 0, 0, 0), 0, []),
  (35, false, .iconst 1, 1, 0, (0, 0, 0, 0), 0, []),
  (36, false, .goto 4, 3, 0, (40, 0, 0, 0), 0, []),
  (39, false, .iconst 0, 1, 0, (0, 0, 0, 0), 0, []),
  (40, false, .ireturn, 1, 0, (0, 0, 0, 0), 0, [])]
theorem zc_x_isMissed : zk_x_isMissed.all (zz_ck zz_inf zM_x_isMissed) = true ∧ zz_ch zk_x_isMissed = true := ⟨by decide +kernel, by decide +kernel⟩
noncomputable def x_isMissed (v1 v2 : Int) (σ : zz_S) : zz_R := (if zz_b σ 21 1 v2 then (if (zz_h σ 21 1 v2) = 0 then (if zz_b σ 20 1 v2 then (if v1 = 0 then none else (if v1 = 0 then none else (if zz_b σ 28 v1 0 then (if (zz_r ((zz_h σ 3 1 16) - (zz_h σ 20 1 v2))) ≤ (zz_h σ 28 v1 0) then (some (0, σ)) else (some (1, σ))) else none))) else none) else (some (0, σ))) else none)
set_option maxRecDepth 100000 in
set_option maxHeartbeats 4000000 in
theorem ze_x_isMissed (v1 v2 : Int) (σ : zz_S) : x_isMissed v1 v2 σ = zz_ev (zz_CE []) (zz_KE []) zk_x_isMissed 0 true 0 0 400 true (zz_sk zk_x_isMissed 0) [(0, 5, 1), (1, 9, v1), (2, 0, v2)] [] σ := rfl
theorem zo_x_isMissed : zz_okb zM_x_isMissed 0 [(0, 5, true), (1, 9, false), (2, 0, false)] (zz_f2 x_isMissed) :=
  fun vs σ r τ h => by
    obtain ⟨v1, v2, rfl, h⟩ := zz_f2_ok h
    exact zz_from zc_x_isMissed zz_oc0 zz_ol0 ((ze_x_isMissed v1 v2 σ).symm.trans h)
noncomputable def zw_x_isMissed : List Int → zz_S → zz_R := zz_f3 fun a0 a1 a2 σ => if a0 = 1 then x_isMissed a1 a2 σ else none
theorem zo_m_x_isMissed : zz_okm zz_inf 40 zw_x_isMissed := fun vs σ r τ h => by
  obtain ⟨a0, a1, a2, rfl, h⟩ := zz_f3_ok h
  obtain ⟨e, h⟩ := zz_it h
  subst e
  exact zz_meth zi_x_isMissed zy_x_isMissed (zo_x_isMissed [a1, a2] σ r τ h)
def zk_xD_remove : List zz_E := [(0, false, .iload_n 1, 1, 0, (0, 0, 0, 0), 0, []),
  (1, false, .iconst 0, 1, 0, (0, 0, 0, 0), 0, []),
  (2, false, .aload_n 0, 1, 0, (0, 0, 0, 0), 0, []),
  (3, false, .getfield 25, 3, 107, (4, 3, 0, 0), 0, []),
  (6, false, .iconst 1, 1, 0, (0, 0, 0, 0), 0, []),
  (7, false, .isub, 1, 0, (0, 0, 0, 0), 0, []),
  (8, false, .invokestatic 32, 3, 599, (72, 3, 0, 1), 0, [0, 0, 0]),
  (11, false, .ifCond .ne 4, 3, 0, (15, 0, 0, 0), 0, []),
  (14, false, .return_, 1, 0, (0, 0, 0, 0), 0, []),
  (15, false, .aload_n 0, 1, 0, (0, 0, 0, 0), 0, []),
  (16, false, .getfield 11, 3, 101, (4, 0, 21, 1), 0, []),
  (19, false, .iload_n 1, 1, 0, (0, 0, 0, 0), 0, []),
  (20, false, .aaload, 1, 0, (19, 0, 9, 0), 0, []),
  (21, false, .astore_n 2, 1, 0, (0, 0, 0, 0), 0, []),
  (22, false, .aload_n 2, 1, 0, (0, 0, 0, 0), 0, []),
  (23, false, .ifnull 13, 3, 0, (36, 0, 0, 0), 0, []),
  (26, false, .aload_n 2, 1, 0, (0, 0, 0, 0), 0, []),
  (27, false, .dup, 1, 0, (0, 0, 0, 0), 0, []),
  (28, false, .getfield 29, 3, 334, (7, 16, 0, 0), 0, []),
  (31, false, .iconst 1, 1, 0, (0, 0, 0, 0), 0, []),
  (32, false, .isub, 1, 0, (0, 0, 0, 0), 0, []),
  (33, false, .putfield 29, 3, 334, (7, 16, 0, 0), 0, []),
  (36, false, .iload_n 1, 1, 0, (0, 0, 0, 0), 0, []),
  (37, false, .iconst 1, 1, 0, (0, 0, 0, 0), 0, []),
  (38, false, .iadd, 1, 0, (0, 0, 0, 0), 0, []),
  (39, false, .istore_n 3, 1, 0, (0, 0, 0, 0), 0, []),
  (40, true, .iload_n 3, 1, 0, (0, 0, 0, 0), 0, []),
  (41, false, .aload_n 0, 1, 0, (0, 0, 0, 0), 0, []),
  (42, false, .getfield 25, 3, 107, (4, 3, 0, 0), 0, []),
  (45, false, .if_icmp .ge 51, 3, 0, (96, 0, 0, 0), 0, []),
  (48, false, .aload_n 0, 1, 0, (0, 0, 0, 0), 0, []),
  (49, false, .getfield 11, 3, 101, (4, 0, 21, 1), 0, []),
  (52, false, .iload_n 3, 1, 0, (0, 0, 0, 0), 0, []),
  (53, false, .iconst 1, 1, 0, (0, 0, 0, 0), 0, []),
  (54, false, .isub, 1, 0, (0, 0, 0, 0), 0, []),
  (55, false, .aload_n 0, 1, 0, (0, 0, 0, 0), 0, []),
  (56, false, .getfield 11, 3, 101, (4, 0, 21, 1), 0, []),
  (59, false, .iload_n 3, 1, 0, (0, 0, 0, 0), 0, []),
  (60, false, .aaload, 1, 0, (19, 0, 9, 0), 0, []),
  (61, false, .aastore, 1, 0, (19, 0, 9, 0), 0, []),
  (62, false, .aload_n 0, 1, 0, (0, 0, 0, 0), 0, []),
  (63, false, .getfield 17, 3, 103, (4, 1, 22, 1), 0, []),
  (66, false, .iload_n 3, 1, 0, (0, 0, 0, 0), 0, []),
  (67, false, .iconst 1, 1, 0, (0, 0, 0, 0), 0, []),
  (68, false, .isub, 1, 0, (0, 0, 0, 0), 0, []),
  (69, false, .aload_n 0, 1, 0, (0, 0, 0, 0), 0, []),
  (70, false, .getfield 17, 3, 103, (4, 1, 22, 1), 0, []),
  (73, false, .iload_n 3, 1, 0, (0, 0, 0, 0), 0, []),
  (74, false, .iaload, 1, 0, (20, 0, 0, 0), 0, []),
  (75, false, .iastore, 1, 0, (20, 0, 0, 0), 0, []),
  (76, false, .aload_n 0, 1, 0, (0, 0, 0, 0), 0, []),
  (77, false, .getfield 21, 3, 105, (4, 2, 23, 1), 0, []),
  (80, false, .iload_n 3, 1, 0, (0, 0, 0, 0), 0, []),
  (81, false, .iconst 1, 1, 0, (0, 0, 0, 0), 0, []),
  (82, false, .isub, 1, 0, (0, 0, 0, 0), 0, []),
  (83, false, .aload_n 0, 1, 0, (0, 0, 0, 0), 0, []),
  (84, false, .getfield 21, 3, 105, (4, 2, 23, 1), 0, []),
  (87, false, .iload_n 3, 1, 0, (0, 0, 0, 0), 0, []),
  (88, false, .baload, 1, 0, (21, 0, 0, 0), 0, []),
  (89, false, .bastore, 1, 0, (21, 0, 0, 0), 0, []),
  (90, false, .iinc 3 1, 3, 0, (0, 0, 0, 0), 0, []),
  (93, false, .goto (-53), 3, 0, (40, 0, 0, 0), 0, []),
  (96, false, .aload_n 0, 1, 0, (0, 0, 0, 0), 0, []),
  (97, false, .dup, 1, 0, (0, 0, 0, 0), 0, []),
  (98, false, .getfield 25, 3, 107, (4, 3, 0, 0), 0, []),
  (101, false, .iconst 1, 1, 0, (0, 0, 0, 0), 0, []),
  (102, false, .isub, 1, 0, (0, 0, 0, 0), 0, []),
  (103, false, .putfield 25, 3, 107, (4, 3, 0, 0), 0, []),
  (106, false, .return_, 1, 0, (0, 0, 0, 0), 0, [])]
theorem zc_xD_remove : zk_xD_remove.all (zz_ck zz_inf zM_xD_remove) = true ∧ zz_ch zk_xD_remove = true := ⟨by decide +kernel, by decide +kernel⟩
noncomputable def xD_remove_40 : Nat → Int → zz_S → zz_R
  | 0, _, _ => none
  | n + 1, v3, σ => (if v3 < (zz_h σ 4 1 3) then (if zz_b σ 19 1 v3 then (if zz_b σ 19 1 (zz_r (v3 - 1)) then (if (zz_h σ 19 1 v3) = 0 then none else (let s1 := zz_w σ 19 1 (zz_r (v3 - 1)) (zz_h σ 19 1 v3); (if zz_b s1 20 1 v3 then (if zz_b s1 20 1 (zz_r (v3 - 1)) then (let s2 := zz_w s1 20 1 (zz_r (v3 - 1)) (zz_h s1 20 1 v3); (if zz_b s2 21 1 v3 then (if zz_b s2 21 1 (zz_r (v3 - 1)) then (if zz_o (zz_h s2 21 1 v3) then (let s3 := zz_w s2 21 1 (zz_r (v3 - 1)) (zz_h s2 21 1 v3); (xD_remove_40 n (zz_r (v3 + 1)) s3)) else none) else none) else none)) else none) else none))) else none) else none) else (let s4 := zz_w σ 4 1 3 (zz_r ((zz_h σ 4 1 3) - 1)); (some (0, s4))))
set_option maxRecDepth 100000 in
set_option maxHeartbeats 4000000 in
theorem ze_xD_remove_40 (n : Nat) (v3 : Int) (σ : zz_S) : xD_remove_40 (n + 1) v3 σ = zz_ev (zz_CE []) (zz_KE [(40, [(0, 6, true), (3, 0, false)], zz_f1 (xD_remove_40 n))]) zk_xD_remove 999 false 0 0 400 true (zz_sk zk_xD_remove 40) [(0, 6, 1), (3, 0, v3)] [] σ := rfl
theorem zo_xD_remove_40 : ∀ n : Nat, zz_okb zM_xD_remove 40 [(0, 6, true), (3, 0, false)] (zz_f1 (xD_remove_40 n))
  | 0 => fun vs σ r τ h => by
    obtain ⟨v3, rfl, h⟩ := zz_f1_ok h
    exact nomatch (show (none : zz_R) = some (r, τ) from h)
  | n + 1 => by
    have ih := zo_xD_remove_40 n
    exact fun vs σ r τ h => by
        obtain ⟨v3, rfl, h⟩ := zz_f1_ok h
        exact zz_from zc_xD_remove zz_oc0 (zz_olc ih zz_ol0) ((ze_xD_remove_40 n v3 σ).symm.trans h)
noncomputable def xD_remove (v1 : Int) (σ : zz_S) : zz_R := ((x_isWithin v1 0 (zz_r ((zz_h σ 4 1 3) - 1)) σ).bind fun q1 => (if q1.1 = 0 then (some (0, q1.2)) else (if zz_b q1.2 19 1 v1 then (if (zz_h q1.2 19 1 v1) = 0 then (xD_remove_40 zz_fu (zz_r (v1 + 1)) q1.2) else (if (zz_h q1.2 19 1 v1) = 0 then none else (if (zz_h q1.2 19 1 v1) = 0 then none else (let s2 := zz_w q1.2 7 (zz_h q1.2 19 1 v1) 16 (zz_r ((zz_h q1.2 7 (zz_h q1.2 19 1 v1) 16) - 1)); (xD_remove_40 zz_fu (zz_r (v1 + 1)) s2))))) else none)))
set_option maxRecDepth 100000 in
set_option maxHeartbeats 4000000 in
theorem ze_xD_remove (v1 : Int) (σ : zz_S) : xD_remove v1 σ = zz_ev (zz_CE [(72, zw_x_isWithin)]) (zz_KE [(40, [(0, 6, true), (3, 0, false)], zz_f1 (xD_remove_40 zz_fu))]) zk_xD_remove 999 false 0 0 400 true (zz_sk zk_xD_remove 0) [(0, 6, 1), (1, 0, v1)] [] σ := rfl
theorem zo_xD_remove : zz_okb zM_xD_remove 0 [(0, 6, true), (1, 0, false)] (zz_f1 xD_remove) :=
  fun vs σ r τ h => by
    obtain ⟨v1, rfl, h⟩ := zz_f1_ok h
    exact zz_from zc_xD_remove (zz_occ zo_m_x_isWithin zz_oc0) (zz_olc (zo_xD_remove_40 zz_fu) zz_ol0) ((ze_xD_remove v1 σ).symm.trans h)
noncomputable def zw_xD_remove : List Int → zz_S → zz_R := zz_f2 fun a0 a1 σ => if a0 = 1 then xD_remove a1 σ else none
theorem zo_m_xD_remove : zz_okm zz_inf 77 zw_xD_remove := fun vs σ r τ h => by
  obtain ⟨a0, a1, rfl, h⟩ := zz_f2_ok h
  obtain ⟨e, h⟩ := zz_it h
  subst e
  exact zz_meth zi_xD_remove zy_xD_remove (zo_xD_remove [a1] σ r τ h)
def zk_x_missDue : List zz_E := [(0, false, .aload_n 1, 1, 0, (0, 0, 0, 0), 0, []),
  (1, false, .getfield 111, 3, 308, (7, 4, 30, 1), 0, []),
  (4, false, .iconst 4, 1, 0, (0, 0, 0, 0), 0, []),
  (5, false, .iaload, 1, 0, (28, 0, 0, 0), 0, []),
  (6, false, .istore_n 3, 1, 0, (0, 0, 0, 0), 0, []),
  (7, false, .iload_n 3, 1, 0, (0, 0, 0, 0), 0, []),
  (8, false, .iconst 2, 1, 0, (0, 0, 0, 0), 0, []),
  (9, false, .if_icmp .eq 16, 3, 0, (25, 0, 0, 0), 0, []),
  (12, false, .iload_n 3, 1, 0, (0, 0, 0, 0), 0, []),
  (13, false, .iconst 1, 1, 0, (0, 0, 0, 0), 0, []),
  (14, false, .if_icmp .ne 46, 3, 0, (60, 0, 0, 0), 0, []),
  (17, false, .aload_n 1, 1, 0, (0, 0, 0, 0), 0, []),
  (18, false, .getfield 337, 3, 335, (7, 16, 0, 0), 0, []),
  (21, false, .iconst 2, 1, 0, (0, 0, 0, 0), 0, []),
  (22, false, .if_icmp .ge 38, 3, 0, (60, 0, 0, 0), 0, []),
  (25, true, .aload_n 0, 1, 0, (0, 0, 0, 0), 0, []),
  (26, false, .getfield 27, 3, 166, (3, 3, 6, 1), 0, []),
  (29, false, .getfield 331, 3, 106, (4, 2, 23, 1), 0, []),
  (32, false, .iload_n 2, 1, 0, (0, 0, 0, 0), 0, []),
  (33, false, .iconst 1, 1, 0, (0, 0, 0, 0), 0, []),
  (34, false, .bastore, 1, 0, (21, 0, 0, 0), 0, []),
  (35, false, .aload_n 0, 1, 0, (0, 0, 0, 0), 0, []),
  (36, false, .getfield 34, 3, 167, (3, 4, 7, 1), 0, []),
  (39, false, .aload_n 1, 1, 0, (0, 0, 0, 0), 0, []),
  (40, false, .getfield 162, 3, 299, (7, 0, 0, 0), 0, []),
  (43, false, .aload_n 0, 1, 0, (0, 0, 0, 0), 0, []),
  (44, false, .getfield 27, 3, 166, (3, 3, 6, 1), 0, []),
  (47, false, .getfield 334, 3, 104, (4, 1, 22, 1), 0, []),
  (50, false, .iload_n 2, 1, 0, (0, 0, 0, 0), 0, []),
  (51, false, .iaload, 1, 0, (20, 0, 0, 0), 0, []),
  (52, false, .iconst 2, 1, 0, (0, 0, 0, 0), 0, []),
  (53, false, .invokevirtual 314, 3, 534, (82, 4, 999, 0), 0, [0, 0, 0, 7]),
  (56, false, .iload_n 2, 1, 0, (0, 0, 0, 0), 0, []),
  (57, false, .iconst 1, 1, 0, (0, 0, 0, 0), 0, []),
  (58, false, .iadd, 1, 0, (0, 0, 0, 0), 0, []),
  (59, false, .ireturn, 1, 0, (0, 0, 0, 0), 0, []),
  (60, true, .aload_n 0, 1, 0, (0, 0, 0, 0), 0, []),
  (61, false, .getfield 34, 3, 167, (3, 4, 7, 1), 0, []),
  (64, false, .aload_n 1, 1, 0, (0, 0, 0, 0), 0, []),
  (65, false, .getfield 162, 3, 299, (7, 0, 0, 0), 0, []),
  (68, false, .aload_n 0, 1, 0, (0, 0, 0, 0), 0, []),
  (69, false, .getfield 27, 3, 166, (3, 3, 6, 1), 0, []),
  (72, false, .getfield 334, 3, 104, (4, 1, 22, 1), 0, []),
  (75, false, .iload_n 2, 1, 0, (0, 0, 0, 0), 0, []),
  (76, false, .iaload, 1, 0, (20, 0, 0, 0), 0, []),
  (77, false, .iload_n 3, 1, 0, (0, 0, 0, 0), 0, []),
  (78, false, .invokevirtual 314, 3, 534, (82, 4, 999, 0), 0, [0, 0, 0, 7]),
  (81, false, .aload_n 0, 1, 0, (0, 0, 0, 0), 0, []),
  (82, false, .getfield 27, 3, 166, (3, 3, 6, 1), 0, []),
  (85, false, .iload_n 2, 1, 0, (0, 0, 0, 0), 0, []),
  (86, false, .invokevirtual 340, 3, 595, (77, 2, 999, 0), 0, [0, 6]),
  (89, false, .aload_n 0, 1, 0, (0, 0, 0, 0), 0, []),
  (90, false, .aload_n 1, 1, 0, (0, 0, 0, 0), 0, []),
  (91, false, .invokevirtual 315, 3, 538, (38, 2, 999, 0), 0, [9, 5]),
  (94, false, .iload_n 2, 1, 0, (0, 0, 0, 0), 0, []),
  (95, false, .ireturn, 1, 0, (0, 0, 0, 0), 0, [])]
theorem zc_x_missDue : zk_x_missDue.all (zz_ck zz_inf zM_x_missDue) = true ∧ zz_ch zk_x_missDue = true := ⟨by decide +kernel, by decide +kernel⟩
noncomputable def x_missDue_60 (v1 v2 v3 : Int) (σ : zz_S) : zz_R := (if v1 = 0 then none else (if zz_b σ 20 1 v2 then ((xB_add (zz_h σ 7 v1 0) (zz_h σ 20 1 v2) v3 σ).bind fun q1 => ((xD_remove v2 q1.2).bind fun q2 => ((x_pauseAgain v1 q2.2).bind fun q3 => (some (v2, q3.2))))) else none))
set_option maxRecDepth 100000 in
set_option maxHeartbeats 4000000 in
theorem ze_x_missDue_60 (v1 v2 v3 : Int) (σ : zz_S) : x_missDue_60 v1 v2 v3 σ = zz_ev (zz_CE [(38, zw_x_pauseAgain), (77, zw_xD_remove), (82, zw_xB_add)]) (zz_KE []) zk_x_missDue 0 false 0 0 400 true (zz_sk zk_x_missDue 60) [(0, 5, 1), (1, 9, v1), (2, 0, v2), (3, 0, v3)] [] σ := rfl
theorem zo_x_missDue_60 : zz_okb zM_x_missDue 60 [(0, 5, true), (1, 9, false), (2, 0, false), (3, 0, false)] (zz_f3 x_missDue_60) :=
  fun vs σ r τ h => by
    obtain ⟨v1, v2, v3, rfl, h⟩ := zz_f3_ok h
    exact zz_from zc_x_missDue (zz_occ zo_m_x_pauseAgain (zz_occ zo_m_xD_remove (zz_occ zo_m_xB_add zz_oc0))) zz_ol0 ((ze_x_missDue_60 v1 v2 v3 σ).symm.trans h)
noncomputable def x_missDue_25 (v1 v2 : Int) (σ : zz_S) : zz_R := (if zz_b σ 21 1 v2 then (let s1 := zz_w σ 21 1 v2 1; (if v1 = 0 then none else (if zz_b s1 20 1 v2 then ((xB_add (zz_h s1 7 v1 0) (zz_h s1 20 1 v2) 2 s1).bind fun q2 => (some ((zz_r (v2 + 1)), q2.2))) else none))) else none)
set_option maxRecDepth 100000 in
set_option maxHeartbeats 4000000 in
theorem ze_x_missDue_25 (v1 v2 : Int) (σ : zz_S) : x_missDue_25 v1 v2 σ = zz_ev (zz_CE [(82, zw_xB_add)]) (zz_KE []) zk_x_missDue 0 false 0 0 400 true (zz_sk zk_x_missDue 25) [(0, 5, 1), (1, 9, v1), (2, 0, v2)] [] σ := rfl
theorem zo_x_missDue_25 : zz_okb zM_x_missDue 25 [(0, 5, true), (1, 9, false), (2, 0, false)] (zz_f2 x_missDue_25) :=
  fun vs σ r τ h => by
    obtain ⟨v1, v2, rfl, h⟩ := zz_f2_ok h
    exact zz_from zc_x_missDue (zz_occ zo_m_xB_add zz_oc0) zz_ol0 ((ze_x_missDue_25 v1 v2 σ).symm.trans h)
noncomputable def x_missDue (v1 v2 : Int) (σ : zz_S) : zz_R := (if v1 = 0 then none else (if v1 = 0 then none else (if zz_b σ 28 v1 4 then (if (zz_h σ 28 v1 4) = 2 then (x_missDue_25 v1 v2 σ) else (if (zz_h σ 28 v1 4) = 1 then (if v1 = 0 then none else (if (zz_h σ 7 v1 16) < 2 then (x_missDue_25 v1 v2 σ) else (x_missDue_60 v1 v2 (zz_h σ 28 v1 4) σ))) else (x_missDue_60 v1 v2 (zz_h σ 28 v1 4) σ))) else none)))
set_option maxRecDepth 100000 in
set_option maxHeartbeats 4000000 in
theorem ze_x_missDue (v1 v2 : Int) (σ : zz_S) : x_missDue v1 v2 σ = zz_ev (zz_CE []) (zz_KE [(25, [(0, 5, true), (1, 9, false), (2, 0, false)], zz_f2 (x_missDue_25)), (60, [(0, 5, true), (1, 9, false), (2, 0, false), (3, 0, false)], zz_f3 (x_missDue_60))]) zk_x_missDue 0 false 0 0 400 true (zz_sk zk_x_missDue 0) [(0, 5, 1), (1, 9, v1), (2, 0, v2)] [] σ := rfl
theorem zo_x_missDue : zz_okb zM_x_missDue 0 [(0, 5, true), (1, 9, false), (2, 0, false)] (zz_f2 x_missDue) :=
  fun vs σ r τ h => by
    obtain ⟨v1, v2, rfl, h⟩ := zz_f2_ok h
    exact zz_from zc_x_missDue zz_oc0 (zz_olc (zo_x_missDue_25) (zz_olc (zo_x_missDue_60) zz_ol0)) ((ze_x_missDue v1 v2 σ).symm.trans h)
noncomputable def zw_x_missDue : List Int → zz_S → zz_R := zz_f3 fun a0 a1 a2 σ => if a0 = 1 then x_missDue a1 a2 σ else none
theorem zo_m_x_missDue : zz_okm zz_inf 41 zw_x_missDue := fun vs σ r τ h => by
  obtain ⟨a0, a1, a2, rfl, h⟩ := zz_f3_ok h
  obtain ⟨e, h⟩ := zz_it h
  subst e
  exact zz_meth zi_x_missDue zy_x_missDue (zo_x_missDue [a1, a2] σ r τ h)
def zk_x_missDues : List zz_E := [(0, false, .iconst 0, 1, 0, (0, 0, 0, 0), 0, []),
  (1, false, .istore_n 1, 1, 0, (0, 0, 0, 0), 0, []),
  (2, false, .iconst 0, 1, 0, (0, 0, 0, 0), 0, []),
  (3, false, .istore_n 2, 1, 0, (0, 0, 0, 0), 0, []),
  (4, true, .iload_n 2, 1, 0, (0, 0, 0, 0), 0, []),
  (5, false, .bipush 100, 2, 0, (0, 0, 0, 0), 0, []),
  (7, false, .if_icmp .ge 56, 3, 0, (63, 0, 0, 0), 0, []),
  (10, false, .iload_n 1, 1, 0, (0, 0, 0, 0), 0, []),
  (11, false, .aload_n 0, 1, 0, (0, 0, 0, 0), 0, []),
  (12, false, .getfield 27, 3, 166, (3, 3, 6, 1), 0, []),
  (15, false, .getfield 318, 3, 108, (4, 3, 0, 0), 0, []),
  (18, false, .if_icmp .ge 45, 3, 0, (63, 0, 0, 0), 0, []),
  (21, false, .aload_n 0, 1, 0, (0, 0, 0, 0), 0, []),
  (22, false, .getfield 27, 3, 166, (3, 3, 6, 1), 0, []),
  (25, false, .getfield 322, 3, 102, (4, 0, 21, 1), 0, []),
  (28, false, .iload_n 1, 1, 0, (0, 0, 0, 0), 0, []),
  (29, false, .aaload, 1, 0, (19, 0, 9, 0), 0, []),
  (30, false, .astore_n 3, 1, 0, (0, 0, 0, 0), 0, []),
  (31, false, .aload_n 3, 1, 0, (0, 0, 0, 0), 0, []),
  (32, false, .ifnull 22, 3, 0, (54, 0, 0, 0), 0, []),
  (35, false, .aload_n 0, 1, 0, (0, 0, 0, 0), 0, []),
  (36, false, .aload_n 3, 1, 0, (0, 0, 0, 0), 0, []),
  (37, false, .iload_n 1, 1, 0, (0, 0, 0, 0), 0, []),
  (38, false, .invokevirtual 324, 3, 587, (40, 3, 0, 0), 0, [0, 9, 5]),
  (41, false, .ifCond .eq 13, 3, 0, (54, 0, 0, 0), 0, []),
  (44, false, .aload_n 0, 1, 0, (0, 0, 0, 0), 0, []),
  (45, false, .aload_n 3, 1, 0, (0, 0, 0, 0), 0, []),
  (46, false, .iload_n 1, 1, 0, (0, 0, 0, 0), 0, []),
  (47, false, .invokevirtual 327, 3, 591, (41, 3, 0, 0), 0, [0, 9, 5]),
  (50, false, .istore_n 1, 1, 0, (0, 0, 0, 0), 0, []),
  (51, false, .goto 6, 3, 0, (57, 0, 0, 0), 0, []),
  (54, false, .iinc 1 1, 3, 0, (0, 0, 0, 0), 0, []),
  (57, false, .iinc 2 1, 3, 0, (0, 0, 0, 0), 0, []),
  (60, false, .goto (-56), 3, 0, (4, 0, 0, 0), 0, []),
  (63, false, .return_, 1, 0, (0, 0, 0, 0), 0, [])]
theorem zc_x_missDues : zk_x_missDues.all (zz_ck zz_inf zM_x_missDues) = true ∧ zz_ch zk_x_missDues = true := ⟨by decide +kernel, by decide +kernel⟩
noncomputable def x_missDues_4 : Nat → Int → Int → zz_S → zz_R
  | 0, _, _, _ => none
  | n + 1, v1, v2, σ => (if v2 < 100 then (if v1 < (zz_h σ 4 1 3) then (if zz_b σ 19 1 v1 then (if (zz_h σ 19 1 v1) = 0 then (x_missDues_4 n (zz_r (v1 + 1)) (zz_r (v2 + 1)) σ) else ((x_isMissed (zz_h σ 19 1 v1) v1 σ).bind fun q1 => (if q1.1 = 0 then (x_missDues_4 n (zz_r (v1 + 1)) (zz_r (v2 + 1)) q1.2) else ((x_missDue (zz_h σ 19 1 v1) v1 q1.2).bind fun q2 => (x_missDues_4 n q2.1 (zz_r (v2 + 1)) q2.2))))) else none) else (some (0, σ))) else (some (0, σ)))
set_option maxRecDepth 100000 in
set_option maxHeartbeats 4000000 in
theorem ze_x_missDues_4 (n : Nat) (v1 v2 : Int) (σ : zz_S) : x_missDues_4 (n + 1) v1 v2 σ = zz_ev (zz_CE [(40, zw_x_isMissed), (41, zw_x_missDue)]) (zz_KE [(4, [(0, 5, true), (1, 0, false), (2, 0, false)], zz_f2 (x_missDues_4 n))]) zk_x_missDues 999 false 0 0 400 true (zz_sk zk_x_missDues 4) [(0, 5, 1), (1, 0, v1), (2, 0, v2)] [] σ := rfl
theorem zo_x_missDues_4 : ∀ n : Nat, zz_okb zM_x_missDues 4 [(0, 5, true), (1, 0, false), (2, 0, false)] (zz_f2 (x_missDues_4 n))
  | 0 => fun vs σ r τ h => by
    obtain ⟨v1, v2, rfl, h⟩ := zz_f2_ok h
    exact nomatch (show (none : zz_R) = some (r, τ) from h)
  | n + 1 => by
    have ih := zo_x_missDues_4 n
    exact fun vs σ r τ h => by
        obtain ⟨v1, v2, rfl, h⟩ := zz_f2_ok h
        exact zz_from zc_x_missDues (zz_occ zo_m_x_isMissed (zz_occ zo_m_x_missDue zz_oc0)) (zz_olc ih zz_ol0) ((ze_x_missDues_4 n v1 v2 σ).symm.trans h)
noncomputable def x_missDues (σ : zz_S) : zz_R := (x_missDues_4 zz_fu 0 0 σ)
set_option maxRecDepth 100000 in
set_option maxHeartbeats 4000000 in
theorem ze_x_missDues (σ : zz_S) : x_missDues σ = zz_ev (zz_CE []) (zz_KE [(4, [(0, 5, true), (1, 0, false), (2, 0, false)], zz_f2 (x_missDues_4 zz_fu))]) zk_x_missDues 999 false 0 0 400 true (zz_sk zk_x_missDues 0) [(0, 5, 1)] [] σ := rfl
theorem zo_x_missDues : zz_okb zM_x_missDues 0 [(0, 5, true)] (zz_f0 x_missDues) :=
  fun vs σ r τ h => by
    obtain ⟨rfl, h⟩ := zz_f0_ok h
    exact zz_from zc_x_missDues zz_oc0 (zz_olc (zo_x_missDues_4 zz_fu) zz_ol0) ((ze_x_missDues σ).symm.trans h)
noncomputable def zw_x_missDues : List Int → zz_S → zz_R := zz_f1 fun a0 σ => if a0 = 1 then x_missDues σ else none
theorem zo_m_x_missDues : zz_okm zz_inf 39 zw_x_missDues := fun vs σ r τ h => by
  obtain ⟨a0, rfl, h⟩ := zz_f1_ok h
  obtain ⟨e, h⟩ := zz_it h
  subst e
  exact zz_meth zi_x_missDues zy_x_missDues (zo_x_missDues [] σ r τ h)
def zk_x_freeWorker : List zz_E := [(0, false, .iconst 0, 1, 0, (0, 0, 0, 0), 0, []),
  (1, false, .istore_n 1, 1, 0, (0, 0, 0, 0), 0, []),
  (2, true, .iload_n 1, 1, 0, (0, 0, 0, 0), 0, []),
  (3, false, .aload_n 0, 1, 0, (0, 0, 0, 0), 0, []),
  (4, false, .getfield 75, 3, 178, (3, 15, 0, 0), 0, []),
  (7, false, .if_icmp .ge 20, 3, 0, (27, 0, 0, 0), 0, []),
  (10, false, .aload_n 0, 1, 0, (0, 0, 0, 0), 0, []),
  (11, false, .getfield 52, 3, 171, (3, 8, 18, 1), 0, []),
  (14, false, .iload_n 1, 1, 0, (0, 0, 0, 0), 0, []),
  (15, false, .baload, 1, 0, (16, 0, 0, 0), 0, []),
  (16, false, .ifCond .ne 5, 3, 0, (21, 0, 0, 0), 0, []),
  (19, false, .iload_n 1, 1, 0, (0, 0, 0, 0), 0, []),
  (20, false, .ireturn, 1, 0, (0, 0, 0, 0), 0, []),
  (21, false, .iinc 1 1, 3, 0, (0, 0, 0, 0), 0, []),
  (24, false, .goto (-22), 3, 0, (2, 0, 0, 0), 0, []),
  (27, false, .iconst (-1), 1, 0, (0, 0, 0, 0), 0, []),
  (28, false, .ireturn, 1, 0, (0, 0, 0, 0), 0, [])]
theorem zc_x_freeWorker : zk_x_freeWorker.all (zz_ck zz_inf zM_x_freeWorker) = true ∧ zz_ch zk_x_freeWorker = true := ⟨by decide +kernel, by decide +kernel⟩
noncomputable def x_freeWorker_2 : Nat → Int → zz_S → zz_R
  | 0, _, _ => none
  | n + 1, v1, σ => (if v1 < (zz_h σ 3 1 15) then (if zz_b σ 16 1 v1 then (if (zz_h σ 16 1 v1) = 0 then (some (v1, σ)) else (x_freeWorker_2 n (zz_r (v1 + 1)) σ)) else none) else (some ((-1), σ)))
set_option maxRecDepth 100000 in
set_option maxHeartbeats 4000000 in
theorem ze_x_freeWorker_2 (n : Nat) (v1 : Int) (σ : zz_S) : x_freeWorker_2 (n + 1) v1 σ = zz_ev (zz_CE []) (zz_KE [(2, [(0, 5, true), (1, 0, false)], zz_f1 (x_freeWorker_2 n))]) zk_x_freeWorker 0 false 0 0 400 true (zz_sk zk_x_freeWorker 2) [(0, 5, 1), (1, 0, v1)] [] σ := rfl
theorem zo_x_freeWorker_2 : ∀ n : Nat, zz_okb zM_x_freeWorker 2 [(0, 5, true), (1, 0, false)] (zz_f1 (x_freeWorker_2 n))
  | 0 => fun vs σ r τ h => by
    obtain ⟨v1, rfl, h⟩ := zz_f1_ok h
    exact nomatch (show (none : zz_R) = some (r, τ) from h)
  | n + 1 => by
    have ih := zo_x_freeWorker_2 n
    exact fun vs σ r τ h => by
        obtain ⟨v1, rfl, h⟩ := zz_f1_ok h
        exact zz_from zc_x_freeWorker zz_oc0 (zz_olc ih zz_ol0) ((ze_x_freeWorker_2 n v1 σ).symm.trans h)
noncomputable def x_freeWorker (σ : zz_S) : zz_R := (x_freeWorker_2 zz_fu 0 σ)
set_option maxRecDepth 100000 in
set_option maxHeartbeats 4000000 in
theorem ze_x_freeWorker (σ : zz_S) : x_freeWorker σ = zz_ev (zz_CE []) (zz_KE [(2, [(0, 5, true), (1, 0, false)], zz_f1 (x_freeWorker_2 zz_fu))]) zk_x_freeWorker 0 false 0 0 400 true (zz_sk zk_x_freeWorker 0) [(0, 5, 1)] [] σ := rfl
theorem zo_x_freeWorker : zz_okb zM_x_freeWorker 0 [(0, 5, true)] (zz_f0 x_freeWorker) :=
  fun vs σ r τ h => by
    obtain ⟨rfl, h⟩ := zz_f0_ok h
    exact zz_from zc_x_freeWorker zz_oc0 (zz_olc (zo_x_freeWorker_2 zz_fu) zz_ol0) ((ze_x_freeWorker σ).symm.trans h)
noncomputable def zw_x_freeWorker : List Int → zz_S → zz_R := zz_f1 fun a0 σ => if a0 = 1 then x_freeWorker σ else none
theorem zo_m_x_freeWorker : zz_okm zz_inf 43 zw_x_freeWorker := fun vs σ r τ h => by
  obtain ⟨a0, rfl, h⟩ := zz_f1_ok h
  obtain ⟨e, h⟩ := zz_it h
  subst e
  exact zz_meth zi_x_freeWorker zy_x_freeWorker (zo_x_freeWorker [] σ r τ h)
def zk_x_workIn : List zz_E := [(0, false, .iconst 0, 1, 0, (0, 0, 0, 0), 0, []),
  (1, false, .istore_n 2, 1, 0, (0, 0, 0, 0), 0, []),
  (2, false, .iconst 0, 1, 0, (0, 0, 0, 0), 0, []),
  (3, false, .istore_n 3, 1, 0, (0, 0, 0, 0), 0, []),
  (4, true, .iload_n 3, 1, 0, (0, 0, 0, 0), 0, []),
  (5, false, .aload_n 0, 1, 0, (0, 0, 0, 0), 0, []),
  (6, false, .getfield 69, 3, 176, (3, 13, 0, 0), 0, []),
  (9, false, .if_icmp .ge 34, 3, 0, (43, 0, 0, 0), 0, []),
  (12, false, .aload_n 0, 1, 0, (0, 0, 0, 0), 0, []),
  (13, false, .getfield 21, 3, 165, (3, 2, 15, 1), 0, []),
  (16, false, .iload_n 3, 1, 0, (0, 0, 0, 0), 0, []),
  (17, false, .aaload, 1, 0, (13, 0, 12, 0), 0, []),
  (18, false, .astore 4, 2, 0, (0, 0, 0, 0), 0, []),
  (20, false, .aload 4, 2, 0, (0, 0, 0, 0), 0, []),
  (22, false, .ifnull 15, 3, 0, (37, 0, 0, 0), 0, []),
  (25, false, .aload 4, 2, 0, (0, 0, 0, 0), 0, []),
  (27, false, .getfield 361, 3, 648, (10, 7, 0, 0), 0, []),
  (30, false, .iload_n 1, 1, 0, (0, 0, 0, 0), 0, []),
  (31, false, .if_icmp .ne 6, 3, 0, (37, 0, 0, 0), 0, []),
  (34, false, .iinc 2 1, 3, 0, (0, 0, 0, 0), 0, []),
  (37, false, .iinc 3 1, 3, 0, (0, 0, 0, 0), 0, []),
  (40, false, .goto (-36), 3, 0, (4, 0, 0, 0), 0, []),
  (43, false, .iload_n 2, 1, 0, (0, 0, 0, 0), 0, []),
  (44, false, .ireturn, 1, 0, (0, 0, 0, 0), 0, [])]
theorem zc_x_workIn : zk_x_workIn.all (zz_ck zz_inf zM_x_workIn) = true ∧ zz_ch zk_x_workIn = true := ⟨by decide +kernel, by decide +kernel⟩
noncomputable def x_workIn_4 : Nat → Int → Int → Int → zz_S → zz_R
  | 0, _, _, _, _ => none
  | n + 1, v1, v2, v3, σ => (if v3 < (zz_h σ 3 1 13) then (if zz_b σ 13 1 v3 then (if (zz_h σ 13 1 v3) = 0 then (x_workIn_4 n v1 v2 (zz_r (v3 + 1)) σ) else (if (zz_h σ 13 1 v3) = 0 then none else (if (zz_h σ 10 (zz_h σ 13 1 v3) 7) = v1 then (x_workIn_4 n v1 (zz_r (v2 + 1)) (zz_r (v3 + 1)) σ) else (x_workIn_4 n v1 v2 (zz_r (v3 + 1)) σ)))) else none) else (some (v2, σ)))
set_option maxRecDepth 100000 in
set_option maxHeartbeats 4000000 in
theorem ze_x_workIn_4 (n : Nat) (v1 v2 v3 : Int) (σ : zz_S) : x_workIn_4 (n + 1) v1 v2 v3 σ = zz_ev (zz_CE []) (zz_KE [(4, [(0, 5, true), (1, 0, false), (2, 0, false), (3, 0, false)], zz_f3 (x_workIn_4 n))]) zk_x_workIn 0 false 0 0 400 true (zz_sk zk_x_workIn 4) [(0, 5, 1), (1, 0, v1), (2, 0, v2), (3, 0, v3)] [] σ := rfl
theorem zo_x_workIn_4 : ∀ n : Nat, zz_okb zM_x_workIn 4 [(0, 5, true), (1, 0, false), (2, 0, false), (3, 0, false)] (zz_f3 (x_workIn_4 n))
  | 0 => fun vs σ r τ h => by
    obtain ⟨v1, v2, v3, rfl, h⟩ := zz_f3_ok h
    exact nomatch (show (none : zz_R) = some (r, τ) from h)
  | n + 1 => by
    have ih := zo_x_workIn_4 n
    exact fun vs σ r τ h => by
        obtain ⟨v1, v2, v3, rfl, h⟩ := zz_f3_ok h
        exact zz_from zc_x_workIn zz_oc0 (zz_olc ih zz_ol0) ((ze_x_workIn_4 n v1 v2 v3 σ).symm.trans h)
noncomputable def x_workIn (v1 : Int) (σ : zz_S) : zz_R := (x_workIn_4 zz_fu v1 0 0 σ)
set_option maxRecDepth 100000 in
set_option maxHeartbeats 4000000 in
theorem ze_x_workIn (v1 : Int) (σ : zz_S) : x_workIn v1 σ = zz_ev (zz_CE []) (zz_KE [(4, [(0, 5, true), (1, 0, false), (2, 0, false), (3, 0, false)], zz_f3 (x_workIn_4 zz_fu))]) zk_x_workIn 0 false 0 0 400 true (zz_sk zk_x_workIn 0) [(0, 5, 1), (1, 0, v1)] [] σ := rfl
theorem zo_x_workIn : zz_okb zM_x_workIn 0 [(0, 5, true), (1, 0, false)] (zz_f1 x_workIn) :=
  fun vs σ r τ h => by
    obtain ⟨v1, rfl, h⟩ := zz_f1_ok h
    exact zz_from zc_x_workIn zz_oc0 (zz_olc (zo_x_workIn_4 zz_fu) zz_ol0) ((ze_x_workIn v1 σ).symm.trans h)
noncomputable def zw_x_workIn : List Int → zz_S → zz_R := zz_f2 fun a0 a1 σ => if a0 = 1 then x_workIn a1 σ else none
theorem zo_m_x_workIn : zz_okm zz_inf 46 zw_x_workIn := fun vs σ r τ h => by
  obtain ⟨a0, a1, rfl, h⟩ := zz_f2_ok h
  obtain ⟨e, h⟩ := zz_it h
  subst e
  exact zz_meth zi_x_workIn zy_x_workIn (zo_x_workIn [a1] σ r τ h)
def zk_x_mayBegin : List zz_E := [(0, false, .aload_n 1, 1, 0, (0, 0, 0, 0), 0, []),
  (1, false, .ifnull 20, 3, 0, (21, 0, 0, 0), 0, []),
  (4, false, .aload_n 1, 1, 0, (0, 0, 0, 0), 0, []),
  (5, false, .getfield 111, 3, 308, (7, 4, 30, 1), 0, []),
  (8, false, .iconst 3, 1, 0, (0, 0, 0, 0), 0, []),
  (9, false, .iaload, 1, 0, (28, 0, 0, 0), 0, []),
  (10, false, .iconst 2, 1, 0, (0, 0, 0, 0), 0, []),
  (11, false, .if_icmp .eq 12, 3, 0, (23, 0, 0, 0), 0, []),
  (14, false, .aload_n 1, 1, 0, (0, 0, 0, 0), 0, []),
  (15, false, .getfield 264, 3, 332, (7, 15, 0, 0), 0, []),
  (18, false, .ifCond .le 5, 3, 0, (23, 0, 0, 0), 0, []),
  (21, false, .iconst 0, 1, 0, (0, 0, 0, 0), 0, []),
  (22, false, .ireturn, 1, 0, (0, 0, 0, 0), 0, []),
  (23, true, .aload_n 1, 1, 0, (0, 0, 0, 0), 0, []),
  (24, false, .getfield 111, 3, 308, (7, 4, 30, 1), 0, []),
  (27, false, .iconst 2, 1, 0, (0, 0, 0, 0), 0, []),
  (28, false, .iaload, 1, 0, (28, 0, 0, 0), 0, []),
  (29, false, .istore_n 2, 1, 0, (0, 0, 0, 0), 0, []),
  (30, false, .iload_n 2, 1, 0, (0, 0, 0, 0), 0, []),
  (31, false, .iconst 0, 1, 0, (0, 0, 0, 0), 0, []),
  (32, false, .aload_n 0, 1, 0, (0, 0, 0, 0), 0, []),
  (33, false, .getfield 72, 3, 177, (3, 14, 0, 0), 0, []),
  (36, false, .iconst 1, 1, 0, (0, 0, 0, 0), 0, []),
  (37, false, .isub, 1, 0, (0, 0, 0, 0), 0, []),
  (38, false, .invokestatic 91, 3, 228, (72, 3, 0, 0), 0, [0, 0, 0]),
  (41, false, .ifCond .eq 17, 3, 0, (58, 0, 0, 0), 0, []),
  (44, false, .aload_n 0, 1, 0, (0, 0, 0, 0), 0, []),
  (45, false, .iload_n 2, 1, 0, (0, 0, 0, 0), 0, []),
  (46, false, .invokevirtual 358, 3, 616, (46, 2, 0, 0), 0, [0, 5]),
  (49, false, .aload_n 0, 1, 0, (0, 0, 0, 0), 0, []),
  (50, false, .getfield 45, 3, 169, (3, 6, 16, 1), 0, []),
  (53, false, .iload_n 2, 1, 0, (0, 0, 0, 0), 0, []),
  (54, false, .iaload, 1, 0, (14, 0, 0, 0), 0, []),
  (55, false, .if_icmp .ge 7, 3, 0, (62, 0, 0, 0), 0, []),
  (58, false, .iconst 1, 1, 0, (0, 0, 0, 0), 0, []),
  (59, false, .goto 4, 3, 0, (63, 0, 0, 0), 0, []),
  (62, false, .iconst 0, 1, 0, (0, 0, 0, 0), 0, []),
  (63, false, .ireturn, 1, 0, (0, 0, 0, 0), 0, [])]
theorem zc_x_mayBegin : zk_x_mayBegin.all (zz_ck zz_inf zM_x_mayBegin) = true ∧ zz_ch zk_x_mayBegin = true := ⟨by decide +kernel, by decide +kernel⟩
noncomputable def x_mayBegin_23 (v1 : Int) (σ : zz_S) : zz_R := (if v1 = 0 then none else (if v1 = 0 then none else (if zz_b σ 28 v1 2 then ((x_isWithin (zz_h σ 28 v1 2) 0 (zz_r ((zz_h σ 3 1 14) - 1)) σ).bind fun q1 => (if q1.1 = 0 then (some (1, q1.2)) else ((x_workIn (zz_h σ 28 v1 2) q1.2).bind fun q2 => (if zz_b q2.2 14 1 (zz_h σ 28 v1 2) then (if q2.1 < (zz_h q2.2 14 1 (zz_h σ 28 v1 2)) then (some (1, q2.2)) else (some (0, q2.2))) else none)))) else none)))
set_option maxRecDepth 100000 in
set_option maxHeartbeats 4000000 in
theorem ze_x_mayBegin_23 (v1 : Int) (σ : zz_S) : x_mayBegin_23 v1 σ = zz_ev (zz_CE [(46, zw_x_workIn), (72, zw_x_isWithin)]) (zz_KE []) zk_x_mayBegin 0 true 0 0 400 true (zz_sk zk_x_mayBegin 23) [(0, 5, 1), (1, 9, v1)] [] σ := rfl
theorem zo_x_mayBegin_23 : zz_okb zM_x_mayBegin 23 [(0, 5, true), (1, 9, false)] (zz_f1 x_mayBegin_23) :=
  fun vs σ r τ h => by
    obtain ⟨v1, rfl, h⟩ := zz_f1_ok h
    exact zz_from zc_x_mayBegin (zz_occ zo_m_x_workIn (zz_occ zo_m_x_isWithin zz_oc0)) zz_ol0 ((ze_x_mayBegin_23 v1 σ).symm.trans h)
noncomputable def x_mayBegin (v1 : Int) (σ : zz_S) : zz_R := (if v1 = 0 then (some (0, σ)) else (if v1 = 0 then none else (if v1 = 0 then none else (if zz_b σ 28 v1 3 then (if (zz_h σ 28 v1 3) = 2 then (x_mayBegin_23 v1 σ) else (if v1 = 0 then none else (if (zz_h σ 7 v1 15) ≤ 0 then (x_mayBegin_23 v1 σ) else (some (0, σ))))) else none))))
set_option maxRecDepth 100000 in
set_option maxHeartbeats 4000000 in
theorem ze_x_mayBegin (v1 : Int) (σ : zz_S) : x_mayBegin v1 σ = zz_ev (zz_CE []) (zz_KE [(23, [(0, 5, true), (1, 9, false)], zz_f1 (x_mayBegin_23))]) zk_x_mayBegin 0 true 0 0 400 true (zz_sk zk_x_mayBegin 0) [(0, 5, 1), (1, 9, v1)] [] σ := rfl
theorem zo_x_mayBegin : zz_okb zM_x_mayBegin 0 [(0, 5, true), (1, 9, false)] (zz_f1 x_mayBegin) :=
  fun vs σ r τ h => by
    obtain ⟨v1, rfl, h⟩ := zz_f1_ok h
    exact zz_from zc_x_mayBegin zz_oc0 (zz_olc (zo_x_mayBegin_23) zz_ol0) ((ze_x_mayBegin v1 σ).symm.trans h)
noncomputable def zw_x_mayBegin : List Int → zz_S → zz_R := zz_f2 fun a0 a1 σ => if a0 = 1 then x_mayBegin a1 σ else none
theorem zo_m_x_mayBegin : zz_okm zz_inf 45 zw_x_mayBegin := fun vs σ r τ h => by
  obtain ⟨a0, a1, rfl, h⟩ := zz_f2_ok h
  obtain ⟨e, h⟩ := zz_it h
  subst e
  exact zz_meth zi_x_mayBegin zy_x_mayBegin (zo_x_mayBegin [a1] σ r τ h)
def zk_xD_isAhead : List zz_E := [(0, false, .aload_n 0, 1, 0, (0, 0, 0, 0), 0, []),
  (1, false, .getfield 11, 3, 101, (4, 0, 21, 1), 0, []),
  (4, false, .iload_n 1, 1, 0, (0, 0, 0, 0), 0, []),
  (5, false, .aaload, 1, 0, (19, 0, 9, 0), 0, []),
  (6, false, .astore_n 3, 1, 0, (0, 0, 0, 0), 0, []),
  (7, false, .aload_n 0, 1, 0, (0, 0, 0, 0), 0, []),
  (8, false, .getfield 11, 3, 101, (4, 0, 21, 1), 0, []),
  (11, false, .iload_n 2, 1, 0, (0, 0, 0, 0), 0, []),
  (12, false, .aaload, 1, 0, (19, 0, 9, 0), 0, []),
  (13, false, .astore 4, 2, 0, (0, 0, 0, 0), 0, []),
  (15, false, .aload_n 3, 1, 0, (0, 0, 0, 0), 0, []),
  (16, false, .ifnull 8, 3, 0, (24, 0, 0, 0), 0, []),
  (19, false, .aload 4, 2, 0, (0, 0, 0, 0), 0, []),
  (21, false, .ifnonnull 5, 3, 0, (26, 0, 0, 0), 0, []),
  (24, false, .iconst 0, 1, 0, (0, 0, 0, 0), 0, []),
  (25, false, .ireturn, 1, 0, (0, 0, 0, 0), 0, []),
  (26, false, .aload_n 3, 1, 0, (0, 0, 0, 0), 0, []),
  (27, false, .getfield 36, 3, 309, (7, 4, 30, 1), 0, []),
  (30, false, .iconst 1, 1, 0, (0, 0, 0, 0), 0, []),
  (31, false, .iaload, 1, 0, (28, 0, 0, 0), 0, []),
  (32, false, .aload 4, 2, 0, (0, 0, 0, 0), 0, []),
  (34, false, .getfield 36, 3, 309, (7, 4, 30, 1), 0, []),
  (37, false, .iconst 1, 1, 0, (0, 0, 0, 0), 0, []),
  (38, false, .iaload, 1, 0, (28, 0, 0, 0), 0, []),
  (39, false, .if_icmp .eq 25, 3, 0, (64, 0, 0, 0), 0, []),
  (42, false, .aload_n 3, 1, 0, (0, 0, 0, 0), 0, []),
  (43, false, .getfield 36, 3, 309, (7, 4, 30, 1), 0, []),
  (46, false, .iconst 1, 1, 0, (0, 0, 0, 0), 0, []),
  (47, false, .iaload, 1, 0, (28, 0, 0, 0), 0, []),
  (48, false, .aload 4, 2, 0, (0, 0, 0, 0), 0, []),
  (50, false, .getfield 36, 3, 309, (7, 4, 30, 1), 0, []),
  (53, false, .iconst 1, 1, 0, (0, 0, 0, 0), 0, []),
  (54, false, .iaload, 1, 0, (28, 0, 0, 0), 0, []),
  (55, false, .if_icmp .le 7, 3, 0, (62, 0, 0, 0), 0, []),
  (58, false, .iconst 1, 1, 0, (0, 0, 0, 0), 0, []),
  (59, false, .goto 4, 3, 0, (63, 0, 0, 0), 0, []),
  (62, false, .iconst 0, 1, 0, (0, 0, 0, 0), 0, []),
  (63, false, .ireturn, 1, 0, (0, 0, 0, 0), 0, []),
  (64, false, .aload_n 0, 1, 0, (0, 0, 0, 0), 0, []),
  (65, false, .getfield 17, 3, 103, (4, 1, 22, 1), 0, []),
  (68, false, .iload_n 1, 1, 0, (0, 0, 0, 0), 0, []),
  (69, false, .iaload, 1, 0, (20, 0, 0, 0), 0, []),
  (70, false, .aload_n 0, 1, 0, (0, 0, 0, 0), 0, []),
  (71, false, .getfield 17, 3, 103, (4, 1, 22, 1), 0, []),
  (74, false, .iload_n 2, 1, 0, (0, 0, 0, 0), 0, []),
  (75, false, .iaload, 1, 0, (20, 0, 0, 0), 0, []),
  (76, false, .if_icmp .eq 24, 3, 0, (100, 0, 0, 0), 0, []),
  (79, false, .aload_n 0, 1, 0, (0, 0, 0, 0), 0, []),
  (80, false, .getfield 17, 3, 103, (4, 1, 22, 1), 0, []),
  (83, false, .iload_n 1, 1, 0, (0, 0, 0, 0), 0, []),
  (84, false, .iaload, 1, 0, (20, 0, 0, 0), 0, []),
  (85, false, .aload_n 0, 1, 0, (0, 0, 0, 0), 0, []),
  (86, false, .getfield 17, 3, 103, (4, 1, 22, 1), 0, []),
  (89, false, .iload_n 2, 1, 0, (0, 0, 0, 0), 0, []),
  (90, false, .iaload, 1, 0, (20, 0, 0, 0), 0, []),
  (91, false, .if_icmp .ge 7, 3, 0, (98, 0, 0, 0), 0, []),
  (94, false, .iconst 1, 1, 0, (0, 0, 0, 0), 0, []),
  (95, false, .goto 4, 3, 0, (99, 0, 0, 0), 0, []),
  (98, false, .iconst 0, 1, 0, (0, 0, 0, 0), 0, []),
  (99, false, .ireturn, 1, 0, (0, 0, 0, 0), 0, []),
  (100, false, .aload_n 3, 1, 0, (0, 0, 0, 0), 0, []),
  (101, false, .getfield 39, 3, 298, (7, 0, 0, 0), 0, []),
  (104, false, .aload 4, 2, 0, (0, 0, 0, 0), 0, []),
  (106, false, .getfield 39, 3, 298, (7, 0, 0, 0), 0, []),
  (109, false, .if_icmp .ge 7, 3, 0, (116, 0, 0, 0), 0, []),
  (112, false, .iconst 1, 1, 0, (0, 0, 0, 0), 0, []),
  (113, false, .goto 4, 3, 0, (117, 0, 0, 0), 0, []),
  (116, false, .iconst 0, 1, 0, (0, 0, 0, 0), 0, []),
  (117, false, .ireturn, 1, 0, (0, 0, 0, 0), 0, [])]
theorem zc_xD_isAhead : zk_xD_isAhead.all (zz_ck zz_inf zM_xD_isAhead) = true ∧ zz_ch zk_xD_isAhead = true := ⟨by decide +kernel, by decide +kernel⟩
noncomputable def xD_isAhead (v1 v2 : Int) (σ : zz_S) : zz_R := (if zz_b σ 19 1 v1 then (if zz_b σ 19 1 v2 then (if (zz_h σ 19 1 v1) = 0 then (some (0, σ)) else (if (zz_h σ 19 1 v2) = 0 then (some (0, σ)) else (if (zz_h σ 19 1 v1) = 0 then none else (if (zz_h σ 19 1 v1) = 0 then none else (if zz_b σ 28 (zz_h σ 19 1 v1) 1 then (if (zz_h σ 19 1 v2) = 0 then none else (if (zz_h σ 19 1 v2) = 0 then none else (if zz_b σ 28 (zz_h σ 19 1 v2) 1 then (if (zz_h σ 28 (zz_h σ 19 1 v1) 1) = (zz_h σ 28 (zz_h σ 19 1 v2) 1) then (if zz_b σ 20 1 v1 then (if zz_b σ 20 1 v2 then (if (zz_h σ 20 1 v1) = (zz_h σ 20 1 v2) then (if (zz_h σ 19 1 v1) = 0 then none else (if (zz_h σ 19 1 v2) = 0 then none else (if (zz_h σ 7 (zz_h σ 19 1 v1) 0) < (zz_h σ 7 (zz_h σ 19 1 v2) 0) then (some (1, σ)) else (some (0, σ))))) else (if zz_b σ 20 1 v1 then (if zz_b σ 20 1 v2 then (if (zz_h σ 20 1 v1) < (zz_h σ 20 1 v2) then (some (1, σ)) else (some (0, σ))) else none) else none)) else none) else none) else (if (zz_h σ 19 1 v1) = 0 then none else (if (zz_h σ 19 1 v1) = 0 then none else (if zz_b σ 28 (zz_h σ 19 1 v1) 1 then (if (zz_h σ 19 1 v2) = 0 then none else (if (zz_h σ 19 1 v2) = 0 then none else (if zz_b σ 28 (zz_h σ 19 1 v2) 1 then (if (zz_h σ 28 (zz_h σ 19 1 v1) 1) ≤ (zz_h σ 28 (zz_h σ 19 1 v2) 1) then (some (0, σ)) else (some (1, σ))) else none))) else none)))) else none))) else none))))) else none) else none)
set_option maxRecDepth 100000 in
set_option maxHeartbeats 4000000 in
theorem ze_xD_isAhead (v1 v2 : Int) (σ : zz_S) : xD_isAhead v1 v2 σ = zz_ev (zz_CE []) (zz_KE []) zk_xD_isAhead 0 true 0 0 400 true (zz_sk zk_xD_isAhead 0) [(0, 6, 1), (1, 0, v1), (2, 0, v2)] [] σ := rfl
theorem zo_xD_isAhead : zz_okb zM_xD_isAhead 0 [(0, 6, true), (1, 0, false), (2, 0, false)] (zz_f2 xD_isAhead) :=
  fun vs σ r τ h => by
    obtain ⟨v1, v2, rfl, h⟩ := zz_f2_ok h
    exact zz_from zc_xD_isAhead zz_oc0 zz_ol0 ((ze_xD_isAhead v1 v2 σ).symm.trans h)
noncomputable def zw_xD_isAhead : List Int → zz_S → zz_R := zz_f3 fun a0 a1 a2 σ => if a0 = 1 then xD_isAhead a1 a2 σ else none
theorem zo_m_xD_isAhead : zz_okm zz_inf 80 zw_xD_isAhead := fun vs σ r τ h => by
  obtain ⟨a0, a1, a2, rfl, h⟩ := zz_f3_ok h
  obtain ⟨e, h⟩ := zz_it h
  subst e
  exact zz_meth zi_xD_isAhead zy_xD_isAhead (zo_xD_isAhead [a1, a2] σ r τ h)
def zk_x_firstToBegin : List zz_E := [(0, false, .iconst (-1), 1, 0, (0, 0, 0, 0), 0, []),
  (1, false, .istore_n 1, 1, 0, (0, 0, 0, 0), 0, []),
  (2, false, .iconst 0, 1, 0, (0, 0, 0, 0), 0, []),
  (3, false, .istore_n 2, 1, 0, (0, 0, 0, 0), 0, []),
  (4, true, .iload_n 2, 1, 0, (0, 0, 0, 0), 0, []),
  (5, false, .aload_n 0, 1, 0, (0, 0, 0, 0), 0, []),
  (6, false, .getfield 27, 3, 166, (3, 3, 6, 1), 0, []),
  (9, false, .getfield 318, 3, 108, (4, 3, 0, 0), 0, []),
  (12, false, .if_icmp .ge 44, 3, 0, (56, 0, 0, 0), 0, []),
  (15, false, .aload_n 0, 1, 0, (0, 0, 0, 0), 0, []),
  (16, false, .aload_n 0, 1, 0, (0, 0, 0, 0), 0, []),
  (17, false, .getfield 27, 3, 166, (3, 3, 6, 1), 0, []),
  (20, false, .getfield 322, 3, 102, (4, 0, 21, 1), 0, []),
  (23, false, .iload_n 2, 1, 0, (0, 0, 0, 0), 0, []),
  (24, false, .aaload, 1, 0, (19, 0, 9, 0), 0, []),
  (25, false, .invokevirtual 352, 3, 612, (45, 2, 0, 0), 0, [9, 5]),
  (28, false, .ifCond .eq 22, 3, 0, (50, 0, 0, 0), 0, []),
  (31, false, .iload_n 1, 1, 0, (0, 0, 0, 0), 0, []),
  (32, false, .iconst (-1), 1, 0, (0, 0, 0, 0), 0, []),
  (33, false, .if_icmp .eq 15, 3, 0, (48, 0, 0, 0), 0, []),
  (36, false, .aload_n 0, 1, 0, (0, 0, 0, 0), 0, []),
  (37, false, .getfield 27, 3, 166, (3, 3, 6, 1), 0, []),
  (40, false, .iload_n 2, 1, 0, (0, 0, 0, 0), 0, []),
  (41, false, .iload_n 1, 1, 0, (0, 0, 0, 0), 0, []),
  (42, false, .invokevirtual 355, 3, 620, (80, 3, 0, 0), 0, [0, 0, 6]),
  (45, false, .ifCond .eq 5, 3, 0, (50, 0, 0, 0), 0, []),
  (48, false, .iload_n 2, 1, 0, (0, 0, 0, 0), 0, []),
  (49, false, .istore_n 1, 1, 0, (0, 0, 0, 0), 0, []),
  (50, false, .iinc 2 1, 3, 0, (0, 0, 0, 0), 0, []),
  (53, false, .goto (-49), 3, 0, (4, 0, 0, 0), 0, []),
  (56, false, .iload_n 1, 1, 0, (0, 0, 0, 0), 0, []),
  (57, false, .ireturn, 1, 0, (0, 0, 0, 0), 0, [])]
theorem zc_x_firstToBegin : zk_x_firstToBegin.all (zz_ck zz_inf zM_x_firstToBegin) = true ∧ zz_ch zk_x_firstToBegin = true := ⟨by decide +kernel, by decide +kernel⟩
noncomputable def x_firstToBegin_4 : Nat → Int → Int → zz_S → zz_R
  | 0, _, _, _ => none
  | n + 1, v1, v2, σ => (if v2 < (zz_h σ 4 1 3) then (if zz_b σ 19 1 v2 then ((x_mayBegin (zz_h σ 19 1 v2) σ).bind fun q1 => (if q1.1 = 0 then (x_firstToBegin_4 n v1 (zz_r (v2 + 1)) q1.2) else (if v1 = (-1) then (x_firstToBegin_4 n v2 (zz_r (v2 + 1)) q1.2) else ((xD_isAhead v2 v1 q1.2).bind fun q2 => (if q2.1 = 0 then (x_firstToBegin_4 n v1 (zz_r (v2 + 1)) q2.2) else (x_firstToBegin_4 n v2 (zz_r (v2 + 1)) q2.2)))))) else none) else (some (v1, σ)))
set_option maxRecDepth 100000 in
set_option maxHeartbeats 4000000 in
theorem ze_x_firstToBegin_4 (n : Nat) (v1 v2 : Int) (σ : zz_S) : x_firstToBegin_4 (n + 1) v1 v2 σ = zz_ev (zz_CE [(45, zw_x_mayBegin), (80, zw_xD_isAhead)]) (zz_KE [(4, [(0, 5, true), (1, 0, false), (2, 0, false)], zz_f2 (x_firstToBegin_4 n))]) zk_x_firstToBegin 0 false 0 0 400 true (zz_sk zk_x_firstToBegin 4) [(0, 5, 1), (1, 0, v1), (2, 0, v2)] [] σ := rfl
theorem zo_x_firstToBegin_4 : ∀ n : Nat, zz_okb zM_x_firstToBegin 4 [(0, 5, true), (1, 0, false), (2, 0, false)] (zz_f2 (x_firstToBegin_4 n))
  | 0 => fun vs σ r τ h => by
    obtain ⟨v1, v2, rfl, h⟩ := zz_f2_ok h
    exact nomatch (show (none : zz_R) = some (r, τ) from h)
  | n + 1 => by
    have ih := zo_x_firstToBegin_4 n
    exact fun vs σ r τ h => by
        obtain ⟨v1, v2, rfl, h⟩ := zz_f2_ok h
        exact zz_from zc_x_firstToBegin (zz_occ zo_m_x_mayBegin (zz_occ zo_m_xD_isAhead zz_oc0)) (zz_olc ih zz_ol0) ((ze_x_firstToBegin_4 n v1 v2 σ).symm.trans h)
noncomputable def x_firstToBegin (σ : zz_S) : zz_R := (x_firstToBegin_4 zz_fu (-1) 0 σ)
set_option maxRecDepth 100000 in
set_option maxHeartbeats 4000000 in
theorem ze_x_firstToBegin (σ : zz_S) : x_firstToBegin σ = zz_ev (zz_CE []) (zz_KE [(4, [(0, 5, true), (1, 0, false), (2, 0, false)], zz_f2 (x_firstToBegin_4 zz_fu))]) zk_x_firstToBegin 0 false 0 0 400 true (zz_sk zk_x_firstToBegin 0) [(0, 5, 1)] [] σ := rfl
theorem zo_x_firstToBegin : zz_okb zM_x_firstToBegin 0 [(0, 5, true)] (zz_f0 x_firstToBegin) :=
  fun vs σ r τ h => by
    obtain ⟨rfl, h⟩ := zz_f0_ok h
    exact zz_from zc_x_firstToBegin zz_oc0 (zz_olc (zo_x_firstToBegin_4 zz_fu) zz_ol0) ((ze_x_firstToBegin σ).symm.trans h)
noncomputable def zw_x_firstToBegin : List Int → zz_S → zz_R := zz_f1 fun a0 σ => if a0 = 1 then x_firstToBegin σ else none
theorem zo_m_x_firstToBegin : zz_okm zz_inf 44 zw_x_firstToBegin := fun vs σ r τ h => by
  obtain ⟨a0, rfl, h⟩ := zz_f1_ok h
  obtain ⟨e, h⟩ := zz_it h
  subst e
  exact zz_meth zi_x_firstToBegin zy_x_firstToBegin (zo_x_firstToBegin [] σ r τ h)
def zk_xR_new : List zz_E := [(0, false, .aload_n 0, 1, 0, (0, 0, 0, 0), 0, []),
  (1, false, .invokespecial 3, 3, 632, (0, 0, 0, 0), 0, []),
  (4, false, .aload_n 0, 1, 0, (0, 0, 0, 0), 0, []),
  (5, false, .iconst (-1), 1, 0, (0, 0, 0, 0), 0, []),
  (6, false, .putfield 9, 3, 649, (10, 8, 0, 0), 0, []),
  (9, false, .aload_n 0, 1, 0, (0, 0, 0, 0), 0, []),
  (10, false, .iconst 0, 1, 0, (0, 0, 0, 0), 0, []),
  (11, false, .putfield 15, 3, 651, (10, 9, 0, 0), 0, []),
  (14, false, .aload_n 0, 1, 0, (0, 0, 0, 0), 0, []),
  (15, false, .iconst (-1), 1, 0, (0, 0, 0, 0), 0, []),
  (16, false, .putfield 18, 3, 653, (10, 10, 0, 0), 0, []),
  (19, false, .aload_n 0, 1, 0, (0, 0, 0, 0), 0, []),
  (20, false, .iload_n 1, 1, 0, (0, 0, 0, 0), 0, []),
  (21, false, .putfield 21, 3, 633, (10, 0, 0, 0), 0, []),
  (24, false, .aload_n 0, 1, 0, (0, 0, 0, 0), 0, []),
  (25, false, .aload_n 2, 1, 0, (0, 0, 0, 0), 0, []),
  (26, false, .putfield 24, 3, 635, (10, 1, 9, 0), 0, []),
  (29, false, .aload_n 0, 1, 0, (0, 0, 0, 0), 0, []),
  (30, false, .aload_n 2, 1, 0, (0, 0, 0, 0), 0, []),
  (31, false, .getfield 28, 3, 328, (7, 14, 0, 0), 0, []),
  (34, false, .putfield 33, 3, 637, (10, 2, 0, 0), 0, []),
  (37, false, .aload_n 0, 1, 0, (0, 0, 0, 0), 0, []),
  (38, false, .iload_n 3, 1, 0, (0, 0, 0, 0), 0, []),
  (39, false, .putfield 36, 3, 639, (10, 3, 0, 0), 0, []),
  (42, false, .aload_n 0, 1, 0, (0, 0, 0, 0), 0, []),
  (43, false, .iload 4, 2, 0, (0, 0, 0, 0), 0, []),
  (45, false, .putfield 39, 3, 641, (10, 4, 0, 0), 0, []),
  (48, false, .aload_n 0, 1, 0, (0, 0, 0, 0), 0, []),
  (49, false, .iload 4, 2, 0, (0, 0, 0, 0), 0, []),
  (51, false, .aload_n 2, 1, 0, (0, 0, 0, 0), 0, []),
  (52, false, .getfield 40, 3, 307, (7, 4, 30, 1), 0, []),
  (55, false, .iconst 0, 1, 0, (0, 0, 0, 0), 0, []),
  (56, false, .iaload, 1, 0, (28, 0, 0, 0), 0, []),
  (57, false, .iadd, 1, 0, (0, 0, 0, 0), 0, []),
  (58, false, .putfield 44, 3, 643, (10, 5, 0, 0), 0, []),
  (61, false, .aload_n 0, 1, 0, (0, 0, 0, 0), 0, []),
  (62, false, .iload 5, 2, 0, (0, 0, 0, 0), 0, []),
  (64, false, .putfield 47, 3, 645, (10, 6, 0, 0), 0, []),
  (67, false, .aload_n 0, 1, 0, (0, 0, 0, 0), 0, []),
  (68, false, .aload_n 2, 1, 0, (0, 0, 0, 0), 0, []),
  (69, false, .getfield 40, 3, 307, (7, 4, 30, 1), 0, []),
  (72, false, .iconst 2, 1, 0, (0, 0, 0, 0), 0, []),
  (73, false, .iaload, 1, 0, (28, 0, 0, 0), 0, []),
  (74, false, .putfield 50, 3, 647, (10, 7, 0, 0), 0, []),
  (77, false, .return_, 1, 0, (0, 0, 0, 0), 0, [])]
theorem zc_xR_new : zk_xR_new.all (zz_ck zz_inf zM_xR_new) = true ∧ zz_ch zk_xR_new = true := ⟨by decide +kernel, by decide +kernel⟩
noncomputable def xR_new (v0 v1 v2 v3 v4 v5 : Int) (σ : zz_S) : zz_R := (let s1 := zz_w σ 10 v0 8 (-1); (let s2 := zz_w s1 10 v0 9 0; (let s3 := zz_w s2 10 v0 10 (-1); (let s4 := zz_w s3 10 v0 0 v1; (let s5 := zz_w s4 10 v0 1 v2; (if v2 = 0 then none else (let s6 := zz_w s5 10 v0 2 (zz_h s5 7 v2 14); (let s7 := zz_w s6 10 v0 3 v3; (let s8 := zz_w s7 10 v0 4 v4; (if v2 = 0 then none else (if v2 = 0 then none else (if zz_b s8 28 v2 0 then (let s9 := zz_w s8 10 v0 5 (zz_r (v4 + (zz_h s8 28 v2 0))); (let s10 := zz_w s9 10 v0 6 v5; (if v2 = 0 then none else (if v2 = 0 then none else (if zz_b s10 28 v2 2 then (let s11 := zz_w s10 10 v0 7 (zz_h s10 28 v2 2); (if zz_ow s11 10 v0 (zz_own 10) = true ∧ zz_m s11 10 + 1 = v0 then (some (0, zz_f s11 10)) else none)) else none))))) else none))))))))))))
set_option maxRecDepth 100000 in
set_option maxHeartbeats 4000000 in
theorem ze_xR_new (v0 v1 v2 v3 v4 v5 : Int) (σ : zz_S) : xR_new v0 v1 v2 v3 v4 v5 σ = zz_ev (zz_CE []) (zz_KE []) zk_xR_new 999 false 10 0 400 true (zz_sk zk_xR_new 0) [(0, 1010, v0), (1, 0, v1), (2, 9, v2), (3, 0, v3), (4, 0, v4), (5, 0, v5)] [] σ := rfl
theorem zo_xR_new : zz_okb zM_xR_new 0 [(0, 1010, false), (1, 0, false), (2, 9, false), (3, 0, false), (4, 0, false), (5, 0, false)] (zz_f6 xR_new) :=
  fun vs σ r τ h => by
    obtain ⟨v0, v1, v2, v3, v4, v5, rfl, h⟩ := zz_f6_ok h
    exact zz_from zc_xR_new zz_oc0 zz_ol0 ((ze_xR_new v0 v1 v2 v3 v4 v5 σ).symm.trans h)
noncomputable def zw_xR_new : List Int → zz_S → zz_R := zz_f6 fun a0 a1 a2 a3 a4 a5 σ => xR_new a0 a1 a2 a3 a4 a5 σ
theorem zo_m_xR_new : zz_okm zz_inf 106 zw_xR_new := fun vs σ r τ h => by
  obtain ⟨a0, a1, a2, a3, a4, a5, rfl, h⟩ := zz_f6_ok h
  exact zz_meth zi_xR_new zy_xR_new (zo_xR_new [a0, a1, a2, a3, a4, a5] σ r τ h)
def zk_x_beginRun : List zz_E := [(0, false, .aload_n 0, 1, 0, (0, 0, 0, 0), 0, []),
  (1, false, .getfield 27, 3, 166, (3, 3, 6, 1), 0, []),
  (4, false, .getfield 322, 3, 102, (4, 0, 21, 1), 0, []),
  (7, false, .iload_n 1, 1, 0, (0, 0, 0, 0), 0, []),
  (8, false, .aaload, 1, 0, (19, 0, 9, 0), 0, []),
  (9, false, .astore_n 3, 1, 0, (0, 0, 0, 0), 0, []),
  (10, false, .aload_n 3, 1, 0, (0, 0, 0, 0), 0, []),
  (11, false, .ifnull 22, 3, 0, (33, 0, 0, 0), 0, []),
  (14, false, .aload_n 0, 1, 0, (0, 0, 0, 0), 0, []),
  (15, false, .getfield 69, 3, 176, (3, 13, 0, 0), 0, []),
  (18, false, .bipush 8, 2, 0, (0, 0, 0, 0), 0, []),
  (20, false, .if_icmp .ge 13, 3, 0, (33, 0, 0, 0), 0, []),
  (23, false, .aload_n 0, 1, 0, (0, 0, 0, 0), 0, []),
  (24, false, .getfield 66, 3, 175, (3, 12, 0, 0), 0, []),
  (27, false, .sipush 2000, 3, 0, (0, 0, 0, 0), 0, []),
  (30, false, .if_icmp .lt 4, 3, 0, (34, 0, 0, 0), 0, []),
  (33, false, .return_, 1, 0, (0, 0, 0, 0), 0, []),
  (34, false, .aload_n 3, 1, 0, (0, 0, 0, 0), 0, []),
  (35, false, .dup, 1, 0, (0, 0, 0, 0), 0, []),
  (36, false, .getfield 364, 3, 330, (7, 14, 0, 0), 0, []),
  (39, false, .iconst 1, 1, 0, (0, 0, 0, 0), 0, []),
  (40, false, .iadd, 1, 0, (0, 0, 0, 0), 0, []),
  (41, false, .putfield 364, 3, 330, (7, 14, 0, 0), 0, []),
  (44, false, .aload_n 3, 1, 0, (0, 0, 0, 0), 0, []),
  (45, false, .dup, 1, 0, (0, 0, 0, 0), 0, []),
  (46, false, .getfield 264, 3, 332, (7, 15, 0, 0), 0, []),
  (49, false, .iconst 1, 1, 0, (0, 0, 0, 0), 0, []),
  (50, false, .iadd, 1, 0, (0, 0, 0, 0), 0, []),
  (51, false, .putfield 264, 3, 332, (7, 15, 0, 0), 0, []),
  (54, false, .new 15, 3, 92, (10, 0, 0, 0), 0, []),
  (57, false, .dup, 1, 0, (0, 0, 0, 0), 0, []),
  (58, false, .aload_n 0, 1, 0, (0, 0, 0, 0), 0, []),
  (59, false, .getfield 66, 3, 175, (3, 12, 0, 0), 0, []),
  (62, false, .aload_n 3, 1, 0, (0, 0, 0, 0), 0, []),
  (63, false, .aload_n 0, 1, 0, (0, 0, 0, 0), 0, []),
  (64, false, .getfield 27, 3, 166, (3, 3, 6, 1), 0, []),
  (67, false, .getfield 334, 3, 104, (4, 1, 22, 1), 0, []),
  (70, false, .iload_n 1, 1, 0, (0, 0, 0, 0), 0, []),
  (71, false, .iaload, 1, 0, (20, 0, 0, 0), 0, []),
  (72, false, .aload_n 0, 1, 0, (0, 0, 0, 0), 0, []),
  (73, false, .getfield 78, 3, 179, (3, 16, 0, 0), 0, []),
  (76, false, .iload_n 2, 1, 0, (0, 0, 0, 0), 0, []),
  (77, false, .invokespecial 367, 3, 629, (106, 10, 999, 0), 0, [0, 0, 0, 9, 0, 1010]),
  (80, false, .astore 4, 2, 0, (0, 0, 0, 0), 0, []),
  (82, false, .aload_n 0, 1, 0, (0, 0, 0, 0), 0, []),
  (83, false, .getfield 27, 3, 166, (3, 3, 6, 1), 0, []),
  (86, false, .iload_n 1, 1, 0, (0, 0, 0, 0), 0, []),
  (87, false, .invokevirtual 340, 3, 595, (77, 2, 999, 0), 0, [0, 6]),
  (90, false, .aload_n 0, 1, 0, (0, 0, 0, 0), 0, []),
  (91, false, .getfield 17, 3, 164, (3, 1, 14, 1), 0, []),
  (94, false, .aload_n 0, 1, 0, (0, 0, 0, 0), 0, []),
  (95, false, .getfield 66, 3, 175, (3, 12, 0, 0), 0, []),
  (98, false, .aload 4, 2, 0, (0, 0, 0, 0), 0, []),
  (100, false, .aastore, 1, 0, (12, 0, 12, 0), 0, []),
  (101, false, .aload_n 0, 1, 0, (0, 0, 0, 0), 0, []),
  (102, false, .dup, 1, 0, (0, 0, 0, 0), 0, []),
  (103, false, .getfield 66, 3, 175, (3, 12, 0, 0), 0, []),
  (106, false, .iconst 1, 1, 0, (0, 0, 0, 0), 0, []),
  (107, false, .iadd, 1, 0, (0, 0, 0, 0), 0, []),
  (108, false, .putfield 66, 3, 175, (3, 12, 0, 0), 0, []),
  (111, false, .aload_n 0, 1, 0, (0, 0, 0, 0), 0, []),
  (112, false, .getfield 21, 3, 165, (3, 2, 15, 1), 0, []),
  (115, false, .aload_n 0, 1, 0, (0, 0, 0, 0), 0, []),
  (116, false, .getfield 69, 3, 176, (3, 13, 0, 0), 0, []),
  (119, false, .aload 4, 2, 0, (0, 0, 0, 0), 0, []),
  (121, false, .aastore, 1, 0, (13, 0, 12, 0), 0, []),
  (122, false, .aload_n 0, 1, 0, (0, 0, 0, 0), 0, []),
  (123, false, .dup, 1, 0, (0, 0, 0, 0), 0, []),
  (124, false, .getfield 69, 3, 176, (3, 13, 0, 0), 0, []),
  (127, false, .iconst 1, 1, 0, (0, 0, 0, 0), 0, []),
  (128, false, .iadd, 1, 0, (0, 0, 0, 0), 0, []),
  (129, false, .putfield 69, 3, 176, (3, 13, 0, 0), 0, []),
  (132, false, .aload_n 0, 1, 0, (0, 0, 0, 0), 0, []),
  (133, false, .getfield 52, 3, 171, (3, 8, 18, 1), 0, []),
  (136, false, .iload_n 2, 1, 0, (0, 0, 0, 0), 0, []),
  (137, false, .iconst 1, 1, 0, (0, 0, 0, 0), 0, []),
  (138, false, .bastore, 1, 0, (16, 0, 0, 0), 0, []),
  (139, false, .return_, 1, 0, (0, 0, 0, 0), 0, [])]
theorem zc_x_beginRun : zk_x_beginRun.all (zz_ck zz_inf zM_x_beginRun) = true ∧ zz_ch zk_x_beginRun = true := ⟨by decide +kernel, by decide +kernel⟩
noncomputable def x_beginRun (v1 v2 : Int) (σ : zz_S) : zz_R := (if zz_b σ 19 1 v1 then (if (zz_h σ 19 1 v1) = 0 then (some (0, σ)) else (if (zz_h σ 3 1 13) < 8 then (if (zz_h σ 3 1 12) < 2000 then (if (zz_h σ 19 1 v1) = 0 then none else (if (zz_h σ 19 1 v1) = 0 then none else (let s1 := zz_w σ 7 (zz_h σ 19 1 v1) 14 (zz_r ((zz_h σ 7 (zz_h σ 19 1 v1) 14) + 1)); (if (zz_h σ 19 1 v1) = 0 then none else (if (zz_h σ 19 1 v1) = 0 then none else (let s2 := zz_w s1 7 (zz_h σ 19 1 v1) 15 (zz_r ((zz_h s1 7 (zz_h σ 19 1 v1) 15) + 1)); (let s3 := zz_n s2 10 0 11; (if zz_b s3 20 1 v1 then ((xR_new (zz_c s2 10 + 1) (zz_h s3 3 1 12) (zz_h σ 19 1 v1) (zz_h s3 20 1 v1) (zz_h s3 3 1 16) v2 s3).bind fun q4 => (if zz_c q4.2 10 = zz_m q4.2 10 then ((xD_remove v1 q4.2).bind fun q5 => (if zz_b q5.2 12 1 (zz_h q5.2 3 1 12) then (if (zz_c s2 10 + 1) = 0 then none else (let s6 := zz_w q5.2 12 1 (zz_h q5.2 3 1 12) (zz_c s2 10 + 1); (let s7 := zz_w s6 3 1 12 (zz_r ((zz_h s6 3 1 12) + 1)); (if zz_b s7 13 1 (zz_h s7 3 1 13) then (if (zz_c s2 10 + 1) = 0 then none else (let s8 := zz_w s7 13 1 (zz_h s7 3 1 13) (zz_c s2 10 + 1); (let s9 := zz_w s8 3 1 13 (zz_r ((zz_h s8 3 1 13) + 1)); (if zz_b s9 16 1 v2 then (let s10 := zz_w s9 16 1 v2 1; (some (0, s10))) else none)))) else none)))) else none)) else none)) else none)))))))) else (some (0, σ))) else (some (0, σ)))) else none)
set_option maxRecDepth 100000 in
set_option maxHeartbeats 4000000 in
theorem ze_x_beginRun (v1 v2 : Int) (σ : zz_S) : x_beginRun v1 v2 σ = zz_ev (zz_CE [(77, zw_xD_remove), (106, zw_xR_new)]) (zz_KE []) zk_x_beginRun 999 false 0 0 400 true (zz_sk zk_x_beginRun 0) [(0, 5, 1), (1, 0, v1), (2, 0, v2)] [] σ := rfl
theorem zo_x_beginRun : zz_okb zM_x_beginRun 0 [(0, 5, true), (1, 0, false), (2, 0, false)] (zz_f2 x_beginRun) :=
  fun vs σ r τ h => by
    obtain ⟨v1, v2, rfl, h⟩ := zz_f2_ok h
    exact zz_from zc_x_beginRun (zz_occ zo_m_xD_remove (zz_occ zo_m_xR_new zz_oc0)) zz_ol0 ((ze_x_beginRun v1 v2 σ).symm.trans h)
noncomputable def zw_x_beginRun : List Int → zz_S → zz_R := zz_f3 fun a0 a1 a2 σ => if a0 = 1 then x_beginRun a1 a2 σ else none
theorem zo_m_x_beginRun : zz_okm zz_inf 47 zw_x_beginRun := fun vs σ r τ h => by
  obtain ⟨a0, a1, a2, rfl, h⟩ := zz_f3_ok h
  obtain ⟨e, h⟩ := zz_it h
  subst e
  exact zz_meth zi_x_beginRun zy_x_beginRun (zo_x_beginRun [a1, a2] σ r τ h)
def zk_x_beginRuns : List zz_E := [(0, false, .iconst 0, 1, 0, (0, 0, 0, 0), 0, []),
  (1, false, .istore_n 1, 1, 0, (0, 0, 0, 0), 0, []),
  (2, true, .iload_n 1, 1, 0, (0, 0, 0, 0), 0, []),
  (3, false, .bipush 8, 2, 0, (0, 0, 0, 0), 0, []),
  (5, false, .if_icmp .ge 47, 3, 0, (52, 0, 0, 0), 0, []),
  (8, false, .aload_n 0, 1, 0, (0, 0, 0, 0), 0, []),
  (9, false, .invokevirtual 343, 3, 604, (43, 1, 0, 0), 0, [5]),
  (12, false, .istore_n 2, 1, 0, (0, 0, 0, 0), 0, []),
  (13, false, .iload_n 2, 1, 0, (0, 0, 0, 0), 0, []),
  (14, false, .iconst (-1), 1, 0, (0, 0, 0, 0), 0, []),
  (15, false, .if_icmp .eq 13, 3, 0, (28, 0, 0, 0), 0, []),
  (18, false, .aload_n 0, 1, 0, (0, 0, 0, 0), 0, []),
  (19, false, .getfield 66, 3, 175, (3, 12, 0, 0), 0, []),
  (22, false, .sipush 2000, 3, 0, (0, 0, 0, 0), 0, []),
  (25, false, .if_icmp .lt 4, 3, 0, (29, 0, 0, 0), 0, []),
  (28, false, .return_, 1, 0, (0, 0, 0, 0), 0, []),
  (29, false, .aload_n 0, 1, 0, (0, 0, 0, 0), 0, []),
  (30, false, .invokevirtual 346, 3, 608, (44, 1, 0, 0), 0, [5]),
  (33, false, .istore_n 3, 1, 0, (0, 0, 0, 0), 0, []),
  (34, false, .iload_n 3, 1, 0, (0, 0, 0, 0), 0, []),
  (35, false, .iconst (-1), 1, 0, (0, 0, 0, 0), 0, []),
  (36, false, .if_icmp .ne 4, 3, 0, (40, 0, 0, 0), 0, []),
  (39, false, .return_, 1, 0, (0, 0, 0, 0), 0, []),
  (40, false, .aload_n 0, 1, 0, (0, 0, 0, 0), 0, []),
  (41, false, .iload_n 3, 1, 0, (0, 0, 0, 0), 0, []),
  (42, false, .iload_n 2, 1, 0, (0, 0, 0, 0), 0, []),
  (43, false, .invokevirtual 349, 3, 624, (47, 3, 999, 0), 0, [0, 0, 5]),
  (46, false, .iinc 1 1, 3, 0, (0, 0, 0, 0), 0, []),
  (49, false, .goto (-47), 3, 0, (2, 0, 0, 0), 0, []),
  (52, false, .return_, 1, 0, (0, 0, 0, 0), 0, [])]
theorem zc_x_beginRuns : zk_x_beginRuns.all (zz_ck zz_inf zM_x_beginRuns) = true ∧ zz_ch zk_x_beginRuns = true := ⟨by decide +kernel, by decide +kernel⟩
noncomputable def x_beginRuns_2 : Nat → Int → zz_S → zz_R
  | 0, _, _ => none
  | n + 1, v1, σ => (if v1 < 8 then ((x_freeWorker σ).bind fun q1 => (if q1.1 = (-1) then (some (0, q1.2)) else (if (zz_h q1.2 3 1 12) < 2000 then ((x_firstToBegin q1.2).bind fun q2 => (if q2.1 = (-1) then (some (0, q2.2)) else ((x_beginRun q2.1 q1.1 q2.2).bind fun q3 => (x_beginRuns_2 n (zz_r (v1 + 1)) q3.2)))) else (some (0, q1.2))))) else (some (0, σ)))
set_option maxRecDepth 100000 in
set_option maxHeartbeats 4000000 in
theorem ze_x_beginRuns_2 (n : Nat) (v1 : Int) (σ : zz_S) : x_beginRuns_2 (n + 1) v1 σ = zz_ev (zz_CE [(43, zw_x_freeWorker), (44, zw_x_firstToBegin), (47, zw_x_beginRun)]) (zz_KE [(2, [(0, 5, true), (1, 0, false)], zz_f1 (x_beginRuns_2 n))]) zk_x_beginRuns 999 false 0 0 400 true (zz_sk zk_x_beginRuns 2) [(0, 5, 1), (1, 0, v1)] [] σ := rfl
theorem zo_x_beginRuns_2 : ∀ n : Nat, zz_okb zM_x_beginRuns 2 [(0, 5, true), (1, 0, false)] (zz_f1 (x_beginRuns_2 n))
  | 0 => fun vs σ r τ h => by
    obtain ⟨v1, rfl, h⟩ := zz_f1_ok h
    exact nomatch (show (none : zz_R) = some (r, τ) from h)
  | n + 1 => by
    have ih := zo_x_beginRuns_2 n
    exact fun vs σ r τ h => by
        obtain ⟨v1, rfl, h⟩ := zz_f1_ok h
        exact zz_from zc_x_beginRuns (zz_occ zo_m_x_freeWorker (zz_occ zo_m_x_firstToBegin (zz_occ zo_m_x_beginRun zz_oc0))) (zz_olc ih zz_ol0) ((ze_x_beginRuns_2 n v1 σ).symm.trans h)
noncomputable def x_beginRuns (σ : zz_S) : zz_R := (x_beginRuns_2 zz_fu 0 σ)
set_option maxRecDepth 100000 in
set_option maxHeartbeats 4000000 in
theorem ze_x_beginRuns (σ : zz_S) : x_beginRuns σ = zz_ev (zz_CE []) (zz_KE [(2, [(0, 5, true), (1, 0, false)], zz_f1 (x_beginRuns_2 zz_fu))]) zk_x_beginRuns 999 false 0 0 400 true (zz_sk zk_x_beginRuns 0) [(0, 5, 1)] [] σ := rfl
theorem zo_x_beginRuns : zz_okb zM_x_beginRuns 0 [(0, 5, true)] (zz_f0 x_beginRuns) :=
  fun vs σ r τ h => by
    obtain ⟨rfl, h⟩ := zz_f0_ok h
    exact zz_from zc_x_beginRuns zz_oc0 (zz_olc (zo_x_beginRuns_2 zz_fu) zz_ol0) ((ze_x_beginRuns σ).symm.trans h)
noncomputable def zw_x_beginRuns : List Int → zz_S → zz_R := zz_f1 fun a0 σ => if a0 = 1 then x_beginRuns σ else none
theorem zo_m_x_beginRuns : zz_okm zz_inf 42 zw_x_beginRuns := fun vs σ r τ h => by
  obtain ⟨a0, rfl, h⟩ := zz_f1_ok h
  obtain ⟨e, h⟩ := zz_it h
  subst e
  exact zz_meth zi_x_beginRuns zy_x_beginRuns (zo_x_beginRuns [] σ r τ h)
def zk_x_treatMinute : List zz_E := [(0, false, .aload_n 0, 1, 0, (0, 0, 0, 0), 0, []),
  (1, false, .invokevirtual 180, 3, 463, (26, 1, 999, 0), 0, [5]),
  (4, false, .aload_n 0, 1, 0, (0, 0, 0, 0), 0, []),
  (5, false, .invokevirtual 183, 3, 542, (34, 1, 999, 0), 0, [5]),
  (8, false, .aload_n 0, 1, 0, (0, 0, 0, 0), 0, []),
  (9, false, .invokevirtual 186, 3, 583, (39, 1, 999, 0), 0, [5]),
  (12, false, .aload_n 0, 1, 0, (0, 0, 0, 0), 0, []),
  (13, false, .invokevirtual 189, 3, 600, (42, 1, 999, 0), 0, [5]),
  (16, false, .iconst 0, 1, 0, (0, 0, 0, 0), 0, []),
  (17, false, .istore_n 1, 1, 0, (0, 0, 0, 0), 0, []),
  (18, true, .iload_n 1, 1, 0, (0, 0, 0, 0), 0, []),
  (19, false, .aload_n 0, 1, 0, (0, 0, 0, 0), 0, []),
  (20, false, .getfield 75, 3, 178, (3, 15, 0, 0), 0, []),
  (23, false, .if_icmp .ge 28, 3, 0, (51, 0, 0, 0), 0, []),
  (26, false, .aload_n 0, 1, 0, (0, 0, 0, 0), 0, []),
  (27, false, .getfield 52, 3, 171, (3, 8, 18, 1), 0, []),
  (30, false, .iload_n 1, 1, 0, (0, 0, 0, 0), 0, []),
  (31, false, .baload, 1, 0, (16, 0, 0, 0), 0, []),
  (32, false, .ifCond .ne 13, 3, 0, (45, 0, 0, 0), 0, []),
  (35, false, .aload_n 0, 1, 0, (0, 0, 0, 0), 0, []),
  (36, false, .getfield 49, 3, 170, (3, 7, 17, 1), 0, []),
  (39, false, .iload_n 1, 1, 0, (0, 0, 0, 0), 0, []),
  (40, false, .dup2, 1, 0, (0, 0, 0, 0), 0, []),
  (41, false, .iaload, 1, 0, (15, 0, 0, 0), 0, []),
  (42, false, .iconst 1, 1, 0, (0, 0, 0, 0), 0, []),
  (43, false, .iadd, 1, 0, (0, 0, 0, 0), 0, []),
  (44, false, .iastore, 1, 0, (15, 0, 0, 0), 0, []),
  (45, false, .iinc 1 1, 3, 0, (0, 0, 0, 0), 0, []),
  (48, false, .goto (-30), 3, 0, (18, 0, 0, 0), 0, []),
  (51, false, .aload_n 0, 1, 0, (0, 0, 0, 0), 0, []),
  (52, false, .dup, 1, 0, (0, 0, 0, 0), 0, []),
  (53, false, .getfield 78, 3, 179, (3, 16, 0, 0), 0, []),
  (56, false, .iconst 1, 1, 0, (0, 0, 0, 0), 0, []),
  (57, false, .iadd, 1, 0, (0, 0, 0, 0), 0, []),
  (58, false, .putfield 78, 3, 179, (3, 16, 0, 0), 0, []),
  (61, false, .return_, 1, 0, (0, 0, 0, 0), 0, [])]
theorem zc_x_treatMinute : zk_x_treatMinute.all (zz_ck zz_inf zM_x_treatMinute) = true ∧ zz_ch zk_x_treatMinute = true := ⟨by decide +kernel, by decide +kernel⟩
noncomputable def x_treatMinute_18 : Nat → Int → zz_S → zz_R
  | 0, _, _ => none
  | n + 1, v1, σ => (if v1 < (zz_h σ 3 1 15) then (if zz_b σ 16 1 v1 then (if (zz_h σ 16 1 v1) = 0 then (if zz_b σ 15 1 v1 then (if zz_b σ 15 1 v1 then (let s1 := zz_w σ 15 1 v1 (zz_r ((zz_h σ 15 1 v1) + 1)); (x_treatMinute_18 n (zz_r (v1 + 1)) s1)) else none) else none) else (x_treatMinute_18 n (zz_r (v1 + 1)) σ)) else none) else (let s2 := zz_w σ 3 1 16 (zz_r ((zz_h σ 3 1 16) + 1)); (some (0, s2))))
set_option maxRecDepth 100000 in
set_option maxHeartbeats 4000000 in
theorem ze_x_treatMinute_18 (n : Nat) (v1 : Int) (σ : zz_S) : x_treatMinute_18 (n + 1) v1 σ = zz_ev (zz_CE []) (zz_KE [(18, [(0, 5, true), (1, 0, false)], zz_f1 (x_treatMinute_18 n))]) zk_x_treatMinute 999 false 0 0 400 true (zz_sk zk_x_treatMinute 18) [(0, 5, 1), (1, 0, v1)] [] σ := rfl
theorem zo_x_treatMinute_18 : ∀ n : Nat, zz_okb zM_x_treatMinute 18 [(0, 5, true), (1, 0, false)] (zz_f1 (x_treatMinute_18 n))
  | 0 => fun vs σ r τ h => by
    obtain ⟨v1, rfl, h⟩ := zz_f1_ok h
    exact nomatch (show (none : zz_R) = some (r, τ) from h)
  | n + 1 => by
    have ih := zo_x_treatMinute_18 n
    exact fun vs σ r τ h => by
        obtain ⟨v1, rfl, h⟩ := zz_f1_ok h
        exact zz_from zc_x_treatMinute zz_oc0 (zz_olc ih zz_ol0) ((ze_x_treatMinute_18 n v1 σ).symm.trans h)
noncomputable def x_treatMinute (σ : zz_S) : zz_R := ((x_endRuns σ).bind fun q1 => ((x_bringDues q1.2).bind fun q2 => ((x_missDues q2.2).bind fun q3 => ((x_beginRuns q3.2).bind fun q4 => (x_treatMinute_18 zz_fu 0 q4.2)))))
set_option maxRecDepth 100000 in
set_option maxHeartbeats 4000000 in
theorem ze_x_treatMinute (σ : zz_S) : x_treatMinute σ = zz_ev (zz_CE [(26, zw_x_endRuns), (34, zw_x_bringDues), (39, zw_x_missDues), (42, zw_x_beginRuns)]) (zz_KE [(18, [(0, 5, true), (1, 0, false)], zz_f1 (x_treatMinute_18 zz_fu))]) zk_x_treatMinute 999 false 0 0 400 true (zz_sk zk_x_treatMinute 0) [(0, 5, 1)] [] σ := rfl
theorem zo_x_treatMinute : zz_okb zM_x_treatMinute 0 [(0, 5, true)] (zz_f0 x_treatMinute) :=
  fun vs σ r τ h => by
    obtain ⟨rfl, h⟩ := zz_f0_ok h
    exact zz_from zc_x_treatMinute (zz_occ zo_m_x_endRuns (zz_occ zo_m_x_bringDues (zz_occ zo_m_x_missDues (zz_occ zo_m_x_beginRuns zz_oc0)))) (zz_olc (zo_x_treatMinute_18 zz_fu) zz_ol0) ((ze_x_treatMinute σ).symm.trans h)
noncomputable def zw_x_treatMinute : List Int → zz_S → zz_R := zz_f1 fun a0 σ => if a0 = 1 then x_treatMinute σ else none
theorem zo_m_x_treatMinute : zz_okm zz_inf 25 zw_x_treatMinute := fun vs σ r τ h => by
  obtain ⟨a0, rfl, h⟩ := zz_f1_ok h
  obtain ⟨e, h⟩ := zz_it h
  subst e
  exact zz_meth zi_x_treatMinute zy_x_treatMinute (zo_x_treatMinute [] σ r τ h)
def zk_x_clock : List zz_E := [(0, false, .iload_n 1, 1, 0, (0, 0, 0, 0), 0, []),
  (1, false, .aload_n 0, 1, 0, (0, 0, 0, 0), 0, []),
  (2, false, .getfield 78, 3, 179, (3, 16, 0, 0), 0, []),
  (5, false, .aload_n 0, 1, 0, (0, 0, 0, 0), 0, []),
  (6, false, .getfield 78, 3, 179, (3, 16, 0, 0), 0, []),
  (9, false, .sipush 5000, 3, 0, (0, 0, 0, 0), 0, []),
  (12, false, .iadd, 1, 0, (0, 0, 0, 0), 0, []),
  (13, false, .ldc 95, 2, 239, (0, 0, 0, 0), 400000, []),
  (15, false, .invokestatic 172, 3, 456, (169, 2, 0, 0), 0, [0, 0]),
  (18, false, .invokestatic 91, 3, 228, (72, 3, 0, 0), 0, [0, 0, 0]),
  (21, false, .ifCond .ne 6, 3, 0, (27, 0, 0, 0), 0, []),
  (24, false, .bipush (-2), 2, 0, (0, 0, 0, 0), 0, []),
  (26, false, .ireturn, 1, 0, (0, 0, 0, 0), 0, []),
  (27, false, .aload_n 0, 1, 0, (0, 0, 0, 0), 0, []),
  (28, false, .getfield 66, 3, 175, (3, 12, 0, 0), 0, []),
  (31, false, .istore_n 2, 1, 0, (0, 0, 0, 0), 0, []),
  (32, false, .iload_n 1, 1, 0, (0, 0, 0, 0), 0, []),
  (33, false, .aload_n 0, 1, 0, (0, 0, 0, 0), 0, []),
  (34, false, .getfield 78, 3, 179, (3, 16, 0, 0), 0, []),
  (37, false, .isub, 1, 0, (0, 0, 0, 0), 0, []),
  (38, false, .istore_n 3, 1, 0, (0, 0, 0, 0), 0, []),
  (39, false, .iconst 0, 1, 0, (0, 0, 0, 0), 0, []),
  (40, false, .istore 4, 2, 0, (0, 0, 0, 0), 0, []),
  (42, true, .iload 4, 2, 0, (0, 0, 0, 0), 0, []),
  (44, false, .iload_n 3, 1, 0, (0, 0, 0, 0), 0, []),
  (45, false, .if_icmp .ge 13, 3, 0, (58, 0, 0, 0), 0, []),
  (48, false, .aload_n 0, 1, 0, (0, 0, 0, 0), 0, []),
  (49, false, .invokevirtual 177, 3, 459, (25, 1, 999, 0), 0, [5]),
  (52, false, .iinc 4 1, 3, 0, (0, 0, 0, 0), 0, []),
  (55, false, .goto (-13), 3, 0, (42, 0, 0, 0), 0, []),
  (58, false, .aload_n 0, 1, 0, (0, 0, 0, 0), 0, []),
  (59, false, .getfield 66, 3, 175, (3, 12, 0, 0), 0, []),
  (62, false, .iload_n 2, 1, 0, (0, 0, 0, 0), 0, []),
  (63, false, .isub, 1, 0, (0, 0, 0, 0), 0, []),
  (64, false, .ireturn, 1, 0, (0, 0, 0, 0), 0, [])]
theorem zc_x_clock : zk_x_clock.all (zz_ck zz_inf zM_x_clock) = true ∧ zz_ch zk_x_clock = true := ⟨by decide +kernel, by decide +kernel⟩
noncomputable def x_clock_42 : Nat → Int → Int → Int → zz_S → zz_R
  | 0, _, _, _, _ => none
  | n + 1, v2, v3, v4, σ => (if v4 < v3 then ((x_treatMinute σ).bind fun q1 => (x_clock_42 n v2 v3 (zz_r (v4 + 1)) q1.2)) else (some ((zz_r ((zz_h σ 3 1 12) - v2)), σ)))
set_option maxRecDepth 100000 in
set_option maxHeartbeats 4000000 in
theorem ze_x_clock_42 (n : Nat) (v2 v3 v4 : Int) (σ : zz_S) : x_clock_42 (n + 1) v2 v3 v4 σ = zz_ev (zz_CE [(25, zw_x_treatMinute)]) (zz_KE [(42, [(0, 5, true), (2, 0, false), (3, 0, false), (4, 0, false)], zz_f3 (x_clock_42 n))]) zk_x_clock 0 false 0 0 400 true (zz_sk zk_x_clock 42) [(0, 5, 1), (2, 0, v2), (3, 0, v3), (4, 0, v4)] [] σ := rfl
theorem zo_x_clock_42 : ∀ n : Nat, zz_okb zM_x_clock 42 [(0, 5, true), (2, 0, false), (3, 0, false), (4, 0, false)] (zz_f3 (x_clock_42 n))
  | 0 => fun vs σ r τ h => by
    obtain ⟨v2, v3, v4, rfl, h⟩ := zz_f3_ok h
    exact nomatch (show (none : zz_R) = some (r, τ) from h)
  | n + 1 => by
    have ih := zo_x_clock_42 n
    exact fun vs σ r τ h => by
        obtain ⟨v2, v3, v4, rfl, h⟩ := zz_f3_ok h
        exact zz_from zc_x_clock (zz_occ zo_m_x_treatMinute zz_oc0) (zz_olc ih zz_ol0) ((ze_x_clock_42 n v2 v3 v4 σ).symm.trans h)
noncomputable def x_clock (v1 : Int) (σ : zz_S) : zz_R := ((j_min (zz_r ((zz_h σ 3 1 16) + 5000)) 400000 σ).bind fun q1 => ((x_isWithin v1 (zz_h σ 3 1 16) q1.1 q1.2).bind fun q2 => (if q2.1 = 0 then (some ((-2), q2.2)) else (x_clock_42 zz_fu (zz_h q2.2 3 1 12) (zz_r (v1 - (zz_h q2.2 3 1 16))) 0 q2.2))))
set_option maxRecDepth 100000 in
set_option maxHeartbeats 4000000 in
theorem ze_x_clock (v1 : Int) (σ : zz_S) : x_clock v1 σ = zz_ev (zz_CE [(72, zw_x_isWithin), (169, zw_j_min)]) (zz_KE [(42, [(0, 5, true), (2, 0, false), (3, 0, false), (4, 0, false)], zz_f3 (x_clock_42 zz_fu))]) zk_x_clock 0 false 0 0 400 true (zz_sk zk_x_clock 0) [(0, 5, 1), (1, 0, v1)] [] σ := rfl
theorem zo_x_clock : zz_okb zM_x_clock 0 [(0, 5, true), (1, 0, false)] (zz_f1 x_clock) :=
  fun vs σ r τ h => by
    obtain ⟨v1, rfl, h⟩ := zz_f1_ok h
    exact zz_from zc_x_clock (zz_occ zo_m_x_isWithin (zz_occ zo_m_j_min zz_oc0)) (zz_olc (zo_x_clock_42 zz_fu) zz_ol0) ((ze_x_clock v1 σ).symm.trans h)
noncomputable def zw_x_clock : List Int → zz_S → zz_R := zz_f2 fun a0 a1 σ => if a0 = 1 then x_clock a1 σ else none
theorem zo_m_x_clock : zz_okm zz_inf 24 zw_x_clock := fun vs σ r τ h => by
  obtain ⟨a0, a1, rfl, h⟩ := zz_f2_ok h
  obtain ⟨e, h⟩ := zz_it h
  subst e
  exact zz_meth zi_x_clock zy_x_clock (zo_x_clock [a1] σ r τ h)
def zk_xC_firstFit : List zz_E := [(0, false, .aload_n 0, 1, 0, (0, 0, 0, 0), 0, []),
  (1, false, .getfield 17, 3, 255, (8, 1, 1, 0), 0, []),
  (4, false, .lconst 0, 1, 0, (0, 0, 0, 0), 0, []),
  (5, false, .lcmp, 1, 0, (0, 0, 0, 0), 0, []),
  (6, false, .ifCond .eq 17, 3, 0, (23, 0, 0, 0), 0, []),
  (9, false, .aload_n 0, 1, 0, (0, 0, 0, 0), 0, []),
  (10, false, .getfield 21, 3, 256, (8, 2, 0, 0), 0, []),
  (13, false, .ifCond .eq 10, 3, 0, (23, 0, 0, 0), 0, []),
  (16, false, .aload_n 0, 1, 0, (0, 0, 0, 0), 0, []),
  (17, false, .getfield 24, 3, 257, (8, 3, 0, 0), 0, []),
  (20, false, .ifCond .ne 5, 3, 0, (25, 0, 0, 0), 0, []),
  (23, false, .iconst (-1), 1, 0, (0, 0, 0, 0), 0, []),
  (24, false, .ireturn, 1, 0, (0, 0, 0, 0), 0, []),
  (25, false, .iload_n 1, 1, 0, (0, 0, 0, 0), 0, []),
  (26, false, .iconst 0, 1, 0, (0, 0, 0, 0), 0, []),
  (27, false, .invokestatic 69, 3, 694, (168, 2, 0, 0), 0, [0, 0]),
  (30, false, .istore_n 3, 1, 0, (0, 0, 0, 0), 0, []),
  (31, true, .iload_n 3, 1, 0, (0, 0, 0, 0), 0, []),
  (32, false, .iload_n 2, 1, 0, (0, 0, 0, 0), 0, []),
  (33, false, .if_icmp .gt 73, 3, 0, (106, 0, 0, 0), 0, []),
  (36, false, .iload_n 3, 1, 0, (0, 0, 0, 0), 0, []),
  (37, false, .ldc 75, 2, 695, (0, 0, 0, 0), 525600, []),
  (39, false, .if_icmp .ge 67, 3, 0, (106, 0, 0, 0), 0, []),
  (42, false, .aload_n 0, 1, 0, (0, 0, 0, 0), 0, []),
  (43, false, .iload_n 3, 1, 0, (0, 0, 0, 0), 0, []),
  (44, false, .sipush 1440, 3, 0, (0, 0, 0, 0), 0, []),
  (47, false, .idiv, 1, 0, (0, 0, 0, 0), 0, []),
  (48, false, .invokevirtual 59, 3, 570, (100, 2, 0, 0), 0, [0, 10]),
  (51, false, .ifCond .ne 18, 3, 0, (69, 0, 0, 0), 0, []),
  (54, false, .iload_n 3, 1, 0, (0, 0, 0, 0), 0, []),
  (55, false, .sipush 1440, 3, 0, (0, 0, 0, 0), 0, []),
  (58, false, .idiv, 1, 0, (0, 0, 0, 0), 0, []),
  (59, false, .iconst 1, 1, 0, (0, 0, 0, 0), 0, []),
  (60, false, .iadd, 1, 0, (0, 0, 0, 0), 0, []),
  (61, false, .sipush 1440, 3, 0, (0, 0, 0, 0), 0, []),
  (64, false, .imul, 1, 0, (0, 0, 0, 0), 0, []),
  (65, false, .istore_n 3, 1, 0, (0, 0, 0, 0), 0, []),
  (66, false, .goto (-35), 3, 0, (31, 0, 0, 0), 0, []),
  (69, false, .aload_n 0, 1, 0, (0, 0, 0, 0), 0, []),
  (70, false, .iload_n 3, 1, 0, (0, 0, 0, 0), 0, []),
  (71, false, .invokevirtual 56, 3, 566, (99, 2, 0, 0), 0, [0, 10]),
  (74, false, .ifCond .ne 16, 3, 0, (90, 0, 0, 0), 0, []),
  (77, false, .iload_n 3, 1, 0, (0, 0, 0, 0), 0, []),
  (78, false, .bipush 60, 2, 0, (0, 0, 0, 0), 0, []),
  (80, false, .idiv, 1, 0, (0, 0, 0, 0), 0, []),
  (81, false, .iconst 1, 1, 0, (0, 0, 0, 0), 0, []),
  (82, false, .iadd, 1, 0, (0, 0, 0, 0), 0, []),
  (83, false, .bipush 60, 2, 0, (0, 0, 0, 0), 0, []),
  (85, false, .imul, 1, 0, (0, 0, 0, 0), 0, []),
  (86, false, .istore_n 3, 1, 0, (0, 0, 0, 0), 0, []),
  (87, false, .goto (-56), 3, 0, (31, 0, 0, 0), 0, []),
  (90, false, .aload_n 0, 1, 0, (0, 0, 0, 0), 0, []),
  (91, false, .iload_n 3, 1, 0, (0, 0, 0, 0), 0, []),
  (92, false, .invokevirtual 52, 3, 562, (98, 2, 0, 0), 0, [0, 10]),
  (95, false, .ifCond .ne 9, 3, 0, (104, 0, 0, 0), 0, []),
  (98, false, .iinc 3 1, 3, 0, (0, 0, 0, 0), 0, []),
  (101, false, .goto (-70), 3, 0, (31, 0, 0, 0), 0, []),
  (104, false, .iload_n 3, 1, 0, (0, 0, 0, 0), 0, []),
  (105, false, .ireturn, 1, 0, (0, 0, 0, 0), 0, []),
  (106, false, .iconst (-1), 1, 0, (0, 0, 0, 0), 0, []),
  (107, false, .ireturn, 1, 0, (0, 0, 0, 0), 0, [])]
theorem zc_xC_firstFit : zk_xC_firstFit.all (zz_ck zz_inf zM_xC_firstFit) = true ∧ zz_ch zk_xC_firstFit = true := ⟨by decide +kernel, by decide +kernel⟩
noncomputable def xC_firstFit_31 : Nat → Int → Int → Int → zz_S → zz_R
  | 0, _, _, _, _ => none
  | n + 1, v0, v2, v3, σ => (if v3 ≤ v2 then (if v3 < 525600 then (if v0 = 0 then none else ((xC_dayFits v0 (zz_div v3 1440) σ).bind fun q1 => (if q1.1 = 0 then (xC_firstFit_31 n v0 v2 (zz_r ((zz_r ((zz_div v3 1440) + 1)) * 1440)) q1.2) else (if v0 = 0 then none else ((xC_hourFits v0 v3 q1.2).bind fun q2 => (if q2.1 = 0 then (xC_firstFit_31 n v0 v2 (zz_r ((zz_r ((zz_div v3 60) + 1)) * 60)) q2.2) else (if v0 = 0 then none else ((xC_minuteFits v0 v3 q2.2).bind fun q3 => (if q3.1 = 0 then (xC_firstFit_31 n v0 v2 (zz_r (v3 + 1)) q3.2) else (some (v3, q3.2))))))))))) else (some ((-1), σ))) else (some ((-1), σ)))
set_option maxRecDepth 100000 in
set_option maxHeartbeats 4000000 in
theorem ze_xC_firstFit_31 (n : Nat) (v0 v2 v3 : Int) (σ : zz_S) : xC_firstFit_31 (n + 1) v0 v2 v3 σ = zz_ev (zz_CE [(98, zw_xC_minuteFits), (99, zw_xC_hourFits), (100, zw_xC_dayFits)]) (zz_KE [(31, [(0, 10, false), (2, 0, false), (3, 0, false)], zz_f3 (xC_firstFit_31 n))]) zk_xC_firstFit 0 false 0 0 400 true (zz_sk zk_xC_firstFit 31) [(0, 10, v0), (2, 0, v2), (3, 0, v3)] [] σ := rfl
theorem zo_xC_firstFit_31 : ∀ n : Nat, zz_okb zM_xC_firstFit 31 [(0, 10, false), (2, 0, false), (3, 0, false)] (zz_f3 (xC_firstFit_31 n))
  | 0 => fun vs σ r τ h => by
    obtain ⟨v0, v2, v3, rfl, h⟩ := zz_f3_ok h
    exact nomatch (show (none : zz_R) = some (r, τ) from h)
  | n + 1 => by
    have ih := zo_xC_firstFit_31 n
    exact fun vs σ r τ h => by
        obtain ⟨v0, v2, v3, rfl, h⟩ := zz_f3_ok h
        exact zz_from zc_xC_firstFit (zz_occ zo_m_xC_minuteFits (zz_occ zo_m_xC_hourFits (zz_occ zo_m_xC_dayFits zz_oc0))) (zz_olc ih zz_ol0) ((ze_xC_firstFit_31 n v0 v2 v3 σ).symm.trans h)
noncomputable def xC_firstFit (v0 v1 v2 : Int) (σ : zz_S) : zz_R := (if v0 = 0 then none else (if (zz_lc (zz_h σ 8 v0 1) 0) = 0 then (some ((-1), σ)) else (if v0 = 0 then none else (if (zz_h σ 8 v0 2) = 0 then (some ((-1), σ)) else (if v0 = 0 then none else (if (zz_h σ 8 v0 3) = 0 then (some ((-1), σ)) else ((j_max v1 0 σ).bind fun q1 => (xC_firstFit_31 zz_fu v0 v2 q1.1 q1.2))))))))
set_option maxRecDepth 100000 in
set_option maxHeartbeats 4000000 in
theorem ze_xC_firstFit (v0 v1 v2 : Int) (σ : zz_S) : xC_firstFit v0 v1 v2 σ = zz_ev (zz_CE [(168, zw_j_max)]) (zz_KE [(31, [(0, 10, false), (2, 0, false), (3, 0, false)], zz_f3 (xC_firstFit_31 zz_fu))]) zk_xC_firstFit 0 false 0 0 400 true (zz_sk zk_xC_firstFit 0) [(0, 10, v0), (1, 0, v1), (2, 0, v2)] [] σ := rfl
theorem zo_xC_firstFit : zz_okb zM_xC_firstFit 0 [(0, 10, false), (1, 0, false), (2, 0, false)] (zz_f3 xC_firstFit) :=
  fun vs σ r τ h => by
    obtain ⟨v0, v1, v2, rfl, h⟩ := zz_f3_ok h
    exact zz_from zc_xC_firstFit (zz_occ zo_m_j_max zz_oc0) (zz_olc (zo_xC_firstFit_31 zz_fu) zz_ol0) ((ze_xC_firstFit v0 v1 v2 σ).symm.trans h)
noncomputable def zw_xC_firstFit : List Int → zz_S → zz_R := zz_f3 fun a0 a1 a2 σ => xC_firstFit a0 a1 a2 σ
theorem zo_m_xC_firstFit : zz_okm zz_inf 101 zw_xC_firstFit := fun vs σ r τ h => by
  obtain ⟨a0, a1, a2, rfl, h⟩ := zz_f3_ok h
  exact zz_meth zi_xC_firstFit zy_xC_firstFit (zo_xC_firstFit [a0, a1, a2] σ r τ h)
def zk_x_missJumped : List zz_E := [(0, false, .aload_n 1, 1, 0, (0, 0, 0, 0), 0, []),
  (1, false, .getfield 111, 3, 308, (7, 4, 30, 1), 0, []),
  (4, false, .iconst 4, 1, 0, (0, 0, 0, 0), 0, []),
  (5, false, .iaload, 1, 0, (28, 0, 0, 0), 0, []),
  (6, false, .istore 4, 2, 0, (0, 0, 0, 0), 0, []),
  (8, false, .aload_n 1, 1, 0, (0, 0, 0, 0), 0, []),
  (9, false, .getfield 122, 3, 311, (7, 5, 10, 1), 0, []),
  (12, false, .iload_n 2, 1, 0, (0, 0, 0, 0), 0, []),
  (13, false, .iload_n 3, 1, 0, (0, 0, 0, 0), 0, []),
  (14, false, .invokevirtual 377, 3, 690, (101, 3, 0, 0), 0, [0, 0, 10]),
  (17, false, .istore 5, 2, 0, (0, 0, 0, 0), 0, []),
  (19, false, .iconst 0, 1, 0, (0, 0, 0, 0), 0, []),
  (20, false, .istore 6, 2, 0, (0, 0, 0, 0), 0, []),
  (22, true, .iload 6, 2, 0, (0, 0, 0, 0), 0, []),
  (24, false, .sipush 720, 3, 0, (0, 0, 0, 0), 0, []),
  (27, false, .if_icmp .ge 63, 3, 0, (90, 0, 0, 0), 0, []),
  (30, false, .iload 5, 2, 0, (0, 0, 0, 0), 0, []),
  (32, false, .iconst (-1), 1, 0, (0, 0, 0, 0), 0, []),
  (33, false, .if_icmp .eq 57, 3, 0, (90, 0, 0, 0), 0, []),
  (36, false, .iload 4, 2, 0, (0, 0, 0, 0), 0, []),
  (38, false, .ifCond .ne 20, 3, 0, (58, 0, 0, 0), 0, []),
  (41, false, .aload_n 0, 1, 0, (0, 0, 0, 0), 0, []),
  (42, false, .getfield 34, 3, 167, (3, 4, 7, 1), 0, []),
  (45, false, .aload_n 1, 1, 0, (0, 0, 0, 0), 0, []),
  (46, false, .getfield 162, 3, 299, (7, 0, 0, 0), 0, []),
  (49, false, .iload 5, 2, 0, (0, 0, 0, 0), 0, []),
  (51, false, .iconst 3, 1, 0, (0, 0, 0, 0), 0, []),
  (52, false, .invokevirtual 314, 3, 534, (82, 4, 999, 0), 0, [0, 0, 0, 7]),
  (55, false, .goto 8, 3, 0, (63, 0, 0, 0), 0, []),
  (58, false, .aload_n 0, 1, 0, (0, 0, 0, 0), 0, []),
  (59, false, .aload_n 1, 1, 0, (0, 0, 0, 0), 0, []),
  (60, false, .invokevirtual 280, 3, 522, (36, 2, 999, 0), 0, [9, 5]),
  (63, true, .iload 4, 2, 0, (0, 0, 0, 0), 0, []),
  (65, false, .iconst 1, 1, 0, (0, 0, 0, 0), 0, []),
  (66, false, .if_icmp .ne 4, 3, 0, (70, 0, 0, 0), 0, []),
  (69, false, .return_, 1, 0, (0, 0, 0, 0), 0, []),
  (70, false, .aload_n 1, 1, 0, (0, 0, 0, 0), 0, []),
  (71, false, .getfield 122, 3, 311, (7, 5, 10, 1), 0, []),
  (74, false, .iload 5, 2, 0, (0, 0, 0, 0), 0, []),
  (76, false, .iconst 1, 1, 0, (0, 0, 0, 0), 0, []),
  (77, false, .iadd, 1, 0, (0, 0, 0, 0), 0, []),
  (78, false, .iload_n 3, 1, 0, (0, 0, 0, 0), 0, []),
  (79, false, .invokevirtual 377, 3, 690, (101, 3, 0, 0), 0, [0, 0, 10]),
  (82, false, .istore 5, 2, 0, (0, 0, 0, 0), 0, []),
  (84, false, .iinc 6 1, 3, 0, (0, 0, 0, 0), 0, []),
  (87, false, .goto (-65), 3, 0, (22, 0, 0, 0), 0, []),
  (90, false, .return_, 1, 0, (0, 0, 0, 0), 0, [])]
theorem zc_x_missJumped : zk_x_missJumped.all (zz_ck zz_inf zM_x_missJumped) = true ∧ zz_ch zk_x_missJumped = true := ⟨by decide +kernel, by decide +kernel⟩
noncomputable def x_missJumped_63 (k22 : Int → Int → Int → Int → Int → zz_S → zz_R) (v1 v3 v4 v5 v6 : Int) (σ : zz_S) : zz_R := (if v4 = 1 then (some (0, σ)) else (if v1 = 0 then none else (if v1 = 0 then none else ((xC_firstFit v1 (zz_r (v5 + 1)) v3 σ).bind fun q1 => (k22 v1 v3 v4 q1.1 (zz_r (v6 + 1)) q1.2)))))
set_option maxRecDepth 100000 in
set_option maxHeartbeats 4000000 in
theorem ze_x_missJumped_63 (k22 : Int → Int → Int → Int → Int → zz_S → zz_R) (v1 v3 v4 v5 v6 : Int) (σ : zz_S) : x_missJumped_63 k22 v1 v3 v4 v5 v6 σ = zz_ev (zz_CE [(101, zw_xC_firstFit)]) (zz_KE [(22, [(0, 5, true), (1, 9, false), (3, 0, false), (4, 0, false), (5, 0, false), (6, 0, false)], zz_f5 k22)]) zk_x_missJumped 999 false 0 0 400 true (zz_sk zk_x_missJumped 63) [(0, 5, 1), (1, 9, v1), (3, 0, v3), (4, 0, v4), (5, 0, v5), (6, 0, v6)] [] σ := rfl
theorem zo_x_missJumped_63 (k22 : Int → Int → Int → Int → Int → zz_S → zz_R) (hk22 : zz_okb zM_x_missJumped 22 [(0, 5, true), (1, 9, false), (3, 0, false), (4, 0, false), (5, 0, false), (6, 0, false)] (zz_f5 k22)) : zz_okb zM_x_missJumped 63 [(0, 5, true), (1, 9, false), (3, 0, false), (4, 0, false), (5, 0, false), (6, 0, false)] (zz_f5 (x_missJumped_63 k22)) :=
  fun vs σ r τ h => by
    obtain ⟨v1, v3, v4, v5, v6, rfl, h⟩ := zz_f5_ok h
    exact zz_from zc_x_missJumped (zz_occ zo_m_xC_firstFit zz_oc0) (zz_olc hk22 zz_ol0) ((ze_x_missJumped_63 k22 v1 v3 v4 v5 v6 σ).symm.trans h)
noncomputable def x_missJumped_22 : Nat → Int → Int → Int → Int → Int → zz_S → zz_R
  | 0, _, _, _, _, _, _ => none
  | n + 1, v1, v3, v4, v5, v6, σ => (if v6 < 720 then (if v5 = (-1) then (some (0, σ)) else (if v4 = 0 then (if v1 = 0 then none else ((xB_add (zz_h σ 7 v1 0) v5 3 σ).bind fun q1 => (x_missJumped_63 (x_missJumped_22 n) v1 v3 v4 v5 v6 q1.2))) else ((x_comeDue v1 σ).bind fun q2 => (x_missJumped_63 (x_missJumped_22 n) v1 v3 v4 v5 v6 q2.2)))) else (some (0, σ)))
set_option maxRecDepth 100000 in
set_option maxHeartbeats 4000000 in
theorem ze_x_missJumped_22 (n : Nat) (v1 v3 v4 v5 v6 : Int) (σ : zz_S) : x_missJumped_22 (n + 1) v1 v3 v4 v5 v6 σ = zz_ev (zz_CE [(36, zw_x_comeDue), (82, zw_xB_add)]) (zz_KE [(63, [(0, 5, true), (1, 9, false), (3, 0, false), (4, 0, false), (5, 0, false), (6, 0, false)], zz_f5 (x_missJumped_63 (x_missJumped_22 n)))]) zk_x_missJumped 999 false 0 0 400 true (zz_sk zk_x_missJumped 22) [(0, 5, 1), (1, 9, v1), (3, 0, v3), (4, 0, v4), (5, 0, v5), (6, 0, v6)] [] σ := rfl
theorem zo_x_missJumped_22 : ∀ n : Nat, zz_okb zM_x_missJumped 22 [(0, 5, true), (1, 9, false), (3, 0, false), (4, 0, false), (5, 0, false), (6, 0, false)] (zz_f5 (x_missJumped_22 n))
  | 0 => fun vs σ r τ h => by
    obtain ⟨v1, v3, v4, v5, v6, rfl, h⟩ := zz_f5_ok h
    exact nomatch (show (none : zz_R) = some (r, τ) from h)
  | n + 1 => by
    have ih := zo_x_missJumped_22 n
    exact fun vs σ r τ h => by
        obtain ⟨v1, v3, v4, v5, v6, rfl, h⟩ := zz_f5_ok h
        exact zz_from zc_x_missJumped (zz_occ zo_m_x_comeDue (zz_occ zo_m_xB_add zz_oc0)) (zz_olc (zo_x_missJumped_63 (x_missJumped_22 n) ih) zz_ol0) ((ze_x_missJumped_22 n v1 v3 v4 v5 v6 σ).symm.trans h)
noncomputable def x_missJumped (v1 v2 v3 : Int) (σ : zz_S) : zz_R := (if v1 = 0 then none else (if v1 = 0 then none else (if zz_b σ 28 v1 4 then (if v1 = 0 then none else (if v1 = 0 then none else ((xC_firstFit v1 v2 v3 σ).bind fun q1 => (x_missJumped_22 zz_fu v1 v3 (zz_h σ 28 v1 4) q1.1 0 q1.2)))) else none)))
set_option maxRecDepth 100000 in
set_option maxHeartbeats 4000000 in
theorem ze_x_missJumped (v1 v2 v3 : Int) (σ : zz_S) : x_missJumped v1 v2 v3 σ = zz_ev (zz_CE [(101, zw_xC_firstFit)]) (zz_KE [(22, [(0, 5, true), (1, 9, false), (3, 0, false), (4, 0, false), (5, 0, false), (6, 0, false)], zz_f5 (x_missJumped_22 zz_fu))]) zk_x_missJumped 999 false 0 0 400 true (zz_sk zk_x_missJumped 0) [(0, 5, 1), (1, 9, v1), (2, 0, v2), (3, 0, v3)] [] σ := rfl
theorem zo_x_missJumped : zz_okb zM_x_missJumped 0 [(0, 5, true), (1, 9, false), (2, 0, false), (3, 0, false)] (zz_f3 x_missJumped) :=
  fun vs σ r τ h => by
    obtain ⟨v1, v2, v3, rfl, h⟩ := zz_f3_ok h
    exact zz_from zc_x_missJumped (zz_occ zo_m_xC_firstFit zz_oc0) (zz_olc (zo_x_missJumped_22 zz_fu) zz_ol0) ((ze_x_missJumped v1 v2 v3 σ).symm.trans h)
noncomputable def zw_x_missJumped : List Int → zz_S → zz_R := zz_f4 fun a0 a1 a2 a3 σ => if a0 = 1 then x_missJumped a1 a2 a3 σ else none
theorem zo_m_x_missJumped : zz_okm zz_inf 50 zw_x_missJumped := fun vs σ r τ h => by
  obtain ⟨a0, a1, a2, a3, rfl, h⟩ := zz_f4_ok h
  obtain ⟨e, h⟩ := zz_it h
  subst e
  exact zz_meth zi_x_missJumped zy_x_missJumped (zo_x_missJumped [a1, a2, a3] σ r τ h)
def zk_x_jumpOver : List zz_E := [(0, false, .iload_n 1, 1, 0, (0, 0, 0, 0), 0, []),
  (1, false, .aload_n 0, 1, 0, (0, 0, 0, 0), 0, []),
  (2, false, .getfield 84, 3, 181, (3, 18, 0, 0), 0, []),
  (5, false, .iconst 1, 1, 0, (0, 0, 0, 0), 0, []),
  (6, false, .iadd, 1, 0, (0, 0, 0, 0), 0, []),
  (7, false, .invokestatic 258, 3, 510, (168, 2, 0, 0), 0, [0, 0]),
  (10, false, .istore_n 3, 1, 0, (0, 0, 0, 0), 0, []),
  (11, false, .iconst 0, 1, 0, (0, 0, 0, 0), 0, []),
  (12, false, .istore 4, 2, 0, (0, 0, 0, 0), 0, []),
  (14, true, .iload 4, 2, 0, (0, 0, 0, 0), 0, []),
  (16, false, .aload_n 0, 1, 0, (0, 0, 0, 0), 0, []),
  (17, false, .getfield 62, 3, 174, (3, 11, 0, 0), 0, []),
  (20, false, .if_icmp .ge 42, 3, 0, (62, 0, 0, 0), 0, []),
  (23, false, .aload_n 0, 1, 0, (0, 0, 0, 0), 0, []),
  (24, false, .iload 4, 2, 0, (0, 0, 0, 0), 0, []),
  (26, false, .invokevirtual 100, 3, 385, (73, 2, 9, 0), 0, [0, 5]),
  (29, false, .astore 5, 2, 0, (0, 0, 0, 0), 0, []),
  (31, false, .aload 5, 2, 0, (0, 0, 0, 0), 0, []),
  (33, false, .invokestatic 273, 3, 515, (74, 1, 0, 0), 0, [9]),
  (36, false, .ifCond .eq 20, 3, 0, (56, 0, 0, 0), 0, []),
  (39, false, .aload 5, 2, 0, (0, 0, 0, 0), 0, []),
  (41, false, .getfield 114, 3, 301, (7, 1, 0, 0), 0, []),
  (44, false, .iconst 3, 1, 0, (0, 0, 0, 0), 0, []),
  (45, false, .if_icmp .ne 11, 3, 0, (56, 0, 0, 0), 0, []),
  (48, false, .aload_n 0, 1, 0, (0, 0, 0, 0), 0, []),
  (49, false, .aload 5, 2, 0, (0, 0, 0, 0), 0, []),
  (51, false, .iload_n 3, 1, 0, (0, 0, 0, 0), 0, []),
  (52, false, .iload_n 2, 1, 0, (0, 0, 0, 0), 0, []),
  (53, false, .invokevirtual 373, 3, 686, (50, 4, 999, 0), 0, [0, 0, 9, 5]),
  (56, false, .iinc 4 1, 3, 0, (0, 0, 0, 0), 0, []),
  (59, false, .goto (-45), 3, 0, (14, 0, 0, 0), 0, []),
  (62, false, .aload_n 0, 1, 0, (0, 0, 0, 0), 0, []),
  (63, false, .aload_n 0, 1, 0, (0, 0, 0, 0), 0, []),
  (64, false, .getfield 84, 3, 181, (3, 18, 0, 0), 0, []),
  (67, false, .iload_n 2, 1, 0, (0, 0, 0, 0), 0, []),
  (68, false, .invokestatic 258, 3, 510, (168, 2, 0, 0), 0, [0, 0]),
  (71, false, .putfield 84, 3, 181, (3, 18, 0, 0), 0, []),
  (74, false, .return_, 1, 0, (0, 0, 0, 0), 0, [])]
theorem zc_x_jumpOver : zk_x_jumpOver.all (zz_ck zz_inf zM_x_jumpOver) = true ∧ zz_ch zk_x_jumpOver = true := ⟨by decide +kernel, by decide +kernel⟩
noncomputable def x_jumpOver_14 : Nat → Int → Int → Int → zz_S → zz_R
  | 0, _, _, _, _ => none
  | n + 1, v2, v3, v4, σ => (if v4 < (zz_h σ 3 1 11) then ((x_taskAt v4 σ).bind fun q1 => ((x_isActive q1.1 q1.2).bind fun q2 => (if q2.1 = 0 then (x_jumpOver_14 n v2 v3 (zz_r (v4 + 1)) q2.2) else (if q1.1 = 0 then none else (if (zz_h q2.2 7 q1.1 1) = 3 then ((x_missJumped q1.1 v3 v2 q2.2).bind fun q3 => (x_jumpOver_14 n v2 v3 (zz_r (v4 + 1)) q3.2)) else (x_jumpOver_14 n v2 v3 (zz_r (v4 + 1)) q2.2)))))) else ((j_max (zz_h σ 3 1 18) v2 σ).bind fun q4 => (let s5 := zz_w q4.2 3 1 18 q4.1; (some (0, s5)))))
set_option maxRecDepth 100000 in
set_option maxHeartbeats 4000000 in
theorem ze_x_jumpOver_14 (n : Nat) (v2 v3 v4 : Int) (σ : zz_S) : x_jumpOver_14 (n + 1) v2 v3 v4 σ = zz_ev (zz_CE [(50, zw_x_missJumped), (73, zw_x_taskAt), (74, zw_x_isActive), (168, zw_j_max)]) (zz_KE [(14, [(0, 5, true), (2, 0, false), (3, 0, false), (4, 0, false)], zz_f3 (x_jumpOver_14 n))]) zk_x_jumpOver 999 false 0 0 400 true (zz_sk zk_x_jumpOver 14) [(0, 5, 1), (2, 0, v2), (3, 0, v3), (4, 0, v4)] [] σ := rfl
theorem zo_x_jumpOver_14 : ∀ n : Nat, zz_okb zM_x_jumpOver 14 [(0, 5, true), (2, 0, false), (3, 0, false), (4, 0, false)] (zz_f3 (x_jumpOver_14 n))
  | 0 => fun vs σ r τ h => by
    obtain ⟨v2, v3, v4, rfl, h⟩ := zz_f3_ok h
    exact nomatch (show (none : zz_R) = some (r, τ) from h)
  | n + 1 => by
    have ih := zo_x_jumpOver_14 n
    exact fun vs σ r τ h => by
        obtain ⟨v2, v3, v4, rfl, h⟩ := zz_f3_ok h
        exact zz_from zc_x_jumpOver (zz_occ zo_m_x_missJumped (zz_occ zo_m_x_taskAt (zz_occ zo_m_x_isActive (zz_occ zo_m_j_max zz_oc0)))) (zz_olc ih zz_ol0) ((ze_x_jumpOver_14 n v2 v3 v4 σ).symm.trans h)
noncomputable def x_jumpOver (v1 v2 : Int) (σ : zz_S) : zz_R := ((j_max v1 (zz_r ((zz_h σ 3 1 18) + 1)) σ).bind fun q1 => (x_jumpOver_14 zz_fu v2 q1.1 0 q1.2))
set_option maxRecDepth 100000 in
set_option maxHeartbeats 4000000 in
theorem ze_x_jumpOver (v1 v2 : Int) (σ : zz_S) : x_jumpOver v1 v2 σ = zz_ev (zz_CE [(168, zw_j_max)]) (zz_KE [(14, [(0, 5, true), (2, 0, false), (3, 0, false), (4, 0, false)], zz_f3 (x_jumpOver_14 zz_fu))]) zk_x_jumpOver 999 false 0 0 400 true (zz_sk zk_x_jumpOver 0) [(0, 5, 1), (1, 0, v1), (2, 0, v2)] [] σ := rfl
theorem zo_x_jumpOver : zz_okb zM_x_jumpOver 0 [(0, 5, true), (1, 0, false), (2, 0, false)] (zz_f2 x_jumpOver) :=
  fun vs σ r τ h => by
    obtain ⟨v1, v2, rfl, h⟩ := zz_f2_ok h
    exact zz_from zc_x_jumpOver (zz_occ zo_m_j_max zz_oc0) (zz_olc (zo_x_jumpOver_14 zz_fu) zz_ol0) ((ze_x_jumpOver v1 v2 σ).symm.trans h)
noncomputable def zw_x_jumpOver : List Int → zz_S → zz_R := zz_f3 fun a0 a1 a2 σ => if a0 = 1 then x_jumpOver a1 a2 σ else none
theorem zo_m_x_jumpOver : zz_okm zz_inf 49 zw_x_jumpOver := fun vs σ r τ h => by
  obtain ⟨a0, a1, a2, rfl, h⟩ := zz_f3_ok h
  obtain ⟨e, h⟩ := zz_it h
  subst e
  exact zz_meth zi_x_jumpOver zy_x_jumpOver (zo_x_jumpOver [a1, a2] σ r τ h)
end
section
def zk_x_jump : List zz_E := [(0, false, .iload_n 1, 1, 0, (0, 0, 0, 0), 0, []),
  (1, false, .ifCond .eq 16, 3, 0, (17, 0, 0, 0), 0, []),
  (4, false, .iload_n 1, 1, 0, (0, 0, 0, 0), 0, []),
  (5, false, .sipush (-720), 3, 0, (0, 0, 0, 0), 0, []),
  (8, false, .sipush 720, 3, 0, (0, 0, 0, 0), 0, []),
  (11, false, .invokestatic 91, 3, 228, (72, 3, 0, 0), 0, [0, 0, 0]),
  (14, false, .ifCond .ne 6, 3, 0, (20, 0, 0, 0), 0, []),
  (17, false, .bipush (-2), 2, 0, (0, 0, 0, 0), 0, []),
  (19, false, .ireturn, 1, 0, (0, 0, 0, 0), 0, []),
  (20, false, .aload_n 0, 1, 0, (0, 0, 0, 0), 0, []),
  (21, false, .getfield 81, 3, 180, (3, 17, 0, 0), 0, []),
  (24, false, .iload_n 1, 1, 0, (0, 0, 0, 0), 0, []),
  (25, false, .iadd, 1, 0, (0, 0, 0, 0), 0, []),
  (26, false, .sipush (-1440), 3, 0, (0, 0, 0, 0), 0, []),
  (29, false, .sipush 1440, 3, 0, (0, 0, 0, 0), 0, []),
  (32, false, .invokestatic 91, 3, 228, (72, 3, 0, 0), 0, [0, 0, 0]),
  (35, false, .ifCond .eq 17, 3, 0, (52, 0, 0, 0), 0, []),
  (38, false, .aload_n 0, 1, 0, (0, 0, 0, 0), 0, []),
  (39, false, .getfield 78, 3, 179, (3, 16, 0, 0), 0, []),
  (42, false, .aload_n 0, 1, 0, (0, 0, 0, 0), 0, []),
  (43, false, .getfield 81, 3, 180, (3, 17, 0, 0), 0, []),
  (46, false, .iadd, 1, 0, (0, 0, 0, 0), 0, []),
  (47, false, .iload_n 1, 1, 0, (0, 0, 0, 0), 0, []),
  (48, false, .iadd, 1, 0, (0, 0, 0, 0), 0, []),
  (49, false, .ifCond .ge 6, 3, 0, (55, 0, 0, 0), 0, []),
  (52, false, .bipush (-2), 2, 0, (0, 0, 0, 0), 0, []),
  (54, false, .ireturn, 1, 0, (0, 0, 0, 0), 0, []),
  (55, false, .iload_n 1, 1, 0, (0, 0, 0, 0), 0, []),
  (56, false, .ifCond .le 29, 3, 0, (85, 0, 0, 0), 0, []),
  (59, false, .aload_n 0, 1, 0, (0, 0, 0, 0), 0, []),
  (60, false, .aload_n 0, 1, 0, (0, 0, 0, 0), 0, []),
  (61, false, .getfield 78, 3, 179, (3, 16, 0, 0), 0, []),
  (64, false, .aload_n 0, 1, 0, (0, 0, 0, 0), 0, []),
  (65, false, .getfield 81, 3, 180, (3, 17, 0, 0), 0, []),
  (68, false, .iadd, 1, 0, (0, 0, 0, 0), 0, []),
  (69, false, .aload_n 0, 1, 0, (0, 0, 0, 0), 0, []),
  (70, false, .getfield 78, 3, 179, (3, 16, 0, 0), 0, []),
  (73, false, .aload_n 0, 1, 0, (0, 0, 0, 0), 0, []),
  (74, false, .getfield 81, 3, 180, (3, 17, 0, 0), 0, []),
  (77, false, .iadd, 1, 0, (0, 0, 0, 0), 0, []),
  (78, false, .iload_n 1, 1, 0, (0, 0, 0, 0), 0, []),
  (79, false, .iadd, 1, 0, (0, 0, 0, 0), 0, []),
  (80, false, .iconst 1, 1, 0, (0, 0, 0, 0), 0, []),
  (81, false, .isub, 1, 0, (0, 0, 0, 0), 0, []),
  (82, false, .invokevirtual 370, 3, 682, (49, 3, 999, 0), 0, [0, 0, 5]),
  (85, true, .aload_n 0, 1, 0, (0, 0, 0, 0), 0, []),
  (86, false, .dup, 1, 0, (0, 0, 0, 0), 0, []),
  (87, false, .getfield 81, 3, 180, (3, 17, 0, 0), 0, []),
  (90, false, .iload_n 1, 1, 0, (0, 0, 0, 0), 0, []),
  (91, false, .iadd, 1, 0, (0, 0, 0, 0), 0, []),
  (92, false, .putfield 81, 3, 180, (3, 17, 0, 0), 0, []),
  (95, false, .aload_n 0, 1, 0, (0, 0, 0, 0), 0, []),
  (96, false, .getfield 81, 3, 180, (3, 17, 0, 0), 0, []),
  (99, false, .ireturn, 1, 0, (0, 0, 0, 0), 0, [])]
theorem zc_x_jump : zk_x_jump.all (zz_ck zz_inf zM_x_jump) = true ∧ zz_ch zk_x_jump = true := ⟨by decide +kernel, by decide +kernel⟩
noncomputable def x_jump_85 (v1 : Int) (σ : zz_S) : zz_R := (let s1 := zz_w σ 3 1 17 (zz_r ((zz_h σ 3 1 17) + v1)); (some ((zz_h s1 3 1 17), s1)))
set_option maxRecDepth 100000 in
set_option maxHeartbeats 4000000 in
theorem ze_x_jump_85 (v1 : Int) (σ : zz_S) : x_jump_85 v1 σ = zz_ev (zz_CE []) (zz_KE []) zk_x_jump 0 false 0 0 400 true (zz_sk zk_x_jump 85) [(0, 5, 1), (1, 0, v1)] [] σ := rfl
theorem zo_x_jump_85 : zz_okb zM_x_jump 85 [(0, 5, true), (1, 0, false)] (zz_f1 x_jump_85) :=
  fun vs σ r τ h => by
    obtain ⟨v1, rfl, h⟩ := zz_f1_ok h
    exact zz_from zc_x_jump zz_oc0 zz_ol0 ((ze_x_jump_85 v1 σ).symm.trans h)
noncomputable def x_jump (v1 : Int) (σ : zz_S) : zz_R := (if v1 = 0 then (some ((-2), σ)) else ((x_isWithin v1 (-720) 720 σ).bind fun q1 => (if q1.1 = 0 then (some ((-2), q1.2)) else ((x_isWithin (zz_r ((zz_h q1.2 3 1 17) + v1)) (-1440) 1440 q1.2).bind fun q2 => (if q2.1 = 0 then (some ((-2), q2.2)) else (if (zz_r ((zz_r ((zz_h q2.2 3 1 16) + (zz_h q2.2 3 1 17))) + v1)) < 0 then (some ((-2), q2.2)) else (if v1 ≤ 0 then (x_jump_85 v1 q2.2) else ((x_jumpOver (zz_r ((zz_h q2.2 3 1 16) + (zz_h q2.2 3 1 17))) (zz_r ((zz_r ((zz_r ((zz_h q2.2 3 1 16) + (zz_h q2.2 3 1 17))) + v1)) - 1)) q2.2).bind fun q3 => (x_jump_85 v1 q3.2)))))))))
set_option maxRecDepth 100000 in
set_option maxHeartbeats 4000000 in
theorem ze_x_jump (v1 : Int) (σ : zz_S) : x_jump v1 σ = zz_ev (zz_CE [(49, zw_x_jumpOver), (72, zw_x_isWithin)]) (zz_KE [(85, [(0, 5, true), (1, 0, false)], zz_f1 (x_jump_85))]) zk_x_jump 0 false 0 0 400 true (zz_sk zk_x_jump 0) [(0, 5, 1), (1, 0, v1)] [] σ := rfl
theorem zo_x_jump : zz_okb zM_x_jump 0 [(0, 5, true), (1, 0, false)] (zz_f1 x_jump) :=
  fun vs σ r τ h => by
    obtain ⟨v1, rfl, h⟩ := zz_f1_ok h
    exact zz_from zc_x_jump (zz_occ zo_m_x_jumpOver (zz_occ zo_m_x_isWithin zz_oc0)) (zz_olc (zo_x_jump_85) zz_ol0) ((ze_x_jump v1 σ).symm.trans h)
noncomputable def zw_x_jump : List Int → zz_S → zz_R := zz_f2 fun a0 a1 σ => if a0 = 1 then x_jump a1 σ else none
theorem zo_m_x_jump : zz_okm zz_inf 48 zw_x_jump := fun vs σ r τ h => by
  obtain ⟨a0, a1, rfl, h⟩ := zz_f2_ok h
  obtain ⟨e, h⟩ := zz_it h
  subst e
  exact zz_meth zi_x_jump zy_x_jump (zo_x_jump [a1] σ r τ h)
def zk_x_firstAtWork : List zz_E := [(0, false, .iconst 0, 1, 0, (0, 0, 0, 0), 0, []),
  (1, false, .istore_n 2, 1, 0, (0, 0, 0, 0), 0, []),
  (2, true, .iload_n 2, 1, 0, (0, 0, 0, 0), 0, []),
  (3, false, .aload_n 0, 1, 0, (0, 0, 0, 0), 0, []),
  (4, false, .getfield 69, 3, 176, (3, 13, 0, 0), 0, []),
  (7, false, .if_icmp .ge 34, 3, 0, (41, 0, 0, 0), 0, []),
  (10, false, .aload_n 0, 1, 0, (0, 0, 0, 0), 0, []),
  (11, false, .getfield 21, 3, 165, (3, 2, 15, 1), 0, []),
  (14, false, .iload_n 2, 1, 0, (0, 0, 0, 0), 0, []),
  (15, false, .aaload, 1, 0, (13, 0, 12, 0), 0, []),
  (16, false, .astore_n 3, 1, 0, (0, 0, 0, 0), 0, []),
  (17, false, .aload_n 3, 1, 0, (0, 0, 0, 0), 0, []),
  (18, false, .ifnull 17, 3, 0, (35, 0, 0, 0), 0, []),
  (21, false, .aload_n 1, 1, 0, (0, 0, 0, 0), 0, []),
  (22, false, .ifnull 11, 3, 0, (33, 0, 0, 0), 0, []),
  (25, false, .aload_n 3, 1, 0, (0, 0, 0, 0), 0, []),
  (26, false, .getfield 203, 3, 636, (10, 1, 9, 0), 0, []),
  (29, false, .aload_n 1, 1, 0, (0, 0, 0, 0), 0, []),
  (30, false, .if_acmp .ne 5, 3, 0, (35, 0, 0, 0), 0, []),
  (33, false, .aload_n 3, 1, 0, (0, 0, 0, 0), 0, []),
  (34, false, .areturn, 1, 0, (0, 0, 0, 0), 0, []),
  (35, false, .iinc 2 1, 3, 0, (0, 0, 0, 0), 0, []),
  (38, false, .goto (-36), 3, 0, (2, 0, 0, 0), 0, []),
  (41, false, .aconst_null, 1, 0, (0, 0, 0, 0), 0, []),
  (42, false, .areturn, 1, 0, (0, 0, 0, 0), 0, [])]
theorem zc_x_firstAtWork : zk_x_firstAtWork.all (zz_ck zz_inf zM_x_firstAtWork) = true ∧ zz_ch zk_x_firstAtWork = true := ⟨by decide +kernel, by decide +kernel⟩
noncomputable def x_firstAtWork_2 : Nat → Int → Int → zz_S → zz_R
  | 0, _, _, _ => none
  | n + 1, v1, v2, σ => (if v2 < (zz_h σ 3 1 13) then (if zz_b σ 13 1 v2 then (if (zz_h σ 13 1 v2) = 0 then (x_firstAtWork_2 n v1 (zz_r (v2 + 1)) σ) else (if v1 = 0 then (some ((zz_h σ 13 1 v2), σ)) else (if (zz_h σ 13 1 v2) = 0 then none else (if (zz_h σ 10 (zz_h σ 13 1 v2) 1) = v1 then (some ((zz_h σ 13 1 v2), σ)) else (x_firstAtWork_2 n v1 (zz_r (v2 + 1)) σ))))) else none) else (some (0, σ)))
set_option maxRecDepth 100000 in
set_option maxHeartbeats 4000000 in
theorem ze_x_firstAtWork_2 (n : Nat) (v1 v2 : Int) (σ : zz_S) : x_firstAtWork_2 (n + 1) v1 v2 σ = zz_ev (zz_CE []) (zz_KE [(2, [(0, 5, true), (1, 9, false), (2, 0, false)], zz_f2 (x_firstAtWork_2 n))]) zk_x_firstAtWork 12 false 0 0 400 true (zz_sk zk_x_firstAtWork 2) [(0, 5, 1), (1, 9, v1), (2, 0, v2)] [] σ := rfl
theorem zo_x_firstAtWork_2 : ∀ n : Nat, zz_okb zM_x_firstAtWork 2 [(0, 5, true), (1, 9, false), (2, 0, false)] (zz_f2 (x_firstAtWork_2 n))
  | 0 => fun vs σ r τ h => by
    obtain ⟨v1, v2, rfl, h⟩ := zz_f2_ok h
    exact nomatch (show (none : zz_R) = some (r, τ) from h)
  | n + 1 => by
    have ih := zo_x_firstAtWork_2 n
    exact fun vs σ r τ h => by
        obtain ⟨v1, v2, rfl, h⟩ := zz_f2_ok h
        exact zz_from zc_x_firstAtWork zz_oc0 (zz_olc ih zz_ol0) ((ze_x_firstAtWork_2 n v1 v2 σ).symm.trans h)
noncomputable def x_firstAtWork (v1 : Int) (σ : zz_S) : zz_R := (x_firstAtWork_2 zz_fu v1 0 σ)
set_option maxRecDepth 100000 in
set_option maxHeartbeats 4000000 in
theorem ze_x_firstAtWork (v1 : Int) (σ : zz_S) : x_firstAtWork v1 σ = zz_ev (zz_CE []) (zz_KE [(2, [(0, 5, true), (1, 9, false), (2, 0, false)], zz_f2 (x_firstAtWork_2 zz_fu))]) zk_x_firstAtWork 12 false 0 0 400 true (zz_sk zk_x_firstAtWork 0) [(0, 5, 1), (1, 9, v1)] [] σ := rfl
theorem zo_x_firstAtWork : zz_okb zM_x_firstAtWork 0 [(0, 5, true), (1, 9, false)] (zz_f1 x_firstAtWork) :=
  fun vs σ r τ h => by
    obtain ⟨v1, rfl, h⟩ := zz_f1_ok h
    exact zz_from zc_x_firstAtWork zz_oc0 (zz_olc (zo_x_firstAtWork_2 zz_fu) zz_ol0) ((ze_x_firstAtWork v1 σ).symm.trans h)
noncomputable def zw_x_firstAtWork : List Int → zz_S → zz_R := zz_f2 fun a0 a1 σ => if a0 = 1 then x_firstAtWork a1 σ else none
theorem zo_m_x_firstAtWork : zz_okm zz_inf 54 zw_x_firstAtWork := fun vs σ r τ h => by
  obtain ⟨a0, a1, rfl, h⟩ := zz_f2_ok h
  obtain ⟨e, h⟩ := zz_it h
  subst e
  exact zz_meth zi_x_firstAtWork zy_x_firstAtWork (zo_x_firstAtWork [a1] σ r τ h)
def zk_x_interruptRuns : List zz_E := [(0, false, .iconst 0, 1, 0, (0, 0, 0, 0), 0, []),
  (1, false, .istore_n 2, 1, 0, (0, 0, 0, 0), 0, []),
  (2, true, .iload_n 2, 1, 0, (0, 0, 0, 0), 0, []),
  (3, false, .bipush 8, 2, 0, (0, 0, 0, 0), 0, []),
  (5, false, .if_icmp .ge 47, 3, 0, (52, 0, 0, 0), 0, []),
  (8, false, .aload_n 0, 1, 0, (0, 0, 0, 0), 0, []),
  (9, false, .aload_n 1, 1, 0, (0, 0, 0, 0), 0, []),
  (10, false, .invokevirtual 386, 3, 704, (54, 2, 12, 0), 0, [9, 5]),
  (13, false, .astore_n 3, 1, 0, (0, 0, 0, 0), 0, []),
  (14, false, .aload_n 3, 1, 0, (0, 0, 0, 0), 0, []),
  (15, false, .ifnonnull 4, 3, 0, (19, 0, 0, 0), 0, []),
  (18, false, .return_, 1, 0, (0, 0, 0, 0), 0, []),
  (19, false, .aload_n 0, 1, 0, (0, 0, 0, 0), 0, []),
  (20, false, .aload_n 3, 1, 0, (0, 0, 0, 0), 0, []),
  (21, false, .iconst 3, 1, 0, (0, 0, 0, 0), 0, []),
  (22, false, .invokevirtual 216, 3, 499, (32, 3, 999, 0), 0, [0, 12, 5]),
  (25, false, .aload_n 1, 1, 0, (0, 0, 0, 0), 0, []),
  (26, false, .ifnonnull 11, 3, 0, (37, 0, 0, 0), 0, []),
  (29, false, .aload_n 0, 1, 0, (0, 0, 0, 0), 0, []),
  (30, false, .aload_n 3, 1, 0, (0, 0, 0, 0), 0, []),
  (31, false, .getfield 203, 3, 636, (10, 1, 9, 0), 0, []),
  (34, false, .invokevirtual 315, 3, 538, (38, 2, 999, 0), 0, [9, 5]),
  (37, false, .aload_n 0, 1, 0, (0, 0, 0, 0), 0, []),
  (38, false, .aload_n 3, 1, 0, (0, 0, 0, 0), 0, []),
  (39, false, .getfield 203, 3, 636, (10, 1, 9, 0), 0, []),
  (42, false, .iconst 0, 1, 0, (0, 0, 0, 0), 0, []),
  (43, false, .invokevirtual 234, 3, 511, (33, 3, 999, 0), 0, [0, 9, 5]),
  (46, false, .iinc 2 1, 3, 0, (0, 0, 0, 0), 0, []),
  (49, false, .goto (-47), 3, 0, (2, 0, 0, 0), 0, []),
  (52, false, .return_, 1, 0, (0, 0, 0, 0), 0, [])]
theorem zc_x_interruptRuns : zk_x_interruptRuns.all (zz_ck zz_inf zM_x_interruptRuns) = true ∧ zz_ch zk_x_interruptRuns = true := ⟨by decide +kernel, by decide +kernel⟩
noncomputable def x_interruptRuns_2 : Nat → Int → Int → zz_S → zz_R
  | 0, _, _, _ => none
  | n + 1, v1, v2, σ => (if v2 < 8 then ((x_firstAtWork v1 σ).bind fun q1 => (if q1.1 = 0 then (some (0, q1.2)) else ((x_layDown q1.1 3 q1.2).bind fun q2 => (if v1 = 0 then (if q1.1 = 0 then none else ((x_pauseAgain (zz_h q2.2 10 q1.1 1) q2.2).bind fun q3 => (if q1.1 = 0 then none else ((x_tellAfters (zz_h q3.2 10 q1.1 1) 0 q3.2).bind fun q4 => (x_interruptRuns_2 n v1 (zz_r (v2 + 1)) q4.2))))) else (if q1.1 = 0 then none else ((x_tellAfters (zz_h q2.2 10 q1.1 1) 0 q2.2).bind fun q5 => (x_interruptRuns_2 n v1 (zz_r (v2 + 1)) q5.2))))))) else (some (0, σ)))
set_option maxRecDepth 100000 in
set_option maxHeartbeats 4000000 in
theorem ze_x_interruptRuns_2 (n : Nat) (v1 v2 : Int) (σ : zz_S) : x_interruptRuns_2 (n + 1) v1 v2 σ = zz_ev (zz_CE [(32, zw_x_layDown), (33, zw_x_tellAfters), (38, zw_x_pauseAgain), (54, zw_x_firstAtWork)]) (zz_KE [(2, [(0, 5, true), (1, 9, false), (2, 0, false)], zz_f2 (x_interruptRuns_2 n))]) zk_x_interruptRuns 999 false 0 0 400 true (zz_sk zk_x_interruptRuns 2) [(0, 5, 1), (1, 9, v1), (2, 0, v2)] [] σ := rfl
theorem zo_x_interruptRuns_2 : ∀ n : Nat, zz_okb zM_x_interruptRuns 2 [(0, 5, true), (1, 9, false), (2, 0, false)] (zz_f2 (x_interruptRuns_2 n))
  | 0 => fun vs σ r τ h => by
    obtain ⟨v1, v2, rfl, h⟩ := zz_f2_ok h
    exact nomatch (show (none : zz_R) = some (r, τ) from h)
  | n + 1 => by
    have ih := zo_x_interruptRuns_2 n
    exact fun vs σ r τ h => by
        obtain ⟨v1, v2, rfl, h⟩ := zz_f2_ok h
        exact zz_from zc_x_interruptRuns (zz_occ zo_m_x_layDown (zz_occ zo_m_x_tellAfters (zz_occ zo_m_x_pauseAgain (zz_occ zo_m_x_firstAtWork zz_oc0)))) (zz_olc ih zz_ol0) ((ze_x_interruptRuns_2 n v1 v2 σ).symm.trans h)
noncomputable def x_interruptRuns (v1 : Int) (σ : zz_S) : zz_R := (x_interruptRuns_2 zz_fu v1 0 σ)
set_option maxRecDepth 100000 in
set_option maxHeartbeats 4000000 in
theorem ze_x_interruptRuns (v1 : Int) (σ : zz_S) : x_interruptRuns v1 σ = zz_ev (zz_CE []) (zz_KE [(2, [(0, 5, true), (1, 9, false), (2, 0, false)], zz_f2 (x_interruptRuns_2 zz_fu))]) zk_x_interruptRuns 999 false 0 0 400 true (zz_sk zk_x_interruptRuns 0) [(0, 5, 1), (1, 9, v1)] [] σ := rfl
theorem zo_x_interruptRuns : zz_okb zM_x_interruptRuns 0 [(0, 5, true), (1, 9, false)] (zz_f1 x_interruptRuns) :=
  fun vs σ r τ h => by
    obtain ⟨v1, rfl, h⟩ := zz_f1_ok h
    exact zz_from zc_x_interruptRuns zz_oc0 (zz_olc (zo_x_interruptRuns_2 zz_fu) zz_ol0) ((ze_x_interruptRuns v1 σ).symm.trans h)
noncomputable def zw_x_interruptRuns : List Int → zz_S → zz_R := zz_f2 fun a0 a1 σ => if a0 = 1 then x_interruptRuns a1 σ else none
theorem zo_m_x_interruptRuns : zz_okm zz_inf 53 zw_x_interruptRuns := fun vs σ r τ h => by
  obtain ⟨a0, a1, rfl, h⟩ := zz_f2_ok h
  obtain ⟨e, h⟩ := zz_it h
  subst e
  exact zz_meth zi_x_interruptRuns zy_x_interruptRuns (zo_x_interruptRuns [a1] σ r τ h)
def zk_x_cancel : List zz_E := [(0, false, .aload_n 0, 1, 0, (0, 0, 0, 0), 0, []),
  (1, false, .iload_n 1, 1, 0, (0, 0, 0, 0), 0, []),
  (2, false, .invokevirtual 100, 3, 385, (73, 2, 9, 0), 0, [0, 5]),
  (5, false, .astore_n 3, 1, 0, (0, 0, 0, 0), 0, []),
  (6, false, .aload_n 3, 1, 0, (0, 0, 0, 0), 0, []),
  (7, false, .ifnull 12, 3, 0, (19, 0, 0, 0), 0, []),
  (10, false, .iload_n 2, 1, 0, (0, 0, 0, 0), 0, []),
  (11, false, .iconst 0, 1, 0, (0, 0, 0, 0), 0, []),
  (12, false, .iconst 1, 1, 0, (0, 0, 0, 0), 0, []),
  (13, false, .invokestatic 91, 3, 228, (72, 3, 0, 0), 0, [0, 0, 0]),
  (16, false, .ifCond .ne 6, 3, 0, (22, 0, 0, 0), 0, []),
  (19, false, .bipush (-2), 2, 0, (0, 0, 0, 0), 0, []),
  (21, false, .ireturn, 1, 0, (0, 0, 0, 0), 0, []),
  (22, false, .aload_n 3, 1, 0, (0, 0, 0, 0), 0, []),
  (23, false, .invokevirtual 226, 3, 483, (88, 1, 0, 0), 0, [9]),
  (26, false, .ifCond .ne 6, 3, 0, (32, 0, 0, 0), 0, []),
  (29, false, .bipush (-3), 2, 0, (0, 0, 0, 0), 0, []),
  (31, false, .ireturn, 1, 0, (0, 0, 0, 0), 0, []),
  (32, false, .aload_n 0, 1, 0, (0, 0, 0, 0), 0, []),
  (33, false, .aload_n 3, 1, 0, (0, 0, 0, 0), 0, []),
  (34, false, .iconst 3, 1, 0, (0, 0, 0, 0), 0, []),
  (35, false, .invokevirtual 238, 3, 487, (52, 3, 999, 0), 0, [0, 9, 5]),
  (38, false, .iload_n 2, 1, 0, (0, 0, 0, 0), 0, []),
  (39, false, .iconst 1, 1, 0, (0, 0, 0, 0), 0, []),
  (40, false, .if_icmp .ne 8, 3, 0, (48, 0, 0, 0), 0, []),
  (43, false, .aload_n 0, 1, 0, (0, 0, 0, 0), 0, []),
  (44, false, .aload_n 3, 1, 0, (0, 0, 0, 0), 0, []),
  (45, false, .invokevirtual 380, 3, 700, (53, 2, 999, 0), 0, [9, 5]),
  (48, false, .iconst 1, 1, 0, (0, 0, 0, 0), 0, []),
  (49, false, .ireturn, 1, 0, (0, 0, 0, 0), 0, [])]
theorem zc_x_cancel : zk_x_cancel.all (zz_ck zz_inf zM_x_cancel) = true ∧ zz_ch zk_x_cancel = true := ⟨by decide +kernel, by decide +kernel⟩
noncomputable def x_cancel (v1 v2 : Int) (σ : zz_S) : zz_R := ((x_taskAt v1 σ).bind fun q1 => (if q1.1 = 0 then (some ((-2), q1.2)) else ((x_isWithin v2 0 1 q1.2).bind fun q2 => (if q2.1 = 0 then (some ((-2), q2.2)) else (if q1.1 = 0 then none else ((xT_isActive q1.1 q2.2).bind fun q3 => (if q3.1 = 0 then (some ((-3), q3.2)) else ((x_leave q1.1 3 q3.2).bind fun q4 => (if v2 = 1 then ((x_interruptRuns q1.1 q4.2).bind fun q5 => (some (1, q5.2))) else (some (1, q4.2)))))))))))
set_option maxRecDepth 100000 in
set_option maxHeartbeats 4000000 in
theorem ze_x_cancel (v1 v2 : Int) (σ : zz_S) : x_cancel v1 v2 σ = zz_ev (zz_CE [(52, zw_x_leave), (53, zw_x_interruptRuns), (72, zw_x_isWithin), (73, zw_x_taskAt), (88, zw_xT_isActive)]) (zz_KE []) zk_x_cancel 0 false 0 0 400 true (zz_sk zk_x_cancel 0) [(0, 5, 1), (1, 0, v1), (2, 0, v2)] [] σ := rfl
theorem zo_x_cancel : zz_okb zM_x_cancel 0 [(0, 5, true), (1, 0, false), (2, 0, false)] (zz_f2 x_cancel) :=
  fun vs σ r τ h => by
    obtain ⟨v1, v2, rfl, h⟩ := zz_f2_ok h
    exact zz_from zc_x_cancel (zz_occ zo_m_x_leave (zz_occ zo_m_x_interruptRuns (zz_occ zo_m_x_isWithin (zz_occ zo_m_x_taskAt (zz_occ zo_m_xT_isActive zz_oc0))))) zz_ol0 ((ze_x_cancel v1 v2 σ).symm.trans h)
noncomputable def zw_x_cancel : List Int → zz_S → zz_R := zz_f3 fun a0 a1 a2 σ => if a0 = 1 then x_cancel a1 a2 σ else none
theorem zo_m_x_cancel : zz_okm zz_inf 51 zw_x_cancel := fun vs σ r τ h => by
  obtain ⟨a0, a1, a2, rfl, h⟩ := zz_f3_ok h
  obtain ⟨e, h⟩ := zz_it h
  subst e
  exact zz_meth zi_x_cancel zy_x_cancel (zo_x_cancel [a1, a2] σ r τ h)
def zk_xD_clear : List zz_E := [(0, false, .iconst 0, 1, 0, (0, 0, 0, 0), 0, []),
  (1, false, .istore_n 1, 1, 0, (0, 0, 0, 0), 0, []),
  (2, true, .iload_n 1, 1, 0, (0, 0, 0, 0), 0, []),
  (3, false, .aload_n 0, 1, 0, (0, 0, 0, 0), 0, []),
  (4, false, .getfield 25, 3, 107, (4, 3, 0, 0), 0, []),
  (7, false, .if_icmp .ge 25, 3, 0, (32, 0, 0, 0), 0, []),
  (10, false, .aload_n 0, 1, 0, (0, 0, 0, 0), 0, []),
  (11, false, .getfield 11, 3, 101, (4, 0, 21, 1), 0, []),
  (14, false, .iload_n 1, 1, 0, (0, 0, 0, 0), 0, []),
  (15, false, .aaload, 1, 0, (19, 0, 9, 0), 0, []),
  (16, false, .astore_n 2, 1, 0, (0, 0, 0, 0), 0, []),
  (17, false, .aload_n 2, 1, 0, (0, 0, 0, 0), 0, []),
  (18, false, .ifnull 8, 3, 0, (26, 0, 0, 0), 0, []),
  (21, false, .aload_n 2, 1, 0, (0, 0, 0, 0), 0, []),
  (22, false, .iconst 0, 1, 0, (0, 0, 0, 0), 0, []),
  (23, false, .putfield 29, 3, 334, (7, 16, 0, 0), 0, []),
  (26, false, .iinc 1 1, 3, 0, (0, 0, 0, 0), 0, []),
  (29, false, .goto (-27), 3, 0, (2, 0, 0, 0), 0, []),
  (32, false, .aload_n 0, 1, 0, (0, 0, 0, 0), 0, []),
  (33, false, .iconst 0, 1, 0, (0, 0, 0, 0), 0, []),
  (34, false, .putfield 25, 3, 107, (4, 3, 0, 0), 0, []),
  (37, false, .return_, 1, 0, (0, 0, 0, 0), 0, [])]
theorem zc_xD_clear : zk_xD_clear.all (zz_ck zz_inf zM_xD_clear) = true ∧ zz_ch zk_xD_clear = true := ⟨by decide +kernel, by decide +kernel⟩
noncomputable def xD_clear_2 : Nat → Int → zz_S → zz_R
  | 0, _, _ => none
  | n + 1, v1, σ => (if v1 < (zz_h σ 4 1 3) then (if zz_b σ 19 1 v1 then (if (zz_h σ 19 1 v1) = 0 then (xD_clear_2 n (zz_r (v1 + 1)) σ) else (if (zz_h σ 19 1 v1) = 0 then none else (let s1 := zz_w σ 7 (zz_h σ 19 1 v1) 16 0; (xD_clear_2 n (zz_r (v1 + 1)) s1)))) else none) else (let s2 := zz_w σ 4 1 3 0; (some (0, s2))))
set_option maxRecDepth 100000 in
set_option maxHeartbeats 4000000 in
theorem ze_xD_clear_2 (n : Nat) (v1 : Int) (σ : zz_S) : xD_clear_2 (n + 1) v1 σ = zz_ev (zz_CE []) (zz_KE [(2, [(0, 6, true), (1, 0, false)], zz_f1 (xD_clear_2 n))]) zk_xD_clear 999 false 0 0 400 true (zz_sk zk_xD_clear 2) [(0, 6, 1), (1, 0, v1)] [] σ := rfl
theorem zo_xD_clear_2 : ∀ n : Nat, zz_okb zM_xD_clear 2 [(0, 6, true), (1, 0, false)] (zz_f1 (xD_clear_2 n))
  | 0 => fun vs σ r τ h => by
    obtain ⟨v1, rfl, h⟩ := zz_f1_ok h
    exact nomatch (show (none : zz_R) = some (r, τ) from h)
  | n + 1 => by
    have ih := zo_xD_clear_2 n
    exact fun vs σ r τ h => by
        obtain ⟨v1, rfl, h⟩ := zz_f1_ok h
        exact zz_from zc_xD_clear zz_oc0 (zz_olc ih zz_ol0) ((ze_xD_clear_2 n v1 σ).symm.trans h)
noncomputable def xD_clear (σ : zz_S) : zz_R := (xD_clear_2 zz_fu 0 σ)
set_option maxRecDepth 100000 in
set_option maxHeartbeats 4000000 in
theorem ze_xD_clear (σ : zz_S) : xD_clear σ = zz_ev (zz_CE []) (zz_KE [(2, [(0, 6, true), (1, 0, false)], zz_f1 (xD_clear_2 zz_fu))]) zk_xD_clear 999 false 0 0 400 true (zz_sk zk_xD_clear 0) [(0, 6, 1)] [] σ := rfl
theorem zo_xD_clear : zz_okb zM_xD_clear 0 [(0, 6, true)] (zz_f0 xD_clear) :=
  fun vs σ r τ h => by
    obtain ⟨rfl, h⟩ := zz_f0_ok h
    exact zz_from zc_xD_clear zz_oc0 (zz_olc (zo_xD_clear_2 zz_fu) zz_ol0) ((ze_xD_clear σ).symm.trans h)
noncomputable def zw_xD_clear : List Int → zz_S → zz_R := zz_f1 fun a0 σ => if a0 = 1 then xD_clear σ else none
theorem zo_m_xD_clear : zz_okm zz_inf 79 zw_xD_clear := fun vs σ r τ h => by
  obtain ⟨a0, rfl, h⟩ := zz_f1_ok h
  obtain ⟨e, h⟩ := zz_it h
  subst e
  exact zz_meth zi_xD_clear zy_xD_clear (zo_xD_clear [] σ r τ h)
def zk_x_dropDues : List zz_E := [(0, false, .iconst 0, 1, 0, (0, 0, 0, 0), 0, []),
  (1, false, .istore_n 1, 1, 0, (0, 0, 0, 0), 0, []),
  (2, true, .iload_n 1, 1, 0, (0, 0, 0, 0), 0, []),
  (3, false, .aload_n 0, 1, 0, (0, 0, 0, 0), 0, []),
  (4, false, .getfield 27, 3, 166, (3, 3, 6, 1), 0, []),
  (7, false, .getfield 318, 3, 108, (4, 3, 0, 0), 0, []),
  (10, false, .if_icmp .ge 52, 3, 0, (62, 0, 0, 0), 0, []),
  (13, false, .aload_n 0, 1, 0, (0, 0, 0, 0), 0, []),
  (14, false, .getfield 27, 3, 166, (3, 3, 6, 1), 0, []),
  (17, false, .getfield 322, 3, 102, (4, 0, 21, 1), 0, []),
  (20, false, .iload_n 1, 1, 0, (0, 0, 0, 0), 0, []),
  (21, false, .aaload, 1, 0, (19, 0, 9, 0), 0, []),
  (22, false, .astore_n 2, 1, 0, (0, 0, 0, 0), 0, []),
  (23, false, .aload_n 2, 1, 0, (0, 0, 0, 0), 0, []),
  (24, false, .ifnonnull 6, 3, 0, (30, 0, 0, 0), 0, []),
  (27, false, .goto 29, 3, 0, (56, 0, 0, 0), 0, []),
  (30, false, .aload_n 0, 1, 0, (0, 0, 0, 0), 0, []),
  (31, false, .getfield 34, 3, 167, (3, 4, 7, 1), 0, []),
  (34, false, .aload_n 2, 1, 0, (0, 0, 0, 0), 0, []),
  (35, false, .getfield 162, 3, 299, (7, 0, 0, 0), 0, []),
  (38, false, .aload_n 0, 1, 0, (0, 0, 0, 0), 0, []),
  (39, false, .getfield 27, 3, 166, (3, 3, 6, 1), 0, []),
  (42, false, .getfield 334, 3, 104, (4, 1, 22, 1), 0, []),
  (45, false, .iload_n 1, 1, 0, (0, 0, 0, 0), 0, []),
  (46, false, .iaload, 1, 0, (20, 0, 0, 0), 0, []),
  (47, false, .iconst 4, 1, 0, (0, 0, 0, 0), 0, []),
  (48, false, .invokevirtual 314, 3, 534, (82, 4, 999, 0), 0, [0, 0, 0, 7]),
  (51, false, .aload_n 0, 1, 0, (0, 0, 0, 0), 0, []),
  (52, false, .aload_n 2, 1, 0, (0, 0, 0, 0), 0, []),
  (53, false, .invokevirtual 315, 3, 538, (38, 2, 999, 0), 0, [9, 5]),
  (56, false, .iinc 1 1, 3, 0, (0, 0, 0, 0), 0, []),
  (59, false, .goto (-57), 3, 0, (2, 0, 0, 0), 0, []),
  (62, false, .aload_n 0, 1, 0, (0, 0, 0, 0), 0, []),
  (63, false, .getfield 27, 3, 166, (3, 3, 6, 1), 0, []),
  (66, false, .invokevirtual 393, 3, 716, (79, 1, 999, 0), 0, [6]),
  (69, false, .return_, 1, 0, (0, 0, 0, 0), 0, [])]
theorem zc_x_dropDues : zk_x_dropDues.all (zz_ck zz_inf zM_x_dropDues) = true ∧ zz_ch zk_x_dropDues = true := ⟨by decide +kernel, by decide +kernel⟩
noncomputable def x_dropDues_2 : Nat → Int → zz_S → zz_R
  | 0, _, _ => none
  | n + 1, v1, σ => (if v1 < (zz_h σ 4 1 3) then (if zz_b σ 19 1 v1 then (if (zz_h σ 19 1 v1) = 0 then (x_dropDues_2 n (zz_r (v1 + 1)) σ) else (if (zz_h σ 19 1 v1) = 0 then none else (if zz_b σ 20 1 v1 then ((xB_add (zz_h σ 7 (zz_h σ 19 1 v1) 0) (zz_h σ 20 1 v1) 4 σ).bind fun q1 => ((x_pauseAgain (zz_h σ 19 1 v1) q1.2).bind fun q2 => (x_dropDues_2 n (zz_r (v1 + 1)) q2.2))) else none))) else none) else ((xD_clear σ).bind fun q3 => (some (0, q3.2))))
set_option maxRecDepth 100000 in
set_option maxHeartbeats 4000000 in
theorem ze_x_dropDues_2 (n : Nat) (v1 : Int) (σ : zz_S) : x_dropDues_2 (n + 1) v1 σ = zz_ev (zz_CE [(38, zw_x_pauseAgain), (79, zw_xD_clear), (82, zw_xB_add)]) (zz_KE [(2, [(0, 5, true), (1, 0, false)], zz_f1 (x_dropDues_2 n))]) zk_x_dropDues 999 false 0 0 400 true (zz_sk zk_x_dropDues 2) [(0, 5, 1), (1, 0, v1)] [] σ := rfl
theorem zo_x_dropDues_2 : ∀ n : Nat, zz_okb zM_x_dropDues 2 [(0, 5, true), (1, 0, false)] (zz_f1 (x_dropDues_2 n))
  | 0 => fun vs σ r τ h => by
    obtain ⟨v1, rfl, h⟩ := zz_f1_ok h
    exact nomatch (show (none : zz_R) = some (r, τ) from h)
  | n + 1 => by
    have ih := zo_x_dropDues_2 n
    exact fun vs σ r τ h => by
        obtain ⟨v1, rfl, h⟩ := zz_f1_ok h
        exact zz_from zc_x_dropDues (zz_occ zo_m_x_pauseAgain (zz_occ zo_m_xD_clear (zz_occ zo_m_xB_add zz_oc0))) (zz_olc ih zz_ol0) ((ze_x_dropDues_2 n v1 σ).symm.trans h)
noncomputable def x_dropDues (σ : zz_S) : zz_R := (x_dropDues_2 zz_fu 0 σ)
set_option maxRecDepth 100000 in
set_option maxHeartbeats 4000000 in
theorem ze_x_dropDues (σ : zz_S) : x_dropDues σ = zz_ev (zz_CE []) (zz_KE [(2, [(0, 5, true), (1, 0, false)], zz_f1 (x_dropDues_2 zz_fu))]) zk_x_dropDues 999 false 0 0 400 true (zz_sk zk_x_dropDues 0) [(0, 5, 1)] [] σ := rfl
theorem zo_x_dropDues : zz_okb zM_x_dropDues 0 [(0, 5, true)] (zz_f0 x_dropDues) :=
  fun vs σ r τ h => by
    obtain ⟨rfl, h⟩ := zz_f0_ok h
    exact zz_from zc_x_dropDues zz_oc0 (zz_olc (zo_x_dropDues_2 zz_fu) zz_ol0) ((ze_x_dropDues σ).symm.trans h)
noncomputable def zw_x_dropDues : List Int → zz_S → zz_R := zz_f1 fun a0 σ => if a0 = 1 then x_dropDues σ else none
theorem zo_m_x_dropDues : zz_okm zz_inf 56 zw_x_dropDues := fun vs σ r τ h => by
  obtain ⟨a0, rfl, h⟩ := zz_f1_ok h
  obtain ⟨e, h⟩ := zz_it h
  subst e
  exact zz_meth zi_x_dropDues zy_x_dropDues (zo_x_dropDues [] σ r τ h)
def zk_x_stop : List zz_E := [(0, false, .iload_n 1, 1, 0, (0, 0, 0, 0), 0, []),
  (1, false, .iconst 0, 1, 0, (0, 0, 0, 0), 0, []),
  (2, false, .iconst 1, 1, 0, (0, 0, 0, 0), 0, []),
  (3, false, .invokestatic 91, 3, 228, (72, 3, 0, 0), 0, [0, 0, 0]),
  (6, false, .ifCond .ne 6, 3, 0, (12, 0, 0, 0), 0, []),
  (9, false, .bipush (-2), 2, 0, (0, 0, 0, 0), 0, []),
  (11, false, .ireturn, 1, 0, (0, 0, 0, 0), 0, []),
  (12, false, .aload_n 0, 1, 0, (0, 0, 0, 0), 0, []),
  (13, false, .getfield 87, 3, 182, (3, 19, 0, 0), 1, []),
  (16, false, .ifCond .eq 6, 3, 0, (22, 0, 0, 0), 0, []),
  (19, false, .bipush (-3), 2, 0, (0, 0, 0, 0), 0, []),
  (21, false, .ireturn, 1, 0, (0, 0, 0, 0), 0, []),
  (22, false, .aload_n 0, 1, 0, (0, 0, 0, 0), 0, []),
  (23, false, .iconst 1, 1, 0, (0, 0, 0, 0), 0, []),
  (24, false, .putfield 87, 3, 182, (3, 19, 0, 0), 1, []),
  (27, false, .iload_n 1, 1, 0, (0, 0, 0, 0), 0, []),
  (28, false, .iconst 1, 1, 0, (0, 0, 0, 0), 0, []),
  (29, false, .if_icmp .ne 12, 3, 0, (41, 0, 0, 0), 0, []),
  (32, false, .aload_n 0, 1, 0, (0, 0, 0, 0), 0, []),
  (33, false, .invokevirtual 390, 3, 712, (56, 1, 999, 0), 0, [5]),
  (36, false, .aload_n 0, 1, 0, (0, 0, 0, 0), 0, []),
  (37, false, .aconst_null, 1, 0, (0, 0, 0, 0), 0, []),
  (38, false, .invokevirtual 380, 3, 700, (53, 2, 999, 0), 0, [9, 5]),
  (41, false, .iconst 1, 1, 0, (0, 0, 0, 0), 0, []),
  (42, false, .ireturn, 1, 0, (0, 0, 0, 0), 0, [])]
theorem zc_x_stop : zk_x_stop.all (zz_ck zz_inf zM_x_stop) = true ∧ zz_ch zk_x_stop = true := ⟨by decide +kernel, by decide +kernel⟩
noncomputable def x_stop (v1 : Int) (σ : zz_S) : zz_R := ((x_isWithin v1 0 1 σ).bind fun q1 => (if q1.1 = 0 then (some ((-2), q1.2)) else (if (zz_h q1.2 3 1 19) = 0 then (let s2 := zz_w q1.2 3 1 19 1; (if v1 = 1 then ((x_dropDues s2).bind fun q3 => ((x_interruptRuns 0 q3.2).bind fun q4 => (some (1, q4.2)))) else (some (1, s2)))) else (some ((-3), q1.2)))))
set_option maxRecDepth 100000 in
set_option maxHeartbeats 4000000 in
theorem ze_x_stop (v1 : Int) (σ : zz_S) : x_stop v1 σ = zz_ev (zz_CE [(53, zw_x_interruptRuns), (56, zw_x_dropDues), (72, zw_x_isWithin)]) (zz_KE []) zk_x_stop 0 false 0 0 400 true (zz_sk zk_x_stop 0) [(0, 5, 1), (1, 0, v1)] [] σ := rfl
theorem zo_x_stop : zz_okb zM_x_stop 0 [(0, 5, true), (1, 0, false)] (zz_f1 x_stop) :=
  fun vs σ r τ h => by
    obtain ⟨v1, rfl, h⟩ := zz_f1_ok h
    exact zz_from zc_x_stop (zz_occ zo_m_x_interruptRuns (zz_occ zo_m_x_dropDues (zz_occ zo_m_x_isWithin zz_oc0))) zz_ol0 ((ze_x_stop v1 σ).symm.trans h)
noncomputable def zw_x_stop : List Int → zz_S → zz_R := zz_f2 fun a0 a1 σ => if a0 = 1 then x_stop a1 σ else none
theorem zo_m_x_stop : zz_okm zz_inf 55 zw_x_stop := fun vs σ r τ h => by
  obtain ⟨a0, a1, rfl, h⟩ := zz_f2_ok h
  obtain ⟨e, h⟩ := zz_it h
  subst e
  exact zz_meth zi_x_stop zy_x_stop (zo_x_stop [a1] σ r τ h)
def zk_x_go : List zz_E := [(0, false, .aload_n 0, 1, 0, (0, 0, 0, 0), 0, []),
  (1, false, .getfield 87, 3, 182, (3, 19, 0, 0), 1, []),
  (4, false, .ifCond .ne 6, 3, 0, (10, 0, 0, 0), 0, []),
  (7, false, .bipush (-3), 2, 0, (0, 0, 0, 0), 0, []),
  (9, false, .ireturn, 1, 0, (0, 0, 0, 0), 0, []),
  (10, false, .aload_n 0, 1, 0, (0, 0, 0, 0), 0, []),
  (11, false, .iconst 0, 1, 0, (0, 0, 0, 0), 0, []),
  (12, false, .putfield 87, 3, 182, (3, 19, 0, 0), 1, []),
  (15, false, .iconst 1, 1, 0, (0, 0, 0, 0), 0, []),
  (16, false, .ireturn, 1, 0, (0, 0, 0, 0), 0, [])]
theorem zc_x_go : zk_x_go.all (zz_ck zz_inf zM_x_go) = true ∧ zz_ch zk_x_go = true := ⟨by decide +kernel, by decide +kernel⟩
noncomputable def x_go (σ : zz_S) : zz_R := (if (zz_h σ 3 1 19) = 0 then (some ((-3), σ)) else (let s1 := zz_w σ 3 1 19 0; (some (1, s1))))
set_option maxRecDepth 100000 in
set_option maxHeartbeats 4000000 in
theorem ze_x_go (σ : zz_S) : x_go σ = zz_ev (zz_CE []) (zz_KE []) zk_x_go 0 false 0 0 400 true (zz_sk zk_x_go 0) [(0, 5, 1)] [] σ := rfl
theorem zo_x_go : zz_okb zM_x_go 0 [(0, 5, true)] (zz_f0 x_go) :=
  fun vs σ r τ h => by
    obtain ⟨rfl, h⟩ := zz_f0_ok h
    exact zz_from zc_x_go zz_oc0 zz_ol0 ((ze_x_go σ).symm.trans h)
noncomputable def zw_x_go : List Int → zz_S → zz_R := zz_f1 fun a0 σ => if a0 = 1 then x_go σ else none
theorem zo_m_x_go : zz_okm zz_inf 57 zw_x_go := fun vs σ r τ h => by
  obtain ⟨a0, rfl, h⟩ := zz_f1_ok h
  obtain ⟨e, h⟩ := zz_it h
  subst e
  exact zz_meth zi_x_go zy_x_go (zo_x_go [] σ r τ h)
def zk_x_run : List zz_E := [(0, false, .iload_n 1, 1, 0, (0, 0, 0, 0), 0, []),
  (1, false, .iconst 0, 1, 0, (0, 0, 0, 0), 0, []),
  (2, false, .aload_n 0, 1, 0, (0, 0, 0, 0), 0, []),
  (3, false, .getfield 66, 3, 175, (3, 12, 0, 0), 0, []),
  (6, false, .iconst 1, 1, 0, (0, 0, 0, 0), 0, []),
  (7, false, .isub, 1, 0, (0, 0, 0, 0), 0, []),
  (8, false, .invokestatic 91, 3, 228, (72, 3, 0, 0), 0, [0, 0, 0]),
  (11, false, .ifCond .eq 12, 3, 0, (23, 0, 0, 0), 0, []),
  (14, false, .aload_n 0, 1, 0, (0, 0, 0, 0), 0, []),
  (15, false, .getfield 17, 3, 164, (3, 1, 14, 1), 0, []),
  (18, false, .iload_n 1, 1, 0, (0, 0, 0, 0), 0, []),
  (19, false, .aaload, 1, 0, (12, 0, 12, 0), 0, []),
  (20, false, .goto 4, 3, 0, (24, 0, 0, 0), 0, []),
  (23, false, .aconst_null, 1, 0, (0, 0, 0, 0), 0, []),
  (24, false, .astore_n 3, 1, 0, (0, 0, 0, 0), 0, []),
  (25, false, .aload_n 3, 1, 0, (0, 0, 0, 0), 0, []),
  (26, false, .ifnonnull 6, 3, 0, (32, 0, 0, 0), 0, []),
  (29, false, .bipush (-2), 2, 0, (0, 0, 0, 0), 0, []),
  (31, false, .ireturn, 1, 0, (0, 0, 0, 0), 0, []),
  (32, false, .iload_n 2, 1, 0, (0, 0, 0, 0), 0, []),
  (33, false, .tableswitch 90 0 7 #[47, 55, 60, 65, 70, 75, 80, 85], 47, 0, (123, 0, 0, 0), 0, [80, 88, 93, 98, 103, 108, 113, 118]),
  (80, false, .aload_n 3, 1, 0, (0, 0, 0, 0), 0, []),
  (81, false, .getfield 203, 3, 636, (10, 1, 9, 0), 0, []),
  (84, false, .getfield 162, 3, 299, (7, 0, 0, 0), 0, []),
  (87, false, .ireturn, 1, 0, (0, 0, 0, 0), 0, []),
  (88, false, .aload_n 3, 1, 0, (0, 0, 0, 0), 0, []),
  (89, false, .getfield 396, 3, 640, (10, 3, 0, 0), 0, []),
  (92, false, .ireturn, 1, 0, (0, 0, 0, 0), 0, []),
  (93, false, .aload_n 3, 1, 0, (0, 0, 0, 0), 0, []),
  (94, false, .getfield 399, 3, 642, (10, 4, 0, 0), 0, []),
  (97, false, .ireturn, 1, 0, (0, 0, 0, 0), 0, []),
  (98, false, .aload_n 3, 1, 0, (0, 0, 0, 0), 0, []),
  (99, false, .getfield 267, 3, 650, (10, 8, 0, 0), 0, []),
  (102, false, .ireturn, 1, 0, (0, 0, 0, 0), 0, []),
  (103, false, .aload_n 3, 1, 0, (0, 0, 0, 0), 0, []),
  (104, false, .getfield 270, 3, 652, (10, 9, 0, 0), 0, []),
  (107, false, .ireturn, 1, 0, (0, 0, 0, 0), 0, []),
  (108, false, .aload_n 3, 1, 0, (0, 0, 0, 0), 0, []),
  (109, false, .getfield 220, 3, 654, (10, 10, 0, 0), 0, []),
  (112, false, .ireturn, 1, 0, (0, 0, 0, 0), 0, []),
  (113, false, .aload_n 3, 1, 0, (0, 0, 0, 0), 0, []),
  (114, false, .getfield 261, 3, 646, (10, 6, 0, 0), 0, []),
  (117, false, .ireturn, 1, 0, (0, 0, 0, 0), 0, []),
  (118, false, .aload_n 3, 1, 0, (0, 0, 0, 0), 0, []),
  (119, false, .getfield 361, 3, 648, (10, 7, 0, 0), 0, []),
  (122, false, .ireturn, 1, 0, (0, 0, 0, 0), 0, []),
  (123, false, .bipush (-2), 2, 0, (0, 0, 0, 0), 0, []),
  (125, false, .ireturn, 1, 0, (0, 0, 0, 0), 0, [])]
theorem zc_x_run : zk_x_run.all (zz_ck zz_inf zM_x_run) = true ∧ zz_ch zk_x_run = true := ⟨by decide +kernel, by decide +kernel⟩
noncomputable def x_run (v1 v2 : Int) (σ : zz_S) : zz_R := ((x_isWithin v1 0 (zz_r ((zz_h σ 3 1 12) - 1)) σ).bind fun q1 => (if q1.1 = 0 then (some ((-2), q1.2)) else (if zz_b q1.2 12 1 v1 then (if (zz_h q1.2 12 1 v1) = 0 then (some ((-2), q1.2)) else (if v2 = 0 then (if (zz_h q1.2 12 1 v1) = 0 then none else (if (zz_h q1.2 10 (zz_h q1.2 12 1 v1) 1) = 0 then none else (some ((zz_h q1.2 7 (zz_h q1.2 10 (zz_h q1.2 12 1 v1) 1) 0), q1.2)))) else (if v2 = 1 then (if (zz_h q1.2 12 1 v1) = 0 then none else (some ((zz_h q1.2 10 (zz_h q1.2 12 1 v1) 3), q1.2))) else (if v2 = 2 then (if (zz_h q1.2 12 1 v1) = 0 then none else (some ((zz_h q1.2 10 (zz_h q1.2 12 1 v1) 4), q1.2))) else (if v2 = 3 then (if (zz_h q1.2 12 1 v1) = 0 then none else (some ((zz_h q1.2 10 (zz_h q1.2 12 1 v1) 8), q1.2))) else (if v2 = 4 then (if (zz_h q1.2 12 1 v1) = 0 then none else (some ((zz_h q1.2 10 (zz_h q1.2 12 1 v1) 9), q1.2))) else (if v2 = 5 then (if (zz_h q1.2 12 1 v1) = 0 then none else (some ((zz_h q1.2 10 (zz_h q1.2 12 1 v1) 10), q1.2))) else (if v2 = 6 then (if (zz_h q1.2 12 1 v1) = 0 then none else (some ((zz_h q1.2 10 (zz_h q1.2 12 1 v1) 6), q1.2))) else (if v2 = 7 then (if (zz_h q1.2 12 1 v1) = 0 then none else (some ((zz_h q1.2 10 (zz_h q1.2 12 1 v1) 7), q1.2))) else (some ((-2), q1.2))))))))))) else none)))
set_option maxRecDepth 100000 in
set_option maxHeartbeats 4000000 in
theorem ze_x_run (v1 v2 : Int) (σ : zz_S) : x_run v1 v2 σ = zz_ev (zz_CE [(72, zw_x_isWithin)]) (zz_KE []) zk_x_run 0 false 0 0 400 true (zz_sk zk_x_run 0) [(0, 5, 1), (1, 0, v1), (2, 0, v2)] [] σ := rfl
theorem zo_x_run : zz_okb zM_x_run 0 [(0, 5, true), (1, 0, false), (2, 0, false)] (zz_f2 x_run) :=
  fun vs σ r τ h => by
    obtain ⟨v1, v2, rfl, h⟩ := zz_f2_ok h
    exact zz_from zc_x_run (zz_occ zo_m_x_isWithin zz_oc0) zz_ol0 ((ze_x_run v1 v2 σ).symm.trans h)
noncomputable def zw_x_run : List Int → zz_S → zz_R := zz_f3 fun a0 a1 a2 σ => if a0 = 1 then x_run a1 a2 σ else none
theorem zo_m_x_run : zz_okm zz_inf 58 zw_x_run := fun vs σ r τ h => by
  obtain ⟨a0, a1, a2, rfl, h⟩ := zz_f3_ok h
  obtain ⟨e, h⟩ := zz_it h
  subst e
  exact zz_meth zi_x_run zy_x_run (zo_x_run [a1, a2] σ r τ h)
def zk_x_stateOf : List zz_E := [(0, false, .aload_n 1, 1, 0, (0, 0, 0, 0), 0, []),
  (1, false, .invokevirtual 226, 3, 483, (88, 1, 0, 0), 0, [9]),
  (4, false, .ifCond .ne 8, 3, 0, (12, 0, 0, 0), 0, []),
  (7, false, .aload_n 1, 1, 0, (0, 0, 0, 0), 0, []),
  (8, false, .getfield 319, 3, 321, (7, 10, 0, 0), 0, []),
  (11, false, .ireturn, 1, 0, (0, 0, 0, 0), 0, []),
  (12, false, .aload_n 1, 1, 0, (0, 0, 0, 0), 0, []),
  (13, false, .getfield 264, 3, 332, (7, 15, 0, 0), 0, []),
  (16, false, .ifCond .le 5, 3, 0, (21, 0, 0, 0), 0, []),
  (19, false, .iconst 1, 1, 0, (0, 0, 0, 0), 0, []),
  (20, false, .ireturn, 1, 0, (0, 0, 0, 0), 0, []),
  (21, false, .aload_n 1, 1, 0, (0, 0, 0, 0), 0, []),
  (22, false, .getfield 114, 3, 301, (7, 1, 0, 0), 0, []),
  (25, false, .ifCond .ne 25, 3, 0, (50, 0, 0, 0), 0, []),
  (28, false, .aload_n 1, 1, 0, (0, 0, 0, 0), 0, []),
  (29, false, .getfield 292, 3, 303, (7, 2, 0, 0), 0, []),
  (32, false, .aload_n 0, 1, 0, (0, 0, 0, 0), 0, []),
  (33, false, .getfield 78, 3, 179, (3, 16, 0, 0), 0, []),
  (36, false, .if_icmp .ge 14, 3, 0, (50, 0, 0, 0), 0, []),
  (39, false, .aload_n 1, 1, 0, (0, 0, 0, 0), 0, []),
  (40, false, .getfield 337, 3, 335, (7, 16, 0, 0), 0, []),
  (43, false, .ifCond .ne 7, 3, 0, (50, 0, 0, 0), 0, []),
  (46, false, .iconst 1, 1, 0, (0, 0, 0, 0), 0, []),
  (47, false, .goto 4, 3, 0, (51, 0, 0, 0), 0, []),
  (50, true, .iconst 0, 1, 0, (0, 0, 0, 0), 0, []),
  (51, false, .istore_n 2, 1, 0, (0, 0, 0, 0), 0, []),
  (52, false, .iload_n 2, 1, 0, (0, 0, 0, 0), 0, []),
  (53, false, .ifCond .eq 7, 3, 0, (60, 0, 0, 0), 0, []),
  (56, false, .iconst 2, 1, 0, (0, 0, 0, 0), 0, []),
  (57, false, .goto 4, 3, 0, (61, 0, 0, 0), 0, []),
  (60, false, .iconst 0, 1, 0, (0, 0, 0, 0), 0, []),
  (61, false, .ireturn, 1, 0, (0, 0, 0, 0), 0, [])]
theorem zc_x_stateOf : zk_x_stateOf.all (zz_ck zz_inf zM_x_stateOf) = true ∧ zz_ch zk_x_stateOf = true := ⟨by decide +kernel, by decide +kernel⟩
noncomputable def x_stateOf_50 (σ : zz_S) : zz_R := (some (0, σ))
set_option maxRecDepth 100000 in
set_option maxHeartbeats 4000000 in
theorem ze_x_stateOf_50 (σ : zz_S) : x_stateOf_50 σ = zz_ev (zz_CE []) (zz_KE []) zk_x_stateOf 0 false 0 0 400 true (zz_sk zk_x_stateOf 50) [] [] σ := rfl
theorem zo_x_stateOf_50 : zz_okb zM_x_stateOf 50 [] (zz_f0 x_stateOf_50) :=
  fun vs σ r τ h => by
    obtain ⟨rfl, h⟩ := zz_f0_ok h
    exact zz_from zc_x_stateOf zz_oc0 zz_ol0 ((ze_x_stateOf_50 σ).symm.trans h)
noncomputable def x_stateOf (v1 : Int) (σ : zz_S) : zz_R := (if v1 = 0 then none else ((xT_isActive v1 σ).bind fun q1 => (if q1.1 = 0 then (if v1 = 0 then none else (some ((zz_h q1.2 7 v1 10), q1.2))) else (if v1 = 0 then none else (if (zz_h q1.2 7 v1 15) ≤ 0 then (if v1 = 0 then none else (if (zz_h q1.2 7 v1 1) = 0 then (if v1 = 0 then none else (if (zz_h q1.2 7 v1 2) < (zz_h q1.2 3 1 16) then (if v1 = 0 then none else (if (zz_h q1.2 7 v1 16) = 0 then (some (2, q1.2)) else (x_stateOf_50 q1.2))) else (x_stateOf_50 q1.2))) else (x_stateOf_50 q1.2))) else (some (1, q1.2)))))))
set_option maxRecDepth 100000 in
set_option maxHeartbeats 4000000 in
theorem ze_x_stateOf (v1 : Int) (σ : zz_S) : x_stateOf v1 σ = zz_ev (zz_CE [(88, zw_xT_isActive)]) (zz_KE [(50, [], zz_f0 (x_stateOf_50))]) zk_x_stateOf 0 false 0 0 400 true (zz_sk zk_x_stateOf 0) [(0, 5, 1), (1, 9, v1)] [] σ := rfl
theorem zo_x_stateOf : zz_okb zM_x_stateOf 0 [(0, 5, true), (1, 9, false)] (zz_f1 x_stateOf) :=
  fun vs σ r τ h => by
    obtain ⟨v1, rfl, h⟩ := zz_f1_ok h
    exact zz_from zc_x_stateOf (zz_occ zo_m_xT_isActive zz_oc0) (zz_olc (zo_x_stateOf_50) zz_ol0) ((ze_x_stateOf v1 σ).symm.trans h)
noncomputable def zw_x_stateOf : List Int → zz_S → zz_R := zz_f2 fun a0 a1 σ => if a0 = 1 then x_stateOf a1 σ else none
theorem zo_m_x_stateOf : zz_okm zz_inf 60 zw_x_stateOf := fun vs σ r τ h => by
  obtain ⟨a0, a1, rfl, h⟩ := zz_f2_ok h
  obtain ⟨e, h⟩ := zz_it h
  subst e
  exact zz_meth zi_x_stateOf zy_x_stateOf (zo_x_stateOf [a1] σ r τ h)
def zk_x_of : List zz_E := [(0, false, .aload_n 0, 1, 0, (0, 0, 0, 0), 0, []),
  (1, false, .iload_n 1, 1, 0, (0, 0, 0, 0), 0, []),
  (2, false, .invokevirtual 100, 3, 385, (73, 2, 9, 0), 0, [0, 5]),
  (5, false, .astore_n 3, 1, 0, (0, 0, 0, 0), 0, []),
  (6, false, .aload_n 3, 1, 0, (0, 0, 0, 0), 0, []),
  (7, false, .ifnonnull 6, 3, 0, (13, 0, 0, 0), 0, []),
  (10, false, .bipush (-2), 2, 0, (0, 0, 0, 0), 0, []),
  (12, false, .ireturn, 1, 0, (0, 0, 0, 0), 0, []),
  (13, false, .iload_n 2, 1, 0, (0, 0, 0, 0), 0, []),
  (14, false, .tableswitch 102 0 7 #[46, 52, 57, 62, 67, 72, 77, 97], 46, 0, (116, 0, 0, 0), 0, [60, 66, 71, 76, 81, 86, 91, 111]),
  (60, false, .aload_n 0, 1, 0, (0, 0, 0, 0), 0, []),
  (61, false, .aload_n 3, 1, 0, (0, 0, 0, 0), 0, []),
  (62, false, .invokevirtual 400, 3, 732, (60, 2, 0, 0), 0, [9, 5]),
  (65, false, .ireturn, 1, 0, (0, 0, 0, 0), 0, []),
  (66, false, .aload_n 3, 1, 0, (0, 0, 0, 0), 0, []),
  (67, false, .getfield 114, 3, 301, (7, 1, 0, 0), 0, []),
  (70, false, .ireturn, 1, 0, (0, 0, 0, 0), 0, []),
  (71, false, .aload_n 3, 1, 0, (0, 0, 0, 0), 0, []),
  (72, false, .getfield 364, 3, 330, (7, 14, 0, 0), 0, []),
  (75, false, .ireturn, 1, 0, (0, 0, 0, 0), 0, []),
  (76, false, .aload_n 3, 1, 0, (0, 0, 0, 0), 0, []),
  (77, false, .getfield 311, 3, 337, (7, 17, 0, 0), 0, []),
  (80, false, .ireturn, 1, 0, (0, 0, 0, 0), 0, []),
  (81, false, .aload_n 3, 1, 0, (0, 0, 0, 0), 0, []),
  (82, false, .getfield 337, 3, 335, (7, 16, 0, 0), 0, []),
  (85, false, .ireturn, 1, 0, (0, 0, 0, 0), 0, []),
  (86, false, .aload_n 3, 1, 0, (0, 0, 0, 0), 0, []),
  (87, false, .getfield 223, 3, 327, (7, 13, 0, 0), 0, []),
  (90, false, .ireturn, 1, 0, (0, 0, 0, 0), 0, []),
  (91, false, .aload_n 3, 1, 0, (0, 0, 0, 0), 0, []),
  (92, false, .getfield 255, 3, 325, (7, 12, 0, 0), 0, []),
  (95, false, .aload_n 0, 1, 0, (0, 0, 0, 0), 0, []),
  (96, false, .getfield 78, 3, 179, (3, 16, 0, 0), 0, []),
  (99, false, .if_icmp .le 10, 3, 0, (109, 0, 0, 0), 0, []),
  (102, false, .aload_n 3, 1, 0, (0, 0, 0, 0), 0, []),
  (103, false, .getfield 255, 3, 325, (7, 12, 0, 0), 0, []),
  (106, false, .goto 4, 3, 0, (110, 0, 0, 0), 0, []),
  (109, false, .iconst (-1), 1, 0, (0, 0, 0, 0), 0, []),
  (110, false, .ireturn, 1, 0, (0, 0, 0, 0), 0, []),
  (111, false, .aload_n 3, 1, 0, (0, 0, 0, 0), 0, []),
  (112, false, .getfield 133, 3, 315, (7, 7, 0, 0), 0, []),
  (115, false, .ireturn, 1, 0, (0, 0, 0, 0), 0, []),
  (116, false, .bipush (-2), 2, 0, (0, 0, 0, 0), 0, []),
  (118, false, .ireturn, 1, 0, (0, 0, 0, 0), 0, [])]
theorem zc_x_of : zk_x_of.all (zz_ck zz_inf zM_x_of) = true ∧ zz_ch zk_x_of = true := ⟨by decide +kernel, by decide +kernel⟩
noncomputable def x_of (v1 v2 : Int) (σ : zz_S) : zz_R := ((x_taskAt v1 σ).bind fun q1 => (if q1.1 = 0 then (some ((-2), q1.2)) else (if v2 = 0 then ((x_stateOf q1.1 q1.2).bind fun q2 => (some (q2.1, q2.2))) else (if v2 = 1 then (if q1.1 = 0 then none else (some ((zz_h q1.2 7 q1.1 1), q1.2))) else (if v2 = 2 then (if q1.1 = 0 then none else (some ((zz_h q1.2 7 q1.1 14), q1.2))) else (if v2 = 3 then (if q1.1 = 0 then none else (some ((zz_h q1.2 7 q1.1 17), q1.2))) else (if v2 = 4 then (if q1.1 = 0 then none else (some ((zz_h q1.2 7 q1.1 16), q1.2))) else (if v2 = 5 then (if q1.1 = 0 then none else (some ((zz_h q1.2 7 q1.1 13), q1.2))) else (if v2 = 6 then (if q1.1 = 0 then none else (if (zz_h q1.2 7 q1.1 12) ≤ (zz_h q1.2 3 1 16) then (some ((-1), q1.2)) else (if q1.1 = 0 then none else (some ((zz_h q1.2 7 q1.1 12), q1.2))))) else (if v2 = 7 then (if q1.1 = 0 then none else (some ((zz_h q1.2 7 q1.1 7), q1.2))) else (some ((-2), q1.2))))))))))))
set_option maxRecDepth 100000 in
set_option maxHeartbeats 4000000 in
theorem ze_x_of (v1 v2 : Int) (σ : zz_S) : x_of v1 v2 σ = zz_ev (zz_CE [(60, zw_x_stateOf), (73, zw_x_taskAt)]) (zz_KE []) zk_x_of 0 false 0 0 400 true (zz_sk zk_x_of 0) [(0, 5, 1), (1, 0, v1), (2, 0, v2)] [] σ := rfl
theorem zo_x_of : zz_okb zM_x_of 0 [(0, 5, true), (1, 0, false), (2, 0, false)] (zz_f2 x_of) :=
  fun vs σ r τ h => by
    obtain ⟨v1, v2, rfl, h⟩ := zz_f2_ok h
    exact zz_from zc_x_of (zz_occ zo_m_x_stateOf (zz_occ zo_m_x_taskAt zz_oc0)) zz_ol0 ((ze_x_of v1 v2 σ).symm.trans h)
noncomputable def zw_x_of : List Int → zz_S → zz_R := zz_f3 fun a0 a1 a2 σ => if a0 = 1 then x_of a1 a2 σ else none
theorem zo_m_x_of : zz_okm zz_inf 59 zw_x_of := fun vs σ r τ h => by
  obtain ⟨a0, a1, a2, rfl, h⟩ := zz_f3_ok h
  obtain ⟨e, h⟩ := zz_it h
  subst e
  exact zz_meth zi_x_of zy_x_of (zo_x_of [a1, a2] σ r τ h)
def zk_xT_firstOfRate : List zz_E := [(0, false, .aload_n 0, 1, 0, (0, 0, 0, 0), 0, []),
  (1, false, .getfield 72, 3, 302, (7, 2, 0, 0), 0, []),
  (4, false, .iload_n 1, 1, 0, (0, 0, 0, 0), 0, []),
  (5, false, .if_icmp .lt 8, 3, 0, (13, 0, 0, 0), 0, []),
  (8, false, .aload_n 0, 1, 0, (0, 0, 0, 0), 0, []),
  (9, false, .getfield 72, 3, 302, (7, 2, 0, 0), 0, []),
  (12, false, .ireturn, 1, 0, (0, 0, 0, 0), 0, []),
  (13, false, .iload_n 1, 1, 0, (0, 0, 0, 0), 0, []),
  (14, false, .aload_n 0, 1, 0, (0, 0, 0, 0), 0, []),
  (15, false, .getfield 72, 3, 302, (7, 2, 0, 0), 0, []),
  (18, false, .isub, 1, 0, (0, 0, 0, 0), 0, []),
  (19, false, .aload_n 0, 1, 0, (0, 0, 0, 0), 0, []),
  (20, false, .invokevirtual 87, 3, 748, (91, 1, 0, 0), 0, [9]),
  (23, false, .iadd, 1, 0, (0, 0, 0, 0), 0, []),
  (24, false, .iconst 1, 1, 0, (0, 0, 0, 0), 0, []),
  (25, false, .isub, 1, 0, (0, 0, 0, 0), 0, []),
  (26, false, .aload_n 0, 1, 0, (0, 0, 0, 0), 0, []),
  (27, false, .invokevirtual 87, 3, 748, (91, 1, 0, 0), 0, [9]),
  (30, false, .idiv, 1, 0, (0, 0, 0, 0), 0, []),
  (31, false, .istore_n 2, 1, 0, (0, 0, 0, 0), 0, []),
  (32, false, .aload_n 0, 1, 0, (0, 0, 0, 0), 0, []),
  (33, false, .getfield 72, 3, 302, (7, 2, 0, 0), 0, []),
  (36, false, .iload_n 2, 1, 0, (0, 0, 0, 0), 0, []),
  (37, false, .aload_n 0, 1, 0, (0, 0, 0, 0), 0, []),
  (38, false, .invokevirtual 87, 3, 748, (91, 1, 0, 0), 0, [9]),
  (41, false, .imul, 1, 0, (0, 0, 0, 0), 0, []),
  (42, false, .iadd, 1, 0, (0, 0, 0, 0), 0, []),
  (43, false, .ireturn, 1, 0, (0, 0, 0, 0), 0, [])]
theorem zc_xT_firstOfRate : zk_xT_firstOfRate.all (zz_ck zz_inf zM_xT_firstOfRate) = true ∧ zz_ch zk_xT_firstOfRate = true := ⟨by decide +kernel, by decide +kernel⟩
noncomputable def xT_firstOfRate (v0 v1 : Int) (σ : zz_S) : zz_R := (if v0 = 0 then none else (if (zz_h σ 7 v0 2) < v1 then (if v0 = 0 then none else (if v0 = 0 then none else ((xT_step v0 σ).bind fun q1 => (if v0 = 0 then none else ((xT_step v0 q1.2).bind fun q2 => (if q2.1 = 0 then none else (if v0 = 0 then none else (if v0 = 0 then none else ((xT_step v0 q2.2).bind fun q3 => (some ((zz_r ((zz_h q2.2 7 v0 2) + (zz_r ((zz_div (zz_r ((zz_r ((zz_r (v1 - (zz_h σ 7 v0 2))) + q1.1)) - 1)) q2.1) * q3.1)))), q3.2))))))))))) else (if v0 = 0 then none else (some ((zz_h σ 7 v0 2), σ)))))
set_option maxRecDepth 100000 in
set_option maxHeartbeats 4000000 in
theorem ze_xT_firstOfRate (v0 v1 : Int) (σ : zz_S) : xT_firstOfRate v0 v1 σ = zz_ev (zz_CE [(91, zw_xT_step)]) (zz_KE []) zk_xT_firstOfRate 0 false 0 0 400 true (zz_sk zk_xT_firstOfRate 0) [(0, 9, v0), (1, 0, v1)] [] σ := rfl
theorem zo_xT_firstOfRate : zz_okb zM_xT_firstOfRate 0 [(0, 9, false), (1, 0, false)] (zz_f2 xT_firstOfRate) :=
  fun vs σ r τ h => by
    obtain ⟨v0, v1, rfl, h⟩ := zz_f2_ok h
    exact zz_from zc_xT_firstOfRate (zz_occ zo_m_xT_step zz_oc0) zz_ol0 ((ze_xT_firstOfRate v0 v1 σ).symm.trans h)
noncomputable def zw_xT_firstOfRate : List Int → zz_S → zz_R := zz_f2 fun a0 a1 σ => xT_firstOfRate a0 a1 σ
theorem zo_m_xT_firstOfRate : zz_okm zz_inf 92 zw_xT_firstOfRate := fun vs σ r τ h => by
  obtain ⟨a0, a1, rfl, h⟩ := zz_f2_ok h
  exact zz_meth zi_xT_firstOfRate zy_xT_firstOfRate (zo_xT_firstOfRate [a0, a1] σ r τ h)
def zk_x_calendarMinute : List zz_E := [(0, false, .ldc 95, 2, 239, (0, 0, 0, 0), 400000, []),
  (2, false, .aload_n 0, 1, 0, (0, 0, 0, 0), 0, []),
  (3, false, .getfield 81, 3, 180, (3, 17, 0, 0), 0, []),
  (6, false, .iadd, 1, 0, (0, 0, 0, 0), 0, []),
  (7, false, .istore_n 3, 1, 0, (0, 0, 0, 0), 0, []),
  (8, false, .aload_n 1, 1, 0, (0, 0, 0, 0), 0, []),
  (9, false, .aload_n 0, 1, 0, (0, 0, 0, 0), 0, []),
  (10, false, .getfield 78, 3, 179, (3, 16, 0, 0), 0, []),
  (13, false, .aload_n 0, 1, 0, (0, 0, 0, 0), 0, []),
  (14, false, .getfield 81, 3, 180, (3, 17, 0, 0), 0, []),
  (17, false, .iadd, 1, 0, (0, 0, 0, 0), 0, []),
  (18, false, .aload_n 0, 1, 0, (0, 0, 0, 0), 0, []),
  (19, false, .getfield 84, 3, 181, (3, 18, 0, 0), 0, []),
  (22, false, .iconst 1, 1, 0, (0, 0, 0, 0), 0, []),
  (23, false, .iadd, 1, 0, (0, 0, 0, 0), 0, []),
  (24, false, .invokestatic 258, 3, 510, (168, 2, 0, 0), 0, [0, 0]),
  (27, false, .iload_n 3, 1, 0, (0, 0, 0, 0), 0, []),
  (28, false, .invokevirtual 377, 3, 690, (101, 3, 0, 0), 0, [0, 0, 10]),
  (31, false, .istore 4, 2, 0, (0, 0, 0, 0), 0, []),
  (33, false, .iconst 0, 1, 0, (0, 0, 0, 0), 0, []),
  (34, false, .istore 5, 2, 0, (0, 0, 0, 0), 0, []),
  (36, true, .iload 5, 2, 0, (0, 0, 0, 0), 0, []),
  (38, false, .iload_n 2, 1, 0, (0, 0, 0, 0), 0, []),
  (39, false, .if_icmp .ge 26, 3, 0, (65, 0, 0, 0), 0, []),
  (42, false, .iload 4, 2, 0, (0, 0, 0, 0), 0, []),
  (44, false, .iconst (-1), 1, 0, (0, 0, 0, 0), 0, []),
  (45, false, .if_icmp .eq 20, 3, 0, (65, 0, 0, 0), 0, []),
  (48, false, .aload_n 1, 1, 0, (0, 0, 0, 0), 0, []),
  (49, false, .iload 4, 2, 0, (0, 0, 0, 0), 0, []),
  (51, false, .iconst 1, 1, 0, (0, 0, 0, 0), 0, []),
  (52, false, .iadd, 1, 0, (0, 0, 0, 0), 0, []),
  (53, false, .iload_n 3, 1, 0, (0, 0, 0, 0), 0, []),
  (54, false, .invokevirtual 377, 3, 690, (101, 3, 0, 0), 0, [0, 0, 10]),
  (57, false, .istore 4, 2, 0, (0, 0, 0, 0), 0, []),
  (59, false, .iinc 5 1, 3, 0, (0, 0, 0, 0), 0, []),
  (62, false, .goto (-26), 3, 0, (36, 0, 0, 0), 0, []),
  (65, true, .iload 4, 2, 0, (0, 0, 0, 0), 0, []),
  (67, false, .iconst (-1), 1, 0, (0, 0, 0, 0), 0, []),
  (68, false, .if_icmp .ne 7, 3, 0, (75, 0, 0, 0), 0, []),
  (71, false, .iconst (-1), 1, 0, (0, 0, 0, 0), 0, []),
  (72, false, .goto 10, 3, 0, (82, 0, 0, 0), 0, []),
  (75, false, .iload 4, 2, 0, (0, 0, 0, 0), 0, []),
  (77, false, .aload_n 0, 1, 0, (0, 0, 0, 0), 0, []),
  (78, false, .getfield 81, 3, 180, (3, 17, 0, 0), 0, []),
  (81, false, .isub, 1, 0, (0, 0, 0, 0), 0, []),
  (82, false, .ireturn, 1, 0, (0, 0, 0, 0), 0, [])]
theorem zc_x_calendarMinute : zk_x_calendarMinute.all (zz_ck zz_inf zM_x_calendarMinute) = true ∧ zz_ch zk_x_calendarMinute = true := ⟨by decide +kernel, by decide +kernel⟩
noncomputable def x_calendarMinute_65 (v4 : Int) (σ : zz_S) : zz_R := (if v4 = (-1) then (some ((-1), σ)) else (some ((zz_r (v4 - (zz_h σ 3 1 17))), σ)))
set_option maxRecDepth 100000 in
set_option maxHeartbeats 4000000 in
theorem ze_x_calendarMinute_65 (v4 : Int) (σ : zz_S) : x_calendarMinute_65 v4 σ = zz_ev (zz_CE []) (zz_KE []) zk_x_calendarMinute 0 false 0 0 400 true (zz_sk zk_x_calendarMinute 65) [(0, 5, 1), (4, 0, v4)] [] σ := rfl
theorem zo_x_calendarMinute_65 : zz_okb zM_x_calendarMinute 65 [(0, 5, true), (4, 0, false)] (zz_f1 x_calendarMinute_65) :=
  fun vs σ r τ h => by
    obtain ⟨v4, rfl, h⟩ := zz_f1_ok h
    exact zz_from zc_x_calendarMinute zz_oc0 zz_ol0 ((ze_x_calendarMinute_65 v4 σ).symm.trans h)
noncomputable def x_calendarMinute_36 : Nat → Int → Int → Int → Int → Int → zz_S → zz_R
  | 0, _, _, _, _, _, _ => none
  | n + 1, v1, v2, v3, v4, v5, σ => (if v5 < v2 then (if v4 = (-1) then (x_calendarMinute_65 v4 σ) else (if v1 = 0 then none else ((xC_firstFit v1 (zz_r (v4 + 1)) v3 σ).bind fun q1 => (x_calendarMinute_36 n v1 v2 v3 q1.1 (zz_r (v5 + 1)) q1.2)))) else (x_calendarMinute_65 v4 σ))
set_option maxRecDepth 100000 in
set_option maxHeartbeats 4000000 in
theorem ze_x_calendarMinute_36 (n : Nat) (v1 v2 v3 v4 v5 : Int) (σ : zz_S) : x_calendarMinute_36 (n + 1) v1 v2 v3 v4 v5 σ = zz_ev (zz_CE [(101, zw_xC_firstFit)]) (zz_KE [(36, [(0, 5, true), (1, 10, false), (2, 0, false), (3, 0, false), (4, 0, false), (5, 0, false)], zz_f5 (x_calendarMinute_36 n)), (65, [(0, 5, true), (4, 0, false)], zz_f1 (x_calendarMinute_65))]) zk_x_calendarMinute 0 false 0 0 400 true (zz_sk zk_x_calendarMinute 36) [(0, 5, 1), (1, 10, v1), (2, 0, v2), (3, 0, v3), (4, 0, v4), (5, 0, v5)] [] σ := rfl
theorem zo_x_calendarMinute_36 : ∀ n : Nat, zz_okb zM_x_calendarMinute 36 [(0, 5, true), (1, 10, false), (2, 0, false), (3, 0, false), (4, 0, false), (5, 0, false)] (zz_f5 (x_calendarMinute_36 n))
  | 0 => fun vs σ r τ h => by
    obtain ⟨v1, v2, v3, v4, v5, rfl, h⟩ := zz_f5_ok h
    exact nomatch (show (none : zz_R) = some (r, τ) from h)
  | n + 1 => by
    have ih := zo_x_calendarMinute_36 n
    exact fun vs σ r τ h => by
        obtain ⟨v1, v2, v3, v4, v5, rfl, h⟩ := zz_f5_ok h
        exact zz_from zc_x_calendarMinute (zz_occ zo_m_xC_firstFit zz_oc0) (zz_olc ih (zz_olc (zo_x_calendarMinute_65) zz_ol0)) ((ze_x_calendarMinute_36 n v1 v2 v3 v4 v5 σ).symm.trans h)
noncomputable def x_calendarMinute (v1 v2 : Int) (σ : zz_S) : zz_R := ((j_max (zz_r ((zz_h σ 3 1 16) + (zz_h σ 3 1 17))) (zz_r ((zz_h σ 3 1 18) + 1)) σ).bind fun q1 => (if v1 = 0 then none else ((xC_firstFit v1 q1.1 (zz_r (400000 + (zz_h σ 3 1 17))) q1.2).bind fun q2 => (x_calendarMinute_36 zz_fu v1 v2 (zz_r (400000 + (zz_h σ 3 1 17))) q2.1 0 q2.2))))
set_option maxRecDepth 100000 in
set_option maxHeartbeats 4000000 in
theorem ze_x_calendarMinute (v1 v2 : Int) (σ : zz_S) : x_calendarMinute v1 v2 σ = zz_ev (zz_CE [(101, zw_xC_firstFit), (168, zw_j_max)]) (zz_KE [(36, [(0, 5, true), (1, 10, false), (2, 0, false), (3, 0, false), (4, 0, false), (5, 0, false)], zz_f5 (x_calendarMinute_36 zz_fu))]) zk_x_calendarMinute 0 false 0 0 400 true (zz_sk zk_x_calendarMinute 0) [(0, 5, 1), (1, 10, v1), (2, 0, v2)] [] σ := rfl
theorem zo_x_calendarMinute : zz_okb zM_x_calendarMinute 0 [(0, 5, true), (1, 10, false), (2, 0, false)] (zz_f2 x_calendarMinute) :=
  fun vs σ r τ h => by
    obtain ⟨v1, v2, rfl, h⟩ := zz_f2_ok h
    exact zz_from zc_x_calendarMinute (zz_occ zo_m_xC_firstFit (zz_occ zo_m_j_max zz_oc0)) (zz_olc (zo_x_calendarMinute_36 zz_fu) zz_ol0) ((ze_x_calendarMinute v1 v2 σ).symm.trans h)
noncomputable def zw_x_calendarMinute : List Int → zz_S → zz_R := zz_f3 fun a0 a1 a2 σ => if a0 = 1 then x_calendarMinute a1 a2 σ else none
theorem zo_m_x_calendarMinute : zz_okm zz_inf 63 zw_x_calendarMinute := fun vs σ r τ h => by
  obtain ⟨a0, a1, a2, rfl, h⟩ := zz_f3_ok h
  obtain ⟨e, h⟩ := zz_it h
  subst e
  exact zz_meth zi_x_calendarMinute zy_x_calendarMinute (zo_x_calendarMinute [a1, a2] σ r τ h)
def zk_x_dueMinute : List zz_E := [(0, false, .iconst (-1), 1, 0, (0, 0, 0, 0), 0, []),
  (1, false, .istore_n 3, 1, 0, (0, 0, 0, 0), 0, []),
  (2, false, .aload_n 1, 1, 0, (0, 0, 0, 0), 0, []),
  (3, false, .getfield 114, 3, 301, (7, 1, 0, 0), 0, []),
  (6, false, .tableswitch 91 0 3 #[30, 46, 65, 81], 30, 0, (97, 0, 0, 0), 0, [36, 52, 71, 87]),
  (36, false, .iload_n 2, 1, 0, (0, 0, 0, 0), 0, []),
  (37, false, .ifCond .ne 10, 3, 0, (47, 0, 0, 0), 0, []),
  (40, false, .aload_n 1, 1, 0, (0, 0, 0, 0), 0, []),
  (41, false, .getfield 292, 3, 303, (7, 2, 0, 0), 0, []),
  (44, false, .goto 4, 3, 0, (48, 0, 0, 0), 0, []),
  (47, false, .iconst (-1), 1, 0, (0, 0, 0, 0), 0, []),
  (48, false, .istore_n 3, 1, 0, (0, 0, 0, 0), 0, []),
  (49, false, .goto 48, 3, 0, (97, 0, 0, 0), 0, []),
  (52, false, .aload_n 1, 1, 0, (0, 0, 0, 0), 0, []),
  (53, false, .aload_n 0, 1, 0, (0, 0, 0, 0), 0, []),
  (54, false, .getfield 78, 3, 179, (3, 16, 0, 0), 0, []),
  (57, false, .invokevirtual 405, 3, 744, (92, 2, 0, 0), 0, [0, 9]),
  (60, false, .iload_n 2, 1, 0, (0, 0, 0, 0), 0, []),
  (61, false, .aload_n 1, 1, 0, (0, 0, 0, 0), 0, []),
  (62, false, .getfield 246, 3, 305, (7, 3, 0, 0), 0, []),
  (65, false, .imul, 1, 0, (0, 0, 0, 0), 0, []),
  (66, false, .iadd, 1, 0, (0, 0, 0, 0), 0, []),
  (67, false, .istore_n 3, 1, 0, (0, 0, 0, 0), 0, []),
  (68, false, .goto 29, 3, 0, (97, 0, 0, 0), 0, []),
  (71, false, .iload_n 2, 1, 0, (0, 0, 0, 0), 0, []),
  (72, false, .ifCond .ne 10, 3, 0, (82, 0, 0, 0), 0, []),
  (75, false, .aload_n 1, 1, 0, (0, 0, 0, 0), 0, []),
  (76, false, .getfield 249, 3, 323, (7, 11, 0, 0), 0, []),
  (79, false, .goto 4, 3, 0, (83, 0, 0, 0), 0, []),
  (82, false, .iconst (-1), 1, 0, (0, 0, 0, 0), 0, []),
  (83, false, .istore_n 3, 1, 0, (0, 0, 0, 0), 0, []),
  (84, false, .goto 13, 3, 0, (97, 0, 0, 0), 0, []),
  (87, false, .aload_n 0, 1, 0, (0, 0, 0, 0), 0, []),
  (88, false, .aload_n 1, 1, 0, (0, 0, 0, 0), 0, []),
  (89, false, .getfield 122, 3, 311, (7, 5, 10, 1), 0, []),
  (92, false, .iload_n 2, 1, 0, (0, 0, 0, 0), 0, []),
  (93, false, .invokevirtual 408, 3, 749, (63, 3, 0, 0), 0, [0, 10, 5]),
  (96, false, .ireturn, 1, 0, (0, 0, 0, 0), 0, []),
  (97, true, .iload_n 3, 1, 0, (0, 0, 0, 0), 0, []),
  (98, false, .aload_n 0, 1, 0, (0, 0, 0, 0), 0, []),
  (99, false, .getfield 78, 3, 179, (3, 16, 0, 0), 0, []),
  (102, false, .ldc 95, 2, 239, (0, 0, 0, 0), 400000, []),
  (104, false, .invokestatic 91, 3, 228, (72, 3, 0, 0), 0, [0, 0, 0]),
  (107, false, .ifCond .eq 7, 3, 0, (114, 0, 0, 0), 0, []),
  (110, false, .iload_n 3, 1, 0, (0, 0, 0, 0), 0, []),
  (111, false, .goto 4, 3, 0, (115, 0, 0, 0), 0, []),
  (114, false, .iconst (-1), 1, 0, (0, 0, 0, 0), 0, []),
  (115, false, .ireturn, 1, 0, (0, 0, 0, 0), 0, [])]
theorem zc_x_dueMinute : zk_x_dueMinute.all (zz_ck zz_inf zM_x_dueMinute) = true ∧ zz_ch zk_x_dueMinute = true := ⟨by decide +kernel, by decide +kernel⟩
noncomputable def x_dueMinute_97 (v3 : Int) (σ : zz_S) : zz_R := ((x_isWithin v3 (zz_h σ 3 1 16) 400000 σ).bind fun q1 => (if q1.1 = 0 then (some ((-1), q1.2)) else (some (v3, q1.2))))
set_option maxRecDepth 100000 in
set_option maxHeartbeats 4000000 in
theorem ze_x_dueMinute_97 (v3 : Int) (σ : zz_S) : x_dueMinute_97 v3 σ = zz_ev (zz_CE [(72, zw_x_isWithin)]) (zz_KE []) zk_x_dueMinute 0 false 0 0 400 true (zz_sk zk_x_dueMinute 97) [(0, 5, 1), (3, 0, v3)] [] σ := rfl
theorem zo_x_dueMinute_97 : zz_okb zM_x_dueMinute 97 [(0, 5, true), (3, 0, false)] (zz_f1 x_dueMinute_97) :=
  fun vs σ r τ h => by
    obtain ⟨v3, rfl, h⟩ := zz_f1_ok h
    exact zz_from zc_x_dueMinute (zz_occ zo_m_x_isWithin zz_oc0) zz_ol0 ((ze_x_dueMinute_97 v3 σ).symm.trans h)
noncomputable def x_dueMinute (v1 v2 : Int) (σ : zz_S) : zz_R := (if v1 = 0 then none else (if (zz_h σ 7 v1 1) = 0 then (if v2 = 0 then (if v1 = 0 then none else (x_dueMinute_97 (zz_h σ 7 v1 2) σ)) else (x_dueMinute_97 (-1) σ)) else (if (zz_h σ 7 v1 1) = 1 then (if v1 = 0 then none else ((xT_firstOfRate v1 (zz_h σ 3 1 16) σ).bind fun q2 => (if v1 = 0 then none else (x_dueMinute_97 (zz_r (q2.1 + (zz_r (v2 * (zz_h q2.2 7 v1 3))))) q2.2)))) else (if (zz_h σ 7 v1 1) = 2 then (if v2 = 0 then (if v1 = 0 then none else (x_dueMinute_97 (zz_h σ 7 v1 11) σ)) else (x_dueMinute_97 (-1) σ)) else (if (zz_h σ 7 v1 1) = 3 then (if v1 = 0 then none else ((x_calendarMinute v1 v2 σ).bind fun q1 => (some (q1.1, q1.2)))) else (x_dueMinute_97 (-1) σ))))))
set_option maxRecDepth 100000 in
set_option maxHeartbeats 4000000 in
theorem ze_x_dueMinute (v1 v2 : Int) (σ : zz_S) : x_dueMinute v1 v2 σ = zz_ev (zz_CE [(63, zw_x_calendarMinute), (92, zw_xT_firstOfRate)]) (zz_KE [(97, [(0, 5, true), (3, 0, false)], zz_f1 (x_dueMinute_97))]) zk_x_dueMinute 0 false 0 0 400 true (zz_sk zk_x_dueMinute 0) [(0, 5, 1), (1, 9, v1), (2, 0, v2)] [] σ := rfl
theorem zo_x_dueMinute : zz_okb zM_x_dueMinute 0 [(0, 5, true), (1, 9, false), (2, 0, false)] (zz_f2 x_dueMinute) :=
  fun vs σ r τ h => by
    obtain ⟨v1, v2, rfl, h⟩ := zz_f2_ok h
    exact zz_from zc_x_dueMinute (zz_occ zo_m_x_calendarMinute (zz_occ zo_m_xT_firstOfRate zz_oc0)) (zz_olc (zo_x_dueMinute_97) zz_ol0) ((ze_x_dueMinute v1 v2 σ).symm.trans h)
noncomputable def zw_x_dueMinute : List Int → zz_S → zz_R := zz_f3 fun a0 a1 a2 σ => if a0 = 1 then x_dueMinute a1 a2 σ else none
theorem zo_m_x_dueMinute : zz_okm zz_inf 62 zw_x_dueMinute := fun vs σ r τ h => by
  obtain ⟨a0, a1, a2, rfl, h⟩ := zz_f3_ok h
  obtain ⟨e, h⟩ := zz_it h
  subst e
  exact zz_meth zi_x_dueMinute zy_x_dueMinute (zo_x_dueMinute [a1, a2] σ r τ h)
def zk_x_next : List zz_E := [(0, false, .aload_n 0, 1, 0, (0, 0, 0, 0), 0, []),
  (1, false, .iload_n 1, 1, 0, (0, 0, 0, 0), 0, []),
  (2, false, .invokevirtual 100, 3, 385, (73, 2, 9, 0), 0, [0, 5]),
  (5, false, .astore_n 3, 1, 0, (0, 0, 0, 0), 0, []),
  (6, false, .aload_n 3, 1, 0, (0, 0, 0, 0), 0, []),
  (7, false, .ifnull 13, 3, 0, (20, 0, 0, 0), 0, []),
  (10, false, .iload_n 2, 1, 0, (0, 0, 0, 0), 0, []),
  (11, false, .iconst 0, 1, 0, (0, 0, 0, 0), 0, []),
  (12, false, .bipush 9, 2, 0, (0, 0, 0, 0), 0, []),
  (14, false, .invokestatic 91, 3, 228, (72, 3, 0, 0), 0, [0, 0, 0]),
  (17, false, .ifCond .ne 6, 3, 0, (23, 0, 0, 0), 0, []),
  (20, false, .bipush (-2), 2, 0, (0, 0, 0, 0), 0, []),
  (22, false, .ireturn, 1, 0, (0, 0, 0, 0), 0, []),
  (23, false, .aload_n 0, 1, 0, (0, 0, 0, 0), 0, []),
  (24, false, .aload_n 3, 1, 0, (0, 0, 0, 0), 0, []),
  (25, false, .iload_n 2, 1, 0, (0, 0, 0, 0), 0, []),
  (26, false, .invokevirtual 403, 3, 740, (62, 3, 0, 0), 0, [0, 9, 5]),
  (29, false, .ireturn, 1, 0, (0, 0, 0, 0), 0, [])]
theorem zc_x_next : zk_x_next.all (zz_ck zz_inf zM_x_next) = true ∧ zz_ch zk_x_next = true := ⟨by decide +kernel, by decide +kernel⟩
noncomputable def x_next (v1 v2 : Int) (σ : zz_S) : zz_R := ((x_taskAt v1 σ).bind fun q1 => (if q1.1 = 0 then (some ((-2), q1.2)) else ((x_isWithin v2 0 9 q1.2).bind fun q2 => (if q2.1 = 0 then (some ((-2), q2.2)) else ((x_dueMinute q1.1 v2 q2.2).bind fun q3 => (some (q3.1, q3.2)))))))
set_option maxRecDepth 100000 in
set_option maxHeartbeats 4000000 in
theorem ze_x_next (v1 v2 : Int) (σ : zz_S) : x_next v1 v2 σ = zz_ev (zz_CE [(62, zw_x_dueMinute), (72, zw_x_isWithin), (73, zw_x_taskAt)]) (zz_KE []) zk_x_next 0 false 0 0 400 true (zz_sk zk_x_next 0) [(0, 5, 1), (1, 0, v1), (2, 0, v2)] [] σ := rfl
theorem zo_x_next : zz_okb zM_x_next 0 [(0, 5, true), (1, 0, false), (2, 0, false)] (zz_f2 x_next) :=
  fun vs σ r τ h => by
    obtain ⟨v1, v2, rfl, h⟩ := zz_f2_ok h
    exact zz_from zc_x_next (zz_occ zo_m_x_dueMinute (zz_occ zo_m_x_isWithin (zz_occ zo_m_x_taskAt zz_oc0))) zz_ol0 ((ze_x_next v1 v2 σ).symm.trans h)
noncomputable def zw_x_next : List Int → zz_S → zz_R := zz_f3 fun a0 a1 a2 σ => if a0 = 1 then x_next a1 a2 σ else none
theorem zo_m_x_next : zz_okm zz_inf 61 zw_x_next := fun vs σ r τ h => by
  obtain ⟨a0, a1, a2, rfl, h⟩ := zz_f3_ok h
  obtain ⟨e, h⟩ := zz_it h
  subst e
  exact zz_meth zi_x_next zy_x_next (zo_x_next [a1, a2] σ r τ h)
def zk_x_waiting : List zz_E := [(0, false, .iload_n 2, 1, 0, (0, 0, 0, 0), 0, []),
  (1, false, .iconst 0, 1, 0, (0, 0, 0, 0), 0, []),
  (2, false, .iconst 2, 1, 0, (0, 0, 0, 0), 0, []),
  (3, false, .invokestatic 91, 3, 228, (72, 3, 0, 0), 0, [0, 0, 0]),
  (6, false, .ifCond .ne 6, 3, 0, (12, 0, 0, 0), 0, []),
  (9, false, .bipush (-2), 2, 0, (0, 0, 0, 0), 0, []),
  (11, false, .ireturn, 1, 0, (0, 0, 0, 0), 0, []),
  (12, false, .iload_n 1, 1, 0, (0, 0, 0, 0), 0, []),
  (13, false, .iconst 0, 1, 0, (0, 0, 0, 0), 0, []),
  (14, false, .aload_n 0, 1, 0, (0, 0, 0, 0), 0, []),
  (15, false, .getfield 27, 3, 166, (3, 3, 6, 1), 0, []),
  (18, false, .getfield 318, 3, 108, (4, 3, 0, 0), 0, []),
  (21, false, .iconst 1, 1, 0, (0, 0, 0, 0), 0, []),
  (22, false, .isub, 1, 0, (0, 0, 0, 0), 0, []),
  (23, false, .invokestatic 91, 3, 228, (72, 3, 0, 0), 0, [0, 0, 0]),
  (26, false, .ifCond .ne 5, 3, 0, (31, 0, 0, 0), 0, []),
  (29, false, .iconst (-1), 1, 0, (0, 0, 0, 0), 0, []),
  (30, false, .ireturn, 1, 0, (0, 0, 0, 0), 0, []),
  (31, false, .iload_n 2, 1, 0, (0, 0, 0, 0), 0, []),
  (32, false, .iconst 1, 1, 0, (0, 0, 0, 0), 0, []),
  (33, false, .if_icmp .ne 13, 3, 0, (46, 0, 0, 0), 0, []),
  (36, false, .aload_n 0, 1, 0, (0, 0, 0, 0), 0, []),
  (37, false, .getfield 27, 3, 166, (3, 3, 6, 1), 0, []),
  (40, false, .getfield 334, 3, 104, (4, 1, 22, 1), 0, []),
  (43, false, .iload_n 1, 1, 0, (0, 0, 0, 0), 0, []),
  (44, false, .iaload, 1, 0, (20, 0, 0, 0), 0, []),
  (45, false, .ireturn, 1, 0, (0, 0, 0, 0), 0, []),
  (46, false, .iload_n 2, 1, 0, (0, 0, 0, 0), 0, []),
  (47, false, .iconst 2, 1, 0, (0, 0, 0, 0), 0, []),
  (48, false, .if_icmp .ne 21, 3, 0, (69, 0, 0, 0), 0, []),
  (51, false, .aload_n 0, 1, 0, (0, 0, 0, 0), 0, []),
  (52, false, .getfield 27, 3, 166, (3, 3, 6, 1), 0, []),
  (55, false, .getfield 331, 3, 106, (4, 2, 23, 1), 0, []),
  (58, false, .iload_n 1, 1, 0, (0, 0, 0, 0), 0, []),
  (59, false, .baload, 1, 0, (21, 0, 0, 0), 0, []),
  (60, false, .ifCond .eq 7, 3, 0, (67, 0, 0, 0), 0, []),
  (63, false, .iconst 1, 1, 0, (0, 0, 0, 0), 0, []),
  (64, false, .goto 4, 3, 0, (68, 0, 0, 0), 0, []),
  (67, false, .iconst 0, 1, 0, (0, 0, 0, 0), 0, []),
  (68, false, .ireturn, 1, 0, (0, 0, 0, 0), 0, []),
  (69, false, .aload_n 0, 1, 0, (0, 0, 0, 0), 0, []),
  (70, false, .getfield 27, 3, 166, (3, 3, 6, 1), 0, []),
  (73, false, .getfield 322, 3, 102, (4, 0, 21, 1), 0, []),
  (76, false, .iload_n 1, 1, 0, (0, 0, 0, 0), 0, []),
  (77, false, .aaload, 1, 0, (19, 0, 9, 0), 0, []),
  (78, false, .astore_n 3, 1, 0, (0, 0, 0, 0), 0, []),
  (79, false, .aload_n 3, 1, 0, (0, 0, 0, 0), 0, []),
  (80, false, .ifnonnull 7, 3, 0, (87, 0, 0, 0), 0, []),
  (83, false, .iconst (-1), 1, 0, (0, 0, 0, 0), 0, []),
  (84, false, .goto 7, 3, 0, (91, 0, 0, 0), 0, []),
  (87, false, .aload_n 3, 1, 0, (0, 0, 0, 0), 0, []),
  (88, false, .getfield 162, 3, 299, (7, 0, 0, 0), 0, []),
  (91, false, .ireturn, 1, 0, (0, 0, 0, 0), 0, [])]
theorem zc_x_waiting : zk_x_waiting.all (zz_ck zz_inf zM_x_waiting) = true ∧ zz_ch zk_x_waiting = true := ⟨by decide +kernel, by decide +kernel⟩
noncomputable def x_waiting (v1 v2 : Int) (σ : zz_S) : zz_R := ((x_isWithin v2 0 2 σ).bind fun q1 => (if q1.1 = 0 then (some ((-2), q1.2)) else ((x_isWithin v1 0 (zz_r ((zz_h q1.2 4 1 3) - 1)) q1.2).bind fun q2 => (if q2.1 = 0 then (some ((-1), q2.2)) else (if v2 = 1 then (if zz_b q2.2 20 1 v1 then (some ((zz_h q2.2 20 1 v1), q2.2)) else none) else (if v2 = 2 then (if zz_b q2.2 21 1 v1 then (if (zz_h q2.2 21 1 v1) = 0 then (some (0, q2.2)) else (some (1, q2.2))) else none) else (if zz_b q2.2 19 1 v1 then (if (zz_h q2.2 19 1 v1) = 0 then (some ((-1), q2.2)) else (if (zz_h q2.2 19 1 v1) = 0 then none else (some ((zz_h q2.2 7 (zz_h q2.2 19 1 v1) 0), q2.2)))) else none)))))))
set_option maxRecDepth 100000 in
set_option maxHeartbeats 4000000 in
theorem ze_x_waiting (v1 v2 : Int) (σ : zz_S) : x_waiting v1 v2 σ = zz_ev (zz_CE [(72, zw_x_isWithin)]) (zz_KE []) zk_x_waiting 0 false 0 0 400 true (zz_sk zk_x_waiting 0) [(0, 5, 1), (1, 0, v1), (2, 0, v2)] [] σ := rfl
theorem zo_x_waiting : zz_okb zM_x_waiting 0 [(0, 5, true), (1, 0, false), (2, 0, false)] (zz_f2 x_waiting) :=
  fun vs σ r τ h => by
    obtain ⟨v1, v2, rfl, h⟩ := zz_f2_ok h
    exact zz_from zc_x_waiting (zz_occ zo_m_x_isWithin zz_oc0) zz_ol0 ((ze_x_waiting v1 v2 σ).symm.trans h)
noncomputable def zw_x_waiting : List Int → zz_S → zz_R := zz_f3 fun a0 a1 a2 σ => if a0 = 1 then x_waiting a1 a2 σ else none
theorem zo_m_x_waiting : zz_okm zz_inf 64 zw_x_waiting := fun vs σ r τ h => by
  obtain ⟨a0, a1, a2, rfl, h⟩ := zz_f3_ok h
  obtain ⟨e, h⟩ := zz_it h
  subst e
  exact zz_meth zi_x_waiting zy_x_waiting (zo_x_waiting [a1, a2] σ r τ h)
def zk_x_book : List zz_E := [(0, false, .iload_n 2, 1, 0, (0, 0, 0, 0), 0, []),
  (1, false, .iconst 0, 1, 0, (0, 0, 0, 0), 0, []),
  (2, false, .iconst 2, 1, 0, (0, 0, 0, 0), 0, []),
  (3, false, .invokestatic 91, 3, 228, (72, 3, 0, 0), 0, [0, 0, 0]),
  (6, false, .ifCond .ne 6, 3, 0, (12, 0, 0, 0), 0, []),
  (9, false, .bipush (-2), 2, 0, (0, 0, 0, 0), 0, []),
  (11, false, .ireturn, 1, 0, (0, 0, 0, 0), 0, []),
  (12, false, .iload_n 1, 1, 0, (0, 0, 0, 0), 0, []),
  (13, false, .iconst 0, 1, 0, (0, 0, 0, 0), 0, []),
  (14, false, .aload_n 0, 1, 0, (0, 0, 0, 0), 0, []),
  (15, false, .getfield 34, 3, 167, (3, 4, 7, 1), 0, []),
  (18, false, .getfield 412, 3, 133, (5, 3, 0, 0), 0, []),
  (21, false, .sipush 300, 3, 0, (0, 0, 0, 0), 0, []),
  (24, false, .invokestatic 172, 3, 456, (169, 2, 0, 0), 0, [0, 0]),
  (27, false, .iconst 1, 1, 0, (0, 0, 0, 0), 0, []),
  (28, false, .isub, 1, 0, (0, 0, 0, 0), 0, []),
  (29, false, .invokestatic 91, 3, 228, (72, 3, 0, 0), 0, [0, 0, 0]),
  (32, false, .ifCond .ne 5, 3, 0, (37, 0, 0, 0), 0, []),
  (35, false, .iconst (-1), 1, 0, (0, 0, 0, 0), 0, []),
  (36, false, .ireturn, 1, 0, (0, 0, 0, 0), 0, []),
  (37, false, .iload_n 2, 1, 0, (0, 0, 0, 0), 0, []),
  (38, false, .ifCond .ne 13, 3, 0, (51, 0, 0, 0), 0, []),
  (41, false, .aload_n 0, 1, 0, (0, 0, 0, 0), 0, []),
  (42, false, .getfield 34, 3, 167, (3, 4, 7, 1), 0, []),
  (45, false, .getfield 415, 3, 127, (5, 0, 24, 1), 0, []),
  (48, false, .iload_n 1, 1, 0, (0, 0, 0, 0), 0, []),
  (49, false, .iaload, 1, 0, (22, 0, 0, 0), 0, []),
  (50, false, .ireturn, 1, 0, (0, 0, 0, 0), 0, []),
  (51, false, .iload_n 2, 1, 0, (0, 0, 0, 0), 0, []),
  (52, false, .iconst 1, 1, 0, (0, 0, 0, 0), 0, []),
  (53, false, .if_icmp .ne 15, 3, 0, (68, 0, 0, 0), 0, []),
  (56, false, .aload_n 0, 1, 0, (0, 0, 0, 0), 0, []),
  (57, false, .getfield 34, 3, 167, (3, 4, 7, 1), 0, []),
  (60, false, .getfield 417, 3, 129, (5, 1, 25, 1), 0, []),
  (63, false, .iload_n 1, 1, 0, (0, 0, 0, 0), 0, []),
  (64, false, .iaload, 1, 0, (23, 0, 0, 0), 0, []),
  (65, false, .goto 12, 3, 0, (77, 0, 0, 0), 0, []),
  (68, false, .aload_n 0, 1, 0, (0, 0, 0, 0), 0, []),
  (69, false, .getfield 34, 3, 167, (3, 4, 7, 1), 0, []),
  (72, false, .getfield 418, 3, 131, (5, 2, 26, 1), 0, []),
  (75, false, .iload_n 1, 1, 0, (0, 0, 0, 0), 0, []),
  (76, false, .iaload, 1, 0, (24, 0, 0, 0), 0, []),
  (77, false, .ireturn, 1, 0, (0, 0, 0, 0), 0, [])]
theorem zc_x_book : zk_x_book.all (zz_ck zz_inf zM_x_book) = true ∧ zz_ch zk_x_book = true := ⟨by decide +kernel, by decide +kernel⟩
noncomputable def x_book (v1 v2 : Int) (σ : zz_S) : zz_R := ((x_isWithin v2 0 2 σ).bind fun q1 => (if q1.1 = 0 then (some ((-2), q1.2)) else ((j_min (zz_h q1.2 5 1 3) 300 q1.2).bind fun q2 => ((x_isWithin v1 0 (zz_r (q2.1 - 1)) q2.2).bind fun q3 => (if q3.1 = 0 then (some ((-1), q3.2)) else (if v2 = 0 then (if zz_b q3.2 22 1 v1 then (some ((zz_h q3.2 22 1 v1), q3.2)) else none) else (if v2 = 1 then (if zz_b q3.2 23 1 v1 then (some ((zz_h q3.2 23 1 v1), q3.2)) else none) else (if zz_b q3.2 24 1 v1 then (some ((zz_h q3.2 24 1 v1), q3.2)) else none))))))))
set_option maxRecDepth 100000 in
set_option maxHeartbeats 4000000 in
theorem ze_x_book (v1 v2 : Int) (σ : zz_S) : x_book v1 v2 σ = zz_ev (zz_CE [(72, zw_x_isWithin), (169, zw_j_min)]) (zz_KE []) zk_x_book 0 false 0 0 400 true (zz_sk zk_x_book 0) [(0, 5, 1), (1, 0, v1), (2, 0, v2)] [] σ := rfl
theorem zo_x_book : zz_okb zM_x_book 0 [(0, 5, true), (1, 0, false), (2, 0, false)] (zz_f2 x_book) :=
  fun vs σ r τ h => by
    obtain ⟨v1, v2, rfl, h⟩ := zz_f2_ok h
    exact zz_from zc_x_book (zz_occ zo_m_x_isWithin (zz_occ zo_m_j_min zz_oc0)) zz_ol0 ((ze_x_book v1 v2 σ).symm.trans h)
noncomputable def zw_x_book : List Int → zz_S → zz_R := zz_f3 fun a0 a1 a2 σ => if a0 = 1 then x_book a1 a2 σ else none
theorem zo_m_x_book : zz_okm zz_inf 65 zw_x_book := fun vs σ r τ h => by
  obtain ⟨a0, a1, a2, rfl, h⟩ := zz_f3_ok h
  obtain ⟨e, h⟩ := zz_it h
  subst e
  exact zz_meth zi_x_book zy_x_book (zo_x_book [a1, a2] σ r τ h)
def zk_x_count : List zz_E := [(0, false, .iload_n 1, 1, 0, (0, 0, 0, 0), 0, []),
  (1, false, .tableswitch 128 0 10 #[59, 64, 69, 77, 82, 87, 92, 100, 105, 110, 115], 59, 0, (129, 0, 0, 0), 0, [60, 65, 70, 78, 83, 88, 93, 101, 106, 111, 116]),
  (60, false, .aload_n 0, 1, 0, (0, 0, 0, 0), 0, []),
  (61, false, .getfield 62, 3, 174, (3, 11, 0, 0), 0, []),
  (64, false, .ireturn, 1, 0, (0, 0, 0, 0), 0, []),
  (65, false, .aload_n 0, 1, 0, (0, 0, 0, 0), 0, []),
  (66, false, .getfield 66, 3, 175, (3, 12, 0, 0), 0, []),
  (69, false, .ireturn, 1, 0, (0, 0, 0, 0), 0, []),
  (70, false, .aload_n 0, 1, 0, (0, 0, 0, 0), 0, []),
  (71, false, .getfield 27, 3, 166, (3, 3, 6, 1), 0, []),
  (74, false, .getfield 318, 3, 108, (4, 3, 0, 0), 0, []),
  (77, false, .ireturn, 1, 0, (0, 0, 0, 0), 0, []),
  (78, false, .aload_n 0, 1, 0, (0, 0, 0, 0), 0, []),
  (79, false, .getfield 69, 3, 176, (3, 13, 0, 0), 0, []),
  (82, false, .ireturn, 1, 0, (0, 0, 0, 0), 0, []),
  (83, false, .aload_n 0, 1, 0, (0, 0, 0, 0), 0, []),
  (84, false, .getfield 78, 3, 179, (3, 16, 0, 0), 0, []),
  (87, false, .ireturn, 1, 0, (0, 0, 0, 0), 0, []),
  (88, false, .aload_n 0, 1, 0, (0, 0, 0, 0), 0, []),
  (89, false, .getfield 81, 3, 180, (3, 17, 0, 0), 0, []),
  (92, false, .ireturn, 1, 0, (0, 0, 0, 0), 0, []),
  (93, false, .aload_n 0, 1, 0, (0, 0, 0, 0), 0, []),
  (94, false, .getfield 34, 3, 167, (3, 4, 7, 1), 0, []),
  (97, false, .getfield 412, 3, 133, (5, 3, 0, 0), 0, []),
  (100, false, .ireturn, 1, 0, (0, 0, 0, 0), 0, []),
  (101, false, .aload_n 0, 1, 0, (0, 0, 0, 0), 0, []),
  (102, false, .getfield 72, 3, 177, (3, 14, 0, 0), 0, []),
  (105, false, .ireturn, 1, 0, (0, 0, 0, 0), 0, []),
  (106, false, .aload_n 0, 1, 0, (0, 0, 0, 0), 0, []),
  (107, false, .getfield 75, 3, 178, (3, 15, 0, 0), 0, []),
  (110, false, .ireturn, 1, 0, (0, 0, 0, 0), 0, []),
  (111, false, .aload_n 0, 1, 0, (0, 0, 0, 0), 0, []),
  (112, false, .getfield 84, 3, 181, (3, 18, 0, 0), 0, []),
  (115, false, .ireturn, 1, 0, (0, 0, 0, 0), 0, []),
  (116, false, .aload_n 0, 1, 0, (0, 0, 0, 0), 0, []),
  (117, false, .getfield 87, 3, 182, (3, 19, 0, 0), 1, []),
  (120, false, .ifCond .eq 7, 3, 0, (127, 0, 0, 0), 0, []),
  (123, false, .iconst 1, 1, 0, (0, 0, 0, 0), 0, []),
  (124, false, .goto 4, 3, 0, (128, 0, 0, 0), 0, []),
  (127, false, .iconst 0, 1, 0, (0, 0, 0, 0), 0, []),
  (128, false, .ireturn, 1, 0, (0, 0, 0, 0), 0, []),
  (129, false, .bipush (-2), 2, 0, (0, 0, 0, 0), 0, []),
  (131, false, .ireturn, 1, 0, (0, 0, 0, 0), 0, [])]
theorem zc_x_count : zk_x_count.all (zz_ck zz_inf zM_x_count) = true ∧ zz_ch zk_x_count = true := ⟨by decide +kernel, by decide +kernel⟩
noncomputable def x_count (v1 : Int) (σ : zz_S) : zz_R := (if v1 = 0 then (some ((zz_h σ 3 1 11), σ)) else (if v1 = 1 then (some ((zz_h σ 3 1 12), σ)) else (if v1 = 2 then (some ((zz_h σ 4 1 3), σ)) else (if v1 = 3 then (some ((zz_h σ 3 1 13), σ)) else (if v1 = 4 then (some ((zz_h σ 3 1 16), σ)) else (if v1 = 5 then (some ((zz_h σ 3 1 17), σ)) else (if v1 = 6 then (some ((zz_h σ 5 1 3), σ)) else (if v1 = 7 then (some ((zz_h σ 3 1 14), σ)) else (if v1 = 8 then (some ((zz_h σ 3 1 15), σ)) else (if v1 = 9 then (some ((zz_h σ 3 1 18), σ)) else (if v1 = 10 then (if (zz_h σ 3 1 19) = 0 then (some (0, σ)) else (some (1, σ))) else (some ((-2), σ)))))))))))))
set_option maxRecDepth 100000 in
set_option maxHeartbeats 4000000 in
theorem ze_x_count (v1 : Int) (σ : zz_S) : x_count v1 σ = zz_ev (zz_CE []) (zz_KE []) zk_x_count 0 false 0 0 400 true (zz_sk zk_x_count 0) [(0, 5, 1), (1, 0, v1)] [] σ := rfl
theorem zo_x_count : zz_okb zM_x_count 0 [(0, 5, true), (1, 0, false)] (zz_f1 x_count) :=
  fun vs σ r τ h => by
    obtain ⟨v1, rfl, h⟩ := zz_f1_ok h
    exact zz_from zc_x_count zz_oc0 zz_ol0 ((ze_x_count v1 σ).symm.trans h)
noncomputable def zw_x_count : List Int → zz_S → zz_R := zz_f2 fun a0 a1 σ => if a0 = 1 then x_count a1 σ else none
theorem zo_m_x_count : zz_okm zz_inf 66 zw_x_count := fun vs σ r τ h => by
  obtain ⟨a0, a1, rfl, h⟩ := zz_f2_ok h
  obtain ⟨e, h⟩ := zz_it h
  subst e
  exact zz_meth zi_x_count zy_x_count (zo_x_count [a1] σ r τ h)
def zk_x_cell : List zz_E := [(0, false, .iload_n 1, 1, 0, (0, 0, 0, 0), 0, []),
  (1, false, .iconst 0, 1, 0, (0, 0, 0, 0), 0, []),
  (2, false, .bipush 7, 2, 0, (0, 0, 0, 0), 0, []),
  (4, false, .invokestatic 91, 3, 228, (72, 3, 0, 0), 0, [0, 0, 0]),
  (7, false, .ifCond .eq 12, 3, 0, (19, 0, 0, 0), 0, []),
  (10, false, .aload_n 0, 1, 0, (0, 0, 0, 0), 0, []),
  (11, false, .getfield 56, 3, 172, (3, 9, 19, 1), 0, []),
  (14, false, .iload_n 1, 1, 0, (0, 0, 0, 0), 0, []),
  (15, false, .iaload, 1, 0, (17, 0, 0, 0), 0, []),
  (16, false, .goto 4, 3, 0, (20, 0, 0, 0), 0, []),
  (19, false, .iconst 0, 1, 0, (0, 0, 0, 0), 0, []),
  (20, false, .ireturn, 1, 0, (0, 0, 0, 0), 0, [])]
theorem zc_x_cell : zk_x_cell.all (zz_ck zz_inf zM_x_cell) = true ∧ zz_ch zk_x_cell = true := ⟨by decide +kernel, by decide +kernel⟩
noncomputable def x_cell (v1 : Int) (σ : zz_S) : zz_R := ((x_isWithin v1 0 7 σ).bind fun q1 => (if q1.1 = 0 then (some (0, q1.2)) else (if zz_b q1.2 17 1 v1 then (some ((zz_h q1.2 17 1 v1), q1.2)) else none)))
set_option maxRecDepth 100000 in
set_option maxHeartbeats 4000000 in
theorem ze_x_cell (v1 : Int) (σ : zz_S) : x_cell v1 σ = zz_ev (zz_CE [(72, zw_x_isWithin)]) (zz_KE []) zk_x_cell 0 false 0 0 400 true (zz_sk zk_x_cell 0) [(0, 5, 1), (1, 0, v1)] [] σ := rfl
theorem zo_x_cell : zz_okb zM_x_cell 0 [(0, 5, true), (1, 0, false)] (zz_f1 x_cell) :=
  fun vs σ r τ h => by
    obtain ⟨v1, rfl, h⟩ := zz_f1_ok h
    exact zz_from zc_x_cell (zz_occ zo_m_x_isWithin zz_oc0) zz_ol0 ((ze_x_cell v1 σ).symm.trans h)
noncomputable def zw_x_cell : List Int → zz_S → zz_R := zz_f2 fun a0 a1 σ => if a0 = 1 then x_cell a1 σ else none
theorem zo_m_x_cell : zz_okm zz_inf 67 zw_x_cell := fun vs σ r τ h => by
  obtain ⟨a0, a1, rfl, h⟩ := zz_f2_ok h
  obtain ⟨e, h⟩ := zz_it h
  subst e
  exact zz_meth zi_x_cell zy_x_cell (zo_x_cell [a1] σ r τ h)
def zk_x_day : List zz_E := [(0, false, .iload_n 1, 1, 0, (0, 0, 0, 0), 0, []),
  (1, false, .iconst 0, 1, 0, (0, 0, 0, 0), 0, []),
  (2, false, .ldc_w 421, 3, 773, (0, 0, 0, 0), 525599, []),
  (5, false, .invokestatic 91, 3, 228, (72, 3, 0, 0), 0, [0, 0, 0]),
  (8, false, .ifCond .ne 6, 3, 0, (14, 0, 0, 0), 0, []),
  (11, false, .bipush (-2), 2, 0, (0, 0, 0, 0), 0, []),
  (13, false, .ireturn, 1, 0, (0, 0, 0, 0), 0, []),
  (14, false, .iload_n 1, 1, 0, (0, 0, 0, 0), 0, []),
  (15, false, .sipush 1440, 3, 0, (0, 0, 0, 0), 0, []),
  (18, false, .idiv, 1, 0, (0, 0, 0, 0), 0, []),
  (19, false, .istore_n 3, 1, 0, (0, 0, 0, 0), 0, []),
  (20, false, .iload_n 3, 1, 0, (0, 0, 0, 0), 0, []),
  (21, false, .invokestatic 422, 3, 774, (102, 1, 0, 0), 0, [0]),
  (24, false, .istore 4, 2, 0, (0, 0, 0, 0), 0, []),
  (26, false, .iload_n 2, 1, 0, (0, 0, 0, 0), 0, []),
  (27, false, .tableswitch 67 0 4 #[33, 38, 49, 57, 62], 33, 0, (94, 0, 0, 0), 0, [60, 65, 76, 84, 89]),
  (60, false, .iload 4, 2, 0, (0, 0, 0, 0), 0, []),
  (62, false, .iconst 1, 1, 0, (0, 0, 0, 0), 0, []),
  (63, false, .iadd, 1, 0, (0, 0, 0, 0), 0, []),
  (64, false, .ireturn, 1, 0, (0, 0, 0, 0), 0, []),
  (65, false, .iload_n 3, 1, 0, (0, 0, 0, 0), 0, []),
  (66, false, .getstatic 425, 3, 775, (1, 0, 0, 0), 0, []),
  (69, false, .iload 4, 2, 0, (0, 0, 0, 0), 0, []),
  (71, false, .iaload, 1, 0, (1, 0, 0, 0), 0, []),
  (72, false, .isub, 1, 0, (0, 0, 0, 0), 0, []),
  (73, false, .iconst 1, 1, 0, (0, 0, 0, 0), 0, []),
  (74, false, .iadd, 1, 0, (0, 0, 0, 0), 0, []),
  (75, false, .ireturn, 1, 0, (0, 0, 0, 0), 0, []),
  (76, false, .iload_n 1, 1, 0, (0, 0, 0, 0), 0, []),
  (77, false, .bipush 60, 2, 0, (0, 0, 0, 0), 0, []),
  (79, false, .idiv, 1, 0, (0, 0, 0, 0), 0, []),
  (80, false, .bipush 24, 2, 0, (0, 0, 0, 0), 0, []),
  (82, false, .irem, 1, 0, (0, 0, 0, 0), 0, []),
  (83, false, .ireturn, 1, 0, (0, 0, 0, 0), 0, []),
  (84, false, .iload_n 1, 1, 0, (0, 0, 0, 0), 0, []),
  (85, false, .bipush 60, 2, 0, (0, 0, 0, 0), 0, []),
  (87, false, .irem, 1, 0, (0, 0, 0, 0), 0, []),
  (88, false, .ireturn, 1, 0, (0, 0, 0, 0), 0, []),
  (89, false, .iload_n 3, 1, 0, (0, 0, 0, 0), 0, []),
  (90, false, .bipush 7, 2, 0, (0, 0, 0, 0), 0, []),
  (92, false, .irem, 1, 0, (0, 0, 0, 0), 0, []),
  (93, false, .ireturn, 1, 0, (0, 0, 0, 0), 0, []),
  (94, false, .bipush (-2), 2, 0, (0, 0, 0, 0), 0, []),
  (96, false, .ireturn, 1, 0, (0, 0, 0, 0), 0, [])]
theorem zc_x_day : zk_x_day.all (zz_ck zz_inf zM_x_day) = true ∧ zz_ch zk_x_day = true := ⟨by decide +kernel, by decide +kernel⟩
noncomputable def x_day (v1 v2 : Int) (σ : zz_S) : zz_R := ((x_isWithin v1 0 525599 σ).bind fun q1 => (if q1.1 = 0 then (some ((-2), q1.2)) else ((xC_monthOf (zz_div v1 1440) q1.2).bind fun q2 => (if v2 = 0 then (some ((zz_r (q2.1 + 1)), q2.2)) else (if v2 = 1 then (if zz_b q2.2 1 1 q2.1 then (some ((zz_r ((zz_r ((zz_div v1 1440) - (zz_h q2.2 1 1 q2.1))) + 1)), q2.2)) else none) else (if v2 = 2 then (some ((zz_rem (zz_div v1 60) 24), q2.2)) else (if v2 = 3 then (some ((zz_rem v1 60), q2.2)) else (if v2 = 4 then (some ((zz_rem (zz_div v1 1440) 7), q2.2)) else (some ((-2), q2.2))))))))))
set_option maxRecDepth 100000 in
set_option maxHeartbeats 4000000 in
theorem ze_x_day (v1 v2 : Int) (σ : zz_S) : x_day v1 v2 σ = zz_ev (zz_CE [(72, zw_x_isWithin), (102, zw_xC_monthOf)]) (zz_KE []) zk_x_day 0 false 0 0 400 true (zz_sk zk_x_day 0) [(0, 5, 1), (1, 0, v1), (2, 0, v2)] [] σ := rfl
theorem zo_x_day : zz_okb zM_x_day 0 [(0, 5, true), (1, 0, false), (2, 0, false)] (zz_f2 x_day) :=
  fun vs σ r τ h => by
    obtain ⟨v1, v2, rfl, h⟩ := zz_f2_ok h
    exact zz_from zc_x_day (zz_occ zo_m_x_isWithin (zz_occ zo_m_xC_monthOf zz_oc0)) zz_ol0 ((ze_x_day v1 v2 σ).symm.trans h)
noncomputable def zw_x_day : List Int → zz_S → zz_R := zz_f3 fun a0 a1 a2 σ => if a0 = 1 then x_day a1 a2 σ else none
theorem zo_m_x_day : zz_okm zz_inf 68 zw_x_day := fun vs σ r τ h => by
  obtain ⟨a0, a1, a2, rfl, h⟩ := zz_f3_ok h
  obtain ⟨e, h⟩ := zz_it h
  subst e
  exact zz_meth zi_x_day zy_x_day (zo_x_day [a1, a2] σ r τ h)
def zk_x_idle : List zz_E := [(0, false, .iload_n 1, 1, 0, (0, 0, 0, 0), 0, []),
  (1, false, .iconst 0, 1, 0, (0, 0, 0, 0), 0, []),
  (2, false, .aload_n 0, 1, 0, (0, 0, 0, 0), 0, []),
  (3, false, .getfield 75, 3, 178, (3, 15, 0, 0), 0, []),
  (6, false, .iconst 1, 1, 0, (0, 0, 0, 0), 0, []),
  (7, false, .isub, 1, 0, (0, 0, 0, 0), 0, []),
  (8, false, .invokestatic 91, 3, 228, (72, 3, 0, 0), 0, [0, 0, 0]),
  (11, false, .ifCond .eq 12, 3, 0, (23, 0, 0, 0), 0, []),
  (14, false, .aload_n 0, 1, 0, (0, 0, 0, 0), 0, []),
  (15, false, .getfield 49, 3, 170, (3, 7, 17, 1), 0, []),
  (18, false, .iload_n 1, 1, 0, (0, 0, 0, 0), 0, []),
  (19, false, .iaload, 1, 0, (15, 0, 0, 0), 0, []),
  (20, false, .goto 5, 3, 0, (25, 0, 0, 0), 0, []),
  (23, false, .bipush (-2), 2, 0, (0, 0, 0, 0), 0, []),
  (25, false, .ireturn, 1, 0, (0, 0, 0, 0), 0, [])]
theorem zc_x_idle : zk_x_idle.all (zz_ck zz_inf zM_x_idle) = true ∧ zz_ch zk_x_idle = true := ⟨by decide +kernel, by decide +kernel⟩
noncomputable def x_idle (v1 : Int) (σ : zz_S) : zz_R := ((x_isWithin v1 0 (zz_r ((zz_h σ 3 1 15) - 1)) σ).bind fun q1 => (if q1.1 = 0 then (some ((-2), q1.2)) else (if zz_b q1.2 15 1 v1 then (some ((zz_h q1.2 15 1 v1), q1.2)) else none)))
set_option maxRecDepth 100000 in
set_option maxHeartbeats 4000000 in
theorem ze_x_idle (v1 : Int) (σ : zz_S) : x_idle v1 σ = zz_ev (zz_CE [(72, zw_x_isWithin)]) (zz_KE []) zk_x_idle 0 false 0 0 400 true (zz_sk zk_x_idle 0) [(0, 5, 1), (1, 0, v1)] [] σ := rfl
theorem zo_x_idle : zz_okb zM_x_idle 0 [(0, 5, true), (1, 0, false)] (zz_f1 x_idle) :=
  fun vs σ r τ h => by
    obtain ⟨v1, rfl, h⟩ := zz_f1_ok h
    exact zz_from zc_x_idle (zz_occ zo_m_x_isWithin zz_oc0) zz_ol0 ((ze_x_idle v1 σ).symm.trans h)
noncomputable def zw_x_idle : List Int → zz_S → zz_R := zz_f2 fun a0 a1 σ => if a0 = 1 then x_idle a1 σ else none
theorem zo_m_x_idle : zz_okm zz_inf 69 zw_x_idle := fun vs σ r τ h => by
  obtain ⟨a0, a1, rfl, h⟩ := zz_f2_ok h
  obtain ⟨e, h⟩ := zz_it h
  subst e
  exact zz_meth zi_x_idle zy_x_idle (zo_x_idle [a1] σ r τ h)
def zk_x_load : List zz_E := [(0, false, .iload_n 1, 1, 0, (0, 0, 0, 0), 0, []),
  (1, false, .iconst 0, 1, 0, (0, 0, 0, 0), 0, []),
  (2, false, .aload_n 0, 1, 0, (0, 0, 0, 0), 0, []),
  (3, false, .getfield 72, 3, 177, (3, 14, 0, 0), 0, []),
  (6, false, .iconst 1, 1, 0, (0, 0, 0, 0), 0, []),
  (7, false, .isub, 1, 0, (0, 0, 0, 0), 0, []),
  (8, false, .invokestatic 91, 3, 228, (72, 3, 0, 0), 0, [0, 0, 0]),
  (11, false, .ifCond .eq 11, 3, 0, (22, 0, 0, 0), 0, []),
  (14, false, .aload_n 0, 1, 0, (0, 0, 0, 0), 0, []),
  (15, false, .iload_n 1, 1, 0, (0, 0, 0, 0), 0, []),
  (16, false, .invokevirtual 358, 3, 616, (46, 2, 0, 0), 0, [0, 5]),
  (19, false, .goto 5, 3, 0, (24, 0, 0, 0), 0, []),
  (22, false, .bipush (-2), 2, 0, (0, 0, 0, 0), 0, []),
  (24, false, .ireturn, 1, 0, (0, 0, 0, 0), 0, [])]
theorem zc_x_load : zk_x_load.all (zz_ck zz_inf zM_x_load) = true ∧ zz_ch zk_x_load = true := ⟨by decide +kernel, by decide +kernel⟩
noncomputable def x_load (v1 : Int) (σ : zz_S) : zz_R := ((x_isWithin v1 0 (zz_r ((zz_h σ 3 1 14) - 1)) σ).bind fun q1 => (if q1.1 = 0 then (some ((-2), q1.2)) else ((x_workIn v1 q1.2).bind fun q2 => (some (q2.1, q2.2)))))
set_option maxRecDepth 100000 in
set_option maxHeartbeats 4000000 in
theorem ze_x_load (v1 : Int) (σ : zz_S) : x_load v1 σ = zz_ev (zz_CE [(46, zw_x_workIn), (72, zw_x_isWithin)]) (zz_KE []) zk_x_load 0 false 0 0 400 true (zz_sk zk_x_load 0) [(0, 5, 1), (1, 0, v1)] [] σ := rfl
theorem zo_x_load : zz_okb zM_x_load 0 [(0, 5, true), (1, 0, false)] (zz_f1 x_load) :=
  fun vs σ r τ h => by
    obtain ⟨v1, rfl, h⟩ := zz_f1_ok h
    exact zz_from zc_x_load (zz_occ zo_m_x_workIn (zz_occ zo_m_x_isWithin zz_oc0)) zz_ol0 ((ze_x_load v1 σ).symm.trans h)
noncomputable def zw_x_load : List Int → zz_S → zz_R := zz_f2 fun a0 a1 σ => if a0 = 1 then x_load a1 σ else none
theorem zo_m_x_load : zz_okm zz_inf 70 zw_x_load := fun vs σ r τ h => by
  obtain ⟨a0, a1, rfl, h⟩ := zz_f2_ok h
  obtain ⟨e, h⟩ := zz_it h
  subst e
  exact zz_meth zi_x_load zy_x_load (zo_x_load [a1] σ r τ h)
def zk_x_quiet : List zz_E := [(0, false, .aload_n 0, 1, 0, (0, 0, 0, 0), 0, []),
  (1, false, .getfield 69, 3, 176, (3, 13, 0, 0), 0, []),
  (4, false, .ifCond .gt 13, 3, 0, (17, 0, 0, 0), 0, []),
  (7, false, .aload_n 0, 1, 0, (0, 0, 0, 0), 0, []),
  (8, false, .getfield 27, 3, 166, (3, 3, 6, 1), 0, []),
  (11, false, .getfield 318, 3, 108, (4, 3, 0, 0), 0, []),
  (14, false, .ifCond .le 5, 3, 0, (19, 0, 0, 0), 0, []),
  (17, false, .iconst 0, 1, 0, (0, 0, 0, 0), 0, []),
  (18, false, .ireturn, 1, 0, (0, 0, 0, 0), 0, []),
  (19, false, .iconst 0, 1, 0, (0, 0, 0, 0), 0, []),
  (20, false, .istore_n 1, 1, 0, (0, 0, 0, 0), 0, []),
  (21, true, .iload_n 1, 1, 0, (0, 0, 0, 0), 0, []),
  (22, false, .aload_n 0, 1, 0, (0, 0, 0, 0), 0, []),
  (23, false, .getfield 62, 3, 174, (3, 11, 0, 0), 0, []),
  (26, false, .if_icmp .ge 45, 3, 0, (71, 0, 0, 0), 0, []),
  (29, false, .aload_n 0, 1, 0, (0, 0, 0, 0), 0, []),
  (30, false, .iload_n 1, 1, 0, (0, 0, 0, 0), 0, []),
  (31, false, .invokevirtual 100, 3, 385, (73, 2, 9, 0), 0, [0, 5]),
  (34, false, .astore_n 2, 1, 0, (0, 0, 0, 0), 0, []),
  (35, false, .aload_n 2, 1, 0, (0, 0, 0, 0), 0, []),
  (36, false, .invokestatic 273, 3, 515, (74, 1, 0, 0), 0, [9]),
  (39, false, .ifCond .eq 26, 3, 0, (65, 0, 0, 0), 0, []),
  (42, false, .aload_n 2, 1, 0, (0, 0, 0, 0), 0, []),
  (43, false, .aload_n 0, 1, 0, (0, 0, 0, 0), 0, []),
  (44, false, .getfield 78, 3, 179, (3, 16, 0, 0), 0, []),
  (47, false, .invokevirtual 288, 3, 579, (90, 2, 0, 0), 0, [0, 9]),
  (50, false, .ifCond .ne 13, 3, 0, (63, 0, 0, 0), 0, []),
  (53, false, .aload_n 0, 1, 0, (0, 0, 0, 0), 0, []),
  (54, false, .aload_n 2, 1, 0, (0, 0, 0, 0), 0, []),
  (55, false, .iconst 0, 1, 0, (0, 0, 0, 0), 0, []),
  (56, false, .invokevirtual 403, 3, 740, (62, 3, 0, 0), 0, [0, 9, 5]),
  (59, false, .iconst (-1), 1, 0, (0, 0, 0, 0), 0, []),
  (60, false, .if_icmp .eq 5, 3, 0, (65, 0, 0, 0), 0, []),
  (63, false, .iconst 0, 1, 0, (0, 0, 0, 0), 0, []),
  (64, false, .ireturn, 1, 0, (0, 0, 0, 0), 0, []),
  (65, false, .iinc 1 1, 3, 0, (0, 0, 0, 0), 0, []),
  (68, false, .goto (-47), 3, 0, (21, 0, 0, 0), 0, []),
  (71, false, .iconst 1, 1, 0, (0, 0, 0, 0), 0, []),
  (72, false, .ireturn, 1, 0, (0, 0, 0, 0), 0, [])]
theorem zc_x_quiet : zk_x_quiet.all (zz_ck zz_inf zM_x_quiet) = true ∧ zz_ch zk_x_quiet = true := ⟨by decide +kernel, by decide +kernel⟩
noncomputable def x_quiet_21 : Nat → Int → zz_S → zz_R
  | 0, _, _ => none
  | n + 1, v1, σ => (if v1 < (zz_h σ 3 1 11) then ((x_taskAt v1 σ).bind fun q1 => ((x_isActive q1.1 q1.2).bind fun q2 => (if q2.1 = 0 then (x_quiet_21 n (zz_r (v1 + 1)) q2.2) else (if q1.1 = 0 then none else ((xT_isFiredFor q1.1 (zz_h q2.2 3 1 16) q2.2).bind fun q3 => (if q3.1 = 0 then ((x_dueMinute q1.1 0 q3.2).bind fun q4 => (if q4.1 = (-1) then (x_quiet_21 n (zz_r (v1 + 1)) q4.2) else (some (0, q4.2)))) else (some (0, q3.2)))))))) else (some (1, σ)))
set_option maxRecDepth 100000 in
set_option maxHeartbeats 4000000 in
theorem ze_x_quiet_21 (n : Nat) (v1 : Int) (σ : zz_S) : x_quiet_21 (n + 1) v1 σ = zz_ev (zz_CE [(62, zw_x_dueMinute), (73, zw_x_taskAt), (74, zw_x_isActive), (90, zw_xT_isFiredFor)]) (zz_KE [(21, [(0, 5, true), (1, 0, false)], zz_f1 (x_quiet_21 n))]) zk_x_quiet 0 false 0 0 400 true (zz_sk zk_x_quiet 21) [(0, 5, 1), (1, 0, v1)] [] σ := rfl
theorem zo_x_quiet_21 : ∀ n : Nat, zz_okb zM_x_quiet 21 [(0, 5, true), (1, 0, false)] (zz_f1 (x_quiet_21 n))
  | 0 => fun vs σ r τ h => by
    obtain ⟨v1, rfl, h⟩ := zz_f1_ok h
    exact nomatch (show (none : zz_R) = some (r, τ) from h)
  | n + 1 => by
    have ih := zo_x_quiet_21 n
    exact fun vs σ r τ h => by
        obtain ⟨v1, rfl, h⟩ := zz_f1_ok h
        exact zz_from zc_x_quiet (zz_occ zo_m_x_dueMinute (zz_occ zo_m_x_taskAt (zz_occ zo_m_x_isActive (zz_occ zo_m_xT_isFiredFor zz_oc0)))) (zz_olc ih zz_ol0) ((ze_x_quiet_21 n v1 σ).symm.trans h)
noncomputable def x_quiet (σ : zz_S) : zz_R := (if (zz_h σ 3 1 13) ≤ 0 then (if (zz_h σ 4 1 3) ≤ 0 then (x_quiet_21 zz_fu 0 σ) else (some (0, σ))) else (some (0, σ)))
set_option maxRecDepth 100000 in
set_option maxHeartbeats 4000000 in
theorem ze_x_quiet (σ : zz_S) : x_quiet σ = zz_ev (zz_CE []) (zz_KE [(21, [(0, 5, true), (1, 0, false)], zz_f1 (x_quiet_21 zz_fu))]) zk_x_quiet 0 false 0 0 400 true (zz_sk zk_x_quiet 0) [(0, 5, 1)] [] σ := rfl
theorem zo_x_quiet : zz_okb zM_x_quiet 0 [(0, 5, true)] (zz_f0 x_quiet) :=
  fun vs σ r τ h => by
    obtain ⟨rfl, h⟩ := zz_f0_ok h
    exact zz_from zc_x_quiet zz_oc0 (zz_olc (zo_x_quiet_21 zz_fu) zz_ol0) ((ze_x_quiet σ).symm.trans h)
noncomputable def zw_x_quiet : List Int → zz_S → zz_R := zz_f1 fun a0 σ => if a0 = 1 then x_quiet σ else none
theorem zo_m_x_quiet : zz_okm zz_inf 71 zw_x_quiet := fun vs σ r τ h => by
  obtain ⟨a0, rfl, h⟩ := zz_f1_ok h
  obtain ⟨e, h⟩ := zz_it h
  subst e
  exact zz_meth zi_x_quiet zy_x_quiet (zo_x_quiet [] σ r τ h)
end
