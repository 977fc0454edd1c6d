section
-- ===== PART A: goes FIRST, ahead of the names: the tables' words, and 'selects' of the private methods out of them =====
/-- a private method of a class that the tables say can be made, by its rows of tables_1 -/
def lw_okq (q : MethodName × Nat) : Prop := (q.1.cls ≠ "java/lang/invoke/MethodHandle" ∧ q.1.cls ≠ "java/lang/invoke/VarHandle") ∧ Cond.instantiable q.1.cls q.2 ∈ tables_1 ∧ Cond.privateMethod q.1 ∈ tables_1 ∧ Cond.instanceMethod q.1 ∈ tables_1
theorem lw_p0 : lw_okq (⟨"SegmentKernel$TaskSet", "hasPriority", "(I)Z"⟩, 3) := ⟨⟨by decide +kernel, by decide +kernel⟩, List.mem_of_getElem? (i := 25) (by decide +kernel), List.mem_of_getElem? (i := 214) (by decide +kernel), List.mem_of_getElem? (i := 215) (by decide +kernel)⟩
theorem lw_p1 : lw_okq (⟨"SegmentKernel$TaskSet", "place", "(LSegmentKernel$Task;)V"⟩, 3) := ⟨⟨by decide +kernel, by decide +kernel⟩, List.mem_of_getElem? (i := 25) (by decide +kernel), List.mem_of_getElem? (i := 226) (by decide +kernel), List.mem_of_getElem? (i := 227) (by decide +kernel)⟩
theorem lw_p2 : lw_okq (⟨"SegmentKernel$TaskSet", "swap", "(II)V"⟩, 3) := ⟨⟨by decide +kernel, by decide +kernel⟩, List.mem_of_getElem? (i := 25) (by decide +kernel), List.mem_of_getElem? (i := 230) (by decide +kernel), List.mem_of_getElem? (i := 231) (by decide +kernel)⟩
theorem lw_p3 : lw_okq (⟨"java/lang/Throwable", "fillInStackTrace", "(I)Ljava/lang/Throwable;"⟩, 6) := ⟨⟨by decide +kernel, by decide +kernel⟩, List.mem_of_getElem? (i := 382) (by decide +kernel), List.mem_of_getElem? (i := 380) (by decide +kernel), List.mem_of_getElem? (i := 381) (by decide +kernel)⟩
theorem lw_p4 : lw_okq (⟨"SegmentKernel$Analysis", "greatestWith", "(LSegmentKernel$Task;I)I"⟩, 3) := ⟨⟨by decide +kernel, by decide +kernel⟩, List.mem_of_getElem? (i := 153) (by decide +kernel), List.mem_of_getElem? (i := 416) (by decide +kernel), List.mem_of_getElem? (i := 417) (by decide +kernel)⟩
theorem lw_p5 : lw_okq (⟨"SegmentKernel$Analysis", "busyWith", "(LSegmentKernel$Task;I)I"⟩, 3) := ⟨⟨by decide +kernel, by decide +kernel⟩, List.mem_of_getElem? (i := 153) (by decide +kernel), List.mem_of_getElem? (i := 420) (by decide +kernel), List.mem_of_getElem? (i := 421) (by decide +kernel)⟩
theorem lw_p6 : lw_okq (⟨"SegmentKernel$Analysis", "higherWorkBy", "(LSegmentKernel$Task;I)I"⟩, 3) := ⟨⟨by decide +kernel, by decide +kernel⟩, List.mem_of_getElem? (i := 153) (by decide +kernel), List.mem_of_getElem? (i := 428) (by decide +kernel), List.mem_of_getElem? (i := 429) (by decide +kernel)⟩
theorem lw_p7 : lw_okq (⟨"SegmentKernel$Analysis", "lastBegin", "(LSegmentKernel$Task;III)I"⟩, 3) := ⟨⟨by decide +kernel, by decide +kernel⟩, List.mem_of_getElem? (i := 153) (by decide +kernel), List.mem_of_getElem? (i := 432) (by decide +kernel), List.mem_of_getElem? (i := 433) (by decide +kernel)⟩
theorem lw_p8 : lw_okq (⟨"SegmentKernel", "surveyedTask", "(I)LSegmentKernel$Task;"⟩, 3) := ⟨⟨by decide +kernel, by decide +kernel⟩, List.mem_of_getElem? (i := 17) (by decide +kernel), List.mem_of_getElem? (i := 455) (by decide +kernel), List.mem_of_getElem? (i := 456) (by decide +kernel)⟩
theorem lw_p9 : lw_okq (⟨"SegmentKernel", "readyTask", "(I)LSegmentKernel$Task;"⟩, 3) := ⟨⟨by decide +kernel, by decide +kernel⟩, List.mem_of_getElem? (i := 17) (by decide +kernel), List.mem_of_getElem? (i := 459) (by decide +kernel), List.mem_of_getElem? (i := 460) (by decide +kernel)⟩
theorem lw_p10 : lw_okq (⟨"SegmentKernel$Analysis", "greatestBorne", "(LSegmentKernel$Task;)I"⟩, 3) := ⟨⟨by decide +kernel, by decide +kernel⟩, List.mem_of_getElem? (i := 153) (by decide +kernel), List.mem_of_getElem? (i := 517) (by decide +kernel), List.mem_of_getElem? (i := 518) (by decide +kernel)⟩
theorem lw_p11 : lw_okq (⟨"SegmentKernel$Analysis", "highestBelowWith", "(LSegmentKernel$Task;I)LSegmentKernel$Task;"⟩, 3) := ⟨⟨by decide +kernel, by decide +kernel⟩, List.mem_of_getElem? (i := 153) (by decide +kernel), List.mem_of_getElem? (i := 553) (by decide +kernel), List.mem_of_getElem? (i := 554) (by decide +kernel)⟩
theorem lw_p12 : lw_okq (⟨"SegmentKernel$Analysis", "scenarioArrivalsBy", "(LSegmentKernel$Task;I)I"⟩, 3) := ⟨⟨by decide +kernel, by decide +kernel⟩, List.mem_of_getElem? (i := 153) (by decide +kernel), List.mem_of_getElem? (i := 562) (by decide +kernel), List.mem_of_getElem? (i := 563) (by decide +kernel)⟩
theorem lw_p13 : lw_okq (⟨"SegmentKernel$Analysis", "ownArrivalsBy", "(LSegmentKernel$Task;I)I"⟩, 3) := ⟨⟨by decide +kernel, by decide +kernel⟩, List.mem_of_getElem? (i := 153) (by decide +kernel), List.mem_of_getElem? (i := 566) (by decide +kernel), List.mem_of_getElem? (i := 567) (by decide +kernel)⟩
theorem lw_p14 : lw_okq (⟨"SegmentKernel$Analysis", "timeOfArrival", "(LSegmentKernel$Task;II)I"⟩, 3) := ⟨⟨by decide +kernel, by decide +kernel⟩, List.mem_of_getElem? (i := 153) (by decide +kernel), List.mem_of_getElem? (i := 570) (by decide +kernel), List.mem_of_getElem? (i := 571) (by decide +kernel)⟩
theorem lw_p15 : lw_okq (⟨"SegmentKernel$Analysis", "taskOfArrival", "(LSegmentKernel$Task;II)I"⟩, 3) := ⟨⟨by decide +kernel, by decide +kernel⟩, List.mem_of_getElem? (i := 153) (by decide +kernel), List.mem_of_getElem? (i := 574) (by decide +kernel), List.mem_of_getElem? (i := 575) (by decide +kernel)⟩
def lw_privs_1 : List (MethodName × Nat) := [(⟨"SegmentKernel$TaskSet", "hasPriority", "(I)Z"⟩, 3), (⟨"SegmentKernel$TaskSet", "place", "(LSegmentKernel$Task;)V"⟩, 3), (⟨"SegmentKernel$TaskSet", "swap", "(II)V"⟩, 3), (⟨"java/lang/Throwable", "fillInStackTrace", "(I)Ljava/lang/Throwable;"⟩, 6), (⟨"SegmentKernel$Analysis", "greatestWith", "(LSegmentKernel$Task;I)I"⟩, 3), (⟨"SegmentKernel$Analysis", "busyWith", "(LSegmentKernel$Task;I)I"⟩, 3), (⟨"SegmentKernel$Analysis", "higherWorkBy", "(LSegmentKernel$Task;I)I"⟩, 3), (⟨"SegmentKernel$Analysis", "lastBegin", "(LSegmentKernel$Task;III)I"⟩, 3), (⟨"SegmentKernel", "surveyedTask", "(I)LSegmentKernel$Task;"⟩, 3), (⟨"SegmentKernel", "readyTask", "(I)LSegmentKernel$Task;"⟩, 3), (⟨"SegmentKernel$Analysis", "greatestBorne", "(LSegmentKernel$Task;)I"⟩, 3), (⟨"SegmentKernel$Analysis", "highestBelowWith", "(LSegmentKernel$Task;I)LSegmentKernel$Task;"⟩, 3), (⟨"SegmentKernel$Analysis", "scenarioArrivalsBy", "(LSegmentKernel$Task;I)I"⟩, 3), (⟨"SegmentKernel$Analysis", "ownArrivalsBy", "(LSegmentKernel$Task;I)I"⟩, 3), (⟨"SegmentKernel$Analysis", "timeOfArrival", "(LSegmentKernel$Task;II)I"⟩, 3), (⟨"SegmentKernel$Analysis", "taskOfArrival", "(LSegmentKernel$Task;II)I"⟩, 3)]
theorem lw_r1 : ∀ q ∈ lw_privs_1, lw_okq q := List.forall_mem_cons.mpr ⟨lw_p0, List.forall_mem_cons.mpr ⟨lw_p1, List.forall_mem_cons.mpr ⟨lw_p2, List.forall_mem_cons.mpr ⟨lw_p3, List.forall_mem_cons.mpr ⟨lw_p4, List.forall_mem_cons.mpr ⟨lw_p5, List.forall_mem_cons.mpr ⟨lw_p6, List.forall_mem_cons.mpr ⟨lw_p7, List.forall_mem_cons.mpr ⟨lw_p8, List.forall_mem_cons.mpr ⟨lw_p9, List.forall_mem_cons.mpr ⟨lw_p10, List.forall_mem_cons.mpr ⟨lw_p11, List.forall_mem_cons.mpr ⟨lw_p12, List.forall_mem_cons.mpr ⟨lw_p13, List.forall_mem_cons.mpr ⟨lw_p14, List.forall_mem_cons.mpr ⟨lw_p15, fun _ h => absurd h List.not_mem_nil⟩⟩⟩⟩⟩⟩⟩⟩⟩⟩⟩⟩⟩⟩⟩⟩
theorem lw_p16 : lw_okq (⟨"SegmentKernel$Kernel", "beginSegment", "()V"⟩, 6) := ⟨⟨by decide +kernel, by decide +kernel⟩, List.mem_of_getElem? (i := 169) (by decide +kernel), List.mem_of_getElem? (i := 605) (by decide +kernel), List.mem_of_getElem? (i := 606) (by decide +kernel)⟩
theorem lw_p17 : lw_okq (⟨"SegmentKernel$Kernel", "highestWithJob", "()LSegmentKernel$Task;"⟩, 6) := ⟨⟨by decide +kernel, by decide +kernel⟩, List.mem_of_getElem? (i := 169) (by decide +kernel), List.mem_of_getElem? (i := 609) (by decide +kernel), List.mem_of_getElem? (i := 610) (by decide +kernel)⟩
theorem lw_p18 : lw_okq (⟨"SegmentKernel$Kernel", "run", "(LSegmentKernel$Task;I)V"⟩, 6) := ⟨⟨by decide +kernel, by decide +kernel⟩, List.mem_of_getElem? (i := 169) (by decide +kernel), List.mem_of_getElem? (i := 619) (by decide +kernel), List.mem_of_getElem? (i := 620) (by decide +kernel)⟩
theorem lw_p19 : lw_okq (⟨"SegmentKernel$Kernel", "endSegment", "(LSegmentKernel$Task;)V"⟩, 6) := ⟨⟨by decide +kernel, by decide +kernel⟩, List.mem_of_getElem? (i := 169) (by decide +kernel), List.mem_of_getElem? (i := 623) (by decide +kernel), List.mem_of_getElem? (i := 624) (by decide +kernel)⟩
theorem lw_p20 : lw_okq (⟨"SegmentKernelModel", "isTask", "(I)Z"⟩, 29) := ⟨⟨by decide +kernel, by decide +kernel⟩, List.mem_of_getElem? (i := 632) (by decide +kernel), List.mem_of_getElem? (i := 739) (by decide +kernel), List.mem_of_getElem? (i := 740) (by decide +kernel)⟩
theorem lw_p21 : lw_okq (⟨"SegmentKernelModel", "forgetJobs", "()V"⟩, 29) := ⟨⟨by decide +kernel, by decide +kernel⟩, List.mem_of_getElem? (i := 632) (by decide +kernel), List.mem_of_getElem? (i := 747) (by decide +kernel), List.mem_of_getElem? (i := 748) (by decide +kernel)⟩
theorem lw_p22 : lw_okq (⟨"SegmentKernelModel", "work", "(I)I"⟩, 29) := ⟨⟨by decide +kernel, by decide +kernel⟩, List.mem_of_getElem? (i := 632) (by decide +kernel), List.mem_of_getElem? (i := 759) (by decide +kernel), List.mem_of_getElem? (i := 760) (by decide +kernel)⟩
theorem lw_p23 : lw_okq (⟨"SegmentKernelModel", "workBefore", "(II)I"⟩, 29) := ⟨⟨by decide +kernel, by decide +kernel⟩, List.mem_of_getElem? (i := 632) (by decide +kernel), List.mem_of_getElem? (i := 763) (by decide +kernel), List.mem_of_getElem? (i := 764) (by decide +kernel)⟩
theorem lw_p24 : lw_okq (⟨"SegmentKernelModel", "blocking", "(I)I"⟩, 29) := ⟨⟨by decide +kernel, by decide +kernel⟩, List.mem_of_getElem? (i := 632) (by decide +kernel), List.mem_of_getElem? (i := 767) (by decide +kernel), List.mem_of_getElem? (i := 768) (by decide +kernel)⟩
theorem lw_p25 : lw_okq (⟨"SegmentKernelModel", "longestBelow", "(I)I"⟩, 29) := ⟨⟨by decide +kernel, by decide +kernel⟩, List.mem_of_getElem? (i := 632) (by decide +kernel), List.mem_of_getElem? (i := 771) (by decide +kernel), List.mem_of_getElem? (i := 772) (by decide +kernel)⟩
theorem lw_p26 : lw_okq (⟨"SegmentKernelModel", "longestOf", "(I)I"⟩, 29) := ⟨⟨by decide +kernel, by decide +kernel⟩, List.mem_of_getElem? (i := 632) (by decide +kernel), List.mem_of_getElem? (i := 775) (by decide +kernel), List.mem_of_getElem? (i := 776) (by decide +kernel)⟩
theorem lw_p27 : lw_okq (⟨"SegmentKernelModel", "isReady", "()Z"⟩, 29) := ⟨⟨by decide +kernel, by decide +kernel⟩, List.mem_of_getElem? (i := 632) (by decide +kernel), List.mem_of_getElem? (i := 783) (by decide +kernel), List.mem_of_getElem? (i := 784) (by decide +kernel)⟩
theorem lw_p28 : lw_okq (⟨"SegmentKernelModel", "raise", "(I)I"⟩, 29) := ⟨⟨by decide +kernel, by decide +kernel⟩, List.mem_of_getElem? (i := 632) (by decide +kernel), List.mem_of_getElem? (i := 787) (by decide +kernel), List.mem_of_getElem? (i := 788) (by decide +kernel)⟩
theorem lw_p29 : lw_okq (⟨"SegmentKernelModel", "admitted", "()I"⟩, 29) := ⟨⟨by decide +kernel, by decide +kernel⟩, List.mem_of_getElem? (i := 632) (by decide +kernel), List.mem_of_getElem? (i := 791) (by decide +kernel), List.mem_of_getElem? (i := 792) (by decide +kernel)⟩
theorem lw_p30 : lw_okq (⟨"SegmentKernelModel", "highest", "(I)I"⟩, 29) := ⟨⟨by decide +kernel, by decide +kernel⟩, List.mem_of_getElem? (i := 632) (by decide +kernel), List.mem_of_getElem? (i := 795) (by decide +kernel), List.mem_of_getElem? (i := 796) (by decide +kernel)⟩
theorem lw_p31 : lw_okq (⟨"SegmentKernelModel", "go", "(II)V"⟩, 29) := ⟨⟨by decide +kernel, by decide +kernel⟩, List.mem_of_getElem? (i := 632) (by decide +kernel), List.mem_of_getElem? (i := 799) (by decide +kernel), List.mem_of_getElem? (i := 800) (by decide +kernel)⟩
def lw_privs_2 : List (MethodName × Nat) := [(⟨"SegmentKernel$Kernel", "beginSegment", "()V"⟩, 6), (⟨"SegmentKernel$Kernel", "highestWithJob", "()LSegmentKernel$Task;"⟩, 6), (⟨"SegmentKernel$Kernel", "run", "(LSegmentKernel$Task;I)V"⟩, 6), (⟨"SegmentKernel$Kernel", "endSegment", "(LSegmentKernel$Task;)V"⟩, 6), (⟨"SegmentKernelModel", "isTask", "(I)Z"⟩, 29), (⟨"SegmentKernelModel", "forgetJobs", "()V"⟩, 29), (⟨"SegmentKernelModel", "work", "(I)I"⟩, 29), (⟨"SegmentKernelModel", "workBefore", "(II)I"⟩, 29), (⟨"SegmentKernelModel", "blocking", "(I)I"⟩, 29), (⟨"SegmentKernelModel", "longestBelow", "(I)I"⟩, 29), (⟨"SegmentKernelModel", "longestOf", "(I)I"⟩, 29), (⟨"SegmentKernelModel", "isReady", "()Z"⟩, 29), (⟨"SegmentKernelModel", "raise", "(I)I"⟩, 29), (⟨"SegmentKernelModel", "admitted", "()I"⟩, 29), (⟨"SegmentKernelModel", "highest", "(I)I"⟩, 29), (⟨"SegmentKernelModel", "go", "(II)V"⟩, 29)]
theorem lw_r2 : ∀ q ∈ lw_privs_2, lw_okq q := List.forall_mem_cons.mpr ⟨lw_p16, List.forall_mem_cons.mpr ⟨lw_p17, List.forall_mem_cons.mpr ⟨lw_p18, List.forall_mem_cons.mpr ⟨lw_p19, List.forall_mem_cons.mpr ⟨lw_p20, List.forall_mem_cons.mpr ⟨lw_p21, List.forall_mem_cons.mpr ⟨lw_p22, List.forall_mem_cons.mpr ⟨lw_p23, List.forall_mem_cons.mpr ⟨lw_p24, List.forall_mem_cons.mpr ⟨lw_p25, List.forall_mem_cons.mpr ⟨lw_p26, List.forall_mem_cons.mpr ⟨lw_p27, List.forall_mem_cons.mpr ⟨lw_p28, List.forall_mem_cons.mpr ⟨lw_p29, List.forall_mem_cons.mpr ⟨lw_p30, List.forall_mem_cons.mpr ⟨lw_p31, fun _ h => absurd h List.not_mem_nil⟩⟩⟩⟩⟩⟩⟩⟩⟩⟩⟩⟩⟩⟩⟩⟩
theorem lw_p32 : lw_okq (⟨"SegmentKernelModel", "isOver", "(I)Z"⟩, 29) := ⟨⟨by decide +kernel, by decide +kernel⟩, List.mem_of_getElem? (i := 632) (by decide +kernel), List.mem_of_getElem? (i := 803) (by decide +kernel), List.mem_of_getElem? (i := 804) (by decide +kernel)⟩
theorem lw_p33 : lw_okq (⟨"SegmentKernelModel", "counts", "(II)Z"⟩, 29) := ⟨⟨by decide +kernel, by decide +kernel⟩, List.mem_of_getElem? (i := 632) (by decide +kernel), List.mem_of_getElem? (i := 807) (by decide +kernel), List.mem_of_getElem? (i := 808) (by decide +kernel)⟩
theorem lw_p34 : lw_okq (⟨"SegmentKernelModel", "next", "(I)I"⟩, 29) := ⟨⟨by decide +kernel, by decide +kernel⟩, List.mem_of_getElem? (i := 632) (by decide +kernel), List.mem_of_getElem? (i := 811) (by decide +kernel), List.mem_of_getElem? (i := 812) (by decide +kernel)⟩
theorem lw_p35 : lw_okq (⟨"SegmentKernelModel", "asks", "(I)Z"⟩, 29) := ⟨⟨by decide +kernel, by decide +kernel⟩, List.mem_of_getElem? (i := 632) (by decide +kernel), List.mem_of_getElem? (i := 819) (by decide +kernel), List.mem_of_getElem? (i := 820) (by decide +kernel)⟩
theorem lw_p36 : lw_okq (⟨"SegmentKernelModel", "tolerates", "(I)I"⟩, 29) := ⟨⟨by decide +kernel, by decide +kernel⟩, List.mem_of_getElem? (i := 632) (by decide +kernel), List.mem_of_getElem? (i := 831) (by decide +kernel), List.mem_of_getElem? (i := 832) (by decide +kernel)⟩
theorem lw_p37 : lw_okq (⟨"SegmentKernelModel", "stretchOne", "(II)V"⟩, 29) := ⟨⟨by decide +kernel, by decide +kernel⟩, List.mem_of_getElem? (i := 632) (by decide +kernel), List.mem_of_getElem? (i := 839) (by decide +kernel), List.mem_of_getElem? (i := 840) (by decide +kernel)⟩
theorem lw_p38 : lw_okq (⟨"SegmentKernelModel", "step", "()I"⟩, 29) := ⟨⟨by decide +kernel, by decide +kernel⟩, List.mem_of_getElem? (i := 632) (by decide +kernel), List.mem_of_getElem? (i := 855) (by decide +kernel), List.mem_of_getElem? (i := 856) (by decide +kernel)⟩
theorem lw_p39 : lw_okq (⟨"SegmentKernelModel", "begin", "()V"⟩, 29) := ⟨⟨by decide +kernel, by decide +kernel⟩, List.mem_of_getElem? (i := 632) (by decide +kernel), List.mem_of_getElem? (i := 859) (by decide +kernel), List.mem_of_getElem? (i := 860) (by decide +kernel)⟩
theorem lw_p40 : lw_okq (⟨"SegmentKernelModel", "waiting", "()I"⟩, 29) := ⟨⟨by decide +kernel, by decide +kernel⟩, List.mem_of_getElem? (i := 632) (by decide +kernel), List.mem_of_getElem? (i := 863) (by decide +kernel), List.mem_of_getElem? (i := 864) (by decide +kernel)⟩
theorem lw_p41 : lw_okq (⟨"SegmentKernelModel", "finish", "(I)V"⟩, 29) := ⟨⟨by decide +kernel, by decide +kernel⟩, List.mem_of_getElem? (i := 632) (by decide +kernel), List.mem_of_getElem? (i := 867) (by decide +kernel), List.mem_of_getElem? (i := 868) (by decide +kernel)⟩
def lw_privs_3 : List (MethodName × Nat) := [(⟨"SegmentKernelModel", "isOver", "(I)Z"⟩, 29), (⟨"SegmentKernelModel", "counts", "(II)Z"⟩, 29), (⟨"SegmentKernelModel", "next", "(I)I"⟩, 29), (⟨"SegmentKernelModel", "asks", "(I)Z"⟩, 29), (⟨"SegmentKernelModel", "tolerates", "(I)I"⟩, 29), (⟨"SegmentKernelModel", "stretchOne", "(II)V"⟩, 29), (⟨"SegmentKernelModel", "step", "()I"⟩, 29), (⟨"SegmentKernelModel", "begin", "()V"⟩, 29), (⟨"SegmentKernelModel", "waiting", "()I"⟩, 29), (⟨"SegmentKernelModel", "finish", "(I)V"⟩, 29)]
theorem lw_r3 : ∀ q ∈ lw_privs_3, lw_okq q := List.forall_mem_cons.mpr ⟨lw_p32, List.forall_mem_cons.mpr ⟨lw_p33, List.forall_mem_cons.mpr ⟨lw_p34, List.forall_mem_cons.mpr ⟨lw_p35, List.forall_mem_cons.mpr ⟨lw_p36, List.forall_mem_cons.mpr ⟨lw_p37, List.forall_mem_cons.mpr ⟨lw_p38, List.forall_mem_cons.mpr ⟨lw_p39, List.forall_mem_cons.mpr ⟨lw_p40, List.forall_mem_cons.mpr ⟨lw_p41, fun _ h => absurd h List.not_mem_nil⟩⟩⟩⟩⟩⟩⟩⟩⟩⟩
def lw_privs : List (MethodName × Nat) := lw_privs_1 ++ (lw_privs_2 ++ (lw_privs_3))
def lw_tbl : List Cond := k2_sels lw_privs ++ tables_1
theorem lw_privs_ok : ∀ q ∈ lw_privs, lw_okq q := by
  show ∀ q ∈ lw_privs_1 ++ (lw_privs_2 ++ (lw_privs_3)), lw_okq q
  exact List.forall_mem_append.mpr ⟨lw_r1, List.forall_mem_append.mpr ⟨lw_r2, lw_r3⟩⟩
end
section
/-! NAMES: classes, fields in the order of the slots, methods; the words: all good words of the tables, for every method -/
def R_A : String := "SegmentKernel$Analysis"
def R_J : String := "SegmentKernel$Jobs"
def R_K : String := "SegmentKernel$Kernel"
def R_T : String := "SegmentKernel$Task"
def R_S : String := "SegmentKernel$TaskSet"
def R_O : String := "SegmentKernel"
def R_Y : String := "SegmentKernelModel"
def R_L : String := "SegmentKernelLaw"
def T_A : u_T := fun k => match k with
  | 0 => ("SegmentKernel$Analysis", "tasks", "LSegmentKernel$TaskSet;", true)
  | 1 => ("SegmentKernel$Analysis", "greatestJob", "I", false)
  | _ => ("SegmentKernel$Analysis", "jobCount", "I", false)
def ty_A : Nat → FieldType := fun k => match k with
  | 0 => (.object "SegmentKernel$TaskSet")
  | 1 => .int
  | _ => .int
theorem nm_A : ∀ a, a < 3 → ∀ b, b < 3 → a ≠ b → (T_A a).2.1 ≠ (T_A b).2.1 := by decide +kernel
theorem tk_A : ∀ k, k < 3 → parseFieldDescriptor (T_A k).2.2.1 = some (ty_A k) := by decide +kernel
def T_J : u_T := fun k => match k with
  | 0 => ("SegmentKernel$Jobs", "arrivals", "[I", true)
  | 1 => ("SegmentKernel$Jobs", "noted", "[I", true)
  | 2 => ("SegmentKernel$Jobs", "arrived", "I", false)
  | 3 => ("SegmentKernel$Jobs", "done", "I", false)
  | 4 => ("SegmentKernel$Jobs", "greatest", "I", false)
  | 5 => ("SegmentKernel$Jobs", "interrupted", "I", false)
  | 6 => ("SegmentKernel$Jobs", "missed", "I", false)
  | _ => ("SegmentKernel$Jobs", "nextSegment", "I", false)
def ty_J : Nat → FieldType := fun k => match k with
  | 0 => (.array .int)
  | 1 => (.array .int)
  | 2 => .int
  | 3 => .int
  | 4 => .int
  | 5 => .int
  | 6 => .int
  | _ => .int
theorem nm_J : ∀ a, a < 8 → ∀ b, b < 8 → a ≠ b → (T_J a).2.1 ≠ (T_J b).2.1 := by decide +kernel
theorem tk_J : ∀ k, k < 8 → parseFieldDescriptor (T_J k).2.2.1 = some (ty_J k) := by decide +kernel
def T_K : u_T := fun k => match k with
  | 0 => ("SegmentKernel$Kernel", "tasks", "LSegmentKernel$TaskSet;", true)
  | 1 => ("SegmentKernel$Kernel", "hasJobs", "Z", false)
  | 2 => ("SegmentKernel$Kernel", "clock", "I", false)
  | 3 => ("SegmentKernel$Kernel", "left", "I", false)
  | 4 => ("SegmentKernel$Kernel", "running", "LSegmentKernel$Task;", false)
  | _ => ("SegmentKernel$Kernel", "paused", "LSegmentKernel$Task;", false)
def ty_K : Nat → FieldType := fun k => match k with
  | 0 => (.object "SegmentKernel$TaskSet")
  | 1 => .boolean
  | 2 => .int
  | 3 => .int
  | 4 => (.object "SegmentKernel$Task")
  | _ => (.object "SegmentKernel$Task")
theorem nm_K : ∀ a, a < 6 → ∀ b, b < 6 → a ≠ b → (T_K a).2.1 ≠ (T_K b).2.1 := by decide +kernel
theorem tk_K : ∀ k, k < 6 → parseFieldDescriptor (T_K k).2.2.1 = some (ty_K k) := by decide +kernel
def T_T : u_T := fun k => match k with
  | 0 => ("SegmentKernel$Task", "id", "I", true)
  | 1 => ("SegmentKernel$Task", "jobs", "LSegmentKernel$Jobs;", true)
  | 2 => ("SegmentKernel$Task", "segments", "[I", true)
  | 3 => ("SegmentKernel$Task", "distance", "I", false)
  | 4 => ("SegmentKernel$Task", "deadline", "I", false)
  | 5 => ("SegmentKernel$Task", "priority", "I", false)
  | 6 => ("SegmentKernel$Task", "segmentCount", "I", false)
  | 7 => ("SegmentKernel$Task", "work", "I", false)
  | 8 => ("SegmentKernel$Task", "rank", "I", false)
  | 9 => ("SegmentKernel$Task", "worst", "I", false)
  | 10 => ("SegmentKernel$Task", "critical", "I", false)
  | 11 => ("SegmentKernel$Task", "responseCount", "I", false)
  | _ => ("SegmentKernel$Task", "bearable", "I", false)
def ty_T : Nat → FieldType := fun k => match k with
  | 0 => .int
  | 1 => (.object "SegmentKernel$Jobs")
  | 2 => (.array .int)
  | 3 => .int
  | 4 => .int
  | 5 => .int
  | 6 => .int
  | 7 => .int
  | 8 => .int
  | 9 => .int
  | 10 => .int
  | 11 => .int
  | _ => .int
theorem nm_T : ∀ a, a < 13 → ∀ b, b < 13 → a ≠ b → (T_T a).2.1 ≠ (T_T b).2.1 := by decide +kernel
theorem tk_T : ∀ k, k < 13 → parseFieldDescriptor (T_T k).2.2.1 = some (ty_T k) := by decide +kernel
def T_S : u_T := fun k => match k with
  | 0 => ("SegmentKernel$TaskSet", "byId", "[LSegmentKernel$Task;", true)
  | 1 => ("SegmentKernel$TaskSet", "ranked", "[LSegmentKernel$Task;", true)
  | _ => ("SegmentKernel$TaskSet", "count", "I", false)
def ty_S : Nat → FieldType := fun k => match k with
  | 0 => (.array (.object "SegmentKernel$Task"))
  | 1 => (.array (.object "SegmentKernel$Task"))
  | _ => .int
theorem nm_S : ∀ a, a < 3 → ∀ b, b < 3 → a ≠ b → (T_S a).2.1 ≠ (T_S b).2.1 := by decide +kernel
theorem tk_S : ∀ k, k < 3 → parseFieldDescriptor (T_S k).2.2.1 = some (ty_S k) := by decide +kernel
def T_O : u_T := fun k => match k with
  | 0 => ("SegmentKernel", "tasks", "LSegmentKernel$TaskSet;", true)
  | 1 => ("SegmentKernel", "analysis", "LSegmentKernel$Analysis;", true)
  | _ => ("SegmentKernel", "kernel", "LSegmentKernel$Kernel;", true)
def ty_O : Nat → FieldType := fun k => match k with
  | 0 => (.object "SegmentKernel$TaskSet")
  | 1 => (.object "SegmentKernel$Analysis")
  | _ => (.object "SegmentKernel$Kernel")
theorem nm_O : ∀ a, a < 3 → ∀ b, b < 3 → a ≠ b → (T_O a).2.1 ≠ (T_O b).2.1 := by decide +kernel
theorem tk_O : ∀ k, k < 3 → parseFieldDescriptor (T_O k).2.2.1 = some (ty_O k) := by decide +kernel
def T_Y : u_T := fun k => match k with
  | 0 => ("SegmentKernelModel", "thrown", "I", false)
  | 1 => ("SegmentKernelModel", "there", "[Z", true)
  | 2 => ("SegmentKernelModel", "distance", "[I", true)
  | 3 => ("SegmentKernelModel", "deadline", "[I", true)
  | 4 => ("SegmentKernelModel", "priority", "[I", true)
  | 5 => ("SegmentKernelModel", "pieces", "[I", true)
  | 6 => ("SegmentKernelModel", "length", "[I", true)
  | 7 => ("SegmentKernelModel", "done", "[I", true)
  | 8 => ("SegmentKernelModel", "piece", "[I", true)
  | 9 => ("SegmentKernelModel", "time", "I", false)
  | 10 => ("SegmentKernelModel", "tooLong", "Z", false)
  | 11 => ("SegmentKernelModel", "worst", "I", false)
  | 12 => ("SegmentKernelModel", "critical", "I", false)
  | 13 => ("SegmentKernelModel", "asked", "I", false)
  | 14 => ("SegmentKernelModel", "answer", "I", false)
  | 15 => ("SegmentKernelModel", "clock", "I", false)
  | 16 => ("SegmentKernelModel", "came", "[I", true)
  | 17 => ("SegmentKernelModel", "finished", "[I", true)
  | 18 => ("SegmentKernelModel", "latest", "[I", true)
  | 19 => ("SegmentKernelModel", "arrivals", "[I", true)
  | 20 => ("SegmentKernelModel", "begun", "[I", true)
  | 21 => ("SegmentKernelModel", "greatest", "[I", true)
  | 22 => ("SegmentKernelModel", "interrupted", "[I", true)
  | 23 => ("SegmentKernelModel", "missed", "[I", true)
  | 24 => ("SegmentKernelModel", "responses", "[I", true)
  | 25 => ("SegmentKernelModel", "arrived", "Z", false)
  | 26 => ("SegmentKernelModel", "running", "I", false)
  | 27 => ("SegmentKernelModel", "left", "I", false)
  | _ => ("SegmentKernelModel", "endedLast", "I", false)
def ty_Y : Nat → FieldType := fun k => match k with
  | 0 => .int
  | 1 => (.array .boolean)
  | 2 => (.array .int)
  | 3 => (.array .int)
  | 4 => (.array .int)
  | 5 => (.array .int)
  | 6 => (.array .int)
  | 7 => (.array .int)
  | 8 => (.array .int)
  | 9 => .int
  | 10 => .boolean
  | 11 => .int
  | 12 => .int
  | 13 => .int
  | 14 => .int
  | 15 => .int
  | 16 => (.array .int)
  | 17 => (.array .int)
  | 18 => (.array .int)
  | 19 => (.array .int)
  | 20 => (.array .int)
  | 21 => (.array .int)
  | 22 => (.array .int)
  | 23 => (.array .int)
  | 24 => (.array .int)
  | 25 => .boolean
  | 26 => .int
  | 27 => .int
  | _ => .int
theorem nm_Y : ∀ a, a < 29 → ∀ b, b < 29 → a ≠ b → (T_Y a).2.1 ≠ (T_Y b).2.1 := by decide +kernel
theorem tk_Y : ∀ k, k < 29 → parseFieldDescriptor (T_Y k).2.2.1 = some (ty_Y k) := by decide +kernel
abbrev vwCl : List vw_C := [(R_A, T_A, 3), (R_J, T_J, 8), (R_K, T_K, 6), (R_T, T_T, 13), (R_S, T_S, 3), (R_O, T_O, 3), (R_Y, T_Y, 29)]
abbrev b_O_init : ByteArray := prog_1_method_1_code
abbrev y_O_init : MethodName := ⟨"SegmentKernel", "<init>", "()V"⟩
abbrev b_S_init : ByteArray := prog_6_method_1_code
abbrev y_S_init : MethodName := ⟨"SegmentKernel$TaskSet", "<init>", "()V"⟩
abbrev b_T_init : ByteArray := prog_5_method_1_code
abbrev y_T_init : MethodName := ⟨"SegmentKernel$Task", "<init>", "(I)V"⟩
abbrev b_J_init : ByteArray := prog_3_method_1_code
abbrev y_J_init : MethodName := ⟨"SegmentKernel$Jobs", "<init>", "()V"⟩
abbrev b_A_init : ByteArray := prog_2_method_1_code
abbrev y_A_init : MethodName := ⟨"SegmentKernel$Analysis", "<init>", "(LSegmentKernel$TaskSet;)V"⟩
abbrev b_K_init : ByteArray := prog_4_method_1_code
abbrev y_K_init : MethodName := ⟨"SegmentKernel$Kernel", "<init>", "(LSegmentKernel$TaskSet;)V"⟩
abbrev b_O_task : ByteArray := prog_1_method_2_code
abbrev y_O_task : MethodName := ⟨"SegmentKernel", "task", "(IIII)Z"⟩
abbrev b_S_add : ByteArray := prog_6_method_3_code
abbrev y_S_add : MethodName := ⟨"SegmentKernel$TaskSet", "add", "(IIII)Z"⟩
abbrev b_S_hasPriority : ByteArray := prog_6_method_10_code
abbrev y_S_hasPriority : MethodName := ⟨"SegmentKernel$TaskSet", "hasPriority", "(I)Z"⟩
abbrev b_S_find : ByteArray := prog_6_method_2_code
abbrev y_S_find : MethodName := ⟨"SegmentKernel$TaskSet", "find", "(I)LSegmentKernel$Task;"⟩
abbrev b_T_become : ByteArray := prog_5_method_2_code
abbrev y_T_become : MethodName := ⟨"SegmentKernel$Task", "become", "(III)V"⟩
abbrev b_S_place : ByteArray := prog_6_method_11_code
abbrev y_S_place : MethodName := ⟨"SegmentKernel$TaskSet", "place", "(LSegmentKernel$Task;)V"⟩
abbrev b_S_swap : ByteArray := prog_6_method_12_code
abbrev y_S_swap : MethodName := ⟨"SegmentKernel$TaskSet", "swap", "(II)V"⟩
abbrev b_S_forgetFindings : ByteArray := prog_6_method_6_code
abbrev y_S_forgetFindings : MethodName := ⟨"SegmentKernel$TaskSet", "forgetFindings", "()V"⟩
abbrev b_T_forgetFindings : ByteArray := prog_5_method_10_code
abbrev y_T_forgetFindings : MethodName := ⟨"SegmentKernel$Task", "forgetFindings", "()V"⟩
abbrev b_O_segment : ByteArray := prog_1_method_3_code
abbrev y_O_segment : MethodName := ⟨"SegmentKernel", "segment", "(II)Z"⟩
abbrev b_S_addSegment : ByteArray := prog_6_method_4_code
abbrev y_S_addSegment : MethodName := ⟨"SegmentKernel$TaskSet", "addSegment", "(II)Z"⟩
abbrev b_T_append : ByteArray := prog_5_method_3_code
abbrev y_T_append : MethodName := ⟨"SegmentKernel$Task", "append", "(I)Z"⟩
abbrev b_O_clear : ByteArray := prog_1_method_4_code
abbrev y_O_clear : MethodName := ⟨"SegmentKernel", "clear", "()V"⟩
abbrev b_K_forgetJobs : ByteArray := prog_4_method_2_code
abbrev y_K_forgetJobs : MethodName := ⟨"SegmentKernel$Kernel", "forgetJobs", "()V"⟩
abbrev b_J_forget : ByteArray := prog_3_method_2_code
abbrev y_J_forget : MethodName := ⟨"SegmentKernel$Jobs", "forget", "()V"⟩
abbrev b_S_forgetTasks : ByteArray := prog_6_method_5_code
abbrev y_S_forgetTasks : MethodName := ⟨"SegmentKernel$TaskSet", "forgetTasks", "()V"⟩
abbrev b_O_reset : ByteArray := prog_1_method_5_code
abbrev y_O_reset : MethodName := ⟨"SegmentKernel", "reset", "()V"⟩
abbrev b_O_about : ByteArray := prog_1_method_6_code
abbrev y_O_about : MethodName := ⟨"SegmentKernel", "about", "(II)I"⟩
abbrev b_S_blockingOf : ByteArray := prog_6_method_9_code
abbrev y_S_blockingOf : MethodName := ⟨"SegmentKernel$TaskSet", "blockingOf", "(LSegmentKernel$Task;)I"⟩
abbrev b_S_longestBelow : ByteArray := prog_6_method_8_code
abbrev y_S_longestBelow : MethodName := ⟨"SegmentKernel$TaskSet", "longestBelow", "(LSegmentKernel$Task;)I"⟩
abbrev b_T_longestSegment : ByteArray := prog_5_method_5_code
abbrev y_T_longestSegment : MethodName := ⟨"SegmentKernel$Task", "longestSegment", "()I"⟩
abbrev b_T_segmentAt : ByteArray := prog_5_method_4_code
abbrev y_T_segmentAt : MethodName := ⟨"SegmentKernel$Task", "segmentAt", "(I)I"⟩
abbrev b_O_arrive : ByteArray := prog_1_method_13_code
abbrev y_O_arrive : MethodName := ⟨"SegmentKernel", "arrive", "(I)Z"⟩
abbrev b_S_isReady : ByteArray := prog_6_method_7_code
abbrev y_S_isReady : MethodName := ⟨"SegmentKernel$TaskSet", "isReady", "()Z"⟩
abbrev b_K_accept : ByteArray := prog_4_method_3_code
abbrev y_K_accept : MethodName := ⟨"SegmentKernel$Kernel", "accept", "(LSegmentKernel$Task;)Z"⟩
abbrev b_J_accept : ByteArray := prog_3_method_4_code
abbrev y_J_accept : MethodName := ⟨"SegmentKernel$Jobs", "accept", "(II)Z"⟩
abbrev b_O_now : ByteArray := prog_1_method_15_code
abbrev y_O_now : MethodName := ⟨"SegmentKernel", "now", "()I"⟩
abbrev b_O_ended : ByteArray := prog_1_method_16_code
abbrev y_O_ended : MethodName := ⟨"SegmentKernel", "ended", "(II)I"⟩
abbrev b_J_notedResponse : ByteArray := prog_3_method_6_code
abbrev y_J_notedResponse : MethodName := ⟨"SegmentKernel$Jobs", "notedResponse", "(I)I"⟩
abbrev b_O_seen : ByteArray := prog_1_method_17_code
abbrev y_O_seen : MethodName := ⟨"SegmentKernel", "seen", "(II)I"⟩
abbrev b_K_leftOf : ByteArray := prog_4_method_4_code
abbrev y_K_leftOf : MethodName := ⟨"SegmentKernel$Kernel", "leftOf", "(LSegmentKernel$Task;)I"⟩
abbrev b_O_admit : ByteArray := prog_1_method_7_code
abbrev y_O_admit : MethodName := ⟨"SegmentKernel", "admit", "()I"⟩
abbrev b_A_verdict : ByteArray := prog_2_method_3_code
abbrev y_A_verdict : MethodName := ⟨"SegmentKernel$Analysis", "verdict", "()I"⟩
abbrev b_A_survey : ByteArray := prog_2_method_2_code
abbrev y_A_survey : MethodName := ⟨"SegmentKernel$Analysis", "survey", "(LSegmentKernel$Task;)V"⟩
abbrev b_A_greatestWith : ByteArray := prog_2_method_14_code
abbrev y_A_greatestWith : MethodName := ⟨"SegmentKernel$Analysis", "greatestWith", "(LSegmentKernel$Task;I)I"⟩
abbrev b_A_busyWith : ByteArray := prog_2_method_15_code
abbrev y_A_busyWith : MethodName := ⟨"SegmentKernel$Analysis", "busyWith", "(LSegmentKernel$Task;I)I"⟩
abbrev b_T_arrivalsBy : ByteArray := prog_5_method_9_code
abbrev y_T_arrivalsBy : MethodName := ⟨"SegmentKernel$Task", "arrivalsBy", "(I)I"⟩
abbrev b_A_higherWorkBy : ByteArray := prog_2_method_17_code
abbrev y_A_higherWorkBy : MethodName := ⟨"SegmentKernel$Analysis", "higherWorkBy", "(LSegmentKernel$Task;I)I"⟩
abbrev b_A_lastBegin : ByteArray := prog_2_method_16_code
abbrev y_A_lastBegin : MethodName := ⟨"SegmentKernel$Analysis", "lastBegin", "(LSegmentKernel$Task;III)I"⟩
abbrev b_T_lastSegment : ByteArray := prog_5_method_6_code
abbrev y_T_lastSegment : MethodName := ⟨"SegmentKernel$Task", "lastSegment", "()I"⟩
abbrev b_T_isTooLong : ByteArray := prog_5_method_11_code
abbrev y_T_isTooLong : MethodName := ⟨"SegmentKernel$Task", "isTooLong", "()Z"⟩
abbrev b_O_response : ByteArray := prog_1_method_8_code
abbrev y_O_response : MethodName := ⟨"SegmentKernel", "response", "(I)I"⟩
abbrev b_O_surveyedTask : ByteArray := prog_1_method_19_code
abbrev y_O_surveyedTask : MethodName := ⟨"SegmentKernel", "surveyedTask", "(I)LSegmentKernel$Task;"⟩
abbrev b_O_readyTask : ByteArray := prog_1_method_18_code
abbrev y_O_readyTask : MethodName := ⟨"SegmentKernel", "readyTask", "(I)LSegmentKernel$Task;"⟩
abbrev b_O_job : ByteArray := prog_1_method_9_code
abbrev y_O_job : MethodName := ⟨"SegmentKernel", "job", "(II)I"⟩
abbrev b_A_responseOfJob : ByteArray := prog_2_method_4_code
abbrev y_A_responseOfJob : MethodName := ⟨"SegmentKernel$Analysis", "responseOfJob", "(LSegmentKernel$Task;I)I"⟩
abbrev b_O_tolerance : ByteArray := prog_1_method_10_code
abbrev y_O_tolerance : MethodName := ⟨"SegmentKernel", "tolerance", "(I)I"⟩
abbrev b_A_bearableBy : ByteArray := prog_2_method_5_code
abbrev y_A_bearableBy : MethodName := ⟨"SegmentKernel$Analysis", "bearableBy", "(LSegmentKernel$Task;)I"⟩
abbrev b_A_greatestBorne : ByteArray := prog_2_method_13_code
abbrev y_A_greatestBorne : MethodName := ⟨"SegmentKernel$Analysis", "greatestBorne", "(LSegmentKernel$Task;)I"⟩
abbrev b_O_stretch : ByteArray := prog_1_method_11_code
abbrev y_O_stretch : MethodName := ⟨"SegmentKernel", "stretch", "()I"⟩
abbrev b_A_stretchTasks : ByteArray := prog_2_method_6_code
abbrev y_A_stretchTasks : MethodName := ⟨"SegmentKernel$Analysis", "stretchTasks", "()I"⟩
abbrev b_T_growLast : ByteArray := prog_5_method_8_code
abbrev y_T_growLast : MethodName := ⟨"SegmentKernel$Task", "growLast", "(I)I"⟩
abbrev b_O_scenario : ByteArray := prog_1_method_12_code
abbrev y_O_scenario : MethodName := ⟨"SegmentKernel", "scenario", "(III)I"⟩
abbrev b_A_scenarioItem : ByteArray := prog_2_method_7_code
abbrev y_A_scenarioItem : MethodName := ⟨"SegmentKernel$Analysis", "scenarioItem", "(LSegmentKernel$Task;IZ)I"⟩
abbrev b_A_highestBelowWith : ByteArray := prog_2_method_8_code
abbrev y_A_highestBelowWith : MethodName := ⟨"SegmentKernel$Analysis", "highestBelowWith", "(LSegmentKernel$Task;I)LSegmentKernel$Task;"⟩
abbrev b_T_workAheadOf : ByteArray := prog_5_method_7_code
abbrev y_T_workAheadOf : MethodName := ⟨"SegmentKernel$Task", "workAheadOf", "(I)I"⟩
abbrev b_A_scenarioArrivalsBy : ByteArray := prog_2_method_10_code
abbrev y_A_scenarioArrivalsBy : MethodName := ⟨"SegmentKernel$Analysis", "scenarioArrivalsBy", "(LSegmentKernel$Task;I)I"⟩
abbrev b_A_ownArrivalsBy : ByteArray := prog_2_method_9_code
abbrev y_A_ownArrivalsBy : MethodName := ⟨"SegmentKernel$Analysis", "ownArrivalsBy", "(LSegmentKernel$Task;I)I"⟩
abbrev b_A_timeOfArrival : ByteArray := prog_2_method_11_code
abbrev y_A_timeOfArrival : MethodName := ⟨"SegmentKernel$Analysis", "timeOfArrival", "(LSegmentKernel$Task;II)I"⟩
abbrev b_A_taskOfArrival : ByteArray := prog_2_method_12_code
abbrev y_A_taskOfArrival : MethodName := ⟨"SegmentKernel$Analysis", "taskOfArrival", "(LSegmentKernel$Task;II)I"⟩
abbrev b_O_tick : ByteArray := prog_1_method_14_code
abbrev y_O_tick : MethodName := ⟨"SegmentKernel", "tick", "(I)I"⟩
abbrev b_K_advance : ByteArray := prog_4_method_5_code
abbrev y_K_advance : MethodName := ⟨"SegmentKernel$Kernel", "advance", "(I)I"⟩
abbrev b_K_beginSegment : ByteArray := prog_4_method_7_code
abbrev y_K_beginSegment : MethodName := ⟨"SegmentKernel$Kernel", "beginSegment", "()V"⟩
abbrev b_K_highestWithJob : ByteArray := prog_4_method_9_code
abbrev y_K_highestWithJob : MethodName := ⟨"SegmentKernel$Kernel", "highestWithJob", "()LSegmentKernel$Task;"⟩
abbrev b_J_hasOpen : ByteArray := prog_3_method_3_code
abbrev y_J_hasOpen : MethodName := ⟨"SegmentKernel$Jobs", "hasOpen", "()Z"⟩
abbrev b_K_run : ByteArray := prog_4_method_6_code
abbrev y_K_run : MethodName := ⟨"SegmentKernel$Kernel", "run", "(LSegmentKernel$Task;I)V"⟩
abbrev b_K_endSegment : ByteArray := prog_4_method_8_code
abbrev y_K_endSegment : MethodName := ⟨"SegmentKernel$Kernel", "endSegment", "(LSegmentKernel$Task;)V"⟩
abbrev b_J_finishOldest : ByteArray := prog_3_method_5_code
abbrev y_J_finishOldest : MethodName := ⟨"SegmentKernel$Jobs", "finishOldest", "(II)V"⟩
abbrev b_Y_init : ByteArray := prog_8_method_1_code
abbrev y_Y_init : MethodName := ⟨"SegmentKernelModel", "<init>", "()V"⟩
abbrev b_Y_thrown : ByteArray := prog_8_method_2_code
abbrev y_Y_thrown : MethodName := ⟨"SegmentKernelModel", "thrown", "()I"⟩
abbrev b_Y_task : ByteArray := prog_8_method_5_code
abbrev y_Y_task : MethodName := ⟨"SegmentKernelModel", "task", "(IIII)Z"⟩
abbrev b_Y_segment : ByteArray := prog_8_method_6_code
abbrev y_Y_segment : MethodName := ⟨"SegmentKernelModel", "segment", "(II)Z"⟩
abbrev b_Y_isTask : ByteArray := prog_8_method_4_code
abbrev y_Y_isTask : MethodName := ⟨"SegmentKernelModel", "isTask", "(I)Z"⟩
abbrev b_Y_clear : ByteArray := prog_8_method_8_code
abbrev y_Y_clear : MethodName := ⟨"SegmentKernelModel", "clear", "()V"⟩
abbrev b_Y_forgetJobs : ByteArray := prog_8_method_7_code
abbrev y_Y_forgetJobs : MethodName := ⟨"SegmentKernelModel", "forgetJobs", "()V"⟩
abbrev b_Y_reset : ByteArray := prog_8_method_9_code
abbrev y_Y_reset : MethodName := ⟨"SegmentKernelModel", "reset", "()V"⟩
abbrev b_Y_about : ByteArray := prog_8_method_16_code
abbrev y_Y_about : MethodName := ⟨"SegmentKernelModel", "about", "(II)I"⟩
abbrev b_Y_work : ByteArray := prog_8_method_12_code
abbrev y_Y_work : MethodName := ⟨"SegmentKernelModel", "work", "(I)I"⟩
abbrev b_Y_workBefore : ByteArray := prog_8_method_11_code
abbrev y_Y_workBefore : MethodName := ⟨"SegmentKernelModel", "workBefore", "(II)I"⟩
abbrev b_Y_blocking : ByteArray := prog_8_method_15_code
abbrev y_Y_blocking : MethodName := ⟨"SegmentKernelModel", "blocking", "(I)I"⟩
abbrev b_Y_longestBelow : ByteArray := prog_8_method_14_code
abbrev y_Y_longestBelow : MethodName := ⟨"SegmentKernelModel", "longestBelow", "(I)I"⟩
abbrev b_Y_longestOf : ByteArray := prog_8_method_13_code
abbrev y_Y_longestOf : MethodName := ⟨"SegmentKernelModel", "longestOf", "(I)I"⟩
abbrev b_Y_admit : ByteArray := prog_8_method_23_code
abbrev y_Y_admit : MethodName := ⟨"SegmentKernelModel", "admit", "()I"⟩
abbrev b_Y_isReady : ByteArray := prog_8_method_10_code
abbrev y_Y_isReady : MethodName := ⟨"SegmentKernelModel", "isReady", "()Z"⟩
abbrev b_Y_raise : ByteArray := prog_8_method_3_code
abbrev y_Y_raise : MethodName := ⟨"SegmentKernelModel", "raise", "(I)I"⟩
abbrev b_Y_admitted : ByteArray := prog_8_method_22_code
abbrev y_Y_admitted : MethodName := ⟨"SegmentKernelModel", "admitted", "()I"⟩
abbrev b_Y_highest : ByteArray := prog_8_method_21_code
abbrev y_Y_highest : MethodName := ⟨"SegmentKernelModel", "highest", "(I)I"⟩
abbrev b_Y_go : ByteArray := prog_8_method_20_code
abbrev y_Y_go : MethodName := ⟨"SegmentKernelModel", "go", "(II)V"⟩
abbrev b_Y_isOver : ByteArray := prog_8_method_19_code
abbrev y_Y_isOver : MethodName := ⟨"SegmentKernelModel", "isOver", "(I)Z"⟩
abbrev b_Y_counts : ByteArray := prog_8_method_17_code
abbrev y_Y_counts : MethodName := ⟨"SegmentKernelModel", "counts", "(II)Z"⟩
abbrev b_Y_next : ByteArray := prog_8_method_18_code
abbrev y_Y_next : MethodName := ⟨"SegmentKernelModel", "next", "(I)I"⟩
abbrev b_Y_response : ByteArray := prog_8_method_25_code
abbrev y_Y_response : MethodName := ⟨"SegmentKernelModel", "response", "(I)I"⟩
abbrev b_Y_asks : ByteArray := prog_8_method_24_code
abbrev y_Y_asks : MethodName := ⟨"SegmentKernelModel", "asks", "(I)Z"⟩
abbrev b_Y_job : ByteArray := prog_8_method_26_code
abbrev y_Y_job : MethodName := ⟨"SegmentKernelModel", "job", "(II)I"⟩
abbrev b_Y_tolerance : ByteArray := prog_8_method_28_code
abbrev y_Y_tolerance : MethodName := ⟨"SegmentKernelModel", "tolerance", "(I)I"⟩
abbrev b_Y_tolerates : ByteArray := prog_8_method_27_code
abbrev y_Y_tolerates : MethodName := ⟨"SegmentKernelModel", "tolerates", "(I)I"⟩
abbrev b_Y_stretch : ByteArray := prog_8_method_30_code
abbrev y_Y_stretch : MethodName := ⟨"SegmentKernelModel", "stretch", "()I"⟩
abbrev b_Y_stretchOne : ByteArray := prog_8_method_29_code
abbrev y_Y_stretchOne : MethodName := ⟨"SegmentKernelModel", "stretchOne", "(II)V"⟩
abbrev b_Y_scenario : ByteArray := prog_8_method_31_code
abbrev y_Y_scenario : MethodName := ⟨"SegmentKernelModel", "scenario", "(III)I"⟩
abbrev b_Y_arrive : ByteArray := prog_8_method_32_code
abbrev y_Y_arrive : MethodName := ⟨"SegmentKernelModel", "arrive", "(I)Z"⟩
abbrev b_Y_tick : ByteArray := prog_8_method_37_code
abbrev y_Y_tick : MethodName := ⟨"SegmentKernelModel", "tick", "(I)I"⟩
abbrev b_Y_step : ByteArray := prog_8_method_36_code
abbrev y_Y_step : MethodName := ⟨"SegmentKernelModel", "step", "()I"⟩
abbrev b_Y_begin : ByteArray := prog_8_method_34_code
abbrev y_Y_begin : MethodName := ⟨"SegmentKernelModel", "begin", "()V"⟩
abbrev b_Y_waiting : ByteArray := prog_8_method_33_code
abbrev y_Y_waiting : MethodName := ⟨"SegmentKernelModel", "waiting", "()I"⟩
abbrev b_Y_finish : ByteArray := prog_8_method_35_code
abbrev y_Y_finish : MethodName := ⟨"SegmentKernelModel", "finish", "(I)V"⟩
abbrev b_Y_now : ByteArray := prog_8_method_38_code
abbrev y_Y_now : MethodName := ⟨"SegmentKernelModel", "now", "()I"⟩
abbrev b_Y_ended : ByteArray := prog_8_method_39_code
abbrev y_Y_ended : MethodName := ⟨"SegmentKernelModel", "ended", "(II)I"⟩
abbrev b_Y_seen : ByteArray := prog_8_method_40_code
abbrev y_Y_seen : MethodName := ⟨"SegmentKernelModel", "seen", "(II)I"⟩
def wB : List Cond := lw_tbl.filter goodWord
theorem wB_in {w : Cond} (h : w ∈ lw_tbl) (g : goodWord w = true) : w ∈ wB := List.mem_filter.mpr ⟨h, g⟩
theorem wB_sub : ∀ w ∈ wB, w ∈ lw_tbl := fun _ h => (List.mem_filter.mp h).1
theorem wB_good : ∀ w ∈ wB, (w.onTables && w.keeps) = true ∨ ∃ ty, w = .arrayClass ty := fun _ h => good_of_word (List.mem_filter.mp h).2
/-- a callee's words among a caller's: its code is one of the words -/
theorem wB_call {big : List Cond} {y : MethodName} {b : ByteArray} {n : Nat} {r : Option FieldType} (hb : ∀ w ∈ wB, w ∈ big) (h : Cond.code y b n r ∈ wB) : GoodIn big (Cond.code y b n r :: wB) := by
  intro w hw
  rcases List.mem_cons.mp hw with rfl | hw
  · exact ⟨hb _ h, wB_good _ h⟩
  · exact ⟨hb _ hw, wB_good _ hw⟩
theorem wB_callV {big : List Cond} {y : MethodName} {b : ByteArray} {n : Nat} {r : Option FieldType} {own C : String} {ix : Nat} (hb : ∀ w ∈ wB, w ∈ big) (h : Cond.code y b n r ∈ wB) (h1 : Cond.methodLink own ix y ∈ wB) (h2 : Cond.instanceMethod y ∈ wB) (h3 : Cond.selects C y y ∈ wB) (h4 : Cond.initialized C ∈ wB) : GoodIn big (wsV own ix C y (Cond.code y b n r :: wB)) := by
  intro w hw
  unfold wsV at hw
  rcases List.mem_append.mp hw with hw | hw
  · have hw' : w ∈ wB := by
      simp only [List.mem_cons, List.not_mem_nil, or_false] at hw
      rcases hw with rfl | rfl | rfl | rfl
      · exact h1
      · exact h2
      · exact h3
      · exact h4
    exact ⟨hb _ hw', wB_good _ hw'⟩
  · exact wB_call hb h w hw
end
section
/-! PART: rows over a whole world: a list of cells ws, and what a method makes of it -/
def gw_P (D : va_G) (tys : List (ClassId × FieldType)) (ws : va_W) (sz : Nat) (U : State) : Prop := U.heap.size = sz ∧ va_K D vwCl tys U ∧ va_P D vwCl ws U.heap ∧ va_D (fun _ => True) ws
def gw_B (D : va_G) (tys : List (ClassId × FieldType)) (A : Nat → Prop) (ws : va_W) (t : State) : Prop := va_P D vwCl ws t.heap ∧ va_K D vwCl tys t ∧ va_D A ws
def gw_W (D : va_G) (tys : List (ClassId × FieldType)) (A : Nat → Prop) (ws : va_W) (s : State) (H : Heap) (locs : List Loc) : Prop := va_K D vwCl tys s ∧ va_P D vwCl ws H ∧ va_D A ws ∧ va_S A s.heap H locs ∧ ∀ q : Nat, s.heap.size ≤ q → A q
abbrev gw_Ci (l : Launch) (y : MethodName) (wd : List Cond) (rm : Room) (D : va_G) (tys : List (ClassId × FieldType)) (ws : va_W) (av : List Value) (r0 : Int32) (ws0 : va_W) : Prop :=
  ∀ sz : Nat, Met l y wd rm (va_Pc av (gw_P D tys ws sz)) (va_Qi (fun (r : Int32) (u : va_W) => r = r0 ∧ u = ws0) (gw_B D tys (va_A ws sz)) (va_A ws sz)) 0 0 (va_A ws sz)
abbrev gw_Cz (l : Launch) (y : MethodName) (wd : List Cond) (rm : Room) (D : va_G) (tys : List (ClassId × FieldType)) (ws : va_W) (av : List Value) (r0 : Int32) (ws0 : va_W) : Prop := gw_Ci l y wd rm D tys ws av r0 ws0
abbrev gw_Cv (l : Launch) (y : MethodName) (wd : List Cond) (rm : Room) (D : va_G) (tys : List (ClassId × FieldType)) (ws : va_W) (av : List Value) (ws0 : va_W) : Prop :=
  ∀ sz : Nat, Met l y wd rm (va_Pc av (gw_P D tys ws sz)) (va_Qv (fun (u : va_W) => u = ws0) (gw_B D tys (va_A ws sz)) (va_A ws sz)) 0 0 (va_A ws sz)
abbrev gw_Cq (l : Launch) (y : MethodName) (wd : List Cond) (rm : Room) (D : va_G) (tys : List (ClassId × FieldType)) (ws : va_W) (av : List Value) (r0 : Option Nat) (ws0 : va_W) : Prop :=
  ∀ sz : Nat, Met l y wd rm (va_Pc av (gw_P D tys ws sz)) (va_Qq (fun (r : Option Nat) (u : va_W) => r = r0 ∧ u = ws0) (gw_B D tys (va_A ws sz)) (va_A ws sz)) 0 0 (va_A ws sz)
theorem gw_blind {av : List Value} {D : va_G} {tys : List (ClassId × FieldType)} {ws : va_W} {sz : Nat} : FrameBlind (va_Pc av (gw_P D tys ws sz)) := fun a U g mk q => by
  obtain ⟨q0, q1, qK, qP, qD⟩ := q
  exact ⟨q0, q1, va_K.moved (u := U) (U := U.calling g mk a) (Vm.Alike.refl U.vm) qK, qP, qD⟩
theorem gw_free {D : va_G} {tys : List (ClassId × FieldType)} {A : Nat → Prop} {ws : va_W} {s : State} {H : Heap} {locs : List Loc} (hw : gw_W D tys A ws s H locs) : ∀ q, va_A ws H.size q → A q := by
  obtain ⟨-, -, hD, hS, hA⟩ := hw
  intro q h
  rcases h with ⟨k, e, h⟩ | h
  · exact hD.2 k (q, e) h
  · exact hA q (Nat.le_trans hS.1 h)
theorem gw_if {α : Type} {c : Prop} [Decidable c] {a : Option α} {r : α} (h : (if c then a else none) = some r) : c ∧ a = some r := by
  by_cases hc : c
  · rw [if_pos hc] at h; exact ⟨hc, h⟩
  · rw [if_neg hc] at h; cases h
def gw_oc {α β : Type} (o : Option α) (a : Option β) (f : α → Option β) : Option β := match o with
  | none => a
  | some y => f y
theorem gw_oc_none {α β : Type} {o : Option α} {a : Option β} {f : α → Option β} (h : o = none) : gw_oc o a f = a := by rw [h]; rfl
theorem gw_oc_some {α β : Type} {o : Option α} {a : Option β} {f : α → Option β} {y : α} (h : o = some y) : gw_oc o a f = f y := by rw [h]; rfl
def gw_oa (ad : Nat → Nat) (o : Option (Fin 8)) : Option Nat := o.map (fun x => ad (6 + x.val))
theorem gw_cat {ad : Nat → Nat} {o : Option (Fin 8)} : (va_rf (gw_oa ad o)).category = 1 := by cases o <;> rfl
section Enter
variable {l : Launch} {y : MethodName} {wd wd' : List Cond} {rm : Room} {D : va_G} {tys : List (ClassId × FieldType)} {ws ws0 : va_W} {av : List Value} {cc : ByteArray} {maxL sz : Nat}
set_option maxHeartbeats 1000000 in
theorem gw_meti {r0 : Int32} (hy : plainName y.cls = true) (hw : wd = Cond.code y cc maxL (some .int) :: wd') (hn : (lg_sl av).length ≤ maxL)
    (body : ∀ (p : Program) (e : Env) (s : State) (m : MethodId) (args : Array Value) (below : List Frame) (meth : Method) (c : Code) (A : Nat → Prop) (Q : State → Prop), CallFix p m c cc maxL s args wd y.cls → ∀ (H : Heap) (locs : List Loc), gw_W D tys A ws s H locs →
      (∀ (H : Heap) (locs : List Loc) (ls : Array Slot) (pc : Nat) (r : Int32) (u : va_W), r = r0 → u = ws0 → gw_W D tys A u s H locs → decode cc pc = .ok (.ireturn, 1) → W p l e rm s m args below meth c H locs 0 0 Q (F0 m pc ls [.int r])) →
      ∀ ls : Array Slot, lv_has ls maxL (lv_args 0 av) → W p l e rm s m args below meth c H locs 0 0 Q (F0 m 0 ls [])) :
    Met l y wd rm (va_Pc av (gw_P D tys ws sz)) (va_Qi (fun (r : Int32) (u : va_W) => r = r0 ∧ u = ws0) (gw_B D tys (va_A ws sz)) (va_A ws sz)) 0 0 (va_A ws sz) := by
  refine Met.ofW (cc := cc) (maxL := maxL) (ret := some .int) hy hw ?_
  intro p e s m args below meth c s₁ B hml hv
  obtain ⟨hargs, hsz, hK, hP, hD0⟩ := hv
  have hl := lv_entry av (n := maxL) hn
  subst hsz
  have hD := hD0.self (sz := s.heap.size)
  have hlk := B.notSynchronized
  rw [show entryFrame m args maxL = F0 m 0 ((lg_sl av ++ List.replicate (maxL - (lg_sl av).length) Slot.unset).toArray) [] by rw [hargs]; exact lg_entry_eq m av maxL]
  exact body p e s m args below meth c (va_A ws s.heap.size) _ ⟨B.exec, B.bytes, hml, findClass_of_methodNamed B.named, atoms_spec (ws := wd) B.pre⟩ s.heap [] ⟨hK, hP, hD, va_S.rf, fun q h => Or.inr h⟩
    (fun H locs ls pc r u hr hu hw hd => by
      subst hr; subst hu
      exact W.iret B.exec B.bytes B.returns (fun t ht hW => ⟨⟨r, u, rfl, ⟨rfl, rfl⟩, by rw [ht]; exact hw.2.1, va_K.moved hW.alike hw.1, hw.2.2.1⟩, hw.2.2.2.1.F ht⟩) hw.2.2.2.1.2.2 hd hlk) _ hl
set_option maxHeartbeats 1000000 in
theorem gw_metz {r0 : Int32} (hy : plainName y.cls = true) (hw : wd = Cond.code y cc maxL (some .boolean) :: wd') (hn : (lg_sl av).length ≤ maxL)
    (body : ∀ (p : Program) (e : Env) (s : State) (m : MethodId) (args : Array Value) (below : List Frame) (meth : Method) (c : Code) (A : Nat → Prop) (Q : State → Prop), CallFix p m c cc maxL s args wd y.cls → ∀ (H : Heap) (locs : List Loc), gw_W D tys A ws s H locs →
      (∀ (H : Heap) (locs : List Loc) (ls : Array Slot) (pc : Nat) (r : Int32) (u : va_W), r = r0 → u = ws0 → (r = 0 ∨ r = 1) → gw_W D tys A u s H locs → decode cc pc = .ok (.ireturn, 1) → W p l e rm s m args below meth c H locs 0 0 Q (F0 m pc ls [.int r])) →
      ∀ ls : Array Slot, lv_has ls maxL (lv_args 0 av) → W p l e rm s m args below meth c H locs 0 0 Q (F0 m 0 ls [])) :
    Met l y wd rm (va_Pc av (gw_P D tys ws sz)) (va_Qi (fun (r : Int32) (u : va_W) => r = r0 ∧ u = ws0) (gw_B D tys (va_A ws sz)) (va_A ws sz)) 0 0 (va_A ws sz) := by
  refine Met.ofW (cc := cc) (maxL := maxL) (ret := some .boolean) hy hw ?_
  intro p e s m args below meth c s₁ B hml hv
  obtain ⟨hargs, hsz, hK, hP, hD0⟩ := hv
  have hl := lv_entry av (n := maxL) hn
  subst hsz
  have hD := hD0.self (sz := s.heap.size)
  have hlk := B.notSynchronized
  rw [show entryFrame m args maxL = F0 m 0 ((lg_sl av ++ List.replicate (maxL - (lg_sl av).length) Slot.unset).toArray) [] by rw [hargs]; exact lg_entry_eq m av maxL]
  exact body p e s m args below meth c (va_A ws s.heap.size) _ ⟨B.exec, B.bytes, hml, findClass_of_methodNamed B.named, atoms_spec (ws := wd) B.pre⟩ s.heap [] ⟨hK, hP, hD, va_S.rf, fun q h => Or.inr h⟩
    (fun H locs ls pc r u hr hu h01 hw hd => by
      subst hr; subst hu
      have hnr : narrow .boolean (.int r) = .int r := by rcases h01 with rfl | rfl <;> rfl
      exact W.zret B.exec B.bytes B.returns hnr (fun t ht hW => ⟨⟨r, u, rfl, ⟨rfl, rfl⟩, by rw [ht]; exact hw.2.1, va_K.moved hW.alike hw.1, hw.2.2.1⟩, hw.2.2.2.1.F ht⟩) hw.2.2.2.1.2.2 hd hlk) _ hl
set_option maxHeartbeats 1000000 in
theorem gw_metv (hy : plainName y.cls = true) (hw : wd = Cond.code y cc maxL none :: wd') (hn : (lg_sl av).length ≤ maxL)
    (body : ∀ (p : Program) (e : Env) (s : State) (m : MethodId) (args : Array Value) (below : List Frame) (meth : Method) (c : Code) (A : Nat → Prop) (Q : State → Prop), CallFix p m c cc maxL s args wd y.cls → ∀ (H : Heap) (locs : List Loc), gw_W D tys A ws s H locs →
      (∀ (H : Heap) (locs : List Loc) (ls : Array Slot) (pc : Nat) (u : va_W), u = ws0 → gw_W D tys A u s H locs → decode cc pc = .ok (.return_, 1) → W p l e rm s m args below meth c H locs 0 0 Q (F0 m pc ls [])) →
      ∀ ls : Array Slot, lv_has ls maxL (lv_args 0 av) → W p l e rm s m args below meth c H locs 0 0 Q (F0 m 0 ls [])) :
    Met l y wd rm (va_Pc av (gw_P D tys ws sz)) (va_Qv (fun (u : va_W) => u = ws0) (gw_B D tys (va_A ws sz)) (va_A ws sz)) 0 0 (va_A ws sz) := by
  refine Met.ofW (cc := cc) (maxL := maxL) (ret := none) hy hw ?_
  intro p e s m args below meth c s₁ B hml hv
  obtain ⟨hargs, hsz, hK, hP, hD0⟩ := hv
  have hl := lv_entry av (n := maxL) hn
  subst hsz
  have hD := hD0.self (sz := s.heap.size)
  have hlk := B.notSynchronized
  rw [show entryFrame m args maxL = F0 m 0 ((lg_sl av ++ List.replicate (maxL - (lg_sl av).length) Slot.unset).toArray) [] by rw [hargs]; exact lg_entry_eq m av maxL]
  exact body p e s m args below meth c (va_A ws s.heap.size) _ ⟨B.exec, B.bytes, hml, findClass_of_methodNamed B.named, atoms_spec (ws := wd) B.pre⟩ s.heap [] ⟨hK, hP, hD, va_S.rf, fun q h => Or.inr h⟩
    (fun H locs ls pc u hu hw hd => by
      subst hu
      exact W.vret B.exec B.bytes B.returns (fun t ht hW => ⟨⟨u, rfl, rfl, by rw [ht]; exact hw.2.1, va_K.moved hW.alike hw.1, hw.2.2.1⟩, hw.2.2.2.1.F ht⟩) hw.2.2.2.1.2.2 hd hlk) _ hl
set_option maxHeartbeats 1000000 in
theorem gw_metq {C : String} {r0 : Option Nat} (hy : plainName y.cls = true) (hw : wd = Cond.code y cc maxL (some (.object C)) :: wd') (hn : (lg_sl av).length ≤ maxL)
    (body : ∀ (p : Program) (e : Env) (s : State) (m : MethodId) (args : Array Value) (below : List Frame) (meth : Method) (c : Code) (A : Nat → Prop) (Q : State → Prop), CallFix p m c cc maxL s args wd y.cls → ∀ (H : Heap) (locs : List Loc), gw_W D tys A ws s H locs →
      (∀ (H : Heap) (locs : List Loc) (ls : Array Slot) (pc : Nat) (r : Option Nat) (u : va_W), r = r0 → u = ws0 → gw_W D tys A u s H locs → decode cc pc = .ok (.areturn, 1) → W p l e rm s m args below meth c H locs 0 0 Q (F0 m pc ls [va_rf r])) →
      ∀ ls : Array Slot, lv_has ls maxL (lv_args 0 av) → W p l e rm s m args below meth c H locs 0 0 Q (F0 m 0 ls [])) :
    Met l y wd rm (va_Pc av (gw_P D tys ws sz)) (va_Qq (fun (r : Option Nat) (u : va_W) => r = r0 ∧ u = ws0) (gw_B D tys (va_A ws sz)) (va_A ws sz)) 0 0 (va_A ws sz) := by
  refine Met.ofW (cc := cc) (maxL := maxL) (ret := some (.object C)) hy hw ?_
  intro p e s m args below meth c s₁ B hml hv
  obtain ⟨hargs, hsz, hK, hP, hD0⟩ := hv
  have hl := lv_entry av (n := maxL) hn
  subst hsz
  have hD := hD0.self (sz := s.heap.size)
  have hlk := B.notSynchronized
  rw [show entryFrame m args maxL = F0 m 0 ((lg_sl av ++ List.replicate (maxL - (lg_sl av).length) Slot.unset).toArray) [] by rw [hargs]; exact lg_entry_eq m av maxL]
  exact body p e s m args below meth c (va_A ws s.heap.size) _ ⟨B.exec, B.bytes, hml, findClass_of_methodNamed B.named, atoms_spec (ws := wd) B.pre⟩ s.heap [] ⟨hK, hP, hD, va_S.rf, fun q h => Or.inr h⟩
    (fun H locs ls pc r u hr hu hw hd => by
      subst hr; subst hu
      exact W.aret B.exec B.bytes B.returns (Or.inl ⟨C, rfl⟩) (by cases r with | none => exact Or.inl rfl | some a => exact Or.inr ⟨a, rfl⟩) (fun t ht hW => ⟨⟨r, u, rfl, ⟨rfl, rfl⟩, by rw [ht]; exact hw.2.1, va_K.moved hW.alike hw.1, hw.2.2.1⟩, hw.2.2.2.1.F ht⟩) hw.2.2.2.1.2.2 hd hlk) _ hl
end Enter
section Rows
variable {p : Program} {l : Launch} {e : Env} {R : Room} {s : State} {m : MethodId} {args : Array Value} {below : List Frame} {meth : Method} {c : Code} {H : Heap} {locs : List Loc} {cells slots : Nat} {Q : State → Prop}
variable {cc : ByteArray} {nL : Nat} {Ts : List Cond} {own : String} {D : va_G} {tys : List (ClassId × FieldType)} {A : Nat → Prop} {ws ws0 : va_W} {pc : Nat} {ls : Array Slot} {rest : List Value}
theorem gw_aload_n {ad : Nat → Nat} {o : Option (Fin 8)} (hexec : p.tables.exec = Jvm.exec) (hb : c.code = cc) {k : Fin 4} {i : Nat} (hdg : decode cc pc = .ok (.aload_n k, 1)) (hi : (k : Nat) = i) (hl : ls[i]? = some (.val (va_rf (gw_oa ad o))))
    (kk : W p l e R s m args below meth c H locs cells slots Q (F0 m (pc + 1) ls (va_rf (gw_oa ad o) :: rest))) : W p l e R s m args below meth c H locs cells slots Q (F0 m pc ls rest) := by
  cases o with
  | none => exact lv_aload_nN hexec hb hdg hi hl kk
  | some x => exact lv_aload_n hexec hb hdg hi hl kk
theorem gw_aload {ad : Nat → Nat} {o : Option (Fin 8)} (hexec : p.tables.exec = Jvm.exec) (hb : c.code = cc) {i : Nat} (hdg : decode cc pc = .ok (.aload i, 2)) (hl : ls[i]? = some (.val (va_rf (gw_oa ad o))))
    (kk : W p l e R s m args below meth c H locs cells slots Q (F0 m (pc + 2) ls (va_rf (gw_oa ad o) :: rest))) : W p l e R s m args below meth c H locs cells slots Q (F0 m pc ls rest) := by
  cases o with
  | none => exact lv_aloadN hexec hb hdg hl kk
  | some x => exact lv_aload hexec hb hdg hl kk
theorem gw_astore_n {ad : Nat → Nat} {o : Option (Fin 8)} {lv lv' : List (Nat × Value)} (hexec : p.tables.exec = Jvm.exec) (hb : c.code = cc) {k : Fin 4} {i : Nat} (hdg : decode cc pc = .ok (.astore_n k, 1)) (hi : (k : Nat) = i) (h : lv_has ls nL lv) (hn : i < nL) (hl : (i, va_rf (gw_oa ad o)) :: lv.filter (fun q => !(q.1 == i) && !(q.1 + 1 == i && q.2.category == 2)) = lv')
    (kk : ∀ ls' : Array Slot, lv_has ls' nL lv' → W p l e R s m args below meth c H locs cells slots Q (F0 m (pc + 1) ls' rest)) : W p l e R s m args below meth c H locs cells slots Q (F0 m pc ls (va_rf (gw_oa ad o) :: rest)) := by
  cases o with
  | none => exact lv_astore_nN hexec hb hdg hi h hn hl kk
  | some x => exact lv_astore_n hexec hb hdg hi h hn hl kk
theorem gw_astore {ad : Nat → Nat} {o : Option (Fin 8)} {lv lv' : List (Nat × Value)} (hexec : p.tables.exec = Jvm.exec) (hb : c.code = cc) {i : Nat} (hdg : decode cc pc = .ok (.astore i, 2)) (h : lv_has ls nL lv) (hn : i < nL) (hl : (i, va_rf (gw_oa ad o)) :: lv.filter (fun q => !(q.1 == i) && !(q.1 + 1 == i && q.2.category == 2)) = lv')
    (kk : ∀ ls' : Array Slot, lv_has ls' nL lv' → W p l e R s m args below meth c H locs cells slots Q (F0 m (pc + 2) ls' rest)) : W p l e R s m args below meth c H locs cells slots Q (F0 m pc ls (va_rf (gw_oa ad o) :: rest)) := by
  cases o with
  | none => exact lv_astoreN hexec hb hdg h hn hl kk
  | some x => exact lv_astore hexec hb hdg h hn hl kk
theorem gw_acmp_ne {ad : Nat → Nat} {ox oy : Option (Fin 8)} {off : Int} {tgt : Nat} (hinj : ∀ x y : Fin 8, ad (6 + x.val) = ad (6 + y.val) → x = y) (hexec : p.tables.exec = Jvm.exec) (hb : c.code = cc) (hdg : decode cc pc = .ok (.if_acmp .ne off, 3)) (ht : (pc : Int) + off = (tgt : Int))
    (kt : ¬ ox = oy → W p l e R s m args below meth c H locs cells slots Q (F0 m tgt ls rest)) (kf : ox = oy → W p l e R s m args below meth c H locs cells slots Q (F0 m (pc + 3) ls rest)) : W p l e R s m args below meth c H locs cells slots Q (F0 m pc ls (va_rf (gw_oa ad oy) :: va_rf (gw_oa ad ox) :: rest)) := by
  refine lv_acmp_ne hexec hb hdg ht (fun h => kt (fun q => h (by rw [q]))) (fun h => kf ?_)
  cases ox with
  | none => cases oy with
    | none => rfl
    | some y => cases h
  | some x => cases oy with
    | none => cases h
    | some y => rw [hinj x y (Option.some.inj h)]
theorem gw_acmp_eq {ad : Nat → Nat} {ox oy : Option (Fin 8)} {off : Int} {tgt : Nat} (hinj : ∀ x y : Fin 8, ad (6 + x.val) = ad (6 + y.val) → x = y) (hexec : p.tables.exec = Jvm.exec) (hb : c.code = cc) (hdg : decode cc pc = .ok (.if_acmp .eq off, 3)) (ht : (pc : Int) + off = (tgt : Int))
    (kt : ox = oy → W p l e R s m args below meth c H locs cells slots Q (F0 m tgt ls rest)) (kf : ¬ ox = oy → W p l e R s m args below meth c H locs cells slots Q (F0 m (pc + 3) ls rest)) : W p l e R s m args below meth c H locs cells slots Q (F0 m pc ls (va_rf (gw_oa ad oy) :: va_rf (gw_oa ad ox) :: rest)) := by
  refine lv_acmp_eq hexec hb hdg ht (fun h => kt ?_) (fun h => kf (fun q => h (by rw [q])))
  cases ox with
  | none => cases oy with
    | none => rfl
    | some y => cases h
  | some x => cases oy with
    | none => cases h
    | some y => rw [hinj x y (Option.some.inj h)]
theorem gw_get (S : CallFix p m c cc nL s args Ts own) (hw : gw_W D tys A ws s H locs) {q0 a ci : Nat} {fs : List Value} (he : ws[q0]? = some (a, .inr (ci, fs))) {C : String} {T : u_T} {N : Nat} (hc : vwCl[ci]? = some (C, T, N)) {k : Nat} (hk : k < N) (hin : ∀ w ∈ u_ws C T N, w ∈ Ts) {index : Nat} (hlink : Cond.fieldLink own index (T k).1 (T k).2.1 (T k).2.2.1 ∈ Ts) {v : Value} (hv : fs[k]? = some v) (hdg : decode cc pc = .ok (.getfield index, 3))
    (kk : W p l e R s m args below meth c H locs cells slots Q (F0 m (pc + 3) ls (v :: rest))) : W p l e R s m args below meth c H locs cells slots Q (F0 m pc ls (.ref a :: rest)) :=
  va_get S.1 S.2.1 S.2.2.2.2 hin S.2.2.2.1 hw.1 hw.2.1 q0 he hc k hk (S.2.2.2.2 _ hlink) (fun _ h => h) hv hdg kk
theorem gw_put (S : CallFix p m c cc nL s args Ts own) (hw : gw_W D tys A ws s H locs) {q0 a ci : Nat} {fs : List Value} (he : ws[q0]? = some (a, .inr (ci, fs))) {C : String} {T : u_T} {N : Nat} (hc : vwCl[ci]? = some (C, T, N)) {k : Nat} (hk : k < N) (hin : ∀ w ∈ u_ws C T N, w ∈ Ts) {index : Nat} (hlink : Cond.fieldLink own index (T k).1 (T k).2.1 (T k).2.2.1 ∈ Ts) {ty0 : Nat → FieldType} (hty : ∀ k, k < N → parseFieldDescriptor (T k).2.2.1 = some (ty0 k)) (hnm : ∀ a, a < N → ∀ b, b < N → a ≠ b → (T a).2.1 ≠ (T b).2.1) (hfin : (T k).2.2.2 = false) {ty : FieldType} {v : Value} (hd : parseFieldDescriptor (T k).2.2.1 = some ty) (hn : narrow ty v = v) (hfit : fits ty v = true) (hl : k < fs.length)
    (hset : ws.set q0 (a, .inr (ci, fs.set k v)) = ws0) (hdg : decode cc pc = .ok (.putfield index, 3))
    (kk : ∀ (H1 : Heap) (locs1 : List Loc), gw_W D tys A ws0 s H1 locs1 → W p l e R s m args below meth c H1 locs1 cells slots Q (F0 m (pc + 3) ls rest)) : W p l e R s m args below meth c H locs cells slots Q (F0 m pc ls (v :: .ref a :: rest)) := by
  obtain ⟨hK, hP, hD, hS, hA⟩ := hw
  refine va_put S.1 S.2.1 S.2.2.2.2 hin ty0 hty hnm S.2.2.2.1 hK hP hD hS q0 he hc k hk (S.2.2.2.2 _ hlink) (fun _ h => h) hfin hd hn hfit hl hdg (fun H1 locs1 hP1 hD1 hS1 => ?_)
  rw [hset] at hP1 hD1
  exact kk H1 locs1 ⟨hK, hP1, hD1, hS1, hA⟩
theorem gw_iald (S : CallFix p m c cc nL s args Ts own) (hw : gw_W D tys A ws s H locs) {q0 t0 a n : Nat} {cA : ClassId} {f : Nat → Int32} (he : ws[q0]? = some (a, .inl (cA, n, .inl f)) ∧ tys[t0]? = some (cA, .int)) {i : Int32} (hin : ¬ (i < 0 ∨ n ≤ i.toNatClampNeg)) (hdg : decode cc pc = .ok (.iaload, 1))
    (kk : W p l e R s m args below meth c H locs cells slots Q (F0 m (pc + 1) ls (.int (f i.toNatClampNeg) :: rest))) : W p l e R s m args below meth c H locs cells slots Q (F0 m pc ls (.int i :: .ref a :: rest)) :=
  va_iald S.1 S.2.1 hw.1 hw.2.1 q0 t0 he.1 he.2 hin hdg kk
theorem gw_zald (S : CallFix p m c cc nL s args Ts own) (hw : gw_W D tys A ws s H locs) {q0 t0 a n : Nat} {cA : ClassId} {f : Nat → Int32} (he : ws[q0]? = some (a, .inl (cA, n, .inl f)) ∧ tys[t0]? = some (cA, .boolean)) {i : Int32} (hin : ¬ (i < 0 ∨ n ≤ i.toNatClampNeg)) (hdg : decode cc pc = .ok (.baload, 1))
    (kk : W p l e R s m args below meth c H locs cells slots Q (F0 m (pc + 1) ls (.int (f i.toNatClampNeg) :: rest))) : W p l e R s m args below meth c H locs cells slots Q (F0 m pc ls (.int i :: .ref a :: rest)) :=
  va_zald S.1 S.2.1 hw.1 hw.2.1 q0 t0 he.1 he.2 hin hdg kk
theorem gw_aldq (S : CallFix p m c cc nL s args Ts own) (hw : gw_W D tys A ws s H locs) {q0 t0 a n : Nat} {cA : ClassId} {C : String} {f : Nat → Option Nat} (he : ws[q0]? = some (a, .inl (cA, n, .inr (.inr (.inr (.inr f))))) ∧ tys[t0]? = some (cA, .object C)) {i : Int32} (hin : ¬ (i < 0 ∨ n ≤ i.toNatClampNeg)) (hdg : decode cc pc = .ok (.aaload, 1))
    (kk : W p l e R s m args below meth c H locs cells slots Q (F0 m (pc + 1) ls (va_rf (f i.toNatClampNeg) :: rest))) : W p l e R s m args below meth c H locs cells slots Q (F0 m pc ls (.int i :: .ref a :: rest)) :=
  va_aldq S.1 S.2.1 hw.1 hw.2.1 q0 t0 he.1 he.2 hin hdg kk
theorem gw_iast (S : CallFix p m c cc nL s args Ts own) (hw : gw_W D tys A ws s H locs) {q0 t0 a n : Nat} {cA : ClassId} {f : Nat → Int32} (he : ws[q0]? = some (a, .inl (cA, n, .inl f)) ∧ tys[t0]? = some (cA, .int)) {i x : Int32} (hin : ¬ (i < 0 ∨ n ≤ i.toNatClampNeg)) (hset : ws.set q0 (a, .inl (cA, n, .inl (upd f i.toNatClampNeg x))) = ws0) (hdg : decode cc pc = .ok (.iastore, 1))
    (kk : ∀ (H1 : Heap) (locs1 : List Loc), gw_W D tys A ws0 s H1 locs1 → W p l e R s m args below meth c H1 locs1 cells slots Q (F0 m (pc + 1) ls rest)) : W p l e R s m args below meth c H locs cells slots Q (F0 m pc ls (.int x :: .int i :: .ref a :: rest)) := by
  obtain ⟨hK, hP, hD, hS, hA⟩ := hw
  refine va_iast S.1 S.2.1 hK hP hD hS q0 t0 he.1 he.2 hin hdg (fun H1 locs1 hP1 hD1 hS1 => ?_)
  rw [hset] at hP1 hD1
  exact kk H1 locs1 ⟨hK, hP1, hD1, hS1, hA⟩
theorem gw_zast (S : CallFix p m c cc nL s args Ts own) (hw : gw_W D tys A ws s H locs) {q0 t0 a n : Nat} {cA : ClassId} {f : Nat → Int32} (he : ws[q0]? = some (a, .inl (cA, n, .inl f)) ∧ tys[t0]? = some (cA, .boolean)) {i x : Int32} (hin : ¬ (i < 0 ∨ n ≤ i.toNatClampNeg)) (hnar : vp_nar .boolean x = x) (hset : ws.set q0 (a, .inl (cA, n, .inl (upd f i.toNatClampNeg x))) = ws0) (hdg : decode cc pc = .ok (.bastore, 1))
    (kk : ∀ (H1 : Heap) (locs1 : List Loc), gw_W D tys A ws0 s H1 locs1 → W p l e R s m args below meth c H1 locs1 cells slots Q (F0 m (pc + 1) ls rest)) : W p l e R s m args below meth c H locs cells slots Q (F0 m pc ls (.int x :: .int i :: .ref a :: rest)) := by
  obtain ⟨hK, hP, hD, hS, hA⟩ := hw
  refine va_zast S.1 S.2.1 hK hP hD hS q0 t0 he.1 he.2 hin hdg (fun H1 locs1 hP1 hD1 hS1 => ?_)
  rw [hnar, hset] at hP1 hD1
  exact kk H1 locs1 ⟨hK, hP1, hD1, hS1, hA⟩
theorem gw_astq (S : CallFix p m c cc nL s args Ts own) (hw : gw_W D tys A ws s H locs) {q0 t0 a n qk ci v : Nat} {cA : ClassId} {r : vw_C} {vs : List Value} {f : Nat → Option Nat} (he : ws[q0]? = some (a, .inl (cA, n, .inr (.inr (.inr (.inr f))))) ∧ tys[t0]? = some (cA, .object r.1)) (hv : ws[qk]? = some (v, .inr (ci, vs))) (hc : vwCl[ci]? = some r) {i : Int32} (hin : ¬ (i < 0 ∨ n ≤ i.toNatClampNeg)) (hset : ws.set q0 (a, .inl (cA, n, .inr (.inr (.inr (.inr (va_up f i.toNatClampNeg (some v))))))) = ws0) (hdg : decode cc pc = .ok (.aastore, 1))
    (kk : ∀ (H1 : Heap) (locs1 : List Loc), gw_W D tys A ws0 s H1 locs1 → W p l e R s m args below meth c H1 locs1 cells slots Q (F0 m (pc + 1) ls rest)) : W p l e R s m args below meth c H locs cells slots Q (F0 m pc ls (.ref v :: .int i :: .ref a :: rest)) := by
  obtain ⟨hK, hP, hD, hS, hA⟩ := hw
  refine va_astq S.1 S.2.1 hK hP hD hS q0 t0 qk ci he.1 he.2 hv hc hin hdg (fun H1 locs1 hP1 hD1 hS1 => ?_)
  rw [hset] at hP1 hD1
  exact kk H1 locs1 ⟨hK, hP1, hD1, hS1, hA⟩
theorem gw_calli {y : MethodName} {wd : List Cond} {rm : Room} {C : String} {index maxL n b q0 ci N : Nat} {bytes : ByteArray} {ret : Option FieldType} {As : List Value} {r0 : Int32} {fs : List Value} {T : u_T} {st0 : List Value} (S : CallFix p m c cc nL s args Ts own) (hw : gw_W D tys A ws s H locs) (hM : gw_Ci l y wd rm D tys ws (.ref b :: As) r0 ws0) (cw : CallW R s args own C index y bytes maxL ret wd rm 0 0 n) (he : ws[q0]? = some (b, .inr (ci, fs))) (hc : vwCl[ci]? = some (C, T, N)) (hn : As.length = n) (hsize : ls.size = nL) (hst : st0 = As.reverse ++ .ref b :: rest) (hrest : (rest.map fun v => v.category).sum ≤ 8) (hdg : decode cc pc = .ok (.invokevirtual index, 3))
    (kk : ∀ (H1 : Heap) (locs1 : List Loc), gw_W D tys A ws0 s H1 locs1 → W p l e R s m args below meth c H1 locs1 0 0 Q (F0 m (pc + 3) ls (.int r0 :: rest))) : W p l e R s m args below meth c H locs 0 0 Q (F0 m pc ls st0) := by
  have hF := gw_free hw
  obtain ⟨hK, hP, hD, hS, hA⟩ := hw
  refine va_calli (va_runV S (hM H.size) cw ⟨gw_blind, va_recv hK hP hc he, fun U hU hW => ⟨rfl, by rw [hU], va_K.moved hW.alike hK, by rw [hU]; exact hP, hD.weaken (fun _ _ _ _ => trivial)⟩⟩ rfl hn hsize hst (lv_room hrest) hdg ⟨Nat.zero_le _, Nat.zero_le _⟩) hS (fun q _ h => hF q h) hF (fun r u t H1 locs1 ht hvm hp hB hz hk hS1 => ?_)
  obtain ⟨rfl, rfl⟩ := hp
  exact kk H1 locs1 ⟨hK, by rw [← ht]; exact hB.1, hB.2.2.weaken (fun _ q _ h => hF q.1 h), hS1, hA⟩
theorem gw_callv {y : MethodName} {wd : List Cond} {rm : Room} {C : String} {index maxL n b q0 ci N : Nat} {bytes : ByteArray} {ret : Option FieldType} {As : List Value} {fs : List Value} {T : u_T} {st0 : List Value} (S : CallFix p m c cc nL s args Ts own) (hw : gw_W D tys A ws s H locs) (hM : gw_Cv l y wd rm D tys ws (.ref b :: As) ws0) (cw : CallW R s args own C index y bytes maxL ret wd rm 0 0 n) (he : ws[q0]? = some (b, .inr (ci, fs))) (hc : vwCl[ci]? = some (C, T, N)) (hn : As.length = n) (hsize : ls.size = nL) (hst : st0 = As.reverse ++ .ref b :: rest) (hrest : (rest.map fun v => v.category).sum ≤ 8) (hdg : decode cc pc = .ok (.invokevirtual index, 3))
    (kk : ∀ (H1 : Heap) (locs1 : List Loc), gw_W D tys A ws0 s H1 locs1 → W p l e R s m args below meth c H1 locs1 0 0 Q (F0 m (pc + 3) ls rest)) : W p l e R s m args below meth c H locs 0 0 Q (F0 m pc ls st0) := by
  have hF := gw_free hw
  obtain ⟨hK, hP, hD, hS, hA⟩ := hw
  refine va_callv (va_runV S (hM H.size) cw ⟨gw_blind, va_recv hK hP hc he, fun U hU hW => ⟨rfl, by rw [hU], va_K.moved hW.alike hK, by rw [hU]; exact hP, hD.weaken (fun _ _ _ _ => trivial)⟩⟩ rfl hn hsize hst (lv_room hrest) hdg ⟨Nat.zero_le _, Nat.zero_le _⟩) hS (fun q _ h => hF q h) hF (fun u t H1 locs1 ht hvm hp hB hz hk hS1 => ?_)
  obtain rfl := hp
  exact kk H1 locs1 ⟨hK, by rw [← ht]; exact hB.1, hB.2.2.weaken (fun _ q _ h => hF q.1 h), hS1, hA⟩
theorem gw_callq {y : MethodName} {wd : List Cond} {rm : Room} {C : String} {index maxL n b q0 ci N : Nat} {bytes : ByteArray} {ret : Option FieldType} {As : List Value} {r0 : Option Nat} {fs : List Value} {T : u_T} {st0 : List Value} (S : CallFix p m c cc nL s args Ts own) (hw : gw_W D tys A ws s H locs) (hM : gw_Cq l y wd rm D tys ws (.ref b :: As) r0 ws0) (cw : CallW R s args own C index y bytes maxL ret wd rm 0 0 n) (he : ws[q0]? = some (b, .inr (ci, fs))) (hc : vwCl[ci]? = some (C, T, N)) (hn : As.length = n) (hsize : ls.size = nL) (hst : st0 = As.reverse ++ .ref b :: rest) (hrest : (rest.map fun v => v.category).sum ≤ 8) (hdg : decode cc pc = .ok (.invokevirtual index, 3))
    (kk : ∀ (H1 : Heap) (locs1 : List Loc), gw_W D tys A ws0 s H1 locs1 → W p l e R s m args below meth c H1 locs1 0 0 Q (F0 m (pc + 3) ls (va_rf r0 :: rest))) : W p l e R s m args below meth c H locs 0 0 Q (F0 m pc ls st0) := by
  have hF := gw_free hw
  obtain ⟨hK, hP, hD, hS, hA⟩ := hw
  refine va_callq (va_runV S (hM H.size) cw ⟨gw_blind, va_recv hK hP hc he, fun U hU hW => ⟨rfl, by rw [hU], va_K.moved hW.alike hK, by rw [hU]; exact hP, hD.weaken (fun _ _ _ _ => trivial)⟩⟩ rfl hn hsize hst (lv_room hrest) hdg ⟨Nat.zero_le _, Nat.zero_le _⟩) hS (fun q _ h => hF q h) hF (fun r u t H1 locs1 ht hvm hp hB hz hk hS1 => ?_)
  obtain ⟨rfl, rfl⟩ := hp
  exact kk H1 locs1 ⟨hK, by rw [← ht]; exact hB.1, hB.2.2.weaken (fun _ q _ h => hF q.1 h), hS1, hA⟩
end Rows
theorem gw_toInt {x : Int32} {k : Int32} (h : ¬ x = k) : x.toInt ≠ k.toInt := fun q => h (Int32.toInt_inj.mp q)
theorem gw_out6 {x : Int32} (h0 : ¬ x = 0) (h1 : ¬ x = 1) (h2 : ¬ x = 2) (h3 : ¬ x = 3) (h4 : ¬ x = 4) (h5 : ¬ x = 5) : x.toInt < 0 ∨ 5 < x.toInt := by
  have a0 : x.toInt ≠ 0 := gw_toInt h0
  have a1 : x.toInt ≠ 1 := gw_toInt h1
  have a2 : x.toInt ≠ 2 := gw_toInt h2
  have a3 : x.toInt ≠ 3 := gw_toInt h3
  have a4 : x.toInt ≠ 4 := gw_toInt h4
  have a5 : x.toInt ≠ 5 := gw_toInt h5
  omega
end
section
/-! PART 02: what a state IS. Cells have NUMBERS; a function ad lays them at addresses; nothing is made after the constructors. -/
/-- a number below 8, of any number -/
def fin8 (k : Nat) : Fin 8 := ⟨k % 8, Nat.mod_lt k (by decide)⟩
theorem fin8_val (x : Fin 8) : fin8 x.val = x := Fin.ext (Nat.mod_eq_of_lt x.isLt)
theorem fin8_of {k : Nat} (h : k < 8) : (fin8 k).val = k := Nat.mod_eq_of_lt h
/-- the class's memory: (kind 0 Task, 1 Jobs, 2 segments, 3 arrivals, 4 noted; task; place), (0 TaskSet, 1 Analysis, 2 Kernel; place), ranked, running, paused -/
abbrev MX : Type := (Nat → Fin 8 → Nat → Int32) × (Nat → Nat → Int32) × (Nat → Fin 8) × Option (Fin 8) × Option (Fin 8)
def sF (M : MX) (d : Nat) (x : Fin 8) (k : Nat) (v : Int32) : MX := (fun a b c => if a = d ∧ b = x ∧ c = k then v else M.1 a b c, M.2)
def sG (M : MX) (d k : Nat) (v : Int32) : MX := (M.1, fun a c => if a = d ∧ c = k then v else M.2.1 a c, M.2.2)
def sR (M : MX) (k : Nat) (x : Fin 8) : MX := (M.1, M.2.1, fun j => if j = k then x else M.2.2.1 j, M.2.2.2)
def sU (M : MX) (o : Option (Fin 8)) : MX := (M.1, M.2.1, M.2.2.1, o, M.2.2.2.2)
def sP (M : MX) (o : Option (Fin 8)) : MX := (M.1, M.2.1, M.2.2.1, M.2.2.2.1, o)
/-- the reference's memory: (array; place), (field) -/
abbrev MY : Type := (Nat → Nat → Int32) × (Nat → Int32)
def sA (M : MY) (d k : Nat) (v : Int32) : MY := (fun a c => if a = d ∧ c = k then v else M.1 a c, M.2)
def sV (M : MY) (k : Nat) (v : Int32) : MY := (M.1, fun c => if c = k then v else M.2 c)
/-- cells by their numbers -/
def wl (ad : Nat → Nat) (N : Nat) (C : Nat → va_E) : va_W := (List.range N).map (fun c => (ad c, C c))
theorem wl_at {ad : Nat → Nat} {N : Nat} {C : Nat → va_E} {c : Nat} (h : c < N) : (wl ad N C)[c]? = some (ad c, C c) := by
  unfold wl
  rw [List.getElem?_map, List.getElem?_range h]
  rfl
theorem wl_in {ad : Nat → Nat} {N : Nat} {C : Nat → va_E} {k : Nat} {q : Nat × va_E} (h : (wl ad N C)[k]? = some q) : k < N ∧ q = (ad k, C k) := by
  have hk : k < N := by
    have := (List.getElem?_eq_some_iff.mp h).1
    simpa [wl] using this
  rw [wl_at hk] at h
  exact ⟨hk, (Option.some.inj h).symm⟩
theorem wl_set {ad : Nat → Nat} {N : Nat} {C C' : Nat → va_E} {c : Nat} {e : va_E} (he : C' c = e) (ho : ∀ j, j < N → j ≠ c → C' j = C j) : (wl ad N C).set c (ad c, e) = wl ad N C' := by
  refine List.ext_getElem? (fun k => ?_)
  by_cases hk : k < N
  · by_cases hc : k = c
    · subst hc
      rw [List.getElem?_set_self (by simpa [wl] using hk), wl_at hk, he]
    · rw [List.getElem?_set_ne (fun q => hc q.symm), wl_at hk, wl_at hk, ho k hk hc]
  · rw [List.getElem?_eq_none (by simpa [wl] using (Nat.not_lt.mp hk)), List.getElem?_eq_none (by simpa [wl] using (Nat.not_lt.mp hk))]
def fO (ad : Nat → Nat) (M : MX) : List Value := [.ref (ad 1), .ref (ad 4), .ref (ad 5)]
def fS (ad : Nat → Nat) (M : MX) : List Value := [.ref (ad 2), .ref (ad 3), .int (M.2.1 0 2)]
def fA (ad : Nat → Nat) (M : MX) : List Value := [.ref (ad 1), .int (M.2.1 1 1), .int (M.2.1 1 2)]
def fK (ad : Nat → Nat) (M : MX) : List Value := [.ref (ad 1), .int (M.2.1 2 1), .int (M.2.1 2 2), .int (M.2.1 2 3), va_rf (gw_oa ad M.2.2.2.1), va_rf (gw_oa ad M.2.2.2.2)]
def fT (ad : Nat → Nat) (M : MX) (x : Fin 8) : List Value := [.int (M.1 0 x 0), .ref (ad (14 + x.val)), .ref (ad (22 + x.val)), .int (M.1 0 x 3), .int (M.1 0 x 4), .int (M.1 0 x 5), .int (M.1 0 x 6), .int (M.1 0 x 7), .int (M.1 0 x 8), .int (M.1 0 x 9), .int (M.1 0 x 10), .int (M.1 0 x 11), .int (M.1 0 x 12)]
def fJ (ad : Nat → Nat) (M : MX) (x : Fin 8) : List Value := [.ref (ad (30 + x.val)), .ref (ad (38 + x.val)), .int (M.1 1 x 2), .int (M.1 1 x 3), .int (M.1 1 x 4), .int (M.1 1 x 5), .int (M.1 1 x 6), .int (M.1 1 x 7)]
def cX (cI cT : ClassId) (ad : Nat → Nat) (M : MX) (c : Nat) : va_E :=
  if c = 0 then .inr (5, fO ad M)
  else if c = 1 then .inr (4, fS ad M)
  else if c = 2 then .inl (cT, 8, .inr (.inr (.inr (.inr (fun k => some (ad (6 + (fin8 k).val)))))))
  else if c = 3 then .inl (cT, 8, .inr (.inr (.inr (.inr (fun k => some (ad (6 + (M.2.2.1 k).val)))))))
  else if c = 4 then .inr (0, fA ad M)
  else if c = 5 then .inr (2, fK ad M)
  else if c < 14 then .inr (3, fT ad M (fin8 (c - 6)))
  else if c < 22 then .inr (1, fJ ad M (fin8 (c - 14)))
  else if c < 30 then .inl (cI, 8, .inl (M.1 2 (fin8 (c - 22))))
  else if c < 38 then .inl (cI, 9, .inl (M.1 3 (fin8 (c - 30))))
  else .inl (cI, 200, .inl (M.1 4 (fin8 (c - 38))))
def wX (cI cT : ClassId) (ad : Nat → Nat) (M : MX) : va_W := wl ad 46 (cX cI cT ad M)
abbrev tyX (cI cT : ClassId) : List (ClassId × FieldType) := [(cI, .int), (cT, .object "SegmentKernel$Task")]
section AtX
variable {cI cT : ClassId} {ad : Nat → Nat} {M : MX}
theorem xa_O : (wX cI cT ad M)[0]? = some (ad 0, .inr (5, fO ad M)) := wl_at (by decide)
theorem xa_S : (wX cI cT ad M)[1]? = some (ad 1, .inr (4, fS ad M)) := wl_at (by decide)
theorem xa_A : (wX cI cT ad M)[4]? = some (ad 4, .inr (0, fA ad M)) := wl_at (by decide)
theorem xa_K : (wX cI cT ad M)[5]? = some (ad 5, .inr (2, fK ad M)) := wl_at (by decide)
theorem xa_by : (wX cI cT ad M)[2]? = some (ad 2, .inl (cT, 8, .inr (.inr (.inr (.inr (fun k => some (ad (6 + (fin8 k).val)))))))) := wl_at (by decide)
theorem xa_rk : (wX cI cT ad M)[3]? = some (ad 3, .inl (cT, 8, .inr (.inr (.inr (.inr (fun k => some (ad (6 + (M.2.2.1 k).val)))))))) := wl_at (by decide)
theorem xc_T (x : Fin 8) : cX cI cT ad M (6 + x.val) = .inr (3, fT ad M x) := by
  have h := x.isLt
  unfold cX
  rw [if_neg (by omega : ¬ 6 + x.val = 0), if_neg (by omega : ¬ 6 + x.val = 1), if_neg (by omega : ¬ 6 + x.val = 2), if_neg (by omega : ¬ 6 + x.val = 3), if_neg (by omega : ¬ 6 + x.val = 4), if_neg (by omega : ¬ 6 + x.val = 5), if_pos (by omega : 6 + x.val < 14), Nat.add_sub_cancel_left, fin8_val]
theorem xa_T (x : Fin 8) : (wX cI cT ad M)[6 + x.val]? = some (ad (6 + x.val), .inr (3, fT ad M x)) := by
  have h := x.isLt
  unfold wX
  rw [wl_at (by omega), xc_T]
theorem xc_J (x : Fin 8) : cX cI cT ad M (14 + x.val) = .inr (1, fJ ad M x) := by
  have h := x.isLt
  unfold cX
  rw [if_neg (by omega : ¬ 14 + x.val = 0), if_neg (by omega : ¬ 14 + x.val = 1), if_neg (by omega : ¬ 14 + x.val = 2), if_neg (by omega : ¬ 14 + x.val = 3), if_neg (by omega : ¬ 14 + x.val = 4), if_neg (by omega : ¬ 14 + x.val = 5), if_neg (by omega : ¬ 14 + x.val < 14), if_pos (by omega : 14 + x.val < 22), Nat.add_sub_cancel_left, fin8_val]
theorem xa_J (x : Fin 8) : (wX cI cT ad M)[14 + x.val]? = some (ad (14 + x.val), .inr (1, fJ ad M x)) := by
  have h := x.isLt
  unfold wX
  rw [wl_at (by omega), xc_J]
theorem xc_sg (x : Fin 8) : cX cI cT ad M (22 + x.val) = .inl (cI, 8, .inl (M.1 2 x)) := by
  have h := x.isLt
  unfold cX
  rw [if_neg (by omega : ¬ 22 + x.val = 0), if_neg (by omega : ¬ 22 + x.val = 1), if_neg (by omega : ¬ 22 + x.val = 2), if_neg (by omega : ¬ 22 + x.val = 3), if_neg (by omega : ¬ 22 + x.val = 4), if_neg (by omega : ¬ 22 + x.val = 5), if_neg (by omega : ¬ 22 + x.val < 14), if_neg (by omega : ¬ 22 + x.val < 22), if_pos (by omega : 22 + x.val < 30), Nat.add_sub_cancel_left, fin8_val]
theorem xa_sg (x : Fin 8) : (wX cI cT ad M)[22 + x.val]? = some (ad (22 + x.val), .inl (cI, 8, .inl (M.1 2 x))) := by
  have h := x.isLt
  unfold wX
  rw [wl_at (by omega), xc_sg]
theorem xc_ar (x : Fin 8) : cX cI cT ad M (30 + x.val) = .inl (cI, 9, .inl (M.1 3 x)) := by
  have h := x.isLt
  unfold cX
  rw [if_neg (by omega : ¬ 30 + x.val = 0), if_neg (by omega : ¬ 30 + x.val = 1), if_neg (by omega : ¬ 30 + x.val = 2), if_neg (by omega : ¬ 30 + x.val = 3), if_neg (by omega : ¬ 30 + x.val = 4), if_neg (by omega : ¬ 30 + x.val = 5), if_neg (by omega : ¬ 30 + x.val < 14), if_neg (by omega : ¬ 30 + x.val < 22), if_neg (by omega : ¬ 30 + x.val < 30), if_pos (by omega : 30 + x.val < 38), Nat.add_sub_cancel_left, fin8_val]
theorem xa_ar (x : Fin 8) : (wX cI cT ad M)[30 + x.val]? = some (ad (30 + x.val), .inl (cI, 9, .inl (M.1 3 x))) := by
  have h := x.isLt
  unfold wX
  rw [wl_at (by omega), xc_ar]
theorem xc_no (x : Fin 8) : cX cI cT ad M (38 + x.val) = .inl (cI, 200, .inl (M.1 4 x)) := by
  have h := x.isLt
  unfold cX
  rw [if_neg (by omega : ¬ 38 + x.val = 0), if_neg (by omega : ¬ 38 + x.val = 1), if_neg (by omega : ¬ 38 + x.val = 2), if_neg (by omega : ¬ 38 + x.val = 3), if_neg (by omega : ¬ 38 + x.val = 4), if_neg (by omega : ¬ 38 + x.val = 5), if_neg (by omega : ¬ 38 + x.val < 14), if_neg (by omega : ¬ 38 + x.val < 22), if_neg (by omega : ¬ 38 + x.val < 30), if_neg (by omega : ¬ 38 + x.val < 38), Nat.add_sub_cancel_left, fin8_val]
theorem xa_no (x : Fin 8) : (wX cI cT ad M)[38 + x.val]? = some (ad (38 + x.val), .inl (cI, 200, .inl (M.1 4 x))) := by
  have h := x.isLt
  unfold wX
  rw [wl_at (by omega), xc_no]
end AtX
section SetX
variable {cI cT : ClassId} {ad : Nat → Nat} {M M' : MX}
theorem xj_of {b j : Nat} (h1 : b ≤ j) (h2 : j < b + 8) : j = b + (fin8 (j - b)).val := by
  rw [fin8_of (by omega)]; omega
theorem xj_ne {b j : Nat} {x : Fin 8} (hne : j ≠ b + x.val) (h1 : b ≤ j) (h2 : j < b + 8) : ¬ fin8 (j - b) = x := fun q => hne (by rw [← q]; exact xj_of h1 h2)
theorem cX_of {j : Nat} (hj : j < 46) (hO : j = 0 → fO ad M = fO ad M') (hS : j = 1 → fS ad M = fS ad M') (hR : j = 3 → M.2.2.1 = M'.2.2.1) (hA : j = 4 → fA ad M = fA ad M') (hK : j = 5 → fK ad M = fK ad M')
    (hT : 6 ≤ j → j < 14 → fT ad M (fin8 (j - 6)) = fT ad M' (fin8 (j - 6))) (hJ : 14 ≤ j → j < 22 → fJ ad M (fin8 (j - 14)) = fJ ad M' (fin8 (j - 14)))
    (h2 : 22 ≤ j → j < 30 → M.1 2 (fin8 (j - 22)) = M'.1 2 (fin8 (j - 22))) (h3 : 30 ≤ j → j < 38 → M.1 3 (fin8 (j - 30)) = M'.1 3 (fin8 (j - 30))) (h4 : 38 ≤ j → j < 46 → M.1 4 (fin8 (j - 38)) = M'.1 4 (fin8 (j - 38))) : cX cI cT ad M j = cX cI cT ad M' j := by
  unfold cX
  by_cases c0 : j = 0
  · rw [if_pos c0, if_pos c0, hO c0]
  rw [if_neg c0, if_neg c0]
  by_cases c1 : j = 1
  · rw [if_pos c1, if_pos c1, hS c1]
  rw [if_neg c1, if_neg c1]
  by_cases c2 : j = 2
  · rw [if_pos c2, if_pos c2]
  rw [if_neg c2, if_neg c2]
  by_cases c3 : j = 3
  · rw [if_pos c3, if_pos c3, hR c3]
  rw [if_neg c3, if_neg c3]
  by_cases c4 : j = 4
  · rw [if_pos c4, if_pos c4, hA c4]
  rw [if_neg c4, if_neg c4]
  by_cases c5 : j = 5
  · rw [if_pos c5, if_pos c5, hK c5]
  rw [if_neg c5, if_neg c5]
  by_cases c6 : j < 14
  · rw [if_pos c6, if_pos c6, hT (by omega) c6]
  rw [if_neg c6, if_neg c6]
  by_cases c7 : j < 22
  · rw [if_pos c7, if_pos c7, hJ (by omega) c7]
  rw [if_neg c7, if_neg c7]
  by_cases c8 : j < 30
  · rw [if_pos c8, if_pos c8, h2 (by omega) c8]
  rw [if_neg c8, if_neg c8]
  by_cases c9 : j < 38
  · rw [if_pos c9, if_pos c9, h3 (by omega) c9]
  rw [if_neg c9, if_neg c9, h4 (by omega) hj]
theorem xs_T (x : Fin 8) (k : Nat) (v : Int32) (hk : k = 0 ∨ k = 3 ∨ k = 4 ∨ k = 5 ∨ k = 6 ∨ k = 7 ∨ k = 8 ∨ k = 9 ∨ k = 10 ∨ k = 11 ∨ k = 12) : (wX cI cT ad M).set (6 + x.val) (ad (6 + x.val), .inr (3, (fT ad M x).set k (.int v))) = wX cI cT ad (sF M 0 x k v) := by
  refine wl_set ?_ (fun j hj hne => ?_)
  · rw [xc_T]
    refine congrArg (fun z => Sum.inr (3, z)) ?_
    rcases hk with rfl | rfl | rfl | rfl | rfl | rfl | rfl | rfl | rfl | rfl | rfl <;> simp [fT, sF]
  · exact cX_of hj (fun _ => rfl) (fun _ => rfl) (fun _ => rfl) (fun _ => rfl) (fun _ => rfl) (fun h1 h2 => by simp [fT, sF, xj_ne hne h1 h2]) (fun _ _ => by simp [fJ, sF, sG, sR, sU, sP]) (fun _ _ => by funext a; simp [sF, sG, sR, sU, sP]) (fun _ _ => by funext a; simp [sF, sG, sR, sU, sP]) (fun _ _ => by funext a; simp [sF, sG, sR, sU, sP])
theorem xs_J (x : Fin 8) (k : Nat) (v : Int32) (hk : k = 2 ∨ k = 3 ∨ k = 4 ∨ k = 5 ∨ k = 6 ∨ k = 7) : (wX cI cT ad M).set (14 + x.val) (ad (14 + x.val), .inr (1, (fJ ad M x).set k (.int v))) = wX cI cT ad (sF M 1 x k v) := by
  refine wl_set ?_ (fun j hj hne => ?_)
  · rw [xc_J]
    refine congrArg (fun z => Sum.inr (1, z)) ?_
    rcases hk with rfl | rfl | rfl | rfl | rfl | rfl <;> simp [fJ, sF]
  · exact cX_of hj (fun _ => rfl) (fun _ => rfl) (fun _ => rfl) (fun _ => rfl) (fun _ => rfl) (fun _ _ => by simp [fT, sF, sG, sR, sU, sP]) (fun h1 h2 => by simp [fJ, sF, xj_ne hne h1 h2]) (fun _ _ => by funext a; simp [sF, sG, sR, sU, sP]) (fun _ _ => by funext a; simp [sF, sG, sR, sU, sP]) (fun _ _ => by funext a; simp [sF, sG, sR, sU, sP])
theorem xs_sg (x : Fin 8) (i : Nat) (v : Int32) : (wX cI cT ad M).set (22 + x.val) (ad (22 + x.val), .inl (cI, 8, .inl (upd (M.1 2 x) i v))) = wX cI cT ad (sF M 2 x i v) := by
  refine wl_set ?_ (fun j hj hne => ?_)
  · rw [xc_sg]
    refine congrArg (fun z => Sum.inl (cI, 8, Sum.inl z)) ?_
    funext a
    simp [sF, upd]
  · exact cX_of hj (fun _ => rfl) (fun _ => rfl) (fun _ => rfl) (fun _ => rfl) (fun _ => rfl) (fun _ _ => by simp [fT, sF, sG, sR, sU, sP]) (fun _ _ => by simp [fJ, sF, sG, sR, sU, sP]) (fun h1 h2 => by funext a; simp [sF, xj_ne hne h1 h2]) (fun _ _ => by funext a; simp [sF, sG, sR, sU, sP]) (fun _ _ => by funext a; simp [sF, sG, sR, sU, sP])
theorem xs_ar (x : Fin 8) (i : Nat) (v : Int32) : (wX cI cT ad M).set (30 + x.val) (ad (30 + x.val), .inl (cI, 9, .inl (upd (M.1 3 x) i v))) = wX cI cT ad (sF M 3 x i v) := by
  refine wl_set ?_ (fun j hj hne => ?_)
  · rw [xc_ar]
    refine congrArg (fun z => Sum.inl (cI, 9, Sum.inl z)) ?_
    funext a
    simp [sF, upd]
  · exact cX_of hj (fun _ => rfl) (fun _ => rfl) (fun _ => rfl) (fun _ => rfl) (fun _ => rfl) (fun _ _ => by simp [fT, sF, sG, sR, sU, sP]) (fun _ _ => by simp [fJ, sF, sG, sR, sU, sP]) (fun _ _ => by funext a; simp [sF, sG, sR, sU, sP]) (fun h1 h2 => by funext a; simp [sF, xj_ne hne h1 h2]) (fun _ _ => by funext a; simp [sF, sG, sR, sU, sP])
theorem xs_no (x : Fin 8) (i : Nat) (v : Int32) : (wX cI cT ad M).set (38 + x.val) (ad (38 + x.val), .inl (cI, 200, .inl (upd (M.1 4 x) i v))) = wX cI cT ad (sF M 4 x i v) := by
  refine wl_set ?_ (fun j hj hne => ?_)
  · rw [xc_no]
    refine congrArg (fun z => Sum.inl (cI, 200, Sum.inl z)) ?_
    funext a
    simp [sF, upd]
  · exact cX_of hj (fun _ => rfl) (fun _ => rfl) (fun _ => rfl) (fun _ => rfl) (fun _ => rfl) (fun _ _ => by simp [fT, sF, sG, sR, sU, sP]) (fun _ _ => by simp [fJ, sF, sG, sR, sU, sP]) (fun _ _ => by funext a; simp [sF, sG, sR, sU, sP]) (fun _ _ => by funext a; simp [sF, sG, sR, sU, sP]) (fun h1 h2 => by funext a; simp [sF, xj_ne hne h1 h2])
theorem xs_S (k : Nat) (v : Int32) (hk : k = 2) : (wX cI cT ad M).set 1 (ad 1, .inr (4, (fS ad M).set k (.int v))) = wX cI cT ad (sG M 0 k v) := by
  refine wl_set ?_ (fun j hj hne => ?_)
  · refine congrArg (fun z => Sum.inr (4, z)) ?_
    rcases hk with rfl <;> simp [fS, sG]
  · exact cX_of hj (fun _ => rfl) (fun q => absurd q hne) (fun _ => rfl) (fun _ => by simp [fA, sG]) (fun _ => by simp [fK, sG]) (fun _ _ => by simp [fT, sF, sG, sR, sU, sP]) (fun _ _ => by simp [fJ, sF, sG, sR, sU, sP]) (fun _ _ => by funext a; simp [sF, sG, sR, sU, sP]) (fun _ _ => by funext a; simp [sF, sG, sR, sU, sP]) (fun _ _ => by funext a; simp [sF, sG, sR, sU, sP])
theorem xs_A (k : Nat) (v : Int32) (hk : k = 1 ∨ k = 2) : (wX cI cT ad M).set 4 (ad 4, .inr (0, (fA ad M).set k (.int v))) = wX cI cT ad (sG M 1 k v) := by
  refine wl_set ?_ (fun j hj hne => ?_)
  · refine congrArg (fun z => Sum.inr (0, z)) ?_
    rcases hk with rfl | rfl <;> simp [fA, sG]
  · exact cX_of hj (fun _ => rfl) (fun _ => by simp [fS, sG]) (fun _ => rfl) (fun q => absurd q hne) (fun _ => by simp [fK, sG]) (fun _ _ => by simp [fT, sF, sG, sR, sU, sP]) (fun _ _ => by simp [fJ, sF, sG, sR, sU, sP]) (fun _ _ => by funext a; simp [sF, sG, sR, sU, sP]) (fun _ _ => by funext a; simp [sF, sG, sR, sU, sP]) (fun _ _ => by funext a; simp [sF, sG, sR, sU, sP])
theorem xs_K (k : Nat) (v : Int32) (hk : k = 1 ∨ k = 2 ∨ k = 3) : (wX cI cT ad M).set 5 (ad 5, .inr (2, (fK ad M).set k (.int v))) = wX cI cT ad (sG M 2 k v) := by
  refine wl_set ?_ (fun j hj hne => ?_)
  · refine congrArg (fun z => Sum.inr (2, z)) ?_
    rcases hk with rfl | rfl | rfl <;> simp [fK, sG]
  · exact cX_of hj (fun _ => rfl) (fun _ => by simp [fS, sG]) (fun _ => rfl) (fun _ => by simp [fA, sG]) (fun q => absurd q hne) (fun _ _ => by simp [fT, sF, sG, sR, sU, sP]) (fun _ _ => by simp [fJ, sF, sG, sR, sU, sP]) (fun _ _ => by funext a; simp [sF, sG, sR, sU, sP]) (fun _ _ => by funext a; simp [sF, sG, sR, sU, sP]) (fun _ _ => by funext a; simp [sF, sG, sR, sU, sP])
theorem xs_U (o : Option (Fin 8)) : (wX cI cT ad M).set 5 (ad 5, .inr (2, (fK ad M).set 4 (va_rf (gw_oa ad o)))) = wX cI cT ad (sU M o) := by
  refine wl_set ?_ (fun j hj hne => ?_)
  · rfl
  · exact cX_of hj (fun _ => rfl) (fun _ => rfl) (fun _ => rfl) (fun _ => rfl) (fun q => absurd q hne) (fun _ _ => by simp [fT, sF, sG, sR, sU, sP]) (fun _ _ => by simp [fJ, sF, sG, sR, sU, sP]) (fun _ _ => by funext a; simp [sF, sG, sR, sU, sP]) (fun _ _ => by funext a; simp [sF, sG, sR, sU, sP]) (fun _ _ => by funext a; simp [sF, sG, sR, sU, sP])
theorem xs_P (o : Option (Fin 8)) : (wX cI cT ad M).set 5 (ad 5, .inr (2, (fK ad M).set 5 (va_rf (gw_oa ad o)))) = wX cI cT ad (sP M o) := by
  refine wl_set ?_ (fun j hj hne => ?_)
  · rfl
  · exact cX_of hj (fun _ => rfl) (fun _ => rfl) (fun _ => rfl) (fun _ => rfl) (fun q => absurd q hne) (fun _ _ => by simp [fT, sF, sG, sR, sU, sP]) (fun _ _ => by simp [fJ, sF, sG, sR, sU, sP]) (fun _ _ => by funext a; simp [sF, sG, sR, sU, sP]) (fun _ _ => by funext a; simp [sF, sG, sR, sU, sP]) (fun _ _ => by funext a; simp [sF, sG, sR, sU, sP])
theorem xs_rk (i : Nat) (x : Fin 8) : (wX cI cT ad M).set 3 (ad 3, .inl (cT, 8, .inr (.inr (.inr (.inr (va_up (fun k => some (ad (6 + (M.2.2.1 k).val))) i (some (ad (6 + x.val))))))))) = wX cI cT ad (sR M i x) := by
  refine wl_set ?_ (fun j hj hne => ?_)
  · refine congrArg (fun z => Sum.inl (cT, 8, Sum.inr (Sum.inr (Sum.inr (Sum.inr z))))) ?_
    funext a
    by_cases h : a = i <;> simp [sR, va_up, h]
  · exact cX_of hj (fun _ => rfl) (fun _ => rfl) (fun q => absurd q hne) (fun _ => rfl) (fun _ => rfl) (fun _ _ => by simp [fT, sF, sG, sR, sU, sP]) (fun _ _ => by simp [fJ, sF, sG, sR, sU, sP]) (fun _ _ => by funext a; simp [sF, sG, sR, sU, sP]) (fun _ _ => by funext a; simp [sF, sG, sR, sU, sP]) (fun _ _ => by funext a; simp [sF, sG, sR, sU, sP])
theorem xi_inj {D : va_G} {tys : List (ClassId × FieldType)} {A : Nat → Prop} {s : State} {H : Heap} {locs : List Loc} (hw : gw_W D tys A (wX cI cT ad M) s H locs) : ∀ x y : Fin 8, ad (6 + x.val) = ad (6 + y.val) → x = y := by
  intro x y h
  have h1 := hw.2.2.1.1 (6 + x.val) (6 + y.val) _ _ (xa_T x) (xa_T y) h
  exact Fin.ext (by omega)
end SetX
def fY (ad : Nat → Nat) (M : MY) : List Value := [.int (M.2 0), .ref (ad 1), .ref (ad 2), .ref (ad 3), .ref (ad 4), .ref (ad 5), .ref (ad 6), .ref (ad 7), .ref (ad 8), .int (M.2 9), .int (M.2 10), .int (M.2 11), .int (M.2 12), .int (M.2 13), .int (M.2 14), .int (M.2 15), .ref (ad 9), .ref (ad 10), .ref (ad 11), .ref (ad 12), .ref (ad 13), .ref (ad 14), .ref (ad 15), .ref (ad 16), .ref (ad 17), .int (M.2 25), .int (M.2 26), .int (M.2 27), .int (M.2 28)]
def cY (cI cZ : ClassId) (ad : Nat → Nat) (M : MY) (c : Nat) : va_E :=
  if c = 0 then .inr (6, fY ad M)
  else if c = 1 then .inl (cZ, 9, .inl (M.1 1))
  else if c = 2 then .inl (cI, 9, .inl (M.1 2))
  else if c = 3 then .inl (cI, 9, .inl (M.1 3))
  else if c = 4 then .inl (cI, 9, .inl (M.1 4))
  else if c = 5 then .inl (cI, 9, .inl (M.1 5))
  else if c = 6 then .inl (cI, 72, .inl (M.1 6))
  else if c = 7 then .inl (cI, 9, .inl (M.1 7))
  else if c = 8 then .inl (cI, 9, .inl (M.1 8))
  else if c = 9 then .inl (cI, 9, .inl (M.1 9))
  else if c = 10 then .inl (cI, 9, .inl (M.1 10))
  else if c = 11 then .inl (cI, 9, .inl (M.1 11))
  else if c = 12 then .inl (cI, 81, .inl (M.1 12))
  else if c = 13 then .inl (cI, 9, .inl (M.1 13))
  else if c = 14 then .inl (cI, 9, .inl (M.1 14))
  else if c = 15 then .inl (cI, 9, .inl (M.1 15))
  else if c = 16 then .inl (cI, 9, .inl (M.1 16))
  else .inl (cI, 1800, .inl (M.1 17))
def wY (cI cZ : ClassId) (ad : Nat → Nat) (M : MY) : va_W := wl ad 18 (cY cI cZ ad M)
abbrev tyY (cI cZ : ClassId) : List (ClassId × FieldType) := [(cI, .int), (cZ, .boolean)]
section AtY
variable {cI cZ : ClassId} {ad : Nat → Nat} {M : MY}
theorem ya_R : (wY cI cZ ad M)[0]? = some (ad 0, .inr (6, fY ad M)) := wl_at (by decide)
theorem ya_a1 : (wY cI cZ ad M)[1]? = some (ad 1, .inl (cZ, 9, .inl (M.1 1))) := wl_at (by decide)
theorem ya_a2 : (wY cI cZ ad M)[2]? = some (ad 2, .inl (cI, 9, .inl (M.1 2))) := wl_at (by decide)
theorem ya_a3 : (wY cI cZ ad M)[3]? = some (ad 3, .inl (cI, 9, .inl (M.1 3))) := wl_at (by decide)
theorem ya_a4 : (wY cI cZ ad M)[4]? = some (ad 4, .inl (cI, 9, .inl (M.1 4))) := wl_at (by decide)
theorem ya_a5 : (wY cI cZ ad M)[5]? = some (ad 5, .inl (cI, 9, .inl (M.1 5))) := wl_at (by decide)
theorem ya_a6 : (wY cI cZ ad M)[6]? = some (ad 6, .inl (cI, 72, .inl (M.1 6))) := wl_at (by decide)
theorem ya_a7 : (wY cI cZ ad M)[7]? = some (ad 7, .inl (cI, 9, .inl (M.1 7))) := wl_at (by decide)
theorem ya_a8 : (wY cI cZ ad M)[8]? = some (ad 8, .inl (cI, 9, .inl (M.1 8))) := wl_at (by decide)
theorem ya_a9 : (wY cI cZ ad M)[9]? = some (ad 9, .inl (cI, 9, .inl (M.1 9))) := wl_at (by decide)
theorem ya_a10 : (wY cI cZ ad M)[10]? = some (ad 10, .inl (cI, 9, .inl (M.1 10))) := wl_at (by decide)
theorem ya_a11 : (wY cI cZ ad M)[11]? = some (ad 11, .inl (cI, 9, .inl (M.1 11))) := wl_at (by decide)
theorem ya_a12 : (wY cI cZ ad M)[12]? = some (ad 12, .inl (cI, 81, .inl (M.1 12))) := wl_at (by decide)
theorem ya_a13 : (wY cI cZ ad M)[13]? = some (ad 13, .inl (cI, 9, .inl (M.1 13))) := wl_at (by decide)
theorem ya_a14 : (wY cI cZ ad M)[14]? = some (ad 14, .inl (cI, 9, .inl (M.1 14))) := wl_at (by decide)
theorem ya_a15 : (wY cI cZ ad M)[15]? = some (ad 15, .inl (cI, 9, .inl (M.1 15))) := wl_at (by decide)
theorem ya_a16 : (wY cI cZ ad M)[16]? = some (ad 16, .inl (cI, 9, .inl (M.1 16))) := wl_at (by decide)
theorem ya_a17 : (wY cI cZ ad M)[17]? = some (ad 17, .inl (cI, 1800, .inl (M.1 17))) := wl_at (by decide)
theorem cY_of {M' : MY} {j : Nat} (hj : j < 18) (h0 : j = 0 → fY ad M = fY ad M') (h1 : j = 1 → M.1 1 = M'.1 1) (h2 : j = 2 → M.1 2 = M'.1 2) (h3 : j = 3 → M.1 3 = M'.1 3) (h4 : j = 4 → M.1 4 = M'.1 4) (h5 : j = 5 → M.1 5 = M'.1 5) (h6 : j = 6 → M.1 6 = M'.1 6) (h7 : j = 7 → M.1 7 = M'.1 7) (h8 : j = 8 → M.1 8 = M'.1 8) (h9 : j = 9 → M.1 9 = M'.1 9) (h10 : j = 10 → M.1 10 = M'.1 10) (h11 : j = 11 → M.1 11 = M'.1 11) (h12 : j = 12 → M.1 12 = M'.1 12) (h13 : j = 13 → M.1 13 = M'.1 13) (h14 : j = 14 → M.1 14 = M'.1 14) (h15 : j = 15 → M.1 15 = M'.1 15) (h16 : j = 16 → M.1 16 = M'.1 16) (h17 : j = 17 → M.1 17 = M'.1 17) : cY cI cZ ad M j = cY cI cZ ad M' j := by
  unfold cY
  by_cases c0 : j = 0
  · rw [if_pos c0, if_pos c0, h0 c0]
  rw [if_neg c0, if_neg c0]
  by_cases c1 : j = 1
  · rw [if_pos c1, if_pos c1, h1 c1]
  rw [if_neg c1, if_neg c1]
  by_cases c2 : j = 2
  · rw [if_pos c2, if_pos c2, h2 c2]
  rw [if_neg c2, if_neg c2]
  by_cases c3 : j = 3
  · rw [if_pos c3, if_pos c3, h3 c3]
  rw [if_neg c3, if_neg c3]
  by_cases c4 : j = 4
  · rw [if_pos c4, if_pos c4, h4 c4]
  rw [if_neg c4, if_neg c4]
  by_cases c5 : j = 5
  · rw [if_pos c5, if_pos c5, h5 c5]
  rw [if_neg c5, if_neg c5]
  by_cases c6 : j = 6
  · rw [if_pos c6, if_pos c6, h6 c6]
  rw [if_neg c6, if_neg c6]
  by_cases c7 : j = 7
  · rw [if_pos c7, if_pos c7, h7 c7]
  rw [if_neg c7, if_neg c7]
  by_cases c8 : j = 8
  · rw [if_pos c8, if_pos c8, h8 c8]
  rw [if_neg c8, if_neg c8]
  by_cases c9 : j = 9
  · rw [if_pos c9, if_pos c9, h9 c9]
  rw [if_neg c9, if_neg c9]
  by_cases c10 : j = 10
  · rw [if_pos c10, if_pos c10, h10 c10]
  rw [if_neg c10, if_neg c10]
  by_cases c11 : j = 11
  · rw [if_pos c11, if_pos c11, h11 c11]
  rw [if_neg c11, if_neg c11]
  by_cases c12 : j = 12
  · rw [if_pos c12, if_pos c12, h12 c12]
  rw [if_neg c12, if_neg c12]
  by_cases c13 : j = 13
  · rw [if_pos c13, if_pos c13, h13 c13]
  rw [if_neg c13, if_neg c13]
  by_cases c14 : j = 14
  · rw [if_pos c14, if_pos c14, h14 c14]
  rw [if_neg c14, if_neg c14]
  by_cases c15 : j = 15
  · rw [if_pos c15, if_pos c15, h15 c15]
  rw [if_neg c15, if_neg c15]
  by_cases c16 : j = 16
  · rw [if_pos c16, if_pos c16, h16 c16]
  rw [if_neg c16, if_neg c16]
  rw [h17 (by omega)]
theorem ys_R (k : Nat) (v : Int32) (hk : k = 0 ∨ k = 9 ∨ k = 10 ∨ k = 11 ∨ k = 12 ∨ k = 13 ∨ k = 14 ∨ k = 15 ∨ k = 25 ∨ k = 26 ∨ k = 27 ∨ k = 28) : (wY cI cZ ad M).set 0 (ad 0, .inr (6, (fY ad M).set k (.int v))) = wY cI cZ ad (sV M k v) := by
  refine wl_set ?_ (fun j hj hne => ?_)
  · refine congrArg (fun z => Sum.inr (6, z)) ?_
    rcases hk with rfl | rfl | rfl | rfl | rfl | rfl | rfl | rfl | rfl | rfl | rfl | rfl <;> simp [fY, sV]
  · exact cY_of hj (fun q => absurd q hne) (fun _ => rfl) (fun _ => rfl) (fun _ => rfl) (fun _ => rfl) (fun _ => rfl) (fun _ => rfl) (fun _ => rfl) (fun _ => rfl) (fun _ => rfl) (fun _ => rfl) (fun _ => rfl) (fun _ => rfl) (fun _ => rfl) (fun _ => rfl) (fun _ => rfl) (fun _ => rfl) (fun _ => rfl)
theorem ys_a1 (i : Nat) (v : Int32) : (wY cI cZ ad M).set 1 (ad 1, .inl (cZ, 9, .inl (upd (M.1 1) i v))) = wY cI cZ ad (sA M 1 i v) := by
  refine wl_set ?_ (fun j hj hne => ?_)
  · refine congrArg (fun z => Sum.inl (cZ, 9, Sum.inl z)) ?_
    funext a
    simp [sA, upd]
  · exact cY_of hj (fun _ => rfl) (fun q => absurd q hne) (fun _ => by funext a; simp [sA]) (fun _ => by funext a; simp [sA]) (fun _ => by funext a; simp [sA]) (fun _ => by funext a; simp [sA]) (fun _ => by funext a; simp [sA]) (fun _ => by funext a; simp [sA]) (fun _ => by funext a; simp [sA]) (fun _ => by funext a; simp [sA]) (fun _ => by funext a; simp [sA]) (fun _ => by funext a; simp [sA]) (fun _ => by funext a; simp [sA]) (fun _ => by funext a; simp [sA]) (fun _ => by funext a; simp [sA]) (fun _ => by funext a; simp [sA]) (fun _ => by funext a; simp [sA]) (fun _ => by funext a; simp [sA])
theorem ys_a2 (i : Nat) (v : Int32) : (wY cI cZ ad M).set 2 (ad 2, .inl (cI, 9, .inl (upd (M.1 2) i v))) = wY cI cZ ad (sA M 2 i v) := by
  refine wl_set ?_ (fun j hj hne => ?_)
  · refine congrArg (fun z => Sum.inl (cI, 9, Sum.inl z)) ?_
    funext a
    simp [sA, upd]
  · exact cY_of hj (fun _ => rfl) (fun _ => by funext a; simp [sA]) (fun q => absurd q hne) (fun _ => by funext a; simp [sA]) (fun _ => by funext a; simp [sA]) (fun _ => by funext a; simp [sA]) (fun _ => by funext a; simp [sA]) (fun _ => by funext a; simp [sA]) (fun _ => by funext a; simp [sA]) (fun _ => by funext a; simp [sA]) (fun _ => by funext a; simp [sA]) (fun _ => by funext a; simp [sA]) (fun _ => by funext a; simp [sA]) (fun _ => by funext a; simp [sA]) (fun _ => by funext a; simp [sA]) (fun _ => by funext a; simp [sA]) (fun _ => by funext a; simp [sA]) (fun _ => by funext a; simp [sA])
theorem ys_a3 (i : Nat) (v : Int32) : (wY cI cZ ad M).set 3 (ad 3, .inl (cI, 9, .inl (upd (M.1 3) i v))) = wY cI cZ ad (sA M 3 i v) := by
  refine wl_set ?_ (fun j hj hne => ?_)
  · refine congrArg (fun z => Sum.inl (cI, 9, Sum.inl z)) ?_
    funext a
    simp [sA, upd]
  · exact cY_of hj (fun _ => rfl) (fun _ => by funext a; simp [sA]) (fun _ => by funext a; simp [sA]) (fun q => absurd q hne) (fun _ => by funext a; simp [sA]) (fun _ => by funext a; simp [sA]) (fun _ => by funext a; simp [sA]) (fun _ => by funext a; simp [sA]) (fun _ => by funext a; simp [sA]) (fun _ => by funext a; simp [sA]) (fun _ => by funext a; simp [sA]) (fun _ => by funext a; simp [sA]) (fun _ => by funext a; simp [sA]) (fun _ => by funext a; simp [sA]) (fun _ => by funext a; simp [sA]) (fun _ => by funext a; simp [sA]) (fun _ => by funext a; simp [sA]) (fun _ => by funext a; simp [sA])
theorem ys_a4 (i : Nat) (v : Int32) : (wY cI cZ ad M).set 4 (ad 4, .inl (cI, 9, .inl (upd (M.1 4) i v))) = wY cI cZ ad (sA M 4 i v) := by
  refine wl_set ?_ (fun j hj hne => ?_)
  · refine congrArg (fun z => Sum.inl (cI, 9, Sum.inl z)) ?_
    funext a
    simp [sA, upd]
  · exact cY_of hj (fun _ => rfl) (fun _ => by funext a; simp [sA]) (fun _ => by funext a; simp [sA]) (fun _ => by funext a; simp [sA]) (fun q => absurd q hne) (fun _ => by funext a; simp [sA]) (fun _ => by funext a; simp [sA]) (fun _ => by funext a; simp [sA]) (fun _ => by funext a; simp [sA]) (fun _ => by funext a; simp [sA]) (fun _ => by funext a; simp [sA]) (fun _ => by funext a; simp [sA]) (fun _ => by funext a; simp [sA]) (fun _ => by funext a; simp [sA]) (fun _ => by funext a; simp [sA]) (fun _ => by funext a; simp [sA]) (fun _ => by funext a; simp [sA]) (fun _ => by funext a; simp [sA])
theorem ys_a5 (i : Nat) (v : Int32) : (wY cI cZ ad M).set 5 (ad 5, .inl (cI, 9, .inl (upd (M.1 5) i v))) = wY cI cZ ad (sA M 5 i v) := by
  refine wl_set ?_ (fun j hj hne => ?_)
  · refine congrArg (fun z => Sum.inl (cI, 9, Sum.inl z)) ?_
    funext a
    simp [sA, upd]
  · exact cY_of hj (fun _ => rfl) (fun _ => by funext a; simp [sA]) (fun _ => by funext a; simp [sA]) (fun _ => by funext a; simp [sA]) (fun _ => by funext a; simp [sA]) (fun q => absurd q hne) (fun _ => by funext a; simp [sA]) (fun _ => by funext a; simp [sA]) (fun _ => by funext a; simp [sA]) (fun _ => by funext a; simp [sA]) (fun _ => by funext a; simp [sA]) (fun _ => by funext a; simp [sA]) (fun _ => by funext a; simp [sA]) (fun _ => by funext a; simp [sA]) (fun _ => by funext a; simp [sA]) (fun _ => by funext a; simp [sA]) (fun _ => by funext a; simp [sA]) (fun _ => by funext a; simp [sA])
theorem ys_a6 (i : Nat) (v : Int32) : (wY cI cZ ad M).set 6 (ad 6, .inl (cI, 72, .inl (upd (M.1 6) i v))) = wY cI cZ ad (sA M 6 i v) := by
  refine wl_set ?_ (fun j hj hne => ?_)
  · refine congrArg (fun z => Sum.inl (cI, 72, Sum.inl z)) ?_
    funext a
    simp [sA, upd]
  · exact cY_of hj (fun _ => rfl) (fun _ => by funext a; simp [sA]) (fun _ => by funext a; simp [sA]) (fun _ => by funext a; simp [sA]) (fun _ => by funext a; simp [sA]) (fun _ => by funext a; simp [sA]) (fun q => absurd q hne) (fun _ => by funext a; simp [sA]) (fun _ => by funext a; simp [sA]) (fun _ => by funext a; simp [sA]) (fun _ => by funext a; simp [sA]) (fun _ => by funext a; simp [sA]) (fun _ => by funext a; simp [sA]) (fun _ => by funext a; simp [sA]) (fun _ => by funext a; simp [sA]) (fun _ => by funext a; simp [sA]) (fun _ => by funext a; simp [sA]) (fun _ => by funext a; simp [sA])
theorem ys_a7 (i : Nat) (v : Int32) : (wY cI cZ ad M).set 7 (ad 7, .inl (cI, 9, .inl (upd (M.1 7) i v))) = wY cI cZ ad (sA M 7 i v) := by
  refine wl_set ?_ (fun j hj hne => ?_)
  · refine congrArg (fun z => Sum.inl (cI, 9, Sum.inl z)) ?_
    funext a
    simp [sA, upd]
  · exact cY_of hj (fun _ => rfl) (fun _ => by funext a; simp [sA]) (fun _ => by funext a; simp [sA]) (fun _ => by funext a; simp [sA]) (fun _ => by funext a; simp [sA]) (fun _ => by funext a; simp [sA]) (fun _ => by funext a; simp [sA]) (fun q => absurd q hne) (fun _ => by funext a; simp [sA]) (fun _ => by funext a; simp [sA]) (fun _ => by funext a; simp [sA]) (fun _ => by funext a; simp [sA]) (fun _ => by funext a; simp [sA]) (fun _ => by funext a; simp [sA]) (fun _ => by funext a; simp [sA]) (fun _ => by funext a; simp [sA]) (fun _ => by funext a; simp [sA]) (fun _ => by funext a; simp [sA])
theorem ys_a8 (i : Nat) (v : Int32) : (wY cI cZ ad M).set 8 (ad 8, .inl (cI, 9, .inl (upd (M.1 8) i v))) = wY cI cZ ad (sA M 8 i v) := by
  refine wl_set ?_ (fun j hj hne => ?_)
  · refine congrArg (fun z => Sum.inl (cI, 9, Sum.inl z)) ?_
    funext a
    simp [sA, upd]
  · exact cY_of hj (fun _ => rfl) (fun _ => by funext a; simp [sA]) (fun _ => by funext a; simp [sA]) (fun _ => by funext a; simp [sA]) (fun _ => by funext a; simp [sA]) (fun _ => by funext a; simp [sA]) (fun _ => by funext a; simp [sA]) (fun _ => by funext a; simp [sA]) (fun q => absurd q hne) (fun _ => by funext a; simp [sA]) (fun _ => by funext a; simp [sA]) (fun _ => by funext a; simp [sA]) (fun _ => by funext a; simp [sA]) (fun _ => by funext a; simp [sA]) (fun _ => by funext a; simp [sA]) (fun _ => by funext a; simp [sA]) (fun _ => by funext a; simp [sA]) (fun _ => by funext a; simp [sA])
theorem ys_a9 (i : Nat) (v : Int32) : (wY cI cZ ad M).set 9 (ad 9, .inl (cI, 9, .inl (upd (M.1 9) i v))) = wY cI cZ ad (sA M 9 i v) := by
  refine wl_set ?_ (fun j hj hne => ?_)
  · refine congrArg (fun z => Sum.inl (cI, 9, Sum.inl z)) ?_
    funext a
    simp [sA, upd]
  · exact cY_of hj (fun _ => rfl) (fun _ => by funext a; simp [sA]) (fun _ => by funext a; simp [sA]) (fun _ => by funext a; simp [sA]) (fun _ => by funext a; simp [sA]) (fun _ => by funext a; simp [sA]) (fun _ => by funext a; simp [sA]) (fun _ => by funext a; simp [sA]) (fun _ => by funext a; simp [sA]) (fun q => absurd q hne) (fun _ => by funext a; simp [sA]) (fun _ => by funext a; simp [sA]) (fun _ => by funext a; simp [sA]) (fun _ => by funext a; simp [sA]) (fun _ => by funext a; simp [sA]) (fun _ => by funext a; simp [sA]) (fun _ => by funext a; simp [sA]) (fun _ => by funext a; simp [sA])
theorem ys_a10 (i : Nat) (v : Int32) : (wY cI cZ ad M).set 10 (ad 10, .inl (cI, 9, .inl (upd (M.1 10) i v))) = wY cI cZ ad (sA M 10 i v) := by
  refine wl_set ?_ (fun j hj hne => ?_)
  · refine congrArg (fun z => Sum.inl (cI, 9, Sum.inl z)) ?_
    funext a
    simp [sA, upd]
  · exact cY_of hj (fun _ => rfl) (fun _ => by funext a; simp [sA]) (fun _ => by funext a; simp [sA]) (fun _ => by funext a; simp [sA]) (fun _ => by funext a; simp [sA]) (fun _ => by funext a; simp [sA]) (fun _ => by funext a; simp [sA]) (fun _ => by funext a; simp [sA]) (fun _ => by funext a; simp [sA]) (fun _ => by funext a; simp [sA]) (fun q => absurd q hne) (fun _ => by funext a; simp [sA]) (fun _ => by funext a; simp [sA]) (fun _ => by funext a; simp [sA]) (fun _ => by funext a; simp [sA]) (fun _ => by funext a; simp [sA]) (fun _ => by funext a; simp [sA]) (fun _ => by funext a; simp [sA])
theorem ys_a11 (i : Nat) (v : Int32) : (wY cI cZ ad M).set 11 (ad 11, .inl (cI, 9, .inl (upd (M.1 11) i v))) = wY cI cZ ad (sA M 11 i v) := by
  refine wl_set ?_ (fun j hj hne => ?_)
  · refine congrArg (fun z => Sum.inl (cI, 9, Sum.inl z)) ?_
    funext a
    simp [sA, upd]
  · exact cY_of hj (fun _ => rfl) (fun _ => by funext a; simp [sA]) (fun _ => by funext a; simp [sA]) (fun _ => by funext a; simp [sA]) (fun _ => by funext a; simp [sA]) (fun _ => by funext a; simp [sA]) (fun _ => by funext a; simp [sA]) (fun _ => by funext a; simp [sA]) (fun _ => by funext a; simp [sA]) (fun _ => by funext a; simp [sA]) (fun _ => by funext a; simp [sA]) (fun q => absurd q hne) (fun _ => by funext a; simp [sA]) (fun _ => by funext a; simp [sA]) (fun _ => by funext a; simp [sA]) (fun _ => by funext a; simp [sA]) (fun _ => by funext a; simp [sA]) (fun _ => by funext a; simp [sA])
theorem ys_a12 (i : Nat) (v : Int32) : (wY cI cZ ad M).set 12 (ad 12, .inl (cI, 81, .inl (upd (M.1 12) i v))) = wY cI cZ ad (sA M 12 i v) := by
  refine wl_set ?_ (fun j hj hne => ?_)
  · refine congrArg (fun z => Sum.inl (cI, 81, Sum.inl z)) ?_
    funext a
    simp [sA, upd]
  · exact cY_of hj (fun _ => rfl) (fun _ => by funext a; simp [sA]) (fun _ => by funext a; simp [sA]) (fun _ => by funext a; simp [sA]) (fun _ => by funext a; simp [sA]) (fun _ => by funext a; simp [sA]) (fun _ => by funext a; simp [sA]) (fun _ => by funext a; simp [sA]) (fun _ => by funext a; simp [sA]) (fun _ => by funext a; simp [sA]) (fun _ => by funext a; simp [sA]) (fun _ => by funext a; simp [sA]) (fun q => absurd q hne) (fun _ => by funext a; simp [sA]) (fun _ => by funext a; simp [sA]) (fun _ => by funext a; simp [sA]) (fun _ => by funext a; simp [sA]) (fun _ => by funext a; simp [sA])
theorem ys_a13 (i : Nat) (v : Int32) : (wY cI cZ ad M).set 13 (ad 13, .inl (cI, 9, .inl (upd (M.1 13) i v))) = wY cI cZ ad (sA M 13 i v) := by
  refine wl_set ?_ (fun j hj hne => ?_)
  · refine congrArg (fun z => Sum.inl (cI, 9, Sum.inl z)) ?_
    funext a
    simp [sA, upd]
  · exact cY_of hj (fun _ => rfl) (fun _ => by funext a; simp [sA]) (fun _ => by funext a; simp [sA]) (fun _ => by funext a; simp [sA]) (fun _ => by funext a; simp [sA]) (fun _ => by funext a; simp [sA]) (fun _ => by funext a; simp [sA]) (fun _ => by funext a; simp [sA]) (fun _ => by funext a; simp [sA]) (fun _ => by funext a; simp [sA]) (fun _ => by funext a; simp [sA]) (fun _ => by funext a; simp [sA]) (fun _ => by funext a; simp [sA]) (fun q => absurd q hne) (fun _ => by funext a; simp [sA]) (fun _ => by funext a; simp [sA]) (fun _ => by funext a; simp [sA]) (fun _ => by funext a; simp [sA])
theorem ys_a14 (i : Nat) (v : Int32) : (wY cI cZ ad M).set 14 (ad 14, .inl (cI, 9, .inl (upd (M.1 14) i v))) = wY cI cZ ad (sA M 14 i v) := by
  refine wl_set ?_ (fun j hj hne => ?_)
  · refine congrArg (fun z => Sum.inl (cI, 9, Sum.inl z)) ?_
    funext a
    simp [sA, upd]
  · exact cY_of hj (fun _ => rfl) (fun _ => by funext a; simp [sA]) (fun _ => by funext a; simp [sA]) (fun _ => by funext a; simp [sA]) (fun _ => by funext a; simp [sA]) (fun _ => by funext a; simp [sA]) (fun _ => by funext a; simp [sA]) (fun _ => by funext a; simp [sA]) (fun _ => by funext a; simp [sA]) (fun _ => by funext a; simp [sA]) (fun _ => by funext a; simp [sA]) (fun _ => by funext a; simp [sA]) (fun _ => by funext a; simp [sA]) (fun _ => by funext a; simp [sA]) (fun q => absurd q hne) (fun _ => by funext a; simp [sA]) (fun _ => by funext a; simp [sA]) (fun _ => by funext a; simp [sA])
theorem ys_a15 (i : Nat) (v : Int32) : (wY cI cZ ad M).set 15 (ad 15, .inl (cI, 9, .inl (upd (M.1 15) i v))) = wY cI cZ ad (sA M 15 i v) := by
  refine wl_set ?_ (fun j hj hne => ?_)
  · refine congrArg (fun z => Sum.inl (cI, 9, Sum.inl z)) ?_
    funext a
    simp [sA, upd]
  · exact cY_of hj (fun _ => rfl) (fun _ => by funext a; simp [sA]) (fun _ => by funext a; simp [sA]) (fun _ => by funext a; simp [sA]) (fun _ => by funext a; simp [sA]) (fun _ => by funext a; simp [sA]) (fun _ => by funext a; simp [sA]) (fun _ => by funext a; simp [sA]) (fun _ => by funext a; simp [sA]) (fun _ => by funext a; simp [sA]) (fun _ => by funext a; simp [sA]) (fun _ => by funext a; simp [sA]) (fun _ => by funext a; simp [sA]) (fun _ => by funext a; simp [sA]) (fun _ => by funext a; simp [sA]) (fun q => absurd q hne) (fun _ => by funext a; simp [sA]) (fun _ => by funext a; simp [sA])
theorem ys_a16 (i : Nat) (v : Int32) : (wY cI cZ ad M).set 16 (ad 16, .inl (cI, 9, .inl (upd (M.1 16) i v))) = wY cI cZ ad (sA M 16 i v) := by
  refine wl_set ?_ (fun j hj hne => ?_)
  · refine congrArg (fun z => Sum.inl (cI, 9, Sum.inl z)) ?_
    funext a
    simp [sA, upd]
  · exact cY_of hj (fun _ => rfl) (fun _ => by funext a; simp [sA]) (fun _ => by funext a; simp [sA]) (fun _ => by funext a; simp [sA]) (fun _ => by funext a; simp [sA]) (fun _ => by funext a; simp [sA]) (fun _ => by funext a; simp [sA]) (fun _ => by funext a; simp [sA]) (fun _ => by funext a; simp [sA]) (fun _ => by funext a; simp [sA]) (fun _ => by funext a; simp [sA]) (fun _ => by funext a; simp [sA]) (fun _ => by funext a; simp [sA]) (fun _ => by funext a; simp [sA]) (fun _ => by funext a; simp [sA]) (fun _ => by funext a; simp [sA]) (fun q => absurd q hne) (fun _ => by funext a; simp [sA])
theorem ys_a17 (i : Nat) (v : Int32) : (wY cI cZ ad M).set 17 (ad 17, .inl (cI, 1800, .inl (upd (M.1 17) i v))) = wY cI cZ ad (sA M 17 i v) := by
  refine wl_set ?_ (fun j hj hne => ?_)
  · refine congrArg (fun z => Sum.inl (cI, 1800, Sum.inl z)) ?_
    funext a
    simp [sA, upd]
  · exact cY_of hj (fun _ => rfl) (fun _ => by funext a; simp [sA]) (fun _ => by funext a; simp [sA]) (fun _ => by funext a; simp [sA]) (fun _ => by funext a; simp [sA]) (fun _ => by funext a; simp [sA]) (fun _ => by funext a; simp [sA]) (fun _ => by funext a; simp [sA]) (fun _ => by funext a; simp [sA]) (fun _ => by funext a; simp [sA]) (fun _ => by funext a; simp [sA]) (fun _ => by funext a; simp [sA]) (fun _ => by funext a; simp [sA]) (fun _ => by funext a; simp [sA]) (fun _ => by funext a; simp [sA]) (fun _ => by funext a; simp [sA]) (fun _ => by funext a; simp [sA]) (fun q => absurd q hne)
end AtY
end
section
theorem d_O_init_0 : decode b_O_init 0 = .ok (.aload_n 0, 1) := by decide +kernel
theorem d_O_init_1 : decode b_O_init 1 = .ok (.invokespecial 1, 3) := by decide +kernel
theorem d_O_init_4 : decode b_O_init 4 = .ok (.aload_n 0, 1) := by decide +kernel
theorem d_O_init_5 : decode b_O_init 5 = .ok (.new 7, 3) := by decide +kernel
theorem d_O_init_8 : decode b_O_init 8 = .ok (.dup, 1) := by decide +kernel
theorem d_O_init_9 : decode b_O_init 9 = .ok (.invokespecial 9, 3) := by decide +kernel
theorem d_O_init_12 : decode b_O_init 12 = .ok (.putfield 10, 3) := by decide +kernel
theorem d_O_init_15 : decode b_O_init 15 = .ok (.aload_n 0, 1) := by decide +kernel
theorem d_O_init_16 : decode b_O_init 16 = .ok (.new 16, 3) := by decide +kernel
theorem d_O_init_19 : decode b_O_init 19 = .ok (.dup, 1) := by decide +kernel
theorem d_O_init_20 : decode b_O_init 20 = .ok (.aload_n 0, 1) := by decide +kernel
theorem d_O_init_21 : decode b_O_init 21 = .ok (.getfield 10, 3) := by decide +kernel
theorem d_O_init_24 : decode b_O_init 24 = .ok (.invokespecial 18, 3) := by decide +kernel
theorem d_O_init_27 : decode b_O_init 27 = .ok (.putfield 21, 3) := by decide +kernel
theorem d_O_init_30 : decode b_O_init 30 = .ok (.aload_n 0, 1) := by decide +kernel
theorem d_O_init_31 : decode b_O_init 31 = .ok (.new 25, 3) := by decide +kernel
theorem d_O_init_34 : decode b_O_init 34 = .ok (.dup, 1) := by decide +kernel
theorem d_O_init_35 : decode b_O_init 35 = .ok (.aload_n 0, 1) := by decide +kernel
theorem d_O_init_36 : decode b_O_init 36 = .ok (.getfield 10, 3) := by decide +kernel
theorem d_O_init_39 : decode b_O_init 39 = .ok (.invokespecial 27, 3) := by decide +kernel
theorem d_O_init_42 : decode b_O_init 42 = .ok (.putfield 28, 3) := by decide +kernel
theorem d_O_init_45 : decode b_O_init 45 = .ok (.return_, 1) := by decide +kernel
theorem d_O_task_0 : decode b_O_task 0 = .ok (.aload_n 0, 1) := by decide +kernel
theorem d_O_task_1 : decode b_O_task 1 = .ok (.getfield 28, 3) := by decide +kernel
theorem d_O_task_4 : decode b_O_task 4 = .ok (.getfield 32, 3) := by decide +kernel
theorem d_O_task_7 : decode b_O_task 7 = .ok (.ifCond .ne 22, 3) := by decide +kernel
theorem d_O_task_10 : decode b_O_task 10 = .ok (.aload_n 0, 1) := by decide +kernel
theorem d_O_task_11 : decode b_O_task 11 = .ok (.getfield 10, 3) := by decide +kernel
theorem d_O_task_14 : decode b_O_task 14 = .ok (.iload_n 1, 1) := by decide +kernel
theorem d_O_task_15 : decode b_O_task 15 = .ok (.iload_n 2, 1) := by decide +kernel
theorem d_O_task_16 : decode b_O_task 16 = .ok (.iload_n 3, 1) := by decide +kernel
theorem d_O_task_17 : decode b_O_task 17 = .ok (.iload 4, 2) := by decide +kernel
theorem d_O_task_19 : decode b_O_task 19 = .ok (.invokevirtual 36, 3) := by decide +kernel
theorem d_O_task_22 : decode b_O_task 22 = .ok (.ifCond .eq 7, 3) := by decide +kernel
theorem d_O_task_25 : decode b_O_task 25 = .ok (.iconst 1, 1) := by decide +kernel
theorem d_O_task_26 : decode b_O_task 26 = .ok (.goto 4, 3) := by decide +kernel
theorem d_O_task_29 : decode b_O_task 29 = .ok (.iconst 0, 1) := by decide +kernel
theorem d_O_task_30 : decode b_O_task 30 = .ok (.ireturn, 1) := by decide +kernel
theorem d_O_segment_0 : decode b_O_segment 0 = .ok (.aload_n 0, 1) := by decide +kernel
theorem d_O_segment_1 : decode b_O_segment 1 = .ok (.getfield 28, 3) := by decide +kernel
theorem d_O_segment_4 : decode b_O_segment 4 = .ok (.getfield 32, 3) := by decide +kernel
theorem d_O_segment_7 : decode b_O_segment 7 = .ok (.ifCond .ne 19, 3) := by decide +kernel
theorem d_O_segment_10 : decode b_O_segment 10 = .ok (.aload_n 0, 1) := by decide +kernel
theorem d_O_segment_11 : decode b_O_segment 11 = .ok (.getfield 10, 3) := by decide +kernel
theorem d_O_segment_14 : decode b_O_segment 14 = .ok (.iload_n 1, 1) := by decide +kernel
theorem d_O_segment_15 : decode b_O_segment 15 = .ok (.iload_n 2, 1) := by decide +kernel
theorem d_O_segment_16 : decode b_O_segment 16 = .ok (.invokevirtual 40, 3) := by decide +kernel
theorem d_O_segment_19 : decode b_O_segment 19 = .ok (.ifCond .eq 7, 3) := by decide +kernel
theorem d_O_segment_22 : decode b_O_segment 22 = .ok (.iconst 1, 1) := by decide +kernel
theorem d_O_segment_23 : decode b_O_segment 23 = .ok (.goto 4, 3) := by decide +kernel
theorem d_O_segment_26 : decode b_O_segment 26 = .ok (.iconst 0, 1) := by decide +kernel
theorem d_O_segment_27 : decode b_O_segment 27 = .ok (.ireturn, 1) := by decide +kernel
theorem d_O_clear_0 : decode b_O_clear 0 = .ok (.aload_n 0, 1) := by decide +kernel
theorem d_O_clear_1 : decode b_O_clear 1 = .ok (.getfield 28, 3) := by decide +kernel
theorem d_O_clear_4 : decode b_O_clear 4 = .ok (.invokevirtual 44, 3) := by decide +kernel
theorem d_O_clear_7 : decode b_O_clear 7 = .ok (.aload_n 0, 1) := by decide +kernel
theorem d_O_clear_8 : decode b_O_clear 8 = .ok (.getfield 10, 3) := by decide +kernel
theorem d_O_clear_11 : decode b_O_clear 11 = .ok (.invokevirtual 47, 3) := by decide +kernel
theorem d_O_clear_14 : decode b_O_clear 14 = .ok (.return_, 1) := by decide +kernel
theorem d_O_reset_0 : decode b_O_reset 0 = .ok (.aload_n 0, 1) := by decide +kernel
theorem d_O_reset_1 : decode b_O_reset 1 = .ok (.getfield 28, 3) := by decide +kernel
theorem d_O_reset_4 : decode b_O_reset 4 = .ok (.invokevirtual 44, 3) := by decide +kernel
theorem d_O_reset_7 : decode b_O_reset 7 = .ok (.return_, 1) := by decide +kernel
theorem d_O_about_0 : decode b_O_about 0 = .ok (.aload_n 0, 1) := by decide +kernel
theorem d_O_about_1 : decode b_O_about 1 = .ok (.getfield 10, 3) := by decide +kernel
theorem d_O_about_4 : decode b_O_about 4 = .ok (.iload_n 1, 1) := by decide +kernel
theorem d_O_about_5 : decode b_O_about 5 = .ok (.invokevirtual 50, 3) := by decide +kernel
theorem d_O_about_8 : decode b_O_about 8 = .ok (.astore_n 3, 1) := by decide +kernel
theorem d_O_about_9 : decode b_O_about 9 = .ok (.aload_n 3, 1) := by decide +kernel
theorem d_O_about_10 : decode b_O_about 10 = .ok (.ifnonnull 5, 3) := by decide +kernel
theorem d_O_about_13 : decode b_O_about 13 = .ok (.iconst (-1), 1) := by decide +kernel
theorem d_O_about_14 : decode b_O_about 14 = .ok (.ireturn, 1) := by decide +kernel
theorem d_O_about_15 : decode b_O_about 15 = .ok (.iload_n 2, 1) := by decide +kernel
theorem d_O_about_16 : decode b_O_about 16 = .ok (.tableswitch 74 0 5 #[40, 45, 50, 55, 60, 65], 40) := by decide +kernel
theorem d_O_about_56 : decode b_O_about 56 = .ok (.aload_n 3, 1) := by decide +kernel
theorem d_O_about_57 : decode b_O_about 57 = .ok (.getfield 54, 3) := by decide +kernel
theorem d_O_about_60 : decode b_O_about 60 = .ok (.ireturn, 1) := by decide +kernel
theorem d_O_about_61 : decode b_O_about 61 = .ok (.aload_n 3, 1) := by decide +kernel
theorem d_O_about_62 : decode b_O_about 62 = .ok (.getfield 60, 3) := by decide +kernel
theorem d_O_about_65 : decode b_O_about 65 = .ok (.ireturn, 1) := by decide +kernel
theorem d_O_about_66 : decode b_O_about 66 = .ok (.aload_n 3, 1) := by decide +kernel
theorem d_O_about_67 : decode b_O_about 67 = .ok (.getfield 63, 3) := by decide +kernel
theorem d_O_about_70 : decode b_O_about 70 = .ok (.ireturn, 1) := by decide +kernel
theorem d_O_about_71 : decode b_O_about 71 = .ok (.aload_n 3, 1) := by decide +kernel
theorem d_O_about_72 : decode b_O_about 72 = .ok (.getfield 66, 3) := by decide +kernel
theorem d_O_about_75 : decode b_O_about 75 = .ok (.ireturn, 1) := by decide +kernel
theorem d_O_about_76 : decode b_O_about 76 = .ok (.aload_n 3, 1) := by decide +kernel
theorem d_O_about_77 : decode b_O_about 77 = .ok (.getfield 69, 3) := by decide +kernel
theorem d_O_about_80 : decode b_O_about 80 = .ok (.ireturn, 1) := by decide +kernel
theorem d_O_about_81 : decode b_O_about 81 = .ok (.aload_n 0, 1) := by decide +kernel
theorem d_O_about_82 : decode b_O_about 82 = .ok (.getfield 10, 3) := by decide +kernel
theorem d_O_about_85 : decode b_O_about 85 = .ok (.aload_n 3, 1) := by decide +kernel
theorem d_O_about_86 : decode b_O_about 86 = .ok (.invokevirtual 72, 3) := by decide +kernel
theorem d_O_about_89 : decode b_O_about 89 = .ok (.ireturn, 1) := by decide +kernel
theorem d_O_about_90 : decode b_O_about 90 = .ok (.iload_n 2, 1) := by decide +kernel
theorem d_O_about_91 : decode b_O_about 91 = .ok (.bipush 10, 2) := by decide +kernel
theorem d_O_about_93 : decode b_O_about 93 = .ok (.if_icmp .ge 7, 3) := by decide +kernel
theorem d_O_about_96 : decode b_O_about 96 = .ok (.iconst (-1), 1) := by decide +kernel
theorem d_O_about_97 : decode b_O_about 97 = .ok (.goto 11, 3) := by decide +kernel
theorem d_O_about_100 : decode b_O_about 100 = .ok (.aload_n 3, 1) := by decide +kernel
theorem d_O_about_101 : decode b_O_about 101 = .ok (.iload_n 2, 1) := by decide +kernel
theorem d_O_about_102 : decode b_O_about 102 = .ok (.bipush 10, 2) := by decide +kernel
theorem d_O_about_104 : decode b_O_about 104 = .ok (.isub, 1) := by decide +kernel
theorem d_O_about_105 : decode b_O_about 105 = .ok (.invokevirtual 76, 3) := by decide +kernel
theorem d_O_about_108 : decode b_O_about 108 = .ok (.ireturn, 1) := by decide +kernel
theorem d_O_admit_0 : decode b_O_admit 0 = .ok (.aload_n 0, 1) := by decide +kernel
theorem d_O_admit_1 : decode b_O_admit 1 = .ok (.getfield 10, 3) := by decide +kernel
theorem d_O_admit_4 : decode b_O_admit 4 = .ok (.invokevirtual 80, 3) := by decide +kernel
theorem d_O_admit_7 : decode b_O_admit 7 = .ok (.ifCond .ne 11, 3) := by decide +kernel
theorem d_O_admit_10 : decode b_O_admit 10 = .ok (.new 84, 3) := by decide +kernel
theorem d_O_admit_13 : decode b_O_admit 13 = .ok (.dup, 1) := by decide +kernel
theorem d_O_admit_14 : decode b_O_admit 14 = .ok (.invokespecial 86, 3) := by decide +kernel
theorem d_O_admit_17 : decode b_O_admit 17 = .ok (.athrow, 1) := by decide +kernel
theorem d_O_admit_18 : decode b_O_admit 18 = .ok (.aload_n 0, 1) := by decide +kernel
theorem d_O_admit_19 : decode b_O_admit 19 = .ok (.getfield 21, 3) := by decide +kernel
theorem d_O_admit_22 : decode b_O_admit 22 = .ok (.invokevirtual 87, 3) := by decide +kernel
theorem d_O_admit_25 : decode b_O_admit 25 = .ok (.ireturn, 1) := by decide +kernel
theorem d_O_response_0 : decode b_O_response 0 = .ok (.aload_n 0, 1) := by decide +kernel
theorem d_O_response_1 : decode b_O_response 1 = .ok (.iload_n 1, 1) := by decide +kernel
theorem d_O_response_2 : decode b_O_response 2 = .ok (.invokevirtual 91, 3) := by decide +kernel
theorem d_O_response_5 : decode b_O_response 5 = .ok (.getfield 94, 3) := by decide +kernel
theorem d_O_response_8 : decode b_O_response 8 = .ok (.ireturn, 1) := by decide +kernel
theorem d_O_job_0 : decode b_O_job 0 = .ok (.aload_n 0, 1) := by decide +kernel
theorem d_O_job_1 : decode b_O_job 1 = .ok (.getfield 21, 3) := by decide +kernel
theorem d_O_job_4 : decode b_O_job 4 = .ok (.aload_n 0, 1) := by decide +kernel
theorem d_O_job_5 : decode b_O_job 5 = .ok (.iload_n 1, 1) := by decide +kernel
theorem d_O_job_6 : decode b_O_job 6 = .ok (.invokevirtual 91, 3) := by decide +kernel
theorem d_O_job_9 : decode b_O_job 9 = .ok (.iload_n 2, 1) := by decide +kernel
theorem d_O_job_10 : decode b_O_job 10 = .ok (.invokevirtual 97, 3) := by decide +kernel
theorem d_O_job_13 : decode b_O_job 13 = .ok (.ireturn, 1) := by decide +kernel
theorem d_O_tolerance_0 : decode b_O_tolerance 0 = .ok (.aload_n 0, 1) := by decide +kernel
theorem d_O_tolerance_1 : decode b_O_tolerance 1 = .ok (.getfield 21, 3) := by decide +kernel
theorem d_O_tolerance_4 : decode b_O_tolerance 4 = .ok (.aload_n 0, 1) := by decide +kernel
theorem d_O_tolerance_5 : decode b_O_tolerance 5 = .ok (.iload_n 1, 1) := by decide +kernel
theorem d_O_tolerance_6 : decode b_O_tolerance 6 = .ok (.invokevirtual 101, 3) := by decide +kernel
theorem d_O_tolerance_9 : decode b_O_tolerance 9 = .ok (.invokevirtual 104, 3) := by decide +kernel
theorem d_O_tolerance_12 : decode b_O_tolerance 12 = .ok (.ireturn, 1) := by decide +kernel
theorem d_O_stretch_0 : decode b_O_stretch 0 = .ok (.aload_n 0, 1) := by decide +kernel
theorem d_O_stretch_1 : decode b_O_stretch 1 = .ok (.getfield 10, 3) := by decide +kernel
theorem d_O_stretch_4 : decode b_O_stretch 4 = .ok (.invokevirtual 80, 3) := by decide +kernel
theorem d_O_stretch_7 : decode b_O_stretch 7 = .ok (.ifCond .eq 24, 3) := by decide +kernel
theorem d_O_stretch_10 : decode b_O_stretch 10 = .ok (.aload_n 0, 1) := by decide +kernel
theorem d_O_stretch_11 : decode b_O_stretch 11 = .ok (.getfield 28, 3) := by decide +kernel
theorem d_O_stretch_14 : decode b_O_stretch 14 = .ok (.getfield 32, 3) := by decide +kernel
theorem d_O_stretch_17 : decode b_O_stretch 17 = .ok (.ifCond .ne 14, 3) := by decide +kernel
theorem d_O_stretch_20 : decode b_O_stretch 20 = .ok (.aload_n 0, 1) := by decide +kernel
theorem d_O_stretch_21 : decode b_O_stretch 21 = .ok (.getfield 21, 3) := by decide +kernel
theorem d_O_stretch_24 : decode b_O_stretch 24 = .ok (.invokevirtual 87, 3) := by decide +kernel
theorem d_O_stretch_27 : decode b_O_stretch 27 = .ok (.iconst 1, 1) := by decide +kernel
theorem d_O_stretch_28 : decode b_O_stretch 28 = .ok (.if_icmp .eq 11, 3) := by decide +kernel
theorem d_O_stretch_31 : decode b_O_stretch 31 = .ok (.new 84, 3) := by decide +kernel
theorem d_O_stretch_34 : decode b_O_stretch 34 = .ok (.dup, 1) := by decide +kernel
theorem d_O_stretch_35 : decode b_O_stretch 35 = .ok (.invokespecial 86, 3) := by decide +kernel
theorem d_O_stretch_38 : decode b_O_stretch 38 = .ok (.athrow, 1) := by decide +kernel
theorem d_O_stretch_39 : decode b_O_stretch 39 = .ok (.aload_n 0, 1) := by decide +kernel
theorem d_O_stretch_40 : decode b_O_stretch 40 = .ok (.getfield 21, 3) := by decide +kernel
theorem d_O_stretch_43 : decode b_O_stretch 43 = .ok (.invokevirtual 107, 3) := by decide +kernel
theorem d_O_stretch_46 : decode b_O_stretch 46 = .ok (.ireturn, 1) := by decide +kernel
theorem d_O_scenario_0 : decode b_O_scenario 0 = .ok (.aload_n 0, 1) := by decide +kernel
theorem d_O_scenario_1 : decode b_O_scenario 1 = .ok (.iload_n 1, 1) := by decide +kernel
theorem d_O_scenario_2 : decode b_O_scenario 2 = .ok (.invokevirtual 91, 3) := by decide +kernel
theorem d_O_scenario_5 : decode b_O_scenario 5 = .ok (.astore 4, 2) := by decide +kernel
theorem d_O_scenario_7 : decode b_O_scenario 7 = .ok (.iload_n 2, 1) := by decide +kernel
theorem d_O_scenario_8 : decode b_O_scenario 8 = .ok (.ifCond .lt 12, 3) := by decide +kernel
theorem d_O_scenario_11 : decode b_O_scenario 11 = .ok (.iload_n 3, 1) := by decide +kernel
theorem d_O_scenario_12 : decode b_O_scenario 12 = .ok (.ifCond .lt 8, 3) := by decide +kernel
theorem d_O_scenario_15 : decode b_O_scenario 15 = .ok (.iload_n 3, 1) := by decide +kernel
theorem d_O_scenario_16 : decode b_O_scenario 16 = .ok (.iconst 1, 1) := by decide +kernel
theorem d_O_scenario_17 : decode b_O_scenario 17 = .ok (.if_icmp .le 5, 3) := by decide +kernel
theorem d_O_scenario_20 : decode b_O_scenario 20 = .ok (.iconst (-1), 1) := by decide +kernel
theorem d_O_scenario_21 : decode b_O_scenario 21 = .ok (.ireturn, 1) := by decide +kernel
theorem d_O_scenario_22 : decode b_O_scenario 22 = .ok (.aload_n 0, 1) := by decide +kernel
theorem d_O_scenario_23 : decode b_O_scenario 23 = .ok (.getfield 21, 3) := by decide +kernel
theorem d_O_scenario_26 : decode b_O_scenario 26 = .ok (.aload 4, 2) := by decide +kernel
theorem d_O_scenario_28 : decode b_O_scenario 28 = .ok (.iload_n 2, 1) := by decide +kernel
theorem d_O_scenario_29 : decode b_O_scenario 29 = .ok (.iload_n 3, 1) := by decide +kernel
theorem d_O_scenario_30 : decode b_O_scenario 30 = .ok (.ifCond .ne 7, 3) := by decide +kernel
theorem d_O_scenario_33 : decode b_O_scenario 33 = .ok (.iconst 1, 1) := by decide +kernel
theorem d_O_scenario_34 : decode b_O_scenario 34 = .ok (.goto 4, 3) := by decide +kernel
theorem d_O_scenario_37 : decode b_O_scenario 37 = .ok (.iconst 0, 1) := by decide +kernel
theorem d_O_scenario_38 : decode b_O_scenario 38 = .ok (.invokevirtual 110, 3) := by decide +kernel
theorem d_O_scenario_41 : decode b_O_scenario 41 = .ok (.ireturn, 1) := by decide +kernel
theorem d_O_arrive_0 : decode b_O_arrive 0 = .ok (.aload_n 0, 1) := by decide +kernel
theorem d_O_arrive_1 : decode b_O_arrive 1 = .ok (.getfield 10, 3) := by decide +kernel
theorem d_O_arrive_4 : decode b_O_arrive 4 = .ok (.iload_n 1, 1) := by decide +kernel
theorem d_O_arrive_5 : decode b_O_arrive 5 = .ok (.invokevirtual 50, 3) := by decide +kernel
theorem d_O_arrive_8 : decode b_O_arrive 8 = .ok (.astore_n 2, 1) := by decide +kernel
theorem d_O_arrive_9 : decode b_O_arrive 9 = .ok (.aload_n 2, 1) := by decide +kernel
theorem d_O_arrive_10 : decode b_O_arrive 10 = .ok (.ifnull 28, 3) := by decide +kernel
theorem d_O_arrive_13 : decode b_O_arrive 13 = .ok (.aload_n 0, 1) := by decide +kernel
theorem d_O_arrive_14 : decode b_O_arrive 14 = .ok (.getfield 10, 3) := by decide +kernel
theorem d_O_arrive_17 : decode b_O_arrive 17 = .ok (.invokevirtual 80, 3) := by decide +kernel
theorem d_O_arrive_20 : decode b_O_arrive 20 = .ok (.ifCond .eq 18, 3) := by decide +kernel
theorem d_O_arrive_23 : decode b_O_arrive 23 = .ok (.aload_n 0, 1) := by decide +kernel
theorem d_O_arrive_24 : decode b_O_arrive 24 = .ok (.getfield 28, 3) := by decide +kernel
theorem d_O_arrive_27 : decode b_O_arrive 27 = .ok (.aload_n 2, 1) := by decide +kernel
theorem d_O_arrive_28 : decode b_O_arrive 28 = .ok (.invokevirtual 114, 3) := by decide +kernel
theorem d_O_arrive_31 : decode b_O_arrive 31 = .ok (.ifCond .eq 7, 3) := by decide +kernel
theorem d_O_arrive_34 : decode b_O_arrive 34 = .ok (.iconst 1, 1) := by decide +kernel
theorem d_O_arrive_35 : decode b_O_arrive 35 = .ok (.goto 4, 3) := by decide +kernel
theorem d_O_arrive_38 : decode b_O_arrive 38 = .ok (.iconst 0, 1) := by decide +kernel
theorem d_O_arrive_39 : decode b_O_arrive 39 = .ok (.ireturn, 1) := by decide +kernel
theorem d_O_tick_0 : decode b_O_tick 0 = .ok (.iload_n 1, 1) := by decide +kernel
theorem d_O_tick_1 : decode b_O_tick 1 = .ok (.iconst 1, 1) := by decide +kernel
theorem d_O_tick_2 : decode b_O_tick 2 = .ok (.if_icmp .lt 10, 3) := by decide +kernel
theorem d_O_tick_5 : decode b_O_tick 5 = .ok (.iload_n 1, 1) := by decide +kernel
theorem d_O_tick_6 : decode b_O_tick 6 = .ok (.sipush 2000, 3) := by decide +kernel
theorem d_O_tick_9 : decode b_O_tick 9 = .ok (.if_icmp .le 11, 3) := by decide +kernel
theorem d_O_tick_12 : decode b_O_tick 12 = .ok (.new 118, 3) := by decide +kernel
theorem d_O_tick_15 : decode b_O_tick 15 = .ok (.dup, 1) := by decide +kernel
theorem d_O_tick_16 : decode b_O_tick 16 = .ok (.invokespecial 120, 3) := by decide +kernel
theorem d_O_tick_19 : decode b_O_tick 19 = .ok (.athrow, 1) := by decide +kernel
theorem d_O_tick_20 : decode b_O_tick 20 = .ok (.aload_n 0, 1) := by decide +kernel
theorem d_O_tick_21 : decode b_O_tick 21 = .ok (.getfield 28, 3) := by decide +kernel
theorem d_O_tick_24 : decode b_O_tick 24 = .ok (.iload_n 1, 1) := by decide +kernel
theorem d_O_tick_25 : decode b_O_tick 25 = .ok (.invokevirtual 121, 3) := by decide +kernel
theorem d_O_tick_28 : decode b_O_tick 28 = .ok (.ireturn, 1) := by decide +kernel
theorem d_O_now_0 : decode b_O_now 0 = .ok (.aload_n 0, 1) := by decide +kernel
theorem d_O_now_1 : decode b_O_now 1 = .ok (.getfield 28, 3) := by decide +kernel
theorem d_O_now_4 : decode b_O_now 4 = .ok (.getfield 124, 3) := by decide +kernel
theorem d_O_now_7 : decode b_O_now 7 = .ok (.ireturn, 1) := by decide +kernel
theorem d_O_ended_0 : decode b_O_ended 0 = .ok (.aload_n 0, 1) := by decide +kernel
theorem d_O_ended_1 : decode b_O_ended 1 = .ok (.getfield 10, 3) := by decide +kernel
theorem d_O_ended_4 : decode b_O_ended 4 = .ok (.iload_n 1, 1) := by decide +kernel
theorem d_O_ended_5 : decode b_O_ended 5 = .ok (.invokevirtual 50, 3) := by decide +kernel
theorem d_O_ended_8 : decode b_O_ended 8 = .ok (.astore_n 3, 1) := by decide +kernel
theorem d_O_ended_9 : decode b_O_ended 9 = .ok (.aload_n 3, 1) := by decide +kernel
theorem d_O_ended_10 : decode b_O_ended 10 = .ok (.ifnonnull 7, 3) := by decide +kernel
theorem d_O_ended_13 : decode b_O_ended 13 = .ok (.iconst (-1), 1) := by decide +kernel
theorem d_O_ended_14 : decode b_O_ended 14 = .ok (.goto 11, 3) := by decide +kernel
theorem d_O_ended_17 : decode b_O_ended 17 = .ok (.aload_n 3, 1) := by decide +kernel
theorem d_O_ended_18 : decode b_O_ended 18 = .ok (.getfield 127, 3) := by decide +kernel
theorem d_O_ended_21 : decode b_O_ended 21 = .ok (.iload_n 2, 1) := by decide +kernel
theorem d_O_ended_22 : decode b_O_ended 22 = .ok (.invokevirtual 131, 3) := by decide +kernel
theorem d_O_ended_25 : decode b_O_ended 25 = .ok (.ireturn, 1) := by decide +kernel
theorem d_O_seen_0 : decode b_O_seen 0 = .ok (.aload_n 0, 1) := by decide +kernel
theorem d_O_seen_1 : decode b_O_seen 1 = .ok (.getfield 10, 3) := by decide +kernel
theorem d_O_seen_4 : decode b_O_seen 4 = .ok (.iload_n 1, 1) := by decide +kernel
theorem d_O_seen_5 : decode b_O_seen 5 = .ok (.invokevirtual 50, 3) := by decide +kernel
theorem d_O_seen_8 : decode b_O_seen 8 = .ok (.astore_n 3, 1) := by decide +kernel
theorem d_O_seen_9 : decode b_O_seen 9 = .ok (.aload_n 3, 1) := by decide +kernel
theorem d_O_seen_10 : decode b_O_seen 10 = .ok (.ifnonnull 5, 3) := by decide +kernel
theorem d_O_seen_13 : decode b_O_seen 13 = .ok (.iconst (-1), 1) := by decide +kernel
theorem d_O_seen_14 : decode b_O_seen 14 = .ok (.ireturn, 1) := by decide +kernel
theorem d_O_seen_15 : decode b_O_seen 15 = .ok (.iload_n 2, 1) := by decide +kernel
theorem d_O_seen_16 : decode b_O_seen 16 = .ok (.tableswitch 89 0 5 #[40, 48, 56, 64, 72, 80], 40) := by decide +kernel
theorem d_O_seen_56 : decode b_O_seen 56 = .ok (.aload_n 3, 1) := by decide +kernel
theorem d_O_seen_57 : decode b_O_seen 57 = .ok (.getfield 127, 3) := by decide +kernel
theorem d_O_seen_60 : decode b_O_seen 60 = .ok (.getfield 136, 3) := by decide +kernel
theorem d_O_seen_63 : decode b_O_seen 63 = .ok (.ireturn, 1) := by decide +kernel
theorem d_O_seen_64 : decode b_O_seen 64 = .ok (.aload_n 3, 1) := by decide +kernel
theorem d_O_seen_65 : decode b_O_seen 65 = .ok (.getfield 127, 3) := by decide +kernel
theorem d_O_seen_68 : decode b_O_seen 68 = .ok (.getfield 139, 3) := by decide +kernel
theorem d_O_seen_71 : decode b_O_seen 71 = .ok (.ireturn, 1) := by decide +kernel
theorem d_O_seen_72 : decode b_O_seen 72 = .ok (.aload_n 3, 1) := by decide +kernel
theorem d_O_seen_73 : decode b_O_seen 73 = .ok (.getfield 127, 3) := by decide +kernel
theorem d_O_seen_76 : decode b_O_seen 76 = .ok (.getfield 142, 3) := by decide +kernel
theorem d_O_seen_79 : decode b_O_seen 79 = .ok (.ireturn, 1) := by decide +kernel
theorem d_O_seen_80 : decode b_O_seen 80 = .ok (.aload_n 3, 1) := by decide +kernel
theorem d_O_seen_81 : decode b_O_seen 81 = .ok (.getfield 127, 3) := by decide +kernel
theorem d_O_seen_84 : decode b_O_seen 84 = .ok (.getfield 145, 3) := by decide +kernel
theorem d_O_seen_87 : decode b_O_seen 87 = .ok (.ireturn, 1) := by decide +kernel
theorem d_O_seen_88 : decode b_O_seen 88 = .ok (.aload_n 3, 1) := by decide +kernel
theorem d_O_seen_89 : decode b_O_seen 89 = .ok (.getfield 127, 3) := by decide +kernel
theorem d_O_seen_92 : decode b_O_seen 92 = .ok (.getfield 148, 3) := by decide +kernel
theorem d_O_seen_95 : decode b_O_seen 95 = .ok (.ireturn, 1) := by decide +kernel
theorem d_O_seen_96 : decode b_O_seen 96 = .ok (.aload_n 0, 1) := by decide +kernel
theorem d_O_seen_97 : decode b_O_seen 97 = .ok (.getfield 28, 3) := by decide +kernel
theorem d_O_seen_100 : decode b_O_seen 100 = .ok (.aload_n 3, 1) := by decide +kernel
theorem d_O_seen_101 : decode b_O_seen 101 = .ok (.invokevirtual 151, 3) := by decide +kernel
theorem d_O_seen_104 : decode b_O_seen 104 = .ok (.ireturn, 1) := by decide +kernel
theorem d_O_seen_105 : decode b_O_seen 105 = .ok (.iconst (-1), 1) := by decide +kernel
theorem d_O_seen_106 : decode b_O_seen 106 = .ok (.ireturn, 1) := by decide +kernel
theorem d_O_readyTask_0 : decode b_O_readyTask 0 = .ok (.aload_n 0, 1) := by decide +kernel
theorem d_O_readyTask_1 : decode b_O_readyTask 1 = .ok (.getfield 10, 3) := by decide +kernel
theorem d_O_readyTask_4 : decode b_O_readyTask 4 = .ok (.iload_n 1, 1) := by decide +kernel
theorem d_O_readyTask_5 : decode b_O_readyTask 5 = .ok (.invokevirtual 50, 3) := by decide +kernel
theorem d_O_readyTask_8 : decode b_O_readyTask 8 = .ok (.astore_n 2, 1) := by decide +kernel
theorem d_O_readyTask_9 : decode b_O_readyTask 9 = .ok (.aload_n 2, 1) := by decide +kernel
theorem d_O_readyTask_10 : decode b_O_readyTask 10 = .ok (.ifnonnull 11, 3) := by decide +kernel
theorem d_O_readyTask_13 : decode b_O_readyTask 13 = .ok (.new 154, 3) := by decide +kernel
theorem d_O_readyTask_16 : decode b_O_readyTask 16 = .ok (.dup, 1) := by decide +kernel
theorem d_O_readyTask_17 : decode b_O_readyTask 17 = .ok (.invokespecial 156, 3) := by decide +kernel
theorem d_O_readyTask_20 : decode b_O_readyTask 20 = .ok (.athrow, 1) := by decide +kernel
theorem d_O_readyTask_21 : decode b_O_readyTask 21 = .ok (.aload_n 0, 1) := by decide +kernel
theorem d_O_readyTask_22 : decode b_O_readyTask 22 = .ok (.getfield 10, 3) := by decide +kernel
theorem d_O_readyTask_25 : decode b_O_readyTask 25 = .ok (.invokevirtual 80, 3) := by decide +kernel
theorem d_O_readyTask_28 : decode b_O_readyTask 28 = .ok (.ifCond .ne 11, 3) := by decide +kernel
theorem d_O_readyTask_31 : decode b_O_readyTask 31 = .ok (.new 84, 3) := by decide +kernel
theorem d_O_readyTask_34 : decode b_O_readyTask 34 = .ok (.dup, 1) := by decide +kernel
theorem d_O_readyTask_35 : decode b_O_readyTask 35 = .ok (.invokespecial 86, 3) := by decide +kernel
theorem d_O_readyTask_38 : decode b_O_readyTask 38 = .ok (.athrow, 1) := by decide +kernel
theorem d_O_readyTask_39 : decode b_O_readyTask 39 = .ok (.aload_n 2, 1) := by decide +kernel
theorem d_O_readyTask_40 : decode b_O_readyTask 40 = .ok (.areturn, 1) := by decide +kernel
theorem d_O_surveyedTask_0 : decode b_O_surveyedTask 0 = .ok (.aload_n 0, 1) := by decide +kernel
theorem d_O_surveyedTask_1 : decode b_O_surveyedTask 1 = .ok (.iload_n 1, 1) := by decide +kernel
theorem d_O_surveyedTask_2 : decode b_O_surveyedTask 2 = .ok (.invokevirtual 101, 3) := by decide +kernel
theorem d_O_surveyedTask_5 : decode b_O_surveyedTask 5 = .ok (.astore_n 2, 1) := by decide +kernel
theorem d_O_surveyedTask_6 : decode b_O_surveyedTask 6 = .ok (.aload_n 0, 1) := by decide +kernel
theorem d_O_surveyedTask_7 : decode b_O_surveyedTask 7 = .ok (.getfield 21, 3) := by decide +kernel
theorem d_O_surveyedTask_10 : decode b_O_surveyedTask 10 = .ok (.aload_n 2, 1) := by decide +kernel
theorem d_O_surveyedTask_11 : decode b_O_surveyedTask 11 = .ok (.invokevirtual 157, 3) := by decide +kernel
theorem d_O_surveyedTask_14 : decode b_O_surveyedTask 14 = .ok (.aload_n 2, 1) := by decide +kernel
theorem d_O_surveyedTask_15 : decode b_O_surveyedTask 15 = .ok (.invokevirtual 161, 3) := by decide +kernel
theorem d_O_surveyedTask_18 : decode b_O_surveyedTask 18 = .ok (.ifCond .eq 11, 3) := by decide +kernel
theorem d_O_surveyedTask_21 : decode b_O_surveyedTask 21 = .ok (.new 164, 3) := by decide +kernel
theorem d_O_surveyedTask_24 : decode b_O_surveyedTask 24 = .ok (.dup, 1) := by decide +kernel
theorem d_O_surveyedTask_25 : decode b_O_surveyedTask 25 = .ok (.invokespecial 166, 3) := by decide +kernel
theorem d_O_surveyedTask_28 : decode b_O_surveyedTask 28 = .ok (.athrow, 1) := by decide +kernel
theorem d_O_surveyedTask_29 : decode b_O_surveyedTask 29 = .ok (.aload_n 2, 1) := by decide +kernel
theorem d_O_surveyedTask_30 : decode b_O_surveyedTask 30 = .ok (.areturn, 1) := by decide +kernel
theorem d_S_init_0 : decode b_S_init 0 = .ok (.aload_n 0, 1) := by decide +kernel
theorem d_S_init_1 : decode b_S_init 1 = .ok (.invokespecial 3, 3) := by decide +kernel
theorem d_S_init_4 : decode b_S_init 4 = .ok (.aload_n 0, 1) := by decide +kernel
theorem d_S_init_5 : decode b_S_init 5 = .ok (.bipush 8, 2) := by decide +kernel
theorem d_S_init_7 : decode b_S_init 7 = .ok (.anewarray 9, 3) := by decide +kernel
theorem d_S_init_10 : decode b_S_init 10 = .ok (.putfield 11, 3) := by decide +kernel
theorem d_S_init_13 : decode b_S_init 13 = .ok (.aload_n 0, 1) := by decide +kernel
theorem d_S_init_14 : decode b_S_init 14 = .ok (.bipush 8, 2) := by decide +kernel
theorem d_S_init_16 : decode b_S_init 16 = .ok (.anewarray 9, 3) := by decide +kernel
theorem d_S_init_19 : decode b_S_init 19 = .ok (.putfield 17, 3) := by decide +kernel
theorem d_S_init_22 : decode b_S_init 22 = .ok (.iconst 0, 1) := by decide +kernel
theorem d_S_init_23 : decode b_S_init 23 = .ok (.istore_n 1, 1) := by decide +kernel
theorem d_S_init_24 : decode b_S_init 24 = .ok (.iload_n 1, 1) := by decide +kernel
theorem d_S_init_25 : decode b_S_init 25 = .ok (.bipush 8, 2) := by decide +kernel
theorem d_S_init_27 : decode b_S_init 27 = .ok (.if_icmp .ge 37, 3) := by decide +kernel
theorem d_S_init_30 : decode b_S_init 30 = .ok (.aload_n 0, 1) := by decide +kernel
theorem d_S_init_31 : decode b_S_init 31 = .ok (.getfield 11, 3) := by decide +kernel
theorem d_S_init_34 : decode b_S_init 34 = .ok (.iload_n 1, 1) := by decide +kernel
theorem d_S_init_35 : decode b_S_init 35 = .ok (.new 9, 3) := by decide +kernel
theorem d_S_init_38 : decode b_S_init 38 = .ok (.dup, 1) := by decide +kernel
theorem d_S_init_39 : decode b_S_init 39 = .ok (.iload_n 1, 1) := by decide +kernel
theorem d_S_init_40 : decode b_S_init 40 = .ok (.iconst 1, 1) := by decide +kernel
theorem d_S_init_41 : decode b_S_init 41 = .ok (.iadd, 1) := by decide +kernel
theorem d_S_init_42 : decode b_S_init 42 = .ok (.invokespecial 20, 3) := by decide +kernel
theorem d_S_init_45 : decode b_S_init 45 = .ok (.aastore, 1) := by decide +kernel
theorem d_S_init_46 : decode b_S_init 46 = .ok (.aload_n 0, 1) := by decide +kernel
theorem d_S_init_47 : decode b_S_init 47 = .ok (.getfield 17, 3) := by decide +kernel
theorem d_S_init_50 : decode b_S_init 50 = .ok (.iload_n 1, 1) := by decide +kernel
theorem d_S_init_51 : decode b_S_init 51 = .ok (.aload_n 0, 1) := by decide +kernel
theorem d_S_init_52 : decode b_S_init 52 = .ok (.getfield 11, 3) := by decide +kernel
theorem d_S_init_55 : decode b_S_init 55 = .ok (.iload_n 1, 1) := by decide +kernel
theorem d_S_init_56 : decode b_S_init 56 = .ok (.aaload, 1) := by decide +kernel
theorem d_S_init_57 : decode b_S_init 57 = .ok (.aastore, 1) := by decide +kernel
theorem d_S_init_58 : decode b_S_init 58 = .ok (.iinc 1 1, 3) := by decide +kernel
theorem d_S_init_61 : decode b_S_init 61 = .ok (.goto (-37), 3) := by decide +kernel
theorem d_S_init_64 : decode b_S_init 64 = .ok (.return_, 1) := by decide +kernel
theorem d_S_find_0 : decode b_S_find 0 = .ok (.iload_n 1, 1) := by decide +kernel
theorem d_S_find_1 : decode b_S_find 1 = .ok (.iconst 1, 1) := by decide +kernel
theorem d_S_find_2 : decode b_S_find 2 = .ok (.if_icmp .lt 9, 3) := by decide +kernel
theorem d_S_find_5 : decode b_S_find 5 = .ok (.iload_n 1, 1) := by decide +kernel
theorem d_S_find_6 : decode b_S_find 6 = .ok (.bipush 8, 2) := by decide +kernel
theorem d_S_find_8 : decode b_S_find 8 = .ok (.if_icmp .le 5, 3) := by decide +kernel
theorem d_S_find_11 : decode b_S_find 11 = .ok (.aconst_null, 1) := by decide +kernel
theorem d_S_find_12 : decode b_S_find 12 = .ok (.areturn, 1) := by decide +kernel
theorem d_S_find_13 : decode b_S_find 13 = .ok (.aload_n 0, 1) := by decide +kernel
theorem d_S_find_14 : decode b_S_find 14 = .ok (.getfield 11, 3) := by decide +kernel
theorem d_S_find_17 : decode b_S_find 17 = .ok (.iload_n 1, 1) := by decide +kernel
theorem d_S_find_18 : decode b_S_find 18 = .ok (.iconst 1, 1) := by decide +kernel
theorem d_S_find_19 : decode b_S_find 19 = .ok (.isub, 1) := by decide +kernel
theorem d_S_find_20 : decode b_S_find 20 = .ok (.aaload, 1) := by decide +kernel
theorem d_S_find_21 : decode b_S_find 21 = .ok (.astore_n 2, 1) := by decide +kernel
theorem d_S_find_22 : decode b_S_find 22 = .ok (.aload_n 2, 1) := by decide +kernel
theorem d_S_find_23 : decode b_S_find 23 = .ok (.getfield 23, 3) := by decide +kernel
theorem d_S_find_26 : decode b_S_find 26 = .ok (.aload_n 0, 1) := by decide +kernel
theorem d_S_find_27 : decode b_S_find 27 = .ok (.getfield 27, 3) := by decide +kernel
theorem d_S_find_30 : decode b_S_find 30 = .ok (.if_icmp .ge 7, 3) := by decide +kernel
theorem d_S_find_33 : decode b_S_find 33 = .ok (.aload_n 2, 1) := by decide +kernel
theorem d_S_find_34 : decode b_S_find 34 = .ok (.goto 4, 3) := by decide +kernel
theorem d_S_find_37 : decode b_S_find 37 = .ok (.aconst_null, 1) := by decide +kernel
theorem d_S_find_38 : decode b_S_find 38 = .ok (.areturn, 1) := by decide +kernel
theorem d_S_add_0 : decode b_S_add 0 = .ok (.iload_n 1, 1) := by decide +kernel
theorem d_S_add_1 : decode b_S_add 1 = .ok (.iconst 1, 1) := by decide +kernel
theorem d_S_add_2 : decode b_S_add 2 = .ok (.if_icmp .lt 21, 3) := by decide +kernel
theorem d_S_add_5 : decode b_S_add 5 = .ok (.iload_n 1, 1) := by decide +kernel
theorem d_S_add_6 : decode b_S_add 6 = .ok (.bipush 8, 2) := by decide +kernel
theorem d_S_add_8 : decode b_S_add 8 = .ok (.if_icmp .gt 15, 3) := by decide +kernel
theorem d_S_add_11 : decode b_S_add 11 = .ok (.iload_n 2, 1) := by decide +kernel
theorem d_S_add_12 : decode b_S_add 12 = .ok (.iconst 1, 1) := by decide +kernel
theorem d_S_add_13 : decode b_S_add 13 = .ok (.if_icmp .lt 10, 3) := by decide +kernel
theorem d_S_add_16 : decode b_S_add 16 = .ok (.iload_n 2, 1) := by decide +kernel
theorem d_S_add_17 : decode b_S_add 17 = .ok (.sipush 1000, 3) := by decide +kernel
theorem d_S_add_20 : decode b_S_add 20 = .ok (.if_icmp .le 5, 3) := by decide +kernel
theorem d_S_add_23 : decode b_S_add 23 = .ok (.iconst 0, 1) := by decide +kernel
theorem d_S_add_24 : decode b_S_add 24 = .ok (.ireturn, 1) := by decide +kernel
theorem d_S_add_25 : decode b_S_add 25 = .ok (.iload_n 3, 1) := by decide +kernel
theorem d_S_add_26 : decode b_S_add 26 = .ok (.iconst 1, 1) := by decide +kernel
theorem d_S_add_27 : decode b_S_add 27 = .ok (.if_icmp .lt 11, 3) := by decide +kernel
theorem d_S_add_30 : decode b_S_add 30 = .ok (.iload_n 3, 1) := by decide +kernel
theorem d_S_add_31 : decode b_S_add 31 = .ok (.bipush 8, 2) := by decide +kernel
theorem d_S_add_33 : decode b_S_add 33 = .ok (.iload_n 2, 1) := by decide +kernel
theorem d_S_add_34 : decode b_S_add 34 = .ok (.imul, 1) := by decide +kernel
theorem d_S_add_35 : decode b_S_add 35 = .ok (.if_icmp .le 5, 3) := by decide +kernel
theorem d_S_add_38 : decode b_S_add 38 = .ok (.iconst 0, 1) := by decide +kernel
theorem d_S_add_39 : decode b_S_add 39 = .ok (.ireturn, 1) := by decide +kernel
theorem d_S_add_40 : decode b_S_add 40 = .ok (.iload 4, 2) := by decide +kernel
theorem d_S_add_42 : decode b_S_add 42 = .ok (.ifCond .lt 27, 3) := by decide +kernel
theorem d_S_add_45 : decode b_S_add 45 = .ok (.iload 4, 2) := by decide +kernel
theorem d_S_add_47 : decode b_S_add 47 = .ok (.bipush 99, 2) := by decide +kernel
theorem d_S_add_49 : decode b_S_add 49 = .ok (.if_icmp .gt 20, 3) := by decide +kernel
theorem d_S_add_52 : decode b_S_add 52 = .ok (.aload_n 0, 1) := by decide +kernel
theorem d_S_add_53 : decode b_S_add 53 = .ok (.iload 4, 2) := by decide +kernel
theorem d_S_add_55 : decode b_S_add 55 = .ok (.invokevirtual 30, 3) := by decide +kernel
theorem d_S_add_58 : decode b_S_add 58 = .ok (.ifCond .ne 11, 3) := by decide +kernel
theorem d_S_add_61 : decode b_S_add 61 = .ok (.aload_n 0, 1) := by decide +kernel
theorem d_S_add_62 : decode b_S_add 62 = .ok (.iload_n 1, 1) := by decide +kernel
theorem d_S_add_63 : decode b_S_add 63 = .ok (.invokevirtual 34, 3) := by decide +kernel
theorem d_S_add_66 : decode b_S_add 66 = .ok (.ifnull 5, 3) := by decide +kernel
theorem d_S_add_69 : decode b_S_add 69 = .ok (.iconst 0, 1) := by decide +kernel
theorem d_S_add_70 : decode b_S_add 70 = .ok (.ireturn, 1) := by decide +kernel
theorem d_S_add_71 : decode b_S_add 71 = .ok (.aload_n 0, 1) := by decide +kernel
theorem d_S_add_72 : decode b_S_add 72 = .ok (.getfield 11, 3) := by decide +kernel
theorem d_S_add_75 : decode b_S_add 75 = .ok (.iload_n 1, 1) := by decide +kernel
theorem d_S_add_76 : decode b_S_add 76 = .ok (.iconst 1, 1) := by decide +kernel
theorem d_S_add_77 : decode b_S_add 77 = .ok (.isub, 1) := by decide +kernel
theorem d_S_add_78 : decode b_S_add 78 = .ok (.aaload, 1) := by decide +kernel
theorem d_S_add_79 : decode b_S_add 79 = .ok (.iload_n 2, 1) := by decide +kernel
theorem d_S_add_80 : decode b_S_add 80 = .ok (.iload_n 3, 1) := by decide +kernel
theorem d_S_add_81 : decode b_S_add 81 = .ok (.iload 4, 2) := by decide +kernel
theorem d_S_add_83 : decode b_S_add 83 = .ok (.invokevirtual 38, 3) := by decide +kernel
theorem d_S_add_86 : decode b_S_add 86 = .ok (.aload_n 0, 1) := by decide +kernel
theorem d_S_add_87 : decode b_S_add 87 = .ok (.aload_n 0, 1) := by decide +kernel
theorem d_S_add_88 : decode b_S_add 88 = .ok (.getfield 11, 3) := by decide +kernel
theorem d_S_add_91 : decode b_S_add 91 = .ok (.iload_n 1, 1) := by decide +kernel
theorem d_S_add_92 : decode b_S_add 92 = .ok (.iconst 1, 1) := by decide +kernel
theorem d_S_add_93 : decode b_S_add 93 = .ok (.isub, 1) := by decide +kernel
theorem d_S_add_94 : decode b_S_add 94 = .ok (.aaload, 1) := by decide +kernel
theorem d_S_add_95 : decode b_S_add 95 = .ok (.invokevirtual 42, 3) := by decide +kernel
theorem d_S_add_98 : decode b_S_add 98 = .ok (.aload_n 0, 1) := by decide +kernel
theorem d_S_add_99 : decode b_S_add 99 = .ok (.invokevirtual 46, 3) := by decide +kernel
theorem d_S_add_102 : decode b_S_add 102 = .ok (.iconst 1, 1) := by decide +kernel
theorem d_S_add_103 : decode b_S_add 103 = .ok (.ireturn, 1) := by decide +kernel
theorem d_S_addSegment_0 : decode b_S_addSegment 0 = .ok (.aload_n 0, 1) := by decide +kernel
theorem d_S_addSegment_1 : decode b_S_addSegment 1 = .ok (.iload_n 1, 1) := by decide +kernel
theorem d_S_addSegment_2 : decode b_S_addSegment 2 = .ok (.invokevirtual 34, 3) := by decide +kernel
theorem d_S_addSegment_5 : decode b_S_addSegment 5 = .ok (.astore_n 3, 1) := by decide +kernel
theorem d_S_addSegment_6 : decode b_S_addSegment 6 = .ok (.aload_n 3, 1) := by decide +kernel
theorem d_S_addSegment_7 : decode b_S_addSegment 7 = .ok (.ifnull 11, 3) := by decide +kernel
theorem d_S_addSegment_10 : decode b_S_addSegment 10 = .ok (.aload_n 3, 1) := by decide +kernel
theorem d_S_addSegment_11 : decode b_S_addSegment 11 = .ok (.iload_n 2, 1) := by decide +kernel
theorem d_S_addSegment_12 : decode b_S_addSegment 12 = .ok (.invokevirtual 49, 3) := by decide +kernel
theorem d_S_addSegment_15 : decode b_S_addSegment 15 = .ok (.ifCond .ne 5, 3) := by decide +kernel
theorem d_S_addSegment_18 : decode b_S_addSegment 18 = .ok (.iconst 0, 1) := by decide +kernel
theorem d_S_addSegment_19 : decode b_S_addSegment 19 = .ok (.ireturn, 1) := by decide +kernel
theorem d_S_addSegment_20 : decode b_S_addSegment 20 = .ok (.aload_n 0, 1) := by decide +kernel
theorem d_S_addSegment_21 : decode b_S_addSegment 21 = .ok (.invokevirtual 46, 3) := by decide +kernel
theorem d_S_addSegment_24 : decode b_S_addSegment 24 = .ok (.iconst 1, 1) := by decide +kernel
theorem d_S_addSegment_25 : decode b_S_addSegment 25 = .ok (.ireturn, 1) := by decide +kernel
theorem d_S_forgetTasks_0 : decode b_S_forgetTasks 0 = .ok (.aload_n 0, 1) := by decide +kernel
theorem d_S_forgetTasks_1 : decode b_S_forgetTasks 1 = .ok (.iconst 0, 1) := by decide +kernel
theorem d_S_forgetTasks_2 : decode b_S_forgetTasks 2 = .ok (.putfield 27, 3) := by decide +kernel
theorem d_S_forgetTasks_5 : decode b_S_forgetTasks 5 = .ok (.return_, 1) := by decide +kernel
theorem d_S_forgetFindings_0 : decode b_S_forgetFindings 0 = .ok (.iconst 0, 1) := by decide +kernel
theorem d_S_forgetFindings_1 : decode b_S_forgetFindings 1 = .ok (.istore_n 1, 1) := by decide +kernel
theorem d_S_forgetFindings_2 : decode b_S_forgetFindings 2 = .ok (.iload_n 1, 1) := by decide +kernel
theorem d_S_forgetFindings_3 : decode b_S_forgetFindings 3 = .ok (.aload_n 0, 1) := by decide +kernel
theorem d_S_forgetFindings_4 : decode b_S_forgetFindings 4 = .ok (.getfield 27, 3) := by decide +kernel
theorem d_S_forgetFindings_7 : decode b_S_forgetFindings 7 = .ok (.if_icmp .ge 18, 3) := by decide +kernel
theorem d_S_forgetFindings_10 : decode b_S_forgetFindings 10 = .ok (.aload_n 0, 1) := by decide +kernel
theorem d_S_forgetFindings_11 : decode b_S_forgetFindings 11 = .ok (.getfield 17, 3) := by decide +kernel
theorem d_S_forgetFindings_14 : decode b_S_forgetFindings 14 = .ok (.iload_n 1, 1) := by decide +kernel
theorem d_S_forgetFindings_15 : decode b_S_forgetFindings 15 = .ok (.aaload, 1) := by decide +kernel
theorem d_S_forgetFindings_16 : decode b_S_forgetFindings 16 = .ok (.invokevirtual 52, 3) := by decide +kernel
theorem d_S_forgetFindings_19 : decode b_S_forgetFindings 19 = .ok (.iinc 1 1, 3) := by decide +kernel
theorem d_S_forgetFindings_22 : decode b_S_forgetFindings 22 = .ok (.goto (-20), 3) := by decide +kernel
theorem d_S_forgetFindings_25 : decode b_S_forgetFindings 25 = .ok (.return_, 1) := by decide +kernel
theorem d_S_isReady_0 : decode b_S_isReady 0 = .ok (.iconst 0, 1) := by decide +kernel
theorem d_S_isReady_1 : decode b_S_isReady 1 = .ok (.istore_n 1, 1) := by decide +kernel
theorem d_S_isReady_2 : decode b_S_isReady 2 = .ok (.iload_n 1, 1) := by decide +kernel
theorem d_S_isReady_3 : decode b_S_isReady 3 = .ok (.aload_n 0, 1) := by decide +kernel
theorem d_S_isReady_4 : decode b_S_isReady 4 = .ok (.getfield 27, 3) := by decide +kernel
theorem d_S_isReady_7 : decode b_S_isReady 7 = .ok (.if_icmp .ge 23, 3) := by decide +kernel
theorem d_S_isReady_10 : decode b_S_isReady 10 = .ok (.aload_n 0, 1) := by decide +kernel
theorem d_S_isReady_11 : decode b_S_isReady 11 = .ok (.getfield 17, 3) := by decide +kernel
theorem d_S_isReady_14 : decode b_S_isReady 14 = .ok (.iload_n 1, 1) := by decide +kernel
theorem d_S_isReady_15 : decode b_S_isReady 15 = .ok (.aaload, 1) := by decide +kernel
theorem d_S_isReady_16 : decode b_S_isReady 16 = .ok (.getfield 53, 3) := by decide +kernel
theorem d_S_isReady_19 : decode b_S_isReady 19 = .ok (.ifCond .ne 5, 3) := by decide +kernel
theorem d_S_isReady_22 : decode b_S_isReady 22 = .ok (.iconst 0, 1) := by decide +kernel
theorem d_S_isReady_23 : decode b_S_isReady 23 = .ok (.ireturn, 1) := by decide +kernel
theorem d_S_isReady_24 : decode b_S_isReady 24 = .ok (.iinc 1 1, 3) := by decide +kernel
theorem d_S_isReady_27 : decode b_S_isReady 27 = .ok (.goto (-25), 3) := by decide +kernel
theorem d_S_isReady_30 : decode b_S_isReady 30 = .ok (.aload_n 0, 1) := by decide +kernel
theorem d_S_isReady_31 : decode b_S_isReady 31 = .ok (.getfield 27, 3) := by decide +kernel
theorem d_S_isReady_34 : decode b_S_isReady 34 = .ok (.ifCond .le 7, 3) := by decide +kernel
theorem d_S_isReady_37 : decode b_S_isReady 37 = .ok (.iconst 1, 1) := by decide +kernel
theorem d_S_isReady_38 : decode b_S_isReady 38 = .ok (.goto 4, 3) := by decide +kernel
theorem d_S_isReady_41 : decode b_S_isReady 41 = .ok (.iconst 0, 1) := by decide +kernel
theorem d_S_isReady_42 : decode b_S_isReady 42 = .ok (.ireturn, 1) := by decide +kernel
theorem d_S_longestBelow_0 : decode b_S_longestBelow 0 = .ok (.iconst 0, 1) := by decide +kernel
theorem d_S_longestBelow_1 : decode b_S_longestBelow 1 = .ok (.istore_n 2, 1) := by decide +kernel
theorem d_S_longestBelow_2 : decode b_S_longestBelow 2 = .ok (.aload_n 1, 1) := by decide +kernel
theorem d_S_longestBelow_3 : decode b_S_longestBelow 3 = .ok (.getfield 23, 3) := by decide +kernel
theorem d_S_longestBelow_6 : decode b_S_longestBelow 6 = .ok (.iconst 1, 1) := by decide +kernel
theorem d_S_longestBelow_7 : decode b_S_longestBelow 7 = .ok (.iadd, 1) := by decide +kernel
theorem d_S_longestBelow_8 : decode b_S_longestBelow 8 = .ok (.istore_n 3, 1) := by decide +kernel
theorem d_S_longestBelow_9 : decode b_S_longestBelow 9 = .ok (.iload_n 3, 1) := by decide +kernel
theorem d_S_longestBelow_10 : decode b_S_longestBelow 10 = .ok (.aload_n 0, 1) := by decide +kernel
theorem d_S_longestBelow_11 : decode b_S_longestBelow 11 = .ok (.getfield 27, 3) := by decide +kernel
theorem d_S_longestBelow_14 : decode b_S_longestBelow 14 = .ok (.if_icmp .ge 23, 3) := by decide +kernel
theorem d_S_longestBelow_17 : decode b_S_longestBelow 17 = .ok (.iload_n 2, 1) := by decide +kernel
theorem d_S_longestBelow_18 : decode b_S_longestBelow 18 = .ok (.aload_n 0, 1) := by decide +kernel
theorem d_S_longestBelow_19 : decode b_S_longestBelow 19 = .ok (.getfield 17, 3) := by decide +kernel
theorem d_S_longestBelow_22 : decode b_S_longestBelow 22 = .ok (.iload_n 3, 1) := by decide +kernel
theorem d_S_longestBelow_23 : decode b_S_longestBelow 23 = .ok (.aaload, 1) := by decide +kernel
theorem d_S_longestBelow_24 : decode b_S_longestBelow 24 = .ok (.invokevirtual 56, 3) := by decide +kernel
theorem d_S_longestBelow_27 : decode b_S_longestBelow 27 = .ok (.invokestatic 60, 3) := by decide +kernel
theorem d_S_longestBelow_30 : decode b_S_longestBelow 30 = .ok (.istore_n 2, 1) := by decide +kernel
theorem d_S_longestBelow_31 : decode b_S_longestBelow 31 = .ok (.iinc 3 1, 3) := by decide +kernel
theorem d_S_longestBelow_34 : decode b_S_longestBelow 34 = .ok (.goto (-25), 3) := by decide +kernel
theorem d_S_longestBelow_37 : decode b_S_longestBelow 37 = .ok (.iload_n 2, 1) := by decide +kernel
theorem d_S_longestBelow_38 : decode b_S_longestBelow 38 = .ok (.ireturn, 1) := by decide +kernel
theorem d_S_blockingOf_0 : decode b_S_blockingOf 0 = .ok (.iconst 0, 1) := by decide +kernel
theorem d_S_blockingOf_1 : decode b_S_blockingOf 1 = .ok (.aload_n 0, 1) := by decide +kernel
theorem d_S_blockingOf_2 : decode b_S_blockingOf 2 = .ok (.aload_n 1, 1) := by decide +kernel
theorem d_S_blockingOf_3 : decode b_S_blockingOf 3 = .ok (.invokevirtual 66, 3) := by decide +kernel
theorem d_S_blockingOf_6 : decode b_S_blockingOf 6 = .ok (.iconst 1, 1) := by decide +kernel
theorem d_S_blockingOf_7 : decode b_S_blockingOf 7 = .ok (.isub, 1) := by decide +kernel
theorem d_S_blockingOf_8 : decode b_S_blockingOf 8 = .ok (.invokestatic 60, 3) := by decide +kernel
theorem d_S_blockingOf_11 : decode b_S_blockingOf 11 = .ok (.ireturn, 1) := by decide +kernel
theorem d_S_hasPriority_0 : decode b_S_hasPriority 0 = .ok (.iconst 0, 1) := by decide +kernel
theorem d_S_hasPriority_1 : decode b_S_hasPriority 1 = .ok (.istore_n 2, 1) := by decide +kernel
theorem d_S_hasPriority_2 : decode b_S_hasPriority 2 = .ok (.iload_n 2, 1) := by decide +kernel
theorem d_S_hasPriority_3 : decode b_S_hasPriority 3 = .ok (.aload_n 0, 1) := by decide +kernel
theorem d_S_hasPriority_4 : decode b_S_hasPriority 4 = .ok (.getfield 27, 3) := by decide +kernel
theorem d_S_hasPriority_7 : decode b_S_hasPriority 7 = .ok (.if_icmp .ge 24, 3) := by decide +kernel
theorem d_S_hasPriority_10 : decode b_S_hasPriority 10 = .ok (.aload_n 0, 1) := by decide +kernel
theorem d_S_hasPriority_11 : decode b_S_hasPriority 11 = .ok (.getfield 17, 3) := by decide +kernel
theorem d_S_hasPriority_14 : decode b_S_hasPriority 14 = .ok (.iload_n 2, 1) := by decide +kernel
theorem d_S_hasPriority_15 : decode b_S_hasPriority 15 = .ok (.aaload, 1) := by decide +kernel
theorem d_S_hasPriority_16 : decode b_S_hasPriority 16 = .ok (.getfield 70, 3) := by decide +kernel
theorem d_S_hasPriority_19 : decode b_S_hasPriority 19 = .ok (.iload_n 1, 1) := by decide +kernel
theorem d_S_hasPriority_20 : decode b_S_hasPriority 20 = .ok (.if_icmp .ne 5, 3) := by decide +kernel
theorem d_S_hasPriority_23 : decode b_S_hasPriority 23 = .ok (.iconst 1, 1) := by decide +kernel
theorem d_S_hasPriority_24 : decode b_S_hasPriority 24 = .ok (.ireturn, 1) := by decide +kernel
theorem d_S_hasPriority_25 : decode b_S_hasPriority 25 = .ok (.iinc 2 1, 3) := by decide +kernel
theorem d_S_hasPriority_28 : decode b_S_hasPriority 28 = .ok (.goto (-26), 3) := by decide +kernel
theorem d_S_hasPriority_31 : decode b_S_hasPriority 31 = .ok (.iconst 0, 1) := by decide +kernel
theorem d_S_hasPriority_32 : decode b_S_hasPriority 32 = .ok (.ireturn, 1) := by decide +kernel
theorem d_S_place_0 : decode b_S_place 0 = .ok (.aload_n 0, 1) := by decide +kernel
theorem d_S_place_1 : decode b_S_place 1 = .ok (.aload_n 1, 1) := by decide +kernel
theorem d_S_place_2 : decode b_S_place 2 = .ok (.getfield 23, 3) := by decide +kernel
theorem d_S_place_5 : decode b_S_place 5 = .ok (.aload_n 0, 1) := by decide +kernel
theorem d_S_place_6 : decode b_S_place 6 = .ok (.getfield 27, 3) := by decide +kernel
theorem d_S_place_9 : decode b_S_place 9 = .ok (.invokevirtual 73, 3) := by decide +kernel
theorem d_S_place_12 : decode b_S_place 12 = .ok (.aload_n 0, 1) := by decide +kernel
theorem d_S_place_13 : decode b_S_place 13 = .ok (.getfield 27, 3) := by decide +kernel
theorem d_S_place_16 : decode b_S_place 16 = .ok (.istore_n 2, 1) := by decide +kernel
theorem d_S_place_17 : decode b_S_place 17 = .ok (.iload_n 2, 1) := by decide +kernel
theorem d_S_place_18 : decode b_S_place 18 = .ok (.ifCond .le 40, 3) := by decide +kernel
theorem d_S_place_21 : decode b_S_place 21 = .ok (.aload_n 0, 1) := by decide +kernel
theorem d_S_place_22 : decode b_S_place 22 = .ok (.getfield 17, 3) := by decide +kernel
theorem d_S_place_25 : decode b_S_place 25 = .ok (.iload_n 2, 1) := by decide +kernel
theorem d_S_place_26 : decode b_S_place 26 = .ok (.iconst 1, 1) := by decide +kernel
theorem d_S_place_27 : decode b_S_place 27 = .ok (.isub, 1) := by decide +kernel
theorem d_S_place_28 : decode b_S_place 28 = .ok (.aaload, 1) := by decide +kernel
theorem d_S_place_29 : decode b_S_place 29 = .ok (.getfield 70, 3) := by decide +kernel
theorem d_S_place_32 : decode b_S_place 32 = .ok (.aload_n 0, 1) := by decide +kernel
theorem d_S_place_33 : decode b_S_place 33 = .ok (.getfield 17, 3) := by decide +kernel
theorem d_S_place_36 : decode b_S_place 36 = .ok (.iload_n 2, 1) := by decide +kernel
theorem d_S_place_37 : decode b_S_place 37 = .ok (.aaload, 1) := by decide +kernel
theorem d_S_place_38 : decode b_S_place 38 = .ok (.getfield 70, 3) := by decide +kernel
theorem d_S_place_41 : decode b_S_place 41 = .ok (.if_icmp .ge 17, 3) := by decide +kernel
theorem d_S_place_44 : decode b_S_place 44 = .ok (.aload_n 0, 1) := by decide +kernel
theorem d_S_place_45 : decode b_S_place 45 = .ok (.iload_n 2, 1) := by decide +kernel
theorem d_S_place_46 : decode b_S_place 46 = .ok (.iconst 1, 1) := by decide +kernel
theorem d_S_place_47 : decode b_S_place 47 = .ok (.isub, 1) := by decide +kernel
theorem d_S_place_48 : decode b_S_place 48 = .ok (.iload_n 2, 1) := by decide +kernel
theorem d_S_place_49 : decode b_S_place 49 = .ok (.invokevirtual 73, 3) := by decide +kernel
theorem d_S_place_52 : decode b_S_place 52 = .ok (.iinc 2 (-1), 3) := by decide +kernel
theorem d_S_place_55 : decode b_S_place 55 = .ok (.goto (-38), 3) := by decide +kernel
theorem d_S_place_58 : decode b_S_place 58 = .ok (.aload_n 0, 1) := by decide +kernel
theorem d_S_place_59 : decode b_S_place 59 = .ok (.dup, 1) := by decide +kernel
theorem d_S_place_60 : decode b_S_place 60 = .ok (.getfield 27, 3) := by decide +kernel
theorem d_S_place_63 : decode b_S_place 63 = .ok (.iconst 1, 1) := by decide +kernel
theorem d_S_place_64 : decode b_S_place 64 = .ok (.iadd, 1) := by decide +kernel
theorem d_S_place_65 : decode b_S_place 65 = .ok (.putfield 27, 3) := by decide +kernel
theorem d_S_place_68 : decode b_S_place 68 = .ok (.return_, 1) := by decide +kernel
theorem d_S_swap_0 : decode b_S_swap 0 = .ok (.aload_n 0, 1) := by decide +kernel
theorem d_S_swap_1 : decode b_S_swap 1 = .ok (.getfield 17, 3) := by decide +kernel
theorem d_S_swap_4 : decode b_S_swap 4 = .ok (.iload_n 1, 1) := by decide +kernel
theorem d_S_swap_5 : decode b_S_swap 5 = .ok (.aaload, 1) := by decide +kernel
theorem d_S_swap_6 : decode b_S_swap 6 = .ok (.astore_n 3, 1) := by decide +kernel
theorem d_S_swap_7 : decode b_S_swap 7 = .ok (.aload_n 0, 1) := by decide +kernel
theorem d_S_swap_8 : decode b_S_swap 8 = .ok (.getfield 17, 3) := by decide +kernel
theorem d_S_swap_11 : decode b_S_swap 11 = .ok (.iload_n 1, 1) := by decide +kernel
theorem d_S_swap_12 : decode b_S_swap 12 = .ok (.aload_n 0, 1) := by decide +kernel
theorem d_S_swap_13 : decode b_S_swap 13 = .ok (.getfield 17, 3) := by decide +kernel
theorem d_S_swap_16 : decode b_S_swap 16 = .ok (.iload_n 2, 1) := by decide +kernel
theorem d_S_swap_17 : decode b_S_swap 17 = .ok (.aaload, 1) := by decide +kernel
theorem d_S_swap_18 : decode b_S_swap 18 = .ok (.aastore, 1) := by decide +kernel
theorem d_S_swap_19 : decode b_S_swap 19 = .ok (.aload_n 0, 1) := by decide +kernel
theorem d_S_swap_20 : decode b_S_swap 20 = .ok (.getfield 17, 3) := by decide +kernel
theorem d_S_swap_23 : decode b_S_swap 23 = .ok (.iload_n 2, 1) := by decide +kernel
theorem d_S_swap_24 : decode b_S_swap 24 = .ok (.aload_n 3, 1) := by decide +kernel
theorem d_S_swap_25 : decode b_S_swap 25 = .ok (.aastore, 1) := by decide +kernel
theorem d_S_swap_26 : decode b_S_swap 26 = .ok (.aload_n 0, 1) := by decide +kernel
theorem d_S_swap_27 : decode b_S_swap 27 = .ok (.getfield 17, 3) := by decide +kernel
theorem d_S_swap_30 : decode b_S_swap 30 = .ok (.iload_n 1, 1) := by decide +kernel
theorem d_S_swap_31 : decode b_S_swap 31 = .ok (.aaload, 1) := by decide +kernel
theorem d_S_swap_32 : decode b_S_swap 32 = .ok (.iload_n 1, 1) := by decide +kernel
theorem d_S_swap_33 : decode b_S_swap 33 = .ok (.putfield 23, 3) := by decide +kernel
theorem d_S_swap_36 : decode b_S_swap 36 = .ok (.aload_n 0, 1) := by decide +kernel
theorem d_S_swap_37 : decode b_S_swap 37 = .ok (.getfield 17, 3) := by decide +kernel
theorem d_S_swap_40 : decode b_S_swap 40 = .ok (.iload_n 2, 1) := by decide +kernel
theorem d_S_swap_41 : decode b_S_swap 41 = .ok (.aaload, 1) := by decide +kernel
theorem d_S_swap_42 : decode b_S_swap 42 = .ok (.iload_n 2, 1) := by decide +kernel
theorem d_S_swap_43 : decode b_S_swap 43 = .ok (.putfield 23, 3) := by decide +kernel
theorem d_S_swap_46 : decode b_S_swap 46 = .ok (.return_, 1) := by decide +kernel
theorem d_A_init_0 : decode b_A_init 0 = .ok (.aload_n 0, 1) := by decide +kernel
theorem d_A_init_1 : decode b_A_init 1 = .ok (.invokespecial 3, 3) := by decide +kernel
theorem d_A_init_4 : decode b_A_init 4 = .ok (.aload_n 0, 1) := by decide +kernel
theorem d_A_init_5 : decode b_A_init 5 = .ok (.aload_n 1, 1) := by decide +kernel
theorem d_A_init_6 : decode b_A_init 6 = .ok (.putfield 9, 3) := by decide +kernel
theorem d_A_init_9 : decode b_A_init 9 = .ok (.return_, 1) := by decide +kernel
theorem d_A_survey_0 : decode b_A_survey 0 = .ok (.aload_n 1, 1) := by decide +kernel
theorem d_A_survey_1 : decode b_A_survey 1 = .ok (.getfield 15, 3) := by decide +kernel
theorem d_A_survey_4 : decode b_A_survey 4 = .ok (.bipush (-2), 2) := by decide +kernel
theorem d_A_survey_6 : decode b_A_survey 6 = .ok (.if_icmp .eq 4, 3) := by decide +kernel
theorem d_A_survey_9 : decode b_A_survey 9 = .ok (.return_, 1) := by decide +kernel
theorem d_A_survey_10 : decode b_A_survey 10 = .ok (.aload_n 1, 1) := by decide +kernel
theorem d_A_survey_11 : decode b_A_survey 11 = .ok (.aload_n 0, 1) := by decide +kernel
theorem d_A_survey_12 : decode b_A_survey 12 = .ok (.aload_n 1, 1) := by decide +kernel
theorem d_A_survey_13 : decode b_A_survey 13 = .ok (.aload_n 0, 1) := by decide +kernel
theorem d_A_survey_14 : decode b_A_survey 14 = .ok (.getfield 9, 3) := by decide +kernel
theorem d_A_survey_17 : decode b_A_survey 17 = .ok (.aload_n 1, 1) := by decide +kernel
theorem d_A_survey_18 : decode b_A_survey 18 = .ok (.invokevirtual 21, 3) := by decide +kernel
theorem d_A_survey_21 : decode b_A_survey 21 = .ok (.invokevirtual 27, 3) := by decide +kernel
theorem d_A_survey_24 : decode b_A_survey 24 = .ok (.putfield 15, 3) := by decide +kernel
theorem d_A_survey_27 : decode b_A_survey 27 = .ok (.aload_n 1, 1) := by decide +kernel
theorem d_A_survey_28 : decode b_A_survey 28 = .ok (.aload_n 0, 1) := by decide +kernel
theorem d_A_survey_29 : decode b_A_survey 29 = .ok (.getfield 31, 3) := by decide +kernel
theorem d_A_survey_32 : decode b_A_survey 32 = .ok (.putfield 34, 3) := by decide +kernel
theorem d_A_survey_35 : decode b_A_survey 35 = .ok (.aload_n 1, 1) := by decide +kernel
theorem d_A_survey_36 : decode b_A_survey 36 = .ok (.aload_n 0, 1) := by decide +kernel
theorem d_A_survey_37 : decode b_A_survey 37 = .ok (.getfield 37, 3) := by decide +kernel
theorem d_A_survey_40 : decode b_A_survey 40 = .ok (.putfield 40, 3) := by decide +kernel
theorem d_A_survey_43 : decode b_A_survey 43 = .ok (.return_, 1) := by decide +kernel
theorem d_A_verdict_0 : decode b_A_verdict 0 = .ok (.iconst 0, 1) := by decide +kernel
theorem d_A_verdict_1 : decode b_A_verdict 1 = .ok (.istore_n 1, 1) := by decide +kernel
theorem d_A_verdict_2 : decode b_A_verdict 2 = .ok (.iload_n 1, 1) := by decide +kernel
theorem d_A_verdict_3 : decode b_A_verdict 3 = .ok (.aload_n 0, 1) := by decide +kernel
theorem d_A_verdict_4 : decode b_A_verdict 4 = .ok (.getfield 9, 3) := by decide +kernel
theorem d_A_verdict_7 : decode b_A_verdict 7 = .ok (.getfield 43, 3) := by decide +kernel
theorem d_A_verdict_10 : decode b_A_verdict 10 = .ok (.if_icmp .ge 57, 3) := by decide +kernel
theorem d_A_verdict_13 : decode b_A_verdict 13 = .ok (.aload_n 0, 1) := by decide +kernel
theorem d_A_verdict_14 : decode b_A_verdict 14 = .ok (.getfield 9, 3) := by decide +kernel
theorem d_A_verdict_17 : decode b_A_verdict 17 = .ok (.getfield 46, 3) := by decide +kernel
theorem d_A_verdict_20 : decode b_A_verdict 20 = .ok (.iload_n 1, 1) := by decide +kernel
theorem d_A_verdict_21 : decode b_A_verdict 21 = .ok (.aaload, 1) := by decide +kernel
theorem d_A_verdict_22 : decode b_A_verdict 22 = .ok (.astore_n 2, 1) := by decide +kernel
theorem d_A_verdict_23 : decode b_A_verdict 23 = .ok (.aload_n 0, 1) := by decide +kernel
theorem d_A_verdict_24 : decode b_A_verdict 24 = .ok (.aload_n 2, 1) := by decide +kernel
theorem d_A_verdict_25 : decode b_A_verdict 25 = .ok (.invokevirtual 50, 3) := by decide +kernel
theorem d_A_verdict_28 : decode b_A_verdict 28 = .ok (.aload_n 2, 1) := by decide +kernel
theorem d_A_verdict_29 : decode b_A_verdict 29 = .ok (.invokevirtual 54, 3) := by decide +kernel
theorem d_A_verdict_32 : decode b_A_verdict 32 = .ok (.ifCond .eq 12, 3) := by decide +kernel
theorem d_A_verdict_35 : decode b_A_verdict 35 = .ok (.aload_n 2, 1) := by decide +kernel
theorem d_A_verdict_36 : decode b_A_verdict 36 = .ok (.getfield 58, 3) := by decide +kernel
theorem d_A_verdict_39 : decode b_A_verdict 39 = .ok (.ineg, 1) := by decide +kernel
theorem d_A_verdict_40 : decode b_A_verdict 40 = .ok (.bipush 100, 2) := by decide +kernel
theorem d_A_verdict_42 : decode b_A_verdict 42 = .ok (.isub, 1) := by decide +kernel
theorem d_A_verdict_43 : decode b_A_verdict 43 = .ok (.ireturn, 1) := by decide +kernel
theorem d_A_verdict_44 : decode b_A_verdict 44 = .ok (.aload_n 2, 1) := by decide +kernel
theorem d_A_verdict_45 : decode b_A_verdict 45 = .ok (.getfield 15, 3) := by decide +kernel
theorem d_A_verdict_48 : decode b_A_verdict 48 = .ok (.aload_n 2, 1) := by decide +kernel
theorem d_A_verdict_49 : decode b_A_verdict 49 = .ok (.getfield 61, 3) := by decide +kernel
theorem d_A_verdict_52 : decode b_A_verdict 52 = .ok (.if_icmp .le 9, 3) := by decide +kernel
theorem d_A_verdict_55 : decode b_A_verdict 55 = .ok (.aload_n 2, 1) := by decide +kernel
theorem d_A_verdict_56 : decode b_A_verdict 56 = .ok (.getfield 58, 3) := by decide +kernel
theorem d_A_verdict_59 : decode b_A_verdict 59 = .ok (.ineg, 1) := by decide +kernel
theorem d_A_verdict_60 : decode b_A_verdict 60 = .ok (.ireturn, 1) := by decide +kernel
theorem d_A_verdict_61 : decode b_A_verdict 61 = .ok (.iinc 1 1, 3) := by decide +kernel
theorem d_A_verdict_64 : decode b_A_verdict 64 = .ok (.goto (-62), 3) := by decide +kernel
theorem d_A_verdict_67 : decode b_A_verdict 67 = .ok (.iconst 1, 1) := by decide +kernel
theorem d_A_verdict_68 : decode b_A_verdict 68 = .ok (.ireturn, 1) := by decide +kernel
theorem d_A_responseOfJob_0 : decode b_A_responseOfJob 0 = .ok (.iload_n 2, 1) := by decide +kernel
theorem d_A_responseOfJob_1 : decode b_A_responseOfJob 1 = .ok (.ifCond .lt 11, 3) := by decide +kernel
theorem d_A_responseOfJob_4 : decode b_A_responseOfJob 4 = .ok (.iload_n 2, 1) := by decide +kernel
theorem d_A_responseOfJob_5 : decode b_A_responseOfJob 5 = .ok (.aload_n 1, 1) := by decide +kernel
theorem d_A_responseOfJob_6 : decode b_A_responseOfJob 6 = .ok (.getfield 40, 3) := by decide +kernel
theorem d_A_responseOfJob_9 : decode b_A_responseOfJob 9 = .ok (.if_icmp .lt 5, 3) := by decide +kernel
theorem d_A_responseOfJob_12 : decode b_A_responseOfJob 12 = .ok (.iconst (-1), 1) := by decide +kernel
theorem d_A_responseOfJob_13 : decode b_A_responseOfJob 13 = .ok (.ireturn, 1) := by decide +kernel
theorem d_A_responseOfJob_14 : decode b_A_responseOfJob 14 = .ok (.aload_n 0, 1) := by decide +kernel
theorem d_A_responseOfJob_15 : decode b_A_responseOfJob 15 = .ok (.aload_n 1, 1) := by decide +kernel
theorem d_A_responseOfJob_16 : decode b_A_responseOfJob 16 = .ok (.aload_n 0, 1) := by decide +kernel
theorem d_A_responseOfJob_17 : decode b_A_responseOfJob 17 = .ok (.getfield 9, 3) := by decide +kernel
theorem d_A_responseOfJob_20 : decode b_A_responseOfJob 20 = .ok (.aload_n 1, 1) := by decide +kernel
theorem d_A_responseOfJob_21 : decode b_A_responseOfJob 21 = .ok (.invokevirtual 21, 3) := by decide +kernel
theorem d_A_responseOfJob_24 : decode b_A_responseOfJob 24 = .ok (.iload_n 2, 1) := by decide +kernel
theorem d_A_responseOfJob_25 : decode b_A_responseOfJob 25 = .ok (.iconst 0, 1) := by decide +kernel
theorem d_A_responseOfJob_26 : decode b_A_responseOfJob 26 = .ok (.invokevirtual 64, 3) := by decide +kernel
theorem d_A_responseOfJob_29 : decode b_A_responseOfJob 29 = .ok (.aload_n 1, 1) := by decide +kernel
theorem d_A_responseOfJob_30 : decode b_A_responseOfJob 30 = .ok (.invokevirtual 68, 3) := by decide +kernel
theorem d_A_responseOfJob_33 : decode b_A_responseOfJob 33 = .ok (.iadd, 1) := by decide +kernel
theorem d_A_responseOfJob_34 : decode b_A_responseOfJob 34 = .ok (.iload_n 2, 1) := by decide +kernel
theorem d_A_responseOfJob_35 : decode b_A_responseOfJob 35 = .ok (.aload_n 1, 1) := by decide +kernel
theorem d_A_responseOfJob_36 : decode b_A_responseOfJob 36 = .ok (.getfield 72, 3) := by decide +kernel
theorem d_A_responseOfJob_39 : decode b_A_responseOfJob 39 = .ok (.imul, 1) := by decide +kernel
end
section
theorem d_A_responseOfJob_40 : decode b_A_responseOfJob 40 = .ok (.isub, 1) := by decide +kernel
theorem d_A_responseOfJob_41 : decode b_A_responseOfJob 41 = .ok (.ireturn, 1) := by decide +kernel
theorem d_A_bearableBy_0 : decode b_A_bearableBy 0 = .ok (.aload_n 1, 1) := by decide +kernel
theorem d_A_bearableBy_1 : decode b_A_bearableBy 1 = .ok (.getfield 75, 3) := by decide +kernel
theorem d_A_bearableBy_4 : decode b_A_bearableBy 4 = .ok (.bipush (-2), 2) := by decide +kernel
theorem d_A_bearableBy_6 : decode b_A_bearableBy 6 = .ok (.if_icmp .ne 12, 3) := by decide +kernel
theorem d_A_bearableBy_9 : decode b_A_bearableBy 9 = .ok (.aload_n 1, 1) := by decide +kernel
theorem d_A_bearableBy_10 : decode b_A_bearableBy 10 = .ok (.aload_n 0, 1) := by decide +kernel
theorem d_A_bearableBy_11 : decode b_A_bearableBy 11 = .ok (.aload_n 1, 1) := by decide +kernel
theorem d_A_bearableBy_12 : decode b_A_bearableBy 12 = .ok (.invokevirtual 78, 3) := by decide +kernel
theorem d_A_bearableBy_15 : decode b_A_bearableBy 15 = .ok (.putfield 75, 3) := by decide +kernel
theorem d_A_bearableBy_18 : decode b_A_bearableBy 18 = .ok (.aload_n 1, 1) := by decide +kernel
theorem d_A_bearableBy_19 : decode b_A_bearableBy 19 = .ok (.getfield 75, 3) := by decide +kernel
theorem d_A_bearableBy_22 : decode b_A_bearableBy 22 = .ok (.ireturn, 1) := by decide +kernel
theorem d_A_stretchTasks_0 : decode b_A_stretchTasks 0 = .ok (.iconst 0, 1) := by decide +kernel
theorem d_A_stretchTasks_1 : decode b_A_stretchTasks 1 = .ok (.istore_n 1, 1) := by decide +kernel
theorem d_A_stretchTasks_2 : decode b_A_stretchTasks 2 = .ok (.ldc 81, 2) := by decide +kernel
theorem d_A_stretchTasks_4 : decode b_A_stretchTasks 4 = .ok (.istore_n 2, 1) := by decide +kernel
theorem d_A_stretchTasks_5 : decode b_A_stretchTasks 5 = .ok (.iconst 0, 1) := by decide +kernel
theorem d_A_stretchTasks_6 : decode b_A_stretchTasks 6 = .ok (.istore_n 3, 1) := by decide +kernel
theorem d_A_stretchTasks_7 : decode b_A_stretchTasks 7 = .ok (.iload_n 3, 1) := by decide +kernel
theorem d_A_stretchTasks_8 : decode b_A_stretchTasks 8 = .ok (.aload_n 0, 1) := by decide +kernel
theorem d_A_stretchTasks_9 : decode b_A_stretchTasks 9 = .ok (.getfield 9, 3) := by decide +kernel
theorem d_A_stretchTasks_12 : decode b_A_stretchTasks 12 = .ok (.getfield 43, 3) := by decide +kernel
theorem d_A_stretchTasks_15 : decode b_A_stretchTasks 15 = .ok (.if_icmp .ge 50, 3) := by decide +kernel
theorem d_A_stretchTasks_18 : decode b_A_stretchTasks 18 = .ok (.aload_n 0, 1) := by decide +kernel
theorem d_A_stretchTasks_19 : decode b_A_stretchTasks 19 = .ok (.getfield 9, 3) := by decide +kernel
theorem d_A_stretchTasks_22 : decode b_A_stretchTasks 22 = .ok (.getfield 46, 3) := by decide +kernel
theorem d_A_stretchTasks_25 : decode b_A_stretchTasks 25 = .ok (.iload_n 3, 1) := by decide +kernel
theorem d_A_stretchTasks_26 : decode b_A_stretchTasks 26 = .ok (.aaload, 1) := by decide +kernel
theorem d_A_stretchTasks_27 : decode b_A_stretchTasks 27 = .ok (.astore 4, 2) := by decide +kernel
theorem d_A_stretchTasks_29 : decode b_A_stretchTasks 29 = .ok (.iload_n 1, 1) := by decide +kernel
theorem d_A_stretchTasks_30 : decode b_A_stretchTasks 30 = .ok (.aload 4, 2) := by decide +kernel
theorem d_A_stretchTasks_32 : decode b_A_stretchTasks 32 = .ok (.aload 4, 2) := by decide +kernel
theorem d_A_stretchTasks_34 : decode b_A_stretchTasks 34 = .ok (.getfield 82, 3) := by decide +kernel
theorem d_A_stretchTasks_37 : decode b_A_stretchTasks 37 = .ok (.iload_n 2, 1) := by decide +kernel
theorem d_A_stretchTasks_38 : decode b_A_stretchTasks 38 = .ok (.invokestatic 85, 3) := by decide +kernel
theorem d_A_stretchTasks_41 : decode b_A_stretchTasks 41 = .ok (.invokevirtual 91, 3) := by decide +kernel
theorem d_A_stretchTasks_44 : decode b_A_stretchTasks 44 = .ok (.iadd, 1) := by decide +kernel
theorem d_A_stretchTasks_45 : decode b_A_stretchTasks 45 = .ok (.istore_n 1, 1) := by decide +kernel
theorem d_A_stretchTasks_46 : decode b_A_stretchTasks 46 = .ok (.iload_n 2, 1) := by decide +kernel
theorem d_A_stretchTasks_47 : decode b_A_stretchTasks 47 = .ok (.aload_n 0, 1) := by decide +kernel
theorem d_A_stretchTasks_48 : decode b_A_stretchTasks 48 = .ok (.aload 4, 2) := by decide +kernel
theorem d_A_stretchTasks_50 : decode b_A_stretchTasks 50 = .ok (.invokevirtual 78, 3) := by decide +kernel
theorem d_A_stretchTasks_53 : decode b_A_stretchTasks 53 = .ok (.iconst 1, 1) := by decide +kernel
theorem d_A_stretchTasks_54 : decode b_A_stretchTasks 54 = .ok (.iadd, 1) := by decide +kernel
theorem d_A_stretchTasks_55 : decode b_A_stretchTasks 55 = .ok (.invokestatic 85, 3) := by decide +kernel
theorem d_A_stretchTasks_58 : decode b_A_stretchTasks 58 = .ok (.istore_n 2, 1) := by decide +kernel
theorem d_A_stretchTasks_59 : decode b_A_stretchTasks 59 = .ok (.iinc 3 1, 3) := by decide +kernel
theorem d_A_stretchTasks_62 : decode b_A_stretchTasks 62 = .ok (.goto (-55), 3) := by decide +kernel
theorem d_A_stretchTasks_65 : decode b_A_stretchTasks 65 = .ok (.aload_n 0, 1) := by decide +kernel
theorem d_A_stretchTasks_66 : decode b_A_stretchTasks 66 = .ok (.getfield 9, 3) := by decide +kernel
theorem d_A_stretchTasks_69 : decode b_A_stretchTasks 69 = .ok (.invokevirtual 95, 3) := by decide +kernel
theorem d_A_stretchTasks_72 : decode b_A_stretchTasks 72 = .ok (.iload_n 1, 1) := by decide +kernel
theorem d_A_stretchTasks_73 : decode b_A_stretchTasks 73 = .ok (.ireturn, 1) := by decide +kernel
theorem d_A_scenarioItem_0 : decode b_A_scenarioItem 0 = .ok (.iload_n 2, 1) := by decide +kernel
theorem d_A_scenarioItem_1 : decode b_A_scenarioItem 1 = .ok (.istore 4, 2) := by decide +kernel
theorem d_A_scenarioItem_3 : decode b_A_scenarioItem 3 = .ok (.iconst 0, 1) := by decide +kernel
theorem d_A_scenarioItem_4 : decode b_A_scenarioItem 4 = .ok (.istore 5, 2) := by decide +kernel
theorem d_A_scenarioItem_6 : decode b_A_scenarioItem 6 = .ok (.aload_n 0, 1) := by decide +kernel
theorem d_A_scenarioItem_7 : decode b_A_scenarioItem 7 = .ok (.getfield 9, 3) := by decide +kernel
theorem d_A_scenarioItem_10 : decode b_A_scenarioItem 10 = .ok (.aload_n 1, 1) := by decide +kernel
theorem d_A_scenarioItem_11 : decode b_A_scenarioItem 11 = .ok (.invokevirtual 21, 3) := by decide +kernel
theorem d_A_scenarioItem_14 : decode b_A_scenarioItem 14 = .ok (.ifCond .le 56, 3) := by decide +kernel
theorem d_A_scenarioItem_17 : decode b_A_scenarioItem 17 = .ok (.aload_n 0, 1) := by decide +kernel
theorem d_A_scenarioItem_18 : decode b_A_scenarioItem 18 = .ok (.getfield 9, 3) := by decide +kernel
theorem d_A_scenarioItem_21 : decode b_A_scenarioItem 21 = .ok (.aload_n 1, 1) := by decide +kernel
theorem d_A_scenarioItem_22 : decode b_A_scenarioItem 22 = .ok (.invokevirtual 98, 3) := by decide +kernel
theorem d_A_scenarioItem_25 : decode b_A_scenarioItem 25 = .ok (.istore 6, 2) := by decide +kernel
theorem d_A_scenarioItem_27 : decode b_A_scenarioItem 27 = .ok (.aload_n 0, 1) := by decide +kernel
theorem d_A_scenarioItem_28 : decode b_A_scenarioItem 28 = .ok (.aload_n 1, 1) := by decide +kernel
theorem d_A_scenarioItem_29 : decode b_A_scenarioItem 29 = .ok (.iload 6, 2) := by decide +kernel
theorem d_A_scenarioItem_31 : decode b_A_scenarioItem 31 = .ok (.invokevirtual 101, 3) := by decide +kernel
theorem d_A_scenarioItem_34 : decode b_A_scenarioItem 34 = .ok (.astore 7, 2) := by decide +kernel
theorem d_A_scenarioItem_36 : decode b_A_scenarioItem 36 = .ok (.iload_n 2, 1) := by decide +kernel
theorem d_A_scenarioItem_37 : decode b_A_scenarioItem 37 = .ok (.ifCond .ne 17, 3) := by decide +kernel
theorem d_A_scenarioItem_40 : decode b_A_scenarioItem 40 = .ok (.iload_n 3, 1) := by decide +kernel
theorem d_A_scenarioItem_41 : decode b_A_scenarioItem 41 = .ok (.ifCond .eq 7, 3) := by decide +kernel
theorem d_A_scenarioItem_44 : decode b_A_scenarioItem 44 = .ok (.iconst 0, 1) := by decide +kernel
theorem d_A_scenarioItem_45 : decode b_A_scenarioItem 45 = .ok (.goto 8, 3) := by decide +kernel
theorem d_A_scenarioItem_48 : decode b_A_scenarioItem 48 = .ok (.aload 7, 2) := by decide +kernel
theorem d_A_scenarioItem_50 : decode b_A_scenarioItem 50 = .ok (.getfield 58, 3) := by decide +kernel
theorem d_A_scenarioItem_53 : decode b_A_scenarioItem 53 = .ok (.ireturn, 1) := by decide +kernel
theorem d_A_scenarioItem_54 : decode b_A_scenarioItem 54 = .ok (.iload_n 2, 1) := by decide +kernel
theorem d_A_scenarioItem_55 : decode b_A_scenarioItem 55 = .ok (.iconst 1, 1) := by decide +kernel
theorem d_A_scenarioItem_56 : decode b_A_scenarioItem 56 = .ok (.isub, 1) := by decide +kernel
theorem d_A_scenarioItem_57 : decode b_A_scenarioItem 57 = .ok (.istore 4, 2) := by decide +kernel
theorem d_A_scenarioItem_59 : decode b_A_scenarioItem 59 = .ok (.aload 7, 2) := by decide +kernel
theorem d_A_scenarioItem_61 : decode b_A_scenarioItem 61 = .ok (.iload 6, 2) := by decide +kernel
theorem d_A_scenarioItem_63 : decode b_A_scenarioItem 63 = .ok (.invokevirtual 105, 3) := by decide +kernel
theorem d_A_scenarioItem_66 : decode b_A_scenarioItem 66 = .ok (.iconst 1, 1) := by decide +kernel
theorem d_A_scenarioItem_67 : decode b_A_scenarioItem 67 = .ok (.iadd, 1) := by decide +kernel
theorem d_A_scenarioItem_68 : decode b_A_scenarioItem 68 = .ok (.istore 5, 2) := by decide +kernel
theorem d_A_scenarioItem_70 : decode b_A_scenarioItem 70 = .ok (.aload_n 1, 1) := by decide +kernel
theorem d_A_scenarioItem_71 : decode b_A_scenarioItem 71 = .ok (.getfield 34, 3) := by decide +kernel
theorem d_A_scenarioItem_74 : decode b_A_scenarioItem 74 = .ok (.aload_n 1, 1) := by decide +kernel
theorem d_A_scenarioItem_75 : decode b_A_scenarioItem 75 = .ok (.getfield 72, 3) := by decide +kernel
theorem d_A_scenarioItem_78 : decode b_A_scenarioItem 78 = .ok (.imul, 1) := by decide +kernel
theorem d_A_scenarioItem_79 : decode b_A_scenarioItem 79 = .ok (.aload_n 1, 1) := by decide +kernel
theorem d_A_scenarioItem_80 : decode b_A_scenarioItem 80 = .ok (.getfield 15, 3) := by decide +kernel
theorem d_A_scenarioItem_83 : decode b_A_scenarioItem 83 = .ok (.iadd, 1) := by decide +kernel
theorem d_A_scenarioItem_84 : decode b_A_scenarioItem 84 = .ok (.istore 6, 2) := by decide +kernel
theorem d_A_scenarioItem_86 : decode b_A_scenarioItem 86 = .ok (.iload 4, 2) := by decide +kernel
theorem d_A_scenarioItem_88 : decode b_A_scenarioItem 88 = .ok (.aload_n 0, 1) := by decide +kernel
theorem d_A_scenarioItem_89 : decode b_A_scenarioItem 89 = .ok (.aload_n 1, 1) := by decide +kernel
theorem d_A_scenarioItem_90 : decode b_A_scenarioItem 90 = .ok (.iload 6, 2) := by decide +kernel
theorem d_A_scenarioItem_92 : decode b_A_scenarioItem 92 = .ok (.iconst 1, 1) := by decide +kernel
theorem d_A_scenarioItem_93 : decode b_A_scenarioItem 93 = .ok (.isub, 1) := by decide +kernel
theorem d_A_scenarioItem_94 : decode b_A_scenarioItem 94 = .ok (.invokevirtual 108, 3) := by decide +kernel
theorem d_A_scenarioItem_97 : decode b_A_scenarioItem 97 = .ok (.if_icmp .lt 5, 3) := by decide +kernel
theorem d_A_scenarioItem_100 : decode b_A_scenarioItem 100 = .ok (.iconst (-1), 1) := by decide +kernel
theorem d_A_scenarioItem_101 : decode b_A_scenarioItem 101 = .ok (.ireturn, 1) := by decide +kernel
theorem d_A_scenarioItem_102 : decode b_A_scenarioItem 102 = .ok (.aload_n 0, 1) := by decide +kernel
theorem d_A_scenarioItem_103 : decode b_A_scenarioItem 103 = .ok (.aload_n 1, 1) := by decide +kernel
theorem d_A_scenarioItem_104 : decode b_A_scenarioItem 104 = .ok (.iload 4, 2) := by decide +kernel
theorem d_A_scenarioItem_106 : decode b_A_scenarioItem 106 = .ok (.iload 6, 2) := by decide +kernel
theorem d_A_scenarioItem_108 : decode b_A_scenarioItem 108 = .ok (.invokevirtual 111, 3) := by decide +kernel
theorem d_A_scenarioItem_111 : decode b_A_scenarioItem 111 = .ok (.istore 7, 2) := by decide +kernel
theorem d_A_scenarioItem_113 : decode b_A_scenarioItem 113 = .ok (.iload_n 3, 1) := by decide +kernel
theorem d_A_scenarioItem_114 : decode b_A_scenarioItem 114 = .ok (.ifCond .eq 11, 3) := by decide +kernel
theorem d_A_scenarioItem_117 : decode b_A_scenarioItem 117 = .ok (.iload 5, 2) := by decide +kernel
theorem d_A_scenarioItem_119 : decode b_A_scenarioItem 119 = .ok (.iload 7, 2) := by decide +kernel
theorem d_A_scenarioItem_121 : decode b_A_scenarioItem 121 = .ok (.iadd, 1) := by decide +kernel
theorem d_A_scenarioItem_122 : decode b_A_scenarioItem 122 = .ok (.goto 12, 3) := by decide +kernel
theorem d_A_scenarioItem_125 : decode b_A_scenarioItem 125 = .ok (.aload_n 0, 1) := by decide +kernel
theorem d_A_scenarioItem_126 : decode b_A_scenarioItem 126 = .ok (.aload_n 1, 1) := by decide +kernel
theorem d_A_scenarioItem_127 : decode b_A_scenarioItem 127 = .ok (.iload 4, 2) := by decide +kernel
theorem d_A_scenarioItem_129 : decode b_A_scenarioItem 129 = .ok (.iload 7, 2) := by decide +kernel
theorem d_A_scenarioItem_131 : decode b_A_scenarioItem 131 = .ok (.invokevirtual 115, 3) := by decide +kernel
theorem d_A_scenarioItem_134 : decode b_A_scenarioItem 134 = .ok (.ireturn, 1) := by decide +kernel
theorem d_A_highestBelowWith_0 : decode b_A_highestBelowWith 0 = .ok (.aload_n 1, 1) := by decide +kernel
theorem d_A_highestBelowWith_1 : decode b_A_highestBelowWith 1 = .ok (.getfield 118, 3) := by decide +kernel
theorem d_A_highestBelowWith_4 : decode b_A_highestBelowWith 4 = .ok (.iconst 1, 1) := by decide +kernel
theorem d_A_highestBelowWith_5 : decode b_A_highestBelowWith 5 = .ok (.iadd, 1) := by decide +kernel
theorem d_A_highestBelowWith_6 : decode b_A_highestBelowWith 6 = .ok (.istore_n 3, 1) := by decide +kernel
theorem d_A_highestBelowWith_7 : decode b_A_highestBelowWith 7 = .ok (.iload_n 3, 1) := by decide +kernel
theorem d_A_highestBelowWith_8 : decode b_A_highestBelowWith 8 = .ok (.aload_n 0, 1) := by decide +kernel
theorem d_A_highestBelowWith_9 : decode b_A_highestBelowWith 9 = .ok (.getfield 9, 3) := by decide +kernel
theorem d_A_highestBelowWith_12 : decode b_A_highestBelowWith 12 = .ok (.getfield 43, 3) := by decide +kernel
theorem d_A_highestBelowWith_15 : decode b_A_highestBelowWith 15 = .ok (.if_icmp .ge 35, 3) := by decide +kernel
theorem d_A_highestBelowWith_18 : decode b_A_highestBelowWith 18 = .ok (.aload_n 0, 1) := by decide +kernel
theorem d_A_highestBelowWith_19 : decode b_A_highestBelowWith 19 = .ok (.getfield 9, 3) := by decide +kernel
theorem d_A_highestBelowWith_22 : decode b_A_highestBelowWith 22 = .ok (.getfield 46, 3) := by decide +kernel
theorem d_A_highestBelowWith_25 : decode b_A_highestBelowWith 25 = .ok (.iload_n 3, 1) := by decide +kernel
theorem d_A_highestBelowWith_26 : decode b_A_highestBelowWith 26 = .ok (.aaload, 1) := by decide +kernel
theorem d_A_highestBelowWith_27 : decode b_A_highestBelowWith 27 = .ok (.invokevirtual 121, 3) := by decide +kernel
theorem d_A_highestBelowWith_30 : decode b_A_highestBelowWith 30 = .ok (.iload_n 2, 1) := by decide +kernel
theorem d_A_highestBelowWith_31 : decode b_A_highestBelowWith 31 = .ok (.if_icmp .ne 13, 3) := by decide +kernel
theorem d_A_highestBelowWith_34 : decode b_A_highestBelowWith 34 = .ok (.aload_n 0, 1) := by decide +kernel
theorem d_A_highestBelowWith_35 : decode b_A_highestBelowWith 35 = .ok (.getfield 9, 3) := by decide +kernel
theorem d_A_highestBelowWith_38 : decode b_A_highestBelowWith 38 = .ok (.getfield 46, 3) := by decide +kernel
theorem d_A_highestBelowWith_41 : decode b_A_highestBelowWith 41 = .ok (.iload_n 3, 1) := by decide +kernel
theorem d_A_highestBelowWith_42 : decode b_A_highestBelowWith 42 = .ok (.aaload, 1) := by decide +kernel
theorem d_A_highestBelowWith_43 : decode b_A_highestBelowWith 43 = .ok (.areturn, 1) := by decide +kernel
theorem d_A_highestBelowWith_44 : decode b_A_highestBelowWith 44 = .ok (.iinc 3 1, 3) := by decide +kernel
theorem d_A_highestBelowWith_47 : decode b_A_highestBelowWith 47 = .ok (.goto (-40), 3) := by decide +kernel
theorem d_A_highestBelowWith_50 : decode b_A_highestBelowWith 50 = .ok (.aload_n 1, 1) := by decide +kernel
theorem d_A_highestBelowWith_51 : decode b_A_highestBelowWith 51 = .ok (.areturn, 1) := by decide +kernel
theorem d_A_ownArrivalsBy_0 : decode b_A_ownArrivalsBy 0 = .ok (.aload_n 1, 1) := by decide +kernel
theorem d_A_ownArrivalsBy_1 : decode b_A_ownArrivalsBy 1 = .ok (.getfield 34, 3) := by decide +kernel
theorem d_A_ownArrivalsBy_4 : decode b_A_ownArrivalsBy 4 = .ok (.iconst 1, 1) := by decide +kernel
theorem d_A_ownArrivalsBy_5 : decode b_A_ownArrivalsBy 5 = .ok (.iadd, 1) := by decide +kernel
theorem d_A_ownArrivalsBy_6 : decode b_A_ownArrivalsBy 6 = .ok (.aload_n 1, 1) := by decide +kernel
theorem d_A_ownArrivalsBy_7 : decode b_A_ownArrivalsBy 7 = .ok (.iload_n 2, 1) := by decide +kernel
theorem d_A_ownArrivalsBy_8 : decode b_A_ownArrivalsBy 8 = .ok (.invokevirtual 124, 3) := by decide +kernel
theorem d_A_ownArrivalsBy_11 : decode b_A_ownArrivalsBy 11 = .ok (.invokestatic 85, 3) := by decide +kernel
theorem d_A_ownArrivalsBy_14 : decode b_A_ownArrivalsBy 14 = .ok (.ireturn, 1) := by decide +kernel
theorem d_A_scenarioArrivalsBy_0 : decode b_A_scenarioArrivalsBy 0 = .ok (.aload_n 0, 1) := by decide +kernel
theorem d_A_scenarioArrivalsBy_1 : decode b_A_scenarioArrivalsBy 1 = .ok (.aload_n 1, 1) := by decide +kernel
theorem d_A_scenarioArrivalsBy_2 : decode b_A_scenarioArrivalsBy 2 = .ok (.iload_n 2, 1) := by decide +kernel
theorem d_A_scenarioArrivalsBy_3 : decode b_A_scenarioArrivalsBy 3 = .ok (.invokevirtual 127, 3) := by decide +kernel
theorem d_A_scenarioArrivalsBy_6 : decode b_A_scenarioArrivalsBy 6 = .ok (.istore_n 3, 1) := by decide +kernel
theorem d_A_scenarioArrivalsBy_7 : decode b_A_scenarioArrivalsBy 7 = .ok (.iconst 0, 1) := by decide +kernel
theorem d_A_scenarioArrivalsBy_8 : decode b_A_scenarioArrivalsBy 8 = .ok (.istore 4, 2) := by decide +kernel
theorem d_A_scenarioArrivalsBy_10 : decode b_A_scenarioArrivalsBy 10 = .ok (.iload 4, 2) := by decide +kernel
theorem d_A_scenarioArrivalsBy_12 : decode b_A_scenarioArrivalsBy 12 = .ok (.aload_n 1, 1) := by decide +kernel
theorem d_A_scenarioArrivalsBy_13 : decode b_A_scenarioArrivalsBy 13 = .ok (.getfield 118, 3) := by decide +kernel
theorem d_A_scenarioArrivalsBy_16 : decode b_A_scenarioArrivalsBy 16 = .ok (.if_icmp .ge 26, 3) := by decide +kernel
theorem d_A_scenarioArrivalsBy_19 : decode b_A_scenarioArrivalsBy 19 = .ok (.iload_n 3, 1) := by decide +kernel
theorem d_A_scenarioArrivalsBy_20 : decode b_A_scenarioArrivalsBy 20 = .ok (.aload_n 0, 1) := by decide +kernel
theorem d_A_scenarioArrivalsBy_21 : decode b_A_scenarioArrivalsBy 21 = .ok (.getfield 9, 3) := by decide +kernel
theorem d_A_scenarioArrivalsBy_24 : decode b_A_scenarioArrivalsBy 24 = .ok (.getfield 46, 3) := by decide +kernel
theorem d_A_scenarioArrivalsBy_27 : decode b_A_scenarioArrivalsBy 27 = .ok (.iload 4, 2) := by decide +kernel
theorem d_A_scenarioArrivalsBy_29 : decode b_A_scenarioArrivalsBy 29 = .ok (.aaload, 1) := by decide +kernel
theorem d_A_scenarioArrivalsBy_30 : decode b_A_scenarioArrivalsBy 30 = .ok (.iload_n 2, 1) := by decide +kernel
theorem d_A_scenarioArrivalsBy_31 : decode b_A_scenarioArrivalsBy 31 = .ok (.invokevirtual 124, 3) := by decide +kernel
theorem d_A_scenarioArrivalsBy_34 : decode b_A_scenarioArrivalsBy 34 = .ok (.iadd, 1) := by decide +kernel
theorem d_A_scenarioArrivalsBy_35 : decode b_A_scenarioArrivalsBy 35 = .ok (.istore_n 3, 1) := by decide +kernel
theorem d_A_scenarioArrivalsBy_36 : decode b_A_scenarioArrivalsBy 36 = .ok (.iinc 4 1, 3) := by decide +kernel
theorem d_A_scenarioArrivalsBy_39 : decode b_A_scenarioArrivalsBy 39 = .ok (.goto (-29), 3) := by decide +kernel
theorem d_A_scenarioArrivalsBy_42 : decode b_A_scenarioArrivalsBy 42 = .ok (.iload_n 3, 1) := by decide +kernel
theorem d_A_scenarioArrivalsBy_43 : decode b_A_scenarioArrivalsBy 43 = .ok (.ireturn, 1) := by decide +kernel
theorem d_A_timeOfArrival_0 : decode b_A_timeOfArrival 0 = .ok (.iconst 0, 1) := by decide +kernel
theorem d_A_timeOfArrival_1 : decode b_A_timeOfArrival 1 = .ok (.istore 4, 2) := by decide +kernel
theorem d_A_timeOfArrival_3 : decode b_A_timeOfArrival 3 = .ok (.iload_n 3, 1) := by decide +kernel
theorem d_A_timeOfArrival_4 : decode b_A_timeOfArrival 4 = .ok (.iconst 1, 1) := by decide +kernel
theorem d_A_timeOfArrival_5 : decode b_A_timeOfArrival 5 = .ok (.isub, 1) := by decide +kernel
theorem d_A_timeOfArrival_6 : decode b_A_timeOfArrival 6 = .ok (.istore 5, 2) := by decide +kernel
theorem d_A_timeOfArrival_8 : decode b_A_timeOfArrival 8 = .ok (.iconst 0, 1) := by decide +kernel
theorem d_A_timeOfArrival_9 : decode b_A_timeOfArrival 9 = .ok (.istore 6, 2) := by decide +kernel
theorem d_A_timeOfArrival_11 : decode b_A_timeOfArrival 11 = .ok (.iload 6, 2) := by decide +kernel
theorem d_A_timeOfArrival_13 : decode b_A_timeOfArrival 13 = .ok (.bipush 64, 2) := by decide +kernel
theorem d_A_timeOfArrival_15 : decode b_A_timeOfArrival 15 = .ok (.if_icmp .ge 49, 3) := by decide +kernel
theorem d_A_timeOfArrival_18 : decode b_A_timeOfArrival 18 = .ok (.iload 4, 2) := by decide +kernel
theorem d_A_timeOfArrival_20 : decode b_A_timeOfArrival 20 = .ok (.iload 5, 2) := by decide +kernel
theorem d_A_timeOfArrival_22 : decode b_A_timeOfArrival 22 = .ok (.if_icmp .ge 42, 3) := by decide +kernel
theorem d_A_timeOfArrival_25 : decode b_A_timeOfArrival 25 = .ok (.iload 4, 2) := by decide +kernel
theorem d_A_timeOfArrival_27 : decode b_A_timeOfArrival 27 = .ok (.iload 5, 2) := by decide +kernel
theorem d_A_timeOfArrival_29 : decode b_A_timeOfArrival 29 = .ok (.iadd, 1) := by decide +kernel
theorem d_A_timeOfArrival_30 : decode b_A_timeOfArrival 30 = .ok (.iconst 2, 1) := by decide +kernel
theorem d_A_timeOfArrival_31 : decode b_A_timeOfArrival 31 = .ok (.idiv, 1) := by decide +kernel
theorem d_A_timeOfArrival_32 : decode b_A_timeOfArrival 32 = .ok (.istore 7, 2) := by decide +kernel
theorem d_A_timeOfArrival_34 : decode b_A_timeOfArrival 34 = .ok (.aload_n 0, 1) := by decide +kernel
theorem d_A_timeOfArrival_35 : decode b_A_timeOfArrival 35 = .ok (.aload_n 1, 1) := by decide +kernel
theorem d_A_timeOfArrival_36 : decode b_A_timeOfArrival 36 = .ok (.iload 7, 2) := by decide +kernel
theorem d_A_timeOfArrival_38 : decode b_A_timeOfArrival 38 = .ok (.invokevirtual 108, 3) := by decide +kernel
theorem d_A_timeOfArrival_41 : decode b_A_timeOfArrival 41 = .ok (.iload_n 2, 1) := by decide +kernel
theorem d_A_timeOfArrival_42 : decode b_A_timeOfArrival 42 = .ok (.if_icmp .le 10, 3) := by decide +kernel
theorem d_A_timeOfArrival_45 : decode b_A_timeOfArrival 45 = .ok (.iload 7, 2) := by decide +kernel
theorem d_A_timeOfArrival_47 : decode b_A_timeOfArrival 47 = .ok (.istore 5, 2) := by decide +kernel
theorem d_A_timeOfArrival_49 : decode b_A_timeOfArrival 49 = .ok (.goto 9, 3) := by decide +kernel
theorem d_A_timeOfArrival_52 : decode b_A_timeOfArrival 52 = .ok (.iload 7, 2) := by decide +kernel
theorem d_A_timeOfArrival_54 : decode b_A_timeOfArrival 54 = .ok (.iconst 1, 1) := by decide +kernel
theorem d_A_timeOfArrival_55 : decode b_A_timeOfArrival 55 = .ok (.iadd, 1) := by decide +kernel
theorem d_A_timeOfArrival_56 : decode b_A_timeOfArrival 56 = .ok (.istore 4, 2) := by decide +kernel
theorem d_A_timeOfArrival_58 : decode b_A_timeOfArrival 58 = .ok (.iinc 6 1, 3) := by decide +kernel
theorem d_A_timeOfArrival_61 : decode b_A_timeOfArrival 61 = .ok (.goto (-50), 3) := by decide +kernel
theorem d_A_timeOfArrival_64 : decode b_A_timeOfArrival 64 = .ok (.iload 4, 2) := by decide +kernel
theorem d_A_timeOfArrival_66 : decode b_A_timeOfArrival 66 = .ok (.ireturn, 1) := by decide +kernel
theorem d_A_taskOfArrival_0 : decode b_A_taskOfArrival 0 = .ok (.aload_n 0, 1) := by decide +kernel
theorem d_A_taskOfArrival_1 : decode b_A_taskOfArrival 1 = .ok (.aload_n 1, 1) := by decide +kernel
theorem d_A_taskOfArrival_2 : decode b_A_taskOfArrival 2 = .ok (.iload_n 3, 1) := by decide +kernel
theorem d_A_taskOfArrival_3 : decode b_A_taskOfArrival 3 = .ok (.iconst 1, 1) := by decide +kernel
theorem d_A_taskOfArrival_4 : decode b_A_taskOfArrival 4 = .ok (.isub, 1) := by decide +kernel
theorem d_A_taskOfArrival_5 : decode b_A_taskOfArrival 5 = .ok (.invokevirtual 108, 3) := by decide +kernel
theorem d_A_taskOfArrival_8 : decode b_A_taskOfArrival 8 = .ok (.istore 4, 2) := by decide +kernel
theorem d_A_taskOfArrival_10 : decode b_A_taskOfArrival 10 = .ok (.iconst 0, 1) := by decide +kernel
theorem d_A_taskOfArrival_11 : decode b_A_taskOfArrival 11 = .ok (.istore 5, 2) := by decide +kernel
theorem d_A_taskOfArrival_13 : decode b_A_taskOfArrival 13 = .ok (.iload 5, 2) := by decide +kernel
theorem d_A_taskOfArrival_15 : decode b_A_taskOfArrival 15 = .ok (.aload_n 1, 1) := by decide +kernel
theorem d_A_taskOfArrival_16 : decode b_A_taskOfArrival 16 = .ok (.getfield 118, 3) := by decide +kernel
theorem d_A_taskOfArrival_19 : decode b_A_taskOfArrival 19 = .ok (.if_icmp .ge 53, 3) := by decide +kernel
theorem d_A_taskOfArrival_22 : decode b_A_taskOfArrival 22 = .ok (.aload_n 0, 1) := by decide +kernel
theorem d_A_taskOfArrival_23 : decode b_A_taskOfArrival 23 = .ok (.getfield 9, 3) := by decide +kernel
theorem d_A_taskOfArrival_26 : decode b_A_taskOfArrival 26 = .ok (.getfield 46, 3) := by decide +kernel
theorem d_A_taskOfArrival_29 : decode b_A_taskOfArrival 29 = .ok (.iload 5, 2) := by decide +kernel
theorem d_A_taskOfArrival_31 : decode b_A_taskOfArrival 31 = .ok (.aaload, 1) := by decide +kernel
theorem d_A_taskOfArrival_32 : decode b_A_taskOfArrival 32 = .ok (.astore 6, 2) := by decide +kernel
theorem d_A_taskOfArrival_34 : decode b_A_taskOfArrival 34 = .ok (.iload 4, 2) := by decide +kernel
theorem d_A_taskOfArrival_36 : decode b_A_taskOfArrival 36 = .ok (.aload 6, 2) := by decide +kernel
theorem d_A_taskOfArrival_38 : decode b_A_taskOfArrival 38 = .ok (.iload_n 3, 1) := by decide +kernel
theorem d_A_taskOfArrival_39 : decode b_A_taskOfArrival 39 = .ok (.invokevirtual 124, 3) := by decide +kernel
theorem d_A_taskOfArrival_42 : decode b_A_taskOfArrival 42 = .ok (.aload 6, 2) := by decide +kernel
theorem d_A_taskOfArrival_44 : decode b_A_taskOfArrival 44 = .ok (.iload_n 3, 1) := by decide +kernel
theorem d_A_taskOfArrival_45 : decode b_A_taskOfArrival 45 = .ok (.iconst 1, 1) := by decide +kernel
theorem d_A_taskOfArrival_46 : decode b_A_taskOfArrival 46 = .ok (.isub, 1) := by decide +kernel
theorem d_A_taskOfArrival_47 : decode b_A_taskOfArrival 47 = .ok (.invokevirtual 124, 3) := by decide +kernel
theorem d_A_taskOfArrival_50 : decode b_A_taskOfArrival 50 = .ok (.isub, 1) := by decide +kernel
theorem d_A_taskOfArrival_51 : decode b_A_taskOfArrival 51 = .ok (.iadd, 1) := by decide +kernel
theorem d_A_taskOfArrival_52 : decode b_A_taskOfArrival 52 = .ok (.istore 4, 2) := by decide +kernel
theorem d_A_taskOfArrival_54 : decode b_A_taskOfArrival 54 = .ok (.iload 4, 2) := by decide +kernel
theorem d_A_taskOfArrival_56 : decode b_A_taskOfArrival 56 = .ok (.iload_n 2, 1) := by decide +kernel
theorem d_A_taskOfArrival_57 : decode b_A_taskOfArrival 57 = .ok (.if_icmp .le 9, 3) := by decide +kernel
theorem d_A_taskOfArrival_60 : decode b_A_taskOfArrival 60 = .ok (.aload 6, 2) := by decide +kernel
theorem d_A_taskOfArrival_62 : decode b_A_taskOfArrival 62 = .ok (.getfield 58, 3) := by decide +kernel
theorem d_A_taskOfArrival_65 : decode b_A_taskOfArrival 65 = .ok (.ireturn, 1) := by decide +kernel
theorem d_A_taskOfArrival_66 : decode b_A_taskOfArrival 66 = .ok (.iinc 5 1, 3) := by decide +kernel
theorem d_A_taskOfArrival_69 : decode b_A_taskOfArrival 69 = .ok (.goto (-56), 3) := by decide +kernel
theorem d_A_taskOfArrival_72 : decode b_A_taskOfArrival 72 = .ok (.aload_n 1, 1) := by decide +kernel
theorem d_A_taskOfArrival_73 : decode b_A_taskOfArrival 73 = .ok (.getfield 58, 3) := by decide +kernel
theorem d_A_taskOfArrival_76 : decode b_A_taskOfArrival 76 = .ok (.ireturn, 1) := by decide +kernel
theorem d_A_greatestBorne_0 : decode b_A_greatestBorne 0 = .ok (.iconst (-1), 1) := by decide +kernel
theorem d_A_greatestBorne_1 : decode b_A_greatestBorne 1 = .ok (.istore_n 2, 1) := by decide +kernel
theorem d_A_greatestBorne_2 : decode b_A_greatestBorne 2 = .ok (.iconst 0, 1) := by decide +kernel
theorem d_A_greatestBorne_3 : decode b_A_greatestBorne 3 = .ok (.aload_n 1, 1) := by decide +kernel
theorem d_A_greatestBorne_4 : decode b_A_greatestBorne 4 = .ok (.getfield 61, 3) := by decide +kernel
theorem d_A_greatestBorne_7 : decode b_A_greatestBorne 7 = .ok (.aload_n 1, 1) := by decide +kernel
theorem d_A_greatestBorne_8 : decode b_A_greatestBorne 8 = .ok (.getfield 82, 3) := by decide +kernel
theorem d_A_greatestBorne_11 : decode b_A_greatestBorne 11 = .ok (.isub, 1) := by decide +kernel
theorem d_A_greatestBorne_12 : decode b_A_greatestBorne 12 = .ok (.iconst 1, 1) := by decide +kernel
theorem d_A_greatestBorne_13 : decode b_A_greatestBorne 13 = .ok (.iadd, 1) := by decide +kernel
theorem d_A_greatestBorne_14 : decode b_A_greatestBorne 14 = .ok (.invokestatic 130, 3) := by decide +kernel
theorem d_A_greatestBorne_17 : decode b_A_greatestBorne 17 = .ok (.istore_n 3, 1) := by decide +kernel
theorem d_A_greatestBorne_18 : decode b_A_greatestBorne 18 = .ok (.iconst 0, 1) := by decide +kernel
theorem d_A_greatestBorne_19 : decode b_A_greatestBorne 19 = .ok (.istore 4, 2) := by decide +kernel
theorem d_A_greatestBorne_21 : decode b_A_greatestBorne 21 = .ok (.iload 4, 2) := by decide +kernel
theorem d_A_greatestBorne_23 : decode b_A_greatestBorne 23 = .ok (.bipush 64, 2) := by decide +kernel
theorem d_A_greatestBorne_25 : decode b_A_greatestBorne 25 = .ok (.if_icmp .ge 46, 3) := by decide +kernel
theorem d_A_greatestBorne_28 : decode b_A_greatestBorne 28 = .ok (.iload_n 3, 1) := by decide +kernel
theorem d_A_greatestBorne_29 : decode b_A_greatestBorne 29 = .ok (.iload_n 2, 1) := by decide +kernel
theorem d_A_greatestBorne_30 : decode b_A_greatestBorne 30 = .ok (.isub, 1) := by decide +kernel
theorem d_A_greatestBorne_31 : decode b_A_greatestBorne 31 = .ok (.iconst 1, 1) := by decide +kernel
theorem d_A_greatestBorne_32 : decode b_A_greatestBorne 32 = .ok (.if_icmp .le 39, 3) := by decide +kernel
theorem d_A_greatestBorne_35 : decode b_A_greatestBorne 35 = .ok (.iload_n 2, 1) := by decide +kernel
theorem d_A_greatestBorne_36 : decode b_A_greatestBorne 36 = .ok (.iload_n 3, 1) := by decide +kernel
theorem d_A_greatestBorne_37 : decode b_A_greatestBorne 37 = .ok (.iadd, 1) := by decide +kernel
theorem d_A_greatestBorne_38 : decode b_A_greatestBorne 38 = .ok (.iconst 2, 1) := by decide +kernel
theorem d_A_greatestBorne_39 : decode b_A_greatestBorne 39 = .ok (.idiv, 1) := by decide +kernel
theorem d_A_greatestBorne_40 : decode b_A_greatestBorne 40 = .ok (.istore 5, 2) := by decide +kernel
theorem d_A_greatestBorne_42 : decode b_A_greatestBorne 42 = .ok (.aload_n 0, 1) := by decide +kernel
theorem d_A_greatestBorne_43 : decode b_A_greatestBorne 43 = .ok (.aload_n 1, 1) := by decide +kernel
theorem d_A_greatestBorne_44 : decode b_A_greatestBorne 44 = .ok (.iload 5, 2) := by decide +kernel
theorem d_A_greatestBorne_46 : decode b_A_greatestBorne 46 = .ok (.invokevirtual 27, 3) := by decide +kernel
theorem d_A_greatestBorne_49 : decode b_A_greatestBorne 49 = .ok (.aload_n 1, 1) := by decide +kernel
theorem d_A_greatestBorne_50 : decode b_A_greatestBorne 50 = .ok (.getfield 61, 3) := by decide +kernel
theorem d_A_greatestBorne_53 : decode b_A_greatestBorne 53 = .ok (.if_icmp .gt 9, 3) := by decide +kernel
theorem d_A_greatestBorne_56 : decode b_A_greatestBorne 56 = .ok (.iload 5, 2) := by decide +kernel
theorem d_A_greatestBorne_58 : decode b_A_greatestBorne 58 = .ok (.istore_n 2, 1) := by decide +kernel
theorem d_A_greatestBorne_59 : decode b_A_greatestBorne 59 = .ok (.goto 6, 3) := by decide +kernel
theorem d_A_greatestBorne_62 : decode b_A_greatestBorne 62 = .ok (.iload 5, 2) := by decide +kernel
theorem d_A_greatestBorne_64 : decode b_A_greatestBorne 64 = .ok (.istore_n 3, 1) := by decide +kernel
theorem d_A_greatestBorne_65 : decode b_A_greatestBorne 65 = .ok (.iinc 4 1, 3) := by decide +kernel
theorem d_A_greatestBorne_68 : decode b_A_greatestBorne 68 = .ok (.goto (-47), 3) := by decide +kernel
theorem d_A_greatestBorne_71 : decode b_A_greatestBorne 71 = .ok (.iload_n 2, 1) := by decide +kernel
theorem d_A_greatestBorne_72 : decode b_A_greatestBorne 72 = .ok (.ireturn, 1) := by decide +kernel
theorem d_A_greatestWith_0 : decode b_A_greatestWith 0 = .ok (.aload_n 0, 1) := by decide +kernel
theorem d_A_greatestWith_1 : decode b_A_greatestWith 1 = .ok (.aload_n 1, 1) := by decide +kernel
theorem d_A_greatestWith_2 : decode b_A_greatestWith 2 = .ok (.iload_n 2, 1) := by decide +kernel
theorem d_A_greatestWith_3 : decode b_A_greatestWith 3 = .ok (.invokevirtual 133, 3) := by decide +kernel
theorem d_A_greatestWith_6 : decode b_A_greatestWith 6 = .ok (.istore_n 3, 1) := by decide +kernel
theorem d_A_greatestWith_7 : decode b_A_greatestWith 7 = .ok (.iconst 0, 1) := by decide +kernel
theorem d_A_greatestWith_8 : decode b_A_greatestWith 8 = .ok (.istore 4, 2) := by decide +kernel
theorem d_A_greatestWith_10 : decode b_A_greatestWith 10 = .ok (.iconst 0, 1) := by decide +kernel
theorem d_A_greatestWith_11 : decode b_A_greatestWith 11 = .ok (.istore 5, 2) := by decide +kernel
theorem d_A_greatestWith_13 : decode b_A_greatestWith 13 = .ok (.aload_n 0, 1) := by decide +kernel
theorem d_A_greatestWith_14 : decode b_A_greatestWith 14 = .ok (.iconst 0, 1) := by decide +kernel
theorem d_A_greatestWith_15 : decode b_A_greatestWith 15 = .ok (.putfield 31, 3) := by decide +kernel
theorem d_A_greatestWith_18 : decode b_A_greatestWith 18 = .ok (.aload_n 0, 1) := by decide +kernel
theorem d_A_greatestWith_19 : decode b_A_greatestWith 19 = .ok (.iload_n 3, 1) := by decide +kernel
theorem d_A_greatestWith_20 : decode b_A_greatestWith 20 = .ok (.sipush 20000, 3) := by decide +kernel
theorem d_A_greatestWith_23 : decode b_A_greatestWith 23 = .ok (.if_icmp .le 7, 3) := by decide +kernel
theorem d_A_greatestWith_26 : decode b_A_greatestWith 26 = .ok (.iconst 0, 1) := by decide +kernel
theorem d_A_greatestWith_27 : decode b_A_greatestWith 27 = .ok (.goto 10, 3) := by decide +kernel
theorem d_A_greatestWith_30 : decode b_A_greatestWith 30 = .ok (.aload_n 1, 1) := by decide +kernel
theorem d_A_greatestWith_31 : decode b_A_greatestWith 31 = .ok (.iload_n 3, 1) := by decide +kernel
theorem d_A_greatestWith_32 : decode b_A_greatestWith 32 = .ok (.iconst 1, 1) := by decide +kernel
theorem d_A_greatestWith_33 : decode b_A_greatestWith 33 = .ok (.isub, 1) := by decide +kernel
theorem d_A_greatestWith_34 : decode b_A_greatestWith 34 = .ok (.invokevirtual 124, 3) := by decide +kernel
theorem d_A_greatestWith_37 : decode b_A_greatestWith 37 = .ok (.putfield 37, 3) := by decide +kernel
theorem d_A_greatestWith_40 : decode b_A_greatestWith 40 = .ok (.iconst 0, 1) := by decide +kernel
theorem d_A_greatestWith_41 : decode b_A_greatestWith 41 = .ok (.istore 6, 2) := by decide +kernel
theorem d_A_greatestWith_43 : decode b_A_greatestWith 43 = .ok (.iload 6, 2) := by decide +kernel
theorem d_A_greatestWith_45 : decode b_A_greatestWith 45 = .ok (.aload_n 0, 1) := by decide +kernel
theorem d_A_greatestWith_46 : decode b_A_greatestWith 46 = .ok (.getfield 37, 3) := by decide +kernel
theorem d_A_greatestWith_49 : decode b_A_greatestWith 49 = .ok (.if_icmp .ge 55, 3) := by decide +kernel
theorem d_A_greatestWith_52 : decode b_A_greatestWith 52 = .ok (.aload_n 0, 1) := by decide +kernel
theorem d_A_greatestWith_53 : decode b_A_greatestWith 53 = .ok (.aload_n 1, 1) := by decide +kernel
theorem d_A_greatestWith_54 : decode b_A_greatestWith 54 = .ok (.iload_n 2, 1) := by decide +kernel
theorem d_A_greatestWith_55 : decode b_A_greatestWith 55 = .ok (.iload 6, 2) := by decide +kernel
theorem d_A_greatestWith_57 : decode b_A_greatestWith 57 = .ok (.iload 5, 2) := by decide +kernel
theorem d_A_greatestWith_59 : decode b_A_greatestWith 59 = .ok (.invokevirtual 64, 3) := by decide +kernel
theorem d_A_greatestWith_62 : decode b_A_greatestWith 62 = .ok (.istore 5, 2) := by decide +kernel
theorem d_A_greatestWith_64 : decode b_A_greatestWith 64 = .ok (.iload 5, 2) := by decide +kernel
theorem d_A_greatestWith_66 : decode b_A_greatestWith 66 = .ok (.aload_n 1, 1) := by decide +kernel
theorem d_A_greatestWith_67 : decode b_A_greatestWith 67 = .ok (.invokevirtual 68, 3) := by decide +kernel
theorem d_A_greatestWith_70 : decode b_A_greatestWith 70 = .ok (.iadd, 1) := by decide +kernel
theorem d_A_greatestWith_71 : decode b_A_greatestWith 71 = .ok (.iload 6, 2) := by decide +kernel
theorem d_A_greatestWith_73 : decode b_A_greatestWith 73 = .ok (.aload_n 1, 1) := by decide +kernel
theorem d_A_greatestWith_74 : decode b_A_greatestWith 74 = .ok (.getfield 72, 3) := by decide +kernel
theorem d_A_greatestWith_77 : decode b_A_greatestWith 77 = .ok (.imul, 1) := by decide +kernel
theorem d_A_greatestWith_78 : decode b_A_greatestWith 78 = .ok (.isub, 1) := by decide +kernel
theorem d_A_greatestWith_79 : decode b_A_greatestWith 79 = .ok (.istore 7, 2) := by decide +kernel
theorem d_A_greatestWith_81 : decode b_A_greatestWith 81 = .ok (.iload 7, 2) := by decide +kernel
theorem d_A_greatestWith_83 : decode b_A_greatestWith 83 = .ok (.iload 4, 2) := by decide +kernel
theorem d_A_greatestWith_85 : decode b_A_greatestWith 85 = .ok (.if_icmp .le 13, 3) := by decide +kernel
theorem d_A_greatestWith_88 : decode b_A_greatestWith 88 = .ok (.iload 7, 2) := by decide +kernel
theorem d_A_greatestWith_90 : decode b_A_greatestWith 90 = .ok (.istore 4, 2) := by decide +kernel
theorem d_A_greatestWith_92 : decode b_A_greatestWith 92 = .ok (.aload_n 0, 1) := by decide +kernel
theorem d_A_greatestWith_93 : decode b_A_greatestWith 93 = .ok (.iload 6, 2) := by decide +kernel
theorem d_A_greatestWith_95 : decode b_A_greatestWith 95 = .ok (.putfield 31, 3) := by decide +kernel
theorem d_A_greatestWith_98 : decode b_A_greatestWith 98 = .ok (.iinc 6 1, 3) := by decide +kernel
theorem d_A_greatestWith_101 : decode b_A_greatestWith 101 = .ok (.goto (-58), 3) := by decide +kernel
theorem d_A_greatestWith_104 : decode b_A_greatestWith 104 = .ok (.aload_n 0, 1) := by decide +kernel
theorem d_A_greatestWith_105 : decode b_A_greatestWith 105 = .ok (.getfield 37, 3) := by decide +kernel
theorem d_A_greatestWith_108 : decode b_A_greatestWith 108 = .ok (.ifCond .ne 8, 3) := by decide +kernel
theorem d_A_greatestWith_111 : decode b_A_greatestWith 111 = .ok (.ldc 81, 2) := by decide +kernel
theorem d_A_greatestWith_113 : decode b_A_greatestWith 113 = .ok (.goto 5, 3) := by decide +kernel
theorem d_A_greatestWith_116 : decode b_A_greatestWith 116 = .ok (.iload 4, 2) := by decide +kernel
theorem d_A_greatestWith_118 : decode b_A_greatestWith 118 = .ok (.ireturn, 1) := by decide +kernel
theorem d_A_busyWith_0 : decode b_A_busyWith 0 = .ok (.iload_n 2, 1) := by decide +kernel
theorem d_A_busyWith_1 : decode b_A_busyWith 1 = .ok (.iconst 1, 1) := by decide +kernel
theorem d_A_busyWith_2 : decode b_A_busyWith 2 = .ok (.iadd, 1) := by decide +kernel
theorem d_A_busyWith_3 : decode b_A_busyWith 3 = .ok (.istore_n 3, 1) := by decide +kernel
theorem d_A_busyWith_4 : decode b_A_busyWith 4 = .ok (.iconst 0, 1) := by decide +kernel
theorem d_A_busyWith_5 : decode b_A_busyWith 5 = .ok (.istore 4, 2) := by decide +kernel
theorem d_A_busyWith_7 : decode b_A_busyWith 7 = .ok (.iload 4, 2) := by decide +kernel
theorem d_A_busyWith_9 : decode b_A_busyWith 9 = .ok (.sipush 20000, 3) := by decide +kernel
theorem d_A_busyWith_12 : decode b_A_busyWith 12 = .ok (.if_icmp .gt 52, 3) := by decide +kernel
theorem d_A_busyWith_15 : decode b_A_busyWith 15 = .ok (.iload_n 3, 1) := by decide +kernel
theorem d_A_busyWith_16 : decode b_A_busyWith 16 = .ok (.sipush 20000, 3) := by decide +kernel
theorem d_A_busyWith_19 : decode b_A_busyWith 19 = .ok (.if_icmp .gt 45, 3) := by decide +kernel
theorem d_A_busyWith_22 : decode b_A_busyWith 22 = .ok (.iload_n 2, 1) := by decide +kernel
theorem d_A_busyWith_23 : decode b_A_busyWith 23 = .ok (.aload_n 1, 1) := by decide +kernel
theorem d_A_busyWith_24 : decode b_A_busyWith 24 = .ok (.iload_n 3, 1) := by decide +kernel
theorem d_A_busyWith_25 : decode b_A_busyWith 25 = .ok (.iconst 1, 1) := by decide +kernel
theorem d_A_busyWith_26 : decode b_A_busyWith 26 = .ok (.isub, 1) := by decide +kernel
theorem d_A_busyWith_27 : decode b_A_busyWith 27 = .ok (.invokevirtual 124, 3) := by decide +kernel
theorem d_A_busyWith_30 : decode b_A_busyWith 30 = .ok (.aload_n 1, 1) := by decide +kernel
theorem d_A_busyWith_31 : decode b_A_busyWith 31 = .ok (.getfield 82, 3) := by decide +kernel
theorem d_A_busyWith_34 : decode b_A_busyWith 34 = .ok (.imul, 1) := by decide +kernel
theorem d_A_busyWith_35 : decode b_A_busyWith 35 = .ok (.iadd, 1) := by decide +kernel
theorem d_A_busyWith_36 : decode b_A_busyWith 36 = .ok (.aload_n 0, 1) := by decide +kernel
theorem d_A_busyWith_37 : decode b_A_busyWith 37 = .ok (.aload_n 1, 1) := by decide +kernel
theorem d_A_busyWith_38 : decode b_A_busyWith 38 = .ok (.iload_n 3, 1) := by decide +kernel
theorem d_A_busyWith_39 : decode b_A_busyWith 39 = .ok (.iconst 1, 1) := by decide +kernel
theorem d_A_busyWith_40 : decode b_A_busyWith 40 = .ok (.isub, 1) := by decide +kernel
theorem d_A_busyWith_41 : decode b_A_busyWith 41 = .ok (.invokevirtual 136, 3) := by decide +kernel
theorem d_A_busyWith_44 : decode b_A_busyWith 44 = .ok (.iadd, 1) := by decide +kernel
theorem d_A_busyWith_45 : decode b_A_busyWith 45 = .ok (.istore 5, 2) := by decide +kernel
theorem d_A_busyWith_47 : decode b_A_busyWith 47 = .ok (.iload 5, 2) := by decide +kernel
theorem d_A_busyWith_49 : decode b_A_busyWith 49 = .ok (.iload_n 3, 1) := by decide +kernel
theorem d_A_busyWith_50 : decode b_A_busyWith 50 = .ok (.if_icmp .gt 5, 3) := by decide +kernel
theorem d_A_busyWith_53 : decode b_A_busyWith 53 = .ok (.iload_n 3, 1) := by decide +kernel
theorem d_A_busyWith_54 : decode b_A_busyWith 54 = .ok (.ireturn, 1) := by decide +kernel
theorem d_A_busyWith_55 : decode b_A_busyWith 55 = .ok (.iload 5, 2) := by decide +kernel
theorem d_A_busyWith_57 : decode b_A_busyWith 57 = .ok (.istore_n 3, 1) := by decide +kernel
theorem d_A_busyWith_58 : decode b_A_busyWith 58 = .ok (.iinc 4 1, 3) := by decide +kernel
theorem d_A_busyWith_61 : decode b_A_busyWith 61 = .ok (.goto (-54), 3) := by decide +kernel
theorem d_A_busyWith_64 : decode b_A_busyWith 64 = .ok (.sipush 20001, 3) := by decide +kernel
theorem d_A_busyWith_67 : decode b_A_busyWith 67 = .ok (.ireturn, 1) := by decide +kernel
theorem d_A_lastBegin_0 : decode b_A_lastBegin 0 = .ok (.iload_n 2, 1) := by decide +kernel
theorem d_A_lastBegin_1 : decode b_A_lastBegin 1 = .ok (.iload_n 3, 1) := by decide +kernel
theorem d_A_lastBegin_2 : decode b_A_lastBegin 2 = .ok (.iconst 1, 1) := by decide +kernel
theorem d_A_lastBegin_3 : decode b_A_lastBegin 3 = .ok (.iadd, 1) := by decide +kernel
theorem d_A_lastBegin_4 : decode b_A_lastBegin 4 = .ok (.aload_n 1, 1) := by decide +kernel
theorem d_A_lastBegin_5 : decode b_A_lastBegin 5 = .ok (.getfield 82, 3) := by decide +kernel
theorem d_A_lastBegin_8 : decode b_A_lastBegin 8 = .ok (.imul, 1) := by decide +kernel
theorem d_A_lastBegin_9 : decode b_A_lastBegin 9 = .ok (.iadd, 1) := by decide +kernel
theorem d_A_lastBegin_10 : decode b_A_lastBegin 10 = .ok (.aload_n 1, 1) := by decide +kernel
theorem d_A_lastBegin_11 : decode b_A_lastBegin 11 = .ok (.invokevirtual 68, 3) := by decide +kernel
theorem d_A_lastBegin_14 : decode b_A_lastBegin 14 = .ok (.isub, 1) := by decide +kernel
theorem d_A_lastBegin_15 : decode b_A_lastBegin 15 = .ok (.istore 5, 2) := by decide +kernel
theorem d_A_lastBegin_17 : decode b_A_lastBegin 17 = .ok (.iload 4, 2) := by decide +kernel
theorem d_A_lastBegin_19 : decode b_A_lastBegin 19 = .ok (.istore 6, 2) := by decide +kernel
theorem d_A_lastBegin_21 : decode b_A_lastBegin 21 = .ok (.iconst 0, 1) := by decide +kernel
theorem d_A_lastBegin_22 : decode b_A_lastBegin 22 = .ok (.istore 7, 2) := by decide +kernel
theorem d_A_lastBegin_24 : decode b_A_lastBegin 24 = .ok (.iload 7, 2) := by decide +kernel
theorem d_A_lastBegin_26 : decode b_A_lastBegin 26 = .ok (.sipush 20000, 3) := by decide +kernel
theorem d_A_lastBegin_29 : decode b_A_lastBegin 29 = .ok (.if_icmp .gt 35, 3) := by decide +kernel
theorem d_A_lastBegin_32 : decode b_A_lastBegin 32 = .ok (.iload 5, 2) := by decide +kernel
theorem d_A_lastBegin_34 : decode b_A_lastBegin 34 = .ok (.aload_n 0, 1) := by decide +kernel
theorem d_A_lastBegin_35 : decode b_A_lastBegin 35 = .ok (.aload_n 1, 1) := by decide +kernel
theorem d_A_lastBegin_36 : decode b_A_lastBegin 36 = .ok (.iload 6, 2) := by decide +kernel
theorem d_A_lastBegin_38 : decode b_A_lastBegin 38 = .ok (.invokevirtual 136, 3) := by decide +kernel
theorem d_A_lastBegin_41 : decode b_A_lastBegin 41 = .ok (.iadd, 1) := by decide +kernel
theorem d_A_lastBegin_42 : decode b_A_lastBegin 42 = .ok (.istore 8, 2) := by decide +kernel
theorem d_A_lastBegin_44 : decode b_A_lastBegin 44 = .ok (.iload 8, 2) := by decide +kernel
theorem d_A_lastBegin_46 : decode b_A_lastBegin 46 = .ok (.iload 6, 2) := by decide +kernel
theorem d_A_lastBegin_48 : decode b_A_lastBegin 48 = .ok (.if_icmp .gt 6, 3) := by decide +kernel
theorem d_A_lastBegin_51 : decode b_A_lastBegin 51 = .ok (.iload 6, 2) := by decide +kernel
theorem d_A_lastBegin_53 : decode b_A_lastBegin 53 = .ok (.ireturn, 1) := by decide +kernel
theorem d_A_lastBegin_54 : decode b_A_lastBegin 54 = .ok (.iload 8, 2) := by decide +kernel
theorem d_A_lastBegin_56 : decode b_A_lastBegin 56 = .ok (.istore 6, 2) := by decide +kernel
theorem d_A_lastBegin_58 : decode b_A_lastBegin 58 = .ok (.iinc 7 1, 3) := by decide +kernel
theorem d_A_lastBegin_61 : decode b_A_lastBegin 61 = .ok (.goto (-37), 3) := by decide +kernel
theorem d_A_lastBegin_64 : decode b_A_lastBegin 64 = .ok (.iload 6, 2) := by decide +kernel
theorem d_A_lastBegin_66 : decode b_A_lastBegin 66 = .ok (.ireturn, 1) := by decide +kernel
theorem d_A_higherWorkBy_0 : decode b_A_higherWorkBy 0 = .ok (.iconst 0, 1) := by decide +kernel
theorem d_A_higherWorkBy_1 : decode b_A_higherWorkBy 1 = .ok (.istore_n 3, 1) := by decide +kernel
theorem d_A_higherWorkBy_2 : decode b_A_higherWorkBy 2 = .ok (.iconst 0, 1) := by decide +kernel
theorem d_A_higherWorkBy_3 : decode b_A_higherWorkBy 3 = .ok (.istore 4, 2) := by decide +kernel
theorem d_A_higherWorkBy_5 : decode b_A_higherWorkBy 5 = .ok (.iload 4, 2) := by decide +kernel
theorem d_A_higherWorkBy_7 : decode b_A_higherWorkBy 7 = .ok (.aload_n 1, 1) := by decide +kernel
theorem d_A_higherWorkBy_8 : decode b_A_higherWorkBy 8 = .ok (.getfield 118, 3) := by decide +kernel
theorem d_A_higherWorkBy_11 : decode b_A_higherWorkBy 11 = .ok (.if_icmp .ge 36, 3) := by decide +kernel
theorem d_A_higherWorkBy_14 : decode b_A_higherWorkBy 14 = .ok (.aload_n 0, 1) := by decide +kernel
theorem d_A_higherWorkBy_15 : decode b_A_higherWorkBy 15 = .ok (.getfield 9, 3) := by decide +kernel
theorem d_A_higherWorkBy_18 : decode b_A_higherWorkBy 18 = .ok (.getfield 46, 3) := by decide +kernel
theorem d_A_higherWorkBy_21 : decode b_A_higherWorkBy 21 = .ok (.iload 4, 2) := by decide +kernel
theorem d_A_higherWorkBy_23 : decode b_A_higherWorkBy 23 = .ok (.aaload, 1) := by decide +kernel
theorem d_A_higherWorkBy_24 : decode b_A_higherWorkBy 24 = .ok (.astore 5, 2) := by decide +kernel
theorem d_A_higherWorkBy_26 : decode b_A_higherWorkBy 26 = .ok (.iload_n 3, 1) := by decide +kernel
theorem d_A_higherWorkBy_27 : decode b_A_higherWorkBy 27 = .ok (.aload 5, 2) := by decide +kernel
theorem d_A_higherWorkBy_29 : decode b_A_higherWorkBy 29 = .ok (.iload_n 2, 1) := by decide +kernel
theorem d_A_higherWorkBy_30 : decode b_A_higherWorkBy 30 = .ok (.invokevirtual 124, 3) := by decide +kernel
theorem d_A_higherWorkBy_33 : decode b_A_higherWorkBy 33 = .ok (.aload 5, 2) := by decide +kernel
theorem d_A_higherWorkBy_35 : decode b_A_higherWorkBy 35 = .ok (.getfield 82, 3) := by decide +kernel
theorem d_A_higherWorkBy_38 : decode b_A_higherWorkBy 38 = .ok (.imul, 1) := by decide +kernel
theorem d_A_higherWorkBy_39 : decode b_A_higherWorkBy 39 = .ok (.iadd, 1) := by decide +kernel
theorem d_A_higherWorkBy_40 : decode b_A_higherWorkBy 40 = .ok (.istore_n 3, 1) := by decide +kernel
theorem d_A_higherWorkBy_41 : decode b_A_higherWorkBy 41 = .ok (.iinc 4 1, 3) := by decide +kernel
theorem d_A_higherWorkBy_44 : decode b_A_higherWorkBy 44 = .ok (.goto (-39), 3) := by decide +kernel
theorem d_A_higherWorkBy_47 : decode b_A_higherWorkBy 47 = .ok (.iload_n 3, 1) := by decide +kernel
theorem d_A_higherWorkBy_48 : decode b_A_higherWorkBy 48 = .ok (.ireturn, 1) := by decide +kernel
theorem d_K_init_0 : decode b_K_init 0 = .ok (.aload_n 0, 1) := by decide +kernel
theorem d_K_init_1 : decode b_K_init 1 = .ok (.invokespecial 1, 3) := by decide +kernel
theorem d_K_init_4 : decode b_K_init 4 = .ok (.aload_n 0, 1) := by decide +kernel
theorem d_K_init_5 : decode b_K_init 5 = .ok (.aload_n 1, 1) := by decide +kernel
theorem d_K_init_6 : decode b_K_init 6 = .ok (.putfield 7, 3) := by decide +kernel
theorem d_K_init_9 : decode b_K_init 9 = .ok (.return_, 1) := by decide +kernel
theorem d_K_forgetJobs_0 : decode b_K_forgetJobs 0 = .ok (.iconst 0, 1) := by decide +kernel
theorem d_K_forgetJobs_1 : decode b_K_forgetJobs 1 = .ok (.istore_n 1, 1) := by decide +kernel
theorem d_K_forgetJobs_2 : decode b_K_forgetJobs 2 = .ok (.iload_n 1, 1) := by decide +kernel
theorem d_K_forgetJobs_3 : decode b_K_forgetJobs 3 = .ok (.aload_n 0, 1) := by decide +kernel
theorem d_K_forgetJobs_4 : decode b_K_forgetJobs 4 = .ok (.getfield 7, 3) := by decide +kernel
theorem d_K_forgetJobs_7 : decode b_K_forgetJobs 7 = .ok (.getfield 13, 3) := by decide +kernel
theorem d_K_forgetJobs_10 : decode b_K_forgetJobs 10 = .ok (.if_icmp .ge 24, 3) := by decide +kernel
theorem d_K_forgetJobs_13 : decode b_K_forgetJobs 13 = .ok (.aload_n 0, 1) := by decide +kernel
theorem d_K_forgetJobs_14 : decode b_K_forgetJobs 14 = .ok (.getfield 7, 3) := by decide +kernel
theorem d_K_forgetJobs_17 : decode b_K_forgetJobs 17 = .ok (.getfield 19, 3) := by decide +kernel
theorem d_K_forgetJobs_20 : decode b_K_forgetJobs 20 = .ok (.iload_n 1, 1) := by decide +kernel
theorem d_K_forgetJobs_21 : decode b_K_forgetJobs 21 = .ok (.aaload, 1) := by decide +kernel
theorem d_K_forgetJobs_22 : decode b_K_forgetJobs 22 = .ok (.getfield 23, 3) := by decide +kernel
theorem d_K_forgetJobs_25 : decode b_K_forgetJobs 25 = .ok (.invokevirtual 29, 3) := by decide +kernel
theorem d_K_forgetJobs_28 : decode b_K_forgetJobs 28 = .ok (.iinc 1 1, 3) := by decide +kernel
theorem d_K_forgetJobs_31 : decode b_K_forgetJobs 31 = .ok (.goto (-29), 3) := by decide +kernel
theorem d_K_forgetJobs_34 : decode b_K_forgetJobs 34 = .ok (.aload_n 0, 1) := by decide +kernel
theorem d_K_forgetJobs_35 : decode b_K_forgetJobs 35 = .ok (.iconst 0, 1) := by decide +kernel
theorem d_K_forgetJobs_36 : decode b_K_forgetJobs 36 = .ok (.putfield 34, 3) := by decide +kernel
theorem d_K_forgetJobs_39 : decode b_K_forgetJobs 39 = .ok (.aload_n 0, 1) := by decide +kernel
theorem d_K_forgetJobs_40 : decode b_K_forgetJobs 40 = .ok (.iconst 0, 1) := by decide +kernel
theorem d_K_forgetJobs_41 : decode b_K_forgetJobs 41 = .ok (.putfield 38, 3) := by decide +kernel
theorem d_K_forgetJobs_44 : decode b_K_forgetJobs 44 = .ok (.aload_n 0, 1) := by decide +kernel
theorem d_K_forgetJobs_45 : decode b_K_forgetJobs 45 = .ok (.iconst 0, 1) := by decide +kernel
theorem d_K_forgetJobs_46 : decode b_K_forgetJobs 46 = .ok (.putfield 41, 3) := by decide +kernel
theorem d_K_forgetJobs_49 : decode b_K_forgetJobs 49 = .ok (.aload_n 0, 1) := by decide +kernel
theorem d_K_forgetJobs_50 : decode b_K_forgetJobs 50 = .ok (.aconst_null, 1) := by decide +kernel
theorem d_K_forgetJobs_51 : decode b_K_forgetJobs 51 = .ok (.putfield 44, 3) := by decide +kernel
theorem d_K_forgetJobs_54 : decode b_K_forgetJobs 54 = .ok (.aload_n 0, 1) := by decide +kernel
theorem d_K_forgetJobs_55 : decode b_K_forgetJobs 55 = .ok (.aconst_null, 1) := by decide +kernel
theorem d_K_forgetJobs_56 : decode b_K_forgetJobs 56 = .ok (.putfield 48, 3) := by decide +kernel
theorem d_K_forgetJobs_59 : decode b_K_forgetJobs 59 = .ok (.return_, 1) := by decide +kernel
theorem d_K_accept_0 : decode b_K_accept 0 = .ok (.aload_n 1, 1) := by decide +kernel
theorem d_K_accept_1 : decode b_K_accept 1 = .ok (.getfield 23, 3) := by decide +kernel
theorem d_K_accept_4 : decode b_K_accept 4 = .ok (.aload_n 0, 1) := by decide +kernel
theorem d_K_accept_5 : decode b_K_accept 5 = .ok (.getfield 38, 3) := by decide +kernel
theorem d_K_accept_8 : decode b_K_accept 8 = .ok (.aload_n 1, 1) := by decide +kernel
theorem d_K_accept_9 : decode b_K_accept 9 = .ok (.getfield 51, 3) := by decide +kernel
theorem d_K_accept_12 : decode b_K_accept 12 = .ok (.invokevirtual 54, 3) := by decide +kernel
theorem d_K_accept_15 : decode b_K_accept 15 = .ok (.ifCond .ne 5, 3) := by decide +kernel
theorem d_K_accept_18 : decode b_K_accept 18 = .ok (.iconst 0, 1) := by decide +kernel
theorem d_K_accept_19 : decode b_K_accept 19 = .ok (.ireturn, 1) := by decide +kernel
theorem d_K_accept_20 : decode b_K_accept 20 = .ok (.aload_n 0, 1) := by decide +kernel
theorem d_K_accept_21 : decode b_K_accept 21 = .ok (.iconst 1, 1) := by decide +kernel
theorem d_K_accept_22 : decode b_K_accept 22 = .ok (.putfield 34, 3) := by decide +kernel
theorem d_K_accept_25 : decode b_K_accept 25 = .ok (.iconst 1, 1) := by decide +kernel
theorem d_K_accept_26 : decode b_K_accept 26 = .ok (.ireturn, 1) := by decide +kernel
theorem d_K_leftOf_0 : decode b_K_leftOf 0 = .ok (.aload_n 1, 1) := by decide +kernel
theorem d_K_leftOf_1 : decode b_K_leftOf 1 = .ok (.aload_n 0, 1) := by decide +kernel
theorem d_K_leftOf_2 : decode b_K_leftOf 2 = .ok (.getfield 44, 3) := by decide +kernel
theorem d_K_leftOf_5 : decode b_K_leftOf 5 = .ok (.if_acmp .ne 10, 3) := by decide +kernel
theorem d_K_leftOf_8 : decode b_K_leftOf 8 = .ok (.aload_n 0, 1) := by decide +kernel
theorem d_K_leftOf_9 : decode b_K_leftOf 9 = .ok (.getfield 41, 3) := by decide +kernel
theorem d_K_leftOf_12 : decode b_K_leftOf 12 = .ok (.goto 4, 3) := by decide +kernel
theorem d_K_leftOf_15 : decode b_K_leftOf 15 = .ok (.iconst 0, 1) := by decide +kernel
theorem d_K_leftOf_16 : decode b_K_leftOf 16 = .ok (.ireturn, 1) := by decide +kernel
theorem d_K_advance_0 : decode b_K_advance 0 = .ok (.iconst 0, 1) := by decide +kernel
theorem d_K_advance_1 : decode b_K_advance 1 = .ok (.istore_n 2, 1) := by decide +kernel
theorem d_K_advance_2 : decode b_K_advance 2 = .ok (.iload_n 1, 1) := by decide +kernel
theorem d_K_advance_3 : decode b_K_advance 3 = .ok (.istore_n 3, 1) := by decide +kernel
theorem d_K_advance_4 : decode b_K_advance 4 = .ok (.iconst 0, 1) := by decide +kernel
theorem d_K_advance_5 : decode b_K_advance 5 = .ok (.istore 4, 2) := by decide +kernel
theorem d_K_advance_7 : decode b_K_advance 7 = .ok (.iload 4, 2) := by decide +kernel
theorem d_K_advance_9 : decode b_K_advance 9 = .ok (.iload_n 1, 1) := by decide +kernel
theorem d_K_advance_10 : decode b_K_advance 10 = .ok (.if_icmp .ge 76, 3) := by decide +kernel
theorem d_K_advance_13 : decode b_K_advance 13 = .ok (.iload_n 3, 1) := by decide +kernel
theorem d_K_advance_14 : decode b_K_advance 14 = .ok (.ifCond .le 72, 3) := by decide +kernel
theorem d_K_advance_17 : decode b_K_advance 17 = .ok (.aload_n 0, 1) := by decide +kernel
theorem d_K_advance_18 : decode b_K_advance 18 = .ok (.getfield 44, 3) := by decide +kernel
theorem d_K_advance_21 : decode b_K_advance 21 = .ok (.ifnonnull 7, 3) := by decide +kernel
theorem d_K_advance_24 : decode b_K_advance 24 = .ok (.aload_n 0, 1) := by decide +kernel
theorem d_K_advance_25 : decode b_K_advance 25 = .ok (.invokevirtual 58, 3) := by decide +kernel
theorem d_K_advance_28 : decode b_K_advance 28 = .ok (.aload_n 0, 1) := by decide +kernel
theorem d_K_advance_29 : decode b_K_advance 29 = .ok (.getfield 44, 3) := by decide +kernel
theorem d_K_advance_32 : decode b_K_advance 32 = .ok (.ifnonnull 15, 3) := by decide +kernel
theorem d_K_advance_35 : decode b_K_advance 35 = .ok (.aload_n 0, 1) := by decide +kernel
theorem d_K_advance_36 : decode b_K_advance 36 = .ok (.dup, 1) := by decide +kernel
theorem d_K_advance_37 : decode b_K_advance 37 = .ok (.getfield 38, 3) := by decide +kernel
theorem d_K_advance_40 : decode b_K_advance 40 = .ok (.iload_n 3, 1) := by decide +kernel
theorem d_K_advance_41 : decode b_K_advance 41 = .ok (.iadd, 1) := by decide +kernel
theorem d_K_advance_42 : decode b_K_advance 42 = .ok (.putfield 38, 3) := by decide +kernel
theorem d_K_advance_45 : decode b_K_advance 45 = .ok (.iconst 0, 1) := by decide +kernel
theorem d_K_advance_46 : decode b_K_advance 46 = .ok (.ireturn, 1) := by decide +kernel
theorem d_K_advance_47 : decode b_K_advance 47 = .ok (.aload_n 0, 1) := by decide +kernel
theorem d_K_advance_48 : decode b_K_advance 48 = .ok (.getfield 44, 3) := by decide +kernel
theorem d_K_advance_51 : decode b_K_advance 51 = .ok (.getfield 61, 3) := by decide +kernel
theorem d_K_advance_54 : decode b_K_advance 54 = .ok (.istore_n 2, 1) := by decide +kernel
theorem d_K_advance_55 : decode b_K_advance 55 = .ok (.aload_n 0, 1) := by decide +kernel
theorem d_K_advance_56 : decode b_K_advance 56 = .ok (.getfield 41, 3) := by decide +kernel
theorem d_K_advance_59 : decode b_K_advance 59 = .ok (.iload_n 3, 1) := by decide +kernel
theorem d_K_advance_60 : decode b_K_advance 60 = .ok (.invokestatic 64, 3) := by decide +kernel
theorem d_K_advance_63 : decode b_K_advance 63 = .ok (.istore 5, 2) := by decide +kernel
theorem d_K_advance_65 : decode b_K_advance 65 = .ok (.iload_n 3, 1) := by decide +kernel
theorem d_K_advance_66 : decode b_K_advance 66 = .ok (.iload 5, 2) := by decide +kernel
theorem d_K_advance_68 : decode b_K_advance 68 = .ok (.isub, 1) := by decide +kernel
theorem d_K_advance_69 : decode b_K_advance 69 = .ok (.istore_n 3, 1) := by decide +kernel
theorem d_K_advance_70 : decode b_K_advance 70 = .ok (.aload_n 0, 1) := by decide +kernel
theorem d_K_advance_71 : decode b_K_advance 71 = .ok (.aload_n 0, 1) := by decide +kernel
theorem d_K_advance_72 : decode b_K_advance 72 = .ok (.getfield 44, 3) := by decide +kernel
theorem d_K_advance_75 : decode b_K_advance 75 = .ok (.iload 5, 2) := by decide +kernel
theorem d_K_advance_77 : decode b_K_advance 77 = .ok (.invokevirtual 70, 3) := by decide +kernel
theorem d_K_advance_80 : decode b_K_advance 80 = .ok (.iinc 4 1, 3) := by decide +kernel
theorem d_K_advance_83 : decode b_K_advance 83 = .ok (.goto (-76), 3) := by decide +kernel
theorem d_K_advance_86 : decode b_K_advance 86 = .ok (.iload_n 2, 1) := by decide +kernel
theorem d_K_advance_87 : decode b_K_advance 87 = .ok (.ireturn, 1) := by decide +kernel
theorem d_K_run_0 : decode b_K_run 0 = .ok (.aload_n 0, 1) := by decide +kernel
theorem d_K_run_1 : decode b_K_run 1 = .ok (.dup, 1) := by decide +kernel
theorem d_K_run_2 : decode b_K_run 2 = .ok (.getfield 38, 3) := by decide +kernel
theorem d_K_run_5 : decode b_K_run 5 = .ok (.iload_n 2, 1) := by decide +kernel
theorem d_K_run_6 : decode b_K_run 6 = .ok (.iadd, 1) := by decide +kernel
theorem d_K_run_7 : decode b_K_run 7 = .ok (.putfield 38, 3) := by decide +kernel
theorem d_K_run_10 : decode b_K_run 10 = .ok (.aload_n 0, 1) := by decide +kernel
theorem d_K_run_11 : decode b_K_run 11 = .ok (.dup, 1) := by decide +kernel
theorem d_K_run_12 : decode b_K_run 12 = .ok (.getfield 41, 3) := by decide +kernel
theorem d_K_run_15 : decode b_K_run 15 = .ok (.iload_n 2, 1) := by decide +kernel
theorem d_K_run_16 : decode b_K_run 16 = .ok (.isub, 1) := by decide +kernel
theorem d_K_run_17 : decode b_K_run 17 = .ok (.putfield 41, 3) := by decide +kernel
theorem d_K_run_20 : decode b_K_run 20 = .ok (.aload_n 0, 1) := by decide +kernel
theorem d_K_run_21 : decode b_K_run 21 = .ok (.getfield 41, 3) := by decide +kernel
theorem d_K_run_24 : decode b_K_run 24 = .ok (.ifCond .ne 8, 3) := by decide +kernel
theorem d_K_run_27 : decode b_K_run 27 = .ok (.aload_n 0, 1) := by decide +kernel
theorem d_K_run_28 : decode b_K_run 28 = .ok (.aload_n 1, 1) := by decide +kernel
theorem d_K_run_29 : decode b_K_run 29 = .ok (.invokevirtual 74, 3) := by decide +kernel
theorem d_K_run_32 : decode b_K_run 32 = .ok (.return_, 1) := by decide +kernel
theorem d_K_beginSegment_0 : decode b_K_beginSegment 0 = .ok (.aload_n 0, 1) := by decide +kernel
theorem d_K_beginSegment_1 : decode b_K_beginSegment 1 = .ok (.invokevirtual 78, 3) := by decide +kernel
theorem d_K_beginSegment_4 : decode b_K_beginSegment 4 = .ok (.astore_n 1, 1) := by decide +kernel
theorem d_K_beginSegment_5 : decode b_K_beginSegment 5 = .ok (.aload_n 1, 1) := by decide +kernel
theorem d_K_beginSegment_6 : decode b_K_beginSegment 6 = .ok (.ifnonnull 4, 3) := by decide +kernel
theorem d_K_beginSegment_9 : decode b_K_beginSegment 9 = .ok (.return_, 1) := by decide +kernel
theorem d_K_beginSegment_10 : decode b_K_beginSegment 10 = .ok (.aload_n 0, 1) := by decide +kernel
theorem d_K_beginSegment_11 : decode b_K_beginSegment 11 = .ok (.getfield 48, 3) := by decide +kernel
theorem d_K_beginSegment_14 : decode b_K_beginSegment 14 = .ok (.ifnull 27, 3) := by decide +kernel
theorem d_K_beginSegment_17 : decode b_K_beginSegment 17 = .ok (.aload_n 0, 1) := by decide +kernel
theorem d_K_beginSegment_18 : decode b_K_beginSegment 18 = .ok (.getfield 48, 3) := by decide +kernel
theorem d_K_beginSegment_21 : decode b_K_beginSegment 21 = .ok (.aload_n 1, 1) := by decide +kernel
theorem d_K_beginSegment_22 : decode b_K_beginSegment 22 = .ok (.if_acmp .eq 19, 3) := by decide +kernel
theorem d_K_beginSegment_25 : decode b_K_beginSegment 25 = .ok (.aload_n 0, 1) := by decide +kernel
theorem d_K_beginSegment_26 : decode b_K_beginSegment 26 = .ok (.getfield 48, 3) := by decide +kernel
theorem d_K_beginSegment_29 : decode b_K_beginSegment 29 = .ok (.getfield 23, 3) := by decide +kernel
theorem d_K_beginSegment_32 : decode b_K_beginSegment 32 = .ok (.dup, 1) := by decide +kernel
theorem d_K_beginSegment_33 : decode b_K_beginSegment 33 = .ok (.getfield 82, 3) := by decide +kernel
theorem d_K_beginSegment_36 : decode b_K_beginSegment 36 = .ok (.iconst 1, 1) := by decide +kernel
theorem d_K_beginSegment_37 : decode b_K_beginSegment 37 = .ok (.iadd, 1) := by decide +kernel
theorem d_K_beginSegment_38 : decode b_K_beginSegment 38 = .ok (.putfield 82, 3) := by decide +kernel
theorem d_K_beginSegment_41 : decode b_K_beginSegment 41 = .ok (.aload_n 0, 1) := by decide +kernel
theorem d_K_beginSegment_42 : decode b_K_beginSegment 42 = .ok (.aconst_null, 1) := by decide +kernel
theorem d_K_beginSegment_43 : decode b_K_beginSegment 43 = .ok (.putfield 48, 3) := by decide +kernel
theorem d_K_beginSegment_46 : decode b_K_beginSegment 46 = .ok (.aload_n 0, 1) := by decide +kernel
theorem d_K_beginSegment_47 : decode b_K_beginSegment 47 = .ok (.aload_n 1, 1) := by decide +kernel
theorem d_K_beginSegment_48 : decode b_K_beginSegment 48 = .ok (.putfield 44, 3) := by decide +kernel
theorem d_K_beginSegment_51 : decode b_K_beginSegment 51 = .ok (.aload_n 0, 1) := by decide +kernel
theorem d_K_beginSegment_52 : decode b_K_beginSegment 52 = .ok (.aload_n 1, 1) := by decide +kernel
theorem d_K_beginSegment_53 : decode b_K_beginSegment 53 = .ok (.aload_n 1, 1) := by decide +kernel
theorem d_K_beginSegment_54 : decode b_K_beginSegment 54 = .ok (.getfield 23, 3) := by decide +kernel
theorem d_K_beginSegment_57 : decode b_K_beginSegment 57 = .ok (.getfield 85, 3) := by decide +kernel
theorem d_K_beginSegment_60 : decode b_K_beginSegment 60 = .ok (.invokevirtual 88, 3) := by decide +kernel
theorem d_K_beginSegment_63 : decode b_K_beginSegment 63 = .ok (.putfield 41, 3) := by decide +kernel
theorem d_K_beginSegment_66 : decode b_K_beginSegment 66 = .ok (.return_, 1) := by decide +kernel
theorem d_K_endSegment_0 : decode b_K_endSegment 0 = .ok (.aload_n 0, 1) := by decide +kernel
theorem d_K_endSegment_1 : decode b_K_endSegment 1 = .ok (.aconst_null, 1) := by decide +kernel
theorem d_K_endSegment_2 : decode b_K_endSegment 2 = .ok (.putfield 44, 3) := by decide +kernel
theorem d_K_endSegment_5 : decode b_K_endSegment 5 = .ok (.aload_n 1, 1) := by decide +kernel
theorem d_K_endSegment_6 : decode b_K_endSegment 6 = .ok (.getfield 23, 3) := by decide +kernel
theorem d_K_endSegment_9 : decode b_K_endSegment 9 = .ok (.dup, 1) := by decide +kernel
theorem d_K_endSegment_10 : decode b_K_endSegment 10 = .ok (.getfield 85, 3) := by decide +kernel
theorem d_K_endSegment_13 : decode b_K_endSegment 13 = .ok (.iconst 1, 1) := by decide +kernel
theorem d_K_endSegment_14 : decode b_K_endSegment 14 = .ok (.iadd, 1) := by decide +kernel
theorem d_K_endSegment_15 : decode b_K_endSegment 15 = .ok (.putfield 85, 3) := by decide +kernel
theorem d_K_endSegment_18 : decode b_K_endSegment 18 = .ok (.aload_n 1, 1) := by decide +kernel
theorem d_K_endSegment_19 : decode b_K_endSegment 19 = .ok (.getfield 23, 3) := by decide +kernel
theorem d_K_endSegment_22 : decode b_K_endSegment 22 = .ok (.getfield 85, 3) := by decide +kernel
theorem d_K_endSegment_25 : decode b_K_endSegment 25 = .ok (.aload_n 1, 1) := by decide +kernel
theorem d_K_endSegment_26 : decode b_K_endSegment 26 = .ok (.getfield 92, 3) := by decide +kernel
theorem d_K_endSegment_29 : decode b_K_endSegment 29 = .ok (.if_icmp .ge 11, 3) := by decide +kernel
theorem d_K_endSegment_32 : decode b_K_endSegment 32 = .ok (.aload_n 0, 1) := by decide +kernel
theorem d_K_endSegment_33 : decode b_K_endSegment 33 = .ok (.aload_n 1, 1) := by decide +kernel
theorem d_K_endSegment_34 : decode b_K_endSegment 34 = .ok (.putfield 48, 3) := by decide +kernel
theorem d_K_endSegment_37 : decode b_K_endSegment 37 = .ok (.goto 18, 3) := by decide +kernel
theorem d_K_endSegment_40 : decode b_K_endSegment 40 = .ok (.aload_n 1, 1) := by decide +kernel
theorem d_K_endSegment_41 : decode b_K_endSegment 41 = .ok (.getfield 23, 3) := by decide +kernel
theorem d_K_endSegment_44 : decode b_K_endSegment 44 = .ok (.aload_n 0, 1) := by decide +kernel
theorem d_K_endSegment_45 : decode b_K_endSegment 45 = .ok (.getfield 38, 3) := by decide +kernel
theorem d_K_endSegment_48 : decode b_K_endSegment 48 = .ok (.aload_n 1, 1) := by decide +kernel
theorem d_K_endSegment_49 : decode b_K_endSegment 49 = .ok (.getfield 95, 3) := by decide +kernel
theorem d_K_endSegment_52 : decode b_K_endSegment 52 = .ok (.invokevirtual 98, 3) := by decide +kernel
theorem d_K_endSegment_55 : decode b_K_endSegment 55 = .ok (.return_, 1) := by decide +kernel
theorem d_K_highestWithJob_0 : decode b_K_highestWithJob 0 = .ok (.iconst 0, 1) := by decide +kernel
theorem d_K_highestWithJob_1 : decode b_K_highestWithJob 1 = .ok (.istore_n 1, 1) := by decide +kernel
theorem d_K_highestWithJob_2 : decode b_K_highestWithJob 2 = .ok (.iload_n 1, 1) := by decide +kernel
theorem d_K_highestWithJob_3 : decode b_K_highestWithJob 3 = .ok (.aload_n 0, 1) := by decide +kernel
theorem d_K_highestWithJob_4 : decode b_K_highestWithJob 4 = .ok (.getfield 7, 3) := by decide +kernel
theorem d_K_highestWithJob_7 : decode b_K_highestWithJob 7 = .ok (.getfield 13, 3) := by decide +kernel
theorem d_K_highestWithJob_10 : decode b_K_highestWithJob 10 = .ok (.if_icmp .ge 37, 3) := by decide +kernel
theorem d_K_highestWithJob_13 : decode b_K_highestWithJob 13 = .ok (.aload_n 0, 1) := by decide +kernel
theorem d_K_highestWithJob_14 : decode b_K_highestWithJob 14 = .ok (.getfield 7, 3) := by decide +kernel
theorem d_K_highestWithJob_17 : decode b_K_highestWithJob 17 = .ok (.getfield 19, 3) := by decide +kernel
theorem d_K_highestWithJob_20 : decode b_K_highestWithJob 20 = .ok (.iload_n 1, 1) := by decide +kernel
theorem d_K_highestWithJob_21 : decode b_K_highestWithJob 21 = .ok (.aaload, 1) := by decide +kernel
theorem d_K_highestWithJob_22 : decode b_K_highestWithJob 22 = .ok (.getfield 23, 3) := by decide +kernel
theorem d_K_highestWithJob_25 : decode b_K_highestWithJob 25 = .ok (.invokevirtual 102, 3) := by decide +kernel
theorem d_K_highestWithJob_28 : decode b_K_highestWithJob 28 = .ok (.ifCond .eq 13, 3) := by decide +kernel
theorem d_K_highestWithJob_31 : decode b_K_highestWithJob 31 = .ok (.aload_n 0, 1) := by decide +kernel
theorem d_K_highestWithJob_32 : decode b_K_highestWithJob 32 = .ok (.getfield 7, 3) := by decide +kernel
theorem d_K_highestWithJob_35 : decode b_K_highestWithJob 35 = .ok (.getfield 19, 3) := by decide +kernel
theorem d_K_highestWithJob_38 : decode b_K_highestWithJob 38 = .ok (.iload_n 1, 1) := by decide +kernel
theorem d_K_highestWithJob_39 : decode b_K_highestWithJob 39 = .ok (.aaload, 1) := by decide +kernel
theorem d_K_highestWithJob_40 : decode b_K_highestWithJob 40 = .ok (.areturn, 1) := by decide +kernel
theorem d_K_highestWithJob_41 : decode b_K_highestWithJob 41 = .ok (.iinc 1 1, 3) := by decide +kernel
theorem d_K_highestWithJob_44 : decode b_K_highestWithJob 44 = .ok (.goto (-42), 3) := by decide +kernel
end
section
theorem d_K_highestWithJob_47 : decode b_K_highestWithJob 47 = .ok (.aconst_null, 1) := by decide +kernel
theorem d_K_highestWithJob_48 : decode b_K_highestWithJob 48 = .ok (.areturn, 1) := by decide +kernel
theorem d_T_init_0 : decode b_T_init 0 = .ok (.aload_n 0, 1) := by decide +kernel
theorem d_T_init_1 : decode b_T_init 1 = .ok (.invokespecial 3, 3) := by decide +kernel
theorem d_T_init_4 : decode b_T_init 4 = .ok (.aload_n 0, 1) := by decide +kernel
theorem d_T_init_5 : decode b_T_init 5 = .ok (.new 9, 3) := by decide +kernel
theorem d_T_init_8 : decode b_T_init 8 = .ok (.dup, 1) := by decide +kernel
theorem d_T_init_9 : decode b_T_init 9 = .ok (.invokespecial 11, 3) := by decide +kernel
theorem d_T_init_12 : decode b_T_init 12 = .ok (.putfield 12, 3) := by decide +kernel
theorem d_T_init_15 : decode b_T_init 15 = .ok (.aload_n 0, 1) := by decide +kernel
theorem d_T_init_16 : decode b_T_init 16 = .ok (.bipush 8, 2) := by decide +kernel
theorem d_T_init_18 : decode b_T_init 18 = .ok (.newarray .int, 2) := by decide +kernel
theorem d_T_init_20 : decode b_T_init 20 = .ok (.putfield 18, 3) := by decide +kernel
theorem d_T_init_23 : decode b_T_init 23 = .ok (.aload_n 0, 1) := by decide +kernel
theorem d_T_init_24 : decode b_T_init 24 = .ok (.bipush (-2), 2) := by decide +kernel
theorem d_T_init_26 : decode b_T_init 26 = .ok (.putfield 22, 3) := by decide +kernel
theorem d_T_init_29 : decode b_T_init 29 = .ok (.aload_n 0, 1) := by decide +kernel
theorem d_T_init_30 : decode b_T_init 30 = .ok (.bipush (-2), 2) := by decide +kernel
theorem d_T_init_32 : decode b_T_init 32 = .ok (.putfield 26, 3) := by decide +kernel
theorem d_T_init_35 : decode b_T_init 35 = .ok (.aload_n 0, 1) := by decide +kernel
theorem d_T_init_36 : decode b_T_init 36 = .ok (.iload_n 1, 1) := by decide +kernel
theorem d_T_init_37 : decode b_T_init 37 = .ok (.putfield 29, 3) := by decide +kernel
theorem d_T_init_40 : decode b_T_init 40 = .ok (.aload_n 0, 1) := by decide +kernel
theorem d_T_init_41 : decode b_T_init 41 = .ok (.iload_n 1, 1) := by decide +kernel
theorem d_T_init_42 : decode b_T_init 42 = .ok (.iconst 1, 1) := by decide +kernel
theorem d_T_init_43 : decode b_T_init 43 = .ok (.isub, 1) := by decide +kernel
theorem d_T_init_44 : decode b_T_init 44 = .ok (.putfield 32, 3) := by decide +kernel
theorem d_T_init_47 : decode b_T_init 47 = .ok (.return_, 1) := by decide +kernel
theorem d_T_become_0 : decode b_T_become 0 = .ok (.aload_n 0, 1) := by decide +kernel
theorem d_T_become_1 : decode b_T_become 1 = .ok (.iload_n 1, 1) := by decide +kernel
theorem d_T_become_2 : decode b_T_become 2 = .ok (.putfield 35, 3) := by decide +kernel
theorem d_T_become_5 : decode b_T_become 5 = .ok (.aload_n 0, 1) := by decide +kernel
theorem d_T_become_6 : decode b_T_become 6 = .ok (.iload_n 2, 1) := by decide +kernel
theorem d_T_become_7 : decode b_T_become 7 = .ok (.putfield 38, 3) := by decide +kernel
theorem d_T_become_10 : decode b_T_become 10 = .ok (.aload_n 0, 1) := by decide +kernel
theorem d_T_become_11 : decode b_T_become 11 = .ok (.iload_n 3, 1) := by decide +kernel
theorem d_T_become_12 : decode b_T_become 12 = .ok (.putfield 41, 3) := by decide +kernel
theorem d_T_become_15 : decode b_T_become 15 = .ok (.aload_n 0, 1) := by decide +kernel
theorem d_T_become_16 : decode b_T_become 16 = .ok (.iconst 0, 1) := by decide +kernel
theorem d_T_become_17 : decode b_T_become 17 = .ok (.putfield 44, 3) := by decide +kernel
theorem d_T_become_20 : decode b_T_become 20 = .ok (.aload_n 0, 1) := by decide +kernel
theorem d_T_become_21 : decode b_T_become 21 = .ok (.iconst 0, 1) := by decide +kernel
theorem d_T_become_22 : decode b_T_become 22 = .ok (.putfield 47, 3) := by decide +kernel
theorem d_T_become_25 : decode b_T_become 25 = .ok (.return_, 1) := by decide +kernel
theorem d_T_append_0 : decode b_T_append 0 = .ok (.aload_n 0, 1) := by decide +kernel
theorem d_T_append_1 : decode b_T_append 1 = .ok (.getfield 44, 3) := by decide +kernel
theorem d_T_append_4 : decode b_T_append 4 = .ok (.bipush 8, 2) := by decide +kernel
theorem d_T_append_6 : decode b_T_append 6 = .ok (.if_icmp .ge 14, 3) := by decide +kernel
theorem d_T_append_9 : decode b_T_append 9 = .ok (.iload_n 1, 1) := by decide +kernel
theorem d_T_append_10 : decode b_T_append 10 = .ok (.iconst 1, 1) := by decide +kernel
theorem d_T_append_11 : decode b_T_append 11 = .ok (.if_icmp .lt 9, 3) := by decide +kernel
theorem d_T_append_14 : decode b_T_append 14 = .ok (.iload_n 1, 1) := by decide +kernel
theorem d_T_append_15 : decode b_T_append 15 = .ok (.bipush 100, 2) := by decide +kernel
theorem d_T_append_17 : decode b_T_append 17 = .ok (.if_icmp .le 5, 3) := by decide +kernel
theorem d_T_append_20 : decode b_T_append 20 = .ok (.iconst 0, 1) := by decide +kernel
theorem d_T_append_21 : decode b_T_append 21 = .ok (.ireturn, 1) := by decide +kernel
theorem d_T_append_22 : decode b_T_append 22 = .ok (.aload_n 0, 1) := by decide +kernel
theorem d_T_append_23 : decode b_T_append 23 = .ok (.getfield 18, 3) := by decide +kernel
theorem d_T_append_26 : decode b_T_append 26 = .ok (.aload_n 0, 1) := by decide +kernel
theorem d_T_append_27 : decode b_T_append 27 = .ok (.getfield 44, 3) := by decide +kernel
theorem d_T_append_30 : decode b_T_append 30 = .ok (.iload_n 1, 1) := by decide +kernel
theorem d_T_append_31 : decode b_T_append 31 = .ok (.iastore, 1) := by decide +kernel
theorem d_T_append_32 : decode b_T_append 32 = .ok (.aload_n 0, 1) := by decide +kernel
theorem d_T_append_33 : decode b_T_append 33 = .ok (.dup, 1) := by decide +kernel
theorem d_T_append_34 : decode b_T_append 34 = .ok (.getfield 44, 3) := by decide +kernel
theorem d_T_append_37 : decode b_T_append 37 = .ok (.iconst 1, 1) := by decide +kernel
theorem d_T_append_38 : decode b_T_append 38 = .ok (.iadd, 1) := by decide +kernel
theorem d_T_append_39 : decode b_T_append 39 = .ok (.putfield 44, 3) := by decide +kernel
theorem d_T_append_42 : decode b_T_append 42 = .ok (.aload_n 0, 1) := by decide +kernel
theorem d_T_append_43 : decode b_T_append 43 = .ok (.dup, 1) := by decide +kernel
theorem d_T_append_44 : decode b_T_append 44 = .ok (.getfield 47, 3) := by decide +kernel
theorem d_T_append_47 : decode b_T_append 47 = .ok (.iload_n 1, 1) := by decide +kernel
theorem d_T_append_48 : decode b_T_append 48 = .ok (.iadd, 1) := by decide +kernel
theorem d_T_append_49 : decode b_T_append 49 = .ok (.putfield 47, 3) := by decide +kernel
theorem d_T_append_52 : decode b_T_append 52 = .ok (.iconst 1, 1) := by decide +kernel
theorem d_T_append_53 : decode b_T_append 53 = .ok (.ireturn, 1) := by decide +kernel
theorem d_T_segmentAt_0 : decode b_T_segmentAt 0 = .ok (.iload_n 1, 1) := by decide +kernel
theorem d_T_segmentAt_1 : decode b_T_segmentAt 1 = .ok (.ifCond .lt 11, 3) := by decide +kernel
theorem d_T_segmentAt_4 : decode b_T_segmentAt 4 = .ok (.iload_n 1, 1) := by decide +kernel
theorem d_T_segmentAt_5 : decode b_T_segmentAt 5 = .ok (.aload_n 0, 1) := by decide +kernel
theorem d_T_segmentAt_6 : decode b_T_segmentAt 6 = .ok (.getfield 44, 3) := by decide +kernel
theorem d_T_segmentAt_9 : decode b_T_segmentAt 9 = .ok (.if_icmp .lt 7, 3) := by decide +kernel
theorem d_T_segmentAt_12 : decode b_T_segmentAt 12 = .ok (.iconst (-1), 1) := by decide +kernel
theorem d_T_segmentAt_13 : decode b_T_segmentAt 13 = .ok (.goto 9, 3) := by decide +kernel
theorem d_T_segmentAt_16 : decode b_T_segmentAt 16 = .ok (.aload_n 0, 1) := by decide +kernel
theorem d_T_segmentAt_17 : decode b_T_segmentAt 17 = .ok (.getfield 18, 3) := by decide +kernel
theorem d_T_segmentAt_20 : decode b_T_segmentAt 20 = .ok (.iload_n 1, 1) := by decide +kernel
theorem d_T_segmentAt_21 : decode b_T_segmentAt 21 = .ok (.iaload, 1) := by decide +kernel
theorem d_T_segmentAt_22 : decode b_T_segmentAt 22 = .ok (.ireturn, 1) := by decide +kernel
theorem d_T_longestSegment_0 : decode b_T_longestSegment 0 = .ok (.iconst 0, 1) := by decide +kernel
theorem d_T_longestSegment_1 : decode b_T_longestSegment 1 = .ok (.istore_n 1, 1) := by decide +kernel
theorem d_T_longestSegment_2 : decode b_T_longestSegment 2 = .ok (.iconst 0, 1) := by decide +kernel
theorem d_T_longestSegment_3 : decode b_T_longestSegment 3 = .ok (.istore_n 2, 1) := by decide +kernel
theorem d_T_longestSegment_4 : decode b_T_longestSegment 4 = .ok (.iload_n 2, 1) := by decide +kernel
theorem d_T_longestSegment_5 : decode b_T_longestSegment 5 = .ok (.aload_n 0, 1) := by decide +kernel
theorem d_T_longestSegment_6 : decode b_T_longestSegment 6 = .ok (.getfield 44, 3) := by decide +kernel
theorem d_T_longestSegment_9 : decode b_T_longestSegment 9 = .ok (.if_icmp .ge 20, 3) := by decide +kernel
theorem d_T_longestSegment_12 : decode b_T_longestSegment 12 = .ok (.iload_n 1, 1) := by decide +kernel
theorem d_T_longestSegment_13 : decode b_T_longestSegment 13 = .ok (.aload_n 0, 1) := by decide +kernel
theorem d_T_longestSegment_14 : decode b_T_longestSegment 14 = .ok (.getfield 18, 3) := by decide +kernel
theorem d_T_longestSegment_17 : decode b_T_longestSegment 17 = .ok (.iload_n 2, 1) := by decide +kernel
theorem d_T_longestSegment_18 : decode b_T_longestSegment 18 = .ok (.iaload, 1) := by decide +kernel
theorem d_T_longestSegment_19 : decode b_T_longestSegment 19 = .ok (.invokestatic 50, 3) := by decide +kernel
theorem d_T_longestSegment_22 : decode b_T_longestSegment 22 = .ok (.istore_n 1, 1) := by decide +kernel
theorem d_T_longestSegment_23 : decode b_T_longestSegment 23 = .ok (.iinc 2 1, 3) := by decide +kernel
theorem d_T_longestSegment_26 : decode b_T_longestSegment 26 = .ok (.goto (-22), 3) := by decide +kernel
theorem d_T_longestSegment_29 : decode b_T_longestSegment 29 = .ok (.iload_n 1, 1) := by decide +kernel
theorem d_T_longestSegment_30 : decode b_T_longestSegment 30 = .ok (.ireturn, 1) := by decide +kernel
theorem d_T_lastSegment_0 : decode b_T_lastSegment 0 = .ok (.aload_n 0, 1) := by decide +kernel
theorem d_T_lastSegment_1 : decode b_T_lastSegment 1 = .ok (.getfield 44, 3) := by decide +kernel
theorem d_T_lastSegment_4 : decode b_T_lastSegment 4 = .ok (.iconst 1, 1) := by decide +kernel
theorem d_T_lastSegment_5 : decode b_T_lastSegment 5 = .ok (.if_icmp .ge 7, 3) := by decide +kernel
theorem d_T_lastSegment_8 : decode b_T_lastSegment 8 = .ok (.iconst 0, 1) := by decide +kernel
theorem d_T_lastSegment_9 : decode b_T_lastSegment 9 = .ok (.goto 14, 3) := by decide +kernel
theorem d_T_lastSegment_12 : decode b_T_lastSegment 12 = .ok (.aload_n 0, 1) := by decide +kernel
theorem d_T_lastSegment_13 : decode b_T_lastSegment 13 = .ok (.getfield 18, 3) := by decide +kernel
theorem d_T_lastSegment_16 : decode b_T_lastSegment 16 = .ok (.aload_n 0, 1) := by decide +kernel
theorem d_T_lastSegment_17 : decode b_T_lastSegment 17 = .ok (.getfield 44, 3) := by decide +kernel
theorem d_T_lastSegment_20 : decode b_T_lastSegment 20 = .ok (.iconst 1, 1) := by decide +kernel
theorem d_T_lastSegment_21 : decode b_T_lastSegment 21 = .ok (.isub, 1) := by decide +kernel
theorem d_T_lastSegment_22 : decode b_T_lastSegment 22 = .ok (.iaload, 1) := by decide +kernel
theorem d_T_lastSegment_23 : decode b_T_lastSegment 23 = .ok (.ireturn, 1) := by decide +kernel
theorem d_T_workAheadOf_0 : decode b_T_workAheadOf 0 = .ok (.iconst 0, 1) := by decide +kernel
theorem d_T_workAheadOf_1 : decode b_T_workAheadOf 1 = .ok (.istore_n 2, 1) := by decide +kernel
theorem d_T_workAheadOf_2 : decode b_T_workAheadOf 2 = .ok (.iconst 0, 1) := by decide +kernel
theorem d_T_workAheadOf_3 : decode b_T_workAheadOf 3 = .ok (.istore_n 3, 1) := by decide +kernel
theorem d_T_workAheadOf_4 : decode b_T_workAheadOf 4 = .ok (.iload_n 3, 1) := by decide +kernel
theorem d_T_workAheadOf_5 : decode b_T_workAheadOf 5 = .ok (.aload_n 0, 1) := by decide +kernel
theorem d_T_workAheadOf_6 : decode b_T_workAheadOf 6 = .ok (.getfield 44, 3) := by decide +kernel
theorem d_T_workAheadOf_9 : decode b_T_workAheadOf 9 = .ok (.if_icmp .ge 28, 3) := by decide +kernel
theorem d_T_workAheadOf_12 : decode b_T_workAheadOf 12 = .ok (.aload_n 0, 1) := by decide +kernel
theorem d_T_workAheadOf_13 : decode b_T_workAheadOf 13 = .ok (.getfield 18, 3) := by decide +kernel
theorem d_T_workAheadOf_16 : decode b_T_workAheadOf 16 = .ok (.iload_n 3, 1) := by decide +kernel
theorem d_T_workAheadOf_17 : decode b_T_workAheadOf 17 = .ok (.iaload, 1) := by decide +kernel
theorem d_T_workAheadOf_18 : decode b_T_workAheadOf 18 = .ok (.iload_n 1, 1) := by decide +kernel
theorem d_T_workAheadOf_19 : decode b_T_workAheadOf 19 = .ok (.if_icmp .eq 18, 3) := by decide +kernel
theorem d_T_workAheadOf_22 : decode b_T_workAheadOf 22 = .ok (.iload_n 2, 1) := by decide +kernel
theorem d_T_workAheadOf_23 : decode b_T_workAheadOf 23 = .ok (.aload_n 0, 1) := by decide +kernel
theorem d_T_workAheadOf_24 : decode b_T_workAheadOf 24 = .ok (.getfield 18, 3) := by decide +kernel
theorem d_T_workAheadOf_27 : decode b_T_workAheadOf 27 = .ok (.iload_n 3, 1) := by decide +kernel
theorem d_T_workAheadOf_28 : decode b_T_workAheadOf 28 = .ok (.iaload, 1) := by decide +kernel
theorem d_T_workAheadOf_29 : decode b_T_workAheadOf 29 = .ok (.iadd, 1) := by decide +kernel
theorem d_T_workAheadOf_30 : decode b_T_workAheadOf 30 = .ok (.istore_n 2, 1) := by decide +kernel
theorem d_T_workAheadOf_31 : decode b_T_workAheadOf 31 = .ok (.iinc 3 1, 3) := by decide +kernel
theorem d_T_workAheadOf_34 : decode b_T_workAheadOf 34 = .ok (.goto (-30), 3) := by decide +kernel
theorem d_T_workAheadOf_37 : decode b_T_workAheadOf 37 = .ok (.iload_n 2, 1) := by decide +kernel
theorem d_T_workAheadOf_38 : decode b_T_workAheadOf 38 = .ok (.ireturn, 1) := by decide +kernel
theorem d_T_growLast_0 : decode b_T_growLast 0 = .ok (.aload_n 0, 1) := by decide +kernel
theorem d_T_growLast_1 : decode b_T_growLast 1 = .ok (.getfield 44, 3) := by decide +kernel
theorem d_T_growLast_4 : decode b_T_growLast 4 = .ok (.istore_n 2, 1) := by decide +kernel
theorem d_T_growLast_5 : decode b_T_growLast 5 = .ok (.aload_n 0, 1) := by decide +kernel
theorem d_T_growLast_6 : decode b_T_growLast 6 = .ok (.getfield 47, 3) := by decide +kernel
theorem d_T_growLast_9 : decode b_T_growLast 9 = .ok (.iload_n 1, 1) := by decide +kernel
theorem d_T_growLast_10 : decode b_T_growLast 10 = .ok (.isub, 1) := by decide +kernel
theorem d_T_growLast_11 : decode b_T_growLast 11 = .ok (.istore_n 3, 1) := by decide +kernel
theorem d_T_growLast_12 : decode b_T_growLast 12 = .ok (.iconst 0, 1) := by decide +kernel
theorem d_T_growLast_13 : decode b_T_growLast 13 = .ok (.istore 4, 2) := by decide +kernel
theorem d_T_growLast_15 : decode b_T_growLast 15 = .ok (.iload 4, 2) := by decide +kernel
theorem d_T_growLast_17 : decode b_T_growLast 17 = .ok (.iload_n 2, 1) := by decide +kernel
theorem d_T_growLast_18 : decode b_T_growLast 18 = .ok (.iconst 1, 1) := by decide +kernel
theorem d_T_growLast_19 : decode b_T_growLast 19 = .ok (.isub, 1) := by decide +kernel
theorem d_T_growLast_20 : decode b_T_growLast 20 = .ok (.if_icmp .ge 30, 3) := by decide +kernel
theorem d_T_growLast_23 : decode b_T_growLast 23 = .ok (.aload_n 0, 1) := by decide +kernel
theorem d_T_growLast_24 : decode b_T_growLast 24 = .ok (.getfield 18, 3) := by decide +kernel
theorem d_T_growLast_27 : decode b_T_growLast 27 = .ok (.iload 4, 2) := by decide +kernel
theorem d_T_growLast_29 : decode b_T_growLast 29 = .ok (.iaload, 1) := by decide +kernel
theorem d_T_growLast_30 : decode b_T_growLast 30 = .ok (.iload_n 3, 1) := by decide +kernel
theorem d_T_growLast_31 : decode b_T_growLast 31 = .ok (.if_icmp .gt 19, 3) := by decide +kernel
theorem d_T_growLast_34 : decode b_T_growLast 34 = .ok (.iload_n 3, 1) := by decide +kernel
theorem d_T_growLast_35 : decode b_T_growLast 35 = .ok (.aload_n 0, 1) := by decide +kernel
theorem d_T_growLast_36 : decode b_T_growLast 36 = .ok (.getfield 18, 3) := by decide +kernel
theorem d_T_growLast_39 : decode b_T_growLast 39 = .ok (.iload 4, 2) := by decide +kernel
theorem d_T_growLast_41 : decode b_T_growLast 41 = .ok (.iaload, 1) := by decide +kernel
theorem d_T_growLast_42 : decode b_T_growLast 42 = .ok (.isub, 1) := by decide +kernel
theorem d_T_growLast_43 : decode b_T_growLast 43 = .ok (.istore_n 3, 1) := by decide +kernel
theorem d_T_growLast_44 : decode b_T_growLast 44 = .ok (.iinc 4 1, 3) := by decide +kernel
theorem d_T_growLast_47 : decode b_T_growLast 47 = .ok (.goto (-32), 3) := by decide +kernel
theorem d_T_growLast_50 : decode b_T_growLast 50 = .ok (.iload_n 3, 1) := by decide +kernel
theorem d_T_growLast_51 : decode b_T_growLast 51 = .ok (.ifCond .le 22, 3) := by decide +kernel
theorem d_T_growLast_54 : decode b_T_growLast 54 = .ok (.iload 4, 2) := by decide +kernel
theorem d_T_growLast_56 : decode b_T_growLast 56 = .ok (.iload_n 2, 1) := by decide +kernel
theorem d_T_growLast_57 : decode b_T_growLast 57 = .ok (.iconst 1, 1) := by decide +kernel
theorem d_T_growLast_58 : decode b_T_growLast 58 = .ok (.isub, 1) := by decide +kernel
theorem d_T_growLast_59 : decode b_T_growLast 59 = .ok (.if_icmp .ge 14, 3) := by decide +kernel
theorem d_T_growLast_62 : decode b_T_growLast 62 = .ok (.aload_n 0, 1) := by decide +kernel
theorem d_T_growLast_63 : decode b_T_growLast 63 = .ok (.getfield 18, 3) := by decide +kernel
theorem d_T_growLast_66 : decode b_T_growLast 66 = .ok (.iload 4, 2) := by decide +kernel
theorem d_T_growLast_68 : decode b_T_growLast 68 = .ok (.iload_n 3, 1) := by decide +kernel
theorem d_T_growLast_69 : decode b_T_growLast 69 = .ok (.iastore, 1) := by decide +kernel
theorem d_T_growLast_70 : decode b_T_growLast 70 = .ok (.iinc 4 1, 3) := by decide +kernel
theorem d_T_growLast_73 : decode b_T_growLast 73 = .ok (.aload_n 0, 1) := by decide +kernel
theorem d_T_growLast_74 : decode b_T_growLast 74 = .ok (.getfield 18, 3) := by decide +kernel
theorem d_T_growLast_77 : decode b_T_growLast 77 = .ok (.iload 4, 2) := by decide +kernel
theorem d_T_growLast_79 : decode b_T_growLast 79 = .ok (.iload_n 1, 1) := by decide +kernel
theorem d_T_growLast_80 : decode b_T_growLast 80 = .ok (.iastore, 1) := by decide +kernel
theorem d_T_growLast_81 : decode b_T_growLast 81 = .ok (.aload_n 0, 1) := by decide +kernel
theorem d_T_growLast_82 : decode b_T_growLast 82 = .ok (.iload 4, 2) := by decide +kernel
theorem d_T_growLast_84 : decode b_T_growLast 84 = .ok (.iconst 1, 1) := by decide +kernel
theorem d_T_growLast_85 : decode b_T_growLast 85 = .ok (.iadd, 1) := by decide +kernel
theorem d_T_growLast_86 : decode b_T_growLast 86 = .ok (.putfield 44, 3) := by decide +kernel
theorem d_T_growLast_89 : decode b_T_growLast 89 = .ok (.iload_n 2, 1) := by decide +kernel
theorem d_T_growLast_90 : decode b_T_growLast 90 = .ok (.aload_n 0, 1) := by decide +kernel
theorem d_T_growLast_91 : decode b_T_growLast 91 = .ok (.getfield 44, 3) := by decide +kernel
theorem d_T_growLast_94 : decode b_T_growLast 94 = .ok (.isub, 1) := by decide +kernel
theorem d_T_growLast_95 : decode b_T_growLast 95 = .ok (.ireturn, 1) := by decide +kernel
theorem d_T_arrivalsBy_0 : decode b_T_arrivalsBy 0 = .ok (.iload_n 1, 1) := by decide +kernel
theorem d_T_arrivalsBy_1 : decode b_T_arrivalsBy 1 = .ok (.ifCond .lt 11, 3) := by decide +kernel
theorem d_T_arrivalsBy_4 : decode b_T_arrivalsBy 4 = .ok (.aload_n 0, 1) := by decide +kernel
theorem d_T_arrivalsBy_5 : decode b_T_arrivalsBy 5 = .ok (.getfield 35, 3) := by decide +kernel
theorem d_T_arrivalsBy_8 : decode b_T_arrivalsBy 8 = .ok (.iconst 1, 1) := by decide +kernel
theorem d_T_arrivalsBy_9 : decode b_T_arrivalsBy 9 = .ok (.if_icmp .ge 7, 3) := by decide +kernel
theorem d_T_arrivalsBy_12 : decode b_T_arrivalsBy 12 = .ok (.iconst 0, 1) := by decide +kernel
theorem d_T_arrivalsBy_13 : decode b_T_arrivalsBy 13 = .ok (.goto 11, 3) := by decide +kernel
theorem d_T_arrivalsBy_16 : decode b_T_arrivalsBy 16 = .ok (.iload_n 1, 1) := by decide +kernel
theorem d_T_arrivalsBy_17 : decode b_T_arrivalsBy 17 = .ok (.aload_n 0, 1) := by decide +kernel
theorem d_T_arrivalsBy_18 : decode b_T_arrivalsBy 18 = .ok (.getfield 35, 3) := by decide +kernel
theorem d_T_arrivalsBy_21 : decode b_T_arrivalsBy 21 = .ok (.idiv, 1) := by decide +kernel
theorem d_T_arrivalsBy_22 : decode b_T_arrivalsBy 22 = .ok (.iconst 1, 1) := by decide +kernel
theorem d_T_arrivalsBy_23 : decode b_T_arrivalsBy 23 = .ok (.iadd, 1) := by decide +kernel
theorem d_T_arrivalsBy_24 : decode b_T_arrivalsBy 24 = .ok (.ireturn, 1) := by decide +kernel
theorem d_T_forgetFindings_0 : decode b_T_forgetFindings 0 = .ok (.aload_n 0, 1) := by decide +kernel
theorem d_T_forgetFindings_1 : decode b_T_forgetFindings 1 = .ok (.bipush (-2), 2) := by decide +kernel
theorem d_T_forgetFindings_3 : decode b_T_forgetFindings 3 = .ok (.putfield 22, 3) := by decide +kernel
theorem d_T_forgetFindings_6 : decode b_T_forgetFindings 6 = .ok (.aload_n 0, 1) := by decide +kernel
theorem d_T_forgetFindings_7 : decode b_T_forgetFindings 7 = .ok (.bipush (-2), 2) := by decide +kernel
theorem d_T_forgetFindings_9 : decode b_T_forgetFindings 9 = .ok (.putfield 26, 3) := by decide +kernel
theorem d_T_forgetFindings_12 : decode b_T_forgetFindings 12 = .ok (.return_, 1) := by decide +kernel
theorem d_T_isTooLong_0 : decode b_T_isTooLong 0 = .ok (.aload_n 0, 1) := by decide +kernel
theorem d_T_isTooLong_1 : decode b_T_isTooLong 1 = .ok (.getfield 22, 3) := by decide +kernel
theorem d_T_isTooLong_4 : decode b_T_isTooLong 4 = .ok (.ldc 56, 2) := by decide +kernel
theorem d_T_isTooLong_6 : decode b_T_isTooLong 6 = .ok (.if_icmp .ne 7, 3) := by decide +kernel
theorem d_T_isTooLong_9 : decode b_T_isTooLong 9 = .ok (.iconst 1, 1) := by decide +kernel
theorem d_T_isTooLong_10 : decode b_T_isTooLong 10 = .ok (.goto 4, 3) := by decide +kernel
theorem d_T_isTooLong_13 : decode b_T_isTooLong 13 = .ok (.iconst 0, 1) := by decide +kernel
theorem d_T_isTooLong_14 : decode b_T_isTooLong 14 = .ok (.ireturn, 1) := by decide +kernel
theorem d_J_init_0 : decode b_J_init 0 = .ok (.aload_n 0, 1) := by decide +kernel
theorem d_J_init_1 : decode b_J_init 1 = .ok (.invokespecial 3, 3) := by decide +kernel
theorem d_J_init_4 : decode b_J_init 4 = .ok (.aload_n 0, 1) := by decide +kernel
theorem d_J_init_5 : decode b_J_init 5 = .ok (.bipush 9, 2) := by decide +kernel
theorem d_J_init_7 : decode b_J_init 7 = .ok (.newarray .int, 2) := by decide +kernel
theorem d_J_init_9 : decode b_J_init 9 = .ok (.putfield 9, 3) := by decide +kernel
theorem d_J_init_12 : decode b_J_init 12 = .ok (.aload_n 0, 1) := by decide +kernel
theorem d_J_init_13 : decode b_J_init 13 = .ok (.sipush 200, 3) := by decide +kernel
theorem d_J_init_16 : decode b_J_init 16 = .ok (.newarray .int, 2) := by decide +kernel
theorem d_J_init_18 : decode b_J_init 18 = .ok (.putfield 15, 3) := by decide +kernel
theorem d_J_init_21 : decode b_J_init 21 = .ok (.return_, 1) := by decide +kernel
theorem d_J_forget_0 : decode b_J_forget 0 = .ok (.aload_n 0, 1) := by decide +kernel
theorem d_J_forget_1 : decode b_J_forget 1 = .ok (.iconst 0, 1) := by decide +kernel
theorem d_J_forget_2 : decode b_J_forget 2 = .ok (.putfield 18, 3) := by decide +kernel
theorem d_J_forget_5 : decode b_J_forget 5 = .ok (.aload_n 0, 1) := by decide +kernel
theorem d_J_forget_6 : decode b_J_forget 6 = .ok (.iconst 0, 1) := by decide +kernel
theorem d_J_forget_7 : decode b_J_forget 7 = .ok (.putfield 22, 3) := by decide +kernel
theorem d_J_forget_10 : decode b_J_forget 10 = .ok (.aload_n 0, 1) := by decide +kernel
theorem d_J_forget_11 : decode b_J_forget 11 = .ok (.iconst 0, 1) := by decide +kernel
theorem d_J_forget_12 : decode b_J_forget 12 = .ok (.putfield 25, 3) := by decide +kernel
theorem d_J_forget_15 : decode b_J_forget 15 = .ok (.aload_n 0, 1) := by decide +kernel
theorem d_J_forget_16 : decode b_J_forget 16 = .ok (.iconst 0, 1) := by decide +kernel
theorem d_J_forget_17 : decode b_J_forget 17 = .ok (.putfield 28, 3) := by decide +kernel
theorem d_J_forget_20 : decode b_J_forget 20 = .ok (.aload_n 0, 1) := by decide +kernel
theorem d_J_forget_21 : decode b_J_forget 21 = .ok (.iconst 0, 1) := by decide +kernel
theorem d_J_forget_22 : decode b_J_forget 22 = .ok (.putfield 31, 3) := by decide +kernel
theorem d_J_forget_25 : decode b_J_forget 25 = .ok (.aload_n 0, 1) := by decide +kernel
theorem d_J_forget_26 : decode b_J_forget 26 = .ok (.iconst 0, 1) := by decide +kernel
theorem d_J_forget_27 : decode b_J_forget 27 = .ok (.putfield 34, 3) := by decide +kernel
theorem d_J_forget_30 : decode b_J_forget 30 = .ok (.return_, 1) := by decide +kernel
theorem d_J_hasOpen_0 : decode b_J_hasOpen 0 = .ok (.aload_n 0, 1) := by decide +kernel
theorem d_J_hasOpen_1 : decode b_J_hasOpen 1 = .ok (.getfield 22, 3) := by decide +kernel
theorem d_J_hasOpen_4 : decode b_J_hasOpen 4 = .ok (.aload_n 0, 1) := by decide +kernel
theorem d_J_hasOpen_5 : decode b_J_hasOpen 5 = .ok (.getfield 18, 3) := by decide +kernel
theorem d_J_hasOpen_8 : decode b_J_hasOpen 8 = .ok (.if_icmp .ge 7, 3) := by decide +kernel
theorem d_J_hasOpen_11 : decode b_J_hasOpen 11 = .ok (.iconst 1, 1) := by decide +kernel
theorem d_J_hasOpen_12 : decode b_J_hasOpen 12 = .ok (.goto 4, 3) := by decide +kernel
theorem d_J_hasOpen_15 : decode b_J_hasOpen 15 = .ok (.iconst 0, 1) := by decide +kernel
theorem d_J_hasOpen_16 : decode b_J_hasOpen 16 = .ok (.ireturn, 1) := by decide +kernel
theorem d_J_accept_0 : decode b_J_accept 0 = .ok (.aload_n 0, 1) := by decide +kernel
theorem d_J_accept_1 : decode b_J_accept 1 = .ok (.getfield 18, 3) := by decide +kernel
theorem d_J_accept_4 : decode b_J_accept 4 = .ok (.aload_n 0, 1) := by decide +kernel
theorem d_J_accept_5 : decode b_J_accept 5 = .ok (.getfield 22, 3) := by decide +kernel
theorem d_J_accept_8 : decode b_J_accept 8 = .ok (.isub, 1) := by decide +kernel
theorem d_J_accept_9 : decode b_J_accept 9 = .ok (.bipush 9, 2) := by decide +kernel
theorem d_J_accept_11 : decode b_J_accept 11 = .ok (.if_icmp .lt 5, 3) := by decide +kernel
theorem d_J_accept_14 : decode b_J_accept 14 = .ok (.iconst 0, 1) := by decide +kernel
theorem d_J_accept_15 : decode b_J_accept 15 = .ok (.ireturn, 1) := by decide +kernel
theorem d_J_accept_16 : decode b_J_accept 16 = .ok (.aload_n 0, 1) := by decide +kernel
theorem d_J_accept_17 : decode b_J_accept 17 = .ok (.getfield 18, 3) := by decide +kernel
theorem d_J_accept_20 : decode b_J_accept 20 = .ok (.ifCond .le 25, 3) := by decide +kernel
theorem d_J_accept_23 : decode b_J_accept 23 = .ok (.iload_n 1, 1) := by decide +kernel
theorem d_J_accept_24 : decode b_J_accept 24 = .ok (.aload_n 0, 1) := by decide +kernel
theorem d_J_accept_25 : decode b_J_accept 25 = .ok (.getfield 9, 3) := by decide +kernel
theorem d_J_accept_28 : decode b_J_accept 28 = .ok (.aload_n 0, 1) := by decide +kernel
theorem d_J_accept_29 : decode b_J_accept 29 = .ok (.getfield 18, 3) := by decide +kernel
theorem d_J_accept_32 : decode b_J_accept 32 = .ok (.iconst 1, 1) := by decide +kernel
theorem d_J_accept_33 : decode b_J_accept 33 = .ok (.isub, 1) := by decide +kernel
theorem d_J_accept_34 : decode b_J_accept 34 = .ok (.bipush 9, 2) := by decide +kernel
theorem d_J_accept_36 : decode b_J_accept 36 = .ok (.irem, 1) := by decide +kernel
theorem d_J_accept_37 : decode b_J_accept 37 = .ok (.iaload, 1) := by decide +kernel
theorem d_J_accept_38 : decode b_J_accept 38 = .ok (.isub, 1) := by decide +kernel
theorem d_J_accept_39 : decode b_J_accept 39 = .ok (.iload_n 2, 1) := by decide +kernel
theorem d_J_accept_40 : decode b_J_accept 40 = .ok (.if_icmp .ge 5, 3) := by decide +kernel
theorem d_J_accept_43 : decode b_J_accept 43 = .ok (.iconst 0, 1) := by decide +kernel
theorem d_J_accept_44 : decode b_J_accept 44 = .ok (.ireturn, 1) := by decide +kernel
theorem d_J_accept_45 : decode b_J_accept 45 = .ok (.aload_n 0, 1) := by decide +kernel
theorem d_J_accept_46 : decode b_J_accept 46 = .ok (.getfield 9, 3) := by decide +kernel
theorem d_J_accept_49 : decode b_J_accept 49 = .ok (.aload_n 0, 1) := by decide +kernel
theorem d_J_accept_50 : decode b_J_accept 50 = .ok (.getfield 18, 3) := by decide +kernel
theorem d_J_accept_53 : decode b_J_accept 53 = .ok (.bipush 9, 2) := by decide +kernel
theorem d_J_accept_55 : decode b_J_accept 55 = .ok (.irem, 1) := by decide +kernel
theorem d_J_accept_56 : decode b_J_accept 56 = .ok (.iload_n 1, 1) := by decide +kernel
theorem d_J_accept_57 : decode b_J_accept 57 = .ok (.iastore, 1) := by decide +kernel
theorem d_J_accept_58 : decode b_J_accept 58 = .ok (.aload_n 0, 1) := by decide +kernel
theorem d_J_accept_59 : decode b_J_accept 59 = .ok (.dup, 1) := by decide +kernel
theorem d_J_accept_60 : decode b_J_accept 60 = .ok (.getfield 18, 3) := by decide +kernel
theorem d_J_accept_63 : decode b_J_accept 63 = .ok (.iconst 1, 1) := by decide +kernel
theorem d_J_accept_64 : decode b_J_accept 64 = .ok (.iadd, 1) := by decide +kernel
theorem d_J_accept_65 : decode b_J_accept 65 = .ok (.putfield 18, 3) := by decide +kernel
theorem d_J_accept_68 : decode b_J_accept 68 = .ok (.iconst 1, 1) := by decide +kernel
theorem d_J_accept_69 : decode b_J_accept 69 = .ok (.ireturn, 1) := by decide +kernel
theorem d_J_finishOldest_0 : decode b_J_finishOldest 0 = .ok (.iload_n 1, 1) := by decide +kernel
theorem d_J_finishOldest_1 : decode b_J_finishOldest 1 = .ok (.aload_n 0, 1) := by decide +kernel
theorem d_J_finishOldest_2 : decode b_J_finishOldest 2 = .ok (.getfield 9, 3) := by decide +kernel
theorem d_J_finishOldest_5 : decode b_J_finishOldest 5 = .ok (.aload_n 0, 1) := by decide +kernel
theorem d_J_finishOldest_6 : decode b_J_finishOldest 6 = .ok (.getfield 22, 3) := by decide +kernel
theorem d_J_finishOldest_9 : decode b_J_finishOldest 9 = .ok (.bipush 9, 2) := by decide +kernel
theorem d_J_finishOldest_11 : decode b_J_finishOldest 11 = .ok (.irem, 1) := by decide +kernel
theorem d_J_finishOldest_12 : decode b_J_finishOldest 12 = .ok (.iaload, 1) := by decide +kernel
theorem d_J_finishOldest_13 : decode b_J_finishOldest 13 = .ok (.isub, 1) := by decide +kernel
theorem d_J_finishOldest_14 : decode b_J_finishOldest 14 = .ok (.istore_n 3, 1) := by decide +kernel
theorem d_J_finishOldest_15 : decode b_J_finishOldest 15 = .ok (.aload_n 0, 1) := by decide +kernel
theorem d_J_finishOldest_16 : decode b_J_finishOldest 16 = .ok (.getfield 22, 3) := by decide +kernel
theorem d_J_finishOldest_19 : decode b_J_finishOldest 19 = .ok (.sipush 200, 3) := by decide +kernel
theorem d_J_finishOldest_22 : decode b_J_finishOldest 22 = .ok (.if_icmp .ge 13, 3) := by decide +kernel
theorem d_J_finishOldest_25 : decode b_J_finishOldest 25 = .ok (.aload_n 0, 1) := by decide +kernel
theorem d_J_finishOldest_26 : decode b_J_finishOldest 26 = .ok (.getfield 15, 3) := by decide +kernel
theorem d_J_finishOldest_29 : decode b_J_finishOldest 29 = .ok (.aload_n 0, 1) := by decide +kernel
theorem d_J_finishOldest_30 : decode b_J_finishOldest 30 = .ok (.getfield 22, 3) := by decide +kernel
theorem d_J_finishOldest_33 : decode b_J_finishOldest 33 = .ok (.iload_n 3, 1) := by decide +kernel
theorem d_J_finishOldest_34 : decode b_J_finishOldest 34 = .ok (.iastore, 1) := by decide +kernel
theorem d_J_finishOldest_35 : decode b_J_finishOldest 35 = .ok (.aload_n 0, 1) := by decide +kernel
theorem d_J_finishOldest_36 : decode b_J_finishOldest 36 = .ok (.aload_n 0, 1) := by decide +kernel
theorem d_J_finishOldest_37 : decode b_J_finishOldest 37 = .ok (.getfield 25, 3) := by decide +kernel
theorem d_J_finishOldest_40 : decode b_J_finishOldest 40 = .ok (.iload_n 3, 1) := by decide +kernel
theorem d_J_finishOldest_41 : decode b_J_finishOldest 41 = .ok (.invokestatic 37, 3) := by decide +kernel
theorem d_J_finishOldest_44 : decode b_J_finishOldest 44 = .ok (.putfield 25, 3) := by decide +kernel
theorem d_J_finishOldest_47 : decode b_J_finishOldest 47 = .ok (.iload_n 3, 1) := by decide +kernel
theorem d_J_finishOldest_48 : decode b_J_finishOldest 48 = .ok (.iload_n 2, 1) := by decide +kernel
theorem d_J_finishOldest_49 : decode b_J_finishOldest 49 = .ok (.if_icmp .le 13, 3) := by decide +kernel
theorem d_J_finishOldest_52 : decode b_J_finishOldest 52 = .ok (.aload_n 0, 1) := by decide +kernel
theorem d_J_finishOldest_53 : decode b_J_finishOldest 53 = .ok (.dup, 1) := by decide +kernel
theorem d_J_finishOldest_54 : decode b_J_finishOldest 54 = .ok (.getfield 31, 3) := by decide +kernel
theorem d_J_finishOldest_57 : decode b_J_finishOldest 57 = .ok (.iconst 1, 1) := by decide +kernel
theorem d_J_finishOldest_58 : decode b_J_finishOldest 58 = .ok (.iadd, 1) := by decide +kernel
theorem d_J_finishOldest_59 : decode b_J_finishOldest 59 = .ok (.putfield 31, 3) := by decide +kernel
theorem d_J_finishOldest_62 : decode b_J_finishOldest 62 = .ok (.aload_n 0, 1) := by decide +kernel
theorem d_J_finishOldest_63 : decode b_J_finishOldest 63 = .ok (.dup, 1) := by decide +kernel
theorem d_J_finishOldest_64 : decode b_J_finishOldest 64 = .ok (.getfield 22, 3) := by decide +kernel
theorem d_J_finishOldest_67 : decode b_J_finishOldest 67 = .ok (.iconst 1, 1) := by decide +kernel
theorem d_J_finishOldest_68 : decode b_J_finishOldest 68 = .ok (.iadd, 1) := by decide +kernel
theorem d_J_finishOldest_69 : decode b_J_finishOldest 69 = .ok (.putfield 22, 3) := by decide +kernel
theorem d_J_finishOldest_72 : decode b_J_finishOldest 72 = .ok (.aload_n 0, 1) := by decide +kernel
theorem d_J_finishOldest_73 : decode b_J_finishOldest 73 = .ok (.iconst 0, 1) := by decide +kernel
theorem d_J_finishOldest_74 : decode b_J_finishOldest 74 = .ok (.putfield 34, 3) := by decide +kernel
theorem d_J_finishOldest_77 : decode b_J_finishOldest 77 = .ok (.return_, 1) := by decide +kernel
theorem d_J_notedResponse_0 : decode b_J_notedResponse 0 = .ok (.iload_n 1, 1) := by decide +kernel
theorem d_J_notedResponse_1 : decode b_J_notedResponse 1 = .ok (.ifCond .lt 18, 3) := by decide +kernel
theorem d_J_notedResponse_4 : decode b_J_notedResponse 4 = .ok (.iload_n 1, 1) := by decide +kernel
theorem d_J_notedResponse_5 : decode b_J_notedResponse 5 = .ok (.aload_n 0, 1) := by decide +kernel
theorem d_J_notedResponse_6 : decode b_J_notedResponse 6 = .ok (.getfield 22, 3) := by decide +kernel
theorem d_J_notedResponse_9 : decode b_J_notedResponse 9 = .ok (.if_icmp .ge 10, 3) := by decide +kernel
theorem d_J_notedResponse_12 : decode b_J_notedResponse 12 = .ok (.iload_n 1, 1) := by decide +kernel
theorem d_J_notedResponse_13 : decode b_J_notedResponse 13 = .ok (.sipush 200, 3) := by decide +kernel
theorem d_J_notedResponse_16 : decode b_J_notedResponse 16 = .ok (.if_icmp .lt 7, 3) := by decide +kernel
theorem d_J_notedResponse_19 : decode b_J_notedResponse 19 = .ok (.iconst (-1), 1) := by decide +kernel
theorem d_J_notedResponse_20 : decode b_J_notedResponse 20 = .ok (.goto 9, 3) := by decide +kernel
theorem d_J_notedResponse_23 : decode b_J_notedResponse 23 = .ok (.aload_n 0, 1) := by decide +kernel
theorem d_J_notedResponse_24 : decode b_J_notedResponse 24 = .ok (.getfield 15, 3) := by decide +kernel
theorem d_J_notedResponse_27 : decode b_J_notedResponse 27 = .ok (.iload_n 1, 1) := by decide +kernel
theorem d_J_notedResponse_28 : decode b_J_notedResponse 28 = .ok (.iaload, 1) := by decide +kernel
theorem d_J_notedResponse_29 : decode b_J_notedResponse 29 = .ok (.ireturn, 1) := by decide +kernel
theorem d_Y_init_0 : decode b_Y_init 0 = .ok (.aload_n 0, 1) := by decide +kernel
theorem d_Y_init_1 : decode b_Y_init 1 = .ok (.invokespecial 1, 3) := by decide +kernel
theorem d_Y_init_4 : decode b_Y_init 4 = .ok (.aload_n 0, 1) := by decide +kernel
theorem d_Y_init_5 : decode b_Y_init 5 = .ok (.bipush 9, 2) := by decide +kernel
theorem d_Y_init_7 : decode b_Y_init 7 = .ok (.newarray .boolean, 2) := by decide +kernel
theorem d_Y_init_9 : decode b_Y_init 9 = .ok (.putfield 7, 3) := by decide +kernel
theorem d_Y_init_12 : decode b_Y_init 12 = .ok (.aload_n 0, 1) := by decide +kernel
theorem d_Y_init_13 : decode b_Y_init 13 = .ok (.bipush 9, 2) := by decide +kernel
theorem d_Y_init_15 : decode b_Y_init 15 = .ok (.newarray .int, 2) := by decide +kernel
theorem d_Y_init_17 : decode b_Y_init 17 = .ok (.putfield 13, 3) := by decide +kernel
theorem d_Y_init_20 : decode b_Y_init 20 = .ok (.aload_n 0, 1) := by decide +kernel
theorem d_Y_init_21 : decode b_Y_init 21 = .ok (.bipush 9, 2) := by decide +kernel
theorem d_Y_init_23 : decode b_Y_init 23 = .ok (.newarray .int, 2) := by decide +kernel
theorem d_Y_init_25 : decode b_Y_init 25 = .ok (.putfield 17, 3) := by decide +kernel
theorem d_Y_init_28 : decode b_Y_init 28 = .ok (.aload_n 0, 1) := by decide +kernel
theorem d_Y_init_29 : decode b_Y_init 29 = .ok (.bipush 9, 2) := by decide +kernel
theorem d_Y_init_31 : decode b_Y_init 31 = .ok (.newarray .int, 2) := by decide +kernel
theorem d_Y_init_33 : decode b_Y_init 33 = .ok (.putfield 20, 3) := by decide +kernel
theorem d_Y_init_36 : decode b_Y_init 36 = .ok (.aload_n 0, 1) := by decide +kernel
theorem d_Y_init_37 : decode b_Y_init 37 = .ok (.bipush 9, 2) := by decide +kernel
theorem d_Y_init_39 : decode b_Y_init 39 = .ok (.newarray .int, 2) := by decide +kernel
theorem d_Y_init_41 : decode b_Y_init 41 = .ok (.putfield 23, 3) := by decide +kernel
theorem d_Y_init_44 : decode b_Y_init 44 = .ok (.aload_n 0, 1) := by decide +kernel
theorem d_Y_init_45 : decode b_Y_init 45 = .ok (.bipush 72, 2) := by decide +kernel
theorem d_Y_init_47 : decode b_Y_init 47 = .ok (.newarray .int, 2) := by decide +kernel
theorem d_Y_init_49 : decode b_Y_init 49 = .ok (.putfield 26, 3) := by decide +kernel
theorem d_Y_init_52 : decode b_Y_init 52 = .ok (.aload_n 0, 1) := by decide +kernel
theorem d_Y_init_53 : decode b_Y_init 53 = .ok (.bipush 9, 2) := by decide +kernel
theorem d_Y_init_55 : decode b_Y_init 55 = .ok (.newarray .int, 2) := by decide +kernel
theorem d_Y_init_57 : decode b_Y_init 57 = .ok (.putfield 29, 3) := by decide +kernel
theorem d_Y_init_60 : decode b_Y_init 60 = .ok (.aload_n 0, 1) := by decide +kernel
theorem d_Y_init_61 : decode b_Y_init 61 = .ok (.bipush 9, 2) := by decide +kernel
theorem d_Y_init_63 : decode b_Y_init 63 = .ok (.newarray .int, 2) := by decide +kernel
theorem d_Y_init_65 : decode b_Y_init 65 = .ok (.putfield 32, 3) := by decide +kernel
theorem d_Y_init_68 : decode b_Y_init 68 = .ok (.aload_n 0, 1) := by decide +kernel
theorem d_Y_init_69 : decode b_Y_init 69 = .ok (.bipush 9, 2) := by decide +kernel
theorem d_Y_init_71 : decode b_Y_init 71 = .ok (.newarray .int, 2) := by decide +kernel
theorem d_Y_init_73 : decode b_Y_init 73 = .ok (.putfield 35, 3) := by decide +kernel
theorem d_Y_init_76 : decode b_Y_init 76 = .ok (.aload_n 0, 1) := by decide +kernel
theorem d_Y_init_77 : decode b_Y_init 77 = .ok (.bipush 9, 2) := by decide +kernel
theorem d_Y_init_79 : decode b_Y_init 79 = .ok (.newarray .int, 2) := by decide +kernel
theorem d_Y_init_81 : decode b_Y_init 81 = .ok (.putfield 38, 3) := by decide +kernel
theorem d_Y_init_84 : decode b_Y_init 84 = .ok (.aload_n 0, 1) := by decide +kernel
theorem d_Y_init_85 : decode b_Y_init 85 = .ok (.bipush 9, 2) := by decide +kernel
theorem d_Y_init_87 : decode b_Y_init 87 = .ok (.newarray .int, 2) := by decide +kernel
theorem d_Y_init_89 : decode b_Y_init 89 = .ok (.putfield 41, 3) := by decide +kernel
theorem d_Y_init_92 : decode b_Y_init 92 = .ok (.aload_n 0, 1) := by decide +kernel
theorem d_Y_init_93 : decode b_Y_init 93 = .ok (.bipush 81, 2) := by decide +kernel
theorem d_Y_init_95 : decode b_Y_init 95 = .ok (.newarray .int, 2) := by decide +kernel
theorem d_Y_init_97 : decode b_Y_init 97 = .ok (.putfield 44, 3) := by decide +kernel
theorem d_Y_init_100 : decode b_Y_init 100 = .ok (.aload_n 0, 1) := by decide +kernel
theorem d_Y_init_101 : decode b_Y_init 101 = .ok (.bipush 9, 2) := by decide +kernel
theorem d_Y_init_103 : decode b_Y_init 103 = .ok (.newarray .int, 2) := by decide +kernel
theorem d_Y_init_105 : decode b_Y_init 105 = .ok (.putfield 47, 3) := by decide +kernel
theorem d_Y_init_108 : decode b_Y_init 108 = .ok (.aload_n 0, 1) := by decide +kernel
theorem d_Y_init_109 : decode b_Y_init 109 = .ok (.bipush 9, 2) := by decide +kernel
theorem d_Y_init_111 : decode b_Y_init 111 = .ok (.newarray .int, 2) := by decide +kernel
theorem d_Y_init_113 : decode b_Y_init 113 = .ok (.putfield 50, 3) := by decide +kernel
theorem d_Y_init_116 : decode b_Y_init 116 = .ok (.aload_n 0, 1) := by decide +kernel
theorem d_Y_init_117 : decode b_Y_init 117 = .ok (.bipush 9, 2) := by decide +kernel
theorem d_Y_init_119 : decode b_Y_init 119 = .ok (.newarray .int, 2) := by decide +kernel
theorem d_Y_init_121 : decode b_Y_init 121 = .ok (.putfield 53, 3) := by decide +kernel
theorem d_Y_init_124 : decode b_Y_init 124 = .ok (.aload_n 0, 1) := by decide +kernel
theorem d_Y_init_125 : decode b_Y_init 125 = .ok (.bipush 9, 2) := by decide +kernel
theorem d_Y_init_127 : decode b_Y_init 127 = .ok (.newarray .int, 2) := by decide +kernel
theorem d_Y_init_129 : decode b_Y_init 129 = .ok (.putfield 56, 3) := by decide +kernel
theorem d_Y_init_132 : decode b_Y_init 132 = .ok (.aload_n 0, 1) := by decide +kernel
theorem d_Y_init_133 : decode b_Y_init 133 = .ok (.sipush 1800, 3) := by decide +kernel
theorem d_Y_init_136 : decode b_Y_init 136 = .ok (.newarray .int, 2) := by decide +kernel
theorem d_Y_init_138 : decode b_Y_init 138 = .ok (.putfield 59, 3) := by decide +kernel
theorem d_Y_init_141 : decode b_Y_init 141 = .ok (.return_, 1) := by decide +kernel
theorem d_Y_thrown_0 : decode b_Y_thrown 0 = .ok (.aload_n 0, 1) := by decide +kernel
theorem d_Y_thrown_1 : decode b_Y_thrown 1 = .ok (.getfield 62, 3) := by decide +kernel
theorem d_Y_thrown_4 : decode b_Y_thrown 4 = .ok (.ireturn, 1) := by decide +kernel
theorem d_Y_raise_0 : decode b_Y_raise 0 = .ok (.aload_n 0, 1) := by decide +kernel
theorem d_Y_raise_1 : decode b_Y_raise 1 = .ok (.iload_n 1, 1) := by decide +kernel
theorem d_Y_raise_2 : decode b_Y_raise 2 = .ok (.putfield 62, 3) := by decide +kernel
theorem d_Y_raise_5 : decode b_Y_raise 5 = .ok (.iconst 0, 1) := by decide +kernel
theorem d_Y_raise_6 : decode b_Y_raise 6 = .ok (.ireturn, 1) := by decide +kernel
theorem d_Y_isTask_0 : decode b_Y_isTask 0 = .ok (.iload_n 1, 1) := by decide +kernel
theorem d_Y_isTask_1 : decode b_Y_isTask 1 = .ok (.iconst 1, 1) := by decide +kernel
theorem d_Y_isTask_2 : decode b_Y_isTask 2 = .ok (.if_icmp .lt 22, 3) := by decide +kernel
theorem d_Y_isTask_5 : decode b_Y_isTask 5 = .ok (.iload_n 1, 1) := by decide +kernel
theorem d_Y_isTask_6 : decode b_Y_isTask 6 = .ok (.bipush 8, 2) := by decide +kernel
theorem d_Y_isTask_8 : decode b_Y_isTask 8 = .ok (.if_icmp .gt 16, 3) := by decide +kernel
theorem d_Y_isTask_11 : decode b_Y_isTask 11 = .ok (.aload_n 0, 1) := by decide +kernel
theorem d_Y_isTask_12 : decode b_Y_isTask 12 = .ok (.getfield 7, 3) := by decide +kernel
theorem d_Y_isTask_15 : decode b_Y_isTask 15 = .ok (.iload_n 1, 1) := by decide +kernel
theorem d_Y_isTask_16 : decode b_Y_isTask 16 = .ok (.baload, 1) := by decide +kernel
theorem d_Y_isTask_17 : decode b_Y_isTask 17 = .ok (.ifCond .eq 7, 3) := by decide +kernel
theorem d_Y_isTask_20 : decode b_Y_isTask 20 = .ok (.iconst 1, 1) := by decide +kernel
theorem d_Y_isTask_21 : decode b_Y_isTask 21 = .ok (.goto 4, 3) := by decide +kernel
theorem d_Y_isTask_24 : decode b_Y_isTask 24 = .ok (.iconst 0, 1) := by decide +kernel
theorem d_Y_isTask_25 : decode b_Y_isTask 25 = .ok (.ireturn, 1) := by decide +kernel
theorem d_Y_task_0 : decode b_Y_task 0 = .ok (.aload_n 0, 1) := by decide +kernel
theorem d_Y_task_1 : decode b_Y_task 1 = .ok (.iconst 0, 1) := by decide +kernel
theorem d_Y_task_2 : decode b_Y_task 2 = .ok (.putfield 62, 3) := by decide +kernel
theorem d_Y_task_5 : decode b_Y_task 5 = .ok (.aload_n 0, 1) := by decide +kernel
theorem d_Y_task_6 : decode b_Y_task 6 = .ok (.getfield 66, 3) := by decide +kernel
theorem d_Y_task_9 : decode b_Y_task 9 = .ok (.ifCond .ne 60, 3) := by decide +kernel
theorem d_Y_task_12 : decode b_Y_task 12 = .ok (.iload_n 1, 1) := by decide +kernel
theorem d_Y_task_13 : decode b_Y_task 13 = .ok (.iconst 1, 1) := by decide +kernel
theorem d_Y_task_14 : decode b_Y_task 14 = .ok (.if_icmp .lt 55, 3) := by decide +kernel
theorem d_Y_task_17 : decode b_Y_task 17 = .ok (.iload_n 1, 1) := by decide +kernel
theorem d_Y_task_18 : decode b_Y_task 18 = .ok (.bipush 8, 2) := by decide +kernel
theorem d_Y_task_20 : decode b_Y_task 20 = .ok (.if_icmp .gt 49, 3) := by decide +kernel
theorem d_Y_task_23 : decode b_Y_task 23 = .ok (.aload_n 0, 1) := by decide +kernel
theorem d_Y_task_24 : decode b_Y_task 24 = .ok (.getfield 7, 3) := by decide +kernel
theorem d_Y_task_27 : decode b_Y_task 27 = .ok (.iload_n 1, 1) := by decide +kernel
theorem d_Y_task_28 : decode b_Y_task 28 = .ok (.baload, 1) := by decide +kernel
theorem d_Y_task_29 : decode b_Y_task 29 = .ok (.ifCond .ne 40, 3) := by decide +kernel
theorem d_Y_task_32 : decode b_Y_task 32 = .ok (.iload_n 2, 1) := by decide +kernel
theorem d_Y_task_33 : decode b_Y_task 33 = .ok (.iconst 1, 1) := by decide +kernel
theorem d_Y_task_34 : decode b_Y_task 34 = .ok (.if_icmp .lt 35, 3) := by decide +kernel
theorem d_Y_task_37 : decode b_Y_task 37 = .ok (.iload_n 2, 1) := by decide +kernel
theorem d_Y_task_38 : decode b_Y_task 38 = .ok (.sipush 1000, 3) := by decide +kernel
theorem d_Y_task_41 : decode b_Y_task 41 = .ok (.if_icmp .gt 28, 3) := by decide +kernel
theorem d_Y_task_44 : decode b_Y_task 44 = .ok (.iload_n 3, 1) := by decide +kernel
theorem d_Y_task_45 : decode b_Y_task 45 = .ok (.iconst 1, 1) := by decide +kernel
theorem d_Y_task_46 : decode b_Y_task 46 = .ok (.if_icmp .lt 23, 3) := by decide +kernel
theorem d_Y_task_49 : decode b_Y_task 49 = .ok (.iload_n 3, 1) := by decide +kernel
theorem d_Y_task_50 : decode b_Y_task 50 = .ok (.bipush 8, 2) := by decide +kernel
theorem d_Y_task_52 : decode b_Y_task 52 = .ok (.iload_n 2, 1) := by decide +kernel
theorem d_Y_task_53 : decode b_Y_task 53 = .ok (.imul, 1) := by decide +kernel
theorem d_Y_task_54 : decode b_Y_task 54 = .ok (.if_icmp .gt 15, 3) := by decide +kernel
theorem d_Y_task_57 : decode b_Y_task 57 = .ok (.iload 4, 2) := by decide +kernel
theorem d_Y_task_59 : decode b_Y_task 59 = .ok (.ifCond .lt 10, 3) := by decide +kernel
theorem d_Y_task_62 : decode b_Y_task 62 = .ok (.iload 4, 2) := by decide +kernel
theorem d_Y_task_64 : decode b_Y_task 64 = .ok (.bipush 99, 2) := by decide +kernel
theorem d_Y_task_66 : decode b_Y_task 66 = .ok (.if_icmp .le 5, 3) := by decide +kernel
theorem d_Y_task_69 : decode b_Y_task 69 = .ok (.iconst 0, 1) := by decide +kernel
theorem d_Y_task_70 : decode b_Y_task 70 = .ok (.ireturn, 1) := by decide +kernel
theorem d_Y_task_71 : decode b_Y_task 71 = .ok (.iconst 1, 1) := by decide +kernel
theorem d_Y_task_72 : decode b_Y_task 72 = .ok (.istore 5, 2) := by decide +kernel
theorem d_Y_task_74 : decode b_Y_task 74 = .ok (.iload 5, 2) := by decide +kernel
theorem d_Y_task_76 : decode b_Y_task 76 = .ok (.bipush 8, 2) := by decide +kernel
theorem d_Y_task_78 : decode b_Y_task 78 = .ok (.if_icmp .gt 33, 3) := by decide +kernel
theorem d_Y_task_81 : decode b_Y_task 81 = .ok (.aload_n 0, 1) := by decide +kernel
theorem d_Y_task_82 : decode b_Y_task 82 = .ok (.getfield 7, 3) := by decide +kernel
theorem d_Y_task_85 : decode b_Y_task 85 = .ok (.iload 5, 2) := by decide +kernel
theorem d_Y_task_87 : decode b_Y_task 87 = .ok (.baload, 1) := by decide +kernel
theorem d_Y_task_88 : decode b_Y_task 88 = .ok (.ifCond .eq 17, 3) := by decide +kernel
theorem d_Y_task_91 : decode b_Y_task 91 = .ok (.aload_n 0, 1) := by decide +kernel
theorem d_Y_task_92 : decode b_Y_task 92 = .ok (.getfield 20, 3) := by decide +kernel
theorem d_Y_task_95 : decode b_Y_task 95 = .ok (.iload 5, 2) := by decide +kernel
theorem d_Y_task_97 : decode b_Y_task 97 = .ok (.iaload, 1) := by decide +kernel
theorem d_Y_task_98 : decode b_Y_task 98 = .ok (.iload 4, 2) := by decide +kernel
theorem d_Y_task_100 : decode b_Y_task 100 = .ok (.if_icmp .ne 5, 3) := by decide +kernel
theorem d_Y_task_103 : decode b_Y_task 103 = .ok (.iconst 0, 1) := by decide +kernel
theorem d_Y_task_104 : decode b_Y_task 104 = .ok (.ireturn, 1) := by decide +kernel
theorem d_Y_task_105 : decode b_Y_task 105 = .ok (.iinc 5 1, 3) := by decide +kernel
theorem d_Y_task_108 : decode b_Y_task 108 = .ok (.goto (-34), 3) := by decide +kernel
theorem d_Y_task_111 : decode b_Y_task 111 = .ok (.aload_n 0, 1) := by decide +kernel
theorem d_Y_task_112 : decode b_Y_task 112 = .ok (.getfield 7, 3) := by decide +kernel
theorem d_Y_task_115 : decode b_Y_task 115 = .ok (.iload_n 1, 1) := by decide +kernel
theorem d_Y_task_116 : decode b_Y_task 116 = .ok (.iconst 1, 1) := by decide +kernel
theorem d_Y_task_117 : decode b_Y_task 117 = .ok (.bastore, 1) := by decide +kernel
theorem d_Y_task_118 : decode b_Y_task 118 = .ok (.aload_n 0, 1) := by decide +kernel
theorem d_Y_task_119 : decode b_Y_task 119 = .ok (.getfield 13, 3) := by decide +kernel
theorem d_Y_task_122 : decode b_Y_task 122 = .ok (.iload_n 1, 1) := by decide +kernel
theorem d_Y_task_123 : decode b_Y_task 123 = .ok (.iload_n 2, 1) := by decide +kernel
theorem d_Y_task_124 : decode b_Y_task 124 = .ok (.iastore, 1) := by decide +kernel
theorem d_Y_task_125 : decode b_Y_task 125 = .ok (.aload_n 0, 1) := by decide +kernel
theorem d_Y_task_126 : decode b_Y_task 126 = .ok (.getfield 17, 3) := by decide +kernel
theorem d_Y_task_129 : decode b_Y_task 129 = .ok (.iload_n 1, 1) := by decide +kernel
theorem d_Y_task_130 : decode b_Y_task 130 = .ok (.iload_n 3, 1) := by decide +kernel
theorem d_Y_task_131 : decode b_Y_task 131 = .ok (.iastore, 1) := by decide +kernel
theorem d_Y_task_132 : decode b_Y_task 132 = .ok (.aload_n 0, 1) := by decide +kernel
theorem d_Y_task_133 : decode b_Y_task 133 = .ok (.getfield 20, 3) := by decide +kernel
theorem d_Y_task_136 : decode b_Y_task 136 = .ok (.iload_n 1, 1) := by decide +kernel
theorem d_Y_task_137 : decode b_Y_task 137 = .ok (.iload 4, 2) := by decide +kernel
theorem d_Y_task_139 : decode b_Y_task 139 = .ok (.iastore, 1) := by decide +kernel
theorem d_Y_task_140 : decode b_Y_task 140 = .ok (.aload_n 0, 1) := by decide +kernel
theorem d_Y_task_141 : decode b_Y_task 141 = .ok (.getfield 23, 3) := by decide +kernel
theorem d_Y_task_144 : decode b_Y_task 144 = .ok (.iload_n 1, 1) := by decide +kernel
theorem d_Y_task_145 : decode b_Y_task 145 = .ok (.iconst 0, 1) := by decide +kernel
theorem d_Y_task_146 : decode b_Y_task 146 = .ok (.iastore, 1) := by decide +kernel
theorem d_Y_task_147 : decode b_Y_task 147 = .ok (.iconst 1, 1) := by decide +kernel
theorem d_Y_task_148 : decode b_Y_task 148 = .ok (.ireturn, 1) := by decide +kernel
theorem d_Y_segment_0 : decode b_Y_segment 0 = .ok (.aload_n 0, 1) := by decide +kernel
theorem d_Y_segment_1 : decode b_Y_segment 1 = .ok (.iconst 0, 1) := by decide +kernel
theorem d_Y_segment_2 : decode b_Y_segment 2 = .ok (.putfield 62, 3) := by decide +kernel
theorem d_Y_segment_5 : decode b_Y_segment 5 = .ok (.aload_n 0, 1) := by decide +kernel
theorem d_Y_segment_6 : decode b_Y_segment 6 = .ok (.getfield 66, 3) := by decide +kernel
theorem d_Y_segment_9 : decode b_Y_segment 9 = .ok (.ifCond .ne 33, 3) := by decide +kernel
theorem d_Y_segment_12 : decode b_Y_segment 12 = .ok (.aload_n 0, 1) := by decide +kernel
theorem d_Y_segment_13 : decode b_Y_segment 13 = .ok (.iload_n 1, 1) := by decide +kernel
theorem d_Y_segment_14 : decode b_Y_segment 14 = .ok (.invokevirtual 70, 3) := by decide +kernel
theorem d_Y_segment_17 : decode b_Y_segment 17 = .ok (.ifCond .eq 25, 3) := by decide +kernel
theorem d_Y_segment_20 : decode b_Y_segment 20 = .ok (.aload_n 0, 1) := by decide +kernel
theorem d_Y_segment_21 : decode b_Y_segment 21 = .ok (.getfield 23, 3) := by decide +kernel
theorem d_Y_segment_24 : decode b_Y_segment 24 = .ok (.iload_n 1, 1) := by decide +kernel
theorem d_Y_segment_25 : decode b_Y_segment 25 = .ok (.iaload, 1) := by decide +kernel
theorem d_Y_segment_26 : decode b_Y_segment 26 = .ok (.bipush 8, 2) := by decide +kernel
theorem d_Y_segment_28 : decode b_Y_segment 28 = .ok (.if_icmp .eq 14, 3) := by decide +kernel
theorem d_Y_segment_31 : decode b_Y_segment 31 = .ok (.iload_n 2, 1) := by decide +kernel
theorem d_Y_segment_32 : decode b_Y_segment 32 = .ok (.iconst 1, 1) := by decide +kernel
theorem d_Y_segment_33 : decode b_Y_segment 33 = .ok (.if_icmp .lt 9, 3) := by decide +kernel
theorem d_Y_segment_36 : decode b_Y_segment 36 = .ok (.iload_n 2, 1) := by decide +kernel
theorem d_Y_segment_37 : decode b_Y_segment 37 = .ok (.bipush 100, 2) := by decide +kernel
theorem d_Y_segment_39 : decode b_Y_segment 39 = .ok (.if_icmp .le 5, 3) := by decide +kernel
theorem d_Y_segment_42 : decode b_Y_segment 42 = .ok (.iconst 0, 1) := by decide +kernel
theorem d_Y_segment_43 : decode b_Y_segment 43 = .ok (.ireturn, 1) := by decide +kernel
theorem d_Y_segment_44 : decode b_Y_segment 44 = .ok (.aload_n 0, 1) := by decide +kernel
theorem d_Y_segment_45 : decode b_Y_segment 45 = .ok (.getfield 26, 3) := by decide +kernel
theorem d_Y_segment_48 : decode b_Y_segment 48 = .ok (.bipush 8, 2) := by decide +kernel
theorem d_Y_segment_50 : decode b_Y_segment 50 = .ok (.iload_n 1, 1) := by decide +kernel
theorem d_Y_segment_51 : decode b_Y_segment 51 = .ok (.imul, 1) := by decide +kernel
theorem d_Y_segment_52 : decode b_Y_segment 52 = .ok (.aload_n 0, 1) := by decide +kernel
theorem d_Y_segment_53 : decode b_Y_segment 53 = .ok (.getfield 23, 3) := by decide +kernel
theorem d_Y_segment_56 : decode b_Y_segment 56 = .ok (.iload_n 1, 1) := by decide +kernel
theorem d_Y_segment_57 : decode b_Y_segment 57 = .ok (.iaload, 1) := by decide +kernel
theorem d_Y_segment_58 : decode b_Y_segment 58 = .ok (.iadd, 1) := by decide +kernel
theorem d_Y_segment_59 : decode b_Y_segment 59 = .ok (.iload_n 2, 1) := by decide +kernel
theorem d_Y_segment_60 : decode b_Y_segment 60 = .ok (.iastore, 1) := by decide +kernel
theorem d_Y_segment_61 : decode b_Y_segment 61 = .ok (.aload_n 0, 1) := by decide +kernel
theorem d_Y_segment_62 : decode b_Y_segment 62 = .ok (.getfield 23, 3) := by decide +kernel
theorem d_Y_segment_65 : decode b_Y_segment 65 = .ok (.iload_n 1, 1) := by decide +kernel
theorem d_Y_segment_66 : decode b_Y_segment 66 = .ok (.dup2, 1) := by decide +kernel
theorem d_Y_segment_67 : decode b_Y_segment 67 = .ok (.iaload, 1) := by decide +kernel
theorem d_Y_segment_68 : decode b_Y_segment 68 = .ok (.iconst 1, 1) := by decide +kernel
theorem d_Y_segment_69 : decode b_Y_segment 69 = .ok (.iadd, 1) := by decide +kernel
theorem d_Y_segment_70 : decode b_Y_segment 70 = .ok (.iastore, 1) := by decide +kernel
theorem d_Y_segment_71 : decode b_Y_segment 71 = .ok (.iconst 1, 1) := by decide +kernel
theorem d_Y_segment_72 : decode b_Y_segment 72 = .ok (.ireturn, 1) := by decide +kernel
theorem d_Y_forgetJobs_0 : decode b_Y_forgetJobs 0 = .ok (.aload_n 0, 1) := by decide +kernel
theorem d_Y_forgetJobs_1 : decode b_Y_forgetJobs 1 = .ok (.iconst 0, 1) := by decide +kernel
theorem d_Y_forgetJobs_2 : decode b_Y_forgetJobs 2 = .ok (.putfield 74, 3) := by decide +kernel
theorem d_Y_forgetJobs_5 : decode b_Y_forgetJobs 5 = .ok (.aload_n 0, 1) := by decide +kernel
theorem d_Y_forgetJobs_6 : decode b_Y_forgetJobs 6 = .ok (.iconst 0, 1) := by decide +kernel
theorem d_Y_forgetJobs_7 : decode b_Y_forgetJobs 7 = .ok (.putfield 66, 3) := by decide +kernel
theorem d_Y_forgetJobs_10 : decode b_Y_forgetJobs 10 = .ok (.aload_n 0, 1) := by decide +kernel
theorem d_Y_forgetJobs_11 : decode b_Y_forgetJobs 11 = .ok (.iconst 0, 1) := by decide +kernel
theorem d_Y_forgetJobs_12 : decode b_Y_forgetJobs 12 = .ok (.putfield 77, 3) := by decide +kernel
theorem d_Y_forgetJobs_15 : decode b_Y_forgetJobs 15 = .ok (.aload_n 0, 1) := by decide +kernel
theorem d_Y_forgetJobs_16 : decode b_Y_forgetJobs 16 = .ok (.iconst 0, 1) := by decide +kernel
theorem d_Y_forgetJobs_17 : decode b_Y_forgetJobs 17 = .ok (.putfield 80, 3) := by decide +kernel
theorem d_Y_forgetJobs_20 : decode b_Y_forgetJobs 20 = .ok (.aload_n 0, 1) := by decide +kernel
theorem d_Y_forgetJobs_21 : decode b_Y_forgetJobs 21 = .ok (.iconst 0, 1) := by decide +kernel
theorem d_Y_forgetJobs_22 : decode b_Y_forgetJobs 22 = .ok (.putfield 83, 3) := by decide +kernel
theorem d_Y_forgetJobs_25 : decode b_Y_forgetJobs 25 = .ok (.iconst 0, 1) := by decide +kernel
theorem d_Y_forgetJobs_26 : decode b_Y_forgetJobs 26 = .ok (.istore_n 1, 1) := by decide +kernel
theorem d_Y_forgetJobs_27 : decode b_Y_forgetJobs 27 = .ok (.iload_n 1, 1) := by decide +kernel
theorem d_Y_forgetJobs_28 : decode b_Y_forgetJobs 28 = .ok (.bipush 9, 2) := by decide +kernel
theorem d_Y_forgetJobs_30 : decode b_Y_forgetJobs 30 = .ok (.if_icmp .ge 51, 3) := by decide +kernel
theorem d_Y_forgetJobs_33 : decode b_Y_forgetJobs 33 = .ok (.aload_n 0, 1) := by decide +kernel
theorem d_Y_forgetJobs_34 : decode b_Y_forgetJobs 34 = .ok (.getfield 35, 3) := by decide +kernel
theorem d_Y_forgetJobs_37 : decode b_Y_forgetJobs 37 = .ok (.iload_n 1, 1) := by decide +kernel
theorem d_Y_forgetJobs_38 : decode b_Y_forgetJobs 38 = .ok (.iconst 0, 1) := by decide +kernel
theorem d_Y_forgetJobs_39 : decode b_Y_forgetJobs 39 = .ok (.iastore, 1) := by decide +kernel
theorem d_Y_forgetJobs_40 : decode b_Y_forgetJobs 40 = .ok (.aload_n 0, 1) := by decide +kernel
theorem d_Y_forgetJobs_41 : decode b_Y_forgetJobs 41 = .ok (.getfield 38, 3) := by decide +kernel
theorem d_Y_forgetJobs_44 : decode b_Y_forgetJobs 44 = .ok (.iload_n 1, 1) := by decide +kernel
theorem d_Y_forgetJobs_45 : decode b_Y_forgetJobs 45 = .ok (.iconst 0, 1) := by decide +kernel
theorem d_Y_forgetJobs_46 : decode b_Y_forgetJobs 46 = .ok (.iastore, 1) := by decide +kernel
theorem d_Y_forgetJobs_47 : decode b_Y_forgetJobs 47 = .ok (.aload_n 0, 1) := by decide +kernel
theorem d_Y_forgetJobs_48 : decode b_Y_forgetJobs 48 = .ok (.getfield 47, 3) := by decide +kernel
theorem d_Y_forgetJobs_51 : decode b_Y_forgetJobs 51 = .ok (.iload_n 1, 1) := by decide +kernel
theorem d_Y_forgetJobs_52 : decode b_Y_forgetJobs 52 = .ok (.iconst 0, 1) := by decide +kernel
theorem d_Y_forgetJobs_53 : decode b_Y_forgetJobs 53 = .ok (.iastore, 1) := by decide +kernel
theorem d_Y_forgetJobs_54 : decode b_Y_forgetJobs 54 = .ok (.aload_n 0, 1) := by decide +kernel
theorem d_Y_forgetJobs_55 : decode b_Y_forgetJobs 55 = .ok (.getfield 50, 3) := by decide +kernel
theorem d_Y_forgetJobs_58 : decode b_Y_forgetJobs 58 = .ok (.iload_n 1, 1) := by decide +kernel
theorem d_Y_forgetJobs_59 : decode b_Y_forgetJobs 59 = .ok (.iconst 0, 1) := by decide +kernel
theorem d_Y_forgetJobs_60 : decode b_Y_forgetJobs 60 = .ok (.iastore, 1) := by decide +kernel
theorem d_Y_forgetJobs_61 : decode b_Y_forgetJobs 61 = .ok (.aload_n 0, 1) := by decide +kernel
theorem d_Y_forgetJobs_62 : decode b_Y_forgetJobs 62 = .ok (.getfield 53, 3) := by decide +kernel
theorem d_Y_forgetJobs_65 : decode b_Y_forgetJobs 65 = .ok (.iload_n 1, 1) := by decide +kernel
theorem d_Y_forgetJobs_66 : decode b_Y_forgetJobs 66 = .ok (.iconst 0, 1) := by decide +kernel
theorem d_Y_forgetJobs_67 : decode b_Y_forgetJobs 67 = .ok (.iastore, 1) := by decide +kernel
theorem d_Y_forgetJobs_68 : decode b_Y_forgetJobs 68 = .ok (.aload_n 0, 1) := by decide +kernel
theorem d_Y_forgetJobs_69 : decode b_Y_forgetJobs 69 = .ok (.getfield 56, 3) := by decide +kernel
theorem d_Y_forgetJobs_72 : decode b_Y_forgetJobs 72 = .ok (.iload_n 1, 1) := by decide +kernel
theorem d_Y_forgetJobs_73 : decode b_Y_forgetJobs 73 = .ok (.iconst 0, 1) := by decide +kernel
theorem d_Y_forgetJobs_74 : decode b_Y_forgetJobs 74 = .ok (.iastore, 1) := by decide +kernel
theorem d_Y_forgetJobs_75 : decode b_Y_forgetJobs 75 = .ok (.iinc 1 1, 3) := by decide +kernel
theorem d_Y_forgetJobs_78 : decode b_Y_forgetJobs 78 = .ok (.goto (-51), 3) := by decide +kernel
theorem d_Y_forgetJobs_81 : decode b_Y_forgetJobs 81 = .ok (.return_, 1) := by decide +kernel
theorem d_Y_clear_0 : decode b_Y_clear 0 = .ok (.aload_n 0, 1) := by decide +kernel
theorem d_Y_clear_1 : decode b_Y_clear 1 = .ok (.iconst 0, 1) := by decide +kernel
theorem d_Y_clear_2 : decode b_Y_clear 2 = .ok (.putfield 62, 3) := by decide +kernel
theorem d_Y_clear_5 : decode b_Y_clear 5 = .ok (.iconst 0, 1) := by decide +kernel
theorem d_Y_clear_6 : decode b_Y_clear 6 = .ok (.istore_n 1, 1) := by decide +kernel
theorem d_Y_clear_7 : decode b_Y_clear 7 = .ok (.iload_n 1, 1) := by decide +kernel
theorem d_Y_clear_8 : decode b_Y_clear 8 = .ok (.bipush 9, 2) := by decide +kernel
theorem d_Y_clear_10 : decode b_Y_clear 10 = .ok (.if_icmp .ge 16, 3) := by decide +kernel
theorem d_Y_clear_13 : decode b_Y_clear 13 = .ok (.aload_n 0, 1) := by decide +kernel
theorem d_Y_clear_14 : decode b_Y_clear 14 = .ok (.getfield 7, 3) := by decide +kernel
theorem d_Y_clear_17 : decode b_Y_clear 17 = .ok (.iload_n 1, 1) := by decide +kernel
theorem d_Y_clear_18 : decode b_Y_clear 18 = .ok (.iconst 0, 1) := by decide +kernel
theorem d_Y_clear_19 : decode b_Y_clear 19 = .ok (.bastore, 1) := by decide +kernel
theorem d_Y_clear_20 : decode b_Y_clear 20 = .ok (.iinc 1 1, 3) := by decide +kernel
theorem d_Y_clear_23 : decode b_Y_clear 23 = .ok (.goto (-16), 3) := by decide +kernel
theorem d_Y_clear_26 : decode b_Y_clear 26 = .ok (.aload_n 0, 1) := by decide +kernel
theorem d_Y_clear_27 : decode b_Y_clear 27 = .ok (.invokevirtual 86, 3) := by decide +kernel
theorem d_Y_clear_30 : decode b_Y_clear 30 = .ok (.return_, 1) := by decide +kernel
theorem d_Y_reset_0 : decode b_Y_reset 0 = .ok (.aload_n 0, 1) := by decide +kernel
theorem d_Y_reset_1 : decode b_Y_reset 1 = .ok (.iconst 0, 1) := by decide +kernel
theorem d_Y_reset_2 : decode b_Y_reset 2 = .ok (.putfield 62, 3) := by decide +kernel
theorem d_Y_reset_5 : decode b_Y_reset 5 = .ok (.aload_n 0, 1) := by decide +kernel
theorem d_Y_reset_6 : decode b_Y_reset 6 = .ok (.invokevirtual 86, 3) := by decide +kernel
theorem d_Y_reset_9 : decode b_Y_reset 9 = .ok (.return_, 1) := by decide +kernel
theorem d_Y_isReady_0 : decode b_Y_isReady 0 = .ok (.iconst 0, 1) := by decide +kernel
theorem d_Y_isReady_1 : decode b_Y_isReady 1 = .ok (.istore_n 1, 1) := by decide +kernel
theorem d_Y_isReady_2 : decode b_Y_isReady 2 = .ok (.iconst 1, 1) := by decide +kernel
theorem d_Y_isReady_3 : decode b_Y_isReady 3 = .ok (.istore_n 2, 1) := by decide +kernel
theorem d_Y_isReady_4 : decode b_Y_isReady 4 = .ok (.iload_n 2, 1) := by decide +kernel
theorem d_Y_isReady_5 : decode b_Y_isReady 5 = .ok (.bipush 8, 2) := by decide +kernel
theorem d_Y_isReady_7 : decode b_Y_isReady 7 = .ok (.if_icmp .gt 48, 3) := by decide +kernel
theorem d_Y_isReady_10 : decode b_Y_isReady 10 = .ok (.aload_n 0, 1) := by decide +kernel
theorem d_Y_isReady_11 : decode b_Y_isReady 11 = .ok (.getfield 7, 3) := by decide +kernel
theorem d_Y_isReady_14 : decode b_Y_isReady 14 = .ok (.iload_n 2, 1) := by decide +kernel
theorem d_Y_isReady_15 : decode b_Y_isReady 15 = .ok (.baload, 1) := by decide +kernel
theorem d_Y_isReady_16 : decode b_Y_isReady 16 = .ok (.ifCond .eq 14, 3) := by decide +kernel
theorem d_Y_isReady_19 : decode b_Y_isReady 19 = .ok (.aload_n 0, 1) := by decide +kernel
theorem d_Y_isReady_20 : decode b_Y_isReady 20 = .ok (.getfield 23, 3) := by decide +kernel
theorem d_Y_isReady_23 : decode b_Y_isReady 23 = .ok (.iload_n 2, 1) := by decide +kernel
theorem d_Y_isReady_24 : decode b_Y_isReady 24 = .ok (.iaload, 1) := by decide +kernel
theorem d_Y_isReady_25 : decode b_Y_isReady 25 = .ok (.ifCond .ne 5, 3) := by decide +kernel
theorem d_Y_isReady_28 : decode b_Y_isReady 28 = .ok (.iconst 0, 1) := by decide +kernel
theorem d_Y_isReady_29 : decode b_Y_isReady 29 = .ok (.ireturn, 1) := by decide +kernel
theorem d_Y_isReady_30 : decode b_Y_isReady 30 = .ok (.iload_n 1, 1) := by decide +kernel
end
section
theorem d_Y_isReady_31 : decode b_Y_isReady 31 = .ok (.ifCond .ne 12, 3) := by decide +kernel
theorem d_Y_isReady_34 : decode b_Y_isReady 34 = .ok (.aload_n 0, 1) := by decide +kernel
theorem d_Y_isReady_35 : decode b_Y_isReady 35 = .ok (.getfield 7, 3) := by decide +kernel
theorem d_Y_isReady_38 : decode b_Y_isReady 38 = .ok (.iload_n 2, 1) := by decide +kernel
theorem d_Y_isReady_39 : decode b_Y_isReady 39 = .ok (.baload, 1) := by decide +kernel
theorem d_Y_isReady_40 : decode b_Y_isReady 40 = .ok (.ifCond .eq 7, 3) := by decide +kernel
theorem d_Y_isReady_43 : decode b_Y_isReady 43 = .ok (.iconst 1, 1) := by decide +kernel
theorem d_Y_isReady_44 : decode b_Y_isReady 44 = .ok (.goto 4, 3) := by decide +kernel
theorem d_Y_isReady_47 : decode b_Y_isReady 47 = .ok (.iconst 0, 1) := by decide +kernel
theorem d_Y_isReady_48 : decode b_Y_isReady 48 = .ok (.istore_n 1, 1) := by decide +kernel
theorem d_Y_isReady_49 : decode b_Y_isReady 49 = .ok (.iinc 2 1, 3) := by decide +kernel
theorem d_Y_isReady_52 : decode b_Y_isReady 52 = .ok (.goto (-48), 3) := by decide +kernel
theorem d_Y_isReady_55 : decode b_Y_isReady 55 = .ok (.iload_n 1, 1) := by decide +kernel
theorem d_Y_isReady_56 : decode b_Y_isReady 56 = .ok (.ireturn, 1) := by decide +kernel
theorem d_Y_workBefore_0 : decode b_Y_workBefore 0 = .ok (.iconst 0, 1) := by decide +kernel
theorem d_Y_workBefore_1 : decode b_Y_workBefore 1 = .ok (.istore_n 3, 1) := by decide +kernel
theorem d_Y_workBefore_2 : decode b_Y_workBefore 2 = .ok (.iconst 0, 1) := by decide +kernel
theorem d_Y_workBefore_3 : decode b_Y_workBefore 3 = .ok (.istore 4, 2) := by decide +kernel
theorem d_Y_workBefore_5 : decode b_Y_workBefore 5 = .ok (.iload 4, 2) := by decide +kernel
theorem d_Y_workBefore_7 : decode b_Y_workBefore 7 = .ok (.iload_n 2, 1) := by decide +kernel
theorem d_Y_workBefore_8 : decode b_Y_workBefore 8 = .ok (.if_icmp .ge 24, 3) := by decide +kernel
theorem d_Y_workBefore_11 : decode b_Y_workBefore 11 = .ok (.iload_n 3, 1) := by decide +kernel
theorem d_Y_workBefore_12 : decode b_Y_workBefore 12 = .ok (.aload_n 0, 1) := by decide +kernel
theorem d_Y_workBefore_13 : decode b_Y_workBefore 13 = .ok (.getfield 26, 3) := by decide +kernel
theorem d_Y_workBefore_16 : decode b_Y_workBefore 16 = .ok (.bipush 8, 2) := by decide +kernel
theorem d_Y_workBefore_18 : decode b_Y_workBefore 18 = .ok (.iload_n 1, 1) := by decide +kernel
theorem d_Y_workBefore_19 : decode b_Y_workBefore 19 = .ok (.imul, 1) := by decide +kernel
theorem d_Y_workBefore_20 : decode b_Y_workBefore 20 = .ok (.iload 4, 2) := by decide +kernel
theorem d_Y_workBefore_22 : decode b_Y_workBefore 22 = .ok (.iadd, 1) := by decide +kernel
theorem d_Y_workBefore_23 : decode b_Y_workBefore 23 = .ok (.iaload, 1) := by decide +kernel
theorem d_Y_workBefore_24 : decode b_Y_workBefore 24 = .ok (.iadd, 1) := by decide +kernel
theorem d_Y_workBefore_25 : decode b_Y_workBefore 25 = .ok (.istore_n 3, 1) := by decide +kernel
theorem d_Y_workBefore_26 : decode b_Y_workBefore 26 = .ok (.iinc 4 1, 3) := by decide +kernel
theorem d_Y_workBefore_29 : decode b_Y_workBefore 29 = .ok (.goto (-24), 3) := by decide +kernel
theorem d_Y_workBefore_32 : decode b_Y_workBefore 32 = .ok (.iload_n 3, 1) := by decide +kernel
theorem d_Y_workBefore_33 : decode b_Y_workBefore 33 = .ok (.ireturn, 1) := by decide +kernel
theorem d_Y_work_0 : decode b_Y_work 0 = .ok (.aload_n 0, 1) := by decide +kernel
theorem d_Y_work_1 : decode b_Y_work 1 = .ok (.iload_n 1, 1) := by decide +kernel
theorem d_Y_work_2 : decode b_Y_work 2 = .ok (.aload_n 0, 1) := by decide +kernel
theorem d_Y_work_3 : decode b_Y_work 3 = .ok (.getfield 23, 3) := by decide +kernel
theorem d_Y_work_6 : decode b_Y_work 6 = .ok (.iload_n 1, 1) := by decide +kernel
theorem d_Y_work_7 : decode b_Y_work 7 = .ok (.iaload, 1) := by decide +kernel
theorem d_Y_work_8 : decode b_Y_work 8 = .ok (.invokevirtual 89, 3) := by decide +kernel
theorem d_Y_work_11 : decode b_Y_work 11 = .ok (.ireturn, 1) := by decide +kernel
theorem d_Y_longestOf_0 : decode b_Y_longestOf 0 = .ok (.iconst 0, 1) := by decide +kernel
theorem d_Y_longestOf_1 : decode b_Y_longestOf 1 = .ok (.istore_n 2, 1) := by decide +kernel
theorem d_Y_longestOf_2 : decode b_Y_longestOf 2 = .ok (.iconst 0, 1) := by decide +kernel
theorem d_Y_longestOf_3 : decode b_Y_longestOf 3 = .ok (.istore_n 3, 1) := by decide +kernel
theorem d_Y_longestOf_4 : decode b_Y_longestOf 4 = .ok (.iload_n 3, 1) := by decide +kernel
theorem d_Y_longestOf_5 : decode b_Y_longestOf 5 = .ok (.aload_n 0, 1) := by decide +kernel
theorem d_Y_longestOf_6 : decode b_Y_longestOf 6 = .ok (.getfield 23, 3) := by decide +kernel
theorem d_Y_longestOf_9 : decode b_Y_longestOf 9 = .ok (.iload_n 1, 1) := by decide +kernel
theorem d_Y_longestOf_10 : decode b_Y_longestOf 10 = .ok (.iaload, 1) := by decide +kernel
theorem d_Y_longestOf_11 : decode b_Y_longestOf 11 = .ok (.if_icmp .ge 40, 3) := by decide +kernel
theorem d_Y_longestOf_14 : decode b_Y_longestOf 14 = .ok (.aload_n 0, 1) := by decide +kernel
theorem d_Y_longestOf_15 : decode b_Y_longestOf 15 = .ok (.getfield 26, 3) := by decide +kernel
theorem d_Y_longestOf_18 : decode b_Y_longestOf 18 = .ok (.bipush 8, 2) := by decide +kernel
theorem d_Y_longestOf_20 : decode b_Y_longestOf 20 = .ok (.iload_n 1, 1) := by decide +kernel
theorem d_Y_longestOf_21 : decode b_Y_longestOf 21 = .ok (.imul, 1) := by decide +kernel
theorem d_Y_longestOf_22 : decode b_Y_longestOf 22 = .ok (.iload_n 3, 1) := by decide +kernel
theorem d_Y_longestOf_23 : decode b_Y_longestOf 23 = .ok (.iadd, 1) := by decide +kernel
theorem d_Y_longestOf_24 : decode b_Y_longestOf 24 = .ok (.iaload, 1) := by decide +kernel
theorem d_Y_longestOf_25 : decode b_Y_longestOf 25 = .ok (.iload_n 2, 1) := by decide +kernel
theorem d_Y_longestOf_26 : decode b_Y_longestOf 26 = .ok (.if_icmp .le 17, 3) := by decide +kernel
theorem d_Y_longestOf_29 : decode b_Y_longestOf 29 = .ok (.aload_n 0, 1) := by decide +kernel
theorem d_Y_longestOf_30 : decode b_Y_longestOf 30 = .ok (.getfield 26, 3) := by decide +kernel
theorem d_Y_longestOf_33 : decode b_Y_longestOf 33 = .ok (.bipush 8, 2) := by decide +kernel
theorem d_Y_longestOf_35 : decode b_Y_longestOf 35 = .ok (.iload_n 1, 1) := by decide +kernel
theorem d_Y_longestOf_36 : decode b_Y_longestOf 36 = .ok (.imul, 1) := by decide +kernel
theorem d_Y_longestOf_37 : decode b_Y_longestOf 37 = .ok (.iload_n 3, 1) := by decide +kernel
theorem d_Y_longestOf_38 : decode b_Y_longestOf 38 = .ok (.iadd, 1) := by decide +kernel
theorem d_Y_longestOf_39 : decode b_Y_longestOf 39 = .ok (.iaload, 1) := by decide +kernel
theorem d_Y_longestOf_40 : decode b_Y_longestOf 40 = .ok (.goto 4, 3) := by decide +kernel
theorem d_Y_longestOf_43 : decode b_Y_longestOf 43 = .ok (.iload_n 2, 1) := by decide +kernel
theorem d_Y_longestOf_44 : decode b_Y_longestOf 44 = .ok (.istore_n 2, 1) := by decide +kernel
theorem d_Y_longestOf_45 : decode b_Y_longestOf 45 = .ok (.iinc 3 1, 3) := by decide +kernel
theorem d_Y_longestOf_48 : decode b_Y_longestOf 48 = .ok (.goto (-44), 3) := by decide +kernel
theorem d_Y_longestOf_51 : decode b_Y_longestOf 51 = .ok (.iload_n 2, 1) := by decide +kernel
theorem d_Y_longestOf_52 : decode b_Y_longestOf 52 = .ok (.ireturn, 1) := by decide +kernel
theorem d_Y_longestBelow_0 : decode b_Y_longestBelow 0 = .ok (.iconst 0, 1) := by decide +kernel
theorem d_Y_longestBelow_1 : decode b_Y_longestBelow 1 = .ok (.istore_n 2, 1) := by decide +kernel
theorem d_Y_longestBelow_2 : decode b_Y_longestBelow 2 = .ok (.iconst 1, 1) := by decide +kernel
theorem d_Y_longestBelow_3 : decode b_Y_longestBelow 3 = .ok (.istore_n 3, 1) := by decide +kernel
theorem d_Y_longestBelow_4 : decode b_Y_longestBelow 4 = .ok (.iload_n 3, 1) := by decide +kernel
theorem d_Y_longestBelow_5 : decode b_Y_longestBelow 5 = .ok (.bipush 8, 2) := by decide +kernel
theorem d_Y_longestBelow_7 : decode b_Y_longestBelow 7 = .ok (.if_icmp .gt 48, 3) := by decide +kernel
theorem d_Y_longestBelow_10 : decode b_Y_longestBelow 10 = .ok (.aload_n 0, 1) := by decide +kernel
theorem d_Y_longestBelow_11 : decode b_Y_longestBelow 11 = .ok (.getfield 7, 3) := by decide +kernel
theorem d_Y_longestBelow_14 : decode b_Y_longestBelow 14 = .ok (.iload_n 3, 1) := by decide +kernel
theorem d_Y_longestBelow_15 : decode b_Y_longestBelow 15 = .ok (.baload, 1) := by decide +kernel
theorem d_Y_longestBelow_16 : decode b_Y_longestBelow 16 = .ok (.ifCond .eq 33, 3) := by decide +kernel
theorem d_Y_longestBelow_19 : decode b_Y_longestBelow 19 = .ok (.aload_n 0, 1) := by decide +kernel
theorem d_Y_longestBelow_20 : decode b_Y_longestBelow 20 = .ok (.getfield 20, 3) := by decide +kernel
theorem d_Y_longestBelow_23 : decode b_Y_longestBelow 23 = .ok (.iload_n 3, 1) := by decide +kernel
theorem d_Y_longestBelow_24 : decode b_Y_longestBelow 24 = .ok (.iaload, 1) := by decide +kernel
theorem d_Y_longestBelow_25 : decode b_Y_longestBelow 25 = .ok (.aload_n 0, 1) := by decide +kernel
theorem d_Y_longestBelow_26 : decode b_Y_longestBelow 26 = .ok (.getfield 20, 3) := by decide +kernel
theorem d_Y_longestBelow_29 : decode b_Y_longestBelow 29 = .ok (.iload_n 1, 1) := by decide +kernel
theorem d_Y_longestBelow_30 : decode b_Y_longestBelow 30 = .ok (.iaload, 1) := by decide +kernel
theorem d_Y_longestBelow_31 : decode b_Y_longestBelow 31 = .ok (.if_icmp .ge 18, 3) := by decide +kernel
theorem d_Y_longestBelow_34 : decode b_Y_longestBelow 34 = .ok (.aload_n 0, 1) := by decide +kernel
theorem d_Y_longestBelow_35 : decode b_Y_longestBelow 35 = .ok (.iload_n 3, 1) := by decide +kernel
theorem d_Y_longestBelow_36 : decode b_Y_longestBelow 36 = .ok (.invokevirtual 93, 3) := by decide +kernel
theorem d_Y_longestBelow_39 : decode b_Y_longestBelow 39 = .ok (.iload_n 2, 1) := by decide +kernel
theorem d_Y_longestBelow_40 : decode b_Y_longestBelow 40 = .ok (.if_icmp .le 9, 3) := by decide +kernel
theorem d_Y_longestBelow_43 : decode b_Y_longestBelow 43 = .ok (.aload_n 0, 1) := by decide +kernel
theorem d_Y_longestBelow_44 : decode b_Y_longestBelow 44 = .ok (.iload_n 3, 1) := by decide +kernel
theorem d_Y_longestBelow_45 : decode b_Y_longestBelow 45 = .ok (.invokevirtual 93, 3) := by decide +kernel
theorem d_Y_longestBelow_48 : decode b_Y_longestBelow 48 = .ok (.istore_n 2, 1) := by decide +kernel
theorem d_Y_longestBelow_49 : decode b_Y_longestBelow 49 = .ok (.iinc 3 1, 3) := by decide +kernel
theorem d_Y_longestBelow_52 : decode b_Y_longestBelow 52 = .ok (.goto (-48), 3) := by decide +kernel
theorem d_Y_longestBelow_55 : decode b_Y_longestBelow 55 = .ok (.iload_n 2, 1) := by decide +kernel
theorem d_Y_longestBelow_56 : decode b_Y_longestBelow 56 = .ok (.ireturn, 1) := by decide +kernel
theorem d_Y_blocking_0 : decode b_Y_blocking 0 = .ok (.aload_n 0, 1) := by decide +kernel
theorem d_Y_blocking_1 : decode b_Y_blocking 1 = .ok (.iload_n 1, 1) := by decide +kernel
theorem d_Y_blocking_2 : decode b_Y_blocking 2 = .ok (.invokevirtual 97, 3) := by decide +kernel
theorem d_Y_blocking_5 : decode b_Y_blocking 5 = .ok (.ifCond .ne 7, 3) := by decide +kernel
theorem d_Y_blocking_8 : decode b_Y_blocking 8 = .ok (.iconst 0, 1) := by decide +kernel
theorem d_Y_blocking_9 : decode b_Y_blocking 9 = .ok (.goto 10, 3) := by decide +kernel
theorem d_Y_blocking_12 : decode b_Y_blocking 12 = .ok (.aload_n 0, 1) := by decide +kernel
theorem d_Y_blocking_13 : decode b_Y_blocking 13 = .ok (.iload_n 1, 1) := by decide +kernel
theorem d_Y_blocking_14 : decode b_Y_blocking 14 = .ok (.invokevirtual 97, 3) := by decide +kernel
theorem d_Y_blocking_17 : decode b_Y_blocking 17 = .ok (.iconst 1, 1) := by decide +kernel
theorem d_Y_blocking_18 : decode b_Y_blocking 18 = .ok (.isub, 1) := by decide +kernel
theorem d_Y_blocking_19 : decode b_Y_blocking 19 = .ok (.ireturn, 1) := by decide +kernel
theorem d_Y_about_0 : decode b_Y_about 0 = .ok (.aload_n 0, 1) := by decide +kernel
theorem d_Y_about_1 : decode b_Y_about 1 = .ok (.iconst 0, 1) := by decide +kernel
theorem d_Y_about_2 : decode b_Y_about 2 = .ok (.putfield 62, 3) := by decide +kernel
theorem d_Y_about_5 : decode b_Y_about 5 = .ok (.aload_n 0, 1) := by decide +kernel
theorem d_Y_about_6 : decode b_Y_about 6 = .ok (.iload_n 1, 1) := by decide +kernel
theorem d_Y_about_7 : decode b_Y_about 7 = .ok (.invokevirtual 70, 3) := by decide +kernel
theorem d_Y_about_10 : decode b_Y_about 10 = .ok (.ifCond .ne 5, 3) := by decide +kernel
theorem d_Y_about_13 : decode b_Y_about 13 = .ok (.iconst (-1), 1) := by decide +kernel
theorem d_Y_about_14 : decode b_Y_about 14 = .ok (.ireturn, 1) := by decide +kernel
theorem d_Y_about_15 : decode b_Y_about 15 = .ok (.iload_n 2, 1) := by decide +kernel
theorem d_Y_about_16 : decode b_Y_about 16 = .ok (.tableswitch 80 0 5 #[40, 47, 54, 61, 68, 74], 40) := by decide +kernel
theorem d_Y_about_56 : decode b_Y_about 56 = .ok (.aload_n 0, 1) := by decide +kernel
theorem d_Y_about_57 : decode b_Y_about 57 = .ok (.getfield 13, 3) := by decide +kernel
theorem d_Y_about_60 : decode b_Y_about 60 = .ok (.iload_n 1, 1) := by decide +kernel
theorem d_Y_about_61 : decode b_Y_about 61 = .ok (.iaload, 1) := by decide +kernel
theorem d_Y_about_62 : decode b_Y_about 62 = .ok (.ireturn, 1) := by decide +kernel
theorem d_Y_about_63 : decode b_Y_about 63 = .ok (.aload_n 0, 1) := by decide +kernel
theorem d_Y_about_64 : decode b_Y_about 64 = .ok (.getfield 17, 3) := by decide +kernel
theorem d_Y_about_67 : decode b_Y_about 67 = .ok (.iload_n 1, 1) := by decide +kernel
theorem d_Y_about_68 : decode b_Y_about 68 = .ok (.iaload, 1) := by decide +kernel
theorem d_Y_about_69 : decode b_Y_about 69 = .ok (.ireturn, 1) := by decide +kernel
theorem d_Y_about_70 : decode b_Y_about 70 = .ok (.aload_n 0, 1) := by decide +kernel
theorem d_Y_about_71 : decode b_Y_about 71 = .ok (.getfield 20, 3) := by decide +kernel
theorem d_Y_about_74 : decode b_Y_about 74 = .ok (.iload_n 1, 1) := by decide +kernel
theorem d_Y_about_75 : decode b_Y_about 75 = .ok (.iaload, 1) := by decide +kernel
theorem d_Y_about_76 : decode b_Y_about 76 = .ok (.ireturn, 1) := by decide +kernel
theorem d_Y_about_77 : decode b_Y_about 77 = .ok (.aload_n 0, 1) := by decide +kernel
theorem d_Y_about_78 : decode b_Y_about 78 = .ok (.getfield 23, 3) := by decide +kernel
theorem d_Y_about_81 : decode b_Y_about 81 = .ok (.iload_n 1, 1) := by decide +kernel
theorem d_Y_about_82 : decode b_Y_about 82 = .ok (.iaload, 1) := by decide +kernel
theorem d_Y_about_83 : decode b_Y_about 83 = .ok (.ireturn, 1) := by decide +kernel
theorem d_Y_about_84 : decode b_Y_about 84 = .ok (.aload_n 0, 1) := by decide +kernel
theorem d_Y_about_85 : decode b_Y_about 85 = .ok (.iload_n 1, 1) := by decide +kernel
theorem d_Y_about_86 : decode b_Y_about 86 = .ok (.invokevirtual 100, 3) := by decide +kernel
theorem d_Y_about_89 : decode b_Y_about 89 = .ok (.ireturn, 1) := by decide +kernel
theorem d_Y_about_90 : decode b_Y_about 90 = .ok (.aload_n 0, 1) := by decide +kernel
theorem d_Y_about_91 : decode b_Y_about 91 = .ok (.iload_n 1, 1) := by decide +kernel
theorem d_Y_about_92 : decode b_Y_about 92 = .ok (.invokevirtual 103, 3) := by decide +kernel
theorem d_Y_about_95 : decode b_Y_about 95 = .ok (.ireturn, 1) := by decide +kernel
theorem d_Y_about_96 : decode b_Y_about 96 = .ok (.iload_n 2, 1) := by decide +kernel
theorem d_Y_about_97 : decode b_Y_about 97 = .ok (.bipush 10, 2) := by decide +kernel
theorem d_Y_about_99 : decode b_Y_about 99 = .ok (.if_icmp .lt 16, 3) := by decide +kernel
theorem d_Y_about_102 : decode b_Y_about 102 = .ok (.iload_n 2, 1) := by decide +kernel
theorem d_Y_about_103 : decode b_Y_about 103 = .ok (.bipush 10, 2) := by decide +kernel
theorem d_Y_about_105 : decode b_Y_about 105 = .ok (.aload_n 0, 1) := by decide +kernel
theorem d_Y_about_106 : decode b_Y_about 106 = .ok (.getfield 23, 3) := by decide +kernel
theorem d_Y_about_109 : decode b_Y_about 109 = .ok (.iload_n 1, 1) := by decide +kernel
theorem d_Y_about_110 : decode b_Y_about 110 = .ok (.iaload, 1) := by decide +kernel
theorem d_Y_about_111 : decode b_Y_about 111 = .ok (.iadd, 1) := by decide +kernel
theorem d_Y_about_112 : decode b_Y_about 112 = .ok (.if_icmp .lt 7, 3) := by decide +kernel
theorem d_Y_about_115 : decode b_Y_about 115 = .ok (.iconst (-1), 1) := by decide +kernel
theorem d_Y_about_116 : decode b_Y_about 116 = .ok (.goto 17, 3) := by decide +kernel
theorem d_Y_about_119 : decode b_Y_about 119 = .ok (.aload_n 0, 1) := by decide +kernel
theorem d_Y_about_120 : decode b_Y_about 120 = .ok (.getfield 26, 3) := by decide +kernel
theorem d_Y_about_123 : decode b_Y_about 123 = .ok (.bipush 8, 2) := by decide +kernel
theorem d_Y_about_125 : decode b_Y_about 125 = .ok (.iload_n 1, 1) := by decide +kernel
theorem d_Y_about_126 : decode b_Y_about 126 = .ok (.imul, 1) := by decide +kernel
theorem d_Y_about_127 : decode b_Y_about 127 = .ok (.iload_n 2, 1) := by decide +kernel
theorem d_Y_about_128 : decode b_Y_about 128 = .ok (.iadd, 1) := by decide +kernel
theorem d_Y_about_129 : decode b_Y_about 129 = .ok (.bipush 10, 2) := by decide +kernel
theorem d_Y_about_131 : decode b_Y_about 131 = .ok (.isub, 1) := by decide +kernel
theorem d_Y_about_132 : decode b_Y_about 132 = .ok (.iaload, 1) := by decide +kernel
theorem d_Y_about_133 : decode b_Y_about 133 = .ok (.ireturn, 1) := by decide +kernel
theorem d_Y_counts_0 : decode b_Y_counts 0 = .ok (.aload_n 0, 1) := by decide +kernel
theorem d_Y_counts_1 : decode b_Y_counts 1 = .ok (.getfield 7, 3) := by decide +kernel
theorem d_Y_counts_4 : decode b_Y_counts 4 = .ok (.iload_n 1, 1) := by decide +kernel
theorem d_Y_counts_5 : decode b_Y_counts 5 = .ok (.baload, 1) := by decide +kernel
theorem d_Y_counts_6 : decode b_Y_counts 6 = .ok (.ifCond .eq 22, 3) := by decide +kernel
theorem d_Y_counts_9 : decode b_Y_counts 9 = .ok (.aload_n 0, 1) := by decide +kernel
theorem d_Y_counts_10 : decode b_Y_counts 10 = .ok (.getfield 20, 3) := by decide +kernel
theorem d_Y_counts_13 : decode b_Y_counts 13 = .ok (.iload_n 1, 1) := by decide +kernel
theorem d_Y_counts_14 : decode b_Y_counts 14 = .ok (.iaload, 1) := by decide +kernel
theorem d_Y_counts_15 : decode b_Y_counts 15 = .ok (.aload_n 0, 1) := by decide +kernel
theorem d_Y_counts_16 : decode b_Y_counts 16 = .ok (.getfield 20, 3) := by decide +kernel
theorem d_Y_counts_19 : decode b_Y_counts 19 = .ok (.iload_n 2, 1) := by decide +kernel
theorem d_Y_counts_20 : decode b_Y_counts 20 = .ok (.iaload, 1) := by decide +kernel
theorem d_Y_counts_21 : decode b_Y_counts 21 = .ok (.if_icmp .lt 7, 3) := by decide +kernel
theorem d_Y_counts_24 : decode b_Y_counts 24 = .ok (.iconst 1, 1) := by decide +kernel
theorem d_Y_counts_25 : decode b_Y_counts 25 = .ok (.goto 4, 3) := by decide +kernel
theorem d_Y_counts_28 : decode b_Y_counts 28 = .ok (.iconst 0, 1) := by decide +kernel
theorem d_Y_counts_29 : decode b_Y_counts 29 = .ok (.ireturn, 1) := by decide +kernel
theorem d_Y_next_0 : decode b_Y_next 0 = .ok (.iconst 0, 1) := by decide +kernel
theorem d_Y_next_1 : decode b_Y_next 1 = .ok (.istore_n 2, 1) := by decide +kernel
theorem d_Y_next_2 : decode b_Y_next 2 = .ok (.iconst 1, 1) := by decide +kernel
theorem d_Y_next_3 : decode b_Y_next 3 = .ok (.istore_n 3, 1) := by decide +kernel
theorem d_Y_next_4 : decode b_Y_next 4 = .ok (.iload_n 3, 1) := by decide +kernel
theorem d_Y_next_5 : decode b_Y_next 5 = .ok (.bipush 8, 2) := by decide +kernel
theorem d_Y_next_7 : decode b_Y_next 7 = .ok (.if_icmp .gt 71, 3) := by decide +kernel
theorem d_Y_next_10 : decode b_Y_next 10 = .ok (.aload_n 0, 1) := by decide +kernel
theorem d_Y_next_11 : decode b_Y_next 11 = .ok (.iload_n 3, 1) := by decide +kernel
theorem d_Y_next_12 : decode b_Y_next 12 = .ok (.iload_n 1, 1) := by decide +kernel
theorem d_Y_next_13 : decode b_Y_next 13 = .ok (.invokevirtual 106, 3) := by decide +kernel
theorem d_Y_next_16 : decode b_Y_next 16 = .ok (.ifCond .eq 27, 3) := by decide +kernel
theorem d_Y_next_19 : decode b_Y_next 19 = .ok (.aload_n 0, 1) := by decide +kernel
theorem d_Y_next_20 : decode b_Y_next 20 = .ok (.getfield 29, 3) := by decide +kernel
theorem d_Y_next_23 : decode b_Y_next 23 = .ok (.iload_n 3, 1) := by decide +kernel
theorem d_Y_next_24 : decode b_Y_next 24 = .ok (.iaload, 1) := by decide +kernel
theorem d_Y_next_25 : decode b_Y_next 25 = .ok (.aload_n 0, 1) := by decide +kernel
theorem d_Y_next_26 : decode b_Y_next 26 = .ok (.getfield 13, 3) := by decide +kernel
theorem d_Y_next_29 : decode b_Y_next 29 = .ok (.iload_n 3, 1) := by decide +kernel
theorem d_Y_next_30 : decode b_Y_next 30 = .ok (.iaload, 1) := by decide +kernel
theorem d_Y_next_31 : decode b_Y_next 31 = .ok (.imul, 1) := by decide +kernel
theorem d_Y_next_32 : decode b_Y_next 32 = .ok (.aload_n 0, 1) := by decide +kernel
theorem d_Y_next_33 : decode b_Y_next 33 = .ok (.getfield 110, 3) := by decide +kernel
theorem d_Y_next_36 : decode b_Y_next 36 = .ok (.if_icmp .gt 7, 3) := by decide +kernel
theorem d_Y_next_39 : decode b_Y_next 39 = .ok (.iconst 1, 1) := by decide +kernel
theorem d_Y_next_40 : decode b_Y_next 40 = .ok (.goto 4, 3) := by decide +kernel
theorem d_Y_next_43 : decode b_Y_next 43 = .ok (.iconst 0, 1) := by decide +kernel
theorem d_Y_next_44 : decode b_Y_next 44 = .ok (.istore 4, 2) := by decide +kernel
theorem d_Y_next_46 : decode b_Y_next 46 = .ok (.iload 4, 2) := by decide +kernel
theorem d_Y_next_48 : decode b_Y_next 48 = .ok (.ifCond .eq 24, 3) := by decide +kernel
theorem d_Y_next_51 : decode b_Y_next 51 = .ok (.iload_n 2, 1) := by decide +kernel
theorem d_Y_next_52 : decode b_Y_next 52 = .ok (.ifCond .eq 18, 3) := by decide +kernel
theorem d_Y_next_55 : decode b_Y_next 55 = .ok (.aload_n 0, 1) := by decide +kernel
theorem d_Y_next_56 : decode b_Y_next 56 = .ok (.getfield 20, 3) := by decide +kernel
theorem d_Y_next_59 : decode b_Y_next 59 = .ok (.iload_n 3, 1) := by decide +kernel
theorem d_Y_next_60 : decode b_Y_next 60 = .ok (.iaload, 1) := by decide +kernel
theorem d_Y_next_61 : decode b_Y_next 61 = .ok (.aload_n 0, 1) := by decide +kernel
theorem d_Y_next_62 : decode b_Y_next 62 = .ok (.getfield 20, 3) := by decide +kernel
theorem d_Y_next_65 : decode b_Y_next 65 = .ok (.iload_n 2, 1) := by decide +kernel
theorem d_Y_next_66 : decode b_Y_next 66 = .ok (.iaload, 1) := by decide +kernel
theorem d_Y_next_67 : decode b_Y_next 67 = .ok (.if_icmp .le 5, 3) := by decide +kernel
theorem d_Y_next_70 : decode b_Y_next 70 = .ok (.iload_n 3, 1) := by decide +kernel
theorem d_Y_next_71 : decode b_Y_next 71 = .ok (.istore_n 2, 1) := by decide +kernel
theorem d_Y_next_72 : decode b_Y_next 72 = .ok (.iinc 3 1, 3) := by decide +kernel
theorem d_Y_next_75 : decode b_Y_next 75 = .ok (.goto (-71), 3) := by decide +kernel
theorem d_Y_next_78 : decode b_Y_next 78 = .ok (.iload_n 2, 1) := by decide +kernel
theorem d_Y_next_79 : decode b_Y_next 79 = .ok (.ireturn, 1) := by decide +kernel
theorem d_Y_isOver_0 : decode b_Y_isOver 0 = .ok (.iconst 1, 1) := by decide +kernel
theorem d_Y_isOver_1 : decode b_Y_isOver 1 = .ok (.istore_n 2, 1) := by decide +kernel
theorem d_Y_isOver_2 : decode b_Y_isOver 2 = .ok (.iload_n 2, 1) := by decide +kernel
theorem d_Y_isOver_3 : decode b_Y_isOver 3 = .ok (.bipush 8, 2) := by decide +kernel
theorem d_Y_isOver_5 : decode b_Y_isOver 5 = .ok (.if_icmp .gt 40, 3) := by decide +kernel
theorem d_Y_isOver_8 : decode b_Y_isOver 8 = .ok (.aload_n 0, 1) := by decide +kernel
theorem d_Y_isOver_9 : decode b_Y_isOver 9 = .ok (.iload_n 2, 1) := by decide +kernel
theorem d_Y_isOver_10 : decode b_Y_isOver 10 = .ok (.iload_n 1, 1) := by decide +kernel
theorem d_Y_isOver_11 : decode b_Y_isOver 11 = .ok (.invokevirtual 106, 3) := by decide +kernel
theorem d_Y_isOver_14 : decode b_Y_isOver 14 = .ok (.ifCond .eq 25, 3) := by decide +kernel
theorem d_Y_isOver_17 : decode b_Y_isOver 17 = .ok (.aload_n 0, 1) := by decide +kernel
theorem d_Y_isOver_18 : decode b_Y_isOver 18 = .ok (.getfield 29, 3) := by decide +kernel
theorem d_Y_isOver_21 : decode b_Y_isOver 21 = .ok (.iload_n 2, 1) := by decide +kernel
theorem d_Y_isOver_22 : decode b_Y_isOver 22 = .ok (.iaload, 1) := by decide +kernel
theorem d_Y_isOver_23 : decode b_Y_isOver 23 = .ok (.aload_n 0, 1) := by decide +kernel
theorem d_Y_isOver_24 : decode b_Y_isOver 24 = .ok (.getfield 13, 3) := by decide +kernel
theorem d_Y_isOver_27 : decode b_Y_isOver 27 = .ok (.iload_n 2, 1) := by decide +kernel
theorem d_Y_isOver_28 : decode b_Y_isOver 28 = .ok (.iaload, 1) := by decide +kernel
theorem d_Y_isOver_29 : decode b_Y_isOver 29 = .ok (.imul, 1) := by decide +kernel
theorem d_Y_isOver_30 : decode b_Y_isOver 30 = .ok (.aload_n 0, 1) := by decide +kernel
theorem d_Y_isOver_31 : decode b_Y_isOver 31 = .ok (.getfield 110, 3) := by decide +kernel
theorem d_Y_isOver_34 : decode b_Y_isOver 34 = .ok (.if_icmp .ge 5, 3) := by decide +kernel
theorem d_Y_isOver_37 : decode b_Y_isOver 37 = .ok (.iconst 0, 1) := by decide +kernel
theorem d_Y_isOver_38 : decode b_Y_isOver 38 = .ok (.ireturn, 1) := by decide +kernel
theorem d_Y_isOver_39 : decode b_Y_isOver 39 = .ok (.iinc 2 1, 3) := by decide +kernel
theorem d_Y_isOver_42 : decode b_Y_isOver 42 = .ok (.goto (-40), 3) := by decide +kernel
theorem d_Y_isOver_45 : decode b_Y_isOver 45 = .ok (.aload_n 0, 1) := by decide +kernel
theorem d_Y_isOver_46 : decode b_Y_isOver 46 = .ok (.getfield 110, 3) := by decide +kernel
theorem d_Y_isOver_49 : decode b_Y_isOver 49 = .ok (.ifCond .le 7, 3) := by decide +kernel
theorem d_Y_isOver_52 : decode b_Y_isOver 52 = .ok (.iconst 1, 1) := by decide +kernel
theorem d_Y_isOver_53 : decode b_Y_isOver 53 = .ok (.goto 4, 3) := by decide +kernel
theorem d_Y_isOver_56 : decode b_Y_isOver 56 = .ok (.iconst 0, 1) := by decide +kernel
theorem d_Y_isOver_57 : decode b_Y_isOver 57 = .ok (.ireturn, 1) := by decide +kernel
theorem d_Y_go_0 : decode b_Y_go 0 = .ok (.iconst 1, 1) := by decide +kernel
theorem d_Y_go_1 : decode b_Y_go 1 = .ok (.istore_n 3, 1) := by decide +kernel
theorem d_Y_go_2 : decode b_Y_go 2 = .ok (.iload_n 3, 1) := by decide +kernel
theorem d_Y_go_3 : decode b_Y_go 3 = .ok (.bipush 8, 2) := by decide +kernel
theorem d_Y_go_5 : decode b_Y_go 5 = .ok (.if_icmp .gt 23, 3) := by decide +kernel
theorem d_Y_go_8 : decode b_Y_go 8 = .ok (.aload_n 0, 1) := by decide +kernel
theorem d_Y_go_9 : decode b_Y_go 9 = .ok (.getfield 29, 3) := by decide +kernel
theorem d_Y_go_12 : decode b_Y_go 12 = .ok (.iload_n 3, 1) := by decide +kernel
theorem d_Y_go_13 : decode b_Y_go 13 = .ok (.iconst 0, 1) := by decide +kernel
theorem d_Y_go_14 : decode b_Y_go 14 = .ok (.iastore, 1) := by decide +kernel
theorem d_Y_go_15 : decode b_Y_go 15 = .ok (.aload_n 0, 1) := by decide +kernel
theorem d_Y_go_16 : decode b_Y_go 16 = .ok (.getfield 32, 3) := by decide +kernel
theorem d_Y_go_19 : decode b_Y_go 19 = .ok (.iload_n 3, 1) := by decide +kernel
theorem d_Y_go_20 : decode b_Y_go 20 = .ok (.iconst 0, 1) := by decide +kernel
theorem d_Y_go_21 : decode b_Y_go 21 = .ok (.iastore, 1) := by decide +kernel
theorem d_Y_go_22 : decode b_Y_go 22 = .ok (.iinc 3 1, 3) := by decide +kernel
theorem d_Y_go_25 : decode b_Y_go 25 = .ok (.goto (-23), 3) := by decide +kernel
theorem d_Y_go_28 : decode b_Y_go 28 = .ok (.aload_n 0, 1) := by decide +kernel
theorem d_Y_go_29 : decode b_Y_go 29 = .ok (.iload_n 2, 1) := by decide +kernel
theorem d_Y_go_30 : decode b_Y_go 30 = .ok (.putfield 110, 3) := by decide +kernel
theorem d_Y_go_33 : decode b_Y_go 33 = .ok (.aload_n 0, 1) := by decide +kernel
theorem d_Y_go_34 : decode b_Y_go 34 = .ok (.iconst 0, 1) := by decide +kernel
theorem d_Y_go_35 : decode b_Y_go 35 = .ok (.putfield 113, 3) := by decide +kernel
theorem d_Y_go_38 : decode b_Y_go 38 = .ok (.aload_n 0, 1) := by decide +kernel
theorem d_Y_go_39 : decode b_Y_go 39 = .ok (.iconst 0, 1) := by decide +kernel
theorem d_Y_go_40 : decode b_Y_go 40 = .ok (.putfield 116, 3) := by decide +kernel
theorem d_Y_go_43 : decode b_Y_go 43 = .ok (.aload_n 0, 1) := by decide +kernel
theorem d_Y_go_44 : decode b_Y_go 44 = .ok (.iconst (-1), 1) := by decide +kernel
theorem d_Y_go_45 : decode b_Y_go 45 = .ok (.putfield 119, 3) := by decide +kernel
theorem d_Y_go_48 : decode b_Y_go 48 = .ok (.aload_n 0, 1) := by decide +kernel
theorem d_Y_go_49 : decode b_Y_go 49 = .ok (.iconst 0, 1) := by decide +kernel
theorem d_Y_go_50 : decode b_Y_go 50 = .ok (.putfield 122, 3) := by decide +kernel
theorem d_Y_go_53 : decode b_Y_go 53 = .ok (.aload_n 0, 1) := by decide +kernel
theorem d_Y_go_54 : decode b_Y_go 54 = .ok (.iload_n 1, 1) := by decide +kernel
theorem d_Y_go_55 : decode b_Y_go 55 = .ok (.invokevirtual 125, 3) := by decide +kernel
theorem d_Y_go_58 : decode b_Y_go 58 = .ok (.ifCond .ne 172, 3) := by decide +kernel
theorem d_Y_go_61 : decode b_Y_go 61 = .ok (.aload_n 0, 1) := by decide +kernel
theorem d_Y_go_62 : decode b_Y_go 62 = .ok (.getfield 110, 3) := by decide +kernel
theorem d_Y_go_65 : decode b_Y_go 65 = .ok (.sipush 20000, 3) := by decide +kernel
theorem d_Y_go_68 : decode b_Y_go 68 = .ok (.if_icmp .le 9, 3) := by decide +kernel
theorem d_Y_go_71 : decode b_Y_go 71 = .ok (.aload_n 0, 1) := by decide +kernel
theorem d_Y_go_72 : decode b_Y_go 72 = .ok (.iconst 1, 1) := by decide +kernel
theorem d_Y_go_73 : decode b_Y_go 73 = .ok (.putfield 122, 3) := by decide +kernel
theorem d_Y_go_76 : decode b_Y_go 76 = .ok (.return_, 1) := by decide +kernel
theorem d_Y_go_77 : decode b_Y_go 77 = .ok (.aload_n 0, 1) := by decide +kernel
theorem d_Y_go_78 : decode b_Y_go 78 = .ok (.iload_n 1, 1) := by decide +kernel
theorem d_Y_go_79 : decode b_Y_go 79 = .ok (.invokevirtual 128, 3) := by decide +kernel
theorem d_Y_go_82 : decode b_Y_go 82 = .ok (.istore_n 3, 1) := by decide +kernel
theorem d_Y_go_83 : decode b_Y_go 83 = .ok (.aload_n 0, 1) := by decide +kernel
theorem d_Y_go_84 : decode b_Y_go 84 = .ok (.dup, 1) := by decide +kernel
theorem d_Y_go_85 : decode b_Y_go 85 = .ok (.getfield 110, 3) := by decide +kernel
theorem d_Y_go_88 : decode b_Y_go 88 = .ok (.aload_n 0, 1) := by decide +kernel
theorem d_Y_go_89 : decode b_Y_go 89 = .ok (.getfield 26, 3) := by decide +kernel
theorem d_Y_go_92 : decode b_Y_go 92 = .ok (.bipush 8, 2) := by decide +kernel
theorem d_Y_go_94 : decode b_Y_go 94 = .ok (.iload_n 3, 1) := by decide +kernel
theorem d_Y_go_95 : decode b_Y_go 95 = .ok (.imul, 1) := by decide +kernel
theorem d_Y_go_96 : decode b_Y_go 96 = .ok (.aload_n 0, 1) := by decide +kernel
theorem d_Y_go_97 : decode b_Y_go 97 = .ok (.getfield 32, 3) := by decide +kernel
theorem d_Y_go_100 : decode b_Y_go 100 = .ok (.iload_n 3, 1) := by decide +kernel
theorem d_Y_go_101 : decode b_Y_go 101 = .ok (.iaload, 1) := by decide +kernel
theorem d_Y_go_102 : decode b_Y_go 102 = .ok (.iadd, 1) := by decide +kernel
theorem d_Y_go_103 : decode b_Y_go 103 = .ok (.iaload, 1) := by decide +kernel
theorem d_Y_go_104 : decode b_Y_go 104 = .ok (.iadd, 1) := by decide +kernel
theorem d_Y_go_105 : decode b_Y_go 105 = .ok (.putfield 110, 3) := by decide +kernel
theorem d_Y_go_108 : decode b_Y_go 108 = .ok (.aload_n 0, 1) := by decide +kernel
theorem d_Y_go_109 : decode b_Y_go 109 = .ok (.getfield 32, 3) := by decide +kernel
theorem d_Y_go_112 : decode b_Y_go 112 = .ok (.iload_n 3, 1) := by decide +kernel
theorem d_Y_go_113 : decode b_Y_go 113 = .ok (.dup2, 1) := by decide +kernel
theorem d_Y_go_114 : decode b_Y_go 114 = .ok (.iaload, 1) := by decide +kernel
theorem d_Y_go_115 : decode b_Y_go 115 = .ok (.iconst 1, 1) := by decide +kernel
theorem d_Y_go_116 : decode b_Y_go 116 = .ok (.iadd, 1) := by decide +kernel
theorem d_Y_go_117 : decode b_Y_go 117 = .ok (.iastore, 1) := by decide +kernel
theorem d_Y_go_118 : decode b_Y_go 118 = .ok (.aload_n 0, 1) := by decide +kernel
theorem d_Y_go_119 : decode b_Y_go 119 = .ok (.getfield 32, 3) := by decide +kernel
theorem d_Y_go_122 : decode b_Y_go 122 = .ok (.iload_n 3, 1) := by decide +kernel
theorem d_Y_go_123 : decode b_Y_go 123 = .ok (.iaload, 1) := by decide +kernel
theorem d_Y_go_124 : decode b_Y_go 124 = .ok (.aload_n 0, 1) := by decide +kernel
theorem d_Y_go_125 : decode b_Y_go 125 = .ok (.getfield 23, 3) := by decide +kernel
theorem d_Y_go_128 : decode b_Y_go 128 = .ok (.iload_n 3, 1) := by decide +kernel
theorem d_Y_go_129 : decode b_Y_go 129 = .ok (.iaload, 1) := by decide +kernel
theorem d_Y_go_130 : decode b_Y_go 130 = .ok (.if_icmp .ge 6, 3) := by decide +kernel
theorem d_Y_go_133 : decode b_Y_go 133 = .ok (.goto (-80), 3) := by decide +kernel
theorem d_Y_go_136 : decode b_Y_go 136 = .ok (.aload_n 0, 1) := by decide +kernel
theorem d_Y_go_137 : decode b_Y_go 137 = .ok (.getfield 110, 3) := by decide +kernel
theorem d_Y_go_140 : decode b_Y_go 140 = .ok (.aload_n 0, 1) := by decide +kernel
theorem d_Y_go_141 : decode b_Y_go 141 = .ok (.getfield 29, 3) := by decide +kernel
theorem d_Y_go_144 : decode b_Y_go 144 = .ok (.iload_n 3, 1) := by decide +kernel
theorem d_Y_go_145 : decode b_Y_go 145 = .ok (.iaload, 1) := by decide +kernel
theorem d_Y_go_146 : decode b_Y_go 146 = .ok (.aload_n 0, 1) := by decide +kernel
theorem d_Y_go_147 : decode b_Y_go 147 = .ok (.getfield 13, 3) := by decide +kernel
theorem d_Y_go_150 : decode b_Y_go 150 = .ok (.iload_n 3, 1) := by decide +kernel
theorem d_Y_go_151 : decode b_Y_go 151 = .ok (.iaload, 1) := by decide +kernel
theorem d_Y_go_152 : decode b_Y_go 152 = .ok (.imul, 1) := by decide +kernel
theorem d_Y_go_153 : decode b_Y_go 153 = .ok (.isub, 1) := by decide +kernel
theorem d_Y_go_154 : decode b_Y_go 154 = .ok (.istore 4, 2) := by decide +kernel
theorem d_Y_go_156 : decode b_Y_go 156 = .ok (.iload_n 3, 1) := by decide +kernel
theorem d_Y_go_157 : decode b_Y_go 157 = .ok (.iload_n 1, 1) := by decide +kernel
theorem d_Y_go_158 : decode b_Y_go 158 = .ok (.if_icmp .ne 28, 3) := by decide +kernel
theorem d_Y_go_161 : decode b_Y_go 161 = .ok (.iload 4, 2) := by decide +kernel
theorem d_Y_go_163 : decode b_Y_go 163 = .ok (.aload_n 0, 1) := by decide +kernel
theorem d_Y_go_164 : decode b_Y_go 164 = .ok (.getfield 113, 3) := by decide +kernel
theorem d_Y_go_167 : decode b_Y_go 167 = .ok (.if_icmp .le 19, 3) := by decide +kernel
theorem d_Y_go_170 : decode b_Y_go 170 = .ok (.aload_n 0, 1) := by decide +kernel
theorem d_Y_go_171 : decode b_Y_go 171 = .ok (.iload 4, 2) := by decide +kernel
theorem d_Y_go_173 : decode b_Y_go 173 = .ok (.putfield 113, 3) := by decide +kernel
theorem d_Y_go_176 : decode b_Y_go 176 = .ok (.aload_n 0, 1) := by decide +kernel
theorem d_Y_go_177 : decode b_Y_go 177 = .ok (.aload_n 0, 1) := by decide +kernel
theorem d_Y_go_178 : decode b_Y_go 178 = .ok (.getfield 29, 3) := by decide +kernel
theorem d_Y_go_181 : decode b_Y_go 181 = .ok (.iload_n 3, 1) := by decide +kernel
theorem d_Y_go_182 : decode b_Y_go 182 = .ok (.iaload, 1) := by decide +kernel
theorem d_Y_go_183 : decode b_Y_go 183 = .ok (.putfield 116, 3) := by decide +kernel
theorem d_Y_go_186 : decode b_Y_go 186 = .ok (.iload_n 3, 1) := by decide +kernel
theorem d_Y_go_187 : decode b_Y_go 187 = .ok (.iload_n 1, 1) := by decide +kernel
theorem d_Y_go_188 : decode b_Y_go 188 = .ok (.if_icmp .ne 22, 3) := by decide +kernel
theorem d_Y_go_191 : decode b_Y_go 191 = .ok (.aload_n 0, 1) := by decide +kernel
theorem d_Y_go_192 : decode b_Y_go 192 = .ok (.getfield 29, 3) := by decide +kernel
theorem d_Y_go_195 : decode b_Y_go 195 = .ok (.iload_n 3, 1) := by decide +kernel
theorem d_Y_go_196 : decode b_Y_go 196 = .ok (.iaload, 1) := by decide +kernel
theorem d_Y_go_197 : decode b_Y_go 197 = .ok (.aload_n 0, 1) := by decide +kernel
theorem d_Y_go_198 : decode b_Y_go 198 = .ok (.getfield 131, 3) := by decide +kernel
theorem d_Y_go_201 : decode b_Y_go 201 = .ok (.if_icmp .ne 9, 3) := by decide +kernel
theorem d_Y_go_204 : decode b_Y_go 204 = .ok (.aload_n 0, 1) := by decide +kernel
theorem d_Y_go_205 : decode b_Y_go 205 = .ok (.iload 4, 2) := by decide +kernel
theorem d_Y_go_207 : decode b_Y_go 207 = .ok (.putfield 119, 3) := by decide +kernel
theorem d_Y_go_210 : decode b_Y_go 210 = .ok (.aload_n 0, 1) := by decide +kernel
theorem d_Y_go_211 : decode b_Y_go 211 = .ok (.getfield 32, 3) := by decide +kernel
theorem d_Y_go_214 : decode b_Y_go 214 = .ok (.iload_n 3, 1) := by decide +kernel
theorem d_Y_go_215 : decode b_Y_go 215 = .ok (.iconst 0, 1) := by decide +kernel
theorem d_Y_go_216 : decode b_Y_go 216 = .ok (.iastore, 1) := by decide +kernel
theorem d_Y_go_217 : decode b_Y_go 217 = .ok (.aload_n 0, 1) := by decide +kernel
theorem d_Y_go_218 : decode b_Y_go 218 = .ok (.getfield 29, 3) := by decide +kernel
theorem d_Y_go_221 : decode b_Y_go 221 = .ok (.iload_n 3, 1) := by decide +kernel
theorem d_Y_go_222 : decode b_Y_go 222 = .ok (.dup2, 1) := by decide +kernel
theorem d_Y_go_223 : decode b_Y_go 223 = .ok (.iaload, 1) := by decide +kernel
theorem d_Y_go_224 : decode b_Y_go 224 = .ok (.iconst 1, 1) := by decide +kernel
theorem d_Y_go_225 : decode b_Y_go 225 = .ok (.iadd, 1) := by decide +kernel
theorem d_Y_go_226 : decode b_Y_go 226 = .ok (.iastore, 1) := by decide +kernel
theorem d_Y_go_227 : decode b_Y_go 227 = .ok (.goto (-174), 3) := by decide +kernel
theorem d_Y_go_230 : decode b_Y_go 230 = .ok (.aload_n 0, 1) := by decide +kernel
theorem d_Y_go_231 : decode b_Y_go 231 = .ok (.aload_n 0, 1) := by decide +kernel
theorem d_Y_go_232 : decode b_Y_go 232 = .ok (.getfield 110, 3) := by decide +kernel
theorem d_Y_go_235 : decode b_Y_go 235 = .ok (.sipush 20000, 3) := by decide +kernel
theorem d_Y_go_238 : decode b_Y_go 238 = .ok (.if_icmp .le 7, 3) := by decide +kernel
theorem d_Y_go_241 : decode b_Y_go 241 = .ok (.iconst 1, 1) := by decide +kernel
theorem d_Y_go_242 : decode b_Y_go 242 = .ok (.goto 4, 3) := by decide +kernel
theorem d_Y_go_245 : decode b_Y_go 245 = .ok (.iconst 0, 1) := by decide +kernel
theorem d_Y_go_246 : decode b_Y_go 246 = .ok (.putfield 122, 3) := by decide +kernel
theorem d_Y_go_249 : decode b_Y_go 249 = .ok (.return_, 1) := by decide +kernel
theorem d_Y_highest_0 : decode b_Y_highest 0 = .ok (.iconst 0, 1) := by decide +kernel
theorem d_Y_highest_1 : decode b_Y_highest 1 = .ok (.istore_n 2, 1) := by decide +kernel
theorem d_Y_highest_2 : decode b_Y_highest 2 = .ok (.iconst 1, 1) := by decide +kernel
theorem d_Y_highest_3 : decode b_Y_highest 3 = .ok (.istore_n 3, 1) := by decide +kernel
theorem d_Y_highest_4 : decode b_Y_highest 4 = .ok (.iload_n 3, 1) := by decide +kernel
theorem d_Y_highest_5 : decode b_Y_highest 5 = .ok (.bipush 8, 2) := by decide +kernel
theorem d_Y_highest_7 : decode b_Y_highest 7 = .ok (.if_icmp .gt 49, 3) := by decide +kernel
theorem d_Y_highest_10 : decode b_Y_highest 10 = .ok (.aload_n 0, 1) := by decide +kernel
theorem d_Y_highest_11 : decode b_Y_highest 11 = .ok (.getfield 7, 3) := by decide +kernel
theorem d_Y_highest_14 : decode b_Y_highest 14 = .ok (.iload_n 3, 1) := by decide +kernel
theorem d_Y_highest_15 : decode b_Y_highest 15 = .ok (.baload, 1) := by decide +kernel
theorem d_Y_highest_16 : decode b_Y_highest 16 = .ok (.ifCond .eq 34, 3) := by decide +kernel
theorem d_Y_highest_19 : decode b_Y_highest 19 = .ok (.aload_n 0, 1) := by decide +kernel
theorem d_Y_highest_20 : decode b_Y_highest 20 = .ok (.getfield 20, 3) := by decide +kernel
theorem d_Y_highest_23 : decode b_Y_highest 23 = .ok (.iload_n 3, 1) := by decide +kernel
theorem d_Y_highest_24 : decode b_Y_highest 24 = .ok (.iaload, 1) := by decide +kernel
theorem d_Y_highest_25 : decode b_Y_highest 25 = .ok (.iload_n 1, 1) := by decide +kernel
theorem d_Y_highest_26 : decode b_Y_highest 26 = .ok (.if_icmp .ge 24, 3) := by decide +kernel
theorem d_Y_highest_29 : decode b_Y_highest 29 = .ok (.iload_n 2, 1) := by decide +kernel
theorem d_Y_highest_30 : decode b_Y_highest 30 = .ok (.ifCond .eq 18, 3) := by decide +kernel
theorem d_Y_highest_33 : decode b_Y_highest 33 = .ok (.aload_n 0, 1) := by decide +kernel
theorem d_Y_highest_34 : decode b_Y_highest 34 = .ok (.getfield 20, 3) := by decide +kernel
theorem d_Y_highest_37 : decode b_Y_highest 37 = .ok (.iload_n 3, 1) := by decide +kernel
theorem d_Y_highest_38 : decode b_Y_highest 38 = .ok (.iaload, 1) := by decide +kernel
theorem d_Y_highest_39 : decode b_Y_highest 39 = .ok (.aload_n 0, 1) := by decide +kernel
theorem d_Y_highest_40 : decode b_Y_highest 40 = .ok (.getfield 20, 3) := by decide +kernel
theorem d_Y_highest_43 : decode b_Y_highest 43 = .ok (.iload_n 2, 1) := by decide +kernel
theorem d_Y_highest_44 : decode b_Y_highest 44 = .ok (.iaload, 1) := by decide +kernel
theorem d_Y_highest_45 : decode b_Y_highest 45 = .ok (.if_icmp .le 5, 3) := by decide +kernel
theorem d_Y_highest_48 : decode b_Y_highest 48 = .ok (.iload_n 3, 1) := by decide +kernel
theorem d_Y_highest_49 : decode b_Y_highest 49 = .ok (.istore_n 2, 1) := by decide +kernel
theorem d_Y_highest_50 : decode b_Y_highest 50 = .ok (.iinc 3 1, 3) := by decide +kernel
theorem d_Y_highest_53 : decode b_Y_highest 53 = .ok (.goto (-49), 3) := by decide +kernel
theorem d_Y_highest_56 : decode b_Y_highest 56 = .ok (.iload_n 2, 1) := by decide +kernel
theorem d_Y_highest_57 : decode b_Y_highest 57 = .ok (.ireturn, 1) := by decide +kernel
theorem d_Y_admitted_0 : decode b_Y_admitted 0 = .ok (.aload_n 0, 1) := by decide +kernel
theorem d_Y_admitted_1 : decode b_Y_admitted 1 = .ok (.bipush 100, 2) := by decide +kernel
theorem d_Y_admitted_3 : decode b_Y_admitted 3 = .ok (.invokevirtual 134, 3) := by decide +kernel
theorem d_Y_admitted_6 : decode b_Y_admitted 6 = .ok (.istore_n 1, 1) := by decide +kernel
theorem d_Y_admitted_7 : decode b_Y_admitted 7 = .ok (.iload_n 1, 1) := by decide +kernel
theorem d_Y_admitted_8 : decode b_Y_admitted 8 = .ok (.ifCond .eq 56, 3) := by decide +kernel
theorem d_Y_admitted_11 : decode b_Y_admitted 11 = .ok (.aload_n 0, 1) := by decide +kernel
theorem d_Y_admitted_12 : decode b_Y_admitted 12 = .ok (.iload_n 1, 1) := by decide +kernel
theorem d_Y_admitted_13 : decode b_Y_admitted 13 = .ok (.aload_n 0, 1) := by decide +kernel
theorem d_Y_admitted_14 : decode b_Y_admitted 14 = .ok (.iload_n 1, 1) := by decide +kernel
theorem d_Y_admitted_15 : decode b_Y_admitted 15 = .ok (.invokevirtual 103, 3) := by decide +kernel
theorem d_Y_admitted_18 : decode b_Y_admitted 18 = .ok (.invokevirtual 137, 3) := by decide +kernel
theorem d_Y_admitted_21 : decode b_Y_admitted 21 = .ok (.aload_n 0, 1) := by decide +kernel
theorem d_Y_admitted_22 : decode b_Y_admitted 22 = .ok (.getfield 122, 3) := by decide +kernel
theorem d_Y_admitted_25 : decode b_Y_admitted 25 = .ok (.ifCond .eq 9, 3) := by decide +kernel
theorem d_Y_admitted_28 : decode b_Y_admitted 28 = .ok (.iload_n 1, 1) := by decide +kernel
theorem d_Y_admitted_29 : decode b_Y_admitted 29 = .ok (.ineg, 1) := by decide +kernel
theorem d_Y_admitted_30 : decode b_Y_admitted 30 = .ok (.bipush 100, 2) := by decide +kernel
theorem d_Y_admitted_32 : decode b_Y_admitted 32 = .ok (.isub, 1) := by decide +kernel
theorem d_Y_admitted_33 : decode b_Y_admitted 33 = .ok (.ireturn, 1) := by decide +kernel
theorem d_Y_admitted_34 : decode b_Y_admitted 34 = .ok (.aload_n 0, 1) := by decide +kernel
theorem d_Y_admitted_35 : decode b_Y_admitted 35 = .ok (.getfield 113, 3) := by decide +kernel
theorem d_Y_admitted_38 : decode b_Y_admitted 38 = .ok (.aload_n 0, 1) := by decide +kernel
theorem d_Y_admitted_39 : decode b_Y_admitted 39 = .ok (.getfield 17, 3) := by decide +kernel
theorem d_Y_admitted_42 : decode b_Y_admitted 42 = .ok (.iload_n 1, 1) := by decide +kernel
theorem d_Y_admitted_43 : decode b_Y_admitted 43 = .ok (.iaload, 1) := by decide +kernel
theorem d_Y_admitted_44 : decode b_Y_admitted 44 = .ok (.if_icmp .le 6, 3) := by decide +kernel
theorem d_Y_admitted_47 : decode b_Y_admitted 47 = .ok (.iload_n 1, 1) := by decide +kernel
theorem d_Y_admitted_48 : decode b_Y_admitted 48 = .ok (.ineg, 1) := by decide +kernel
theorem d_Y_admitted_49 : decode b_Y_admitted 49 = .ok (.ireturn, 1) := by decide +kernel
theorem d_Y_admitted_50 : decode b_Y_admitted 50 = .ok (.aload_n 0, 1) := by decide +kernel
theorem d_Y_admitted_51 : decode b_Y_admitted 51 = .ok (.aload_n 0, 1) := by decide +kernel
theorem d_Y_admitted_52 : decode b_Y_admitted 52 = .ok (.getfield 20, 3) := by decide +kernel
theorem d_Y_admitted_55 : decode b_Y_admitted 55 = .ok (.iload_n 1, 1) := by decide +kernel
theorem d_Y_admitted_56 : decode b_Y_admitted 56 = .ok (.iaload, 1) := by decide +kernel
theorem d_Y_admitted_57 : decode b_Y_admitted 57 = .ok (.invokevirtual 134, 3) := by decide +kernel
theorem d_Y_admitted_60 : decode b_Y_admitted 60 = .ok (.istore_n 1, 1) := by decide +kernel
theorem d_Y_admitted_61 : decode b_Y_admitted 61 = .ok (.goto (-54), 3) := by decide +kernel
theorem d_Y_admitted_64 : decode b_Y_admitted 64 = .ok (.iconst 1, 1) := by decide +kernel
theorem d_Y_admitted_65 : decode b_Y_admitted 65 = .ok (.ireturn, 1) := by decide +kernel
theorem d_Y_admit_0 : decode b_Y_admit 0 = .ok (.aload_n 0, 1) := by decide +kernel
theorem d_Y_admit_1 : decode b_Y_admit 1 = .ok (.invokevirtual 141, 3) := by decide +kernel
theorem d_Y_admit_4 : decode b_Y_admit 4 = .ok (.ifCond .ne 9, 3) := by decide +kernel
theorem d_Y_admit_7 : decode b_Y_admit 7 = .ok (.aload_n 0, 1) := by decide +kernel
theorem d_Y_admit_8 : decode b_Y_admit 8 = .ok (.iconst 1, 1) := by decide +kernel
theorem d_Y_admit_9 : decode b_Y_admit 9 = .ok (.invokevirtual 145, 3) := by decide +kernel
theorem d_Y_admit_12 : decode b_Y_admit 12 = .ok (.ireturn, 1) := by decide +kernel
theorem d_Y_admit_13 : decode b_Y_admit 13 = .ok (.aload_n 0, 1) := by decide +kernel
theorem d_Y_admit_14 : decode b_Y_admit 14 = .ok (.iconst 0, 1) := by decide +kernel
theorem d_Y_admit_15 : decode b_Y_admit 15 = .ok (.putfield 62, 3) := by decide +kernel
theorem d_Y_admit_18 : decode b_Y_admit 18 = .ok (.aload_n 0, 1) := by decide +kernel
theorem d_Y_admit_19 : decode b_Y_admit 19 = .ok (.invokevirtual 148, 3) := by decide +kernel
theorem d_Y_admit_22 : decode b_Y_admit 22 = .ok (.ireturn, 1) := by decide +kernel
theorem d_Y_asks_0 : decode b_Y_asks 0 = .ok (.aload_n 0, 1) := by decide +kernel
theorem d_Y_asks_1 : decode b_Y_asks 1 = .ok (.aload_n 0, 1) := by decide +kernel
theorem d_Y_asks_2 : decode b_Y_asks 2 = .ok (.iload_n 1, 1) := by decide +kernel
theorem d_Y_asks_3 : decode b_Y_asks 3 = .ok (.invokevirtual 70, 3) := by decide +kernel
theorem d_Y_asks_6 : decode b_Y_asks 6 = .ok (.ifCond .ne 7, 3) := by decide +kernel
theorem d_Y_asks_9 : decode b_Y_asks 9 = .ok (.iconst 1, 1) := by decide +kernel
theorem d_Y_asks_10 : decode b_Y_asks 10 = .ok (.goto 15, 3) := by decide +kernel
theorem d_Y_asks_13 : decode b_Y_asks 13 = .ok (.aload_n 0, 1) := by decide +kernel
theorem d_Y_asks_14 : decode b_Y_asks 14 = .ok (.invokevirtual 141, 3) := by decide +kernel
theorem d_Y_asks_17 : decode b_Y_asks 17 = .ok (.ifCond .ne 7, 3) := by decide +kernel
theorem d_Y_asks_20 : decode b_Y_asks 20 = .ok (.iconst 2, 1) := by decide +kernel
theorem d_Y_asks_21 : decode b_Y_asks 21 = .ok (.goto 4, 3) := by decide +kernel
theorem d_Y_asks_24 : decode b_Y_asks 24 = .ok (.iconst 0, 1) := by decide +kernel
theorem d_Y_asks_25 : decode b_Y_asks 25 = .ok (.putfield 62, 3) := by decide +kernel
theorem d_Y_asks_28 : decode b_Y_asks 28 = .ok (.aload_n 0, 1) := by decide +kernel
theorem d_Y_asks_29 : decode b_Y_asks 29 = .ok (.getfield 62, 3) := by decide +kernel
theorem d_Y_asks_32 : decode b_Y_asks 32 = .ok (.ifCond .eq 5, 3) := by decide +kernel
theorem d_Y_asks_35 : decode b_Y_asks 35 = .ok (.iconst 0, 1) := by decide +kernel
theorem d_Y_asks_36 : decode b_Y_asks 36 = .ok (.ireturn, 1) := by decide +kernel
theorem d_Y_asks_37 : decode b_Y_asks 37 = .ok (.aload_n 0, 1) := by decide +kernel
theorem d_Y_asks_38 : decode b_Y_asks 38 = .ok (.iload_n 1, 1) := by decide +kernel
theorem d_Y_asks_39 : decode b_Y_asks 39 = .ok (.aload_n 0, 1) := by decide +kernel
theorem d_Y_asks_40 : decode b_Y_asks 40 = .ok (.iload_n 1, 1) := by decide +kernel
theorem d_Y_asks_41 : decode b_Y_asks 41 = .ok (.invokevirtual 103, 3) := by decide +kernel
theorem d_Y_asks_44 : decode b_Y_asks 44 = .ok (.invokevirtual 137, 3) := by decide +kernel
theorem d_Y_asks_47 : decode b_Y_asks 47 = .ok (.aload_n 0, 1) := by decide +kernel
theorem d_Y_asks_48 : decode b_Y_asks 48 = .ok (.aload_n 0, 1) := by decide +kernel
theorem d_Y_asks_49 : decode b_Y_asks 49 = .ok (.getfield 122, 3) := by decide +kernel
theorem d_Y_asks_52 : decode b_Y_asks 52 = .ok (.ifCond .eq 7, 3) := by decide +kernel
theorem d_Y_asks_55 : decode b_Y_asks 55 = .ok (.iconst 3, 1) := by decide +kernel
theorem d_Y_asks_56 : decode b_Y_asks 56 = .ok (.goto 4, 3) := by decide +kernel
theorem d_Y_asks_59 : decode b_Y_asks 59 = .ok (.iconst 0, 1) := by decide +kernel
theorem d_Y_asks_60 : decode b_Y_asks 60 = .ok (.putfield 62, 3) := by decide +kernel
theorem d_Y_asks_63 : decode b_Y_asks 63 = .ok (.aload_n 0, 1) := by decide +kernel
theorem d_Y_asks_64 : decode b_Y_asks 64 = .ok (.getfield 122, 3) := by decide +kernel
theorem d_Y_asks_67 : decode b_Y_asks 67 = .ok (.ifCond .ne 7, 3) := by decide +kernel
theorem d_Y_asks_70 : decode b_Y_asks 70 = .ok (.iconst 1, 1) := by decide +kernel
theorem d_Y_asks_71 : decode b_Y_asks 71 = .ok (.goto 4, 3) := by decide +kernel
theorem d_Y_asks_74 : decode b_Y_asks 74 = .ok (.iconst 0, 1) := by decide +kernel
theorem d_Y_asks_75 : decode b_Y_asks 75 = .ok (.ireturn, 1) := by decide +kernel
theorem d_Y_response_0 : decode b_Y_response 0 = .ok (.aload_n 0, 1) := by decide +kernel
theorem d_Y_response_1 : decode b_Y_response 1 = .ok (.iload_n 1, 1) := by decide +kernel
theorem d_Y_response_2 : decode b_Y_response 2 = .ok (.invokevirtual 152, 3) := by decide +kernel
theorem d_Y_response_5 : decode b_Y_response 5 = .ok (.ifCond .eq 10, 3) := by decide +kernel
theorem d_Y_response_8 : decode b_Y_response 8 = .ok (.aload_n 0, 1) := by decide +kernel
theorem d_Y_response_9 : decode b_Y_response 9 = .ok (.getfield 113, 3) := by decide +kernel
theorem d_Y_response_12 : decode b_Y_response 12 = .ok (.goto 4, 3) := by decide +kernel
theorem d_Y_response_15 : decode b_Y_response 15 = .ok (.iconst 0, 1) := by decide +kernel
theorem d_Y_response_16 : decode b_Y_response 16 = .ok (.ireturn, 1) := by decide +kernel
theorem d_Y_job_0 : decode b_Y_job 0 = .ok (.aload_n 0, 1) := by decide +kernel
theorem d_Y_job_1 : decode b_Y_job 1 = .ok (.iload_n 2, 1) := by decide +kernel
theorem d_Y_job_2 : decode b_Y_job 2 = .ok (.putfield 131, 3) := by decide +kernel
theorem d_Y_job_5 : decode b_Y_job 5 = .ok (.aload_n 0, 1) := by decide +kernel
theorem d_Y_job_6 : decode b_Y_job 6 = .ok (.iload_n 1, 1) := by decide +kernel
theorem d_Y_job_7 : decode b_Y_job 7 = .ok (.invokevirtual 152, 3) := by decide +kernel
theorem d_Y_job_10 : decode b_Y_job 10 = .ok (.ifCond .eq 10, 3) := by decide +kernel
theorem d_Y_job_13 : decode b_Y_job 13 = .ok (.aload_n 0, 1) := by decide +kernel
theorem d_Y_job_14 : decode b_Y_job 14 = .ok (.getfield 119, 3) := by decide +kernel
theorem d_Y_job_17 : decode b_Y_job 17 = .ok (.goto 4, 3) := by decide +kernel
theorem d_Y_job_20 : decode b_Y_job 20 = .ok (.iconst 0, 1) := by decide +kernel
theorem d_Y_job_21 : decode b_Y_job 21 = .ok (.istore_n 3, 1) := by decide +kernel
theorem d_Y_job_22 : decode b_Y_job 22 = .ok (.aload_n 0, 1) := by decide +kernel
theorem d_Y_job_23 : decode b_Y_job 23 = .ok (.iconst (-1), 1) := by decide +kernel
theorem d_Y_job_24 : decode b_Y_job 24 = .ok (.putfield 131, 3) := by decide +kernel
theorem d_Y_job_27 : decode b_Y_job 27 = .ok (.iload_n 3, 1) := by decide +kernel
theorem d_Y_job_28 : decode b_Y_job 28 = .ok (.ireturn, 1) := by decide +kernel
theorem d_Y_tolerates_0 : decode b_Y_tolerates 0 = .ok (.iconst 0, 1) := by decide +kernel
theorem d_Y_tolerates_1 : decode b_Y_tolerates 1 = .ok (.istore_n 2, 1) := by decide +kernel
theorem d_Y_tolerates_2 : decode b_Y_tolerates 2 = .ok (.iconst 1, 1) := by decide +kernel
theorem d_Y_tolerates_3 : decode b_Y_tolerates 3 = .ok (.istore_n 3, 1) := by decide +kernel
theorem d_Y_tolerates_4 : decode b_Y_tolerates 4 = .ok (.iload_n 3, 1) := by decide +kernel
theorem d_Y_tolerates_5 : decode b_Y_tolerates 5 = .ok (.ifCond .eq 55, 3) := by decide +kernel
theorem d_Y_tolerates_8 : decode b_Y_tolerates 8 = .ok (.iload_n 2, 1) := by decide +kernel
theorem d_Y_tolerates_9 : decode b_Y_tolerates 9 = .ok (.aload_n 0, 1) := by decide +kernel
theorem d_Y_tolerates_10 : decode b_Y_tolerates 10 = .ok (.getfield 17, 3) := by decide +kernel
theorem d_Y_tolerates_13 : decode b_Y_tolerates 13 = .ok (.iload_n 1, 1) := by decide +kernel
theorem d_Y_tolerates_14 : decode b_Y_tolerates 14 = .ok (.iaload, 1) := by decide +kernel
theorem d_Y_tolerates_15 : decode b_Y_tolerates 15 = .ok (.if_icmp .gt 45, 3) := by decide +kernel
theorem d_Y_tolerates_18 : decode b_Y_tolerates 18 = .ok (.aload_n 0, 1) := by decide +kernel
theorem d_Y_tolerates_19 : decode b_Y_tolerates 19 = .ok (.iload_n 1, 1) := by decide +kernel
theorem d_Y_tolerates_20 : decode b_Y_tolerates 20 = .ok (.iload_n 2, 1) := by decide +kernel
theorem d_Y_tolerates_21 : decode b_Y_tolerates 21 = .ok (.invokevirtual 137, 3) := by decide +kernel
theorem d_Y_tolerates_24 : decode b_Y_tolerates 24 = .ok (.aload_n 0, 1) := by decide +kernel
theorem d_Y_tolerates_25 : decode b_Y_tolerates 25 = .ok (.getfield 122, 3) := by decide +kernel
theorem d_Y_tolerates_28 : decode b_Y_tolerates 28 = .ok (.ifCond .ne 20, 3) := by decide +kernel
theorem d_Y_tolerates_31 : decode b_Y_tolerates 31 = .ok (.aload_n 0, 1) := by decide +kernel
theorem d_Y_tolerates_32 : decode b_Y_tolerates 32 = .ok (.getfield 113, 3) := by decide +kernel
theorem d_Y_tolerates_35 : decode b_Y_tolerates 35 = .ok (.aload_n 0, 1) := by decide +kernel
theorem d_Y_tolerates_36 : decode b_Y_tolerates 36 = .ok (.getfield 17, 3) := by decide +kernel
theorem d_Y_tolerates_39 : decode b_Y_tolerates 39 = .ok (.iload_n 1, 1) := by decide +kernel
theorem d_Y_tolerates_40 : decode b_Y_tolerates 40 = .ok (.iaload, 1) := by decide +kernel
theorem d_Y_tolerates_41 : decode b_Y_tolerates 41 = .ok (.if_icmp .gt 7, 3) := by decide +kernel
theorem d_Y_tolerates_44 : decode b_Y_tolerates 44 = .ok (.iconst 1, 1) := by decide +kernel
theorem d_Y_tolerates_45 : decode b_Y_tolerates 45 = .ok (.goto 4, 3) := by decide +kernel
theorem d_Y_tolerates_48 : decode b_Y_tolerates 48 = .ok (.iconst 0, 1) := by decide +kernel
theorem d_Y_tolerates_49 : decode b_Y_tolerates 49 = .ok (.istore_n 3, 1) := by decide +kernel
theorem d_Y_tolerates_50 : decode b_Y_tolerates 50 = .ok (.iload_n 3, 1) := by decide +kernel
theorem d_Y_tolerates_51 : decode b_Y_tolerates 51 = .ok (.ifCond .eq (-47), 3) := by decide +kernel
theorem d_Y_tolerates_54 : decode b_Y_tolerates 54 = .ok (.iinc 2 1, 3) := by decide +kernel
theorem d_Y_tolerates_57 : decode b_Y_tolerates 57 = .ok (.goto (-53), 3) := by decide +kernel
theorem d_Y_tolerates_60 : decode b_Y_tolerates 60 = .ok (.iload_n 2, 1) := by decide +kernel
theorem d_Y_tolerates_61 : decode b_Y_tolerates 61 = .ok (.iconst 1, 1) := by decide +kernel
theorem d_Y_tolerates_62 : decode b_Y_tolerates 62 = .ok (.isub, 1) := by decide +kernel
theorem d_Y_tolerates_63 : decode b_Y_tolerates 63 = .ok (.ireturn, 1) := by decide +kernel
theorem d_Y_tolerance_0 : decode b_Y_tolerance 0 = .ok (.aload_n 0, 1) := by decide +kernel
theorem d_Y_tolerance_1 : decode b_Y_tolerance 1 = .ok (.aload_n 0, 1) := by decide +kernel
theorem d_Y_tolerance_2 : decode b_Y_tolerance 2 = .ok (.iload_n 1, 1) := by decide +kernel
theorem d_Y_tolerance_3 : decode b_Y_tolerance 3 = .ok (.invokevirtual 70, 3) := by decide +kernel
theorem d_Y_tolerance_6 : decode b_Y_tolerance 6 = .ok (.ifCond .ne 7, 3) := by decide +kernel
theorem d_Y_tolerance_9 : decode b_Y_tolerance 9 = .ok (.iconst 1, 1) := by decide +kernel
theorem d_Y_tolerance_10 : decode b_Y_tolerance 10 = .ok (.goto 15, 3) := by decide +kernel
theorem d_Y_tolerance_13 : decode b_Y_tolerance 13 = .ok (.aload_n 0, 1) := by decide +kernel
theorem d_Y_tolerance_14 : decode b_Y_tolerance 14 = .ok (.invokevirtual 141, 3) := by decide +kernel
theorem d_Y_tolerance_17 : decode b_Y_tolerance 17 = .ok (.ifCond .ne 7, 3) := by decide +kernel
theorem d_Y_tolerance_20 : decode b_Y_tolerance 20 = .ok (.iconst 2, 1) := by decide +kernel
theorem d_Y_tolerance_21 : decode b_Y_tolerance 21 = .ok (.goto 4, 3) := by decide +kernel
theorem d_Y_tolerance_24 : decode b_Y_tolerance 24 = .ok (.iconst 0, 1) := by decide +kernel
theorem d_Y_tolerance_25 : decode b_Y_tolerance 25 = .ok (.putfield 62, 3) := by decide +kernel
theorem d_Y_tolerance_28 : decode b_Y_tolerance 28 = .ok (.aload_n 0, 1) := by decide +kernel
theorem d_Y_tolerance_29 : decode b_Y_tolerance 29 = .ok (.getfield 62, 3) := by decide +kernel
theorem d_Y_tolerance_32 : decode b_Y_tolerance 32 = .ok (.ifCond .ne 11, 3) := by decide +kernel
theorem d_Y_tolerance_35 : decode b_Y_tolerance 35 = .ok (.aload_n 0, 1) := by decide +kernel
theorem d_Y_tolerance_36 : decode b_Y_tolerance 36 = .ok (.iload_n 1, 1) := by decide +kernel
theorem d_Y_tolerance_37 : decode b_Y_tolerance 37 = .ok (.invokevirtual 155, 3) := by decide +kernel
theorem d_Y_tolerance_40 : decode b_Y_tolerance 40 = .ok (.goto 4, 3) := by decide +kernel
theorem d_Y_tolerance_43 : decode b_Y_tolerance 43 = .ok (.iconst 0, 1) := by decide +kernel
theorem d_Y_tolerance_44 : decode b_Y_tolerance 44 = .ok (.ireturn, 1) := by decide +kernel
theorem d_Y_stretchOne_0 : decode b_Y_stretchOne 0 = .ok (.aload_n 0, 1) := by decide +kernel
theorem d_Y_stretchOne_1 : decode b_Y_stretchOne 1 = .ok (.iload_n 1, 1) := by decide +kernel
theorem d_Y_stretchOne_2 : decode b_Y_stretchOne 2 = .ok (.invokevirtual 100, 3) := by decide +kernel
theorem d_Y_stretchOne_5 : decode b_Y_stretchOne 5 = .ok (.iload_n 2, 1) := by decide +kernel
theorem d_Y_stretchOne_6 : decode b_Y_stretchOne 6 = .ok (.isub, 1) := by decide +kernel
theorem d_Y_stretchOne_7 : decode b_Y_stretchOne 7 = .ok (.istore_n 3, 1) := by decide +kernel
theorem d_Y_stretchOne_8 : decode b_Y_stretchOne 8 = .ok (.iconst 0, 1) := by decide +kernel
theorem d_Y_stretchOne_9 : decode b_Y_stretchOne 9 = .ok (.istore 4, 2) := by decide +kernel
theorem d_Y_stretchOne_11 : decode b_Y_stretchOne 11 = .ok (.iconst 0, 1) := by decide +kernel
theorem d_Y_stretchOne_12 : decode b_Y_stretchOne 12 = .ok (.istore 5, 2) := by decide +kernel
theorem d_Y_stretchOne_14 : decode b_Y_stretchOne 14 = .ok (.iload 5, 2) := by decide +kernel
theorem d_Y_stretchOne_16 : decode b_Y_stretchOne 16 = .ok (.iload_n 3, 1) := by decide +kernel
theorem d_Y_stretchOne_17 : decode b_Y_stretchOne 17 = .ok (.if_icmp .ge 55, 3) := by decide +kernel
theorem d_Y_stretchOne_20 : decode b_Y_stretchOne 20 = .ok (.bipush 8, 2) := by decide +kernel
theorem d_Y_stretchOne_22 : decode b_Y_stretchOne 22 = .ok (.iload_n 1, 1) := by decide +kernel
theorem d_Y_stretchOne_23 : decode b_Y_stretchOne 23 = .ok (.imul, 1) := by decide +kernel
theorem d_Y_stretchOne_24 : decode b_Y_stretchOne 24 = .ok (.iload 4, 2) := by decide +kernel
theorem d_Y_stretchOne_26 : decode b_Y_stretchOne 26 = .ok (.iadd, 1) := by decide +kernel
theorem d_Y_stretchOne_27 : decode b_Y_stretchOne 27 = .ok (.istore 6, 2) := by decide +kernel
theorem d_Y_stretchOne_29 : decode b_Y_stretchOne 29 = .ok (.iload 5, 2) := by decide +kernel
theorem d_Y_stretchOne_31 : decode b_Y_stretchOne 31 = .ok (.aload_n 0, 1) := by decide +kernel
theorem d_Y_stretchOne_32 : decode b_Y_stretchOne 32 = .ok (.getfield 26, 3) := by decide +kernel
theorem d_Y_stretchOne_35 : decode b_Y_stretchOne 35 = .ok (.iload 6, 2) := by decide +kernel
theorem d_Y_stretchOne_37 : decode b_Y_stretchOne 37 = .ok (.iaload, 1) := by decide +kernel
theorem d_Y_stretchOne_38 : decode b_Y_stretchOne 38 = .ok (.iadd, 1) := by decide +kernel
theorem d_Y_stretchOne_39 : decode b_Y_stretchOne 39 = .ok (.iload_n 3, 1) := by decide +kernel
theorem d_Y_stretchOne_40 : decode b_Y_stretchOne 40 = .ok (.if_icmp .le 14, 3) := by decide +kernel
theorem d_Y_stretchOne_43 : decode b_Y_stretchOne 43 = .ok (.aload_n 0, 1) := by decide +kernel
theorem d_Y_stretchOne_44 : decode b_Y_stretchOne 44 = .ok (.getfield 26, 3) := by decide +kernel
theorem d_Y_stretchOne_47 : decode b_Y_stretchOne 47 = .ok (.iload 6, 2) := by decide +kernel
theorem d_Y_stretchOne_49 : decode b_Y_stretchOne 49 = .ok (.iload_n 3, 1) := by decide +kernel
theorem d_Y_stretchOne_50 : decode b_Y_stretchOne 50 = .ok (.iload 5, 2) := by decide +kernel
theorem d_Y_stretchOne_52 : decode b_Y_stretchOne 52 = .ok (.isub, 1) := by decide +kernel
theorem d_Y_stretchOne_53 : decode b_Y_stretchOne 53 = .ok (.iastore, 1) := by decide +kernel
theorem d_Y_stretchOne_54 : decode b_Y_stretchOne 54 = .ok (.iload 5, 2) := by decide +kernel
theorem d_Y_stretchOne_56 : decode b_Y_stretchOne 56 = .ok (.aload_n 0, 1) := by decide +kernel
theorem d_Y_stretchOne_57 : decode b_Y_stretchOne 57 = .ok (.getfield 26, 3) := by decide +kernel
theorem d_Y_stretchOne_60 : decode b_Y_stretchOne 60 = .ok (.iload 6, 2) := by decide +kernel
theorem d_Y_stretchOne_62 : decode b_Y_stretchOne 62 = .ok (.iaload, 1) := by decide +kernel
theorem d_Y_stretchOne_63 : decode b_Y_stretchOne 63 = .ok (.iadd, 1) := by decide +kernel
theorem d_Y_stretchOne_64 : decode b_Y_stretchOne 64 = .ok (.istore 5, 2) := by decide +kernel
theorem d_Y_stretchOne_66 : decode b_Y_stretchOne 66 = .ok (.iinc 4 1, 3) := by decide +kernel
theorem d_Y_stretchOne_69 : decode b_Y_stretchOne 69 = .ok (.goto (-55), 3) := by decide +kernel
theorem d_Y_stretchOne_72 : decode b_Y_stretchOne 72 = .ok (.aload_n 0, 1) := by decide +kernel
theorem d_Y_stretchOne_73 : decode b_Y_stretchOne 73 = .ok (.getfield 26, 3) := by decide +kernel
theorem d_Y_stretchOne_76 : decode b_Y_stretchOne 76 = .ok (.bipush 8, 2) := by decide +kernel
theorem d_Y_stretchOne_78 : decode b_Y_stretchOne 78 = .ok (.iload_n 1, 1) := by decide +kernel
theorem d_Y_stretchOne_79 : decode b_Y_stretchOne 79 = .ok (.imul, 1) := by decide +kernel
theorem d_Y_stretchOne_80 : decode b_Y_stretchOne 80 = .ok (.iload 4, 2) := by decide +kernel
theorem d_Y_stretchOne_82 : decode b_Y_stretchOne 82 = .ok (.iadd, 1) := by decide +kernel
theorem d_Y_stretchOne_83 : decode b_Y_stretchOne 83 = .ok (.iload_n 2, 1) := by decide +kernel
end
section
theorem d_Y_stretchOne_84 : decode b_Y_stretchOne 84 = .ok (.iastore, 1) := by decide +kernel
theorem d_Y_stretchOne_85 : decode b_Y_stretchOne 85 = .ok (.aload_n 0, 1) := by decide +kernel
theorem d_Y_stretchOne_86 : decode b_Y_stretchOne 86 = .ok (.getfield 23, 3) := by decide +kernel
theorem d_Y_stretchOne_89 : decode b_Y_stretchOne 89 = .ok (.iload_n 1, 1) := by decide +kernel
theorem d_Y_stretchOne_90 : decode b_Y_stretchOne 90 = .ok (.iload 4, 2) := by decide +kernel
theorem d_Y_stretchOne_92 : decode b_Y_stretchOne 92 = .ok (.iconst 1, 1) := by decide +kernel
theorem d_Y_stretchOne_93 : decode b_Y_stretchOne 93 = .ok (.iadd, 1) := by decide +kernel
theorem d_Y_stretchOne_94 : decode b_Y_stretchOne 94 = .ok (.iastore, 1) := by decide +kernel
theorem d_Y_stretchOne_95 : decode b_Y_stretchOne 95 = .ok (.return_, 1) := by decide +kernel
theorem d_Y_stretch_0 : decode b_Y_stretch 0 = .ok (.aload_n 0, 1) := by decide +kernel
theorem d_Y_stretch_1 : decode b_Y_stretch 1 = .ok (.invokevirtual 141, 3) := by decide +kernel
theorem d_Y_stretch_4 : decode b_Y_stretch 4 = .ok (.ifCond .eq 18, 3) := by decide +kernel
theorem d_Y_stretch_7 : decode b_Y_stretch 7 = .ok (.aload_n 0, 1) := by decide +kernel
theorem d_Y_stretch_8 : decode b_Y_stretch 8 = .ok (.getfield 66, 3) := by decide +kernel
theorem d_Y_stretch_11 : decode b_Y_stretch 11 = .ok (.ifCond .ne 11, 3) := by decide +kernel
theorem d_Y_stretch_14 : decode b_Y_stretch 14 = .ok (.aload_n 0, 1) := by decide +kernel
theorem d_Y_stretch_15 : decode b_Y_stretch 15 = .ok (.invokevirtual 148, 3) := by decide +kernel
theorem d_Y_stretch_18 : decode b_Y_stretch 18 = .ok (.iconst 1, 1) := by decide +kernel
theorem d_Y_stretch_19 : decode b_Y_stretch 19 = .ok (.if_icmp .eq 9, 3) := by decide +kernel
theorem d_Y_stretch_22 : decode b_Y_stretch 22 = .ok (.aload_n 0, 1) := by decide +kernel
theorem d_Y_stretch_23 : decode b_Y_stretch 23 = .ok (.iconst 1, 1) := by decide +kernel
theorem d_Y_stretch_24 : decode b_Y_stretch 24 = .ok (.invokevirtual 145, 3) := by decide +kernel
theorem d_Y_stretch_27 : decode b_Y_stretch 27 = .ok (.ireturn, 1) := by decide +kernel
theorem d_Y_stretch_28 : decode b_Y_stretch 28 = .ok (.aload_n 0, 1) := by decide +kernel
theorem d_Y_stretch_29 : decode b_Y_stretch 29 = .ok (.iconst 0, 1) := by decide +kernel
theorem d_Y_stretch_30 : decode b_Y_stretch 30 = .ok (.putfield 62, 3) := by decide +kernel
theorem d_Y_stretch_33 : decode b_Y_stretch 33 = .ok (.iconst 0, 1) := by decide +kernel
theorem d_Y_stretch_34 : decode b_Y_stretch 34 = .ok (.istore_n 1, 1) := by decide +kernel
theorem d_Y_stretch_35 : decode b_Y_stretch 35 = .ok (.iconst 0, 1) := by decide +kernel
theorem d_Y_stretch_36 : decode b_Y_stretch 36 = .ok (.istore_n 2, 1) := by decide +kernel
theorem d_Y_stretch_37 : decode b_Y_stretch 37 = .ok (.iconst (-1), 1) := by decide +kernel
theorem d_Y_stretch_38 : decode b_Y_stretch 38 = .ok (.istore_n 3, 1) := by decide +kernel
theorem d_Y_stretch_39 : decode b_Y_stretch 39 = .ok (.aload_n 0, 1) := by decide +kernel
theorem d_Y_stretch_40 : decode b_Y_stretch 40 = .ok (.bipush 100, 2) := by decide +kernel
theorem d_Y_stretch_42 : decode b_Y_stretch 42 = .ok (.invokevirtual 134, 3) := by decide +kernel
theorem d_Y_stretch_45 : decode b_Y_stretch 45 = .ok (.istore 4, 2) := by decide +kernel
theorem d_Y_stretch_47 : decode b_Y_stretch 47 = .ok (.iload 4, 2) := by decide +kernel
theorem d_Y_stretch_49 : decode b_Y_stretch 49 = .ok (.ifCond .eq 98, 3) := by decide +kernel
theorem d_Y_stretch_52 : decode b_Y_stretch 52 = .ok (.aload_n 0, 1) := by decide +kernel
theorem d_Y_stretch_53 : decode b_Y_stretch 53 = .ok (.iload 4, 2) := by decide +kernel
theorem d_Y_stretch_55 : decode b_Y_stretch 55 = .ok (.invokevirtual 100, 3) := by decide +kernel
theorem d_Y_stretch_58 : decode b_Y_stretch 58 = .ok (.istore 5, 2) := by decide +kernel
theorem d_Y_stretch_60 : decode b_Y_stretch 60 = .ok (.iload_n 1, 1) := by decide +kernel
theorem d_Y_stretch_61 : decode b_Y_stretch 61 = .ok (.aload_n 0, 1) := by decide +kernel
theorem d_Y_stretch_62 : decode b_Y_stretch 62 = .ok (.getfield 23, 3) := by decide +kernel
theorem d_Y_stretch_65 : decode b_Y_stretch 65 = .ok (.iload 4, 2) := by decide +kernel
theorem d_Y_stretch_67 : decode b_Y_stretch 67 = .ok (.iaload, 1) := by decide +kernel
theorem d_Y_stretch_68 : decode b_Y_stretch 68 = .ok (.iadd, 1) := by decide +kernel
theorem d_Y_stretch_69 : decode b_Y_stretch 69 = .ok (.istore_n 1, 1) := by decide +kernel
theorem d_Y_stretch_70 : decode b_Y_stretch 70 = .ok (.aload_n 0, 1) := by decide +kernel
theorem d_Y_stretch_71 : decode b_Y_stretch 71 = .ok (.iload 4, 2) := by decide +kernel
theorem d_Y_stretch_73 : decode b_Y_stretch 73 = .ok (.iload_n 3, 1) := by decide +kernel
theorem d_Y_stretch_74 : decode b_Y_stretch 74 = .ok (.iconst (-1), 1) := by decide +kernel
theorem d_Y_stretch_75 : decode b_Y_stretch 75 = .ok (.if_icmp .eq 9, 3) := by decide +kernel
theorem d_Y_stretch_78 : decode b_Y_stretch 78 = .ok (.iload_n 3, 1) := by decide +kernel
theorem d_Y_stretch_79 : decode b_Y_stretch 79 = .ok (.iload 5, 2) := by decide +kernel
theorem d_Y_stretch_81 : decode b_Y_stretch 81 = .ok (.if_icmp .le 8, 3) := by decide +kernel
theorem d_Y_stretch_84 : decode b_Y_stretch 84 = .ok (.iload 5, 2) := by decide +kernel
theorem d_Y_stretch_86 : decode b_Y_stretch 86 = .ok (.goto 4, 3) := by decide +kernel
theorem d_Y_stretch_89 : decode b_Y_stretch 89 = .ok (.iload_n 3, 1) := by decide +kernel
theorem d_Y_stretch_90 : decode b_Y_stretch 90 = .ok (.invokevirtual 158, 3) := by decide +kernel
theorem d_Y_stretch_93 : decode b_Y_stretch 93 = .ok (.iload_n 2, 1) := by decide +kernel
theorem d_Y_stretch_94 : decode b_Y_stretch 94 = .ok (.aload_n 0, 1) := by decide +kernel
theorem d_Y_stretch_95 : decode b_Y_stretch 95 = .ok (.getfield 23, 3) := by decide +kernel
theorem d_Y_stretch_98 : decode b_Y_stretch 98 = .ok (.iload 4, 2) := by decide +kernel
theorem d_Y_stretch_100 : decode b_Y_stretch 100 = .ok (.iaload, 1) := by decide +kernel
theorem d_Y_stretch_101 : decode b_Y_stretch 101 = .ok (.iadd, 1) := by decide +kernel
theorem d_Y_stretch_102 : decode b_Y_stretch 102 = .ok (.istore_n 2, 1) := by decide +kernel
theorem d_Y_stretch_103 : decode b_Y_stretch 103 = .ok (.aload_n 0, 1) := by decide +kernel
theorem d_Y_stretch_104 : decode b_Y_stretch 104 = .ok (.iload 4, 2) := by decide +kernel
theorem d_Y_stretch_106 : decode b_Y_stretch 106 = .ok (.invokevirtual 155, 3) := by decide +kernel
theorem d_Y_stretch_109 : decode b_Y_stretch 109 = .ok (.iconst 1, 1) := by decide +kernel
theorem d_Y_stretch_110 : decode b_Y_stretch 110 = .ok (.iadd, 1) := by decide +kernel
theorem d_Y_stretch_111 : decode b_Y_stretch 111 = .ok (.istore 6, 2) := by decide +kernel
theorem d_Y_stretch_113 : decode b_Y_stretch 113 = .ok (.iload_n 3, 1) := by decide +kernel
theorem d_Y_stretch_114 : decode b_Y_stretch 114 = .ok (.iconst (-1), 1) := by decide +kernel
theorem d_Y_stretch_115 : decode b_Y_stretch 115 = .ok (.if_icmp .eq 9, 3) := by decide +kernel
theorem d_Y_stretch_118 : decode b_Y_stretch 118 = .ok (.iload 6, 2) := by decide +kernel
theorem d_Y_stretch_120 : decode b_Y_stretch 120 = .ok (.iload_n 3, 1) := by decide +kernel
theorem d_Y_stretch_121 : decode b_Y_stretch 121 = .ok (.if_icmp .ge 8, 3) := by decide +kernel
theorem d_Y_stretch_124 : decode b_Y_stretch 124 = .ok (.iload 6, 2) := by decide +kernel
theorem d_Y_stretch_126 : decode b_Y_stretch 126 = .ok (.goto 4, 3) := by decide +kernel
theorem d_Y_stretch_129 : decode b_Y_stretch 129 = .ok (.iload_n 3, 1) := by decide +kernel
theorem d_Y_stretch_130 : decode b_Y_stretch 130 = .ok (.istore_n 3, 1) := by decide +kernel
theorem d_Y_stretch_131 : decode b_Y_stretch 131 = .ok (.aload_n 0, 1) := by decide +kernel
theorem d_Y_stretch_132 : decode b_Y_stretch 132 = .ok (.aload_n 0, 1) := by decide +kernel
theorem d_Y_stretch_133 : decode b_Y_stretch 133 = .ok (.getfield 20, 3) := by decide +kernel
theorem d_Y_stretch_136 : decode b_Y_stretch 136 = .ok (.iload 4, 2) := by decide +kernel
theorem d_Y_stretch_138 : decode b_Y_stretch 138 = .ok (.iaload, 1) := by decide +kernel
theorem d_Y_stretch_139 : decode b_Y_stretch 139 = .ok (.invokevirtual 134, 3) := by decide +kernel
theorem d_Y_stretch_142 : decode b_Y_stretch 142 = .ok (.istore 4, 2) := by decide +kernel
theorem d_Y_stretch_144 : decode b_Y_stretch 144 = .ok (.goto (-97), 3) := by decide +kernel
theorem d_Y_stretch_147 : decode b_Y_stretch 147 = .ok (.iload_n 1, 1) := by decide +kernel
theorem d_Y_stretch_148 : decode b_Y_stretch 148 = .ok (.iload_n 2, 1) := by decide +kernel
theorem d_Y_stretch_149 : decode b_Y_stretch 149 = .ok (.isub, 1) := by decide +kernel
theorem d_Y_stretch_150 : decode b_Y_stretch 150 = .ok (.ireturn, 1) := by decide +kernel
theorem d_Y_scenario_0 : decode b_Y_scenario 0 = .ok (.aload_n 0, 1) := by decide +kernel
theorem d_Y_scenario_1 : decode b_Y_scenario 1 = .ok (.iload_n 1, 1) := by decide +kernel
theorem d_Y_scenario_2 : decode b_Y_scenario 2 = .ok (.invokevirtual 152, 3) := by decide +kernel
theorem d_Y_scenario_5 : decode b_Y_scenario 5 = .ok (.ifCond .ne 5, 3) := by decide +kernel
theorem d_Y_scenario_8 : decode b_Y_scenario 8 = .ok (.iconst 0, 1) := by decide +kernel
theorem d_Y_scenario_9 : decode b_Y_scenario 9 = .ok (.ireturn, 1) := by decide +kernel
theorem d_Y_scenario_10 : decode b_Y_scenario 10 = .ok (.iload_n 2, 1) := by decide +kernel
theorem d_Y_scenario_11 : decode b_Y_scenario 11 = .ok (.ifCond .lt 12, 3) := by decide +kernel
theorem d_Y_scenario_14 : decode b_Y_scenario 14 = .ok (.iload_n 3, 1) := by decide +kernel
theorem d_Y_scenario_15 : decode b_Y_scenario 15 = .ok (.ifCond .lt 8, 3) := by decide +kernel
theorem d_Y_scenario_18 : decode b_Y_scenario 18 = .ok (.iload_n 3, 1) := by decide +kernel
theorem d_Y_scenario_19 : decode b_Y_scenario 19 = .ok (.iconst 1, 1) := by decide +kernel
theorem d_Y_scenario_20 : decode b_Y_scenario 20 = .ok (.if_icmp .le 5, 3) := by decide +kernel
theorem d_Y_scenario_23 : decode b_Y_scenario 23 = .ok (.iconst (-1), 1) := by decide +kernel
theorem d_Y_scenario_24 : decode b_Y_scenario 24 = .ok (.ireturn, 1) := by decide +kernel
theorem d_Y_scenario_25 : decode b_Y_scenario 25 = .ok (.aload_n 0, 1) := by decide +kernel
theorem d_Y_scenario_26 : decode b_Y_scenario 26 = .ok (.iload_n 1, 1) := by decide +kernel
theorem d_Y_scenario_27 : decode b_Y_scenario 27 = .ok (.invokevirtual 103, 3) := by decide +kernel
theorem d_Y_scenario_30 : decode b_Y_scenario 30 = .ok (.istore 4, 2) := by decide +kernel
theorem d_Y_scenario_32 : decode b_Y_scenario 32 = .ok (.iconst 0, 1) := by decide +kernel
theorem d_Y_scenario_33 : decode b_Y_scenario 33 = .ok (.istore 5, 2) := by decide +kernel
theorem d_Y_scenario_35 : decode b_Y_scenario 35 = .ok (.iconst 0, 1) := by decide +kernel
theorem d_Y_scenario_36 : decode b_Y_scenario 36 = .ok (.istore 6, 2) := by decide +kernel
theorem d_Y_scenario_38 : decode b_Y_scenario 38 = .ok (.iload 4, 2) := by decide +kernel
theorem d_Y_scenario_40 : decode b_Y_scenario 40 = .ok (.ifCond .le 85, 3) := by decide +kernel
theorem d_Y_scenario_43 : decode b_Y_scenario 43 = .ok (.aload_n 0, 1) := by decide +kernel
theorem d_Y_scenario_44 : decode b_Y_scenario 44 = .ok (.aload_n 0, 1) := by decide +kernel
theorem d_Y_scenario_45 : decode b_Y_scenario 45 = .ok (.getfield 20, 3) := by decide +kernel
theorem d_Y_scenario_48 : decode b_Y_scenario 48 = .ok (.iload_n 1, 1) := by decide +kernel
theorem d_Y_scenario_49 : decode b_Y_scenario 49 = .ok (.iaload, 1) := by decide +kernel
theorem d_Y_scenario_50 : decode b_Y_scenario 50 = .ok (.invokevirtual 134, 3) := by decide +kernel
theorem d_Y_scenario_53 : decode b_Y_scenario 53 = .ok (.istore 6, 2) := by decide +kernel
theorem d_Y_scenario_55 : decode b_Y_scenario 55 = .ok (.aload_n 0, 1) := by decide +kernel
theorem d_Y_scenario_56 : decode b_Y_scenario 56 = .ok (.iload 6, 2) := by decide +kernel
theorem d_Y_scenario_58 : decode b_Y_scenario 58 = .ok (.invokevirtual 93, 3) := by decide +kernel
theorem d_Y_scenario_61 : decode b_Y_scenario 61 = .ok (.iload 4, 2) := by decide +kernel
theorem d_Y_scenario_63 : decode b_Y_scenario 63 = .ok (.iconst 1, 1) := by decide +kernel
theorem d_Y_scenario_64 : decode b_Y_scenario 64 = .ok (.iadd, 1) := by decide +kernel
theorem d_Y_scenario_65 : decode b_Y_scenario 65 = .ok (.if_icmp .eq 19, 3) := by decide +kernel
theorem d_Y_scenario_68 : decode b_Y_scenario 68 = .ok (.aload_n 0, 1) := by decide +kernel
theorem d_Y_scenario_69 : decode b_Y_scenario 69 = .ok (.aload_n 0, 1) := by decide +kernel
theorem d_Y_scenario_70 : decode b_Y_scenario 70 = .ok (.getfield 20, 3) := by decide +kernel
theorem d_Y_scenario_73 : decode b_Y_scenario 73 = .ok (.iload 6, 2) := by decide +kernel
theorem d_Y_scenario_75 : decode b_Y_scenario 75 = .ok (.iaload, 1) := by decide +kernel
theorem d_Y_scenario_76 : decode b_Y_scenario 76 = .ok (.invokevirtual 134, 3) := by decide +kernel
theorem d_Y_scenario_79 : decode b_Y_scenario 79 = .ok (.istore 6, 2) := by decide +kernel
theorem d_Y_scenario_81 : decode b_Y_scenario 81 = .ok (.goto (-26), 3) := by decide +kernel
theorem d_Y_scenario_84 : decode b_Y_scenario 84 = .ok (.iconst 0, 1) := by decide +kernel
theorem d_Y_scenario_85 : decode b_Y_scenario 85 = .ok (.istore 7, 2) := by decide +kernel
theorem d_Y_scenario_87 : decode b_Y_scenario 87 = .ok (.aload_n 0, 1) := by decide +kernel
theorem d_Y_scenario_88 : decode b_Y_scenario 88 = .ok (.getfield 26, 3) := by decide +kernel
theorem d_Y_scenario_91 : decode b_Y_scenario 91 = .ok (.bipush 8, 2) := by decide +kernel
theorem d_Y_scenario_93 : decode b_Y_scenario 93 = .ok (.iload 6, 2) := by decide +kernel
theorem d_Y_scenario_95 : decode b_Y_scenario 95 = .ok (.imul, 1) := by decide +kernel
theorem d_Y_scenario_96 : decode b_Y_scenario 96 = .ok (.iload 7, 2) := by decide +kernel
theorem d_Y_scenario_98 : decode b_Y_scenario 98 = .ok (.iadd, 1) := by decide +kernel
theorem d_Y_scenario_99 : decode b_Y_scenario 99 = .ok (.iaload, 1) := by decide +kernel
theorem d_Y_scenario_100 : decode b_Y_scenario 100 = .ok (.iload 4, 2) := by decide +kernel
theorem d_Y_scenario_102 : decode b_Y_scenario 102 = .ok (.iconst 1, 1) := by decide +kernel
theorem d_Y_scenario_103 : decode b_Y_scenario 103 = .ok (.iadd, 1) := by decide +kernel
theorem d_Y_scenario_104 : decode b_Y_scenario 104 = .ok (.if_icmp .eq 9, 3) := by decide +kernel
theorem d_Y_scenario_107 : decode b_Y_scenario 107 = .ok (.iinc 7 1, 3) := by decide +kernel
theorem d_Y_scenario_110 : decode b_Y_scenario 110 = .ok (.goto (-23), 3) := by decide +kernel
theorem d_Y_scenario_113 : decode b_Y_scenario 113 = .ok (.iconst 1, 1) := by decide +kernel
theorem d_Y_scenario_114 : decode b_Y_scenario 114 = .ok (.aload_n 0, 1) := by decide +kernel
theorem d_Y_scenario_115 : decode b_Y_scenario 115 = .ok (.iload 6, 2) := by decide +kernel
theorem d_Y_scenario_117 : decode b_Y_scenario 117 = .ok (.iload 7, 2) := by decide +kernel
theorem d_Y_scenario_119 : decode b_Y_scenario 119 = .ok (.invokevirtual 89, 3) := by decide +kernel
theorem d_Y_scenario_122 : decode b_Y_scenario 122 = .ok (.iadd, 1) := by decide +kernel
theorem d_Y_scenario_123 : decode b_Y_scenario 123 = .ok (.istore 5, 2) := by decide +kernel
theorem d_Y_scenario_125 : decode b_Y_scenario 125 = .ok (.iload 4, 2) := by decide +kernel
theorem d_Y_scenario_127 : decode b_Y_scenario 127 = .ok (.ifCond .le 18, 3) := by decide +kernel
theorem d_Y_scenario_130 : decode b_Y_scenario 130 = .ok (.iload_n 2, 1) := by decide +kernel
theorem d_Y_scenario_131 : decode b_Y_scenario 131 = .ok (.ifCond .ne 14, 3) := by decide +kernel
theorem d_Y_scenario_134 : decode b_Y_scenario 134 = .ok (.iload_n 3, 1) := by decide +kernel
theorem d_Y_scenario_135 : decode b_Y_scenario 135 = .ok (.ifCond .ne 7, 3) := by decide +kernel
theorem d_Y_scenario_138 : decode b_Y_scenario 138 = .ok (.iconst 0, 1) := by decide +kernel
theorem d_Y_scenario_139 : decode b_Y_scenario 139 = .ok (.goto 5, 3) := by decide +kernel
theorem d_Y_scenario_142 : decode b_Y_scenario 142 = .ok (.iload 6, 2) := by decide +kernel
theorem d_Y_scenario_144 : decode b_Y_scenario 144 = .ok (.ireturn, 1) := by decide +kernel
theorem d_Y_scenario_145 : decode b_Y_scenario 145 = .ok (.iload 4, 2) := by decide +kernel
theorem d_Y_scenario_147 : decode b_Y_scenario 147 = .ok (.ifCond .le 7, 3) := by decide +kernel
theorem d_Y_scenario_150 : decode b_Y_scenario 150 = .ok (.iconst 1, 1) := by decide +kernel
theorem d_Y_scenario_151 : decode b_Y_scenario 151 = .ok (.goto 4, 3) := by decide +kernel
theorem d_Y_scenario_154 : decode b_Y_scenario 154 = .ok (.iconst 0, 1) := by decide +kernel
theorem d_Y_scenario_155 : decode b_Y_scenario 155 = .ok (.istore 7, 2) := by decide +kernel
theorem d_Y_scenario_157 : decode b_Y_scenario 157 = .ok (.aload_n 0, 1) := by decide +kernel
theorem d_Y_scenario_158 : decode b_Y_scenario 158 = .ok (.getfield 116, 3) := by decide +kernel
theorem d_Y_scenario_161 : decode b_Y_scenario 161 = .ok (.aload_n 0, 1) := by decide +kernel
theorem d_Y_scenario_162 : decode b_Y_scenario 162 = .ok (.getfield 13, 3) := by decide +kernel
theorem d_Y_scenario_165 : decode b_Y_scenario 165 = .ok (.iload_n 1, 1) := by decide +kernel
theorem d_Y_scenario_166 : decode b_Y_scenario 166 = .ok (.iaload, 1) := by decide +kernel
theorem d_Y_scenario_167 : decode b_Y_scenario 167 = .ok (.imul, 1) := by decide +kernel
theorem d_Y_scenario_168 : decode b_Y_scenario 168 = .ok (.aload_n 0, 1) := by decide +kernel
theorem d_Y_scenario_169 : decode b_Y_scenario 169 = .ok (.getfield 113, 3) := by decide +kernel
theorem d_Y_scenario_172 : decode b_Y_scenario 172 = .ok (.iadd, 1) := by decide +kernel
theorem d_Y_scenario_173 : decode b_Y_scenario 173 = .ok (.istore 8, 2) := by decide +kernel
theorem d_Y_scenario_175 : decode b_Y_scenario 175 = .ok (.iconst 0, 1) := by decide +kernel
theorem d_Y_scenario_176 : decode b_Y_scenario 176 = .ok (.istore 9, 2) := by decide +kernel
theorem d_Y_scenario_178 : decode b_Y_scenario 178 = .ok (.iload 9, 2) := by decide +kernel
theorem d_Y_scenario_180 : decode b_Y_scenario 180 = .ok (.iload 8, 2) := by decide +kernel
theorem d_Y_scenario_182 : decode b_Y_scenario 182 = .ok (.if_icmp .ge 117, 3) := by decide +kernel
theorem d_Y_scenario_185 : decode b_Y_scenario 185 = .ok (.aload_n 0, 1) := by decide +kernel
theorem d_Y_scenario_186 : decode b_Y_scenario 186 = .ok (.bipush 100, 2) := by decide +kernel
theorem d_Y_scenario_188 : decode b_Y_scenario 188 = .ok (.invokevirtual 134, 3) := by decide +kernel
theorem d_Y_scenario_191 : decode b_Y_scenario 191 = .ok (.istore 10, 2) := by decide +kernel
theorem d_Y_scenario_193 : decode b_Y_scenario 193 = .ok (.iload 10, 2) := by decide +kernel
theorem d_Y_scenario_195 : decode b_Y_scenario 195 = .ok (.ifCond .eq 98, 3) := by decide +kernel
theorem d_Y_scenario_198 : decode b_Y_scenario 198 = .ok (.aload_n 0, 1) := by decide +kernel
theorem d_Y_scenario_199 : decode b_Y_scenario 199 = .ok (.getfield 20, 3) := by decide +kernel
theorem d_Y_scenario_202 : decode b_Y_scenario 202 = .ok (.iload 10, 2) := by decide +kernel
theorem d_Y_scenario_204 : decode b_Y_scenario 204 = .ok (.iaload, 1) := by decide +kernel
theorem d_Y_scenario_205 : decode b_Y_scenario 205 = .ok (.aload_n 0, 1) := by decide +kernel
theorem d_Y_scenario_206 : decode b_Y_scenario 206 = .ok (.getfield 20, 3) := by decide +kernel
theorem d_Y_scenario_209 : decode b_Y_scenario 209 = .ok (.iload_n 1, 1) := by decide +kernel
theorem d_Y_scenario_210 : decode b_Y_scenario 210 = .ok (.iaload, 1) := by decide +kernel
theorem d_Y_scenario_211 : decode b_Y_scenario 211 = .ok (.if_icmp .lt 82, 3) := by decide +kernel
theorem d_Y_scenario_214 : decode b_Y_scenario 214 = .ok (.iload 9, 2) := by decide +kernel
theorem d_Y_scenario_216 : decode b_Y_scenario 216 = .ok (.aload_n 0, 1) := by decide +kernel
theorem d_Y_scenario_217 : decode b_Y_scenario 217 = .ok (.getfield 13, 3) := by decide +kernel
theorem d_Y_scenario_220 : decode b_Y_scenario 220 = .ok (.iload 10, 2) := by decide +kernel
theorem d_Y_scenario_222 : decode b_Y_scenario 222 = .ok (.iaload, 1) := by decide +kernel
theorem d_Y_scenario_223 : decode b_Y_scenario 223 = .ok (.irem, 1) := by decide +kernel
theorem d_Y_scenario_224 : decode b_Y_scenario 224 = .ok (.ifCond .ne 53, 3) := by decide +kernel
theorem d_Y_scenario_227 : decode b_Y_scenario 227 = .ok (.iload 10, 2) := by decide +kernel
theorem d_Y_scenario_229 : decode b_Y_scenario 229 = .ok (.iload_n 1, 1) := by decide +kernel
theorem d_Y_scenario_230 : decode b_Y_scenario 230 = .ok (.if_icmp .ne 23, 3) := by decide +kernel
theorem d_Y_scenario_233 : decode b_Y_scenario 233 = .ok (.iload 9, 2) := by decide +kernel
theorem d_Y_scenario_235 : decode b_Y_scenario 235 = .ok (.aload_n 0, 1) := by decide +kernel
theorem d_Y_scenario_236 : decode b_Y_scenario 236 = .ok (.getfield 13, 3) := by decide +kernel
theorem d_Y_scenario_239 : decode b_Y_scenario 239 = .ok (.iload 10, 2) := by decide +kernel
theorem d_Y_scenario_241 : decode b_Y_scenario 241 = .ok (.iaload, 1) := by decide +kernel
theorem d_Y_scenario_242 : decode b_Y_scenario 242 = .ok (.idiv, 1) := by decide +kernel
theorem d_Y_scenario_243 : decode b_Y_scenario 243 = .ok (.aload_n 0, 1) := by decide +kernel
theorem d_Y_scenario_244 : decode b_Y_scenario 244 = .ok (.getfield 116, 3) := by decide +kernel
theorem d_Y_scenario_247 : decode b_Y_scenario 247 = .ok (.if_icmp .le 6, 3) := by decide +kernel
theorem d_Y_scenario_250 : decode b_Y_scenario 250 = .ok (.goto 27, 3) := by decide +kernel
theorem d_Y_scenario_253 : decode b_Y_scenario 253 = .ok (.iload 7, 2) := by decide +kernel
theorem d_Y_scenario_255 : decode b_Y_scenario 255 = .ok (.iload_n 2, 1) := by decide +kernel
theorem d_Y_scenario_256 : decode b_Y_scenario 256 = .ok (.if_icmp .ne 18, 3) := by decide +kernel
theorem d_Y_scenario_259 : decode b_Y_scenario 259 = .ok (.iload_n 3, 1) := by decide +kernel
theorem d_Y_scenario_260 : decode b_Y_scenario 260 = .ok (.ifCond .ne 11, 3) := by decide +kernel
theorem d_Y_scenario_263 : decode b_Y_scenario 263 = .ok (.iload 5, 2) := by decide +kernel
theorem d_Y_scenario_265 : decode b_Y_scenario 265 = .ok (.iload 9, 2) := by decide +kernel
theorem d_Y_scenario_267 : decode b_Y_scenario 267 = .ok (.iadd, 1) := by decide +kernel
theorem d_Y_scenario_268 : decode b_Y_scenario 268 = .ok (.goto 5, 3) := by decide +kernel
theorem d_Y_scenario_271 : decode b_Y_scenario 271 = .ok (.iload 10, 2) := by decide +kernel
theorem d_Y_scenario_273 : decode b_Y_scenario 273 = .ok (.ireturn, 1) := by decide +kernel
theorem d_Y_scenario_274 : decode b_Y_scenario 274 = .ok (.iinc 7 1, 3) := by decide +kernel
theorem d_Y_scenario_277 : decode b_Y_scenario 277 = .ok (.aload_n 0, 1) := by decide +kernel
theorem d_Y_scenario_278 : decode b_Y_scenario 278 = .ok (.aload_n 0, 1) := by decide +kernel
theorem d_Y_scenario_279 : decode b_Y_scenario 279 = .ok (.getfield 20, 3) := by decide +kernel
theorem d_Y_scenario_282 : decode b_Y_scenario 282 = .ok (.iload 10, 2) := by decide +kernel
theorem d_Y_scenario_284 : decode b_Y_scenario 284 = .ok (.iaload, 1) := by decide +kernel
theorem d_Y_scenario_285 : decode b_Y_scenario 285 = .ok (.invokevirtual 134, 3) := by decide +kernel
theorem d_Y_scenario_288 : decode b_Y_scenario 288 = .ok (.istore 10, 2) := by decide +kernel
theorem d_Y_scenario_290 : decode b_Y_scenario 290 = .ok (.goto (-97), 3) := by decide +kernel
theorem d_Y_scenario_293 : decode b_Y_scenario 293 = .ok (.iinc 9 1, 3) := by decide +kernel
theorem d_Y_scenario_296 : decode b_Y_scenario 296 = .ok (.goto (-118), 3) := by decide +kernel
theorem d_Y_scenario_299 : decode b_Y_scenario 299 = .ok (.iconst (-1), 1) := by decide +kernel
theorem d_Y_scenario_300 : decode b_Y_scenario 300 = .ok (.ireturn, 1) := by decide +kernel
theorem d_Y_arrive_0 : decode b_Y_arrive 0 = .ok (.aload_n 0, 1) := by decide +kernel
theorem d_Y_arrive_1 : decode b_Y_arrive 1 = .ok (.iconst 0, 1) := by decide +kernel
theorem d_Y_arrive_2 : decode b_Y_arrive 2 = .ok (.putfield 62, 3) := by decide +kernel
theorem d_Y_arrive_5 : decode b_Y_arrive 5 = .ok (.aload_n 0, 1) := by decide +kernel
theorem d_Y_arrive_6 : decode b_Y_arrive 6 = .ok (.iload_n 1, 1) := by decide +kernel
theorem d_Y_arrive_7 : decode b_Y_arrive 7 = .ok (.invokevirtual 70, 3) := by decide +kernel
theorem d_Y_arrive_10 : decode b_Y_arrive 10 = .ok (.ifCond .eq 57, 3) := by decide +kernel
theorem d_Y_arrive_13 : decode b_Y_arrive 13 = .ok (.aload_n 0, 1) := by decide +kernel
theorem d_Y_arrive_14 : decode b_Y_arrive 14 = .ok (.invokevirtual 141, 3) := by decide +kernel
theorem d_Y_arrive_17 : decode b_Y_arrive 17 = .ok (.ifCond .eq 50, 3) := by decide +kernel
theorem d_Y_arrive_20 : decode b_Y_arrive 20 = .ok (.aload_n 0, 1) := by decide +kernel
theorem d_Y_arrive_21 : decode b_Y_arrive 21 = .ok (.getfield 35, 3) := by decide +kernel
theorem d_Y_arrive_24 : decode b_Y_arrive 24 = .ok (.iload_n 1, 1) := by decide +kernel
theorem d_Y_arrive_25 : decode b_Y_arrive 25 = .ok (.iaload, 1) := by decide +kernel
theorem d_Y_arrive_26 : decode b_Y_arrive 26 = .ok (.ifCond .le 23, 3) := by decide +kernel
theorem d_Y_arrive_29 : decode b_Y_arrive 29 = .ok (.aload_n 0, 1) := by decide +kernel
theorem d_Y_arrive_30 : decode b_Y_arrive 30 = .ok (.getfield 74, 3) := by decide +kernel
theorem d_Y_arrive_33 : decode b_Y_arrive 33 = .ok (.aload_n 0, 1) := by decide +kernel
theorem d_Y_arrive_34 : decode b_Y_arrive 34 = .ok (.getfield 41, 3) := by decide +kernel
theorem d_Y_arrive_37 : decode b_Y_arrive 37 = .ok (.iload_n 1, 1) := by decide +kernel
theorem d_Y_arrive_38 : decode b_Y_arrive 38 = .ok (.iaload, 1) := by decide +kernel
theorem d_Y_arrive_39 : decode b_Y_arrive 39 = .ok (.isub, 1) := by decide +kernel
theorem d_Y_arrive_40 : decode b_Y_arrive 40 = .ok (.aload_n 0, 1) := by decide +kernel
theorem d_Y_arrive_41 : decode b_Y_arrive 41 = .ok (.getfield 13, 3) := by decide +kernel
theorem d_Y_arrive_44 : decode b_Y_arrive 44 = .ok (.iload_n 1, 1) := by decide +kernel
theorem d_Y_arrive_45 : decode b_Y_arrive 45 = .ok (.iaload, 1) := by decide +kernel
theorem d_Y_arrive_46 : decode b_Y_arrive 46 = .ok (.if_icmp .lt 21, 3) := by decide +kernel
theorem d_Y_arrive_49 : decode b_Y_arrive 49 = .ok (.aload_n 0, 1) := by decide +kernel
theorem d_Y_arrive_50 : decode b_Y_arrive 50 = .ok (.getfield 35, 3) := by decide +kernel
theorem d_Y_arrive_53 : decode b_Y_arrive 53 = .ok (.iload_n 1, 1) := by decide +kernel
theorem d_Y_arrive_54 : decode b_Y_arrive 54 = .ok (.iaload, 1) := by decide +kernel
theorem d_Y_arrive_55 : decode b_Y_arrive 55 = .ok (.aload_n 0, 1) := by decide +kernel
theorem d_Y_arrive_56 : decode b_Y_arrive 56 = .ok (.getfield 38, 3) := by decide +kernel
theorem d_Y_arrive_59 : decode b_Y_arrive 59 = .ok (.iload_n 1, 1) := by decide +kernel
theorem d_Y_arrive_60 : decode b_Y_arrive 60 = .ok (.iaload, 1) := by decide +kernel
theorem d_Y_arrive_61 : decode b_Y_arrive 61 = .ok (.isub, 1) := by decide +kernel
theorem d_Y_arrive_62 : decode b_Y_arrive 62 = .ok (.bipush 9, 2) := by decide +kernel
theorem d_Y_arrive_64 : decode b_Y_arrive 64 = .ok (.if_icmp .ne 5, 3) := by decide +kernel
theorem d_Y_arrive_67 : decode b_Y_arrive 67 = .ok (.iconst 0, 1) := by decide +kernel
theorem d_Y_arrive_68 : decode b_Y_arrive 68 = .ok (.ireturn, 1) := by decide +kernel
theorem d_Y_arrive_69 : decode b_Y_arrive 69 = .ok (.aload_n 0, 1) := by decide +kernel
theorem d_Y_arrive_70 : decode b_Y_arrive 70 = .ok (.getfield 44, 3) := by decide +kernel
theorem d_Y_arrive_73 : decode b_Y_arrive 73 = .ok (.bipush 9, 2) := by decide +kernel
theorem d_Y_arrive_75 : decode b_Y_arrive 75 = .ok (.iload_n 1, 1) := by decide +kernel
theorem d_Y_arrive_76 : decode b_Y_arrive 76 = .ok (.imul, 1) := by decide +kernel
theorem d_Y_arrive_77 : decode b_Y_arrive 77 = .ok (.aload_n 0, 1) := by decide +kernel
theorem d_Y_arrive_78 : decode b_Y_arrive 78 = .ok (.getfield 35, 3) := by decide +kernel
theorem d_Y_arrive_81 : decode b_Y_arrive 81 = .ok (.iload_n 1, 1) := by decide +kernel
theorem d_Y_arrive_82 : decode b_Y_arrive 82 = .ok (.iaload, 1) := by decide +kernel
theorem d_Y_arrive_83 : decode b_Y_arrive 83 = .ok (.bipush 9, 2) := by decide +kernel
theorem d_Y_arrive_85 : decode b_Y_arrive 85 = .ok (.irem, 1) := by decide +kernel
theorem d_Y_arrive_86 : decode b_Y_arrive 86 = .ok (.iadd, 1) := by decide +kernel
theorem d_Y_arrive_87 : decode b_Y_arrive 87 = .ok (.aload_n 0, 1) := by decide +kernel
theorem d_Y_arrive_88 : decode b_Y_arrive 88 = .ok (.getfield 74, 3) := by decide +kernel
theorem d_Y_arrive_91 : decode b_Y_arrive 91 = .ok (.iastore, 1) := by decide +kernel
theorem d_Y_arrive_92 : decode b_Y_arrive 92 = .ok (.aload_n 0, 1) := by decide +kernel
theorem d_Y_arrive_93 : decode b_Y_arrive 93 = .ok (.getfield 41, 3) := by decide +kernel
theorem d_Y_arrive_96 : decode b_Y_arrive 96 = .ok (.iload_n 1, 1) := by decide +kernel
theorem d_Y_arrive_97 : decode b_Y_arrive 97 = .ok (.aload_n 0, 1) := by decide +kernel
theorem d_Y_arrive_98 : decode b_Y_arrive 98 = .ok (.getfield 74, 3) := by decide +kernel
theorem d_Y_arrive_101 : decode b_Y_arrive 101 = .ok (.iastore, 1) := by decide +kernel
theorem d_Y_arrive_102 : decode b_Y_arrive 102 = .ok (.aload_n 0, 1) := by decide +kernel
theorem d_Y_arrive_103 : decode b_Y_arrive 103 = .ok (.getfield 35, 3) := by decide +kernel
theorem d_Y_arrive_106 : decode b_Y_arrive 106 = .ok (.iload_n 1, 1) := by decide +kernel
theorem d_Y_arrive_107 : decode b_Y_arrive 107 = .ok (.dup2, 1) := by decide +kernel
theorem d_Y_arrive_108 : decode b_Y_arrive 108 = .ok (.iaload, 1) := by decide +kernel
theorem d_Y_arrive_109 : decode b_Y_arrive 109 = .ok (.iconst 1, 1) := by decide +kernel
theorem d_Y_arrive_110 : decode b_Y_arrive 110 = .ok (.iadd, 1) := by decide +kernel
theorem d_Y_arrive_111 : decode b_Y_arrive 111 = .ok (.iastore, 1) := by decide +kernel
theorem d_Y_arrive_112 : decode b_Y_arrive 112 = .ok (.aload_n 0, 1) := by decide +kernel
theorem d_Y_arrive_113 : decode b_Y_arrive 113 = .ok (.iconst 1, 1) := by decide +kernel
theorem d_Y_arrive_114 : decode b_Y_arrive 114 = .ok (.putfield 66, 3) := by decide +kernel
theorem d_Y_arrive_117 : decode b_Y_arrive 117 = .ok (.iconst 1, 1) := by decide +kernel
theorem d_Y_arrive_118 : decode b_Y_arrive 118 = .ok (.ireturn, 1) := by decide +kernel
theorem d_Y_waiting_0 : decode b_Y_waiting 0 = .ok (.iconst 0, 1) := by decide +kernel
theorem d_Y_waiting_1 : decode b_Y_waiting 1 = .ok (.istore_n 1, 1) := by decide +kernel
theorem d_Y_waiting_2 : decode b_Y_waiting 2 = .ok (.iconst 1, 1) := by decide +kernel
theorem d_Y_waiting_3 : decode b_Y_waiting 3 = .ok (.istore_n 2, 1) := by decide +kernel
theorem d_Y_waiting_4 : decode b_Y_waiting 4 = .ok (.iload_n 2, 1) := by decide +kernel
theorem d_Y_waiting_5 : decode b_Y_waiting 5 = .ok (.bipush 8, 2) := by decide +kernel
theorem d_Y_waiting_7 : decode b_Y_waiting 7 = .ok (.if_icmp .gt 54, 3) := by decide +kernel
theorem d_Y_waiting_10 : decode b_Y_waiting 10 = .ok (.aload_n 0, 1) := by decide +kernel
theorem d_Y_waiting_11 : decode b_Y_waiting 11 = .ok (.getfield 7, 3) := by decide +kernel
theorem d_Y_waiting_14 : decode b_Y_waiting 14 = .ok (.iload_n 2, 1) := by decide +kernel
theorem d_Y_waiting_15 : decode b_Y_waiting 15 = .ok (.baload, 1) := by decide +kernel
theorem d_Y_waiting_16 : decode b_Y_waiting 16 = .ok (.ifCond .eq 39, 3) := by decide +kernel
theorem d_Y_waiting_19 : decode b_Y_waiting 19 = .ok (.aload_n 0, 1) := by decide +kernel
theorem d_Y_waiting_20 : decode b_Y_waiting 20 = .ok (.getfield 35, 3) := by decide +kernel
theorem d_Y_waiting_23 : decode b_Y_waiting 23 = .ok (.iload_n 2, 1) := by decide +kernel
theorem d_Y_waiting_24 : decode b_Y_waiting 24 = .ok (.iaload, 1) := by decide +kernel
theorem d_Y_waiting_25 : decode b_Y_waiting 25 = .ok (.aload_n 0, 1) := by decide +kernel
theorem d_Y_waiting_26 : decode b_Y_waiting 26 = .ok (.getfield 38, 3) := by decide +kernel
theorem d_Y_waiting_29 : decode b_Y_waiting 29 = .ok (.iload_n 2, 1) := by decide +kernel
theorem d_Y_waiting_30 : decode b_Y_waiting 30 = .ok (.iaload, 1) := by decide +kernel
theorem d_Y_waiting_31 : decode b_Y_waiting 31 = .ok (.if_icmp .le 24, 3) := by decide +kernel
theorem d_Y_waiting_34 : decode b_Y_waiting 34 = .ok (.iload_n 1, 1) := by decide +kernel
theorem d_Y_waiting_35 : decode b_Y_waiting 35 = .ok (.ifCond .eq 18, 3) := by decide +kernel
theorem d_Y_waiting_38 : decode b_Y_waiting 38 = .ok (.aload_n 0, 1) := by decide +kernel
theorem d_Y_waiting_39 : decode b_Y_waiting 39 = .ok (.getfield 20, 3) := by decide +kernel
theorem d_Y_waiting_42 : decode b_Y_waiting 42 = .ok (.iload_n 2, 1) := by decide +kernel
theorem d_Y_waiting_43 : decode b_Y_waiting 43 = .ok (.iaload, 1) := by decide +kernel
theorem d_Y_waiting_44 : decode b_Y_waiting 44 = .ok (.aload_n 0, 1) := by decide +kernel
theorem d_Y_waiting_45 : decode b_Y_waiting 45 = .ok (.getfield 20, 3) := by decide +kernel
theorem d_Y_waiting_48 : decode b_Y_waiting 48 = .ok (.iload_n 1, 1) := by decide +kernel
theorem d_Y_waiting_49 : decode b_Y_waiting 49 = .ok (.iaload, 1) := by decide +kernel
theorem d_Y_waiting_50 : decode b_Y_waiting 50 = .ok (.if_icmp .le 5, 3) := by decide +kernel
theorem d_Y_waiting_53 : decode b_Y_waiting 53 = .ok (.iload_n 2, 1) := by decide +kernel
theorem d_Y_waiting_54 : decode b_Y_waiting 54 = .ok (.istore_n 1, 1) := by decide +kernel
theorem d_Y_waiting_55 : decode b_Y_waiting 55 = .ok (.iinc 2 1, 3) := by decide +kernel
theorem d_Y_waiting_58 : decode b_Y_waiting 58 = .ok (.goto (-54), 3) := by decide +kernel
theorem d_Y_waiting_61 : decode b_Y_waiting 61 = .ok (.iload_n 1, 1) := by decide +kernel
theorem d_Y_waiting_62 : decode b_Y_waiting 62 = .ok (.ireturn, 1) := by decide +kernel
theorem d_Y_begin_0 : decode b_Y_begin 0 = .ok (.aload_n 0, 1) := by decide +kernel
theorem d_Y_begin_1 : decode b_Y_begin 1 = .ok (.invokevirtual 161, 3) := by decide +kernel
theorem d_Y_begin_4 : decode b_Y_begin 4 = .ok (.istore_n 1, 1) := by decide +kernel
theorem d_Y_begin_5 : decode b_Y_begin 5 = .ok (.iload_n 1, 1) := by decide +kernel
theorem d_Y_begin_6 : decode b_Y_begin 6 = .ok (.ifCond .ne 4, 3) := by decide +kernel
theorem d_Y_begin_9 : decode b_Y_begin 9 = .ok (.return_, 1) := by decide +kernel
theorem d_Y_begin_10 : decode b_Y_begin 10 = .ok (.aload_n 0, 1) := by decide +kernel
theorem d_Y_begin_11 : decode b_Y_begin 11 = .ok (.getfield 83, 3) := by decide +kernel
theorem d_Y_begin_14 : decode b_Y_begin 14 = .ok (.ifCond .eq 24, 3) := by decide +kernel
theorem d_Y_begin_17 : decode b_Y_begin 17 = .ok (.aload_n 0, 1) := by decide +kernel
theorem d_Y_begin_18 : decode b_Y_begin 18 = .ok (.getfield 83, 3) := by decide +kernel
theorem d_Y_begin_21 : decode b_Y_begin 21 = .ok (.iload_n 1, 1) := by decide +kernel
theorem d_Y_begin_22 : decode b_Y_begin 22 = .ok (.if_icmp .eq 16, 3) := by decide +kernel
theorem d_Y_begin_25 : decode b_Y_begin 25 = .ok (.aload_n 0, 1) := by decide +kernel
theorem d_Y_begin_26 : decode b_Y_begin 26 = .ok (.getfield 53, 3) := by decide +kernel
theorem d_Y_begin_29 : decode b_Y_begin 29 = .ok (.aload_n 0, 1) := by decide +kernel
theorem d_Y_begin_30 : decode b_Y_begin 30 = .ok (.getfield 83, 3) := by decide +kernel
theorem d_Y_begin_33 : decode b_Y_begin 33 = .ok (.dup2, 1) := by decide +kernel
theorem d_Y_begin_34 : decode b_Y_begin 34 = .ok (.iaload, 1) := by decide +kernel
theorem d_Y_begin_35 : decode b_Y_begin 35 = .ok (.iconst 1, 1) := by decide +kernel
theorem d_Y_begin_36 : decode b_Y_begin 36 = .ok (.iadd, 1) := by decide +kernel
theorem d_Y_begin_37 : decode b_Y_begin 37 = .ok (.iastore, 1) := by decide +kernel
theorem d_Y_begin_38 : decode b_Y_begin 38 = .ok (.aload_n 0, 1) := by decide +kernel
theorem d_Y_begin_39 : decode b_Y_begin 39 = .ok (.iconst 0, 1) := by decide +kernel
theorem d_Y_begin_40 : decode b_Y_begin 40 = .ok (.putfield 83, 3) := by decide +kernel
theorem d_Y_begin_43 : decode b_Y_begin 43 = .ok (.aload_n 0, 1) := by decide +kernel
theorem d_Y_begin_44 : decode b_Y_begin 44 = .ok (.iload_n 1, 1) := by decide +kernel
theorem d_Y_begin_45 : decode b_Y_begin 45 = .ok (.putfield 77, 3) := by decide +kernel
theorem d_Y_begin_48 : decode b_Y_begin 48 = .ok (.aload_n 0, 1) := by decide +kernel
theorem d_Y_begin_49 : decode b_Y_begin 49 = .ok (.aload_n 0, 1) := by decide +kernel
theorem d_Y_begin_50 : decode b_Y_begin 50 = .ok (.getfield 26, 3) := by decide +kernel
theorem d_Y_begin_53 : decode b_Y_begin 53 = .ok (.bipush 8, 2) := by decide +kernel
theorem d_Y_begin_55 : decode b_Y_begin 55 = .ok (.iload_n 1, 1) := by decide +kernel
theorem d_Y_begin_56 : decode b_Y_begin 56 = .ok (.imul, 1) := by decide +kernel
theorem d_Y_begin_57 : decode b_Y_begin 57 = .ok (.aload_n 0, 1) := by decide +kernel
theorem d_Y_begin_58 : decode b_Y_begin 58 = .ok (.getfield 47, 3) := by decide +kernel
theorem d_Y_begin_61 : decode b_Y_begin 61 = .ok (.iload_n 1, 1) := by decide +kernel
theorem d_Y_begin_62 : decode b_Y_begin 62 = .ok (.iaload, 1) := by decide +kernel
theorem d_Y_begin_63 : decode b_Y_begin 63 = .ok (.iadd, 1) := by decide +kernel
theorem d_Y_begin_64 : decode b_Y_begin 64 = .ok (.iaload, 1) := by decide +kernel
theorem d_Y_begin_65 : decode b_Y_begin 65 = .ok (.putfield 80, 3) := by decide +kernel
theorem d_Y_begin_68 : decode b_Y_begin 68 = .ok (.aload_n 0, 1) := by decide +kernel
theorem d_Y_begin_69 : decode b_Y_begin 69 = .ok (.getfield 47, 3) := by decide +kernel
theorem d_Y_begin_72 : decode b_Y_begin 72 = .ok (.iload_n 1, 1) := by decide +kernel
theorem d_Y_begin_73 : decode b_Y_begin 73 = .ok (.dup2, 1) := by decide +kernel
theorem d_Y_begin_74 : decode b_Y_begin 74 = .ok (.iaload, 1) := by decide +kernel
theorem d_Y_begin_75 : decode b_Y_begin 75 = .ok (.iconst 1, 1) := by decide +kernel
theorem d_Y_begin_76 : decode b_Y_begin 76 = .ok (.iadd, 1) := by decide +kernel
theorem d_Y_begin_77 : decode b_Y_begin 77 = .ok (.iastore, 1) := by decide +kernel
theorem d_Y_begin_78 : decode b_Y_begin 78 = .ok (.return_, 1) := by decide +kernel
theorem d_Y_finish_0 : decode b_Y_finish 0 = .ok (.aload_n 0, 1) := by decide +kernel
theorem d_Y_finish_1 : decode b_Y_finish 1 = .ok (.getfield 74, 3) := by decide +kernel
theorem d_Y_finish_4 : decode b_Y_finish 4 = .ok (.aload_n 0, 1) := by decide +kernel
theorem d_Y_finish_5 : decode b_Y_finish 5 = .ok (.getfield 44, 3) := by decide +kernel
theorem d_Y_finish_8 : decode b_Y_finish 8 = .ok (.bipush 9, 2) := by decide +kernel
theorem d_Y_finish_10 : decode b_Y_finish 10 = .ok (.iload_n 1, 1) := by decide +kernel
theorem d_Y_finish_11 : decode b_Y_finish 11 = .ok (.imul, 1) := by decide +kernel
theorem d_Y_finish_12 : decode b_Y_finish 12 = .ok (.aload_n 0, 1) := by decide +kernel
theorem d_Y_finish_13 : decode b_Y_finish 13 = .ok (.getfield 38, 3) := by decide +kernel
theorem d_Y_finish_16 : decode b_Y_finish 16 = .ok (.iload_n 1, 1) := by decide +kernel
theorem d_Y_finish_17 : decode b_Y_finish 17 = .ok (.iaload, 1) := by decide +kernel
theorem d_Y_finish_18 : decode b_Y_finish 18 = .ok (.bipush 9, 2) := by decide +kernel
theorem d_Y_finish_20 : decode b_Y_finish 20 = .ok (.irem, 1) := by decide +kernel
theorem d_Y_finish_21 : decode b_Y_finish 21 = .ok (.iadd, 1) := by decide +kernel
theorem d_Y_finish_22 : decode b_Y_finish 22 = .ok (.iaload, 1) := by decide +kernel
theorem d_Y_finish_23 : decode b_Y_finish 23 = .ok (.isub, 1) := by decide +kernel
theorem d_Y_finish_24 : decode b_Y_finish 24 = .ok (.istore_n 2, 1) := by decide +kernel
theorem d_Y_finish_25 : decode b_Y_finish 25 = .ok (.aload_n 0, 1) := by decide +kernel
theorem d_Y_finish_26 : decode b_Y_finish 26 = .ok (.getfield 38, 3) := by decide +kernel
theorem d_Y_finish_29 : decode b_Y_finish 29 = .ok (.iload_n 1, 1) := by decide +kernel
theorem d_Y_finish_30 : decode b_Y_finish 30 = .ok (.iaload, 1) := by decide +kernel
theorem d_Y_finish_31 : decode b_Y_finish 31 = .ok (.sipush 200, 3) := by decide +kernel
theorem d_Y_finish_34 : decode b_Y_finish 34 = .ok (.if_icmp .ge 21, 3) := by decide +kernel
theorem d_Y_finish_37 : decode b_Y_finish 37 = .ok (.aload_n 0, 1) := by decide +kernel
theorem d_Y_finish_38 : decode b_Y_finish 38 = .ok (.getfield 59, 3) := by decide +kernel
theorem d_Y_finish_41 : decode b_Y_finish 41 = .ok (.sipush 200, 3) := by decide +kernel
theorem d_Y_finish_44 : decode b_Y_finish 44 = .ok (.iload_n 1, 1) := by decide +kernel
theorem d_Y_finish_45 : decode b_Y_finish 45 = .ok (.imul, 1) := by decide +kernel
theorem d_Y_finish_46 : decode b_Y_finish 46 = .ok (.aload_n 0, 1) := by decide +kernel
theorem d_Y_finish_47 : decode b_Y_finish 47 = .ok (.getfield 38, 3) := by decide +kernel
theorem d_Y_finish_50 : decode b_Y_finish 50 = .ok (.iload_n 1, 1) := by decide +kernel
theorem d_Y_finish_51 : decode b_Y_finish 51 = .ok (.iaload, 1) := by decide +kernel
theorem d_Y_finish_52 : decode b_Y_finish 52 = .ok (.iadd, 1) := by decide +kernel
theorem d_Y_finish_53 : decode b_Y_finish 53 = .ok (.iload_n 2, 1) := by decide +kernel
theorem d_Y_finish_54 : decode b_Y_finish 54 = .ok (.iastore, 1) := by decide +kernel
theorem d_Y_finish_55 : decode b_Y_finish 55 = .ok (.aload_n 0, 1) := by decide +kernel
theorem d_Y_finish_56 : decode b_Y_finish 56 = .ok (.getfield 38, 3) := by decide +kernel
theorem d_Y_finish_59 : decode b_Y_finish 59 = .ok (.iload_n 1, 1) := by decide +kernel
theorem d_Y_finish_60 : decode b_Y_finish 60 = .ok (.dup2, 1) := by decide +kernel
theorem d_Y_finish_61 : decode b_Y_finish 61 = .ok (.iaload, 1) := by decide +kernel
theorem d_Y_finish_62 : decode b_Y_finish 62 = .ok (.iconst 1, 1) := by decide +kernel
theorem d_Y_finish_63 : decode b_Y_finish 63 = .ok (.iadd, 1) := by decide +kernel
theorem d_Y_finish_64 : decode b_Y_finish 64 = .ok (.iastore, 1) := by decide +kernel
theorem d_Y_finish_65 : decode b_Y_finish 65 = .ok (.aload_n 0, 1) := by decide +kernel
theorem d_Y_finish_66 : decode b_Y_finish 66 = .ok (.getfield 47, 3) := by decide +kernel
theorem d_Y_finish_69 : decode b_Y_finish 69 = .ok (.iload_n 1, 1) := by decide +kernel
theorem d_Y_finish_70 : decode b_Y_finish 70 = .ok (.iconst 0, 1) := by decide +kernel
theorem d_Y_finish_71 : decode b_Y_finish 71 = .ok (.iastore, 1) := by decide +kernel
theorem d_Y_finish_72 : decode b_Y_finish 72 = .ok (.iload_n 2, 1) := by decide +kernel
theorem d_Y_finish_73 : decode b_Y_finish 73 = .ok (.aload_n 0, 1) := by decide +kernel
theorem d_Y_finish_74 : decode b_Y_finish 74 = .ok (.getfield 50, 3) := by decide +kernel
theorem d_Y_finish_77 : decode b_Y_finish 77 = .ok (.iload_n 1, 1) := by decide +kernel
theorem d_Y_finish_78 : decode b_Y_finish 78 = .ok (.iaload, 1) := by decide +kernel
theorem d_Y_finish_79 : decode b_Y_finish 79 = .ok (.if_icmp .le 10, 3) := by decide +kernel
theorem d_Y_finish_82 : decode b_Y_finish 82 = .ok (.aload_n 0, 1) := by decide +kernel
theorem d_Y_finish_83 : decode b_Y_finish 83 = .ok (.getfield 50, 3) := by decide +kernel
theorem d_Y_finish_86 : decode b_Y_finish 86 = .ok (.iload_n 1, 1) := by decide +kernel
theorem d_Y_finish_87 : decode b_Y_finish 87 = .ok (.iload_n 2, 1) := by decide +kernel
theorem d_Y_finish_88 : decode b_Y_finish 88 = .ok (.iastore, 1) := by decide +kernel
theorem d_Y_finish_89 : decode b_Y_finish 89 = .ok (.iload_n 2, 1) := by decide +kernel
theorem d_Y_finish_90 : decode b_Y_finish 90 = .ok (.aload_n 0, 1) := by decide +kernel
theorem d_Y_finish_91 : decode b_Y_finish 91 = .ok (.getfield 17, 3) := by decide +kernel
theorem d_Y_finish_94 : decode b_Y_finish 94 = .ok (.iload_n 1, 1) := by decide +kernel
theorem d_Y_finish_95 : decode b_Y_finish 95 = .ok (.iaload, 1) := by decide +kernel
theorem d_Y_finish_96 : decode b_Y_finish 96 = .ok (.if_icmp .le 13, 3) := by decide +kernel
theorem d_Y_finish_99 : decode b_Y_finish 99 = .ok (.aload_n 0, 1) := by decide +kernel
theorem d_Y_finish_100 : decode b_Y_finish 100 = .ok (.getfield 56, 3) := by decide +kernel
theorem d_Y_finish_103 : decode b_Y_finish 103 = .ok (.iload_n 1, 1) := by decide +kernel
theorem d_Y_finish_104 : decode b_Y_finish 104 = .ok (.dup2, 1) := by decide +kernel
theorem d_Y_finish_105 : decode b_Y_finish 105 = .ok (.iaload, 1) := by decide +kernel
theorem d_Y_finish_106 : decode b_Y_finish 106 = .ok (.iconst 1, 1) := by decide +kernel
theorem d_Y_finish_107 : decode b_Y_finish 107 = .ok (.iadd, 1) := by decide +kernel
theorem d_Y_finish_108 : decode b_Y_finish 108 = .ok (.iastore, 1) := by decide +kernel
theorem d_Y_finish_109 : decode b_Y_finish 109 = .ok (.return_, 1) := by decide +kernel
theorem d_Y_step_0 : decode b_Y_step 0 = .ok (.aload_n 0, 1) := by decide +kernel
theorem d_Y_step_1 : decode b_Y_step 1 = .ok (.getfield 77, 3) := by decide +kernel
theorem d_Y_step_4 : decode b_Y_step 4 = .ok (.ifCond .ne 7, 3) := by decide +kernel
theorem d_Y_step_7 : decode b_Y_step 7 = .ok (.aload_n 0, 1) := by decide +kernel
theorem d_Y_step_8 : decode b_Y_step 8 = .ok (.invokevirtual 164, 3) := by decide +kernel
theorem d_Y_step_11 : decode b_Y_step 11 = .ok (.aload_n 0, 1) := by decide +kernel
theorem d_Y_step_12 : decode b_Y_step 12 = .ok (.dup, 1) := by decide +kernel
theorem d_Y_step_13 : decode b_Y_step 13 = .ok (.getfield 74, 3) := by decide +kernel
theorem d_Y_step_16 : decode b_Y_step 16 = .ok (.iconst 1, 1) := by decide +kernel
theorem d_Y_step_17 : decode b_Y_step 17 = .ok (.iadd, 1) := by decide +kernel
theorem d_Y_step_18 : decode b_Y_step 18 = .ok (.putfield 74, 3) := by decide +kernel
theorem d_Y_step_21 : decode b_Y_step 21 = .ok (.aload_n 0, 1) := by decide +kernel
theorem d_Y_step_22 : decode b_Y_step 22 = .ok (.getfield 77, 3) := by decide +kernel
theorem d_Y_step_25 : decode b_Y_step 25 = .ok (.istore_n 1, 1) := by decide +kernel
theorem d_Y_step_26 : decode b_Y_step 26 = .ok (.iload_n 1, 1) := by decide +kernel
theorem d_Y_step_27 : decode b_Y_step 27 = .ok (.ifCond .ne 5, 3) := by decide +kernel
theorem d_Y_step_30 : decode b_Y_step 30 = .ok (.iconst 0, 1) := by decide +kernel
theorem d_Y_step_31 : decode b_Y_step 31 = .ok (.ireturn, 1) := by decide +kernel
theorem d_Y_step_32 : decode b_Y_step 32 = .ok (.aload_n 0, 1) := by decide +kernel
theorem d_Y_step_33 : decode b_Y_step 33 = .ok (.dup, 1) := by decide +kernel
theorem d_Y_step_34 : decode b_Y_step 34 = .ok (.getfield 80, 3) := by decide +kernel
theorem d_Y_step_37 : decode b_Y_step 37 = .ok (.iconst 1, 1) := by decide +kernel
theorem d_Y_step_38 : decode b_Y_step 38 = .ok (.isub, 1) := by decide +kernel
theorem d_Y_step_39 : decode b_Y_step 39 = .ok (.putfield 80, 3) := by decide +kernel
theorem d_Y_step_42 : decode b_Y_step 42 = .ok (.aload_n 0, 1) := by decide +kernel
theorem d_Y_step_43 : decode b_Y_step 43 = .ok (.getfield 80, 3) := by decide +kernel
theorem d_Y_step_46 : decode b_Y_step 46 = .ok (.ifCond .le 5, 3) := by decide +kernel
theorem d_Y_step_49 : decode b_Y_step 49 = .ok (.iload_n 1, 1) := by decide +kernel
theorem d_Y_step_50 : decode b_Y_step 50 = .ok (.ireturn, 1) := by decide +kernel
theorem d_Y_step_51 : decode b_Y_step 51 = .ok (.aload_n 0, 1) := by decide +kernel
theorem d_Y_step_52 : decode b_Y_step 52 = .ok (.iconst 0, 1) := by decide +kernel
theorem d_Y_step_53 : decode b_Y_step 53 = .ok (.putfield 77, 3) := by decide +kernel
theorem d_Y_step_56 : decode b_Y_step 56 = .ok (.aload_n 0, 1) := by decide +kernel
theorem d_Y_step_57 : decode b_Y_step 57 = .ok (.getfield 47, 3) := by decide +kernel
theorem d_Y_step_60 : decode b_Y_step 60 = .ok (.iload_n 1, 1) := by decide +kernel
theorem d_Y_step_61 : decode b_Y_step 61 = .ok (.iaload, 1) := by decide +kernel
theorem d_Y_step_62 : decode b_Y_step 62 = .ok (.aload_n 0, 1) := by decide +kernel
theorem d_Y_step_63 : decode b_Y_step 63 = .ok (.getfield 23, 3) := by decide +kernel
theorem d_Y_step_66 : decode b_Y_step 66 = .ok (.iload_n 1, 1) := by decide +kernel
theorem d_Y_step_67 : decode b_Y_step 67 = .ok (.iaload, 1) := by decide +kernel
theorem d_Y_step_68 : decode b_Y_step 68 = .ok (.if_icmp .ne 11, 3) := by decide +kernel
theorem d_Y_step_71 : decode b_Y_step 71 = .ok (.aload_n 0, 1) := by decide +kernel
theorem d_Y_step_72 : decode b_Y_step 72 = .ok (.iload_n 1, 1) := by decide +kernel
theorem d_Y_step_73 : decode b_Y_step 73 = .ok (.invokevirtual 167, 3) := by decide +kernel
theorem d_Y_step_76 : decode b_Y_step 76 = .ok (.goto 8, 3) := by decide +kernel
theorem d_Y_step_79 : decode b_Y_step 79 = .ok (.aload_n 0, 1) := by decide +kernel
theorem d_Y_step_80 : decode b_Y_step 80 = .ok (.iload_n 1, 1) := by decide +kernel
theorem d_Y_step_81 : decode b_Y_step 81 = .ok (.putfield 83, 3) := by decide +kernel
theorem d_Y_step_84 : decode b_Y_step 84 = .ok (.iload_n 1, 1) := by decide +kernel
theorem d_Y_step_85 : decode b_Y_step 85 = .ok (.ireturn, 1) := by decide +kernel
theorem d_Y_tick_0 : decode b_Y_tick 0 = .ok (.iload_n 1, 1) := by decide +kernel
theorem d_Y_tick_1 : decode b_Y_tick 1 = .ok (.iconst 1, 1) := by decide +kernel
theorem d_Y_tick_2 : decode b_Y_tick 2 = .ok (.if_icmp .lt 10, 3) := by decide +kernel
theorem d_Y_tick_5 : decode b_Y_tick 5 = .ok (.iload_n 1, 1) := by decide +kernel
theorem d_Y_tick_6 : decode b_Y_tick 6 = .ok (.sipush 2000, 3) := by decide +kernel
theorem d_Y_tick_9 : decode b_Y_tick 9 = .ok (.if_icmp .le 9, 3) := by decide +kernel
theorem d_Y_tick_12 : decode b_Y_tick 12 = .ok (.aload_n 0, 1) := by decide +kernel
theorem d_Y_tick_13 : decode b_Y_tick 13 = .ok (.iconst 1, 1) := by decide +kernel
theorem d_Y_tick_14 : decode b_Y_tick 14 = .ok (.invokevirtual 145, 3) := by decide +kernel
theorem d_Y_tick_17 : decode b_Y_tick 17 = .ok (.ireturn, 1) := by decide +kernel
theorem d_Y_tick_18 : decode b_Y_tick 18 = .ok (.aload_n 0, 1) := by decide +kernel
theorem d_Y_tick_19 : decode b_Y_tick 19 = .ok (.iconst 0, 1) := by decide +kernel
theorem d_Y_tick_20 : decode b_Y_tick 20 = .ok (.putfield 62, 3) := by decide +kernel
theorem d_Y_tick_23 : decode b_Y_tick 23 = .ok (.iconst 0, 1) := by decide +kernel
theorem d_Y_tick_24 : decode b_Y_tick 24 = .ok (.istore_n 2, 1) := by decide +kernel
theorem d_Y_tick_25 : decode b_Y_tick 25 = .ok (.iconst 0, 1) := by decide +kernel
theorem d_Y_tick_26 : decode b_Y_tick 26 = .ok (.istore_n 3, 1) := by decide +kernel
theorem d_Y_tick_27 : decode b_Y_tick 27 = .ok (.iload_n 3, 1) := by decide +kernel
theorem d_Y_tick_28 : decode b_Y_tick 28 = .ok (.iload_n 1, 1) := by decide +kernel
theorem d_Y_tick_29 : decode b_Y_tick 29 = .ok (.if_icmp .ge 14, 3) := by decide +kernel
theorem d_Y_tick_32 : decode b_Y_tick 32 = .ok (.aload_n 0, 1) := by decide +kernel
theorem d_Y_tick_33 : decode b_Y_tick 33 = .ok (.invokevirtual 171, 3) := by decide +kernel
theorem d_Y_tick_36 : decode b_Y_tick 36 = .ok (.istore_n 2, 1) := by decide +kernel
theorem d_Y_tick_37 : decode b_Y_tick 37 = .ok (.iinc 3 1, 3) := by decide +kernel
theorem d_Y_tick_40 : decode b_Y_tick 40 = .ok (.goto (-13), 3) := by decide +kernel
theorem d_Y_tick_43 : decode b_Y_tick 43 = .ok (.iload_n 2, 1) := by decide +kernel
theorem d_Y_tick_44 : decode b_Y_tick 44 = .ok (.ireturn, 1) := by decide +kernel
theorem d_Y_now_0 : decode b_Y_now 0 = .ok (.aload_n 0, 1) := by decide +kernel
theorem d_Y_now_1 : decode b_Y_now 1 = .ok (.iconst 0, 1) := by decide +kernel
theorem d_Y_now_2 : decode b_Y_now 2 = .ok (.putfield 62, 3) := by decide +kernel
theorem d_Y_now_5 : decode b_Y_now 5 = .ok (.aload_n 0, 1) := by decide +kernel
theorem d_Y_now_6 : decode b_Y_now 6 = .ok (.getfield 74, 3) := by decide +kernel
theorem d_Y_now_9 : decode b_Y_now 9 = .ok (.ireturn, 1) := by decide +kernel
theorem d_Y_ended_0 : decode b_Y_ended 0 = .ok (.aload_n 0, 1) := by decide +kernel
theorem d_Y_ended_1 : decode b_Y_ended 1 = .ok (.iconst 0, 1) := by decide +kernel
theorem d_Y_ended_2 : decode b_Y_ended 2 = .ok (.putfield 62, 3) := by decide +kernel
theorem d_Y_ended_5 : decode b_Y_ended 5 = .ok (.aload_n 0, 1) := by decide +kernel
theorem d_Y_ended_6 : decode b_Y_ended 6 = .ok (.iload_n 1, 1) := by decide +kernel
theorem d_Y_ended_7 : decode b_Y_ended 7 = .ok (.invokevirtual 70, 3) := by decide +kernel
theorem d_Y_ended_10 : decode b_Y_ended 10 = .ok (.ifCond .eq 24, 3) := by decide +kernel
theorem d_Y_ended_13 : decode b_Y_ended 13 = .ok (.iload_n 2, 1) := by decide +kernel
theorem d_Y_ended_14 : decode b_Y_ended 14 = .ok (.ifCond .lt 20, 3) := by decide +kernel
theorem d_Y_ended_17 : decode b_Y_ended 17 = .ok (.iload_n 2, 1) := by decide +kernel
theorem d_Y_ended_18 : decode b_Y_ended 18 = .ok (.aload_n 0, 1) := by decide +kernel
theorem d_Y_ended_19 : decode b_Y_ended 19 = .ok (.getfield 38, 3) := by decide +kernel
theorem d_Y_ended_22 : decode b_Y_ended 22 = .ok (.iload_n 1, 1) := by decide +kernel
theorem d_Y_ended_23 : decode b_Y_ended 23 = .ok (.iaload, 1) := by decide +kernel
theorem d_Y_ended_24 : decode b_Y_ended 24 = .ok (.if_icmp .ge 10, 3) := by decide +kernel
theorem d_Y_ended_27 : decode b_Y_ended 27 = .ok (.iload_n 2, 1) := by decide +kernel
theorem d_Y_ended_28 : decode b_Y_ended 28 = .ok (.sipush 200, 3) := by decide +kernel
theorem d_Y_ended_31 : decode b_Y_ended 31 = .ok (.if_icmp .lt 7, 3) := by decide +kernel
theorem d_Y_ended_34 : decode b_Y_ended 34 = .ok (.iconst (-1), 1) := by decide +kernel
theorem d_Y_ended_35 : decode b_Y_ended 35 = .ok (.goto 15, 3) := by decide +kernel
theorem d_Y_ended_38 : decode b_Y_ended 38 = .ok (.aload_n 0, 1) := by decide +kernel
theorem d_Y_ended_39 : decode b_Y_ended 39 = .ok (.getfield 59, 3) := by decide +kernel
theorem d_Y_ended_42 : decode b_Y_ended 42 = .ok (.sipush 200, 3) := by decide +kernel
theorem d_Y_ended_45 : decode b_Y_ended 45 = .ok (.iload_n 1, 1) := by decide +kernel
theorem d_Y_ended_46 : decode b_Y_ended 46 = .ok (.imul, 1) := by decide +kernel
theorem d_Y_ended_47 : decode b_Y_ended 47 = .ok (.iload_n 2, 1) := by decide +kernel
theorem d_Y_ended_48 : decode b_Y_ended 48 = .ok (.iadd, 1) := by decide +kernel
theorem d_Y_ended_49 : decode b_Y_ended 49 = .ok (.iaload, 1) := by decide +kernel
theorem d_Y_ended_50 : decode b_Y_ended 50 = .ok (.ireturn, 1) := by decide +kernel
theorem d_Y_seen_0 : decode b_Y_seen 0 = .ok (.aload_n 0, 1) := by decide +kernel
theorem d_Y_seen_1 : decode b_Y_seen 1 = .ok (.iconst 0, 1) := by decide +kernel
theorem d_Y_seen_2 : decode b_Y_seen 2 = .ok (.putfield 62, 3) := by decide +kernel
theorem d_Y_seen_5 : decode b_Y_seen 5 = .ok (.aload_n 0, 1) := by decide +kernel
theorem d_Y_seen_6 : decode b_Y_seen 6 = .ok (.iload_n 1, 1) := by decide +kernel
theorem d_Y_seen_7 : decode b_Y_seen 7 = .ok (.invokevirtual 70, 3) := by decide +kernel
theorem d_Y_seen_10 : decode b_Y_seen 10 = .ok (.ifCond .ne 5, 3) := by decide +kernel
theorem d_Y_seen_13 : decode b_Y_seen 13 = .ok (.iconst (-1), 1) := by decide +kernel
theorem d_Y_seen_14 : decode b_Y_seen 14 = .ok (.ireturn, 1) := by decide +kernel
theorem d_Y_seen_15 : decode b_Y_seen 15 = .ok (.iload_n 2, 1) := by decide +kernel
theorem d_Y_seen_16 : decode b_Y_seen 16 = .ok (.tableswitch 92 0 5 #[40, 47, 54, 61, 68, 75], 40) := by decide +kernel
theorem d_Y_seen_56 : decode b_Y_seen 56 = .ok (.aload_n 0, 1) := by decide +kernel
theorem d_Y_seen_57 : decode b_Y_seen 57 = .ok (.getfield 35, 3) := by decide +kernel
theorem d_Y_seen_60 : decode b_Y_seen 60 = .ok (.iload_n 1, 1) := by decide +kernel
theorem d_Y_seen_61 : decode b_Y_seen 61 = .ok (.iaload, 1) := by decide +kernel
theorem d_Y_seen_62 : decode b_Y_seen 62 = .ok (.ireturn, 1) := by decide +kernel
theorem d_Y_seen_63 : decode b_Y_seen 63 = .ok (.aload_n 0, 1) := by decide +kernel
theorem d_Y_seen_64 : decode b_Y_seen 64 = .ok (.getfield 38, 3) := by decide +kernel
theorem d_Y_seen_67 : decode b_Y_seen 67 = .ok (.iload_n 1, 1) := by decide +kernel
theorem d_Y_seen_68 : decode b_Y_seen 68 = .ok (.iaload, 1) := by decide +kernel
theorem d_Y_seen_69 : decode b_Y_seen 69 = .ok (.ireturn, 1) := by decide +kernel
theorem d_Y_seen_70 : decode b_Y_seen 70 = .ok (.aload_n 0, 1) := by decide +kernel
theorem d_Y_seen_71 : decode b_Y_seen 71 = .ok (.getfield 50, 3) := by decide +kernel
theorem d_Y_seen_74 : decode b_Y_seen 74 = .ok (.iload_n 1, 1) := by decide +kernel
theorem d_Y_seen_75 : decode b_Y_seen 75 = .ok (.iaload, 1) := by decide +kernel
theorem d_Y_seen_76 : decode b_Y_seen 76 = .ok (.ireturn, 1) := by decide +kernel
theorem d_Y_seen_77 : decode b_Y_seen 77 = .ok (.aload_n 0, 1) := by decide +kernel
theorem d_Y_seen_78 : decode b_Y_seen 78 = .ok (.getfield 53, 3) := by decide +kernel
theorem d_Y_seen_81 : decode b_Y_seen 81 = .ok (.iload_n 1, 1) := by decide +kernel
theorem d_Y_seen_82 : decode b_Y_seen 82 = .ok (.iaload, 1) := by decide +kernel
theorem d_Y_seen_83 : decode b_Y_seen 83 = .ok (.ireturn, 1) := by decide +kernel
theorem d_Y_seen_84 : decode b_Y_seen 84 = .ok (.aload_n 0, 1) := by decide +kernel
theorem d_Y_seen_85 : decode b_Y_seen 85 = .ok (.getfield 56, 3) := by decide +kernel
theorem d_Y_seen_88 : decode b_Y_seen 88 = .ok (.iload_n 1, 1) := by decide +kernel
theorem d_Y_seen_89 : decode b_Y_seen 89 = .ok (.iaload, 1) := by decide +kernel
theorem d_Y_seen_90 : decode b_Y_seen 90 = .ok (.ireturn, 1) := by decide +kernel
theorem d_Y_seen_91 : decode b_Y_seen 91 = .ok (.aload_n 0, 1) := by decide +kernel
theorem d_Y_seen_92 : decode b_Y_seen 92 = .ok (.getfield 77, 3) := by decide +kernel
theorem d_Y_seen_95 : decode b_Y_seen 95 = .ok (.iload_n 1, 1) := by decide +kernel
theorem d_Y_seen_96 : decode b_Y_seen 96 = .ok (.if_icmp .ne 10, 3) := by decide +kernel
theorem d_Y_seen_99 : decode b_Y_seen 99 = .ok (.aload_n 0, 1) := by decide +kernel
theorem d_Y_seen_100 : decode b_Y_seen 100 = .ok (.getfield 80, 3) := by decide +kernel
theorem d_Y_seen_103 : decode b_Y_seen 103 = .ok (.goto 4, 3) := by decide +kernel
theorem d_Y_seen_106 : decode b_Y_seen 106 = .ok (.iconst 0, 1) := by decide +kernel
theorem d_Y_seen_107 : decode b_Y_seen 107 = .ok (.ireturn, 1) := by decide +kernel
theorem d_Y_seen_108 : decode b_Y_seen 108 = .ok (.iconst (-1), 1) := by decide +kernel
theorem d_Y_seen_109 : decode b_Y_seen 109 = .ok (.ireturn, 1) := by decide +kernel
end
section
/-! the class, as pure functions over its memory: written by program out of its bytecode (wip/gen) -/
def j_S_hasPriority_L2 (n : Nat) (M : MX) (a1 : Int32) : Nat → Int32 → Option Int32
  | 0, _ => none
  | f2 + 1, v2_2 =>
    if (M.2.1 0 2) ≤ v2_2 then
      some 0
    else
      if ¬ (v2_2 < 0 ∨ 8 ≤ v2_2.toNatClampNeg) then
        if (M.1 0 (M.2.2.1 v2_2.toNatClampNeg) 5) = a1 then
          some 1
        else
          j_S_hasPriority_L2 n M a1 f2 (v2_2 + 1)
      else none
def j_S_hasPriority (n : Nat) (M : MX) (a1 : Int32) : Option Int32 :=
  j_S_hasPriority_L2 n M a1 n 0
def j_S_find (n : Nat) (M : MX) (a1 : Int32) : Option (Option (Fin 8)) :=
  if a1 < 1 then
    some none
  else
    if a1 ≤ 8 then
      if ¬ ((a1 - 1) < 0 ∨ 8 ≤ (a1 - 1).toNatClampNeg) then
        if (M.2.1 0 2) ≤ (M.1 0 (fin8 (a1 - 1).toNatClampNeg) 8) then
          some none
        else
          some (some (fin8 (a1 - 1).toNatClampNeg))
      else none
    else
      some none
def j_T_become (n : Nat) (M : MX) (x0 : Fin 8) (a1 : Int32) (a2 : Int32) (a3 : Int32) : Option MX :=
  some (sF (sF (sF (sF (sF M 0 x0 3 a1) 0 x0 4 a2) 0 x0 5 a3) 0 x0 6 0) 0 x0 7 0)
def j_S_swap (n : Nat) (M : MX) (a1 : Int32) (a2 : Int32) : Option MX :=
  if ¬ (a1 < 0 ∨ 8 ≤ a1.toNatClampNeg) then
    if ¬ (a2 < 0 ∨ 8 ≤ a2.toNatClampNeg) then
      if ¬ (a1 < 0 ∨ 8 ≤ a1.toNatClampNeg) then
        if ¬ (a2 < 0 ∨ 8 ≤ a2.toNatClampNeg) then
          if ¬ (a1 < 0 ∨ 8 ≤ a1.toNatClampNeg) then
            if ¬ (a2 < 0 ∨ 8 ≤ a2.toNatClampNeg) then
              some (sF (sF (sR (sR M a1.toNatClampNeg (M.2.2.1 a2.toNatClampNeg)) a2.toNatClampNeg (M.2.2.1 a1.toNatClampNeg)) 0 ((sR (sR M a1.toNatClampNeg (M.2.2.1 a2.toNatClampNeg)) a2.toNatClampNeg (M.2.2.1 a1.toNatClampNeg)).2.2.1 a1.toNatClampNeg) 8 a1) 0 ((sF (sR (sR M a1.toNatClampNeg (M.2.2.1 a2.toNatClampNeg)) a2.toNatClampNeg (M.2.2.1 a1.toNatClampNeg)) 0 ((sR (sR M a1.toNatClampNeg (M.2.2.1 a2.toNatClampNeg)) a2.toNatClampNeg (M.2.2.1 a1.toNatClampNeg)).2.2.1 a1.toNatClampNeg) 8 a1).2.2.1 a2.toNatClampNeg) 8 a2)
            else none
          else none
        else none
      else none
    else none
  else none
def j_S_place_L17 (n : Nat) (x1 : Fin 8) : Nat → Int32 → MX → Option MX
  | 0, _, _ => none
  | f17 + 1, v2_17, M17 =>
    if v2_17 ≤ 0 then
      some (sG M17 0 2 ((M17.2.1 0 2) + 1))
    else
      if ¬ ((v2_17 - 1) < 0 ∨ 8 ≤ (v2_17 - 1).toNatClampNeg) then
        if ¬ (v2_17 < 0 ∨ 8 ≤ v2_17.toNatClampNeg) then
          if (M17.1 0 (M17.2.2.1 v2_17.toNatClampNeg) 5) ≤ (M17.1 0 (M17.2.2.1 (v2_17 - 1).toNatClampNeg) 5) then
            some (sG M17 0 2 ((M17.2.1 0 2) + 1))
          else
            (j_S_swap n M17 (v2_17 - 1) v2_17).bind fun M_8 =>
              j_S_place_L17 n x1 f17 (v2_17 + (-1)) M_8
        else none
      else none
def j_S_place (n : Nat) (M : MX) (x1 : Fin 8) : Option MX :=
  (j_S_swap n M (M.1 0 x1 8) (M.2.1 0 2)).bind fun M_2 =>
    j_S_place_L17 n x1 n (M_2.2.1 0 2) M_2
def j_T_forgetFindings (n : Nat) (M : MX) (x0 : Fin 8) : Option MX :=
  some (sF (sF M 0 x0 9 (-2)) 0 x0 12 (-2))
def j_S_forgetFindings_L2 (n : Nat) : Nat → Int32 → MX → Option MX
  | 0, _, _ => none
  | f2 + 1, v1_2, M2 =>
    if (M2.2.1 0 2) ≤ v1_2 then
      some M2
    else
      if ¬ (v1_2 < 0 ∨ 8 ≤ v1_2.toNatClampNeg) then
        (j_T_forgetFindings n M2 (M2.2.2.1 v1_2.toNatClampNeg)).bind fun M_4 =>
          j_S_forgetFindings_L2 n f2 (v1_2 + 1) M_4
      else none
def j_S_forgetFindings (n : Nat) (M : MX) : Option MX :=
  j_S_forgetFindings_L2 n n 0 M
def j_S_add (n : Nat) (M : MX) (a1 : Int32) (a2 : Int32) (a3 : Int32) (a4 : Int32) : Option (Int32 × MX) :=
  if a1 < 1 then
    some (0, M)
  else
    if 8 < a1 then
      some (0, M)
    else
      if a2 < 1 then
        some (0, M)
      else
        if a2 ≤ 1000 then
          if a3 < 1 then
            some (0, M)
          else
            if a3 ≤ (8 * a2) then
              if a4 < 0 then
                some (0, M)
              else
                if 99 < a4 then
                  some (0, M)
                else
                  (j_S_hasPriority n M a4).bind fun r_10 =>
                    if r_10 = 0 then
                      (j_S_find n M a1).bind fun r_13 =>
                        gw_oc r_13
                          (
                            if ¬ ((a1 - 1) < 0 ∨ 8 ≤ (a1 - 1).toNatClampNeg) then
                              (j_T_become n M (fin8 (a1 - 1).toNatClampNeg) a2 a3 a4).bind fun M_17 =>
                                if ¬ ((a1 - 1) < 0 ∨ 8 ≤ (a1 - 1).toNatClampNeg) then
                                  (j_S_place n M_17 (fin8 (a1 - 1).toNatClampNeg)).bind fun M_20 =>
                                    (j_S_forgetFindings n M_20).bind fun M_22 =>
                                      some (1, M_22)
                                else none
                            else none
                          )
                          (fun y_14 =>
                            some (0, M)
                          )
                    else
                      some (0, M)
            else
              some (0, M)
        else
          some (0, M)
def j_O_task (n : Nat) (M : MX) (a1 : Int32) (a2 : Int32) (a3 : Int32) (a4 : Int32) : Option (Int32 × MX) :=
  if (M.2.1 2 1) = 0 then
    (j_S_add n M a1 a2 a3 a4).bind fun q_3 =>
      if q_3.1 = 0 then
        some (0, q_3.2)
      else
        some (1, q_3.2)
  else
    some (0, M)
def j_T_append (n : Nat) (M : MX) (x0 : Fin 8) (a1 : Int32) : Option (Int32 × MX) :=
  if 8 ≤ (M.1 0 x0 6) then
    some (0, M)
  else
    if a1 < 1 then
      some (0, M)
    else
      if a1 ≤ 100 then
        if ¬ ((M.1 0 x0 6) < 0 ∨ 8 ≤ (M.1 0 x0 6).toNatClampNeg) then
          some (1, (sF (sF (sF M 2 x0 (M.1 0 x0 6).toNatClampNeg a1) 0 x0 6 (((sF M 2 x0 (M.1 0 x0 6).toNatClampNeg a1).1 0 x0 6) + 1)) 0 x0 7 (((sF (sF M 2 x0 (M.1 0 x0 6).toNatClampNeg a1) 0 x0 6 (((sF M 2 x0 (M.1 0 x0 6).toNatClampNeg a1).1 0 x0 6) + 1)).1 0 x0 7) + a1)))
        else none
      else
        some (0, M)
def j_S_addSegment (n : Nat) (M : MX) (a1 : Int32) (a2 : Int32) : Option (Int32 × MX) :=
  (j_S_find n M a1).bind fun r_2 =>
    gw_oc r_2
      (
        some (0, M)
      )
      (fun y_3 =>
        (j_T_append n M y_3 a2).bind fun q_5 =>
          if q_5.1 = 0 then
            some (0, q_5.2)
          else
            (j_S_forgetFindings n q_5.2).bind fun M_8 =>
              some (1, M_8)
      )
def j_O_segment (n : Nat) (M : MX) (a1 : Int32) (a2 : Int32) : Option (Int32 × MX) :=
  if (M.2.1 2 1) = 0 then
    (j_S_addSegment n M a1 a2).bind fun q_3 =>
      if q_3.1 = 0 then
        some (0, q_3.2)
      else
        some (1, q_3.2)
  else
    some (0, M)
def j_J_forget (n : Nat) (M : MX) (x0 : Fin 8) : Option MX :=
  some (sF (sF (sF (sF (sF (sF M 1 x0 2 0) 1 x0 3 0) 1 x0 4 0) 1 x0 5 0) 1 x0 6 0) 1 x0 7 0)
def j_K_forgetJobs_L2 (n : Nat) : Nat → Int32 → MX → Option MX
  | 0, _, _ => none
  | f2 + 1, v1_2, M2 =>
    if (M2.2.1 0 2) ≤ v1_2 then
      some (sP (sU (sG (sG (sG M2 2 1 0) 2 2 0) 2 3 0) none) none)
    else
      if ¬ (v1_2 < 0 ∨ 8 ≤ v1_2.toNatClampNeg) then
        (j_J_forget n M2 (M2.2.2.1 v1_2.toNatClampNeg)).bind fun M_4 =>
          j_K_forgetJobs_L2 n f2 (v1_2 + 1) M_4
      else none
def j_K_forgetJobs (n : Nat) (M : MX) : Option MX :=
  j_K_forgetJobs_L2 n n 0 M
def j_S_forgetTasks (n : Nat) (M : MX) : Option MX :=
  some (sG M 0 2 0)
def j_O_clear (n : Nat) (M : MX) : Option MX :=
  (j_K_forgetJobs n M).bind fun M_2 =>
    (j_S_forgetTasks n M_2).bind fun M_4 =>
      some M_4
def j_O_reset (n : Nat) (M : MX) : Option MX :=
  (j_K_forgetJobs n M).bind fun M_2 =>
    some M_2
def j_T_longestSegment_L4 (n : Nat) (M : MX) (x0 : Fin 8) : Nat → Int32 → Int32 → Option Int32
  | 0, _, _ => none
  | f4 + 1, v1_4, v2_4 =>
    if (M.1 0 x0 6) ≤ v2_4 then
      some v1_4
    else
      if ¬ (v2_4 < 0 ∨ 8 ≤ v2_4.toNatClampNeg) then
        j_T_longestSegment_L4 n M x0 f4 (if v1_4 < (M.1 2 x0 v2_4.toNatClampNeg) then (M.1 2 x0 v2_4.toNatClampNeg) else v1_4) (v2_4 + 1)
      else none
def j_T_longestSegment (n : Nat) (M : MX) (x0 : Fin 8) : Option Int32 :=
  j_T_longestSegment_L4 n M x0 n 0 0
def j_S_longestBelow_L9 (n : Nat) (M : MX) (x1 : Fin 8) : Nat → Int32 → Int32 → Option Int32
  | 0, _, _ => none
  | f9 + 1, v2_9, v3_9 =>
    if (M.2.1 0 2) ≤ v3_9 then
      some v2_9
    else
      if ¬ (v3_9 < 0 ∨ 8 ≤ v3_9.toNatClampNeg) then
        (j_T_longestSegment n M (M.2.2.1 v3_9.toNatClampNeg)).bind fun r_4 =>
          j_S_longestBelow_L9 n M x1 f9 (if v2_9 < r_4 then r_4 else v2_9) (v3_9 + 1)
      else none
def j_S_longestBelow (n : Nat) (M : MX) (x1 : Fin 8) : Option Int32 :=
  j_S_longestBelow_L9 n M x1 n 0 ((M.1 0 x1 8) + 1)
def j_S_blockingOf (n : Nat) (M : MX) (x1 : Fin 8) : Option Int32 :=
  (j_S_longestBelow n M x1).bind fun r_2 =>
    some (if 0 < (r_2 - 1) then (r_2 - 1) else 0)
def j_T_segmentAt (n : Nat) (M : MX) (x0 : Fin 8) (a1 : Int32) : Option Int32 :=
  if a1 < 0 then
    some (-1)
  else
    if a1 < (M.1 0 x0 6) then
      if ¬ (a1 < 0 ∨ 8 ≤ a1.toNatClampNeg) then
        some (M.1 2 x0 a1.toNatClampNeg)
      else none
    else
      some (-1)
def j_O_about (n : Nat) (M : MX) (a1 : Int32) (a2 : Int32) : Option Int32 :=
  (j_S_find n M a1).bind fun r_2 =>
    gw_oc r_2
      (
        some (-1)
      )
      (fun y_3 =>
        if a2 = 0 then
          some (M.1 0 y_3 3)
        else
        if a2 = 1 then
          some (M.1 0 y_3 4)
        else
        if a2 = 2 then
          some (M.1 0 y_3 5)
        else
        if a2 = 3 then
          some (M.1 0 y_3 6)
        else
        if a2 = 4 then
          some (M.1 0 y_3 7)
        else
        if a2 = 5 then
          (j_S_blockingOf n M y_3).bind fun r_10 =>
            some r_10
        else
          if 10 ≤ a2 then
            (j_T_segmentAt n M y_3 (a2 - 10)).bind fun r_14 =>
              some r_14
          else
            some (-1)
      )
def j_S_isReady_L2 (n : Nat) (M : MX) : Nat → Int32 → Option Int32
  | 0, _ => none
  | f2 + 1, v1_2 =>
    if (M.2.1 0 2) ≤ v1_2 then
      if (M.2.1 0 2) ≤ 0 then
        some 0
      else
        some 1
    else
      if ¬ (v1_2 < 0 ∨ 8 ≤ v1_2.toNatClampNeg) then
        if (M.1 0 (M.2.2.1 v1_2.toNatClampNeg) 6) = 0 then
          some 0
        else
          j_S_isReady_L2 n M f2 (v1_2 + 1)
      else none
def j_S_isReady (n : Nat) (M : MX) : Option Int32 :=
  j_S_isReady_L2 n M n 0
def j_T_arrivalsBy (n : Nat) (M : MX) (x0 : Fin 8) (a1 : Int32) : Option Int32 :=
  if a1 < 0 then
    some 0
  else
    if 1 ≤ (M.1 0 x0 3) then
      if ¬ (M.1 0 x0 3) = 0 then
        some ((a1 / (M.1 0 x0 3)) + 1)
      else none
    else
      some 0
def j_A_higherWorkBy_L5 (n : Nat) (M : MX) (x1 : Fin 8) (a2 : Int32) : Nat → Int32 → Int32 → Option Int32
  | 0, _, _ => none
  | f5 + 1, v3_5, v4_5 =>
    if (M.1 0 x1 8) ≤ v4_5 then
      some v3_5
    else
      if ¬ (v4_5 < 0 ∨ 8 ≤ v4_5.toNatClampNeg) then
        (j_T_arrivalsBy n M (M.2.2.1 v4_5.toNatClampNeg) a2).bind fun r_4 =>
          j_A_higherWorkBy_L5 n M x1 a2 f5 (v3_5 + (r_4 * (M.1 0 (M.2.2.1 v4_5.toNatClampNeg) 7))) (v4_5 + 1)
      else none
def j_A_higherWorkBy (n : Nat) (M : MX) (x1 : Fin 8) (a2 : Int32) : Option Int32 :=
  j_A_higherWorkBy_L5 n M x1 a2 n 0 0
def j_A_busyWith_L7 (n : Nat) (M : MX) (x1 : Fin 8) (a2 : Int32) : Nat → Int32 → Int32 → Option Int32
  | 0, _, _ => none
  | f7 + 1, v3_7, v4_7 =>
    if 20000 < v4_7 then
      some 20001
    else
      if 20000 < v3_7 then
        some 20001
      else
        (j_T_arrivalsBy n M x1 (v3_7 - 1)).bind fun r_4 =>
          (j_A_higherWorkBy n M x1 (v3_7 - 1)).bind fun r_6 =>
            if v3_7 < ((a2 + (r_4 * (M.1 0 x1 7))) + r_6) then
              j_A_busyWith_L7 n M x1 a2 f7 ((a2 + (r_4 * (M.1 0 x1 7))) + r_6) (v4_7 + 1)
            else
              some v3_7
def j_A_busyWith (n : Nat) (M : MX) (x1 : Fin 8) (a2 : Int32) : Option Int32 :=
  j_A_busyWith_L7 n M x1 a2 n (a2 + 1) 0
def j_T_lastSegment (n : Nat) (M : MX) (x0 : Fin 8) : Option Int32 :=
  if 1 ≤ (M.1 0 x0 6) then
    if ¬ (((M.1 0 x0 6) - 1) < 0 ∨ 8 ≤ ((M.1 0 x0 6) - 1).toNatClampNeg) then
      some (M.1 2 x0 ((M.1 0 x0 6) - 1).toNatClampNeg)
    else none
  else
    some 0
def j_A_lastBegin_L24 (n : Nat) (M : MX) (x1 : Fin 8) (a2 : Int32) (a3 : Int32) (a4 : Int32) (z5_24 : Int32) : Nat → Int32 → Int32 → Option Int32
  | 0, _, _ => none
  | f24 + 1, v6_24, v7_24 =>
    if 20000 < v7_24 then
      some v6_24
    else
      (j_A_higherWorkBy n M x1 v6_24).bind fun r_5 =>
        if v6_24 < (z5_24 + r_5) then
          j_A_lastBegin_L24 n M x1 a2 a3 a4 z5_24 f24 (z5_24 + r_5) (v7_24 + 1)
        else
          some v6_24
def j_A_lastBegin (n : Nat) (M : MX) (x1 : Fin 8) (a2 : Int32) (a3 : Int32) (a4 : Int32) : Option Int32 :=
  (j_T_lastSegment n M x1).bind fun r_2 =>
    j_A_lastBegin_L24 n M x1 a2 a3 a4 ((a2 + ((a3 + 1) * (M.1 0 x1 7))) - r_2) n a4 0
def j_A_greatestWith_L43 (n : Nat) (x1 : Fin 8) (a2 : Int32) (z3_43 : Int32) : Nat → Int32 → Int32 → Int32 → MX → Option (Int32 × MX)
  | 0, _, _, _, _ => none
  | f43 + 1, v4_43, v5_43, v6_43, M43 =>
    if (M43.2.1 1 2) ≤ v6_43 then
      if (M43.2.1 1 2) = 0 then
        some (1000000000, M43)
      else
        some (v4_43, M43)
    else
      (j_A_lastBegin n M43 x1 a2 v6_43 v5_43).bind fun r_9 =>
        (j_T_lastSegment n M43 x1).bind fun r_11 =>
          if ((r_9 + r_11) - (v6_43 * (M43.1 0 x1 3))) ≤ v4_43 then
            j_A_greatestWith_L43 n x1 a2 z3_43 f43 v4_43 r_9 (v6_43 + 1) M43
          else
            j_A_greatestWith_L43 n x1 a2 z3_43 f43 ((r_9 + r_11) - (v6_43 * (M43.1 0 x1 3))) r_9 (v6_43 + 1) (sG M43 1 1 v6_43)
def j_A_greatestWith (n : Nat) (M : MX) (x1 : Fin 8) (a2 : Int32) : Option (Int32 × MX) :=
  (j_A_busyWith n M x1 a2).bind fun r_2 =>
    if r_2 ≤ 20000 then
      (j_T_arrivalsBy n (sG M 1 1 0) x1 (r_2 - 1)).bind fun r_5 =>
        j_A_greatestWith_L43 n x1 a2 r_2 n 0 0 0 (sG (sG M 1 1 0) 1 2 r_5)
    else
      j_A_greatestWith_L43 n x1 a2 r_2 n 0 0 0 (sG (sG M 1 1 0) 1 2 0)
def j_A_survey (n : Nat) (M : MX) (x1 : Fin 8) : Option MX :=
  if (M.1 0 x1 9) = (-2) then
    (j_S_blockingOf n M x1).bind fun r_3 =>
      (j_A_greatestWith n M x1 r_3).bind fun q_5 =>
        some (sF (sF (sF q_5.2 0 x1 9 q_5.1) 0 x1 10 ((sF q_5.2 0 x1 9 q_5.1).2.1 1 1)) 0 x1 11 ((sF (sF q_5.2 0 x1 9 q_5.1) 0 x1 10 ((sF q_5.2 0 x1 9 q_5.1).2.1 1 1)).2.1 1 2))
  else
    some M
def j_T_isTooLong (n : Nat) (M : MX) (x0 : Fin 8) : Option Int32 :=
  if (M.1 0 x0 9) = 1000000000 then
    some 1
  else
    some 0
def j_A_verdict_L2 (n : Nat) : Nat → Int32 → MX → Option (Int32 × MX)
  | 0, _, _ => none
  | f2 + 1, v1_2, M2 =>
    if (M2.2.1 0 2) ≤ v1_2 then
      some (1, M2)
    else
      if ¬ (v1_2 < 0 ∨ 8 ≤ v1_2.toNatClampNeg) then
        (j_A_survey n M2 (M2.2.2.1 v1_2.toNatClampNeg)).bind fun M_4 =>
          (j_T_isTooLong n M_4 (M2.2.2.1 v1_2.toNatClampNeg)).bind fun r_6 =>
            if r_6 = 0 then
              if (M_4.1 0 (M2.2.2.1 v1_2.toNatClampNeg) 9) ≤ (M_4.1 0 (M2.2.2.1 v1_2.toNatClampNeg) 4) then
                j_A_verdict_L2 n f2 (v1_2 + 1) M_4
              else
                some ((-(M_4.1 0 (M2.2.2.1 v1_2.toNatClampNeg) 0)), M_4)
            else
              some (((-(M_4.1 0 (M2.2.2.1 v1_2.toNatClampNeg) 0)) - 100), M_4)
      else none
def j_A_verdict (n : Nat) (M : MX) : Option (Int32 × MX) :=
  j_A_verdict_L2 n n 0 M
def j_A_responseOfJob (n : Nat) (M : MX) (x1 : Fin 8) (a2 : Int32) : Option Int32 :=
  if a2 < 0 then
    some (-1)
  else
    if a2 < (M.1 0 x1 11) then
      (j_S_blockingOf n M x1).bind fun r_4 =>
        (j_A_lastBegin n M x1 r_4 a2 0).bind fun r_6 =>
          (j_T_lastSegment n M x1).bind fun r_8 =>
            some ((r_6 + r_8) - (a2 * (M.1 0 x1 3)))
    else
      some (-1)
def j_A_greatestBorne_L21 (n : Nat) (x1 : Fin 8) : Nat → Int32 → Int32 → Int32 → MX → Option (Int32 × MX)
  | 0, _, _, _, _ => none
  | f21 + 1, v2_21, v3_21, v4_21, M21 =>
    if 64 ≤ v4_21 then
      some (v2_21, M21)
    else
      if (v3_21 - v2_21) ≤ 1 then
        some (v2_21, M21)
      else
        (j_A_greatestWith n M21 x1 ((v2_21 + v3_21) / 2)).bind fun q_4 =>
          if (q_4.2.1 0 x1 4) < q_4.1 then
            j_A_greatestBorne_L21 n x1 f21 v2_21 ((v2_21 + v3_21) / 2) (v4_21 + 1) q_4.2
          else
            j_A_greatestBorne_L21 n x1 f21 ((v2_21 + v3_21) / 2) v3_21 (v4_21 + 1) q_4.2
def j_A_greatestBorne (n : Nat) (M : MX) (x1 : Fin 8) : Option (Int32 × MX) :=
  j_A_greatestBorne_L21 n x1 n (-1) (if 0 < (((M.1 0 x1 4) - (M.1 0 x1 7)) + 1) then (((M.1 0 x1 4) - (M.1 0 x1 7)) + 1) else 0) 0 M
def j_A_bearableBy (n : Nat) (M : MX) (x1 : Fin 8) : Option (Int32 × MX) :=
  if (M.1 0 x1 12) = (-2) then
    (j_A_greatestBorne n M x1).bind fun q_3 =>
      some (((sF q_3.2 0 x1 12 q_3.1).1 0 x1 12), (sF q_3.2 0 x1 12 q_3.1))
  else
    some ((M.1 0 x1 12), M)
def j_T_growLast_L15 (n : Nat) (x0 : Fin 8) (a1 : Int32) (z2_15 : Int32) : Nat → Int32 → Int32 → MX → Option (Int32 × MX)
  | 0, _, _, _ => none
  | f15 + 1, v3_15, v4_15, M15 =>
    if (z2_15 - 1) ≤ v4_15 then
      if v3_15 ≤ 0 then
        if ¬ (v4_15 < 0 ∨ 8 ≤ v4_15.toNatClampNeg) then
          some ((z2_15 - ((sF (sF M15 2 x0 v4_15.toNatClampNeg a1) 0 x0 6 (v4_15 + 1)).1 0 x0 6)), (sF (sF M15 2 x0 v4_15.toNatClampNeg a1) 0 x0 6 (v4_15 + 1)))
        else none
      else
        if (z2_15 - 1) ≤ v4_15 then
          if ¬ (v4_15 < 0 ∨ 8 ≤ v4_15.toNatClampNeg) then
            some ((z2_15 - ((sF (sF M15 2 x0 v4_15.toNatClampNeg a1) 0 x0 6 (v4_15 + 1)).1 0 x0 6)), (sF (sF M15 2 x0 v4_15.toNatClampNeg a1) 0 x0 6 (v4_15 + 1)))
          else none
        else
          if ¬ (v4_15 < 0 ∨ 8 ≤ v4_15.toNatClampNeg) then
            if ¬ ((v4_15 + 1) < 0 ∨ 8 ≤ (v4_15 + 1).toNatClampNeg) then
              some ((z2_15 - ((sF (sF (sF M15 2 x0 v4_15.toNatClampNeg v3_15) 2 x0 (v4_15 + 1).toNatClampNeg a1) 0 x0 6 ((v4_15 + 1) + 1)).1 0 x0 6)), (sF (sF (sF M15 2 x0 v4_15.toNatClampNeg v3_15) 2 x0 (v4_15 + 1).toNatClampNeg a1) 0 x0 6 ((v4_15 + 1) + 1)))
            else none
          else none
    else
      if ¬ (v4_15 < 0 ∨ 8 ≤ v4_15.toNatClampNeg) then
        if v3_15 < (M15.1 2 x0 v4_15.toNatClampNeg) then
          if v3_15 ≤ 0 then
            if ¬ (v4_15 < 0 ∨ 8 ≤ v4_15.toNatClampNeg) then
              some ((z2_15 - ((sF (sF M15 2 x0 v4_15.toNatClampNeg a1) 0 x0 6 (v4_15 + 1)).1 0 x0 6)), (sF (sF M15 2 x0 v4_15.toNatClampNeg a1) 0 x0 6 (v4_15 + 1)))
            else none
          else
            if (z2_15 - 1) ≤ v4_15 then
              if ¬ (v4_15 < 0 ∨ 8 ≤ v4_15.toNatClampNeg) then
                some ((z2_15 - ((sF (sF M15 2 x0 v4_15.toNatClampNeg a1) 0 x0 6 (v4_15 + 1)).1 0 x0 6)), (sF (sF M15 2 x0 v4_15.toNatClampNeg a1) 0 x0 6 (v4_15 + 1)))
              else none
            else
              if ¬ (v4_15 < 0 ∨ 8 ≤ v4_15.toNatClampNeg) then
                if ¬ ((v4_15 + 1) < 0 ∨ 8 ≤ (v4_15 + 1).toNatClampNeg) then
                  some ((z2_15 - ((sF (sF (sF M15 2 x0 v4_15.toNatClampNeg v3_15) 2 x0 (v4_15 + 1).toNatClampNeg a1) 0 x0 6 ((v4_15 + 1) + 1)).1 0 x0 6)), (sF (sF (sF M15 2 x0 v4_15.toNatClampNeg v3_15) 2 x0 (v4_15 + 1).toNatClampNeg a1) 0 x0 6 ((v4_15 + 1) + 1)))
                else none
              else none
        else
          if ¬ (v4_15 < 0 ∨ 8 ≤ v4_15.toNatClampNeg) then
            j_T_growLast_L15 n x0 a1 z2_15 f15 (v3_15 - (M15.1 2 x0 v4_15.toNatClampNeg)) (v4_15 + 1) M15
          else none
      else none
def j_T_growLast (n : Nat) (M : MX) (x0 : Fin 8) (a1 : Int32) : Option (Int32 × MX) :=
  j_T_growLast_L15 n x0 a1 (M.1 0 x0 6) n ((M.1 0 x0 7) - a1) 0 M
def j_A_stretchTasks_L7 (n : Nat) : Nat → Int32 → Int32 → Int32 → MX → Option (Int32 × MX)
  | 0, _, _, _, _ => none
  | f7 + 1, v1_7, v2_7, v3_7, M7 =>
    if (M7.2.1 0 2) ≤ v3_7 then
      (j_S_forgetFindings n M7).bind fun M_3 =>
        some (v1_7, M_3)
    else
      if ¬ (v3_7 < 0 ∨ 8 ≤ v3_7.toNatClampNeg) then
        (j_T_growLast n M7 (M7.2.2.1 v3_7.toNatClampNeg) (if v2_7 < (M7.1 0 (M7.2.2.1 v3_7.toNatClampNeg) 7) then v2_7 else (M7.1 0 (M7.2.2.1 v3_7.toNatClampNeg) 7))).bind fun q_6 =>
          (j_A_greatestBorne n q_6.2 (M7.2.2.1 v3_7.toNatClampNeg)).bind fun q_8 =>
            j_A_stretchTasks_L7 n f7 (v1_7 + q_6.1) (if (q_8.1 + 1) < v2_7 then (q_8.1 + 1) else v2_7) (v3_7 + 1) q_8.2
      else none
def j_A_stretchTasks (n : Nat) (M : MX) : Option (Int32 × MX) :=
  j_A_stretchTasks_L7 n n 0 1000000000 0 M
def j_A_highestBelowWith_L7 (n : Nat) (M : MX) (x1 : Fin 8) (a2 : Int32) : Nat → Int32 → Option (Fin 8)
  | 0, _ => none
  | f7 + 1, v3_7 =>
    if (M.2.1 0 2) ≤ v3_7 then
      some x1
    else
      if ¬ (v3_7 < 0 ∨ 8 ≤ v3_7.toNatClampNeg) then
        (j_T_longestSegment n M (M.2.2.1 v3_7.toNatClampNeg)).bind fun r_4 =>
          if r_4 = a2 then
            if ¬ (v3_7 < 0 ∨ 8 ≤ v3_7.toNatClampNeg) then
              some (M.2.2.1 v3_7.toNatClampNeg)
            else none
          else
            j_A_highestBelowWith_L7 n M x1 a2 f7 (v3_7 + 1)
      else none
def j_A_highestBelowWith (n : Nat) (M : MX) (x1 : Fin 8) (a2 : Int32) : Option (Fin 8) :=
  j_A_highestBelowWith_L7 n M x1 a2 n ((M.1 0 x1 8) + 1)
def j_T_workAheadOf_L4 (n : Nat) (M : MX) (x0 : Fin 8) (a1 : Int32) : Nat → Int32 → Int32 → Option Int32
  | 0, _, _ => none
  | f4 + 1, v2_4, v3_4 =>
    if (M.1 0 x0 6) ≤ v3_4 then
      some v2_4
    else
      if ¬ (v3_4 < 0 ∨ 8 ≤ v3_4.toNatClampNeg) then
        if (M.1 2 x0 v3_4.toNatClampNeg) = a1 then
          some v2_4
        else
          if ¬ (v3_4 < 0 ∨ 8 ≤ v3_4.toNatClampNeg) then
            j_T_workAheadOf_L4 n M x0 a1 f4 (v2_4 + (M.1 2 x0 v3_4.toNatClampNeg)) (v3_4 + 1)
          else none
      else none
def j_T_workAheadOf (n : Nat) (M : MX) (x0 : Fin 8) (a1 : Int32) : Option Int32 :=
  j_T_workAheadOf_L4 n M x0 a1 n 0 0
def j_A_ownArrivalsBy (n : Nat) (M : MX) (x1 : Fin 8) (a2 : Int32) : Option Int32 :=
  (j_T_arrivalsBy n M x1 a2).bind fun r_2 =>
    some (if r_2 < ((M.1 0 x1 10) + 1) then r_2 else ((M.1 0 x1 10) + 1))
def j_A_scenarioArrivalsBy_L10 (n : Nat) (M : MX) (x1 : Fin 8) (a2 : Int32) : Nat → Int32 → Int32 → Option Int32
  | 0, _, _ => none
  | f10 + 1, v3_10, v4_10 =>
    if (M.1 0 x1 8) ≤ v4_10 then
      some v3_10
    else
      if ¬ (v4_10 < 0 ∨ 8 ≤ v4_10.toNatClampNeg) then
        (j_T_arrivalsBy n M (M.2.2.1 v4_10.toNatClampNeg) a2).bind fun r_6 =>
          j_A_scenarioArrivalsBy_L10 n M x1 a2 f10 (v3_10 + r_6) (v4_10 + 1)
      else none
def j_A_scenarioArrivalsBy (n : Nat) (M : MX) (x1 : Fin 8) (a2 : Int32) : Option Int32 :=
  (j_A_ownArrivalsBy n M x1 a2).bind fun r_2 =>
    j_A_scenarioArrivalsBy_L10 n M x1 a2 n r_2 0
def j_A_timeOfArrival_L11 (n : Nat) (M : MX) (x1 : Fin 8) (a2 : Int32) (a3 : Int32) : Nat → Int32 → Int32 → Int32 → Option Int32
  | 0, _, _, _ => none
  | f11 + 1, v4_11, v5_11, v6_11 =>
    if 64 ≤ v6_11 then
      some v4_11
    else
      if v5_11 ≤ v4_11 then
        some v4_11
      else
        (j_A_scenarioArrivalsBy n M x1 ((v4_11 + v5_11) / 2)).bind fun r_4 =>
          if r_4 ≤ a2 then
            j_A_timeOfArrival_L11 n M x1 a2 a3 f11 (((v4_11 + v5_11) / 2) + 1) v5_11 (v6_11 + 1)
          else
            j_A_timeOfArrival_L11 n M x1 a2 a3 f11 v4_11 ((v4_11 + v5_11) / 2) (v6_11 + 1)
def j_A_timeOfArrival (n : Nat) (M : MX) (x1 : Fin 8) (a2 : Int32) (a3 : Int32) : Option Int32 :=
  j_A_timeOfArrival_L11 n M x1 a2 a3 n 0 (a3 - 1) 0
def j_A_taskOfArrival_L13 (n : Nat) (M : MX) (x1 : Fin 8) (a2 : Int32) (a3 : Int32) : Nat → Int32 → Int32 → Option Int32
  | 0, _, _ => none
  | f13 + 1, v4_13, v5_13 =>
    if (M.1 0 x1 8) ≤ v5_13 then
      some (M.1 0 x1 0)
    else
      if ¬ (v5_13 < 0 ∨ 8 ≤ v5_13.toNatClampNeg) then
        (j_T_arrivalsBy n M (M.2.2.1 v5_13.toNatClampNeg) a3).bind fun r_6 =>
          (j_T_arrivalsBy n M (M.2.2.1 v5_13.toNatClampNeg) (a3 - 1)).bind fun r_8 =>
            if (v4_13 + (r_6 - r_8)) ≤ a2 then
              j_A_taskOfArrival_L13 n M x1 a2 a3 f13 (v4_13 + (r_6 - r_8)) (v5_13 + 1)
            else
              some (M.1 0 (M.2.2.1 v5_13.toNatClampNeg) 0)
      else none
def j_A_taskOfArrival (n : Nat) (M : MX) (x1 : Fin 8) (a2 : Int32) (a3 : Int32) : Option Int32 :=
  (j_A_scenarioArrivalsBy n M x1 (a3 - 1)).bind fun r_2 =>
    j_A_taskOfArrival_L13 n M x1 a2 a3 n r_2 0
def j_A_scenarioItem (n : Nat) (M : MX) (x1 : Fin 8) (a2 : Int32) (a3 : Int32) : Option Int32 :=
  (j_S_blockingOf n M x1).bind fun r_2 =>
    if r_2 ≤ 0 then
      (j_A_scenarioArrivalsBy n M x1 ((((M.1 0 x1 10) * (M.1 0 x1 3)) + (M.1 0 x1 9)) - 1)).bind fun r_5 =>
        if a2 < r_5 then
          (j_A_timeOfArrival n M x1 a2 (((M.1 0 x1 10) * (M.1 0 x1 3)) + (M.1 0 x1 9))).bind fun r_8 =>
            if a3 = 0 then
              (j_A_taskOfArrival n M x1 a2 r_8).bind fun r_11 =>
                some r_11
            else
              some (0 + r_8)
        else
          some (-1)
    else
      (j_S_longestBelow n M x1).bind fun r_13 =>
        (j_A_highestBelowWith n M x1 r_13).bind fun r_15 =>
          if a2 = 0 then
            if a3 = 0 then
              some (M.1 0 r_15 0)
            else
              some 0
          else
            (j_T_workAheadOf n M r_15 r_13).bind fun r_18 =>
              (j_A_scenarioArrivalsBy n M x1 ((((M.1 0 x1 10) * (M.1 0 x1 3)) + (M.1 0 x1 9)) - 1)).bind fun r_20 =>
                if (a2 - 1) < r_20 then
                  (j_A_timeOfArrival n M x1 (a2 - 1) (((M.1 0 x1 10) * (M.1 0 x1 3)) + (M.1 0 x1 9))).bind fun r_23 =>
                    if a3 = 0 then
                      (j_A_taskOfArrival n M x1 (a2 - 1) r_23).bind fun r_26 =>
                        some r_26
                    else
                      some ((r_18 + 1) + r_23)
                else
                  some (-1)
def j_J_accept (n : Nat) (M : MX) (x0 : Fin 8) (a1 : Int32) (a2 : Int32) : Option (Int32 × MX) :=
  if ((M.1 1 x0 2) - (M.1 1 x0 3)) < 9 then
    if (M.1 1 x0 2) ≤ 0 then
      if ¬ (((M.1 1 x0 2) - (M.1 1 x0 2) / 9 * 9) < 0 ∨ 9 ≤ ((M.1 1 x0 2) - (M.1 1 x0 2) / 9 * 9).toNatClampNeg) then
        some (1, (sF (sF M 3 x0 ((M.1 1 x0 2) - (M.1 1 x0 2) / 9 * 9).toNatClampNeg a1) 1 x0 2 (((sF M 3 x0 ((M.1 1 x0 2) - (M.1 1 x0 2) / 9 * 9).toNatClampNeg a1).1 1 x0 2) + 1)))
      else none
    else
      if ¬ ((((M.1 1 x0 2) - 1) - ((M.1 1 x0 2) - 1) / 9 * 9) < 0 ∨ 9 ≤ (((M.1 1 x0 2) - 1) - ((M.1 1 x0 2) - 1) / 9 * 9).toNatClampNeg) then
        if a2 ≤ (a1 - (M.1 3 x0 (((M.1 1 x0 2) - 1) - ((M.1 1 x0 2) - 1) / 9 * 9).toNatClampNeg)) then
          if ¬ (((M.1 1 x0 2) - (M.1 1 x0 2) / 9 * 9) < 0 ∨ 9 ≤ ((M.1 1 x0 2) - (M.1 1 x0 2) / 9 * 9).toNatClampNeg) then
            some (1, (sF (sF M 3 x0 ((M.1 1 x0 2) - (M.1 1 x0 2) / 9 * 9).toNatClampNeg a1) 1 x0 2 (((sF M 3 x0 ((M.1 1 x0 2) - (M.1 1 x0 2) / 9 * 9).toNatClampNeg a1).1 1 x0 2) + 1)))
          else none
        else
          some (0, M)
      else none
  else
    some (0, M)
def j_K_accept (n : Nat) (M : MX) (x1 : Fin 8) : Option (Int32 × MX) :=
  (j_J_accept n M x1 (M.2.1 2 2) (M.1 0 x1 3)).bind fun q_2 =>
    if q_2.1 = 0 then
      some (0, q_2.2)
    else
      some (1, (sG q_2.2 2 1 1))
def j_O_arrive (n : Nat) (M : MX) (a1 : Int32) : Option (Int32 × MX) :=
  (j_S_find n M a1).bind fun r_2 =>
    gw_oc r_2
      (
        some (0, M)
      )
      (fun y_3 =>
        (j_S_isReady n M).bind fun r_5 =>
          if r_5 = 0 then
            some (0, M)
          else
            (j_K_accept n M y_3).bind fun q_8 =>
              if q_8.1 = 0 then
                some (0, q_8.2)
              else
                some (1, q_8.2)
      )
def j_J_hasOpen (n : Nat) (M : MX) (x0 : Fin 8) : Option Int32 :=
  if (M.1 1 x0 2) ≤ (M.1 1 x0 3) then
    some 0
  else
    some 1
def j_K_highestWithJob_L2 (n : Nat) (M : MX) : Nat → Int32 → Option (Option (Fin 8))
  | 0, _ => none
  | f2 + 1, v1_2 =>
    if (M.2.1 0 2) ≤ v1_2 then
      some none
    else
      if ¬ (v1_2 < 0 ∨ 8 ≤ v1_2.toNatClampNeg) then
        (j_J_hasOpen n M (M.2.2.1 v1_2.toNatClampNeg)).bind fun r_4 =>
          if r_4 = 0 then
            j_K_highestWithJob_L2 n M f2 (v1_2 + 1)
          else
            if ¬ (v1_2 < 0 ∨ 8 ≤ v1_2.toNatClampNeg) then
              some (some (M.2.2.1 v1_2.toNatClampNeg))
            else none
      else none
def j_K_highestWithJob (n : Nat) (M : MX) : Option (Option (Fin 8)) :=
  j_K_highestWithJob_L2 n M n 0
def j_K_beginSegment (n : Nat) (M : MX) : Option MX :=
  (j_K_highestWithJob n M).bind fun r_2 =>
    gw_oc r_2
      (
        some M
      )
      (fun y_3 =>
        gw_oc M.2.2.2.2
          (
            (j_T_segmentAt n (sU (sP M none) (some y_3)) y_3 ((sU (sP M none) (some y_3)).1 1 y_3 7)).bind fun r_6 =>
              some (sG (sU (sP M none) (some y_3)) 2 3 r_6)
          )
          (fun y_4 =>
            if M.2.2.2.2 = (some y_3) then
              (j_T_segmentAt n (sU (sP M none) (some y_3)) y_3 ((sU (sP M none) (some y_3)).1 1 y_3 7)).bind fun r_9 =>
                some (sG (sU (sP M none) (some y_3)) 2 3 r_9)
            else
              (M.2.2.2.2).bind fun y_10 =>
                (j_T_segmentAt n (sU (sP (sF M 1 y_10 5 ((M.1 1 y_10 5) + 1)) none) (some y_3)) y_3 ((sU (sP (sF M 1 y_10 5 ((M.1 1 y_10 5) + 1)) none) (some y_3)).1 1 y_3 7)).bind fun r_13 =>
                  some (sG (sU (sP (sF M 1 y_10 5 ((M.1 1 y_10 5) + 1)) none) (some y_3)) 2 3 r_13)
          )
      )
def j_J_finishOldest (n : Nat) (M : MX) (x0 : Fin 8) (a1 : Int32) (a2 : Int32) : Option MX :=
  if ¬ (((M.1 1 x0 3) - (M.1 1 x0 3) / 9 * 9) < 0 ∨ 9 ≤ ((M.1 1 x0 3) - (M.1 1 x0 3) / 9 * 9).toNatClampNeg) then
    if 200 ≤ (M.1 1 x0 3) then
      if (a1 - (M.1 3 x0 ((M.1 1 x0 3) - (M.1 1 x0 3) / 9 * 9).toNatClampNeg)) ≤ a2 then
        some (sF (sF (sF M 1 x0 4 (if (M.1 1 x0 4) < (a1 - (M.1 3 x0 ((M.1 1 x0 3) - (M.1 1 x0 3) / 9 * 9).toNatClampNeg)) then (a1 - (M.1 3 x0 ((M.1 1 x0 3) - (M.1 1 x0 3) / 9 * 9).toNatClampNeg)) else (M.1 1 x0 4))) 1 x0 3 (((sF M 1 x0 4 (if (M.1 1 x0 4) < (a1 - (M.1 3 x0 ((M.1 1 x0 3) - (M.1 1 x0 3) / 9 * 9).toNatClampNeg)) then (a1 - (M.1 3 x0 ((M.1 1 x0 3) - (M.1 1 x0 3) / 9 * 9).toNatClampNeg)) else (M.1 1 x0 4))).1 1 x0 3) + 1)) 1 x0 7 0)
      else
        some (sF (sF (sF (sF M 1 x0 4 (if (M.1 1 x0 4) < (a1 - (M.1 3 x0 ((M.1 1 x0 3) - (M.1 1 x0 3) / 9 * 9).toNatClampNeg)) then (a1 - (M.1 3 x0 ((M.1 1 x0 3) - (M.1 1 x0 3) / 9 * 9).toNatClampNeg)) else (M.1 1 x0 4))) 1 x0 6 (((sF M 1 x0 4 (if (M.1 1 x0 4) < (a1 - (M.1 3 x0 ((M.1 1 x0 3) - (M.1 1 x0 3) / 9 * 9).toNatClampNeg)) then (a1 - (M.1 3 x0 ((M.1 1 x0 3) - (M.1 1 x0 3) / 9 * 9).toNatClampNeg)) else (M.1 1 x0 4))).1 1 x0 6) + 1)) 1 x0 3 (((sF (sF M 1 x0 4 (if (M.1 1 x0 4) < (a1 - (M.1 3 x0 ((M.1 1 x0 3) - (M.1 1 x0 3) / 9 * 9).toNatClampNeg)) then (a1 - (M.1 3 x0 ((M.1 1 x0 3) - (M.1 1 x0 3) / 9 * 9).toNatClampNeg)) else (M.1 1 x0 4))) 1 x0 6 (((sF M 1 x0 4 (if (M.1 1 x0 4) < (a1 - (M.1 3 x0 ((M.1 1 x0 3) - (M.1 1 x0 3) / 9 * 9).toNatClampNeg)) then (a1 - (M.1 3 x0 ((M.1 1 x0 3) - (M.1 1 x0 3) / 9 * 9).toNatClampNeg)) else (M.1 1 x0 4))).1 1 x0 6) + 1)).1 1 x0 3) + 1)) 1 x0 7 0)
    else
      if ¬ ((M.1 1 x0 3) < 0 ∨ 200 ≤ (M.1 1 x0 3).toNatClampNeg) then
        if (a1 - (M.1 3 x0 ((M.1 1 x0 3) - (M.1 1 x0 3) / 9 * 9).toNatClampNeg)) ≤ a2 then
          some (sF (sF (sF (sF M 4 x0 (M.1 1 x0 3).toNatClampNeg (a1 - (M.1 3 x0 ((M.1 1 x0 3) - (M.1 1 x0 3) / 9 * 9).toNatClampNeg))) 1 x0 4 (if ((sF M 4 x0 (M.1 1 x0 3).toNatClampNeg (a1 - (M.1 3 x0 ((M.1 1 x0 3) - (M.1 1 x0 3) / 9 * 9).toNatClampNeg))).1 1 x0 4) < (a1 - (M.1 3 x0 ((M.1 1 x0 3) - (M.1 1 x0 3) / 9 * 9).toNatClampNeg)) then (a1 - (M.1 3 x0 ((M.1 1 x0 3) - (M.1 1 x0 3) / 9 * 9).toNatClampNeg)) else ((sF M 4 x0 (M.1 1 x0 3).toNatClampNeg (a1 - (M.1 3 x0 ((M.1 1 x0 3) - (M.1 1 x0 3) / 9 * 9).toNatClampNeg))).1 1 x0 4))) 1 x0 3 (((sF (sF M 4 x0 (M.1 1 x0 3).toNatClampNeg (a1 - (M.1 3 x0 ((M.1 1 x0 3) - (M.1 1 x0 3) / 9 * 9).toNatClampNeg))) 1 x0 4 (if ((sF M 4 x0 (M.1 1 x0 3).toNatClampNeg (a1 - (M.1 3 x0 ((M.1 1 x0 3) - (M.1 1 x0 3) / 9 * 9).toNatClampNeg))).1 1 x0 4) < (a1 - (M.1 3 x0 ((M.1 1 x0 3) - (M.1 1 x0 3) / 9 * 9).toNatClampNeg)) then (a1 - (M.1 3 x0 ((M.1 1 x0 3) - (M.1 1 x0 3) / 9 * 9).toNatClampNeg)) else ((sF M 4 x0 (M.1 1 x0 3).toNatClampNeg (a1 - (M.1 3 x0 ((M.1 1 x0 3) - (M.1 1 x0 3) / 9 * 9).toNatClampNeg))).1 1 x0 4))).1 1 x0 3) + 1)) 1 x0 7 0)
        else
          some (sF (sF (sF (sF (sF M 4 x0 (M.1 1 x0 3).toNatClampNeg (a1 - (M.1 3 x0 ((M.1 1 x0 3) - (M.1 1 x0 3) / 9 * 9).toNatClampNeg))) 1 x0 4 (if ((sF M 4 x0 (M.1 1 x0 3).toNatClampNeg (a1 - (M.1 3 x0 ((M.1 1 x0 3) - (M.1 1 x0 3) / 9 * 9).toNatClampNeg))).1 1 x0 4) < (a1 - (M.1 3 x0 ((M.1 1 x0 3) - (M.1 1 x0 3) / 9 * 9).toNatClampNeg)) then (a1 - (M.1 3 x0 ((M.1 1 x0 3) - (M.1 1 x0 3) / 9 * 9).toNatClampNeg)) else ((sF M 4 x0 (M.1 1 x0 3).toNatClampNeg (a1 - (M.1 3 x0 ((M.1 1 x0 3) - (M.1 1 x0 3) / 9 * 9).toNatClampNeg))).1 1 x0 4))) 1 x0 6 (((sF (sF M 4 x0 (M.1 1 x0 3).toNatClampNeg (a1 - (M.1 3 x0 ((M.1 1 x0 3) - (M.1 1 x0 3) / 9 * 9).toNatClampNeg))) 1 x0 4 (if ((sF M 4 x0 (M.1 1 x0 3).toNatClampNeg (a1 - (M.1 3 x0 ((M.1 1 x0 3) - (M.1 1 x0 3) / 9 * 9).toNatClampNeg))).1 1 x0 4) < (a1 - (M.1 3 x0 ((M.1 1 x0 3) - (M.1 1 x0 3) / 9 * 9).toNatClampNeg)) then (a1 - (M.1 3 x0 ((M.1 1 x0 3) - (M.1 1 x0 3) / 9 * 9).toNatClampNeg)) else ((sF M 4 x0 (M.1 1 x0 3).toNatClampNeg (a1 - (M.1 3 x0 ((M.1 1 x0 3) - (M.1 1 x0 3) / 9 * 9).toNatClampNeg))).1 1 x0 4))).1 1 x0 6) + 1)) 1 x0 3 (((sF (sF (sF M 4 x0 (M.1 1 x0 3).toNatClampNeg (a1 - (M.1 3 x0 ((M.1 1 x0 3) - (M.1 1 x0 3) / 9 * 9).toNatClampNeg))) 1 x0 4 (if ((sF M 4 x0 (M.1 1 x0 3).toNatClampNeg (a1 - (M.1 3 x0 ((M.1 1 x0 3) - (M.1 1 x0 3) / 9 * 9).toNatClampNeg))).1 1 x0 4) < (a1 - (M.1 3 x0 ((M.1 1 x0 3) - (M.1 1 x0 3) / 9 * 9).toNatClampNeg)) then (a1 - (M.1 3 x0 ((M.1 1 x0 3) - (M.1 1 x0 3) / 9 * 9).toNatClampNeg)) else ((sF M 4 x0 (M.1 1 x0 3).toNatClampNeg (a1 - (M.1 3 x0 ((M.1 1 x0 3) - (M.1 1 x0 3) / 9 * 9).toNatClampNeg))).1 1 x0 4))) 1 x0 6 (((sF (sF M 4 x0 (M.1 1 x0 3).toNatClampNeg (a1 - (M.1 3 x0 ((M.1 1 x0 3) - (M.1 1 x0 3) / 9 * 9).toNatClampNeg))) 1 x0 4 (if ((sF M 4 x0 (M.1 1 x0 3).toNatClampNeg (a1 - (M.1 3 x0 ((M.1 1 x0 3) - (M.1 1 x0 3) / 9 * 9).toNatClampNeg))).1 1 x0 4) < (a1 - (M.1 3 x0 ((M.1 1 x0 3) - (M.1 1 x0 3) / 9 * 9).toNatClampNeg)) then (a1 - (M.1 3 x0 ((M.1 1 x0 3) - (M.1 1 x0 3) / 9 * 9).toNatClampNeg)) else ((sF M 4 x0 (M.1 1 x0 3).toNatClampNeg (a1 - (M.1 3 x0 ((M.1 1 x0 3) - (M.1 1 x0 3) / 9 * 9).toNatClampNeg))).1 1 x0 4))).1 1 x0 6) + 1)).1 1 x0 3) + 1)) 1 x0 7 0)
      else none
  else none
def j_K_endSegment (n : Nat) (M : MX) (x1 : Fin 8) : Option MX :=
  if ((sF (sU M none) 1 x1 7 (((sU M none).1 1 x1 7) + 1)).1 0 x1 6) ≤ ((sF (sU M none) 1 x1 7 (((sU M none).1 1 x1 7) + 1)).1 1 x1 7) then
    (j_J_finishOldest n (sF (sU M none) 1 x1 7 (((sU M none).1 1 x1 7) + 1)) x1 ((sF (sU M none) 1 x1 7 (((sU M none).1 1 x1 7) + 1)).2.1 2 2) ((sF (sU M none) 1 x1 7 (((sU M none).1 1 x1 7) + 1)).1 0 x1 4)).bind fun M_3 =>
      some M_3
  else
    some (sP (sF (sU M none) 1 x1 7 (((sU M none).1 1 x1 7) + 1)) (some x1))
def j_K_run (n : Nat) (M : MX) (x1 : Fin 8) (a2 : Int32) : Option MX :=
  if ((sG (sG M 2 2 ((M.2.1 2 2) + a2)) 2 3 (((sG M 2 2 ((M.2.1 2 2) + a2)).2.1 2 3) - a2)).2.1 2 3) = 0 then
    (j_K_endSegment n (sG (sG M 2 2 ((M.2.1 2 2) + a2)) 2 3 (((sG M 2 2 ((M.2.1 2 2) + a2)).2.1 2 3) - a2)) x1).bind fun M_3 =>
      some M_3
  else
    some (sG (sG M 2 2 ((M.2.1 2 2) + a2)) 2 3 (((sG M 2 2 ((M.2.1 2 2) + a2)).2.1 2 3) - a2))
def j_K_advance_L7 (n : Nat) (a1 : Int32) : Nat → Int32 → Int32 → Int32 → MX → Option (Int32 × MX)
  | 0, _, _, _, _ => none
  | f7 + 1, v2_7, v3_7, v4_7, M7 =>
    if a1 ≤ v4_7 then
      some (v2_7, M7)
    else
      if v3_7 ≤ 0 then
        some (v2_7, M7)
      else
        gw_oc M7.2.2.2.1
          (
            (j_K_beginSegment n M7).bind fun M_5 =>
              gw_oc M_5.2.2.2.1
                (
                  some (0, (sG M_5 2 2 ((M_5.2.1 2 2) + v3_7)))
                )
                (fun y_6 =>
                  (M_5.2.2.2.1).bind fun y_7 =>
                    (M_5.2.2.2.1).bind fun y_9 =>
                      (j_K_run n M_5 y_9 (if v3_7 < (M_5.2.1 2 3) then v3_7 else (M_5.2.1 2 3))).bind fun M_12 =>
                        j_K_advance_L7 n a1 f7 (M_5.1 0 y_7 0) (v3_7 - (if v3_7 < (M_5.2.1 2 3) then v3_7 else (M_5.2.1 2 3))) (v4_7 + 1) M_12
                )
          )
          (fun y_3 =>
            gw_oc M7.2.2.2.1
              (
                some (0, (sG M7 2 2 ((M7.2.1 2 2) + v3_7)))
              )
              (fun y_14 =>
                (M7.2.2.2.1).bind fun y_15 =>
                  (M7.2.2.2.1).bind fun y_17 =>
                    (j_K_run n M7 y_17 (if v3_7 < (M7.2.1 2 3) then v3_7 else (M7.2.1 2 3))).bind fun M_20 =>
                      j_K_advance_L7 n a1 f7 (M7.1 0 y_15 0) (v3_7 - (if v3_7 < (M7.2.1 2 3) then v3_7 else (M7.2.1 2 3))) (v4_7 + 1) M_20
              )
          )
def j_K_advance (n : Nat) (M : MX) (a1 : Int32) : Option (Int32 × MX) :=
  j_K_advance_L7 n a1 n 0 a1 0 M
def j_O_now (n : Nat) (M : MX) : Option Int32 :=
  some (M.2.1 2 2)
def j_J_notedResponse (n : Nat) (M : MX) (x0 : Fin 8) (a1 : Int32) : Option Int32 :=
  if a1 < 0 then
    some (-1)
  else
    if (M.1 1 x0 3) ≤ a1 then
      some (-1)
    else
      if a1 < 200 then
        if ¬ (a1 < 0 ∨ 200 ≤ a1.toNatClampNeg) then
          some (M.1 4 x0 a1.toNatClampNeg)
        else none
      else
        some (-1)
def j_O_ended (n : Nat) (M : MX) (a1 : Int32) (a2 : Int32) : Option Int32 :=
  (j_S_find n M a1).bind fun r_2 =>
    gw_oc r_2
      (
        some (-1)
      )
      (fun y_3 =>
        (j_J_notedResponse n M y_3 a2).bind fun r_5 =>
          some r_5
      )
def j_K_leftOf (n : Nat) (M : MX) (x1 : Fin 8) : Option Int32 :=
  if (some x1) = M.2.2.2.1 then
    some (M.2.1 2 3)
  else
    some 0
def j_O_seen (n : Nat) (M : MX) (a1 : Int32) (a2 : Int32) : Option Int32 :=
  (j_S_find n M a1).bind fun r_2 =>
    gw_oc r_2
      (
        some (-1)
      )
      (fun y_3 =>
        if a2 = 0 then
          some (M.1 1 y_3 2)
        else
        if a2 = 1 then
          some (M.1 1 y_3 3)
        else
        if a2 = 2 then
          some (M.1 1 y_3 4)
        else
        if a2 = 3 then
          some (M.1 1 y_3 5)
        else
        if a2 = 4 then
          some (M.1 1 y_3 6)
        else
        if a2 = 5 then
          (j_K_leftOf n M y_3).bind fun r_10 =>
            some r_10
        else
          some (-1)
      )
end
section
/-! the words that the walks use, by name -/
theorem uT_A : ∀ w ∈ u_ws R_A T_A 3, w ∈ wB := fun w h => wB_in ((by decide +kernel : ∀ w ∈ u_ws R_A T_A 3, w ∈ lw_tbl) w h) ((by decide +kernel : ∀ w ∈ u_ws R_A T_A 3, goodWord w = true) w h)
theorem uT_J : ∀ w ∈ u_ws R_J T_J 8, w ∈ wB := fun w h => wB_in ((by decide +kernel : ∀ w ∈ u_ws R_J T_J 8, w ∈ lw_tbl) w h) ((by decide +kernel : ∀ w ∈ u_ws R_J T_J 8, goodWord w = true) w h)
theorem uT_K : ∀ w ∈ u_ws R_K T_K 6, w ∈ wB := fun w h => wB_in ((by decide +kernel : ∀ w ∈ u_ws R_K T_K 6, w ∈ lw_tbl) w h) ((by decide +kernel : ∀ w ∈ u_ws R_K T_K 6, goodWord w = true) w h)
theorem uT_T : ∀ w ∈ u_ws R_T T_T 13, w ∈ wB := fun w h => wB_in ((by decide +kernel : ∀ w ∈ u_ws R_T T_T 13, w ∈ lw_tbl) w h) ((by decide +kernel : ∀ w ∈ u_ws R_T T_T 13, goodWord w = true) w h)
theorem uT_S : ∀ w ∈ u_ws R_S T_S 3, w ∈ wB := fun w h => wB_in ((by decide +kernel : ∀ w ∈ u_ws R_S T_S 3, w ∈ lw_tbl) w h) ((by decide +kernel : ∀ w ∈ u_ws R_S T_S 3, goodWord w = true) w h)
theorem uT_O : ∀ w ∈ u_ws R_O T_O 3, w ∈ wB := fun w h => wB_in ((by decide +kernel : ∀ w ∈ u_ws R_O T_O 3, w ∈ lw_tbl) w h) ((by decide +kernel : ∀ w ∈ u_ws R_O T_O 3, goodWord w = true) w h)
theorem uT_Y : ∀ w ∈ u_ws R_Y T_Y 29, w ∈ wB := fun w h => wB_in ((by decide +kernel : ∀ w ∈ u_ws R_Y T_Y 29, w ∈ lw_tbl) w h) ((by decide +kernel : ∀ w ∈ u_ws R_Y T_Y 29, goodWord w = true) w h)
theorem xw_0 : Cond.fieldLink R_S 17 (T_S 1).1 (T_S 1).2.1 (T_S 1).2.2.1 ∈ wB := wB_in (by decide +kernel) rfl
theorem xw_1 : Cond.fieldLink R_S 27 (T_S 2).1 (T_S 2).2.1 (T_S 2).2.2.1 ∈ wB := wB_in (by decide +kernel) rfl
theorem xw_2 : Cond.fieldLink R_S 70 (T_T 5).1 (T_T 5).2.1 (T_T 5).2.2.1 ∈ wB := wB_in (by decide +kernel) rfl
theorem xw_3 : Cond.fieldLink R_S 11 (T_S 0).1 (T_S 0).2.1 (T_S 0).2.2.1 ∈ wB := wB_in (by decide +kernel) rfl
theorem xw_4 : Cond.fieldLink R_S 23 (T_T 8).1 (T_T 8).2.1 (T_T 8).2.2.1 ∈ wB := wB_in (by decide +kernel) rfl
theorem xw_5 : Cond.fieldLink R_T 35 (T_T 3).1 (T_T 3).2.1 (T_T 3).2.2.1 ∈ wB := wB_in (by decide +kernel) rfl
theorem xw_6 : Cond.fieldLink R_T 38 (T_T 4).1 (T_T 4).2.1 (T_T 4).2.2.1 ∈ wB := wB_in (by decide +kernel) rfl
theorem xw_7 : Cond.fieldLink R_T 41 (T_T 5).1 (T_T 5).2.1 (T_T 5).2.2.1 ∈ wB := wB_in (by decide +kernel) rfl
theorem xw_8 : Cond.fieldLink R_T 44 (T_T 6).1 (T_T 6).2.1 (T_T 6).2.2.1 ∈ wB := wB_in (by decide +kernel) rfl
theorem xw_9 : Cond.fieldLink R_T 47 (T_T 7).1 (T_T 7).2.1 (T_T 7).2.2.1 ∈ wB := wB_in (by decide +kernel) rfl
theorem xw_10 : Cond.code y_S_swap b_S_swap 4 none ∈ wB := wB_in (by decide +kernel) rfl
theorem xw_11 : Cond.methodLink R_S 73 y_S_swap ∈ wB := wB_in (by decide +kernel) rfl
theorem xw_12 : Cond.instanceMethod y_S_swap ∈ wB := wB_in (by decide +kernel) rfl
theorem xw_13 : Cond.selects R_S y_S_swap y_S_swap ∈ wB := wB_in (by decide +kernel) rfl
theorem xw_14 : Cond.initialized R_S ∈ wB := wB_in (by decide +kernel) rfl
theorem xw_15 : Cond.fieldLink R_T 22 (T_T 9).1 (T_T 9).2.1 (T_T 9).2.2.1 ∈ wB := wB_in (by decide +kernel) rfl
theorem xw_16 : Cond.fieldLink R_T 26 (T_T 12).1 (T_T 12).2.1 (T_T 12).2.2.1 ∈ wB := wB_in (by decide +kernel) rfl
theorem xw_17 : Cond.code y_T_forgetFindings b_T_forgetFindings 1 none ∈ wB := wB_in (by decide +kernel) rfl
theorem xw_18 : Cond.methodLink R_S 52 y_T_forgetFindings ∈ wB := wB_in (by decide +kernel) rfl
theorem xw_19 : Cond.instanceMethod y_T_forgetFindings ∈ wB := wB_in (by decide +kernel) rfl
theorem xw_20 : Cond.selects R_T y_T_forgetFindings y_T_forgetFindings ∈ wB := wB_in (by decide +kernel) rfl
theorem xw_21 : Cond.initialized R_T ∈ wB := wB_in (by decide +kernel) rfl
theorem xw_22 : Cond.code y_S_hasPriority b_S_hasPriority 3 (some .boolean) ∈ wB := wB_in (by decide +kernel) rfl
theorem xw_23 : Cond.methodLink R_S 30 y_S_hasPriority ∈ wB := wB_in (by decide +kernel) rfl
theorem xw_24 : Cond.instanceMethod y_S_hasPriority ∈ wB := wB_in (by decide +kernel) rfl
theorem xw_25 : Cond.selects R_S y_S_hasPriority y_S_hasPriority ∈ wB := wB_in (by decide +kernel) rfl
theorem xw_26 : Cond.code y_S_find b_S_find 3 (some (.object "SegmentKernel$Task")) ∈ wB := wB_in (by decide +kernel) rfl
theorem xw_27 : Cond.methodLink R_S 34 y_S_find ∈ wB := wB_in (by decide +kernel) rfl
theorem xw_28 : Cond.instanceMethod y_S_find ∈ wB := wB_in (by decide +kernel) rfl
theorem xw_29 : Cond.selects R_S y_S_find y_S_find ∈ wB := wB_in (by decide +kernel) rfl
theorem xw_30 : Cond.code y_T_become b_T_become 4 none ∈ wB := wB_in (by decide +kernel) rfl
theorem xw_31 : Cond.methodLink R_S 38 y_T_become ∈ wB := wB_in (by decide +kernel) rfl
theorem xw_32 : Cond.instanceMethod y_T_become ∈ wB := wB_in (by decide +kernel) rfl
theorem xw_33 : Cond.selects R_T y_T_become y_T_become ∈ wB := wB_in (by decide +kernel) rfl
theorem xw_34 : Cond.code y_S_place b_S_place 3 none ∈ wB := wB_in (by decide +kernel) rfl
theorem xw_35 : Cond.methodLink R_S 42 y_S_place ∈ wB := wB_in (by decide +kernel) rfl
theorem xw_36 : Cond.instanceMethod y_S_place ∈ wB := wB_in (by decide +kernel) rfl
theorem xw_37 : Cond.selects R_S y_S_place y_S_place ∈ wB := wB_in (by decide +kernel) rfl
theorem xw_38 : Cond.code y_S_forgetFindings b_S_forgetFindings 2 none ∈ wB := wB_in (by decide +kernel) rfl
theorem xw_39 : Cond.methodLink R_S 46 y_S_forgetFindings ∈ wB := wB_in (by decide +kernel) rfl
theorem xw_40 : Cond.instanceMethod y_S_forgetFindings ∈ wB := wB_in (by decide +kernel) rfl
theorem xw_41 : Cond.selects R_S y_S_forgetFindings y_S_forgetFindings ∈ wB := wB_in (by decide +kernel) rfl
theorem xw_42 : Cond.fieldLink R_O 10 (T_O 0).1 (T_O 0).2.1 (T_O 0).2.2.1 ∈ wB := wB_in (by decide +kernel) rfl
theorem xw_43 : Cond.fieldLink R_O 28 (T_O 2).1 (T_O 2).2.1 (T_O 2).2.2.1 ∈ wB := wB_in (by decide +kernel) rfl
theorem xw_44 : Cond.fieldLink R_O 32 (T_K 1).1 (T_K 1).2.1 (T_K 1).2.2.1 ∈ wB := wB_in (by decide +kernel) rfl
theorem xw_45 : Cond.code y_S_add b_S_add 5 (some .boolean) ∈ wB := wB_in (by decide +kernel) rfl
theorem xw_46 : Cond.methodLink R_O 36 y_S_add ∈ wB := wB_in (by decide +kernel) rfl
theorem xw_47 : Cond.instanceMethod y_S_add ∈ wB := wB_in (by decide +kernel) rfl
theorem xw_48 : Cond.selects R_S y_S_add y_S_add ∈ wB := wB_in (by decide +kernel) rfl
theorem xw_49 : Cond.fieldLink R_T 18 (T_T 2).1 (T_T 2).2.1 (T_T 2).2.2.1 ∈ wB := wB_in (by decide +kernel) rfl
theorem xw_50 : Cond.code y_T_append b_T_append 2 (some .boolean) ∈ wB := wB_in (by decide +kernel) rfl
theorem xw_51 : Cond.methodLink R_S 49 y_T_append ∈ wB := wB_in (by decide +kernel) rfl
theorem xw_52 : Cond.instanceMethod y_T_append ∈ wB := wB_in (by decide +kernel) rfl
theorem xw_53 : Cond.selects R_T y_T_append y_T_append ∈ wB := wB_in (by decide +kernel) rfl
theorem xw_54 : Cond.code y_S_addSegment b_S_addSegment 4 (some .boolean) ∈ wB := wB_in (by decide +kernel) rfl
theorem xw_55 : Cond.methodLink R_O 40 y_S_addSegment ∈ wB := wB_in (by decide +kernel) rfl
theorem xw_56 : Cond.instanceMethod y_S_addSegment ∈ wB := wB_in (by decide +kernel) rfl
theorem xw_57 : Cond.selects R_S y_S_addSegment y_S_addSegment ∈ wB := wB_in (by decide +kernel) rfl
theorem xw_58 : Cond.fieldLink R_J 18 (T_J 2).1 (T_J 2).2.1 (T_J 2).2.2.1 ∈ wB := wB_in (by decide +kernel) rfl
theorem xw_59 : Cond.fieldLink R_J 22 (T_J 3).1 (T_J 3).2.1 (T_J 3).2.2.1 ∈ wB := wB_in (by decide +kernel) rfl
theorem xw_60 : Cond.fieldLink R_J 25 (T_J 4).1 (T_J 4).2.1 (T_J 4).2.2.1 ∈ wB := wB_in (by decide +kernel) rfl
theorem xw_61 : Cond.fieldLink R_J 28 (T_J 5).1 (T_J 5).2.1 (T_J 5).2.2.1 ∈ wB := wB_in (by decide +kernel) rfl
theorem xw_62 : Cond.fieldLink R_J 31 (T_J 6).1 (T_J 6).2.1 (T_J 6).2.2.1 ∈ wB := wB_in (by decide +kernel) rfl
theorem xw_63 : Cond.fieldLink R_J 34 (T_J 7).1 (T_J 7).2.1 (T_J 7).2.2.1 ∈ wB := wB_in (by decide +kernel) rfl
theorem xw_64 : Cond.fieldLink R_K 7 (T_K 0).1 (T_K 0).2.1 (T_K 0).2.2.1 ∈ wB := wB_in (by decide +kernel) rfl
theorem xw_65 : Cond.fieldLink R_K 13 (T_S 2).1 (T_S 2).2.1 (T_S 2).2.2.1 ∈ wB := wB_in (by decide +kernel) rfl
theorem xw_66 : Cond.fieldLink R_K 19 (T_S 1).1 (T_S 1).2.1 (T_S 1).2.2.1 ∈ wB := wB_in (by decide +kernel) rfl
theorem xw_67 : Cond.fieldLink R_K 23 (T_T 1).1 (T_T 1).2.1 (T_T 1).2.2.1 ∈ wB := wB_in (by decide +kernel) rfl
theorem xw_68 : Cond.fieldLink R_K 34 (T_K 1).1 (T_K 1).2.1 (T_K 1).2.2.1 ∈ wB := wB_in (by decide +kernel) rfl
theorem xw_69 : Cond.fieldLink R_K 38 (T_K 2).1 (T_K 2).2.1 (T_K 2).2.2.1 ∈ wB := wB_in (by decide +kernel) rfl
theorem xw_70 : Cond.fieldLink R_K 41 (T_K 3).1 (T_K 3).2.1 (T_K 3).2.2.1 ∈ wB := wB_in (by decide +kernel) rfl
theorem xw_71 : Cond.fieldLink R_K 44 (T_K 4).1 (T_K 4).2.1 (T_K 4).2.2.1 ∈ wB := wB_in (by decide +kernel) rfl
theorem xw_72 : Cond.fieldLink R_K 48 (T_K 5).1 (T_K 5).2.1 (T_K 5).2.2.1 ∈ wB := wB_in (by decide +kernel) rfl
theorem xw_73 : Cond.code y_J_forget b_J_forget 1 none ∈ wB := wB_in (by decide +kernel) rfl
theorem xw_74 : Cond.methodLink R_K 29 y_J_forget ∈ wB := wB_in (by decide +kernel) rfl
theorem xw_75 : Cond.instanceMethod y_J_forget ∈ wB := wB_in (by decide +kernel) rfl
theorem xw_76 : Cond.selects R_J y_J_forget y_J_forget ∈ wB := wB_in (by decide +kernel) rfl
theorem xw_77 : Cond.initialized R_J ∈ wB := wB_in (by decide +kernel) rfl
theorem xw_78 : Cond.code y_K_forgetJobs b_K_forgetJobs 2 none ∈ wB := wB_in (by decide +kernel) rfl
theorem xw_79 : Cond.methodLink R_O 44 y_K_forgetJobs ∈ wB := wB_in (by decide +kernel) rfl
theorem xw_80 : Cond.instanceMethod y_K_forgetJobs ∈ wB := wB_in (by decide +kernel) rfl
theorem xw_81 : Cond.selects R_K y_K_forgetJobs y_K_forgetJobs ∈ wB := wB_in (by decide +kernel) rfl
theorem xw_82 : Cond.initialized R_K ∈ wB := wB_in (by decide +kernel) rfl
theorem xw_83 : Cond.code y_S_forgetTasks b_S_forgetTasks 1 none ∈ wB := wB_in (by decide +kernel) rfl
theorem xw_84 : Cond.methodLink R_O 47 y_S_forgetTasks ∈ wB := wB_in (by decide +kernel) rfl
theorem xw_85 : Cond.instanceMethod y_S_forgetTasks ∈ wB := wB_in (by decide +kernel) rfl
theorem xw_86 : Cond.selects R_S y_S_forgetTasks y_S_forgetTasks ∈ wB := wB_in (by decide +kernel) rfl
theorem xw_87 : Cond.methodLink R_T 50 Lib.Math.max.name ∈ wB := wB_in (by decide +kernel) rfl
theorem xw_88 : Cond.static Lib.Math.max.name ∈ wB := wB_in (by decide +kernel) rfl
theorem xw_89 : Cond.code Lib.Math.max.name Lib.Math.max.code 2 (some .int) ∈ wB := wB_in (by decide +kernel) rfl
theorem xw_90 : Cond.initialized "java/lang/Math" ∈ wB := wB_in (by decide +kernel) rfl
theorem xw_91 : Cond.methodLink R_S 60 Lib.Math.max.name ∈ wB := wB_in (by decide +kernel) rfl
theorem xw_92 : Cond.code y_T_longestSegment b_T_longestSegment 3 (some .int) ∈ wB := wB_in (by decide +kernel) rfl
theorem xw_93 : Cond.methodLink R_S 56 y_T_longestSegment ∈ wB := wB_in (by decide +kernel) rfl
theorem xw_94 : Cond.instanceMethod y_T_longestSegment ∈ wB := wB_in (by decide +kernel) rfl
theorem xw_95 : Cond.selects R_T y_T_longestSegment y_T_longestSegment ∈ wB := wB_in (by decide +kernel) rfl
theorem xw_96 : Cond.code y_S_longestBelow b_S_longestBelow 4 (some .int) ∈ wB := wB_in (by decide +kernel) rfl
theorem xw_97 : Cond.methodLink R_S 66 y_S_longestBelow ∈ wB := wB_in (by decide +kernel) rfl
theorem xw_98 : Cond.instanceMethod y_S_longestBelow ∈ wB := wB_in (by decide +kernel) rfl
theorem xw_99 : Cond.selects R_S y_S_longestBelow y_S_longestBelow ∈ wB := wB_in (by decide +kernel) rfl
theorem xw_100 : Cond.fieldLink R_O 54 (T_T 3).1 (T_T 3).2.1 (T_T 3).2.2.1 ∈ wB := wB_in (by decide +kernel) rfl
theorem xw_101 : Cond.fieldLink R_O 60 (T_T 4).1 (T_T 4).2.1 (T_T 4).2.2.1 ∈ wB := wB_in (by decide +kernel) rfl
theorem xw_102 : Cond.fieldLink R_O 63 (T_T 5).1 (T_T 5).2.1 (T_T 5).2.2.1 ∈ wB := wB_in (by decide +kernel) rfl
theorem xw_103 : Cond.fieldLink R_O 66 (T_T 6).1 (T_T 6).2.1 (T_T 6).2.2.1 ∈ wB := wB_in (by decide +kernel) rfl
theorem xw_104 : Cond.fieldLink R_O 69 (T_T 7).1 (T_T 7).2.1 (T_T 7).2.2.1 ∈ wB := wB_in (by decide +kernel) rfl
theorem xw_105 : Cond.methodLink R_O 50 y_S_find ∈ wB := wB_in (by decide +kernel) rfl
theorem xw_106 : Cond.code y_S_blockingOf b_S_blockingOf 2 (some .int) ∈ wB := wB_in (by decide +kernel) rfl
theorem xw_107 : Cond.methodLink R_O 72 y_S_blockingOf ∈ wB := wB_in (by decide +kernel) rfl
theorem xw_108 : Cond.instanceMethod y_S_blockingOf ∈ wB := wB_in (by decide +kernel) rfl
theorem xw_109 : Cond.selects R_S y_S_blockingOf y_S_blockingOf ∈ wB := wB_in (by decide +kernel) rfl
theorem xw_110 : Cond.code y_T_segmentAt b_T_segmentAt 2 (some .int) ∈ wB := wB_in (by decide +kernel) rfl
theorem xw_111 : Cond.methodLink R_O 76 y_T_segmentAt ∈ wB := wB_in (by decide +kernel) rfl
theorem xw_112 : Cond.instanceMethod y_T_segmentAt ∈ wB := wB_in (by decide +kernel) rfl
theorem xw_113 : Cond.selects R_T y_T_segmentAt y_T_segmentAt ∈ wB := wB_in (by decide +kernel) rfl
theorem xw_114 : Cond.fieldLink R_S 53 (T_T 6).1 (T_T 6).2.1 (T_T 6).2.2.1 ∈ wB := wB_in (by decide +kernel) rfl
theorem xw_115 : Cond.fieldLink R_A 9 (T_A 0).1 (T_A 0).2.1 (T_A 0).2.2.1 ∈ wB := wB_in (by decide +kernel) rfl
theorem xw_116 : Cond.fieldLink R_A 46 (T_S 1).1 (T_S 1).2.1 (T_S 1).2.2.1 ∈ wB := wB_in (by decide +kernel) rfl
theorem xw_117 : Cond.fieldLink R_A 82 (T_T 7).1 (T_T 7).2.1 (T_T 7).2.2.1 ∈ wB := wB_in (by decide +kernel) rfl
theorem xw_118 : Cond.fieldLink R_A 118 (T_T 8).1 (T_T 8).2.1 (T_T 8).2.2.1 ∈ wB := wB_in (by decide +kernel) rfl
theorem xw_119 : Cond.code y_T_arrivalsBy b_T_arrivalsBy 2 (some .int) ∈ wB := wB_in (by decide +kernel) rfl
theorem xw_120 : Cond.methodLink R_A 124 y_T_arrivalsBy ∈ wB := wB_in (by decide +kernel) rfl
theorem xw_121 : Cond.instanceMethod y_T_arrivalsBy ∈ wB := wB_in (by decide +kernel) rfl
theorem xw_122 : Cond.selects R_T y_T_arrivalsBy y_T_arrivalsBy ∈ wB := wB_in (by decide +kernel) rfl
theorem xw_123 : Cond.code y_A_higherWorkBy b_A_higherWorkBy 6 (some .int) ∈ wB := wB_in (by decide +kernel) rfl
theorem xw_124 : Cond.methodLink R_A 136 y_A_higherWorkBy ∈ wB := wB_in (by decide +kernel) rfl
theorem xw_125 : Cond.instanceMethod y_A_higherWorkBy ∈ wB := wB_in (by decide +kernel) rfl
theorem xw_126 : Cond.selects R_A y_A_higherWorkBy y_A_higherWorkBy ∈ wB := wB_in (by decide +kernel) rfl
theorem xw_127 : Cond.initialized R_A ∈ wB := wB_in (by decide +kernel) rfl
theorem xw_128 : Cond.code y_T_lastSegment b_T_lastSegment 1 (some .int) ∈ wB := wB_in (by decide +kernel) rfl
theorem xw_129 : Cond.methodLink R_A 68 y_T_lastSegment ∈ wB := wB_in (by decide +kernel) rfl
theorem xw_130 : Cond.instanceMethod y_T_lastSegment ∈ wB := wB_in (by decide +kernel) rfl
theorem xw_131 : Cond.selects R_T y_T_lastSegment y_T_lastSegment ∈ wB := wB_in (by decide +kernel) rfl
theorem xw_132 : Cond.fieldLink R_A 31 (T_A 1).1 (T_A 1).2.1 (T_A 1).2.2.1 ∈ wB := wB_in (by decide +kernel) rfl
theorem xw_133 : Cond.fieldLink R_A 37 (T_A 2).1 (T_A 2).2.1 (T_A 2).2.2.1 ∈ wB := wB_in (by decide +kernel) rfl
theorem xw_134 : Cond.fieldLink R_A 72 (T_T 3).1 (T_T 3).2.1 (T_T 3).2.2.1 ∈ wB := wB_in (by decide +kernel) rfl
theorem xw_135 : Cond.constant R_A 81 1000000000 ∈ wB := wB_in (by decide +kernel) rfl
theorem xw_136 : Cond.code y_A_lastBegin b_A_lastBegin 9 (some .int) ∈ wB := wB_in (by decide +kernel) rfl
theorem xw_137 : Cond.methodLink R_A 64 y_A_lastBegin ∈ wB := wB_in (by decide +kernel) rfl
theorem xw_138 : Cond.instanceMethod y_A_lastBegin ∈ wB := wB_in (by decide +kernel) rfl
theorem xw_139 : Cond.selects R_A y_A_lastBegin y_A_lastBegin ∈ wB := wB_in (by decide +kernel) rfl
theorem xw_140 : Cond.code y_A_busyWith b_A_busyWith 6 (some .int) ∈ wB := wB_in (by decide +kernel) rfl
theorem xw_141 : Cond.methodLink R_A 133 y_A_busyWith ∈ wB := wB_in (by decide +kernel) rfl
theorem xw_142 : Cond.instanceMethod y_A_busyWith ∈ wB := wB_in (by decide +kernel) rfl
theorem xw_143 : Cond.selects R_A y_A_busyWith y_A_busyWith ∈ wB := wB_in (by decide +kernel) rfl
theorem xw_144 : Cond.fieldLink R_A 15 (T_T 9).1 (T_T 9).2.1 (T_T 9).2.2.1 ∈ wB := wB_in (by decide +kernel) rfl
theorem xw_145 : Cond.fieldLink R_A 34 (T_T 10).1 (T_T 10).2.1 (T_T 10).2.2.1 ∈ wB := wB_in (by decide +kernel) rfl
theorem xw_146 : Cond.fieldLink R_A 40 (T_T 11).1 (T_T 11).2.1 (T_T 11).2.2.1 ∈ wB := wB_in (by decide +kernel) rfl
theorem xw_147 : Cond.methodLink R_A 21 y_S_blockingOf ∈ wB := wB_in (by decide +kernel) rfl
theorem xw_148 : Cond.code y_A_greatestWith b_A_greatestWith 8 (some .int) ∈ wB := wB_in (by decide +kernel) rfl
theorem xw_149 : Cond.methodLink R_A 27 y_A_greatestWith ∈ wB := wB_in (by decide +kernel) rfl
theorem xw_150 : Cond.instanceMethod y_A_greatestWith ∈ wB := wB_in (by decide +kernel) rfl
theorem xw_151 : Cond.selects R_A y_A_greatestWith y_A_greatestWith ∈ wB := wB_in (by decide +kernel) rfl
theorem xw_152 : Cond.constant R_T 56 1000000000 ∈ wB := wB_in (by decide +kernel) rfl
theorem xw_153 : Cond.fieldLink R_A 43 (T_S 2).1 (T_S 2).2.1 (T_S 2).2.2.1 ∈ wB := wB_in (by decide +kernel) rfl
theorem xw_154 : Cond.fieldLink R_A 58 (T_T 0).1 (T_T 0).2.1 (T_T 0).2.2.1 ∈ wB := wB_in (by decide +kernel) rfl
theorem xw_155 : Cond.fieldLink R_A 61 (T_T 4).1 (T_T 4).2.1 (T_T 4).2.2.1 ∈ wB := wB_in (by decide +kernel) rfl
theorem xw_156 : Cond.code y_A_survey b_A_survey 2 none ∈ wB := wB_in (by decide +kernel) rfl
theorem xw_157 : Cond.methodLink R_A 50 y_A_survey ∈ wB := wB_in (by decide +kernel) rfl
theorem xw_158 : Cond.instanceMethod y_A_survey ∈ wB := wB_in (by decide +kernel) rfl
theorem xw_159 : Cond.selects R_A y_A_survey y_A_survey ∈ wB := wB_in (by decide +kernel) rfl
theorem xw_160 : Cond.code y_T_isTooLong b_T_isTooLong 1 (some .boolean) ∈ wB := wB_in (by decide +kernel) rfl
theorem xw_161 : Cond.methodLink R_A 54 y_T_isTooLong ∈ wB := wB_in (by decide +kernel) rfl
theorem xw_162 : Cond.instanceMethod y_T_isTooLong ∈ wB := wB_in (by decide +kernel) rfl
theorem xw_163 : Cond.selects R_T y_T_isTooLong y_T_isTooLong ∈ wB := wB_in (by decide +kernel) rfl
theorem xw_164 : Cond.methodLink R_A 130 Lib.Math.max.name ∈ wB := wB_in (by decide +kernel) rfl
theorem xw_165 : Cond.fieldLink R_A 75 (T_T 12).1 (T_T 12).2.1 (T_T 12).2.2.1 ∈ wB := wB_in (by decide +kernel) rfl
theorem xw_166 : Cond.code y_A_greatestBorne b_A_greatestBorne 6 (some .int) ∈ wB := wB_in (by decide +kernel) rfl
theorem xw_167 : Cond.methodLink R_A 78 y_A_greatestBorne ∈ wB := wB_in (by decide +kernel) rfl
theorem xw_168 : Cond.instanceMethod y_A_greatestBorne ∈ wB := wB_in (by decide +kernel) rfl
theorem xw_169 : Cond.selects R_A y_A_greatestBorne y_A_greatestBorne ∈ wB := wB_in (by decide +kernel) rfl
theorem xw_170 : Cond.methodLink R_A 85 Lib.Math.min.name ∈ wB := wB_in (by decide +kernel) rfl
theorem xw_171 : Cond.static Lib.Math.min.name ∈ wB := wB_in (by decide +kernel) rfl
theorem xw_172 : Cond.code Lib.Math.min.name Lib.Math.min.code 2 (some .int) ∈ wB := wB_in (by decide +kernel) rfl
theorem xw_173 : Cond.code y_T_growLast b_T_growLast 5 (some .int) ∈ wB := wB_in (by decide +kernel) rfl
theorem xw_174 : Cond.methodLink R_A 91 y_T_growLast ∈ wB := wB_in (by decide +kernel) rfl
theorem xw_175 : Cond.instanceMethod y_T_growLast ∈ wB := wB_in (by decide +kernel) rfl
theorem xw_176 : Cond.selects R_T y_T_growLast y_T_growLast ∈ wB := wB_in (by decide +kernel) rfl
theorem xw_177 : Cond.methodLink R_A 95 y_S_forgetFindings ∈ wB := wB_in (by decide +kernel) rfl
theorem xw_178 : Cond.methodLink R_A 121 y_T_longestSegment ∈ wB := wB_in (by decide +kernel) rfl
theorem xw_179 : Cond.code y_A_ownArrivalsBy b_A_ownArrivalsBy 3 (some .int) ∈ wB := wB_in (by decide +kernel) rfl
theorem xw_180 : Cond.methodLink R_A 127 y_A_ownArrivalsBy ∈ wB := wB_in (by decide +kernel) rfl
theorem xw_181 : Cond.instanceMethod y_A_ownArrivalsBy ∈ wB := wB_in (by decide +kernel) rfl
theorem xw_182 : Cond.selects R_A y_A_ownArrivalsBy y_A_ownArrivalsBy ∈ wB := wB_in (by decide +kernel) rfl
theorem xw_183 : Cond.code y_A_scenarioArrivalsBy b_A_scenarioArrivalsBy 5 (some .int) ∈ wB := wB_in (by decide +kernel) rfl
theorem xw_184 : Cond.methodLink R_A 108 y_A_scenarioArrivalsBy ∈ wB := wB_in (by decide +kernel) rfl
theorem xw_185 : Cond.instanceMethod y_A_scenarioArrivalsBy ∈ wB := wB_in (by decide +kernel) rfl
theorem xw_186 : Cond.selects R_A y_A_scenarioArrivalsBy y_A_scenarioArrivalsBy ∈ wB := wB_in (by decide +kernel) rfl
theorem xw_187 : Cond.methodLink R_A 98 y_S_longestBelow ∈ wB := wB_in (by decide +kernel) rfl
theorem xw_188 : Cond.code y_A_highestBelowWith b_A_highestBelowWith 4 (some (.object "SegmentKernel$Task")) ∈ wB := wB_in (by decide +kernel) rfl
theorem xw_189 : Cond.methodLink R_A 101 y_A_highestBelowWith ∈ wB := wB_in (by decide +kernel) rfl
theorem xw_190 : Cond.instanceMethod y_A_highestBelowWith ∈ wB := wB_in (by decide +kernel) rfl
theorem xw_191 : Cond.selects R_A y_A_highestBelowWith y_A_highestBelowWith ∈ wB := wB_in (by decide +kernel) rfl
theorem xw_192 : Cond.code y_T_workAheadOf b_T_workAheadOf 4 (some .int) ∈ wB := wB_in (by decide +kernel) rfl
theorem xw_193 : Cond.methodLink R_A 105 y_T_workAheadOf ∈ wB := wB_in (by decide +kernel) rfl
theorem xw_194 : Cond.instanceMethod y_T_workAheadOf ∈ wB := wB_in (by decide +kernel) rfl
theorem xw_195 : Cond.selects R_T y_T_workAheadOf y_T_workAheadOf ∈ wB := wB_in (by decide +kernel) rfl
theorem xw_196 : Cond.code y_A_timeOfArrival b_A_timeOfArrival 8 (some .int) ∈ wB := wB_in (by decide +kernel) rfl
theorem xw_197 : Cond.methodLink R_A 111 y_A_timeOfArrival ∈ wB := wB_in (by decide +kernel) rfl
theorem xw_198 : Cond.instanceMethod y_A_timeOfArrival ∈ wB := wB_in (by decide +kernel) rfl
theorem xw_199 : Cond.selects R_A y_A_timeOfArrival y_A_timeOfArrival ∈ wB := wB_in (by decide +kernel) rfl
theorem xw_200 : Cond.code y_A_taskOfArrival b_A_taskOfArrival 7 (some .int) ∈ wB := wB_in (by decide +kernel) rfl
theorem xw_201 : Cond.methodLink R_A 115 y_A_taskOfArrival ∈ wB := wB_in (by decide +kernel) rfl
theorem xw_202 : Cond.instanceMethod y_A_taskOfArrival ∈ wB := wB_in (by decide +kernel) rfl
theorem xw_203 : Cond.selects R_A y_A_taskOfArrival y_A_taskOfArrival ∈ wB := wB_in (by decide +kernel) rfl
theorem xw_204 : Cond.fieldLink R_J 9 (T_J 0).1 (T_J 0).2.1 (T_J 0).2.2.1 ∈ wB := wB_in (by decide +kernel) rfl
theorem xw_205 : Cond.fieldLink R_K 51 (T_T 3).1 (T_T 3).2.1 (T_T 3).2.2.1 ∈ wB := wB_in (by decide +kernel) rfl
theorem xw_206 : Cond.code y_J_accept b_J_accept 3 (some .boolean) ∈ wB := wB_in (by decide +kernel) rfl
theorem xw_207 : Cond.methodLink R_K 54 y_J_accept ∈ wB := wB_in (by decide +kernel) rfl
theorem xw_208 : Cond.instanceMethod y_J_accept ∈ wB := wB_in (by decide +kernel) rfl
theorem xw_209 : Cond.selects R_J y_J_accept y_J_accept ∈ wB := wB_in (by decide +kernel) rfl
theorem xw_210 : Cond.code y_S_isReady b_S_isReady 2 (some .boolean) ∈ wB := wB_in (by decide +kernel) rfl
theorem xw_211 : Cond.methodLink R_O 80 y_S_isReady ∈ wB := wB_in (by decide +kernel) rfl
theorem xw_212 : Cond.instanceMethod y_S_isReady ∈ wB := wB_in (by decide +kernel) rfl
theorem xw_213 : Cond.selects R_S y_S_isReady y_S_isReady ∈ wB := wB_in (by decide +kernel) rfl
theorem xw_214 : Cond.code y_K_accept b_K_accept 2 (some .boolean) ∈ wB := wB_in (by decide +kernel) rfl
theorem xw_215 : Cond.methodLink R_O 114 y_K_accept ∈ wB := wB_in (by decide +kernel) rfl
theorem xw_216 : Cond.instanceMethod y_K_accept ∈ wB := wB_in (by decide +kernel) rfl
theorem xw_217 : Cond.selects R_K y_K_accept y_K_accept ∈ wB := wB_in (by decide +kernel) rfl
theorem xw_218 : Cond.code y_J_hasOpen b_J_hasOpen 1 (some .boolean) ∈ wB := wB_in (by decide +kernel) rfl
theorem xw_219 : Cond.methodLink R_K 102 y_J_hasOpen ∈ wB := wB_in (by decide +kernel) rfl
theorem xw_220 : Cond.instanceMethod y_J_hasOpen ∈ wB := wB_in (by decide +kernel) rfl
theorem xw_221 : Cond.selects R_J y_J_hasOpen y_J_hasOpen ∈ wB := wB_in (by decide +kernel) rfl
theorem xw_222 : Cond.fieldLink R_K 82 (T_J 5).1 (T_J 5).2.1 (T_J 5).2.2.1 ∈ wB := wB_in (by decide +kernel) rfl
theorem xw_223 : Cond.fieldLink R_K 85 (T_J 7).1 (T_J 7).2.1 (T_J 7).2.2.1 ∈ wB := wB_in (by decide +kernel) rfl
theorem xw_224 : Cond.code y_K_highestWithJob b_K_highestWithJob 2 (some (.object "SegmentKernel$Task")) ∈ wB := wB_in (by decide +kernel) rfl
theorem xw_225 : Cond.methodLink R_K 78 y_K_highestWithJob ∈ wB := wB_in (by decide +kernel) rfl
theorem xw_226 : Cond.instanceMethod y_K_highestWithJob ∈ wB := wB_in (by decide +kernel) rfl
theorem xw_227 : Cond.selects R_K y_K_highestWithJob y_K_highestWithJob ∈ wB := wB_in (by decide +kernel) rfl
theorem xw_228 : Cond.methodLink R_K 88 y_T_segmentAt ∈ wB := wB_in (by decide +kernel) rfl
theorem xw_229 : Cond.fieldLink R_J 15 (T_J 1).1 (T_J 1).2.1 (T_J 1).2.2.1 ∈ wB := wB_in (by decide +kernel) rfl
theorem xw_230 : Cond.methodLink R_J 37 Lib.Math.max.name ∈ wB := wB_in (by decide +kernel) rfl
theorem xw_231 : Cond.fieldLink R_K 92 (T_T 6).1 (T_T 6).2.1 (T_T 6).2.2.1 ∈ wB := wB_in (by decide +kernel) rfl
theorem xw_232 : Cond.fieldLink R_K 95 (T_T 4).1 (T_T 4).2.1 (T_T 4).2.2.1 ∈ wB := wB_in (by decide +kernel) rfl
theorem xw_233 : Cond.code y_J_finishOldest b_J_finishOldest 4 none ∈ wB := wB_in (by decide +kernel) rfl
theorem xw_234 : Cond.methodLink R_K 98 y_J_finishOldest ∈ wB := wB_in (by decide +kernel) rfl
theorem xw_235 : Cond.instanceMethod y_J_finishOldest ∈ wB := wB_in (by decide +kernel) rfl
theorem xw_236 : Cond.selects R_J y_J_finishOldest y_J_finishOldest ∈ wB := wB_in (by decide +kernel) rfl
theorem xw_237 : Cond.code y_K_endSegment b_K_endSegment 2 none ∈ wB := wB_in (by decide +kernel) rfl
theorem xw_238 : Cond.methodLink R_K 74 y_K_endSegment ∈ wB := wB_in (by decide +kernel) rfl
theorem xw_239 : Cond.instanceMethod y_K_endSegment ∈ wB := wB_in (by decide +kernel) rfl
theorem xw_240 : Cond.selects R_K y_K_endSegment y_K_endSegment ∈ wB := wB_in (by decide +kernel) rfl
theorem xw_241 : Cond.fieldLink R_K 61 (T_T 0).1 (T_T 0).2.1 (T_T 0).2.2.1 ∈ wB := wB_in (by decide +kernel) rfl
theorem xw_242 : Cond.methodLink R_K 64 Lib.Math.min.name ∈ wB := wB_in (by decide +kernel) rfl
theorem xw_243 : Cond.code y_K_beginSegment b_K_beginSegment 2 none ∈ wB := wB_in (by decide +kernel) rfl
theorem xw_244 : Cond.methodLink R_K 58 y_K_beginSegment ∈ wB := wB_in (by decide +kernel) rfl
theorem xw_245 : Cond.instanceMethod y_K_beginSegment ∈ wB := wB_in (by decide +kernel) rfl
theorem xw_246 : Cond.selects R_K y_K_beginSegment y_K_beginSegment ∈ wB := wB_in (by decide +kernel) rfl
theorem xw_247 : Cond.code y_K_run b_K_run 3 none ∈ wB := wB_in (by decide +kernel) rfl
theorem xw_248 : Cond.methodLink R_K 70 y_K_run ∈ wB := wB_in (by decide +kernel) rfl
theorem xw_249 : Cond.instanceMethod y_K_run ∈ wB := wB_in (by decide +kernel) rfl
theorem xw_250 : Cond.selects R_K y_K_run y_K_run ∈ wB := wB_in (by decide +kernel) rfl
theorem xw_251 : Cond.fieldLink R_O 124 (T_K 2).1 (T_K 2).2.1 (T_K 2).2.2.1 ∈ wB := wB_in (by decide +kernel) rfl
theorem xw_252 : Cond.fieldLink R_O 127 (T_T 1).1 (T_T 1).2.1 (T_T 1).2.2.1 ∈ wB := wB_in (by decide +kernel) rfl
theorem xw_253 : Cond.code y_J_notedResponse b_J_notedResponse 2 (some .int) ∈ wB := wB_in (by decide +kernel) rfl
theorem xw_254 : Cond.methodLink R_O 131 y_J_notedResponse ∈ wB := wB_in (by decide +kernel) rfl
theorem xw_255 : Cond.instanceMethod y_J_notedResponse ∈ wB := wB_in (by decide +kernel) rfl
theorem xw_256 : Cond.selects R_J y_J_notedResponse y_J_notedResponse ∈ wB := wB_in (by decide +kernel) rfl
theorem xw_257 : Cond.fieldLink R_O 136 (T_J 2).1 (T_J 2).2.1 (T_J 2).2.2.1 ∈ wB := wB_in (by decide +kernel) rfl
theorem xw_258 : Cond.fieldLink R_O 139 (T_J 3).1 (T_J 3).2.1 (T_J 3).2.2.1 ∈ wB := wB_in (by decide +kernel) rfl
theorem xw_259 : Cond.fieldLink R_O 142 (T_J 4).1 (T_J 4).2.1 (T_J 4).2.2.1 ∈ wB := wB_in (by decide +kernel) rfl
theorem xw_260 : Cond.fieldLink R_O 145 (T_J 5).1 (T_J 5).2.1 (T_J 5).2.2.1 ∈ wB := wB_in (by decide +kernel) rfl
theorem xw_261 : Cond.fieldLink R_O 148 (T_J 6).1 (T_J 6).2.1 (T_J 6).2.2.1 ∈ wB := wB_in (by decide +kernel) rfl
theorem xw_262 : Cond.code y_K_leftOf b_K_leftOf 2 (some .int) ∈ wB := wB_in (by decide +kernel) rfl
theorem xw_263 : Cond.methodLink R_O 151 y_K_leftOf ∈ wB := wB_in (by decide +kernel) rfl
theorem xw_264 : Cond.instanceMethod y_K_leftOf ∈ wB := wB_in (by decide +kernel) rfl
theorem xw_265 : Cond.selects R_K y_K_leftOf y_K_leftOf ∈ wB := wB_in (by decide +kernel) rfl
theorem xw_266 : Cond.fieldLink R_Y 62 (T_Y 0).1 (T_Y 0).2.1 (T_Y 0).2.2.1 ∈ wB := wB_in (by decide +kernel) rfl
theorem xw_267 : Cond.fieldLink R_Y 7 (T_Y 1).1 (T_Y 1).2.1 (T_Y 1).2.2.1 ∈ wB := wB_in (by decide +kernel) rfl
theorem xw_268 : Cond.fieldLink R_Y 13 (T_Y 2).1 (T_Y 2).2.1 (T_Y 2).2.2.1 ∈ wB := wB_in (by decide +kernel) rfl
theorem xw_269 : Cond.fieldLink R_Y 17 (T_Y 3).1 (T_Y 3).2.1 (T_Y 3).2.2.1 ∈ wB := wB_in (by decide +kernel) rfl
theorem xw_270 : Cond.fieldLink R_Y 20 (T_Y 4).1 (T_Y 4).2.1 (T_Y 4).2.2.1 ∈ wB := wB_in (by decide +kernel) rfl
theorem xw_271 : Cond.fieldLink R_Y 23 (T_Y 5).1 (T_Y 5).2.1 (T_Y 5).2.2.1 ∈ wB := wB_in (by decide +kernel) rfl
theorem xw_272 : Cond.fieldLink R_Y 66 (T_Y 25).1 (T_Y 25).2.1 (T_Y 25).2.2.1 ∈ wB := wB_in (by decide +kernel) rfl
theorem xw_273 : Cond.fieldLink R_Y 26 (T_Y 6).1 (T_Y 6).2.1 (T_Y 6).2.2.1 ∈ wB := wB_in (by decide +kernel) rfl
theorem xw_274 : Cond.code y_Y_isTask b_Y_isTask 2 (some .boolean) ∈ wB := wB_in (by decide +kernel) rfl
theorem xw_275 : Cond.methodLink R_Y 70 y_Y_isTask ∈ wB := wB_in (by decide +kernel) rfl
theorem xw_276 : Cond.instanceMethod y_Y_isTask ∈ wB := wB_in (by decide +kernel) rfl
theorem xw_277 : Cond.selects R_Y y_Y_isTask y_Y_isTask ∈ wB := wB_in (by decide +kernel) rfl
theorem xw_278 : Cond.initialized R_Y ∈ wB := wB_in (by decide +kernel) rfl
theorem xw_279 : Cond.fieldLink R_Y 35 (T_Y 16).1 (T_Y 16).2.1 (T_Y 16).2.2.1 ∈ wB := wB_in (by decide +kernel) rfl
theorem xw_280 : Cond.fieldLink R_Y 38 (T_Y 17).1 (T_Y 17).2.1 (T_Y 17).2.2.1 ∈ wB := wB_in (by decide +kernel) rfl
theorem xw_281 : Cond.fieldLink R_Y 47 (T_Y 20).1 (T_Y 20).2.1 (T_Y 20).2.2.1 ∈ wB := wB_in (by decide +kernel) rfl
theorem xw_282 : Cond.fieldLink R_Y 50 (T_Y 21).1 (T_Y 21).2.1 (T_Y 21).2.2.1 ∈ wB := wB_in (by decide +kernel) rfl
theorem xw_283 : Cond.fieldLink R_Y 53 (T_Y 22).1 (T_Y 22).2.1 (T_Y 22).2.2.1 ∈ wB := wB_in (by decide +kernel) rfl
theorem xw_284 : Cond.fieldLink R_Y 56 (T_Y 23).1 (T_Y 23).2.1 (T_Y 23).2.2.1 ∈ wB := wB_in (by decide +kernel) rfl
theorem xw_285 : Cond.fieldLink R_Y 74 (T_Y 15).1 (T_Y 15).2.1 (T_Y 15).2.2.1 ∈ wB := wB_in (by decide +kernel) rfl
theorem xw_286 : Cond.fieldLink R_Y 77 (T_Y 26).1 (T_Y 26).2.1 (T_Y 26).2.2.1 ∈ wB := wB_in (by decide +kernel) rfl
theorem xw_287 : Cond.fieldLink R_Y 80 (T_Y 27).1 (T_Y 27).2.1 (T_Y 27).2.2.1 ∈ wB := wB_in (by decide +kernel) rfl
theorem xw_288 : Cond.fieldLink R_Y 83 (T_Y 28).1 (T_Y 28).2.1 (T_Y 28).2.2.1 ∈ wB := wB_in (by decide +kernel) rfl
theorem xw_289 : Cond.code y_Y_forgetJobs b_Y_forgetJobs 2 none ∈ wB := wB_in (by decide +kernel) rfl
theorem xw_290 : Cond.methodLink R_Y 86 y_Y_forgetJobs ∈ wB := wB_in (by decide +kernel) rfl
theorem xw_291 : Cond.instanceMethod y_Y_forgetJobs ∈ wB := wB_in (by decide +kernel) rfl
theorem xw_292 : Cond.selects R_Y y_Y_forgetJobs y_Y_forgetJobs ∈ wB := wB_in (by decide +kernel) rfl
theorem xw_293 : Cond.code y_Y_workBefore b_Y_workBefore 5 (some .int) ∈ wB := wB_in (by decide +kernel) rfl
theorem xw_294 : Cond.methodLink R_Y 89 y_Y_workBefore ∈ wB := wB_in (by decide +kernel) rfl
theorem xw_295 : Cond.instanceMethod y_Y_workBefore ∈ wB := wB_in (by decide +kernel) rfl
theorem xw_296 : Cond.selects R_Y y_Y_workBefore y_Y_workBefore ∈ wB := wB_in (by decide +kernel) rfl
theorem xw_297 : Cond.code y_Y_longestOf b_Y_longestOf 4 (some .int) ∈ wB := wB_in (by decide +kernel) rfl
theorem xw_298 : Cond.methodLink R_Y 93 y_Y_longestOf ∈ wB := wB_in (by decide +kernel) rfl
theorem xw_299 : Cond.instanceMethod y_Y_longestOf ∈ wB := wB_in (by decide +kernel) rfl
theorem xw_300 : Cond.selects R_Y y_Y_longestOf y_Y_longestOf ∈ wB := wB_in (by decide +kernel) rfl
theorem xw_301 : Cond.code y_Y_longestBelow b_Y_longestBelow 4 (some .int) ∈ wB := wB_in (by decide +kernel) rfl
theorem xw_302 : Cond.methodLink R_Y 97 y_Y_longestBelow ∈ wB := wB_in (by decide +kernel) rfl
theorem xw_303 : Cond.instanceMethod y_Y_longestBelow ∈ wB := wB_in (by decide +kernel) rfl
theorem xw_304 : Cond.selects R_Y y_Y_longestBelow y_Y_longestBelow ∈ wB := wB_in (by decide +kernel) rfl
theorem xw_305 : Cond.code y_Y_work b_Y_work 2 (some .int) ∈ wB := wB_in (by decide +kernel) rfl
theorem xw_306 : Cond.methodLink R_Y 100 y_Y_work ∈ wB := wB_in (by decide +kernel) rfl
theorem xw_307 : Cond.instanceMethod y_Y_work ∈ wB := wB_in (by decide +kernel) rfl
theorem xw_308 : Cond.selects R_Y y_Y_work y_Y_work ∈ wB := wB_in (by decide +kernel) rfl
theorem xw_309 : Cond.code y_Y_blocking b_Y_blocking 2 (some .int) ∈ wB := wB_in (by decide +kernel) rfl
theorem xw_310 : Cond.methodLink R_Y 103 y_Y_blocking ∈ wB := wB_in (by decide +kernel) rfl
theorem xw_311 : Cond.instanceMethod y_Y_blocking ∈ wB := wB_in (by decide +kernel) rfl
theorem xw_312 : Cond.selects R_Y y_Y_blocking y_Y_blocking ∈ wB := wB_in (by decide +kernel) rfl
theorem xw_313 : Cond.fieldLink R_Y 29 (T_Y 7).1 (T_Y 7).2.1 (T_Y 7).2.2.1 ∈ wB := wB_in (by decide +kernel) rfl
theorem xw_314 : Cond.fieldLink R_Y 110 (T_Y 9).1 (T_Y 9).2.1 (T_Y 9).2.2.1 ∈ wB := wB_in (by decide +kernel) rfl
theorem xw_315 : Cond.code y_Y_counts b_Y_counts 3 (some .boolean) ∈ wB := wB_in (by decide +kernel) rfl
theorem xw_316 : Cond.methodLink R_Y 106 y_Y_counts ∈ wB := wB_in (by decide +kernel) rfl
theorem xw_317 : Cond.instanceMethod y_Y_counts ∈ wB := wB_in (by decide +kernel) rfl
theorem xw_318 : Cond.selects R_Y y_Y_counts y_Y_counts ∈ wB := wB_in (by decide +kernel) rfl
theorem xw_319 : Cond.fieldLink R_Y 32 (T_Y 8).1 (T_Y 8).2.1 (T_Y 8).2.2.1 ∈ wB := wB_in (by decide +kernel) rfl
theorem xw_320 : Cond.fieldLink R_Y 113 (T_Y 11).1 (T_Y 11).2.1 (T_Y 11).2.2.1 ∈ wB := wB_in (by decide +kernel) rfl
theorem xw_321 : Cond.fieldLink R_Y 116 (T_Y 12).1 (T_Y 12).2.1 (T_Y 12).2.2.1 ∈ wB := wB_in (by decide +kernel) rfl
theorem xw_322 : Cond.fieldLink R_Y 119 (T_Y 14).1 (T_Y 14).2.1 (T_Y 14).2.2.1 ∈ wB := wB_in (by decide +kernel) rfl
theorem xw_323 : Cond.fieldLink R_Y 122 (T_Y 10).1 (T_Y 10).2.1 (T_Y 10).2.2.1 ∈ wB := wB_in (by decide +kernel) rfl
theorem xw_324 : Cond.fieldLink R_Y 131 (T_Y 13).1 (T_Y 13).2.1 (T_Y 13).2.2.1 ∈ wB := wB_in (by decide +kernel) rfl
theorem xw_325 : Cond.code y_Y_isOver b_Y_isOver 3 (some .boolean) ∈ wB := wB_in (by decide +kernel) rfl
theorem xw_326 : Cond.methodLink R_Y 125 y_Y_isOver ∈ wB := wB_in (by decide +kernel) rfl
theorem xw_327 : Cond.instanceMethod y_Y_isOver ∈ wB := wB_in (by decide +kernel) rfl
theorem xw_328 : Cond.selects R_Y y_Y_isOver y_Y_isOver ∈ wB := wB_in (by decide +kernel) rfl
theorem xw_329 : Cond.code y_Y_next b_Y_next 5 (some .int) ∈ wB := wB_in (by decide +kernel) rfl
theorem xw_330 : Cond.methodLink R_Y 128 y_Y_next ∈ wB := wB_in (by decide +kernel) rfl
theorem xw_331 : Cond.instanceMethod y_Y_next ∈ wB := wB_in (by decide +kernel) rfl
theorem xw_332 : Cond.selects R_Y y_Y_next y_Y_next ∈ wB := wB_in (by decide +kernel) rfl
theorem xw_333 : Cond.code y_Y_highest b_Y_highest 4 (some .int) ∈ wB := wB_in (by decide +kernel) rfl
theorem xw_334 : Cond.methodLink R_Y 134 y_Y_highest ∈ wB := wB_in (by decide +kernel) rfl
theorem xw_335 : Cond.instanceMethod y_Y_highest ∈ wB := wB_in (by decide +kernel) rfl
theorem xw_336 : Cond.selects R_Y y_Y_highest y_Y_highest ∈ wB := wB_in (by decide +kernel) rfl
theorem xw_337 : Cond.code y_Y_go b_Y_go 5 none ∈ wB := wB_in (by decide +kernel) rfl
theorem xw_338 : Cond.methodLink R_Y 137 y_Y_go ∈ wB := wB_in (by decide +kernel) rfl
theorem xw_339 : Cond.instanceMethod y_Y_go ∈ wB := wB_in (by decide +kernel) rfl
theorem xw_340 : Cond.selects R_Y y_Y_go y_Y_go ∈ wB := wB_in (by decide +kernel) rfl
theorem xw_341 : Cond.code y_Y_isReady b_Y_isReady 3 (some .boolean) ∈ wB := wB_in (by decide +kernel) rfl
theorem xw_342 : Cond.methodLink R_Y 141 y_Y_isReady ∈ wB := wB_in (by decide +kernel) rfl
theorem xw_343 : Cond.instanceMethod y_Y_isReady ∈ wB := wB_in (by decide +kernel) rfl
theorem xw_344 : Cond.selects R_Y y_Y_isReady y_Y_isReady ∈ wB := wB_in (by decide +kernel) rfl
theorem xw_345 : Cond.code y_Y_raise b_Y_raise 2 (some .int) ∈ wB := wB_in (by decide +kernel) rfl
theorem xw_346 : Cond.methodLink R_Y 145 y_Y_raise ∈ wB := wB_in (by decide +kernel) rfl
theorem xw_347 : Cond.instanceMethod y_Y_raise ∈ wB := wB_in (by decide +kernel) rfl
theorem xw_348 : Cond.selects R_Y y_Y_raise y_Y_raise ∈ wB := wB_in (by decide +kernel) rfl
theorem xw_349 : Cond.code y_Y_admitted b_Y_admitted 2 (some .int) ∈ wB := wB_in (by decide +kernel) rfl
theorem xw_350 : Cond.methodLink R_Y 148 y_Y_admitted ∈ wB := wB_in (by decide +kernel) rfl
theorem xw_351 : Cond.instanceMethod y_Y_admitted ∈ wB := wB_in (by decide +kernel) rfl
theorem xw_352 : Cond.selects R_Y y_Y_admitted y_Y_admitted ∈ wB := wB_in (by decide +kernel) rfl
theorem xw_353 : Cond.code y_Y_asks b_Y_asks 2 (some .boolean) ∈ wB := wB_in (by decide +kernel) rfl
theorem xw_354 : Cond.methodLink R_Y 152 y_Y_asks ∈ wB := wB_in (by decide +kernel) rfl
theorem xw_355 : Cond.instanceMethod y_Y_asks ∈ wB := wB_in (by decide +kernel) rfl
theorem xw_356 : Cond.selects R_Y y_Y_asks y_Y_asks ∈ wB := wB_in (by decide +kernel) rfl
theorem xw_357 : Cond.code y_Y_tolerates b_Y_tolerates 4 (some .int) ∈ wB := wB_in (by decide +kernel) rfl
theorem xw_358 : Cond.methodLink R_Y 155 y_Y_tolerates ∈ wB := wB_in (by decide +kernel) rfl
theorem xw_359 : Cond.instanceMethod y_Y_tolerates ∈ wB := wB_in (by decide +kernel) rfl
theorem xw_360 : Cond.selects R_Y y_Y_tolerates y_Y_tolerates ∈ wB := wB_in (by decide +kernel) rfl
theorem xw_361 : Cond.code y_Y_stretchOne b_Y_stretchOne 7 none ∈ wB := wB_in (by decide +kernel) rfl
theorem xw_362 : Cond.methodLink R_Y 158 y_Y_stretchOne ∈ wB := wB_in (by decide +kernel) rfl
theorem xw_363 : Cond.instanceMethod y_Y_stretchOne ∈ wB := wB_in (by decide +kernel) rfl
theorem xw_364 : Cond.selects R_Y y_Y_stretchOne y_Y_stretchOne ∈ wB := wB_in (by decide +kernel) rfl
theorem xw_365 : Cond.fieldLink R_Y 41 (T_Y 18).1 (T_Y 18).2.1 (T_Y 18).2.2.1 ∈ wB := wB_in (by decide +kernel) rfl
theorem xw_366 : Cond.fieldLink R_Y 44 (T_Y 19).1 (T_Y 19).2.1 (T_Y 19).2.2.1 ∈ wB := wB_in (by decide +kernel) rfl
theorem xw_367 : Cond.code y_Y_waiting b_Y_waiting 3 (some .int) ∈ wB := wB_in (by decide +kernel) rfl
theorem xw_368 : Cond.methodLink R_Y 161 y_Y_waiting ∈ wB := wB_in (by decide +kernel) rfl
theorem xw_369 : Cond.instanceMethod y_Y_waiting ∈ wB := wB_in (by decide +kernel) rfl
theorem xw_370 : Cond.selects R_Y y_Y_waiting y_Y_waiting ∈ wB := wB_in (by decide +kernel) rfl
theorem xw_371 : Cond.fieldLink R_Y 59 (T_Y 24).1 (T_Y 24).2.1 (T_Y 24).2.2.1 ∈ wB := wB_in (by decide +kernel) rfl
theorem xw_372 : Cond.code y_Y_begin b_Y_begin 2 none ∈ wB := wB_in (by decide +kernel) rfl
theorem xw_373 : Cond.methodLink R_Y 164 y_Y_begin ∈ wB := wB_in (by decide +kernel) rfl
theorem xw_374 : Cond.instanceMethod y_Y_begin ∈ wB := wB_in (by decide +kernel) rfl
theorem xw_375 : Cond.selects R_Y y_Y_begin y_Y_begin ∈ wB := wB_in (by decide +kernel) rfl
theorem xw_376 : Cond.code y_Y_finish b_Y_finish 3 none ∈ wB := wB_in (by decide +kernel) rfl
theorem xw_377 : Cond.methodLink R_Y 167 y_Y_finish ∈ wB := wB_in (by decide +kernel) rfl
theorem xw_378 : Cond.instanceMethod y_Y_finish ∈ wB := wB_in (by decide +kernel) rfl
theorem xw_379 : Cond.selects R_Y y_Y_finish y_Y_finish ∈ wB := wB_in (by decide +kernel) rfl
theorem xw_380 : Cond.code y_Y_step b_Y_step 2 (some .int) ∈ wB := wB_in (by decide +kernel) rfl
theorem xw_381 : Cond.methodLink R_Y 171 y_Y_step ∈ wB := wB_in (by decide +kernel) rfl
theorem xw_382 : Cond.instanceMethod y_Y_step ∈ wB := wB_in (by decide +kernel) rfl
theorem xw_383 : Cond.selects R_Y y_Y_step y_Y_step ∈ wB := wB_in (by decide +kernel) rfl
end
section
abbrev rm_S_hasPriority : Room := { frames := 0, cells := 0, slots := 0, locals := 0 }
def ws_S_hasPriority : List Cond := Cond.code y_S_hasPriority b_S_hasPriority 3 (some .boolean) :: wB
set_option maxHeartbeats 4000000 in
set_option maxRecDepth 100000 in
theorem c_S_hasPriority {l : Launch} {D : va_G} {cI cT : ClassId} {ad : Nat → Nat} {n : Nat} {M : MX} {a1 : Int32} {r0 : Int32} (hj : j_S_hasPriority n M a1 = some r0) : gw_Cz l y_S_hasPriority ws_S_hasPriority rm_S_hasPriority D (tyX cI cT) (wX cI cT ad M) [.ref (ad 1), .int a1] r0 (wX cI cT ad M) := by
  intro sz
  refine gw_metz (cc := b_S_hasPriority) (maxL := 3) (by decide) rfl (Nat.le_of_ble_eq_true rfl) ?_
  intro p e s m args below meth c A Q S H locs hw hend ls hl
  have S : CallFix p m c b_S_hasPriority 3 s args ws_S_hasPriority R_S := S
  have hx := S.1
  have hb := S.2.1
  have hts := S.2.2.2.2
  have hl : lv_has ls 3 [(0, .ref (ad 1)), (1, .int a1)] := hl
  have n_T_S : ∀ w ∈ u_ws R_S T_S 3, w ∈ ws_S_hasPriority := fun w h => List.mem_cons_of_mem _ (uT_S w h)
  have n_T_T : ∀ w ∈ u_ws R_T T_T 13, w ∈ ws_S_hasPriority := fun w h => List.mem_cons_of_mem _ (uT_T w h)
  have f_17 : Cond.fieldLink R_S 17 (T_S 1).1 (T_S 1).2.1 (T_S 1).2.2.1 ∈ ws_S_hasPriority := List.mem_cons_of_mem _ xw_0
  have f_27 : Cond.fieldLink R_S 27 (T_S 2).1 (T_S 2).2.1 (T_S 2).2.2.1 ∈ ws_S_hasPriority := List.mem_cons_of_mem _ xw_1
  have f_70 : Cond.fieldLink R_S 70 (T_T 5).1 (T_T 5).2.1 (T_T 5).2.2.1 ∈ ws_S_hasPriority := List.mem_cons_of_mem _ xw_2
  unfold j_S_hasPriority at hj
  refine lv_iconst (v := 0) hx hb d_S_hasPriority_0 (by decide) ?_
  refine lv_istore_n (lv' := [(2, .int 0), (0, .ref (ad 1)), (1, .int a1)]) hx hb d_S_hasPriority_1 rfl hl (by decide) rfl (fun ls hl => ?_)
  have L2 : ∀ (f2 : Nat) (v2_2 : Int32), j_S_hasPriority_L2 n M a1 f2 v2_2 = some r0 → ∀ (H : Heap) (locs : List Loc), gw_W D (tyX cI cT) A (wX cI cT ad M) s H locs → ∀ ls : Array Slot, lv_has ls 3 [(0, .ref (ad 1)), (1, .int a1), (2, .int v2_2)] → W p l e rm_S_hasPriority s m args below meth c H locs 0 0 Q (F0 m 2 ls []) := by
    intro f2
    induction f2 with
    | zero =>
      intro v2_2 hj
      exact nomatch (show (none : Option Int32) = some r0 from hj)
    | succ f2 ih2 =>
      intro v2_2 hj H locs hw ls hl
      rw [j_S_hasPriority_L2] at hj
      refine lv_iload_n hx hb d_S_hasPriority_2 rfl (lv_at hl 2 rfl) ?_
      refine lv_aload_n hx hb d_S_hasPriority_3 rfl (lv_at hl 0 rfl) ?_
      refine gw_get (v := .int (M.2.1 0 2)) S hw xa_S rfl (by decide) n_T_S f_27 rfl d_S_hasPriority_4 ?_
      refine lv_icmp_ge (tgt := 31) hx hb d_S_hasPriority_7 (by decide) (fun c_4 => ?_) (fun c_4 => ?_)
      · rw [if_pos c_4] at hj
        refine lv_iconst (v := 0) hx hb d_S_hasPriority_31 (by decide) ?_
        exact hend H locs ls 32 _ _ (Option.some.inj hj) rfl (Or.inl rfl) hw d_S_hasPriority_32
      · rw [if_neg c_4] at hj
        refine lv_aload_n hx hb d_S_hasPriority_10 rfl (lv_at hl 0 rfl) ?_
        refine gw_get (v := .ref (ad 3)) S hw xa_S rfl (by decide) n_T_S f_17 rfl d_S_hasPriority_11 ?_
        refine lv_iload_n hx hb d_S_hasPriority_14 rfl (lv_at hl 2 rfl) ?_
        obtain ⟨g_5, hj⟩ := gw_if hj
        refine gw_aldq (t0 := 1) S hw ⟨xa_rk, rfl⟩ g_5 d_S_hasPriority_15 ?_
        refine gw_get (v := .int (M.1 0 (M.2.2.1 v2_2.toNatClampNeg) 5)) S hw (xa_T (M.2.2.1 v2_2.toNatClampNeg)) rfl (by decide) n_T_T f_70 rfl d_S_hasPriority_16 ?_
        refine lv_iload_n hx hb d_S_hasPriority_19 rfl (lv_at hl 1 rfl) ?_
        refine lv_icmp_ne (tgt := 25) hx hb d_S_hasPriority_20 (by decide) (fun c_6 => ?_) (fun c_6 => ?_)
        · rw [if_neg c_6] at hj
          refine lv_iinc (v := (v2_2 + 1)) (lv' := [(2, .int (v2_2 + 1)), (0, .ref (ad 1)), (1, .int a1)]) hx hb d_S_hasPriority_25 hl (k := 2) rfl rfl (by decide) rfl (fun ls hl => ?_)
          refine lv_goto (tgt := 2) hx hb d_S_hasPriority_28 (by decide) ?_
          exact ih2 (v2_2 + 1) hj H locs hw ls (lv_sub hl [1, 2, 0] rfl)
        · rw [if_pos c_6] at hj
          refine lv_iconst (v := 1) hx hb d_S_hasPriority_23 (by decide) ?_
          exact hend H locs ls 24 _ _ (Option.some.inj hj) rfl (Or.inr rfl) hw d_S_hasPriority_24
  exact L2 n 0 hj H locs hw ls (lv_sub hl [1, 2, 0] rfl)
abbrev rm_S_find : Room := { frames := 0, cells := 0, slots := 0, locals := 0 }
def ws_S_find : List Cond := Cond.code y_S_find b_S_find 3 (some (.object "SegmentKernel$Task")) :: wB
set_option maxHeartbeats 4000000 in
set_option maxRecDepth 100000 in
theorem c_S_find {l : Launch} {D : va_G} {cI cT : ClassId} {ad : Nat → Nat} {n : Nat} {M : MX} {a1 : Int32} {r0 : Option (Fin 8)} (hj : j_S_find n M a1 = some r0) : gw_Cq l y_S_find ws_S_find rm_S_find D (tyX cI cT) (wX cI cT ad M) [.ref (ad 1), .int a1] (gw_oa ad r0) (wX cI cT ad M) := by
  intro sz
  refine gw_metq (cc := b_S_find) (maxL := 3) (by decide) rfl (Nat.le_of_ble_eq_true rfl) ?_
  intro p e s m args below meth c A Q S H locs hw hend ls hl
  have S : CallFix p m c b_S_find 3 s args ws_S_find R_S := S
  have hx := S.1
  have hb := S.2.1
  have hts := S.2.2.2.2
  have hl : lv_has ls 3 [(0, .ref (ad 1)), (1, .int a1)] := hl
  have n_T_S : ∀ w ∈ u_ws R_S T_S 3, w ∈ ws_S_find := fun w h => List.mem_cons_of_mem _ (uT_S w h)
  have n_T_T : ∀ w ∈ u_ws R_T T_T 13, w ∈ ws_S_find := fun w h => List.mem_cons_of_mem _ (uT_T w h)
  have f_11 : Cond.fieldLink R_S 11 (T_S 0).1 (T_S 0).2.1 (T_S 0).2.2.1 ∈ ws_S_find := List.mem_cons_of_mem _ xw_3
  have f_23 : Cond.fieldLink R_S 23 (T_T 8).1 (T_T 8).2.1 (T_T 8).2.2.1 ∈ ws_S_find := List.mem_cons_of_mem _ xw_4
  have f_27 : Cond.fieldLink R_S 27 (T_S 2).1 (T_S 2).2.1 (T_S 2).2.2.1 ∈ ws_S_find := List.mem_cons_of_mem _ xw_1
  unfold j_S_find at hj
  refine lv_iload_n hx hb d_S_find_0 rfl (lv_at hl 1 rfl) ?_
  refine lv_iconst (v := 1) hx hb d_S_find_1 (by decide) ?_
  refine lv_icmp_lt (tgt := 11) hx hb d_S_find_2 (by decide) (fun c_1 => ?_) (fun c_1 => ?_)
  · rw [if_pos c_1] at hj
    refine lv_null hx hb d_S_find_11 ?_
    exact hend H locs ls 12 _ _ (congrArg (gw_oa ad) (Option.some.inj hj)) rfl hw d_S_find_12
  · rw [if_neg c_1] at hj
    refine lv_iload_n hx hb d_S_find_5 rfl (lv_at hl 1 rfl) ?_
    refine lv_bipush (v := 8) hx hb d_S_find_6 (by decide) ?_
    refine lv_icmp_le (tgt := 13) hx hb d_S_find_8 (by decide) (fun c_2 => ?_) (fun c_2 => ?_)
    · rw [if_pos c_2] at hj
      refine lv_aload_n hx hb d_S_find_13 rfl (lv_at hl 0 rfl) ?_
      refine gw_get (v := .ref (ad 2)) S hw xa_S rfl (by decide) n_T_S f_11 rfl d_S_find_14 ?_
      refine lv_iload_n hx hb d_S_find_17 rfl (lv_at hl 1 rfl) ?_
      refine lv_iconst (v := 1) hx hb d_S_find_18 (by decide) ?_
      refine lv_isub hx hb d_S_find_19 ?_
      obtain ⟨g_3, hj⟩ := gw_if hj
      refine gw_aldq (t0 := 1) S hw ⟨xa_by, rfl⟩ g_3 d_S_find_20 ?_
      refine lv_astore_n (lv' := [(2, .ref (ad (6 + (fin8 (a1 - 1).toNatClampNeg).val))), (0, .ref (ad 1)), (1, .int a1)]) hx hb d_S_find_21 rfl hl (by decide) rfl (fun ls hl => ?_)
      refine lv_aload_n hx hb d_S_find_22 rfl (lv_at hl 0 rfl) ?_
      refine gw_get (v := .int (M.1 0 (fin8 (a1 - 1).toNatClampNeg) 8)) S hw (xa_T (fin8 (a1 - 1).toNatClampNeg)) rfl (by decide) n_T_T f_23 rfl d_S_find_23 ?_
      refine lv_aload_n hx hb d_S_find_26 rfl (lv_at hl 1 rfl) ?_
      refine gw_get (v := .int (M.2.1 0 2)) S hw xa_S rfl (by decide) n_T_S f_27 rfl d_S_find_27 ?_
      refine lv_icmp_ge (tgt := 37) hx hb d_S_find_30 (by decide) (fun c_4 => ?_) (fun c_4 => ?_)
      · rw [if_pos c_4] at hj
        refine lv_null hx hb d_S_find_37 ?_
        exact hend H locs ls 38 _ _ (congrArg (gw_oa ad) (Option.some.inj hj)) rfl hw d_S_find_38
      · rw [if_neg c_4] at hj
        refine lv_aload_n hx hb d_S_find_33 rfl (lv_at hl 0 rfl) ?_
        refine lv_goto (tgt := 38) hx hb d_S_find_34 (by decide) ?_
        exact hend H locs ls 38 _ _ (congrArg (gw_oa ad) (Option.some.inj hj)) rfl hw d_S_find_38
    · rw [if_neg c_2] at hj
      refine lv_null hx hb d_S_find_11 ?_
      exact hend H locs ls 12 _ _ (congrArg (gw_oa ad) (Option.some.inj hj)) rfl hw d_S_find_12
abbrev rm_T_become : Room := { frames := 0, cells := 0, slots := 0, locals := 0 }
def ws_T_become : List Cond := Cond.code y_T_become b_T_become 4 none :: wB
set_option maxHeartbeats 4000000 in
set_option maxRecDepth 100000 in
theorem c_T_become {l : Launch} {D : va_G} {cI cT : ClassId} {ad : Nat → Nat} {n : Nat} {M : MX} {x0 : Fin 8} {a1 : Int32} {a2 : Int32} {a3 : Int32} {M0 : MX} (hj : j_T_become n M x0 a1 a2 a3 = some M0) : gw_Cv l y_T_become ws_T_become rm_T_become D (tyX cI cT) (wX cI cT ad M) [.ref (ad (6 + x0.val)), .int a1, .int a2, .int a3] (wX cI cT ad M0) := by
  intro sz
  refine gw_metv (cc := b_T_become) (maxL := 4) (by decide) rfl (Nat.le_of_ble_eq_true rfl) ?_
  intro p e s m args below meth c A Q S H locs hw hend ls hl
  have S : CallFix p m c b_T_become 4 s args ws_T_become R_T := S
  have hx := S.1
  have hb := S.2.1
  have hts := S.2.2.2.2
  have hl : lv_has ls 4 [(0, .ref (ad (6 + x0.val))), (1, .int a1), (2, .int a2), (3, .int a3)] := hl
  have n_T_T : ∀ w ∈ u_ws R_T T_T 13, w ∈ ws_T_become := fun w h => List.mem_cons_of_mem _ (uT_T w h)
  have f_35 : Cond.fieldLink R_T 35 (T_T 3).1 (T_T 3).2.1 (T_T 3).2.2.1 ∈ ws_T_become := List.mem_cons_of_mem _ xw_5
  have f_38 : Cond.fieldLink R_T 38 (T_T 4).1 (T_T 4).2.1 (T_T 4).2.2.1 ∈ ws_T_become := List.mem_cons_of_mem _ xw_6
  have f_41 : Cond.fieldLink R_T 41 (T_T 5).1 (T_T 5).2.1 (T_T 5).2.2.1 ∈ ws_T_become := List.mem_cons_of_mem _ xw_7
  have f_44 : Cond.fieldLink R_T 44 (T_T 6).1 (T_T 6).2.1 (T_T 6).2.2.1 ∈ ws_T_become := List.mem_cons_of_mem _ xw_8
  have f_47 : Cond.fieldLink R_T 47 (T_T 7).1 (T_T 7).2.1 (T_T 7).2.2.1 ∈ ws_T_become := List.mem_cons_of_mem _ xw_9
  unfold j_T_become at hj
  refine lv_aload_n hx hb d_T_become_0 rfl (lv_at hl 0 rfl) ?_
  refine lv_iload_n hx hb d_T_become_1 rfl (lv_at hl 1 rfl) ?_
  refine gw_put (v := .int a1) (ty := .int) S hw (xa_T x0) rfl (by decide) n_T_T f_35 tk_T nm_T rfl (by decide +kernel) rfl rfl (Nat.le_of_ble_eq_true rfl) (xs_T x0 3 a1 (by decide)) d_T_become_2 (fun H locs hw => ?_)
  refine lv_aload_n hx hb d_T_become_5 rfl (lv_at hl 0 rfl) ?_
  refine lv_iload_n hx hb d_T_become_6 rfl (lv_at hl 2 rfl) ?_
  refine gw_put (v := .int a2) (ty := .int) S hw (xa_T x0) rfl (by decide) n_T_T f_38 tk_T nm_T rfl (by decide +kernel) rfl rfl (Nat.le_of_ble_eq_true rfl) (xs_T x0 4 a2 (by decide)) d_T_become_7 (fun H locs hw => ?_)
  refine lv_aload_n hx hb d_T_become_10 rfl (lv_at hl 0 rfl) ?_
  refine lv_iload_n hx hb d_T_become_11 rfl (lv_at hl 3 rfl) ?_
  refine gw_put (v := .int a3) (ty := .int) S hw (xa_T x0) rfl (by decide) n_T_T f_41 tk_T nm_T rfl (by decide +kernel) rfl rfl (Nat.le_of_ble_eq_true rfl) (xs_T x0 5 a3 (by decide)) d_T_become_12 (fun H locs hw => ?_)
  refine lv_aload_n hx hb d_T_become_15 rfl (lv_at hl 0 rfl) ?_
  refine lv_iconst (v := 0) hx hb d_T_become_16 (by decide) ?_
  refine gw_put (v := .int 0) (ty := .int) S hw (xa_T x0) rfl (by decide) n_T_T f_44 tk_T nm_T rfl (by decide +kernel) rfl rfl (Nat.le_of_ble_eq_true rfl) (xs_T x0 6 0 (by decide)) d_T_become_17 (fun H locs hw => ?_)
  refine lv_aload_n hx hb d_T_become_20 rfl (lv_at hl 0 rfl) ?_
  refine lv_iconst (v := 0) hx hb d_T_become_21 (by decide) ?_
  refine gw_put (v := .int 0) (ty := .int) S hw (xa_T x0) rfl (by decide) n_T_T f_47 tk_T nm_T rfl (by decide +kernel) rfl rfl (Nat.le_of_ble_eq_true rfl) (xs_T x0 7 0 (by decide)) d_T_become_22 (fun H locs hw => ?_)
  exact hend H locs ls 25 _ (congrArg (wX cI cT ad) (Option.some.inj hj)) hw d_T_become_25
abbrev rm_S_swap : Room := { frames := 0, cells := 0, slots := 0, locals := 0 }
def ws_S_swap : List Cond := Cond.code y_S_swap b_S_swap 4 none :: wB
set_option maxHeartbeats 4000000 in
set_option maxRecDepth 100000 in
theorem c_S_swap {l : Launch} {D : va_G} {cI cT : ClassId} {ad : Nat → Nat} {n : Nat} {M : MX} {a1 : Int32} {a2 : Int32} {M0 : MX} (hj : j_S_swap n M a1 a2 = some M0) : gw_Cv l y_S_swap ws_S_swap rm_S_swap D (tyX cI cT) (wX cI cT ad M) [.ref (ad 1), .int a1, .int a2] (wX cI cT ad M0) := by
  intro sz
  refine gw_metv (cc := b_S_swap) (maxL := 4) (by decide) rfl (Nat.le_of_ble_eq_true rfl) ?_
  intro p e s m args below meth c A Q S H locs hw hend ls hl
  have S : CallFix p m c b_S_swap 4 s args ws_S_swap R_S := S
  have hx := S.1
  have hb := S.2.1
  have hts := S.2.2.2.2
  have hl : lv_has ls 4 [(0, .ref (ad 1)), (1, .int a1), (2, .int a2)] := hl
  have n_T_S : ∀ w ∈ u_ws R_S T_S 3, w ∈ ws_S_swap := fun w h => List.mem_cons_of_mem _ (uT_S w h)
  have n_T_T : ∀ w ∈ u_ws R_T T_T 13, w ∈ ws_S_swap := fun w h => List.mem_cons_of_mem _ (uT_T w h)
  have f_17 : Cond.fieldLink R_S 17 (T_S 1).1 (T_S 1).2.1 (T_S 1).2.2.1 ∈ ws_S_swap := List.mem_cons_of_mem _ xw_0
  have f_23 : Cond.fieldLink R_S 23 (T_T 8).1 (T_T 8).2.1 (T_T 8).2.2.1 ∈ ws_S_swap := List.mem_cons_of_mem _ xw_4
  unfold j_S_swap at hj
  refine lv_aload_n hx hb d_S_swap_0 rfl (lv_at hl 0 rfl) ?_
  refine gw_get (v := .ref (ad 3)) S hw xa_S rfl (by decide) n_T_S f_17 rfl d_S_swap_1 ?_
  refine lv_iload_n hx hb d_S_swap_4 rfl (lv_at hl 1 rfl) ?_
  obtain ⟨g_1, hj⟩ := gw_if hj
  refine gw_aldq (t0 := 1) S hw ⟨xa_rk, rfl⟩ g_1 d_S_swap_5 ?_
  refine lv_astore_n (lv' := [(3, .ref (ad (6 + (M.2.2.1 a1.toNatClampNeg).val))), (0, .ref (ad 1)), (1, .int a1), (2, .int a2)]) hx hb d_S_swap_6 rfl hl (by decide) rfl (fun ls hl => ?_)
  refine lv_aload_n hx hb d_S_swap_7 rfl (lv_at hl 1 rfl) ?_
  refine gw_get (v := .ref (ad 3)) S hw xa_S rfl (by decide) n_T_S f_17 rfl d_S_swap_8 ?_
  refine lv_iload_n hx hb d_S_swap_11 rfl (lv_at hl 2 rfl) ?_
  refine lv_aload_n hx hb d_S_swap_12 rfl (lv_at hl 1 rfl) ?_
  refine gw_get (v := .ref (ad 3)) S hw xa_S rfl (by decide) n_T_S f_17 rfl d_S_swap_13 ?_
  refine lv_iload_n hx hb d_S_swap_16 rfl (lv_at hl 3 rfl) ?_
  obtain ⟨g_2, hj⟩ := gw_if hj
  refine gw_aldq (t0 := 1) S hw ⟨xa_rk, rfl⟩ g_2 d_S_swap_17 ?_
  obtain ⟨g_3, hj⟩ := gw_if hj
  refine gw_astq (t0 := 1) S hw ⟨xa_rk, rfl⟩ (xa_T (M.2.2.1 a2.toNatClampNeg)) rfl g_3 (xs_rk a1.toNatClampNeg (M.2.2.1 a2.toNatClampNeg)) d_S_swap_18 (fun H locs hw => ?_)
  refine lv_aload_n hx hb d_S_swap_19 rfl (lv_at hl 1 rfl) ?_
  refine gw_get (v := .ref (ad 3)) S hw xa_S rfl (by decide) n_T_S f_17 rfl d_S_swap_20 ?_
  refine lv_iload_n hx hb d_S_swap_23 rfl (lv_at hl 3 rfl) ?_
  refine lv_aload_n hx hb d_S_swap_24 rfl (lv_at hl 0 rfl) ?_
  obtain ⟨g_4, hj⟩ := gw_if hj
  refine gw_astq (t0 := 1) S hw ⟨xa_rk, rfl⟩ (xa_T (M.2.2.1 a1.toNatClampNeg)) rfl g_4 (xs_rk a2.toNatClampNeg (M.2.2.1 a1.toNatClampNeg)) d_S_swap_25 (fun H locs hw => ?_)
  refine lv_aload_n hx hb d_S_swap_26 rfl (lv_at hl 1 rfl) ?_
  refine gw_get (v := .ref (ad 3)) S hw xa_S rfl (by decide) n_T_S f_17 rfl d_S_swap_27 ?_
  refine lv_iload_n hx hb d_S_swap_30 rfl (lv_at hl 2 rfl) ?_
  obtain ⟨g_5, hj⟩ := gw_if hj
  refine gw_aldq (t0 := 1) S hw ⟨xa_rk, rfl⟩ g_5 d_S_swap_31 ?_
  refine lv_iload_n hx hb d_S_swap_32 rfl (lv_at hl 2 rfl) ?_
  refine gw_put (v := .int a1) (ty := .int) S hw (xa_T ((sR (sR M a1.toNatClampNeg (M.2.2.1 a2.toNatClampNeg)) a2.toNatClampNeg (M.2.2.1 a1.toNatClampNeg)).2.2.1 a1.toNatClampNeg)) rfl (by decide) n_T_T f_23 tk_T nm_T rfl (by decide +kernel) rfl rfl (Nat.le_of_ble_eq_true rfl) (xs_T ((sR (sR M a1.toNatClampNeg (M.2.2.1 a2.toNatClampNeg)) a2.toNatClampNeg (M.2.2.1 a1.toNatClampNeg)).2.2.1 a1.toNatClampNeg) 8 a1 (by decide)) d_S_swap_33 (fun H locs hw => ?_)
  refine lv_aload_n hx hb d_S_swap_36 rfl (lv_at hl 1 rfl) ?_
  refine gw_get (v := .ref (ad 3)) S hw xa_S rfl (by decide) n_T_S f_17 rfl d_S_swap_37 ?_
  refine lv_iload_n hx hb d_S_swap_40 rfl (lv_at hl 3 rfl) ?_
  obtain ⟨g_6, hj⟩ := gw_if hj
  refine gw_aldq (t0 := 1) S hw ⟨xa_rk, rfl⟩ g_6 d_S_swap_41 ?_
  refine lv_iload_n hx hb d_S_swap_42 rfl (lv_at hl 3 rfl) ?_
  refine gw_put (v := .int a2) (ty := .int) S hw (xa_T ((sF (sR (sR M a1.toNatClampNeg (M.2.2.1 a2.toNatClampNeg)) a2.toNatClampNeg (M.2.2.1 a1.toNatClampNeg)) 0 ((sR (sR M a1.toNatClampNeg (M.2.2.1 a2.toNatClampNeg)) a2.toNatClampNeg (M.2.2.1 a1.toNatClampNeg)).2.2.1 a1.toNatClampNeg) 8 a1).2.2.1 a2.toNatClampNeg)) rfl (by decide) n_T_T f_23 tk_T nm_T rfl (by decide +kernel) rfl rfl (Nat.le_of_ble_eq_true rfl) (xs_T ((sF (sR (sR M a1.toNatClampNeg (M.2.2.1 a2.toNatClampNeg)) a2.toNatClampNeg (M.2.2.1 a1.toNatClampNeg)) 0 ((sR (sR M a1.toNatClampNeg (M.2.2.1 a2.toNatClampNeg)) a2.toNatClampNeg (M.2.2.1 a1.toNatClampNeg)).2.2.1 a1.toNatClampNeg) 8 a1).2.2.1 a2.toNatClampNeg) 8 a2 (by decide)) d_S_swap_43 (fun H locs hw => ?_)
  exact hend H locs ls 46 _ (congrArg (wX cI cT ad) (Option.some.inj hj)) hw d_S_swap_46
abbrev rm_S_place : Room := { frames := 1, cells := 0, slots := 0, locals := 23 }
def ws_S_place : List Cond := Cond.code y_S_place b_S_place 3 none :: wB
set_option maxHeartbeats 4000000 in
set_option maxRecDepth 100000 in
theorem c_S_place {l : Launch} {D : va_G} {cI cT : ClassId} {ad : Nat → Nat} {n : Nat} {M : MX} {x1 : Fin 8} {M0 : MX} (hj : j_S_place n M x1 = some M0) : gw_Cv l y_S_place ws_S_place rm_S_place D (tyX cI cT) (wX cI cT ad M) [.ref (ad 1), .ref (ad (6 + x1.val))] (wX cI cT ad M0) := by
  intro sz
  refine gw_metv (cc := b_S_place) (maxL := 3) (by decide) rfl (Nat.le_of_ble_eq_true rfl) ?_
  intro p e s m args below meth c A Q S H locs hw hend ls hl
  have S : CallFix p m c b_S_place 3 s args ws_S_place R_S := S
  have hx := S.1
  have hb := S.2.1
  have hts := S.2.2.2.2
  have hl : lv_has ls 3 [(0, .ref (ad 1)), (1, .ref (ad (6 + x1.val)))] := hl
  have n_T_S : ∀ w ∈ u_ws R_S T_S 3, w ∈ ws_S_place := fun w h => List.mem_cons_of_mem _ (uT_S w h)
  have n_T_T : ∀ w ∈ u_ws R_T T_T 13, w ∈ ws_S_place := fun w h => List.mem_cons_of_mem _ (uT_T w h)
  have f_17 : Cond.fieldLink R_S 17 (T_S 1).1 (T_S 1).2.1 (T_S 1).2.2.1 ∈ ws_S_place := List.mem_cons_of_mem _ xw_0
  have f_23 : Cond.fieldLink R_S 23 (T_T 8).1 (T_T 8).2.1 (T_T 8).2.2.1 ∈ ws_S_place := List.mem_cons_of_mem _ xw_4
  have f_27 : Cond.fieldLink R_S 27 (T_S 2).1 (T_S 2).2.1 (T_S 2).2.2.1 ∈ ws_S_place := List.mem_cons_of_mem _ xw_1
  have f_70 : Cond.fieldLink R_S 70 (T_T 5).1 (T_T 5).2.1 (T_T 5).2.2.1 ∈ ws_S_place := List.mem_cons_of_mem _ xw_2
  have w_73 : CallW rm_S_place s args R_S R_S 73 y_S_swap b_S_swap 4 none ws_S_swap rm_S_swap 0 0 2 := cwV 2 hts (wB_callV (fun w h => List.mem_cons_of_mem _ h) xw_10 xw_11 xw_12 xw_13 xw_14) rfl rfl rfl (by decide +kernel) ⟨Nat.le_of_ble_eq_true rfl, Nat.le_of_ble_eq_true rfl⟩
  unfold j_S_place at hj
  refine lv_aload_n hx hb d_S_place_0 rfl (lv_at hl 0 rfl) ?_
  refine lv_aload_n hx hb d_S_place_1 rfl (lv_at hl 1 rfl) ?_
  refine gw_get (v := .int (M.1 0 x1 8)) S hw (xa_T x1) rfl (by decide) n_T_T f_23 rfl d_S_place_2 ?_
  refine lv_aload_n hx hb d_S_place_5 rfl (lv_at hl 0 rfl) ?_
  refine gw_get (v := .int (M.2.1 0 2)) S hw xa_S rfl (by decide) n_T_S f_27 rfl d_S_place_6 ?_
  obtain ⟨M_2, e_1, hj⟩ := Option.bind_eq_some_iff.mp hj
  refine gw_callv (As := [.int (M.1 0 x1 8), .int (M.2.1 0 2)]) (rest := []) S hw (c_S_swap e_1) w_73 xa_S rfl rfl hl.1 rfl (Nat.le_of_ble_eq_true rfl) d_S_place_9 (fun H locs hw => ?_)
  refine lv_aload_n hx hb d_S_place_12 rfl (lv_at hl 0 rfl) ?_
  refine gw_get (v := .int (M_2.2.1 0 2)) S hw xa_S rfl (by decide) n_T_S f_27 rfl d_S_place_13 ?_
  refine lv_istore_n (lv' := [(2, .int (M_2.2.1 0 2)), (0, .ref (ad 1)), (1, .ref (ad (6 + x1.val)))]) hx hb d_S_place_16 rfl hl (by decide) rfl (fun ls hl => ?_)
  have L17 : ∀ (f17 : Nat) (v2_17 : Int32) (M17 : MX), j_S_place_L17 n x1 f17 v2_17 M17 = some M0 → ∀ (H : Heap) (locs : List Loc), gw_W D (tyX cI cT) A (wX cI cT ad M17) s H locs → ∀ ls : Array Slot, lv_has ls 3 [(0, .ref (ad 1)), (1, .ref (ad (6 + x1.val))), (2, .int v2_17)] → W p l e rm_S_place s m args below meth c H locs 0 0 Q (F0 m 17 ls []) := by
    intro f17
    induction f17 with
    | zero =>
      intro v2_17 M17 hj
      exact nomatch (show (none : Option MX) = some M0 from hj)
    | succ f17 ih17 =>
      intro v2_17 M17 hj H locs hw ls hl
      rw [j_S_place_L17] at hj
      refine lv_iload_n hx hb d_S_place_17 rfl (lv_at hl 2 rfl) ?_
      refine lv_if_le (tgt := 58) hx hb d_S_place_18 (by decide) (fun c_9 => ?_) (fun c_9 => ?_)
      · rw [if_pos c_9] at hj
        refine lv_aload_n hx hb d_S_place_58 rfl (lv_at hl 0 rfl) ?_
        refine lv_dup hx hb d_S_place_59 rfl ?_
        refine gw_get (v := .int (M17.2.1 0 2)) S hw xa_S rfl (by decide) n_T_S f_27 rfl d_S_place_60 ?_
        refine lv_iconst (v := 1) hx hb d_S_place_63 (by decide) ?_
        refine lv_iadd hx hb d_S_place_64 ?_
        refine gw_put (v := .int ((M17.2.1 0 2) + 1)) (ty := .int) S hw xa_S rfl (by decide) n_T_S f_27 tk_S nm_S rfl (by decide +kernel) rfl rfl (Nat.le_of_ble_eq_true rfl) (xs_S 2 ((M17.2.1 0 2) + 1) (by decide)) d_S_place_65 (fun H locs hw => ?_)
        exact hend H locs ls 68 _ (congrArg (wX cI cT ad) (Option.some.inj hj)) hw d_S_place_68
      · rw [if_neg c_9] at hj
        refine lv_aload_n hx hb d_S_place_21 rfl (lv_at hl 0 rfl) ?_
        refine gw_get (v := .ref (ad 3)) S hw xa_S rfl (by decide) n_T_S f_17 rfl d_S_place_22 ?_
        refine lv_iload_n hx hb d_S_place_25 rfl (lv_at hl 2 rfl) ?_
        refine lv_iconst (v := 1) hx hb d_S_place_26 (by decide) ?_
        refine lv_isub hx hb d_S_place_27 ?_
        obtain ⟨g_10, hj⟩ := gw_if hj
        refine gw_aldq (t0 := 1) S hw ⟨xa_rk, rfl⟩ g_10 d_S_place_28 ?_
        refine gw_get (v := .int (M17.1 0 (M17.2.2.1 (v2_17 - 1).toNatClampNeg) 5)) S hw (xa_T (M17.2.2.1 (v2_17 - 1).toNatClampNeg)) rfl (by decide) n_T_T f_70 rfl d_S_place_29 ?_
        refine lv_aload_n hx hb d_S_place_32 rfl (lv_at hl 0 rfl) ?_
        refine gw_get (v := .ref (ad 3)) S hw xa_S rfl (by decide) n_T_S f_17 rfl d_S_place_33 ?_
        refine lv_iload_n hx hb d_S_place_36 rfl (lv_at hl 2 rfl) ?_
        obtain ⟨g_11, hj⟩ := gw_if hj
        refine gw_aldq (t0 := 1) S hw ⟨xa_rk, rfl⟩ g_11 d_S_place_37 ?_
        refine gw_get (v := .int (M17.1 0 (M17.2.2.1 v2_17.toNatClampNeg) 5)) S hw (xa_T (M17.2.2.1 v2_17.toNatClampNeg)) rfl (by decide) n_T_T f_70 rfl d_S_place_38 ?_
        refine lv_icmp_ge (tgt := 58) hx hb d_S_place_41 (by decide) (fun c_12 => ?_) (fun c_12 => ?_)
        · rw [if_pos c_12] at hj
          refine lv_aload_n hx hb d_S_place_58 rfl (lv_at hl 0 rfl) ?_
          refine lv_dup hx hb d_S_place_59 rfl ?_
          refine gw_get (v := .int (M17.2.1 0 2)) S hw xa_S rfl (by decide) n_T_S f_27 rfl d_S_place_60 ?_
          refine lv_iconst (v := 1) hx hb d_S_place_63 (by decide) ?_
          refine lv_iadd hx hb d_S_place_64 ?_
          refine gw_put (v := .int ((M17.2.1 0 2) + 1)) (ty := .int) S hw xa_S rfl (by decide) n_T_S f_27 tk_S nm_S rfl (by decide +kernel) rfl rfl (Nat.le_of_ble_eq_true rfl) (xs_S 2 ((M17.2.1 0 2) + 1) (by decide)) d_S_place_65 (fun H locs hw => ?_)
          exact hend H locs ls 68 _ (congrArg (wX cI cT ad) (Option.some.inj hj)) hw d_S_place_68
        · rw [if_neg c_12] at hj
          refine lv_aload_n hx hb d_S_place_44 rfl (lv_at hl 0 rfl) ?_
          refine lv_iload_n hx hb d_S_place_45 rfl (lv_at hl 2 rfl) ?_
          refine lv_iconst (v := 1) hx hb d_S_place_46 (by decide) ?_
          refine lv_isub hx hb d_S_place_47 ?_
          refine lv_iload_n hx hb d_S_place_48 rfl (lv_at hl 2 rfl) ?_
          obtain ⟨M_14, e_13, hj⟩ := Option.bind_eq_some_iff.mp hj
          refine gw_callv (As := [.int (v2_17 - 1), .int v2_17]) (rest := []) S hw (c_S_swap e_13) w_73 xa_S rfl rfl hl.1 rfl (Nat.le_of_ble_eq_true rfl) d_S_place_49 (fun H locs hw => ?_)
          refine lv_iinc (v := (v2_17 + (-1))) (lv' := [(2, .int (v2_17 + (-1))), (0, .ref (ad 1)), (1, .ref (ad (6 + x1.val)))]) hx hb d_S_place_52 hl (k := 2) rfl rfl (by decide) rfl (fun ls hl => ?_)
          refine lv_goto (tgt := 17) hx hb d_S_place_55 (by decide) ?_
          exact ih17 (v2_17 + (-1)) M_14 hj H locs hw ls (lv_sub hl [1, 2, 0] rfl)
  exact L17 n (M_2.2.1 0 2) M_2 hj H locs hw ls (lv_sub hl [1, 2, 0] rfl)
abbrev rm_T_forgetFindings : Room := { frames := 0, cells := 0, slots := 0, locals := 0 }
def ws_T_forgetFindings : List Cond := Cond.code y_T_forgetFindings b_T_forgetFindings 1 none :: wB
set_option maxHeartbeats 4000000 in
set_option maxRecDepth 100000 in
theorem c_T_forgetFindings {l : Launch} {D : va_G} {cI cT : ClassId} {ad : Nat → Nat} {n : Nat} {M : MX} {x0 : Fin 8} {M0 : MX} (hj : j_T_forgetFindings n M x0 = some M0) : gw_Cv l y_T_forgetFindings ws_T_forgetFindings rm_T_forgetFindings D (tyX cI cT) (wX cI cT ad M) [.ref (ad (6 + x0.val))] (wX cI cT ad M0) := by
  intro sz
  refine gw_metv (cc := b_T_forgetFindings) (maxL := 1) (by decide) rfl (Nat.le_of_ble_eq_true rfl) ?_
  intro p e s m args below meth c A Q S H locs hw hend ls hl
  have S : CallFix p m c b_T_forgetFindings 1 s args ws_T_forgetFindings R_T := S
  have hx := S.1
  have hb := S.2.1
  have hts := S.2.2.2.2
  have hl : lv_has ls 1 [(0, .ref (ad (6 + x0.val)))] := hl
  have n_T_T : ∀ w ∈ u_ws R_T T_T 13, w ∈ ws_T_forgetFindings := fun w h => List.mem_cons_of_mem _ (uT_T w h)
  have f_22 : Cond.fieldLink R_T 22 (T_T 9).1 (T_T 9).2.1 (T_T 9).2.2.1 ∈ ws_T_forgetFindings := List.mem_cons_of_mem _ xw_15
  have f_26 : Cond.fieldLink R_T 26 (T_T 12).1 (T_T 12).2.1 (T_T 12).2.2.1 ∈ ws_T_forgetFindings := List.mem_cons_of_mem _ xw_16
  unfold j_T_forgetFindings at hj
  refine lv_aload_n hx hb d_T_forgetFindings_0 rfl (lv_at hl 0 rfl) ?_
  refine lv_bipush (v := -2) hx hb d_T_forgetFindings_1 (by decide) ?_
  refine gw_put (v := .int (-2)) (ty := .int) S hw (xa_T x0) rfl (by decide) n_T_T f_22 tk_T nm_T rfl (by decide +kernel) rfl rfl (Nat.le_of_ble_eq_true rfl) (xs_T x0 9 (-2) (by decide)) d_T_forgetFindings_3 (fun H locs hw => ?_)
  refine lv_aload_n hx hb d_T_forgetFindings_6 rfl (lv_at hl 0 rfl) ?_
  refine lv_bipush (v := -2) hx hb d_T_forgetFindings_7 (by decide) ?_
  refine gw_put (v := .int (-2)) (ty := .int) S hw (xa_T x0) rfl (by decide) n_T_T f_26 tk_T nm_T rfl (by decide +kernel) rfl rfl (Nat.le_of_ble_eq_true rfl) (xs_T x0 12 (-2) (by decide)) d_T_forgetFindings_9 (fun H locs hw => ?_)
  exact hend H locs ls 12 _ (congrArg (wX cI cT ad) (Option.some.inj hj)) hw d_T_forgetFindings_12
abbrev rm_S_forgetFindings : Room := { frames := 1, cells := 0, slots := 0, locals := 20 }
def ws_S_forgetFindings : List Cond := Cond.code y_S_forgetFindings b_S_forgetFindings 2 none :: wB
set_option maxHeartbeats 4000000 in
set_option maxRecDepth 100000 in
theorem c_S_forgetFindings {l : Launch} {D : va_G} {cI cT : ClassId} {ad : Nat → Nat} {n : Nat} {M : MX} {M0 : MX} (hj : j_S_forgetFindings n M = some M0) : gw_Cv l y_S_forgetFindings ws_S_forgetFindings rm_S_forgetFindings D (tyX cI cT) (wX cI cT ad M) [.ref (ad 1)] (wX cI cT ad M0) := by
  intro sz
  refine gw_metv (cc := b_S_forgetFindings) (maxL := 2) (by decide) rfl (Nat.le_of_ble_eq_true rfl) ?_
  intro p e s m args below meth c A Q S H locs hw hend ls hl
  have S : CallFix p m c b_S_forgetFindings 2 s args ws_S_forgetFindings R_S := S
  have hx := S.1
  have hb := S.2.1
  have hts := S.2.2.2.2
  have hl : lv_has ls 2 [(0, .ref (ad 1))] := hl
  have n_T_S : ∀ w ∈ u_ws R_S T_S 3, w ∈ ws_S_forgetFindings := fun w h => List.mem_cons_of_mem _ (uT_S w h)
  have f_17 : Cond.fieldLink R_S 17 (T_S 1).1 (T_S 1).2.1 (T_S 1).2.2.1 ∈ ws_S_forgetFindings := List.mem_cons_of_mem _ xw_0
  have f_27 : Cond.fieldLink R_S 27 (T_S 2).1 (T_S 2).2.1 (T_S 2).2.2.1 ∈ ws_S_forgetFindings := List.mem_cons_of_mem _ xw_1
  have w_52 : CallW rm_S_forgetFindings s args R_S R_T 52 y_T_forgetFindings b_T_forgetFindings 1 none ws_T_forgetFindings rm_T_forgetFindings 0 0 0 := cwV 0 hts (wB_callV (fun w h => List.mem_cons_of_mem _ h) xw_17 xw_18 xw_19 xw_20 xw_21) rfl rfl rfl (by decide +kernel) ⟨Nat.le_of_ble_eq_true rfl, Nat.le_of_ble_eq_true rfl⟩
  unfold j_S_forgetFindings at hj
  refine lv_iconst (v := 0) hx hb d_S_forgetFindings_0 (by decide) ?_
  refine lv_istore_n (lv' := [(1, .int 0), (0, .ref (ad 1))]) hx hb d_S_forgetFindings_1 rfl hl (by decide) rfl (fun ls hl => ?_)
  have L2 : ∀ (f2 : Nat) (v1_2 : Int32) (M2 : MX), j_S_forgetFindings_L2 n f2 v1_2 M2 = some M0 → ∀ (H : Heap) (locs : List Loc), gw_W D (tyX cI cT) A (wX cI cT ad M2) s H locs → ∀ ls : Array Slot, lv_has ls 2 [(0, .ref (ad 1)), (1, .int v1_2)] → W p l e rm_S_forgetFindings s m args below meth c H locs 0 0 Q (F0 m 2 ls []) := by
    intro f2
    induction f2 with
    | zero =>
      intro v1_2 M2 hj
      exact nomatch (show (none : Option MX) = some M0 from hj)
    | succ f2 ih2 =>
      intro v1_2 M2 hj H locs hw ls hl
      rw [j_S_forgetFindings_L2] at hj
      refine lv_iload_n hx hb d_S_forgetFindings_2 rfl (lv_at hl 1 rfl) ?_
      refine lv_aload_n hx hb d_S_forgetFindings_3 rfl (lv_at hl 0 rfl) ?_
      refine gw_get (v := .int (M2.2.1 0 2)) S hw xa_S rfl (by decide) n_T_S f_27 rfl d_S_forgetFindings_4 ?_
      refine lv_icmp_ge (tgt := 25) hx hb d_S_forgetFindings_7 (by decide) (fun c_5 => ?_) (fun c_5 => ?_)
      · rw [if_pos c_5] at hj
        exact hend H locs ls 25 _ (congrArg (wX cI cT ad) (Option.some.inj hj)) hw d_S_forgetFindings_25
      · rw [if_neg c_5] at hj
        refine lv_aload_n hx hb d_S_forgetFindings_10 rfl (lv_at hl 0 rfl) ?_
        refine gw_get (v := .ref (ad 3)) S hw xa_S rfl (by decide) n_T_S f_17 rfl d_S_forgetFindings_11 ?_
        refine lv_iload_n hx hb d_S_forgetFindings_14 rfl (lv_at hl 1 rfl) ?_
        obtain ⟨g_6, hj⟩ := gw_if hj
        refine gw_aldq (t0 := 1) S hw ⟨xa_rk, rfl⟩ g_6 d_S_forgetFindings_15 ?_
        obtain ⟨M_8, e_7, hj⟩ := Option.bind_eq_some_iff.mp hj
        refine gw_callv (As := []) (rest := []) S hw (c_T_forgetFindings e_7) w_52 (xa_T (M2.2.2.1 v1_2.toNatClampNeg)) rfl rfl hl.1 rfl (Nat.le_of_ble_eq_true rfl) d_S_forgetFindings_16 (fun H locs hw => ?_)
        refine lv_iinc (v := (v1_2 + 1)) (lv' := [(1, .int (v1_2 + 1)), (0, .ref (ad 1))]) hx hb d_S_forgetFindings_19 hl (k := 1) rfl rfl (by decide) rfl (fun ls hl => ?_)
        refine lv_goto (tgt := 2) hx hb d_S_forgetFindings_22 (by decide) ?_
        exact ih2 (v1_2 + 1) M_8 hj H locs hw ls (lv_sub hl [1, 0] rfl)
  exact L2 n 0 M hj H locs hw ls (lv_sub hl [1, 0] rfl)
abbrev rm_S_add : Room := { frames := 2, cells := 0, slots := 0, locals := 45 }
def ws_S_add : List Cond := Cond.code y_S_add b_S_add 5 (some .boolean) :: wB
set_option maxHeartbeats 4000000 in
set_option maxRecDepth 100000 in
theorem c_S_add {l : Launch} {D : va_G} {cI cT : ClassId} {ad : Nat → Nat} {n : Nat} {M : MX} {a1 : Int32} {a2 : Int32} {a3 : Int32} {a4 : Int32} {r0 : Int32} {M0 : MX} (hj : j_S_add n M a1 a2 a3 a4 = some (r0, M0)) : gw_Cz l y_S_add ws_S_add rm_S_add D (tyX cI cT) (wX cI cT ad M) [.ref (ad 1), .int a1, .int a2, .int a3, .int a4] r0 (wX cI cT ad M0) := by
  intro sz
  refine gw_metz (cc := b_S_add) (maxL := 5) (by decide) rfl (Nat.le_of_ble_eq_true rfl) ?_
  intro p e s m args below meth c A Q S H locs hw hend ls hl
  have S : CallFix p m c b_S_add 5 s args ws_S_add R_S := S
  have hx := S.1
  have hb := S.2.1
  have hts := S.2.2.2.2
  have hl : lv_has ls 5 [(0, .ref (ad 1)), (1, .int a1), (2, .int a2), (3, .int a3), (4, .int a4)] := hl
  have n_T_S : ∀ w ∈ u_ws R_S T_S 3, w ∈ ws_S_add := fun w h => List.mem_cons_of_mem _ (uT_S w h)
  have f_11 : Cond.fieldLink R_S 11 (T_S 0).1 (T_S 0).2.1 (T_S 0).2.2.1 ∈ ws_S_add := List.mem_cons_of_mem _ xw_3
  have w_30 : CallW rm_S_add s args R_S R_S 30 y_S_hasPriority b_S_hasPriority 3 (some .boolean) ws_S_hasPriority rm_S_hasPriority 0 0 1 := cwV 1 hts (wB_callV (fun w h => List.mem_cons_of_mem _ h) xw_22 xw_23 xw_24 xw_25 xw_14) rfl rfl rfl (by decide +kernel) ⟨Nat.le_of_ble_eq_true rfl, Nat.le_of_ble_eq_true rfl⟩
  have w_34 : CallW rm_S_add s args R_S R_S 34 y_S_find b_S_find 3 (some (.object "SegmentKernel$Task")) ws_S_find rm_S_find 0 0 1 := cwV 1 hts (wB_callV (fun w h => List.mem_cons_of_mem _ h) xw_26 xw_27 xw_28 xw_29 xw_14) rfl rfl rfl (by decide +kernel) ⟨Nat.le_of_ble_eq_true rfl, Nat.le_of_ble_eq_true rfl⟩
  have w_38 : CallW rm_S_add s args R_S R_T 38 y_T_become b_T_become 4 none ws_T_become rm_T_become 0 0 3 := cwV 3 hts (wB_callV (fun w h => List.mem_cons_of_mem _ h) xw_30 xw_31 xw_32 xw_33 xw_21) rfl rfl rfl (by decide +kernel) ⟨Nat.le_of_ble_eq_true rfl, Nat.le_of_ble_eq_true rfl⟩
  have w_42 : CallW rm_S_add s args R_S R_S 42 y_S_place b_S_place 3 none ws_S_place rm_S_place 0 0 1 := cwV 1 hts (wB_callV (fun w h => List.mem_cons_of_mem _ h) xw_34 xw_35 xw_36 xw_37 xw_14) rfl rfl rfl (by decide +kernel) ⟨Nat.le_of_ble_eq_true rfl, Nat.le_of_ble_eq_true rfl⟩
  have w_46 : CallW rm_S_add s args R_S R_S 46 y_S_forgetFindings b_S_forgetFindings 2 none ws_S_forgetFindings rm_S_forgetFindings 0 0 0 := cwV 0 hts (wB_callV (fun w h => List.mem_cons_of_mem _ h) xw_38 xw_39 xw_40 xw_41 xw_14) rfl rfl rfl (by decide +kernel) ⟨Nat.le_of_ble_eq_true rfl, Nat.le_of_ble_eq_true rfl⟩
  unfold j_S_add at hj
  refine lv_iload_n hx hb d_S_add_0 rfl (lv_at hl 1 rfl) ?_
  refine lv_iconst (v := 1) hx hb d_S_add_1 (by decide) ?_
  refine lv_icmp_lt (tgt := 23) hx hb d_S_add_2 (by decide) (fun c_1 => ?_) (fun c_1 => ?_)
  · rw [if_pos c_1] at hj
    refine lv_iconst (v := 0) hx hb d_S_add_23 (by decide) ?_
    exact hend H locs ls 24 _ _ (Prod.mk.inj (Option.some.inj hj)).1 (congrArg (wX cI cT ad) (Prod.mk.inj (Option.some.inj hj)).2) (Or.inl rfl) hw d_S_add_24
  · rw [if_neg c_1] at hj
    refine lv_iload_n hx hb d_S_add_5 rfl (lv_at hl 1 rfl) ?_
    refine lv_bipush (v := 8) hx hb d_S_add_6 (by decide) ?_
    refine lv_icmp_gt (tgt := 23) hx hb d_S_add_8 (by decide) (fun c_2 => ?_) (fun c_2 => ?_)
    · rw [if_pos c_2] at hj
      refine lv_iconst (v := 0) hx hb d_S_add_23 (by decide) ?_
      exact hend H locs ls 24 _ _ (Prod.mk.inj (Option.some.inj hj)).1 (congrArg (wX cI cT ad) (Prod.mk.inj (Option.some.inj hj)).2) (Or.inl rfl) hw d_S_add_24
    · rw [if_neg c_2] at hj
      refine lv_iload_n hx hb d_S_add_11 rfl (lv_at hl 2 rfl) ?_
      refine lv_iconst (v := 1) hx hb d_S_add_12 (by decide) ?_
      refine lv_icmp_lt (tgt := 23) hx hb d_S_add_13 (by decide) (fun c_3 => ?_) (fun c_3 => ?_)
      · rw [if_pos c_3] at hj
        refine lv_iconst (v := 0) hx hb d_S_add_23 (by decide) ?_
        exact hend H locs ls 24 _ _ (Prod.mk.inj (Option.some.inj hj)).1 (congrArg (wX cI cT ad) (Prod.mk.inj (Option.some.inj hj)).2) (Or.inl rfl) hw d_S_add_24
      · rw [if_neg c_3] at hj
        refine lv_iload_n hx hb d_S_add_16 rfl (lv_at hl 2 rfl) ?_
        refine lv_sipush (v := 1000) hx hb d_S_add_17 (by decide) ?_
        refine lv_icmp_le (tgt := 25) hx hb d_S_add_20 (by decide) (fun c_4 => ?_) (fun c_4 => ?_)
        · rw [if_pos c_4] at hj
          refine lv_iload_n hx hb d_S_add_25 rfl (lv_at hl 3 rfl) ?_
          refine lv_iconst (v := 1) hx hb d_S_add_26 (by decide) ?_
          refine lv_icmp_lt (tgt := 38) hx hb d_S_add_27 (by decide) (fun c_5 => ?_) (fun c_5 => ?_)
          · rw [if_pos c_5] at hj
            refine lv_iconst (v := 0) hx hb d_S_add_38 (by decide) ?_
            exact hend H locs ls 39 _ _ (Prod.mk.inj (Option.some.inj hj)).1 (congrArg (wX cI cT ad) (Prod.mk.inj (Option.some.inj hj)).2) (Or.inl rfl) hw d_S_add_39
          · rw [if_neg c_5] at hj
            refine lv_iload_n hx hb d_S_add_30 rfl (lv_at hl 3 rfl) ?_
            refine lv_bipush (v := 8) hx hb d_S_add_31 (by decide) ?_
            refine lv_iload_n hx hb d_S_add_33 rfl (lv_at hl 2 rfl) ?_
            refine lv_imul hx hb d_S_add_34 ?_
            refine lv_icmp_le (tgt := 40) hx hb d_S_add_35 (by decide) (fun c_6 => ?_) (fun c_6 => ?_)
            · rw [if_pos c_6] at hj
              refine lv_iload hx hb d_S_add_40 (lv_at hl 4 rfl) ?_
              refine lv_if_lt (tgt := 69) hx hb d_S_add_42 (by decide) (fun c_7 => ?_) (fun c_7 => ?_)
              · rw [if_pos c_7] at hj
                refine lv_iconst (v := 0) hx hb d_S_add_69 (by decide) ?_
                exact hend H locs ls 70 _ _ (Prod.mk.inj (Option.some.inj hj)).1 (congrArg (wX cI cT ad) (Prod.mk.inj (Option.some.inj hj)).2) (Or.inl rfl) hw d_S_add_70
              · rw [if_neg c_7] at hj
                refine lv_iload hx hb d_S_add_45 (lv_at hl 4 rfl) ?_
                refine lv_bipush (v := 99) hx hb d_S_add_47 (by decide) ?_
                refine lv_icmp_gt (tgt := 69) hx hb d_S_add_49 (by decide) (fun c_8 => ?_) (fun c_8 => ?_)
                · rw [if_pos c_8] at hj
                  refine lv_iconst (v := 0) hx hb d_S_add_69 (by decide) ?_
                  exact hend H locs ls 70 _ _ (Prod.mk.inj (Option.some.inj hj)).1 (congrArg (wX cI cT ad) (Prod.mk.inj (Option.some.inj hj)).2) (Or.inl rfl) hw d_S_add_70
                · rw [if_neg c_8] at hj
                  refine lv_aload_n hx hb d_S_add_52 rfl (lv_at hl 0 rfl) ?_
                  refine lv_iload hx hb d_S_add_53 (lv_at hl 4 rfl) ?_
                  obtain ⟨r_10, e_9, hj⟩ := Option.bind_eq_some_iff.mp hj
                  refine gw_calli (As := [.int a4]) (rest := []) S hw (c_S_hasPriority e_9) w_30 xa_S rfl rfl hl.1 rfl (Nat.le_of_ble_eq_true rfl) d_S_add_55 (fun H locs hw => ?_)
                  refine lv_if_ne (tgt := 69) hx hb d_S_add_58 (by decide) (fun c_11 => ?_) (fun c_11 => ?_)
                  · rw [if_neg c_11] at hj
                    refine lv_iconst (v := 0) hx hb d_S_add_69 (by decide) ?_
                    exact hend H locs ls 70 _ _ (Prod.mk.inj (Option.some.inj hj)).1 (congrArg (wX cI cT ad) (Prod.mk.inj (Option.some.inj hj)).2) (Or.inl rfl) hw d_S_add_70
                  · rw [if_pos c_11] at hj
                    refine lv_aload_n hx hb d_S_add_61 rfl (lv_at hl 0 rfl) ?_
                    refine lv_iload_n hx hb d_S_add_62 rfl (lv_at hl 1 rfl) ?_
                    obtain ⟨r_13, e_12, hj⟩ := Option.bind_eq_some_iff.mp hj
                    refine gw_callq (As := [.int a1]) (rest := []) S hw (c_S_find e_12) w_34 xa_S rfl rfl hl.1 rfl (Nat.le_of_ble_eq_true rfl) d_S_add_63 (fun H locs hw => ?_)
                    rcases r_13 with _ | y_14
                    · rw [gw_oc_none rfl] at hj
                      refine lv_ifnullN (tgt := 71) hx hb d_S_add_66 (by decide) ?_
                      refine lv_aload_n hx hb d_S_add_71 rfl (lv_at hl 0 rfl) ?_
                      refine gw_get (v := .ref (ad 2)) S hw xa_S rfl (by decide) n_T_S f_11 rfl d_S_add_72 ?_
                      refine lv_iload_n hx hb d_S_add_75 rfl (lv_at hl 1 rfl) ?_
                      refine lv_iconst (v := 1) hx hb d_S_add_76 (by decide) ?_
                      refine lv_isub hx hb d_S_add_77 ?_
                      obtain ⟨g_15, hj⟩ := gw_if hj
                      refine gw_aldq (t0 := 1) S hw ⟨xa_by, rfl⟩ g_15 d_S_add_78 ?_
                      refine lv_iload_n hx hb d_S_add_79 rfl (lv_at hl 2 rfl) ?_
                      refine lv_iload_n hx hb d_S_add_80 rfl (lv_at hl 3 rfl) ?_
                      refine lv_iload hx hb d_S_add_81 (lv_at hl 4 rfl) ?_
                      obtain ⟨M_17, e_16, hj⟩ := Option.bind_eq_some_iff.mp hj
                      refine gw_callv (As := [.int a2, .int a3, .int a4]) (rest := []) S hw (c_T_become e_16) w_38 (xa_T (fin8 (a1 - 1).toNatClampNeg)) rfl rfl hl.1 rfl (Nat.le_of_ble_eq_true rfl) d_S_add_83 (fun H locs hw => ?_)
                      refine lv_aload_n hx hb d_S_add_86 rfl (lv_at hl 0 rfl) ?_
                      refine lv_aload_n hx hb d_S_add_87 rfl (lv_at hl 0 rfl) ?_
                      refine gw_get (v := .ref (ad 2)) S hw xa_S rfl (by decide) n_T_S f_11 rfl d_S_add_88 ?_
                      refine lv_iload_n hx hb d_S_add_91 rfl (lv_at hl 1 rfl) ?_
                      refine lv_iconst (v := 1) hx hb d_S_add_92 (by decide) ?_
                      refine lv_isub hx hb d_S_add_93 ?_
                      obtain ⟨g_18, hj⟩ := gw_if hj
                      refine gw_aldq (t0 := 1) S hw ⟨xa_by, rfl⟩ g_18 d_S_add_94 ?_
                      obtain ⟨M_20, e_19, hj⟩ := Option.bind_eq_some_iff.mp hj
                      refine gw_callv (As := [.ref (ad (6 + (fin8 (a1 - 1).toNatClampNeg).val))]) (rest := []) S hw (c_S_place e_19) w_42 xa_S rfl rfl hl.1 rfl (Nat.le_of_ble_eq_true rfl) d_S_add_95 (fun H locs hw => ?_)
                      refine lv_aload_n hx hb d_S_add_98 rfl (lv_at hl 0 rfl) ?_
                      obtain ⟨M_22, e_21, hj⟩ := Option.bind_eq_some_iff.mp hj
                      refine gw_callv (As := []) (rest := []) S hw (c_S_forgetFindings e_21) w_46 xa_S rfl rfl hl.1 rfl (Nat.le_of_ble_eq_true rfl) d_S_add_99 (fun H locs hw => ?_)
                      refine lv_iconst (v := 1) hx hb d_S_add_102 (by decide) ?_
                      exact hend H locs ls 103 _ _ (Prod.mk.inj (Option.some.inj hj)).1 (congrArg (wX cI cT ad) (Prod.mk.inj (Option.some.inj hj)).2) (Or.inr rfl) hw d_S_add_103
                    · rw [gw_oc_some rfl] at hj
                      refine lv_ifnull hx hb d_S_add_66 ?_
                      refine lv_iconst (v := 0) hx hb d_S_add_69 (by decide) ?_
                      exact hend H locs ls 70 _ _ (Prod.mk.inj (Option.some.inj hj)).1 (congrArg (wX cI cT ad) (Prod.mk.inj (Option.some.inj hj)).2) (Or.inl rfl) hw d_S_add_70
            · rw [if_neg c_6] at hj
              refine lv_iconst (v := 0) hx hb d_S_add_38 (by decide) ?_
              exact hend H locs ls 39 _ _ (Prod.mk.inj (Option.some.inj hj)).1 (congrArg (wX cI cT ad) (Prod.mk.inj (Option.some.inj hj)).2) (Or.inl rfl) hw d_S_add_39
        · rw [if_neg c_4] at hj
          refine lv_iconst (v := 0) hx hb d_S_add_23 (by decide) ?_
          exact hend H locs ls 24 _ _ (Prod.mk.inj (Option.some.inj hj)).1 (congrArg (wX cI cT ad) (Prod.mk.inj (Option.some.inj hj)).2) (Or.inl rfl) hw d_S_add_24
abbrev rm_O_task : Room := { frames := 3, cells := 0, slots := 0, locals := 69 }
def ws_O_task : List Cond := Cond.code y_O_task b_O_task 5 (some .boolean) :: wB
set_option maxHeartbeats 4000000 in
set_option maxRecDepth 100000 in
theorem c_O_task {l : Launch} {D : va_G} {cI cT : ClassId} {ad : Nat → Nat} {n : Nat} {M : MX} {a1 : Int32} {a2 : Int32} {a3 : Int32} {a4 : Int32} {r0 : Int32} {M0 : MX} (hj : j_O_task n M a1 a2 a3 a4 = some (r0, M0)) : gw_Cz l y_O_task ws_O_task rm_O_task D (tyX cI cT) (wX cI cT ad M) [.ref (ad 0), .int a1, .int a2, .int a3, .int a4] r0 (wX cI cT ad M0) := by
  intro sz
  refine gw_metz (cc := b_O_task) (maxL := 5) (by decide) rfl (Nat.le_of_ble_eq_true rfl) ?_
  intro p e s m args below meth c A Q S H locs hw hend ls hl
  have S : CallFix p m c b_O_task 5 s args ws_O_task R_O := S
  have hx := S.1
  have hb := S.2.1
  have hts := S.2.2.2.2
  have hl : lv_has ls 5 [(0, .ref (ad 0)), (1, .int a1), (2, .int a2), (3, .int a3), (4, .int a4)] := hl
  have n_T_K : ∀ w ∈ u_ws R_K T_K 6, w ∈ ws_O_task := fun w h => List.mem_cons_of_mem _ (uT_K w h)
  have n_T_O : ∀ w ∈ u_ws R_O T_O 3, w ∈ ws_O_task := fun w h => List.mem_cons_of_mem _ (uT_O w h)
  have f_10 : Cond.fieldLink R_O 10 (T_O 0).1 (T_O 0).2.1 (T_O 0).2.2.1 ∈ ws_O_task := List.mem_cons_of_mem _ xw_42
  have f_28 : Cond.fieldLink R_O 28 (T_O 2).1 (T_O 2).2.1 (T_O 2).2.2.1 ∈ ws_O_task := List.mem_cons_of_mem _ xw_43
  have f_32 : Cond.fieldLink R_O 32 (T_K 1).1 (T_K 1).2.1 (T_K 1).2.2.1 ∈ ws_O_task := List.mem_cons_of_mem _ xw_44
  have w_36 : CallW rm_O_task s args R_O R_S 36 y_S_add b_S_add 5 (some .boolean) ws_S_add rm_S_add 0 0 4 := cwV 4 hts (wB_callV (fun w h => List.mem_cons_of_mem _ h) xw_45 xw_46 xw_47 xw_48 xw_14) rfl rfl rfl (by decide +kernel) ⟨Nat.le_of_ble_eq_true rfl, Nat.le_of_ble_eq_true rfl⟩
  unfold j_O_task at hj
  refine lv_aload_n hx hb d_O_task_0 rfl (lv_at hl 0 rfl) ?_
  refine gw_get (v := .ref (ad 5)) S hw xa_O rfl (by decide) n_T_O f_28 rfl d_O_task_1 ?_
  refine gw_get (v := .int (M.2.1 2 1)) S hw xa_K rfl (by decide) n_T_K f_32 rfl d_O_task_4 ?_
  refine lv_if_ne (tgt := 29) hx hb d_O_task_7 (by decide) (fun c_1 => ?_) (fun c_1 => ?_)
  · rw [if_neg c_1] at hj
    refine lv_iconst (v := 0) hx hb d_O_task_29 (by decide) ?_
    exact hend H locs ls 30 _ _ (Prod.mk.inj (Option.some.inj hj)).1 (congrArg (wX cI cT ad) (Prod.mk.inj (Option.some.inj hj)).2) (Or.inl rfl) hw d_O_task_30
  · rw [if_pos c_1] at hj
    refine lv_aload_n hx hb d_O_task_10 rfl (lv_at hl 0 rfl) ?_
    refine gw_get (v := .ref (ad 1)) S hw xa_O rfl (by decide) n_T_O f_10 rfl d_O_task_11 ?_
    refine lv_iload_n hx hb d_O_task_14 rfl (lv_at hl 1 rfl) ?_
    refine lv_iload_n hx hb d_O_task_15 rfl (lv_at hl 2 rfl) ?_
    refine lv_iload_n hx hb d_O_task_16 rfl (lv_at hl 3 rfl) ?_
    refine lv_iload hx hb d_O_task_17 (lv_at hl 4 rfl) ?_
    obtain ⟨q_3, e_2, hj⟩ := Option.bind_eq_some_iff.mp hj
    refine gw_calli (As := [.int a1, .int a2, .int a3, .int a4]) (rest := []) S hw (c_S_add e_2) w_36 xa_S rfl rfl hl.1 rfl (Nat.le_of_ble_eq_true rfl) d_O_task_19 (fun H locs hw => ?_)
    refine lv_if_eq (tgt := 29) hx hb d_O_task_22 (by decide) (fun c_4 => ?_) (fun c_4 => ?_)
    · rw [if_pos c_4] at hj
      refine lv_iconst (v := 0) hx hb d_O_task_29 (by decide) ?_
      exact hend H locs ls 30 _ _ (Prod.mk.inj (Option.some.inj hj)).1 (congrArg (wX cI cT ad) (Prod.mk.inj (Option.some.inj hj)).2) (Or.inl rfl) hw d_O_task_30
    · rw [if_neg c_4] at hj
      refine lv_iconst (v := 1) hx hb d_O_task_25 (by decide) ?_
      refine lv_goto (tgt := 30) hx hb d_O_task_26 (by decide) ?_
      exact hend H locs ls 30 _ _ (Prod.mk.inj (Option.some.inj hj)).1 (congrArg (wX cI cT ad) (Prod.mk.inj (Option.some.inj hj)).2) (Or.inr rfl) hw d_O_task_30
abbrev rm_T_append : Room := { frames := 0, cells := 0, slots := 0, locals := 0 }
def ws_T_append : List Cond := Cond.code y_T_append b_T_append 2 (some .boolean) :: wB
set_option maxHeartbeats 4000000 in
set_option maxRecDepth 100000 in
theorem c_T_append {l : Launch} {D : va_G} {cI cT : ClassId} {ad : Nat → Nat} {n : Nat} {M : MX} {x0 : Fin 8} {a1 : Int32} {r0 : Int32} {M0 : MX} (hj : j_T_append n M x0 a1 = some (r0, M0)) : gw_Cz l y_T_append ws_T_append rm_T_append D (tyX cI cT) (wX cI cT ad M) [.ref (ad (6 + x0.val)), .int a1] r0 (wX cI cT ad M0) := by
  intro sz
  refine gw_metz (cc := b_T_append) (maxL := 2) (by decide) rfl (Nat.le_of_ble_eq_true rfl) ?_
  intro p e s m args below meth c A Q S H locs hw hend ls hl
  have S : CallFix p m c b_T_append 2 s args ws_T_append R_T := S
  have hx := S.1
  have hb := S.2.1
  have hts := S.2.2.2.2
  have hl : lv_has ls 2 [(0, .ref (ad (6 + x0.val))), (1, .int a1)] := hl
  have n_T_T : ∀ w ∈ u_ws R_T T_T 13, w ∈ ws_T_append := fun w h => List.mem_cons_of_mem _ (uT_T w h)
  have f_18 : Cond.fieldLink R_T 18 (T_T 2).1 (T_T 2).2.1 (T_T 2).2.2.1 ∈ ws_T_append := List.mem_cons_of_mem _ xw_49
  have f_44 : Cond.fieldLink R_T 44 (T_T 6).1 (T_T 6).2.1 (T_T 6).2.2.1 ∈ ws_T_append := List.mem_cons_of_mem _ xw_8
  have f_47 : Cond.fieldLink R_T 47 (T_T 7).1 (T_T 7).2.1 (T_T 7).2.2.1 ∈ ws_T_append := List.mem_cons_of_mem _ xw_9
  unfold j_T_append at hj
  refine lv_aload_n hx hb d_T_append_0 rfl (lv_at hl 0 rfl) ?_
  refine gw_get (v := .int (M.1 0 x0 6)) S hw (xa_T x0) rfl (by decide) n_T_T f_44 rfl d_T_append_1 ?_
  refine lv_bipush (v := 8) hx hb d_T_append_4 (by decide) ?_
  refine lv_icmp_ge (tgt := 20) hx hb d_T_append_6 (by decide) (fun c_1 => ?_) (fun c_1 => ?_)
  · rw [if_pos c_1] at hj
    refine lv_iconst (v := 0) hx hb d_T_append_20 (by decide) ?_
    exact hend H locs ls 21 _ _ (Prod.mk.inj (Option.some.inj hj)).1 (congrArg (wX cI cT ad) (Prod.mk.inj (Option.some.inj hj)).2) (Or.inl rfl) hw d_T_append_21
  · rw [if_neg c_1] at hj
    refine lv_iload_n hx hb d_T_append_9 rfl (lv_at hl 1 rfl) ?_
    refine lv_iconst (v := 1) hx hb d_T_append_10 (by decide) ?_
    refine lv_icmp_lt (tgt := 20) hx hb d_T_append_11 (by decide) (fun c_2 => ?_) (fun c_2 => ?_)
    · rw [if_pos c_2] at hj
      refine lv_iconst (v := 0) hx hb d_T_append_20 (by decide) ?_
      exact hend H locs ls 21 _ _ (Prod.mk.inj (Option.some.inj hj)).1 (congrArg (wX cI cT ad) (Prod.mk.inj (Option.some.inj hj)).2) (Or.inl rfl) hw d_T_append_21
    · rw [if_neg c_2] at hj
      refine lv_iload_n hx hb d_T_append_14 rfl (lv_at hl 1 rfl) ?_
      refine lv_bipush (v := 100) hx hb d_T_append_15 (by decide) ?_
      refine lv_icmp_le (tgt := 22) hx hb d_T_append_17 (by decide) (fun c_3 => ?_) (fun c_3 => ?_)
      · rw [if_pos c_3] at hj
        refine lv_aload_n hx hb d_T_append_22 rfl (lv_at hl 0 rfl) ?_
        refine gw_get (v := .ref (ad (22 + x0.val))) S hw (xa_T x0) rfl (by decide) n_T_T f_18 rfl d_T_append_23 ?_
        refine lv_aload_n hx hb d_T_append_26 rfl (lv_at hl 0 rfl) ?_
        refine gw_get (v := .int (M.1 0 x0 6)) S hw (xa_T x0) rfl (by decide) n_T_T f_44 rfl d_T_append_27 ?_
        refine lv_iload_n hx hb d_T_append_30 rfl (lv_at hl 1 rfl) ?_
        obtain ⟨g_4, hj⟩ := gw_if hj
        refine gw_iast (t0 := 0) S hw ⟨xa_sg x0, rfl⟩ g_4 (xs_sg x0 (M.1 0 x0 6).toNatClampNeg a1) d_T_append_31 (fun H locs hw => ?_)
        refine lv_aload_n hx hb d_T_append_32 rfl (lv_at hl 0 rfl) ?_
        refine lv_dup hx hb d_T_append_33 rfl ?_
        refine gw_get (v := .int ((sF M 2 x0 (M.1 0 x0 6).toNatClampNeg a1).1 0 x0 6)) S hw (xa_T x0) rfl (by decide) n_T_T f_44 rfl d_T_append_34 ?_
        refine lv_iconst (v := 1) hx hb d_T_append_37 (by decide) ?_
        refine lv_iadd hx hb d_T_append_38 ?_
        refine gw_put (v := .int (((sF M 2 x0 (M.1 0 x0 6).toNatClampNeg a1).1 0 x0 6) + 1)) (ty := .int) S hw (xa_T x0) rfl (by decide) n_T_T f_44 tk_T nm_T rfl (by decide +kernel) rfl rfl (Nat.le_of_ble_eq_true rfl) (xs_T x0 6 (((sF M 2 x0 (M.1 0 x0 6).toNatClampNeg a1).1 0 x0 6) + 1) (by decide)) d_T_append_39 (fun H locs hw => ?_)
        refine lv_aload_n hx hb d_T_append_42 rfl (lv_at hl 0 rfl) ?_
        refine lv_dup hx hb d_T_append_43 rfl ?_
        refine gw_get (v := .int ((sF (sF M 2 x0 (M.1 0 x0 6).toNatClampNeg a1) 0 x0 6 (((sF M 2 x0 (M.1 0 x0 6).toNatClampNeg a1).1 0 x0 6) + 1)).1 0 x0 7)) S hw (xa_T x0) rfl (by decide) n_T_T f_47 rfl d_T_append_44 ?_
        refine lv_iload_n hx hb d_T_append_47 rfl (lv_at hl 1 rfl) ?_
        refine lv_iadd hx hb d_T_append_48 ?_
        refine gw_put (v := .int (((sF (sF M 2 x0 (M.1 0 x0 6).toNatClampNeg a1) 0 x0 6 (((sF M 2 x0 (M.1 0 x0 6).toNatClampNeg a1).1 0 x0 6) + 1)).1 0 x0 7) + a1)) (ty := .int) S hw (xa_T x0) rfl (by decide) n_T_T f_47 tk_T nm_T rfl (by decide +kernel) rfl rfl (Nat.le_of_ble_eq_true rfl) (xs_T x0 7 (((sF (sF M 2 x0 (M.1 0 x0 6).toNatClampNeg a1) 0 x0 6 (((sF M 2 x0 (M.1 0 x0 6).toNatClampNeg a1).1 0 x0 6) + 1)).1 0 x0 7) + a1) (by decide)) d_T_append_49 (fun H locs hw => ?_)
        refine lv_iconst (v := 1) hx hb d_T_append_52 (by decide) ?_
        exact hend H locs ls 53 _ _ (Prod.mk.inj (Option.some.inj hj)).1 (congrArg (wX cI cT ad) (Prod.mk.inj (Option.some.inj hj)).2) (Or.inr rfl) hw d_T_append_53
      · rw [if_neg c_3] at hj
        refine lv_iconst (v := 0) hx hb d_T_append_20 (by decide) ?_
        exact hend H locs ls 21 _ _ (Prod.mk.inj (Option.some.inj hj)).1 (congrArg (wX cI cT ad) (Prod.mk.inj (Option.some.inj hj)).2) (Or.inl rfl) hw d_T_append_21
abbrev rm_S_addSegment : Room := { frames := 2, cells := 0, slots := 0, locals := 41 }
def ws_S_addSegment : List Cond := Cond.code y_S_addSegment b_S_addSegment 4 (some .boolean) :: wB
set_option maxHeartbeats 4000000 in
set_option maxRecDepth 100000 in
theorem c_S_addSegment {l : Launch} {D : va_G} {cI cT : ClassId} {ad : Nat → Nat} {n : Nat} {M : MX} {a1 : Int32} {a2 : Int32} {r0 : Int32} {M0 : MX} (hj : j_S_addSegment n M a1 a2 = some (r0, M0)) : gw_Cz l y_S_addSegment ws_S_addSegment rm_S_addSegment D (tyX cI cT) (wX cI cT ad M) [.ref (ad 1), .int a1, .int a2] r0 (wX cI cT ad M0) := by
  intro sz
  refine gw_metz (cc := b_S_addSegment) (maxL := 4) (by decide) rfl (Nat.le_of_ble_eq_true rfl) ?_
  intro p e s m args below meth c A Q S H locs hw hend ls hl
  have S : CallFix p m c b_S_addSegment 4 s args ws_S_addSegment R_S := S
  have hx := S.1
  have hb := S.2.1
  have hts := S.2.2.2.2
  have hl : lv_has ls 4 [(0, .ref (ad 1)), (1, .int a1), (2, .int a2)] := hl
  have w_34 : CallW rm_S_addSegment s args R_S R_S 34 y_S_find b_S_find 3 (some (.object "SegmentKernel$Task")) ws_S_find rm_S_find 0 0 1 := cwV 1 hts (wB_callV (fun w h => List.mem_cons_of_mem _ h) xw_26 xw_27 xw_28 xw_29 xw_14) rfl rfl rfl (by decide +kernel) ⟨Nat.le_of_ble_eq_true rfl, Nat.le_of_ble_eq_true rfl⟩
  have w_46 : CallW rm_S_addSegment s args R_S R_S 46 y_S_forgetFindings b_S_forgetFindings 2 none ws_S_forgetFindings rm_S_forgetFindings 0 0 0 := cwV 0 hts (wB_callV (fun w h => List.mem_cons_of_mem _ h) xw_38 xw_39 xw_40 xw_41 xw_14) rfl rfl rfl (by decide +kernel) ⟨Nat.le_of_ble_eq_true rfl, Nat.le_of_ble_eq_true rfl⟩
  have w_49 : CallW rm_S_addSegment s args R_S R_T 49 y_T_append b_T_append 2 (some .boolean) ws_T_append rm_T_append 0 0 1 := cwV 1 hts (wB_callV (fun w h => List.mem_cons_of_mem _ h) xw_50 xw_51 xw_52 xw_53 xw_21) rfl rfl rfl (by decide +kernel) ⟨Nat.le_of_ble_eq_true rfl, Nat.le_of_ble_eq_true rfl⟩
  unfold j_S_addSegment at hj
  refine lv_aload_n hx hb d_S_addSegment_0 rfl (lv_at hl 0 rfl) ?_
  refine lv_iload_n hx hb d_S_addSegment_1 rfl (lv_at hl 1 rfl) ?_
  obtain ⟨r_2, e_1, hj⟩ := Option.bind_eq_some_iff.mp hj
  refine gw_callq (As := [.int a1]) (rest := []) S hw (c_S_find e_1) w_34 xa_S rfl rfl hl.1 rfl (Nat.le_of_ble_eq_true rfl) d_S_addSegment_2 (fun H locs hw => ?_)
  refine gw_astore_n (lv' := [(3, va_rf (gw_oa ad r_2)), (0, .ref (ad 1)), (1, .int a1), (2, .int a2)]) hx hb d_S_addSegment_5 rfl hl (by decide) rfl (fun ls hl => ?_)
  refine gw_aload_n hx hb d_S_addSegment_6 rfl (lv_at hl 0 rfl) ?_
  rcases r_2 with _ | y_3
  · rw [gw_oc_none rfl] at hj
    refine lv_ifnullN (tgt := 18) hx hb d_S_addSegment_7 (by decide) ?_
    refine lv_iconst (v := 0) hx hb d_S_addSegment_18 (by decide) ?_
    exact hend H locs ls 19 _ _ (Prod.mk.inj (Option.some.inj hj)).1 (congrArg (wX cI cT ad) (Prod.mk.inj (Option.some.inj hj)).2) (Or.inl rfl) hw d_S_addSegment_19
  · rw [gw_oc_some rfl] at hj
    refine lv_ifnull hx hb d_S_addSegment_7 ?_
    refine lv_aload_n hx hb d_S_addSegment_10 rfl (lv_at hl 0 rfl) ?_
    refine lv_iload_n hx hb d_S_addSegment_11 rfl (lv_at hl 3 rfl) ?_
    obtain ⟨q_5, e_4, hj⟩ := Option.bind_eq_some_iff.mp hj
    refine gw_calli (As := [.int a2]) (rest := []) S hw (c_T_append e_4) w_49 (xa_T y_3) rfl rfl hl.1 rfl (Nat.le_of_ble_eq_true rfl) d_S_addSegment_12 (fun H locs hw => ?_)
    refine lv_if_ne (tgt := 20) hx hb d_S_addSegment_15 (by decide) (fun c_6 => ?_) (fun c_6 => ?_)
    · rw [if_neg c_6] at hj
      refine lv_aload_n hx hb d_S_addSegment_20 rfl (lv_at hl 1 rfl) ?_
      obtain ⟨M_8, e_7, hj⟩ := Option.bind_eq_some_iff.mp hj
      refine gw_callv (As := []) (rest := []) S hw (c_S_forgetFindings e_7) w_46 xa_S rfl rfl hl.1 rfl (Nat.le_of_ble_eq_true rfl) d_S_addSegment_21 (fun H locs hw => ?_)
      refine lv_iconst (v := 1) hx hb d_S_addSegment_24 (by decide) ?_
      exact hend H locs ls 25 _ _ (Prod.mk.inj (Option.some.inj hj)).1 (congrArg (wX cI cT ad) (Prod.mk.inj (Option.some.inj hj)).2) (Or.inr rfl) hw d_S_addSegment_25
    · rw [if_pos c_6] at hj
      refine lv_iconst (v := 0) hx hb d_S_addSegment_18 (by decide) ?_
      exact hend H locs ls 19 _ _ (Prod.mk.inj (Option.some.inj hj)).1 (congrArg (wX cI cT ad) (Prod.mk.inj (Option.some.inj hj)).2) (Or.inl rfl) hw d_S_addSegment_19
abbrev rm_O_segment : Room := { frames := 3, cells := 0, slots := 0, locals := 64 }
def ws_O_segment : List Cond := Cond.code y_O_segment b_O_segment 3 (some .boolean) :: wB
set_option maxHeartbeats 4000000 in
set_option maxRecDepth 100000 in
theorem c_O_segment {l : Launch} {D : va_G} {cI cT : ClassId} {ad : Nat → Nat} {n : Nat} {M : MX} {a1 : Int32} {a2 : Int32} {r0 : Int32} {M0 : MX} (hj : j_O_segment n M a1 a2 = some (r0, M0)) : gw_Cz l y_O_segment ws_O_segment rm_O_segment D (tyX cI cT) (wX cI cT ad M) [.ref (ad 0), .int a1, .int a2] r0 (wX cI cT ad M0) := by
  intro sz
  refine gw_metz (cc := b_O_segment) (maxL := 3) (by decide) rfl (Nat.le_of_ble_eq_true rfl) ?_
  intro p e s m args below meth c A Q S H locs hw hend ls hl
  have S : CallFix p m c b_O_segment 3 s args ws_O_segment R_O := S
  have hx := S.1
  have hb := S.2.1
  have hts := S.2.2.2.2
  have hl : lv_has ls 3 [(0, .ref (ad 0)), (1, .int a1), (2, .int a2)] := hl
  have n_T_K : ∀ w ∈ u_ws R_K T_K 6, w ∈ ws_O_segment := fun w h => List.mem_cons_of_mem _ (uT_K w h)
  have n_T_O : ∀ w ∈ u_ws R_O T_O 3, w ∈ ws_O_segment := fun w h => List.mem_cons_of_mem _ (uT_O w h)
  have f_10 : Cond.fieldLink R_O 10 (T_O 0).1 (T_O 0).2.1 (T_O 0).2.2.1 ∈ ws_O_segment := List.mem_cons_of_mem _ xw_42
  have f_28 : Cond.fieldLink R_O 28 (T_O 2).1 (T_O 2).2.1 (T_O 2).2.2.1 ∈ ws_O_segment := List.mem_cons_of_mem _ xw_43
  have f_32 : Cond.fieldLink R_O 32 (T_K 1).1 (T_K 1).2.1 (T_K 1).2.2.1 ∈ ws_O_segment := List.mem_cons_of_mem _ xw_44
  have w_40 : CallW rm_O_segment s args R_O R_S 40 y_S_addSegment b_S_addSegment 4 (some .boolean) ws_S_addSegment rm_S_addSegment 0 0 2 := cwV 2 hts (wB_callV (fun w h => List.mem_cons_of_mem _ h) xw_54 xw_55 xw_56 xw_57 xw_14) rfl rfl rfl (by decide +kernel) ⟨Nat.le_of_ble_eq_true rfl, Nat.le_of_ble_eq_true rfl⟩
  unfold j_O_segment at hj
  refine lv_aload_n hx hb d_O_segment_0 rfl (lv_at hl 0 rfl) ?_
  refine gw_get (v := .ref (ad 5)) S hw xa_O rfl (by decide) n_T_O f_28 rfl d_O_segment_1 ?_
  refine gw_get (v := .int (M.2.1 2 1)) S hw xa_K rfl (by decide) n_T_K f_32 rfl d_O_segment_4 ?_
  refine lv_if_ne (tgt := 26) hx hb d_O_segment_7 (by decide) (fun c_1 => ?_) (fun c_1 => ?_)
  · rw [if_neg c_1] at hj
    refine lv_iconst (v := 0) hx hb d_O_segment_26 (by decide) ?_
    exact hend H locs ls 27 _ _ (Prod.mk.inj (Option.some.inj hj)).1 (congrArg (wX cI cT ad) (Prod.mk.inj (Option.some.inj hj)).2) (Or.inl rfl) hw d_O_segment_27
  · rw [if_pos c_1] at hj
    refine lv_aload_n hx hb d_O_segment_10 rfl (lv_at hl 0 rfl) ?_
    refine gw_get (v := .ref (ad 1)) S hw xa_O rfl (by decide) n_T_O f_10 rfl d_O_segment_11 ?_
    refine lv_iload_n hx hb d_O_segment_14 rfl (lv_at hl 1 rfl) ?_
    refine lv_iload_n hx hb d_O_segment_15 rfl (lv_at hl 2 rfl) ?_
    obtain ⟨q_3, e_2, hj⟩ := Option.bind_eq_some_iff.mp hj
    refine gw_calli (As := [.int a1, .int a2]) (rest := []) S hw (c_S_addSegment e_2) w_40 xa_S rfl rfl hl.1 rfl (Nat.le_of_ble_eq_true rfl) d_O_segment_16 (fun H locs hw => ?_)
    refine lv_if_eq (tgt := 26) hx hb d_O_segment_19 (by decide) (fun c_4 => ?_) (fun c_4 => ?_)
    · rw [if_pos c_4] at hj
      refine lv_iconst (v := 0) hx hb d_O_segment_26 (by decide) ?_
      exact hend H locs ls 27 _ _ (Prod.mk.inj (Option.some.inj hj)).1 (congrArg (wX cI cT ad) (Prod.mk.inj (Option.some.inj hj)).2) (Or.inl rfl) hw d_O_segment_27
    · rw [if_neg c_4] at hj
      refine lv_iconst (v := 1) hx hb d_O_segment_22 (by decide) ?_
      refine lv_goto (tgt := 27) hx hb d_O_segment_23 (by decide) ?_
      exact hend H locs ls 27 _ _ (Prod.mk.inj (Option.some.inj hj)).1 (congrArg (wX cI cT ad) (Prod.mk.inj (Option.some.inj hj)).2) (Or.inr rfl) hw d_O_segment_27
end
section
abbrev rm_J_forget : Room := { frames := 0, cells := 0, slots := 0, locals := 0 }
def ws_J_forget : List Cond := Cond.code y_J_forget b_J_forget 1 none :: wB
set_option maxHeartbeats 4000000 in
set_option maxRecDepth 100000 in
theorem c_J_forget {l : Launch} {D : va_G} {cI cT : ClassId} {ad : Nat → Nat} {n : Nat} {M : MX} {x0 : Fin 8} {M0 : MX} (hj : j_J_forget n M x0 = some M0) : gw_Cv l y_J_forget ws_J_forget rm_J_forget D (tyX cI cT) (wX cI cT ad M) [.ref (ad (14 + x0.val))] (wX cI cT ad M0) := by
  intro sz
  refine gw_metv (cc := b_J_forget) (maxL := 1) (by decide) rfl (Nat.le_of_ble_eq_true rfl) ?_
  intro p e s m args below meth c A Q S H locs hw hend ls hl
  have S : CallFix p m c b_J_forget 1 s args ws_J_forget R_J := S
  have hx := S.1
  have hb := S.2.1
  have hts := S.2.2.2.2
  have hl : lv_has ls 1 [(0, .ref (ad (14 + x0.val)))] := hl
  have n_T_J : ∀ w ∈ u_ws R_J T_J 8, w ∈ ws_J_forget := fun w h => List.mem_cons_of_mem _ (uT_J w h)
  have f_18 : Cond.fieldLink R_J 18 (T_J 2).1 (T_J 2).2.1 (T_J 2).2.2.1 ∈ ws_J_forget := List.mem_cons_of_mem _ xw_58
  have f_22 : Cond.fieldLink R_J 22 (T_J 3).1 (T_J 3).2.1 (T_J 3).2.2.1 ∈ ws_J_forget := List.mem_cons_of_mem _ xw_59
  have f_25 : Cond.fieldLink R_J 25 (T_J 4).1 (T_J 4).2.1 (T_J 4).2.2.1 ∈ ws_J_forget := List.mem_cons_of_mem _ xw_60
  have f_28 : Cond.fieldLink R_J 28 (T_J 5).1 (T_J 5).2.1 (T_J 5).2.2.1 ∈ ws_J_forget := List.mem_cons_of_mem _ xw_61
  have f_31 : Cond.fieldLink R_J 31 (T_J 6).1 (T_J 6).2.1 (T_J 6).2.2.1 ∈ ws_J_forget := List.mem_cons_of_mem _ xw_62
  have f_34 : Cond.fieldLink R_J 34 (T_J 7).1 (T_J 7).2.1 (T_J 7).2.2.1 ∈ ws_J_forget := List.mem_cons_of_mem _ xw_63
  unfold j_J_forget at hj
  refine lv_aload_n hx hb d_J_forget_0 rfl (lv_at hl 0 rfl) ?_
  refine lv_iconst (v := 0) hx hb d_J_forget_1 (by decide) ?_
  refine gw_put (v := .int 0) (ty := .int) S hw (xa_J x0) rfl (by decide) n_T_J f_18 tk_J nm_J rfl (by decide +kernel) rfl rfl (Nat.le_of_ble_eq_true rfl) (xs_J x0 2 0 (by decide)) d_J_forget_2 (fun H locs hw => ?_)
  refine lv_aload_n hx hb d_J_forget_5 rfl (lv_at hl 0 rfl) ?_
  refine lv_iconst (v := 0) hx hb d_J_forget_6 (by decide) ?_
  refine gw_put (v := .int 0) (ty := .int) S hw (xa_J x0) rfl (by decide) n_T_J f_22 tk_J nm_J rfl (by decide +kernel) rfl rfl (Nat.le_of_ble_eq_true rfl) (xs_J x0 3 0 (by decide)) d_J_forget_7 (fun H locs hw => ?_)
  refine lv_aload_n hx hb d_J_forget_10 rfl (lv_at hl 0 rfl) ?_
  refine lv_iconst (v := 0) hx hb d_J_forget_11 (by decide) ?_
  refine gw_put (v := .int 0) (ty := .int) S hw (xa_J x0) rfl (by decide) n_T_J f_25 tk_J nm_J rfl (by decide +kernel) rfl rfl (Nat.le_of_ble_eq_true rfl) (xs_J x0 4 0 (by decide)) d_J_forget_12 (fun H locs hw => ?_)
  refine lv_aload_n hx hb d_J_forget_15 rfl (lv_at hl 0 rfl) ?_
  refine lv_iconst (v := 0) hx hb d_J_forget_16 (by decide) ?_
  refine gw_put (v := .int 0) (ty := .int) S hw (xa_J x0) rfl (by decide) n_T_J f_28 tk_J nm_J rfl (by decide +kernel) rfl rfl (Nat.le_of_ble_eq_true rfl) (xs_J x0 5 0 (by decide)) d_J_forget_17 (fun H locs hw => ?_)
  refine lv_aload_n hx hb d_J_forget_20 rfl (lv_at hl 0 rfl) ?_
  refine lv_iconst (v := 0) hx hb d_J_forget_21 (by decide) ?_
  refine gw_put (v := .int 0) (ty := .int) S hw (xa_J x0) rfl (by decide) n_T_J f_31 tk_J nm_J rfl (by decide +kernel) rfl rfl (Nat.le_of_ble_eq_true rfl) (xs_J x0 6 0 (by decide)) d_J_forget_22 (fun H locs hw => ?_)
  refine lv_aload_n hx hb d_J_forget_25 rfl (lv_at hl 0 rfl) ?_
  refine lv_iconst (v := 0) hx hb d_J_forget_26 (by decide) ?_
  refine gw_put (v := .int 0) (ty := .int) S hw (xa_J x0) rfl (by decide) n_T_J f_34 tk_J nm_J rfl (by decide +kernel) rfl rfl (Nat.le_of_ble_eq_true rfl) (xs_J x0 7 0 (by decide)) d_J_forget_27 (fun H locs hw => ?_)
  exact hend H locs ls 30 _ (congrArg (wX cI cT ad) (Option.some.inj hj)) hw d_J_forget_30
abbrev rm_K_forgetJobs : Room := { frames := 1, cells := 0, slots := 0, locals := 20 }
def ws_K_forgetJobs : List Cond := Cond.code y_K_forgetJobs b_K_forgetJobs 2 none :: wB
set_option maxHeartbeats 4000000 in
set_option maxRecDepth 100000 in
theorem c_K_forgetJobs {l : Launch} {D : va_G} {cI cT : ClassId} {ad : Nat → Nat} {n : Nat} {M : MX} {M0 : MX} (hj : j_K_forgetJobs n M = some M0) : gw_Cv l y_K_forgetJobs ws_K_forgetJobs rm_K_forgetJobs D (tyX cI cT) (wX cI cT ad M) [.ref (ad 5)] (wX cI cT ad M0) := by
  intro sz
  refine gw_metv (cc := b_K_forgetJobs) (maxL := 2) (by decide) rfl (Nat.le_of_ble_eq_true rfl) ?_
  intro p e s m args below meth c A Q S H locs hw hend ls hl
  have S : CallFix p m c b_K_forgetJobs 2 s args ws_K_forgetJobs R_K := S
  have hx := S.1
  have hb := S.2.1
  have hts := S.2.2.2.2
  have hl : lv_has ls 2 [(0, .ref (ad 5))] := hl
  have n_T_K : ∀ w ∈ u_ws R_K T_K 6, w ∈ ws_K_forgetJobs := fun w h => List.mem_cons_of_mem _ (uT_K w h)
  have n_T_S : ∀ w ∈ u_ws R_S T_S 3, w ∈ ws_K_forgetJobs := fun w h => List.mem_cons_of_mem _ (uT_S w h)
  have n_T_T : ∀ w ∈ u_ws R_T T_T 13, w ∈ ws_K_forgetJobs := fun w h => List.mem_cons_of_mem _ (uT_T w h)
  have f_7 : Cond.fieldLink R_K 7 (T_K 0).1 (T_K 0).2.1 (T_K 0).2.2.1 ∈ ws_K_forgetJobs := List.mem_cons_of_mem _ xw_64
  have f_13 : Cond.fieldLink R_K 13 (T_S 2).1 (T_S 2).2.1 (T_S 2).2.2.1 ∈ ws_K_forgetJobs := List.mem_cons_of_mem _ xw_65
  have f_19 : Cond.fieldLink R_K 19 (T_S 1).1 (T_S 1).2.1 (T_S 1).2.2.1 ∈ ws_K_forgetJobs := List.mem_cons_of_mem _ xw_66
  have f_23 : Cond.fieldLink R_K 23 (T_T 1).1 (T_T 1).2.1 (T_T 1).2.2.1 ∈ ws_K_forgetJobs := List.mem_cons_of_mem _ xw_67
  have f_34 : Cond.fieldLink R_K 34 (T_K 1).1 (T_K 1).2.1 (T_K 1).2.2.1 ∈ ws_K_forgetJobs := List.mem_cons_of_mem _ xw_68
  have f_38 : Cond.fieldLink R_K 38 (T_K 2).1 (T_K 2).2.1 (T_K 2).2.2.1 ∈ ws_K_forgetJobs := List.mem_cons_of_mem _ xw_69
  have f_41 : Cond.fieldLink R_K 41 (T_K 3).1 (T_K 3).2.1 (T_K 3).2.2.1 ∈ ws_K_forgetJobs := List.mem_cons_of_mem _ xw_70
  have f_44 : Cond.fieldLink R_K 44 (T_K 4).1 (T_K 4).2.1 (T_K 4).2.2.1 ∈ ws_K_forgetJobs := List.mem_cons_of_mem _ xw_71
  have f_48 : Cond.fieldLink R_K 48 (T_K 5).1 (T_K 5).2.1 (T_K 5).2.2.1 ∈ ws_K_forgetJobs := List.mem_cons_of_mem _ xw_72
  have w_29 : CallW rm_K_forgetJobs s args R_K R_J 29 y_J_forget b_J_forget 1 none ws_J_forget rm_J_forget 0 0 0 := cwV 0 hts (wB_callV (fun w h => List.mem_cons_of_mem _ h) xw_73 xw_74 xw_75 xw_76 xw_77) rfl rfl rfl (by decide +kernel) ⟨Nat.le_of_ble_eq_true rfl, Nat.le_of_ble_eq_true rfl⟩
  unfold j_K_forgetJobs at hj
  refine lv_iconst (v := 0) hx hb d_K_forgetJobs_0 (by decide) ?_
  refine lv_istore_n (lv' := [(1, .int 0), (0, .ref (ad 5))]) hx hb d_K_forgetJobs_1 rfl hl (by decide) rfl (fun ls hl => ?_)
  have L2 : ∀ (f2 : Nat) (v1_2 : Int32) (M2 : MX), j_K_forgetJobs_L2 n f2 v1_2 M2 = some M0 → ∀ (H : Heap) (locs : List Loc), gw_W D (tyX cI cT) A (wX cI cT ad M2) s H locs → ∀ ls : Array Slot, lv_has ls 2 [(0, .ref (ad 5)), (1, .int v1_2)] → W p l e rm_K_forgetJobs s m args below meth c H locs 0 0 Q (F0 m 2 ls []) := by
    intro f2
    induction f2 with
    | zero =>
      intro v1_2 M2 hj
      exact nomatch (show (none : Option MX) = some M0 from hj)
    | succ f2 ih2 =>
      intro v1_2 M2 hj H locs hw ls hl
      rw [j_K_forgetJobs_L2] at hj
      refine lv_iload_n hx hb d_K_forgetJobs_2 rfl (lv_at hl 1 rfl) ?_
      refine lv_aload_n hx hb d_K_forgetJobs_3 rfl (lv_at hl 0 rfl) ?_
      refine gw_get (v := .ref (ad 1)) S hw xa_K rfl (by decide) n_T_K f_7 rfl d_K_forgetJobs_4 ?_
      refine gw_get (v := .int (M2.2.1 0 2)) S hw xa_S rfl (by decide) n_T_S f_13 rfl d_K_forgetJobs_7 ?_
      refine lv_icmp_ge (tgt := 34) hx hb d_K_forgetJobs_10 (by decide) (fun c_5 => ?_) (fun c_5 => ?_)
      · rw [if_pos c_5] at hj
        refine lv_aload_n hx hb d_K_forgetJobs_34 rfl (lv_at hl 0 rfl) ?_
        refine lv_iconst (v := 0) hx hb d_K_forgetJobs_35 (by decide) ?_
        refine gw_put (v := .int 0) (ty := .boolean) S hw xa_K rfl (by decide) n_T_K f_34 tk_K nm_K rfl (by decide +kernel) rfl rfl (Nat.le_of_ble_eq_true rfl) (xs_K 1 0 (by decide)) d_K_forgetJobs_36 (fun H locs hw => ?_)
        refine lv_aload_n hx hb d_K_forgetJobs_39 rfl (lv_at hl 0 rfl) ?_
        refine lv_iconst (v := 0) hx hb d_K_forgetJobs_40 (by decide) ?_
        refine gw_put (v := .int 0) (ty := .int) S hw xa_K rfl (by decide) n_T_K f_38 tk_K nm_K rfl (by decide +kernel) rfl rfl (Nat.le_of_ble_eq_true rfl) (xs_K 2 0 (by decide)) d_K_forgetJobs_41 (fun H locs hw => ?_)
        refine lv_aload_n hx hb d_K_forgetJobs_44 rfl (lv_at hl 0 rfl) ?_
        refine lv_iconst (v := 0) hx hb d_K_forgetJobs_45 (by decide) ?_
        refine gw_put (v := .int 0) (ty := .int) S hw xa_K rfl (by decide) n_T_K f_41 tk_K nm_K rfl (by decide +kernel) rfl rfl (Nat.le_of_ble_eq_true rfl) (xs_K 3 0 (by decide)) d_K_forgetJobs_46 (fun H locs hw => ?_)
        refine lv_aload_n hx hb d_K_forgetJobs_49 rfl (lv_at hl 0 rfl) ?_
        refine lv_null hx hb d_K_forgetJobs_50 ?_
        refine gw_put (v := .null) (ty := (.object "SegmentKernel$Task")) S hw xa_K rfl (by decide) n_T_K f_44 tk_K nm_K rfl (by decide +kernel) rfl rfl (Nat.le_of_ble_eq_true rfl) (xs_U none) d_K_forgetJobs_51 (fun H locs hw => ?_)
        refine lv_aload_n hx hb d_K_forgetJobs_54 rfl (lv_at hl 0 rfl) ?_
        refine lv_null hx hb d_K_forgetJobs_55 ?_
        refine gw_put (v := .null) (ty := (.object "SegmentKernel$Task")) S hw xa_K rfl (by decide) n_T_K f_48 tk_K nm_K rfl (by decide +kernel) rfl rfl (Nat.le_of_ble_eq_true rfl) (xs_P none) d_K_forgetJobs_56 (fun H locs hw => ?_)
        exact hend H locs ls 59 _ (congrArg (wX cI cT ad) (Option.some.inj hj)) hw d_K_forgetJobs_59
      · rw [if_neg c_5] at hj
        refine lv_aload_n hx hb d_K_forgetJobs_13 rfl (lv_at hl 0 rfl) ?_
        refine gw_get (v := .ref (ad 1)) S hw xa_K rfl (by decide) n_T_K f_7 rfl d_K_forgetJobs_14 ?_
        refine gw_get (v := .ref (ad 3)) S hw xa_S rfl (by decide) n_T_S f_19 rfl d_K_forgetJobs_17 ?_
        refine lv_iload_n hx hb d_K_forgetJobs_20 rfl (lv_at hl 1 rfl) ?_
        obtain ⟨g_6, hj⟩ := gw_if hj
        refine gw_aldq (t0 := 1) S hw ⟨xa_rk, rfl⟩ g_6 d_K_forgetJobs_21 ?_
        refine gw_get (v := .ref (ad (14 + (M2.2.2.1 v1_2.toNatClampNeg).val))) S hw (xa_T (M2.2.2.1 v1_2.toNatClampNeg)) rfl (by decide) n_T_T f_23 rfl d_K_forgetJobs_22 ?_
        obtain ⟨M_8, e_7, hj⟩ := Option.bind_eq_some_iff.mp hj
        refine gw_callv (As := []) (rest := []) S hw (c_J_forget e_7) w_29 (xa_J (M2.2.2.1 v1_2.toNatClampNeg)) rfl rfl hl.1 rfl (Nat.le_of_ble_eq_true rfl) d_K_forgetJobs_25 (fun H locs hw => ?_)
        refine lv_iinc (v := (v1_2 + 1)) (lv' := [(1, .int (v1_2 + 1)), (0, .ref (ad 5))]) hx hb d_K_forgetJobs_28 hl (k := 1) rfl rfl (by decide) rfl (fun ls hl => ?_)
        refine lv_goto (tgt := 2) hx hb d_K_forgetJobs_31 (by decide) ?_
        exact ih2 (v1_2 + 1) M_8 hj H locs hw ls (lv_sub hl [1, 0] rfl)
  exact L2 n 0 M hj H locs hw ls (lv_sub hl [1, 0] rfl)
abbrev rm_S_forgetTasks : Room := { frames := 0, cells := 0, slots := 0, locals := 0 }
def ws_S_forgetTasks : List Cond := Cond.code y_S_forgetTasks b_S_forgetTasks 1 none :: wB
set_option maxHeartbeats 4000000 in
set_option maxRecDepth 100000 in
theorem c_S_forgetTasks {l : Launch} {D : va_G} {cI cT : ClassId} {ad : Nat → Nat} {n : Nat} {M : MX} {M0 : MX} (hj : j_S_forgetTasks n M = some M0) : gw_Cv l y_S_forgetTasks ws_S_forgetTasks rm_S_forgetTasks D (tyX cI cT) (wX cI cT ad M) [.ref (ad 1)] (wX cI cT ad M0) := by
  intro sz
  refine gw_metv (cc := b_S_forgetTasks) (maxL := 1) (by decide) rfl (Nat.le_of_ble_eq_true rfl) ?_
  intro p e s m args below meth c A Q S H locs hw hend ls hl
  have S : CallFix p m c b_S_forgetTasks 1 s args ws_S_forgetTasks R_S := S
  have hx := S.1
  have hb := S.2.1
  have hts := S.2.2.2.2
  have hl : lv_has ls 1 [(0, .ref (ad 1))] := hl
  have n_T_S : ∀ w ∈ u_ws R_S T_S 3, w ∈ ws_S_forgetTasks := fun w h => List.mem_cons_of_mem _ (uT_S w h)
  have f_27 : Cond.fieldLink R_S 27 (T_S 2).1 (T_S 2).2.1 (T_S 2).2.2.1 ∈ ws_S_forgetTasks := List.mem_cons_of_mem _ xw_1
  unfold j_S_forgetTasks at hj
  refine lv_aload_n hx hb d_S_forgetTasks_0 rfl (lv_at hl 0 rfl) ?_
  refine lv_iconst (v := 0) hx hb d_S_forgetTasks_1 (by decide) ?_
  refine gw_put (v := .int 0) (ty := .int) S hw xa_S rfl (by decide) n_T_S f_27 tk_S nm_S rfl (by decide +kernel) rfl rfl (Nat.le_of_ble_eq_true rfl) (xs_S 2 0 (by decide)) d_S_forgetTasks_2 (fun H locs hw => ?_)
  exact hend H locs ls 5 _ (congrArg (wX cI cT ad) (Option.some.inj hj)) hw d_S_forgetTasks_5
abbrev rm_O_clear : Room := { frames := 2, cells := 0, slots := 0, locals := 41 }
def ws_O_clear : List Cond := Cond.code y_O_clear b_O_clear 1 none :: wB
set_option maxHeartbeats 4000000 in
set_option maxRecDepth 100000 in
theorem c_O_clear {l : Launch} {D : va_G} {cI cT : ClassId} {ad : Nat → Nat} {n : Nat} {M : MX} {M0 : MX} (hj : j_O_clear n M = some M0) : gw_Cv l y_O_clear ws_O_clear rm_O_clear D (tyX cI cT) (wX cI cT ad M) [.ref (ad 0)] (wX cI cT ad M0) := by
  intro sz
  refine gw_metv (cc := b_O_clear) (maxL := 1) (by decide) rfl (Nat.le_of_ble_eq_true rfl) ?_
  intro p e s m args below meth c A Q S H locs hw hend ls hl
  have S : CallFix p m c b_O_clear 1 s args ws_O_clear R_O := S
  have hx := S.1
  have hb := S.2.1
  have hts := S.2.2.2.2
  have hl : lv_has ls 1 [(0, .ref (ad 0))] := hl
  have n_T_O : ∀ w ∈ u_ws R_O T_O 3, w ∈ ws_O_clear := fun w h => List.mem_cons_of_mem _ (uT_O w h)
  have f_10 : Cond.fieldLink R_O 10 (T_O 0).1 (T_O 0).2.1 (T_O 0).2.2.1 ∈ ws_O_clear := List.mem_cons_of_mem _ xw_42
  have f_28 : Cond.fieldLink R_O 28 (T_O 2).1 (T_O 2).2.1 (T_O 2).2.2.1 ∈ ws_O_clear := List.mem_cons_of_mem _ xw_43
  have w_44 : CallW rm_O_clear s args R_O R_K 44 y_K_forgetJobs b_K_forgetJobs 2 none ws_K_forgetJobs rm_K_forgetJobs 0 0 0 := cwV 0 hts (wB_callV (fun w h => List.mem_cons_of_mem _ h) xw_78 xw_79 xw_80 xw_81 xw_82) rfl rfl rfl (by decide +kernel) ⟨Nat.le_of_ble_eq_true rfl, Nat.le_of_ble_eq_true rfl⟩
  have w_47 : CallW rm_O_clear s args R_O R_S 47 y_S_forgetTasks b_S_forgetTasks 1 none ws_S_forgetTasks rm_S_forgetTasks 0 0 0 := cwV 0 hts (wB_callV (fun w h => List.mem_cons_of_mem _ h) xw_83 xw_84 xw_85 xw_86 xw_14) rfl rfl rfl (by decide +kernel) ⟨Nat.le_of_ble_eq_true rfl, Nat.le_of_ble_eq_true rfl⟩
  unfold j_O_clear at hj
  refine lv_aload_n hx hb d_O_clear_0 rfl (lv_at hl 0 rfl) ?_
  refine gw_get (v := .ref (ad 5)) S hw xa_O rfl (by decide) n_T_O f_28 rfl d_O_clear_1 ?_
  obtain ⟨M_2, e_1, hj⟩ := Option.bind_eq_some_iff.mp hj
  refine gw_callv (As := []) (rest := []) S hw (c_K_forgetJobs e_1) w_44 xa_K rfl rfl hl.1 rfl (Nat.le_of_ble_eq_true rfl) d_O_clear_4 (fun H locs hw => ?_)
  refine lv_aload_n hx hb d_O_clear_7 rfl (lv_at hl 0 rfl) ?_
  refine gw_get (v := .ref (ad 1)) S hw xa_O rfl (by decide) n_T_O f_10 rfl d_O_clear_8 ?_
  obtain ⟨M_4, e_3, hj⟩ := Option.bind_eq_some_iff.mp hj
  refine gw_callv (As := []) (rest := []) S hw (c_S_forgetTasks e_3) w_47 xa_S rfl rfl hl.1 rfl (Nat.le_of_ble_eq_true rfl) d_O_clear_11 (fun H locs hw => ?_)
  exact hend H locs ls 14 _ (congrArg (wX cI cT ad) (Option.some.inj hj)) hw d_O_clear_14
abbrev rm_O_reset : Room := { frames := 2, cells := 0, slots := 0, locals := 41 }
def ws_O_reset : List Cond := Cond.code y_O_reset b_O_reset 1 none :: wB
set_option maxHeartbeats 4000000 in
set_option maxRecDepth 100000 in
theorem c_O_reset {l : Launch} {D : va_G} {cI cT : ClassId} {ad : Nat → Nat} {n : Nat} {M : MX} {M0 : MX} (hj : j_O_reset n M = some M0) : gw_Cv l y_O_reset ws_O_reset rm_O_reset D (tyX cI cT) (wX cI cT ad M) [.ref (ad 0)] (wX cI cT ad M0) := by
  intro sz
  refine gw_metv (cc := b_O_reset) (maxL := 1) (by decide) rfl (Nat.le_of_ble_eq_true rfl) ?_
  intro p e s m args below meth c A Q S H locs hw hend ls hl
  have S : CallFix p m c b_O_reset 1 s args ws_O_reset R_O := S
  have hx := S.1
  have hb := S.2.1
  have hts := S.2.2.2.2
  have hl : lv_has ls 1 [(0, .ref (ad 0))] := hl
  have n_T_O : ∀ w ∈ u_ws R_O T_O 3, w ∈ ws_O_reset := fun w h => List.mem_cons_of_mem _ (uT_O w h)
  have f_28 : Cond.fieldLink R_O 28 (T_O 2).1 (T_O 2).2.1 (T_O 2).2.2.1 ∈ ws_O_reset := List.mem_cons_of_mem _ xw_43
  have w_44 : CallW rm_O_reset s args R_O R_K 44 y_K_forgetJobs b_K_forgetJobs 2 none ws_K_forgetJobs rm_K_forgetJobs 0 0 0 := cwV 0 hts (wB_callV (fun w h => List.mem_cons_of_mem _ h) xw_78 xw_79 xw_80 xw_81 xw_82) rfl rfl rfl (by decide +kernel) ⟨Nat.le_of_ble_eq_true rfl, Nat.le_of_ble_eq_true rfl⟩
  unfold j_O_reset at hj
  refine lv_aload_n hx hb d_O_reset_0 rfl (lv_at hl 0 rfl) ?_
  refine gw_get (v := .ref (ad 5)) S hw xa_O rfl (by decide) n_T_O f_28 rfl d_O_reset_1 ?_
  obtain ⟨M_2, e_1, hj⟩ := Option.bind_eq_some_iff.mp hj
  refine gw_callv (As := []) (rest := []) S hw (c_K_forgetJobs e_1) w_44 xa_K rfl rfl hl.1 rfl (Nat.le_of_ble_eq_true rfl) d_O_reset_4 (fun H locs hw => ?_)
  exact hend H locs ls 7 _ (congrArg (wX cI cT ad) (Option.some.inj hj)) hw d_O_reset_7
abbrev rm_T_longestSegment : Room := { frames := 1, cells := 0, slots := 0, locals := 21 }
def ws_T_longestSegment : List Cond := Cond.code y_T_longestSegment b_T_longestSegment 3 (some .int) :: wB
set_option maxHeartbeats 4000000 in
set_option maxRecDepth 100000 in
theorem c_T_longestSegment {l : Launch} {D : va_G} {cI cT : ClassId} {ad : Nat → Nat} {n : Nat} {M : MX} {x0 : Fin 8} {r0 : Int32} (hj : j_T_longestSegment n M x0 = some r0) : gw_Ci l y_T_longestSegment ws_T_longestSegment rm_T_longestSegment D (tyX cI cT) (wX cI cT ad M) [.ref (ad (6 + x0.val))] r0 (wX cI cT ad M) := by
  intro sz
  refine gw_meti (cc := b_T_longestSegment) (maxL := 3) (by decide) rfl (Nat.le_of_ble_eq_true rfl) ?_
  intro p e s m args below meth c A Q S H locs hw hend ls hl
  have S : CallFix p m c b_T_longestSegment 3 s args ws_T_longestSegment R_T := S
  have hx := S.1
  have hb := S.2.1
  have hts := S.2.2.2.2
  have hl : lv_has ls 3 [(0, .ref (ad (6 + x0.val)))] := hl
  have n_T_T : ∀ w ∈ u_ws R_T T_T 13, w ∈ ws_T_longestSegment := fun w h => List.mem_cons_of_mem _ (uT_T w h)
  have f_18 : Cond.fieldLink R_T 18 (T_T 2).1 (T_T 2).2.1 (T_T 2).2.2.1 ∈ ws_T_longestSegment := List.mem_cons_of_mem _ xw_49
  have f_44 : Cond.fieldLink R_T 44 (T_T 6).1 (T_T 6).2.1 (T_T 6).2.2.1 ∈ ws_T_longestSegment := List.mem_cons_of_mem _ xw_8
  have m_50 := hts _ (List.mem_cons_of_mem _ xw_87)
  have ms_max := hts _ (List.mem_cons_of_mem _ xw_88)
  have mc_max := hts _ (List.mem_cons_of_mem _ xw_89)
  have mi_ := hts _ (List.mem_cons_of_mem _ xw_90)
  unfold j_T_longestSegment at hj
  refine lv_iconst (v := 0) hx hb d_T_longestSegment_0 (by decide) ?_
  refine lv_istore_n (lv' := [(1, .int 0), (0, .ref (ad (6 + x0.val)))]) hx hb d_T_longestSegment_1 rfl hl (by decide) rfl (fun ls hl => ?_)
  refine lv_iconst (v := 0) hx hb d_T_longestSegment_2 (by decide) ?_
  refine lv_istore_n (lv' := [(2, .int 0), (1, .int 0), (0, .ref (ad (6 + x0.val)))]) hx hb d_T_longestSegment_3 rfl hl (by decide) rfl (fun ls hl => ?_)
  have L4 : ∀ (f4 : Nat) (v1_4 : Int32) (v2_4 : Int32), j_T_longestSegment_L4 n M x0 f4 v1_4 v2_4 = some r0 → ∀ (H : Heap) (locs : List Loc), gw_W D (tyX cI cT) A (wX cI cT ad M) s H locs → ∀ ls : Array Slot, lv_has ls 3 [(0, .ref (ad (6 + x0.val))), (1, .int v1_4), (2, .int v2_4)] → W p l e rm_T_longestSegment s m args below meth c H locs 0 0 Q (F0 m 4 ls []) := by
    intro f4
    induction f4 with
    | zero =>
      intro v1_4 v2_4 hj
      exact nomatch (show (none : Option Int32) = some r0 from hj)
    | succ f4 ih4 =>
      intro v1_4 v2_4 hj H locs hw ls hl
      rw [j_T_longestSegment_L4] at hj
      refine lv_iload_n hx hb d_T_longestSegment_4 rfl (lv_at hl 2 rfl) ?_
      refine lv_aload_n hx hb d_T_longestSegment_5 rfl (lv_at hl 0 rfl) ?_
      refine gw_get (v := .int (M.1 0 x0 6)) S hw (xa_T x0) rfl (by decide) n_T_T f_44 rfl d_T_longestSegment_6 ?_
      refine lv_icmp_ge (tgt := 29) hx hb d_T_longestSegment_9 (by decide) (fun c_3 => ?_) (fun c_3 => ?_)
      · rw [if_pos c_3] at hj
        refine lv_iload_n hx hb d_T_longestSegment_29 rfl (lv_at hl 1 rfl) ?_
        exact hend H locs ls 30 _ _ (Option.some.inj hj) rfl hw d_T_longestSegment_30
      · rw [if_neg c_3] at hj
        refine lv_iload_n hx hb d_T_longestSegment_12 rfl (lv_at hl 1 rfl) ?_
        refine lv_aload_n hx hb d_T_longestSegment_13 rfl (lv_at hl 0 rfl) ?_
        refine gw_get (v := .ref (ad (22 + x0.val))) S hw (xa_T x0) rfl (by decide) n_T_T f_18 rfl d_T_longestSegment_14 ?_
        refine lv_iload_n hx hb d_T_longestSegment_17 rfl (lv_at hl 2 rfl) ?_
        obtain ⟨g_4, hj⟩ := gw_if hj
        refine gw_iald (t0 := 0) S hw ⟨xa_sg x0, rfl⟩ g_4 d_T_longestSegment_18 ?_
        refine va_mmax hx hb (S.2.2.1.trans hl.1.symm) S.2.2.2.1 m_50 ms_max mi_ mc_max (by decide) (Nat.le_of_ble_eq_true rfl) (Nat.zero_le _) (Nat.zero_le _) d_T_longestSegment_19 ?_
        refine lv_istore_n (lv' := [(1, .int (if v1_4 < (M.1 2 x0 v2_4.toNatClampNeg) then (M.1 2 x0 v2_4.toNatClampNeg) else v1_4)), (0, .ref (ad (6 + x0.val))), (2, .int v2_4)]) hx hb d_T_longestSegment_22 rfl hl (by decide) rfl (fun ls hl => ?_)
        refine lv_iinc (v := (v2_4 + 1)) (lv' := [(2, .int (v2_4 + 1)), (1, .int (if v1_4 < (M.1 2 x0 v2_4.toNatClampNeg) then (M.1 2 x0 v2_4.toNatClampNeg) else v1_4)), (0, .ref (ad (6 + x0.val)))]) hx hb d_T_longestSegment_23 hl (k := 2) rfl rfl (by decide) rfl (fun ls hl => ?_)
        refine lv_goto (tgt := 4) hx hb d_T_longestSegment_26 (by decide) ?_
        exact ih4 (if v1_4 < (M.1 2 x0 v2_4.toNatClampNeg) then (M.1 2 x0 v2_4.toNatClampNeg) else v1_4) (v2_4 + 1) hj H locs hw ls (lv_sub hl [2, 1, 0] rfl)
  exact L4 n 0 0 hj H locs hw ls (lv_sub hl [2, 1, 0] rfl)
abbrev rm_S_longestBelow : Room := { frames := 2, cells := 0, slots := 0, locals := 43 }
def ws_S_longestBelow : List Cond := Cond.code y_S_longestBelow b_S_longestBelow 4 (some .int) :: wB
set_option maxHeartbeats 4000000 in
set_option maxRecDepth 100000 in
theorem c_S_longestBelow {l : Launch} {D : va_G} {cI cT : ClassId} {ad : Nat → Nat} {n : Nat} {M : MX} {x1 : Fin 8} {r0 : Int32} (hj : j_S_longestBelow n M x1 = some r0) : gw_Ci l y_S_longestBelow ws_S_longestBelow rm_S_longestBelow D (tyX cI cT) (wX cI cT ad M) [.ref (ad 1), .ref (ad (6 + x1.val))] r0 (wX cI cT ad M) := by
  intro sz
  refine gw_meti (cc := b_S_longestBelow) (maxL := 4) (by decide) rfl (Nat.le_of_ble_eq_true rfl) ?_
  intro p e s m args below meth c A Q S H locs hw hend ls hl
  have S : CallFix p m c b_S_longestBelow 4 s args ws_S_longestBelow R_S := S
  have hx := S.1
  have hb := S.2.1
  have hts := S.2.2.2.2
  have hl : lv_has ls 4 [(0, .ref (ad 1)), (1, .ref (ad (6 + x1.val)))] := hl
  have n_T_S : ∀ w ∈ u_ws R_S T_S 3, w ∈ ws_S_longestBelow := fun w h => List.mem_cons_of_mem _ (uT_S w h)
  have n_T_T : ∀ w ∈ u_ws R_T T_T 13, w ∈ ws_S_longestBelow := fun w h => List.mem_cons_of_mem _ (uT_T w h)
  have f_17 : Cond.fieldLink R_S 17 (T_S 1).1 (T_S 1).2.1 (T_S 1).2.2.1 ∈ ws_S_longestBelow := List.mem_cons_of_mem _ xw_0
  have f_23 : Cond.fieldLink R_S 23 (T_T 8).1 (T_T 8).2.1 (T_T 8).2.2.1 ∈ ws_S_longestBelow := List.mem_cons_of_mem _ xw_4
  have f_27 : Cond.fieldLink R_S 27 (T_S 2).1 (T_S 2).2.1 (T_S 2).2.2.1 ∈ ws_S_longestBelow := List.mem_cons_of_mem _ xw_1
  have m_60 := hts _ (List.mem_cons_of_mem _ xw_91)
  have ms_max := hts _ (List.mem_cons_of_mem _ xw_88)
  have mc_max := hts _ (List.mem_cons_of_mem _ xw_89)
  have mi_ := hts _ (List.mem_cons_of_mem _ xw_90)
  have w_56 : CallW rm_S_longestBelow s args R_S R_T 56 y_T_longestSegment b_T_longestSegment 3 (some .int) ws_T_longestSegment rm_T_longestSegment 0 0 0 := cwV 0 hts (wB_callV (fun w h => List.mem_cons_of_mem _ h) xw_92 xw_93 xw_94 xw_95 xw_21) rfl rfl rfl (by decide +kernel) ⟨Nat.le_of_ble_eq_true rfl, Nat.le_of_ble_eq_true rfl⟩
  unfold j_S_longestBelow at hj
  refine lv_iconst (v := 0) hx hb d_S_longestBelow_0 (by decide) ?_
  refine lv_istore_n (lv' := [(2, .int 0), (0, .ref (ad 1)), (1, .ref (ad (6 + x1.val)))]) hx hb d_S_longestBelow_1 rfl hl (by decide) rfl (fun ls hl => ?_)
  refine lv_aload_n hx hb d_S_longestBelow_2 rfl (lv_at hl 2 rfl) ?_
  refine gw_get (v := .int (M.1 0 x1 8)) S hw (xa_T x1) rfl (by decide) n_T_T f_23 rfl d_S_longestBelow_3 ?_
  refine lv_iconst (v := 1) hx hb d_S_longestBelow_6 (by decide) ?_
  refine lv_iadd hx hb d_S_longestBelow_7 ?_
  refine lv_istore_n (lv' := [(3, .int ((M.1 0 x1 8) + 1)), (2, .int 0), (0, .ref (ad 1)), (1, .ref (ad (6 + x1.val)))]) hx hb d_S_longestBelow_8 rfl hl (by decide) rfl (fun ls hl => ?_)
  have L9 : ∀ (f9 : Nat) (v2_9 : Int32) (v3_9 : Int32), j_S_longestBelow_L9 n M x1 f9 v2_9 v3_9 = some r0 → ∀ (H : Heap) (locs : List Loc), gw_W D (tyX cI cT) A (wX cI cT ad M) s H locs → ∀ ls : Array Slot, lv_has ls 4 [(0, .ref (ad 1)), (1, .ref (ad (6 + x1.val))), (2, .int v2_9), (3, .int v3_9)] → W p l e rm_S_longestBelow s m args below meth c H locs 0 0 Q (F0 m 9 ls []) := by
    intro f9
    induction f9 with
    | zero =>
      intro v2_9 v3_9 hj
      exact nomatch (show (none : Option Int32) = some r0 from hj)
    | succ f9 ih9 =>
      intro v2_9 v3_9 hj H locs hw ls hl
      rw [j_S_longestBelow_L9] at hj
      refine lv_iload_n hx hb d_S_longestBelow_9 rfl (lv_at hl 3 rfl) ?_
      refine lv_aload_n hx hb d_S_longestBelow_10 rfl (lv_at hl 0 rfl) ?_
      refine gw_get (v := .int (M.2.1 0 2)) S hw xa_S rfl (by decide) n_T_S f_27 rfl d_S_longestBelow_11 ?_
      refine lv_icmp_ge (tgt := 37) hx hb d_S_longestBelow_14 (by decide) (fun c_5 => ?_) (fun c_5 => ?_)
      · rw [if_pos c_5] at hj
        refine lv_iload_n hx hb d_S_longestBelow_37 rfl (lv_at hl 2 rfl) ?_
        exact hend H locs ls 38 _ _ (Option.some.inj hj) rfl hw d_S_longestBelow_38
      · rw [if_neg c_5] at hj
        refine lv_iload_n hx hb d_S_longestBelow_17 rfl (lv_at hl 2 rfl) ?_
        refine lv_aload_n hx hb d_S_longestBelow_18 rfl (lv_at hl 0 rfl) ?_
        refine gw_get (v := .ref (ad 3)) S hw xa_S rfl (by decide) n_T_S f_17 rfl d_S_longestBelow_19 ?_
        refine lv_iload_n hx hb d_S_longestBelow_22 rfl (lv_at hl 3 rfl) ?_
        obtain ⟨g_6, hj⟩ := gw_if hj
        refine gw_aldq (t0 := 1) S hw ⟨xa_rk, rfl⟩ g_6 d_S_longestBelow_23 ?_
        obtain ⟨r_8, e_7, hj⟩ := Option.bind_eq_some_iff.mp hj
        refine gw_calli (As := []) (rest := [.int v2_9]) S hw (c_T_longestSegment e_7) w_56 (xa_T (M.2.2.1 v3_9.toNatClampNeg)) rfl rfl hl.1 rfl (Nat.le_of_ble_eq_true rfl) d_S_longestBelow_24 (fun H locs hw => ?_)
        refine va_mmax hx hb (S.2.2.1.trans hl.1.symm) S.2.2.2.1 m_60 ms_max mi_ mc_max (by decide) (Nat.le_of_ble_eq_true rfl) (Nat.zero_le _) (Nat.zero_le _) d_S_longestBelow_27 ?_
        refine lv_istore_n (lv' := [(2, .int (if v2_9 < r_8 then r_8 else v2_9)), (0, .ref (ad 1)), (1, .ref (ad (6 + x1.val))), (3, .int v3_9)]) hx hb d_S_longestBelow_30 rfl hl (by decide) rfl (fun ls hl => ?_)
        refine lv_iinc (v := (v3_9 + 1)) (lv' := [(3, .int (v3_9 + 1)), (2, .int (if v2_9 < r_8 then r_8 else v2_9)), (0, .ref (ad 1)), (1, .ref (ad (6 + x1.val)))]) hx hb d_S_longestBelow_31 hl (k := 3) rfl rfl (by decide) rfl (fun ls hl => ?_)
        refine lv_goto (tgt := 9) hx hb d_S_longestBelow_34 (by decide) ?_
        exact ih9 (if v2_9 < r_8 then r_8 else v2_9) (v3_9 + 1) hj H locs hw ls (lv_sub hl [2, 3, 1, 0] rfl)
  exact L9 n 0 ((M.1 0 x1 8) + 1) hj H locs hw ls (lv_sub hl [2, 3, 1, 0] rfl)
abbrev rm_S_blockingOf : Room := { frames := 3, cells := 0, slots := 0, locals := 66 }
def ws_S_blockingOf : List Cond := Cond.code y_S_blockingOf b_S_blockingOf 2 (some .int) :: wB
set_option maxHeartbeats 4000000 in
set_option maxRecDepth 100000 in
theorem c_S_blockingOf {l : Launch} {D : va_G} {cI cT : ClassId} {ad : Nat → Nat} {n : Nat} {M : MX} {x1 : Fin 8} {r0 : Int32} (hj : j_S_blockingOf n M x1 = some r0) : gw_Ci l y_S_blockingOf ws_S_blockingOf rm_S_blockingOf D (tyX cI cT) (wX cI cT ad M) [.ref (ad 1), .ref (ad (6 + x1.val))] r0 (wX cI cT ad M) := by
  intro sz
  refine gw_meti (cc := b_S_blockingOf) (maxL := 2) (by decide) rfl (Nat.le_of_ble_eq_true rfl) ?_
  intro p e s m args below meth c A Q S H locs hw hend ls hl
  have S : CallFix p m c b_S_blockingOf 2 s args ws_S_blockingOf R_S := S
  have hx := S.1
  have hb := S.2.1
  have hts := S.2.2.2.2
  have hl : lv_has ls 2 [(0, .ref (ad 1)), (1, .ref (ad (6 + x1.val)))] := hl
  have m_60 := hts _ (List.mem_cons_of_mem _ xw_91)
  have ms_max := hts _ (List.mem_cons_of_mem _ xw_88)
  have mc_max := hts _ (List.mem_cons_of_mem _ xw_89)
  have mi_ := hts _ (List.mem_cons_of_mem _ xw_90)
  have w_66 : CallW rm_S_blockingOf s args R_S R_S 66 y_S_longestBelow b_S_longestBelow 4 (some .int) ws_S_longestBelow rm_S_longestBelow 0 0 1 := cwV 1 hts (wB_callV (fun w h => List.mem_cons_of_mem _ h) xw_96 xw_97 xw_98 xw_99 xw_14) rfl rfl rfl (by decide +kernel) ⟨Nat.le_of_ble_eq_true rfl, Nat.le_of_ble_eq_true rfl⟩
  unfold j_S_blockingOf at hj
  refine lv_iconst (v := 0) hx hb d_S_blockingOf_0 (by decide) ?_
  refine lv_aload_n hx hb d_S_blockingOf_1 rfl (lv_at hl 0 rfl) ?_
  refine lv_aload_n hx hb d_S_blockingOf_2 rfl (lv_at hl 1 rfl) ?_
  obtain ⟨r_2, e_1, hj⟩ := Option.bind_eq_some_iff.mp hj
  refine gw_calli (As := [.ref (ad (6 + x1.val))]) (rest := [.int 0]) S hw (c_S_longestBelow e_1) w_66 xa_S rfl rfl hl.1 rfl (Nat.le_of_ble_eq_true rfl) d_S_blockingOf_3 (fun H locs hw => ?_)
  refine lv_iconst (v := 1) hx hb d_S_blockingOf_6 (by decide) ?_
  refine lv_isub hx hb d_S_blockingOf_7 ?_
  refine va_mmax hx hb (S.2.2.1.trans hl.1.symm) S.2.2.2.1 m_60 ms_max mi_ mc_max (by decide) (Nat.le_of_ble_eq_true rfl) (Nat.zero_le _) (Nat.zero_le _) d_S_blockingOf_8 ?_
  exact hend H locs ls 11 _ _ (Option.some.inj hj) rfl hw d_S_blockingOf_11
abbrev rm_T_segmentAt : Room := { frames := 0, cells := 0, slots := 0, locals := 0 }
def ws_T_segmentAt : List Cond := Cond.code y_T_segmentAt b_T_segmentAt 2 (some .int) :: wB
set_option maxHeartbeats 4000000 in
set_option maxRecDepth 100000 in
theorem c_T_segmentAt {l : Launch} {D : va_G} {cI cT : ClassId} {ad : Nat → Nat} {n : Nat} {M : MX} {x0 : Fin 8} {a1 : Int32} {r0 : Int32} (hj : j_T_segmentAt n M x0 a1 = some r0) : gw_Ci l y_T_segmentAt ws_T_segmentAt rm_T_segmentAt D (tyX cI cT) (wX cI cT ad M) [.ref (ad (6 + x0.val)), .int a1] r0 (wX cI cT ad M) := by
  intro sz
  refine gw_meti (cc := b_T_segmentAt) (maxL := 2) (by decide) rfl (Nat.le_of_ble_eq_true rfl) ?_
  intro p e s m args below meth c A Q S H locs hw hend ls hl
  have S : CallFix p m c b_T_segmentAt 2 s args ws_T_segmentAt R_T := S
  have hx := S.1
  have hb := S.2.1
  have hts := S.2.2.2.2
  have hl : lv_has ls 2 [(0, .ref (ad (6 + x0.val))), (1, .int a1)] := hl
  have n_T_T : ∀ w ∈ u_ws R_T T_T 13, w ∈ ws_T_segmentAt := fun w h => List.mem_cons_of_mem _ (uT_T w h)
  have f_18 : Cond.fieldLink R_T 18 (T_T 2).1 (T_T 2).2.1 (T_T 2).2.2.1 ∈ ws_T_segmentAt := List.mem_cons_of_mem _ xw_49
  have f_44 : Cond.fieldLink R_T 44 (T_T 6).1 (T_T 6).2.1 (T_T 6).2.2.1 ∈ ws_T_segmentAt := List.mem_cons_of_mem _ xw_8
  unfold j_T_segmentAt at hj
  refine lv_iload_n hx hb d_T_segmentAt_0 rfl (lv_at hl 1 rfl) ?_
  refine lv_if_lt (tgt := 12) hx hb d_T_segmentAt_1 (by decide) (fun c_1 => ?_) (fun c_1 => ?_)
  · rw [if_pos c_1] at hj
    refine lv_iconst (v := -1) hx hb d_T_segmentAt_12 (by decide) ?_
    refine lv_goto (tgt := 22) hx hb d_T_segmentAt_13 (by decide) ?_
    exact hend H locs ls 22 _ _ (Option.some.inj hj) rfl hw d_T_segmentAt_22
  · rw [if_neg c_1] at hj
    refine lv_iload_n hx hb d_T_segmentAt_4 rfl (lv_at hl 1 rfl) ?_
    refine lv_aload_n hx hb d_T_segmentAt_5 rfl (lv_at hl 0 rfl) ?_
    refine gw_get (v := .int (M.1 0 x0 6)) S hw (xa_T x0) rfl (by decide) n_T_T f_44 rfl d_T_segmentAt_6 ?_
    refine lv_icmp_lt (tgt := 16) hx hb d_T_segmentAt_9 (by decide) (fun c_2 => ?_) (fun c_2 => ?_)
    · rw [if_pos c_2] at hj
      refine lv_aload_n hx hb d_T_segmentAt_16 rfl (lv_at hl 0 rfl) ?_
      refine gw_get (v := .ref (ad (22 + x0.val))) S hw (xa_T x0) rfl (by decide) n_T_T f_18 rfl d_T_segmentAt_17 ?_
      refine lv_iload_n hx hb d_T_segmentAt_20 rfl (lv_at hl 1 rfl) ?_
      obtain ⟨g_3, hj⟩ := gw_if hj
      refine gw_iald (t0 := 0) S hw ⟨xa_sg x0, rfl⟩ g_3 d_T_segmentAt_21 ?_
      exact hend H locs ls 22 _ _ (Option.some.inj hj) rfl hw d_T_segmentAt_22
    · rw [if_neg c_2] at hj
      refine lv_iconst (v := -1) hx hb d_T_segmentAt_12 (by decide) ?_
      refine lv_goto (tgt := 22) hx hb d_T_segmentAt_13 (by decide) ?_
      exact hend H locs ls 22 _ _ (Option.some.inj hj) rfl hw d_T_segmentAt_22
abbrev rm_O_about : Room := { frames := 4, cells := 0, slots := 0, locals := 87 }
def ws_O_about : List Cond := Cond.code y_O_about b_O_about 4 (some .int) :: wB
set_option maxHeartbeats 4000000 in
set_option maxRecDepth 100000 in
theorem c_O_about {l : Launch} {D : va_G} {cI cT : ClassId} {ad : Nat → Nat} {n : Nat} {M : MX} {a1 : Int32} {a2 : Int32} {r0 : Int32} (hj : j_O_about n M a1 a2 = some r0) : gw_Ci l y_O_about ws_O_about rm_O_about D (tyX cI cT) (wX cI cT ad M) [.ref (ad 0), .int a1, .int a2] r0 (wX cI cT ad M) := by
  intro sz
  refine gw_meti (cc := b_O_about) (maxL := 4) (by decide) rfl (Nat.le_of_ble_eq_true rfl) ?_
  intro p e s m args below meth c A Q S H locs hw hend ls hl
  have S : CallFix p m c b_O_about 4 s args ws_O_about R_O := S
  have hx := S.1
  have hb := S.2.1
  have hts := S.2.2.2.2
  have hl : lv_has ls 4 [(0, .ref (ad 0)), (1, .int a1), (2, .int a2)] := hl
  have n_T_O : ∀ w ∈ u_ws R_O T_O 3, w ∈ ws_O_about := fun w h => List.mem_cons_of_mem _ (uT_O w h)
  have n_T_T : ∀ w ∈ u_ws R_T T_T 13, w ∈ ws_O_about := fun w h => List.mem_cons_of_mem _ (uT_T w h)
  have f_10 : Cond.fieldLink R_O 10 (T_O 0).1 (T_O 0).2.1 (T_O 0).2.2.1 ∈ ws_O_about := List.mem_cons_of_mem _ xw_42
  have f_54 : Cond.fieldLink R_O 54 (T_T 3).1 (T_T 3).2.1 (T_T 3).2.2.1 ∈ ws_O_about := List.mem_cons_of_mem _ xw_100
  have f_60 : Cond.fieldLink R_O 60 (T_T 4).1 (T_T 4).2.1 (T_T 4).2.2.1 ∈ ws_O_about := List.mem_cons_of_mem _ xw_101
  have f_63 : Cond.fieldLink R_O 63 (T_T 5).1 (T_T 5).2.1 (T_T 5).2.2.1 ∈ ws_O_about := List.mem_cons_of_mem _ xw_102
  have f_66 : Cond.fieldLink R_O 66 (T_T 6).1 (T_T 6).2.1 (T_T 6).2.2.1 ∈ ws_O_about := List.mem_cons_of_mem _ xw_103
  have f_69 : Cond.fieldLink R_O 69 (T_T 7).1 (T_T 7).2.1 (T_T 7).2.2.1 ∈ ws_O_about := List.mem_cons_of_mem _ xw_104
  have w_50 : CallW rm_O_about s args R_O R_S 50 y_S_find b_S_find 3 (some (.object "SegmentKernel$Task")) ws_S_find rm_S_find 0 0 1 := cwV 1 hts (wB_callV (fun w h => List.mem_cons_of_mem _ h) xw_26 xw_105 xw_28 xw_29 xw_14) rfl rfl rfl (by decide +kernel) ⟨Nat.le_of_ble_eq_true rfl, Nat.le_of_ble_eq_true rfl⟩
  have w_72 : CallW rm_O_about s args R_O R_S 72 y_S_blockingOf b_S_blockingOf 2 (some .int) ws_S_blockingOf rm_S_blockingOf 0 0 1 := cwV 1 hts (wB_callV (fun w h => List.mem_cons_of_mem _ h) xw_106 xw_107 xw_108 xw_109 xw_14) rfl rfl rfl (by decide +kernel) ⟨Nat.le_of_ble_eq_true rfl, Nat.le_of_ble_eq_true rfl⟩
  have w_76 : CallW rm_O_about s args R_O R_T 76 y_T_segmentAt b_T_segmentAt 2 (some .int) ws_T_segmentAt rm_T_segmentAt 0 0 1 := cwV 1 hts (wB_callV (fun w h => List.mem_cons_of_mem _ h) xw_110 xw_111 xw_112 xw_113 xw_21) rfl rfl rfl (by decide +kernel) ⟨Nat.le_of_ble_eq_true rfl, Nat.le_of_ble_eq_true rfl⟩
  unfold j_O_about at hj
  refine lv_aload_n hx hb d_O_about_0 rfl (lv_at hl 0 rfl) ?_
  refine gw_get (v := .ref (ad 1)) S hw xa_O rfl (by decide) n_T_O f_10 rfl d_O_about_1 ?_
  refine lv_iload_n hx hb d_O_about_4 rfl (lv_at hl 1 rfl) ?_
  obtain ⟨r_2, e_1, hj⟩ := Option.bind_eq_some_iff.mp hj
  refine gw_callq (As := [.int a1]) (rest := []) S hw (c_S_find e_1) w_50 xa_S rfl rfl hl.1 rfl (Nat.le_of_ble_eq_true rfl) d_O_about_5 (fun H locs hw => ?_)
  refine gw_astore_n (lv' := [(3, va_rf (gw_oa ad r_2)), (0, .ref (ad 0)), (1, .int a1), (2, .int a2)]) hx hb d_O_about_8 rfl hl (by decide) rfl (fun ls hl => ?_)
  refine gw_aload_n hx hb d_O_about_9 rfl (lv_at hl 0 rfl) ?_
  rcases r_2 with _ | y_3
  · rw [gw_oc_none rfl] at hj
    refine lv_ifnonnullN hx hb d_O_about_10 ?_
    refine lv_iconst (v := -1) hx hb d_O_about_13 (by decide) ?_
    exact hend H locs ls 14 _ _ (Option.some.inj hj) rfl hw d_O_about_14
  · rw [gw_oc_some rfl] at hj
    refine lv_ifnonnull (tgt := 15) hx hb d_O_about_10 (by decide) ?_
    refine lv_iload_n hx hb d_O_about_15 rfl (lv_at hl 3 rfl) ?_
    by_cases c_4 : a2 = 0
    · rw [if_pos c_4] at hj
      refine lv_tableIn (tgt := 56) hx hb d_O_about_16 (by rw [c_4]; decide) (by rw [c_4]; decide) (by rw [c_4]; rfl) (by decide) ?_
      refine lv_aload_n hx hb d_O_about_56 rfl (lv_at hl 0 rfl) ?_
      refine gw_get (v := .int (M.1 0 y_3 3)) S hw (xa_T y_3) rfl (by decide) n_T_T f_54 rfl d_O_about_57 ?_
      exact hend H locs ls 60 _ _ (Option.some.inj hj) rfl hw d_O_about_60
    rw [if_neg c_4] at hj
    by_cases c_5 : a2 = 1
    · rw [if_pos c_5] at hj
      refine lv_tableIn (tgt := 61) hx hb d_O_about_16 (by rw [c_5]; decide) (by rw [c_5]; decide) (by rw [c_5]; rfl) (by decide) ?_
      refine lv_aload_n hx hb d_O_about_61 rfl (lv_at hl 0 rfl) ?_
      refine gw_get (v := .int (M.1 0 y_3 4)) S hw (xa_T y_3) rfl (by decide) n_T_T f_60 rfl d_O_about_62 ?_
      exact hend H locs ls 65 _ _ (Option.some.inj hj) rfl hw d_O_about_65
    rw [if_neg c_5] at hj
    by_cases c_6 : a2 = 2
    · rw [if_pos c_6] at hj
      refine lv_tableIn (tgt := 66) hx hb d_O_about_16 (by rw [c_6]; decide) (by rw [c_6]; decide) (by rw [c_6]; rfl) (by decide) ?_
      refine lv_aload_n hx hb d_O_about_66 rfl (lv_at hl 0 rfl) ?_
      refine gw_get (v := .int (M.1 0 y_3 5)) S hw (xa_T y_3) rfl (by decide) n_T_T f_63 rfl d_O_about_67 ?_
      exact hend H locs ls 70 _ _ (Option.some.inj hj) rfl hw d_O_about_70
    rw [if_neg c_6] at hj
    by_cases c_7 : a2 = 3
    · rw [if_pos c_7] at hj
      refine lv_tableIn (tgt := 71) hx hb d_O_about_16 (by rw [c_7]; decide) (by rw [c_7]; decide) (by rw [c_7]; rfl) (by decide) ?_
      refine lv_aload_n hx hb d_O_about_71 rfl (lv_at hl 0 rfl) ?_
      refine gw_get (v := .int (M.1 0 y_3 6)) S hw (xa_T y_3) rfl (by decide) n_T_T f_66 rfl d_O_about_72 ?_
      exact hend H locs ls 75 _ _ (Option.some.inj hj) rfl hw d_O_about_75
    rw [if_neg c_7] at hj
    by_cases c_8 : a2 = 4
    · rw [if_pos c_8] at hj
      refine lv_tableIn (tgt := 76) hx hb d_O_about_16 (by rw [c_8]; decide) (by rw [c_8]; decide) (by rw [c_8]; rfl) (by decide) ?_
      refine lv_aload_n hx hb d_O_about_76 rfl (lv_at hl 0 rfl) ?_
      refine gw_get (v := .int (M.1 0 y_3 7)) S hw (xa_T y_3) rfl (by decide) n_T_T f_69 rfl d_O_about_77 ?_
      exact hend H locs ls 80 _ _ (Option.some.inj hj) rfl hw d_O_about_80
    rw [if_neg c_8] at hj
    by_cases c_11 : a2 = 5
    · rw [if_pos c_11] at hj
      refine lv_tableIn (tgt := 81) hx hb d_O_about_16 (by rw [c_11]; decide) (by rw [c_11]; decide) (by rw [c_11]; rfl) (by decide) ?_
      refine lv_aload_n hx hb d_O_about_81 rfl (lv_at hl 1 rfl) ?_
      refine gw_get (v := .ref (ad 1)) S hw xa_O rfl (by decide) n_T_O f_10 rfl d_O_about_82 ?_
      refine lv_aload_n hx hb d_O_about_85 rfl (lv_at hl 0 rfl) ?_
      obtain ⟨r_10, e_9, hj⟩ := Option.bind_eq_some_iff.mp hj
      refine gw_calli (As := [.ref (ad (6 + y_3.val))]) (rest := []) S hw (c_S_blockingOf e_9) w_72 xa_S rfl rfl hl.1 rfl (Nat.le_of_ble_eq_true rfl) d_O_about_86 (fun H locs hw => ?_)
      exact hend H locs ls 89 _ _ (Option.some.inj hj) rfl hw d_O_about_89
    rw [if_neg c_11] at hj
    refine lv_tableOut (tgt := 90) hx hb d_O_about_16 (gw_out6 c_4 c_5 c_6 c_7 c_8 c_11) (by decide) ?_
    refine lv_iload_n hx hb d_O_about_90 rfl (lv_at hl 3 rfl) ?_
    refine lv_bipush (v := 10) hx hb d_O_about_91 (by decide) ?_
    refine lv_icmp_ge (tgt := 100) hx hb d_O_about_93 (by decide) (fun c_12 => ?_) (fun c_12 => ?_)
    · rw [if_pos c_12] at hj
      refine lv_aload_n hx hb d_O_about_100 rfl (lv_at hl 0 rfl) ?_
      refine lv_iload_n hx hb d_O_about_101 rfl (lv_at hl 3 rfl) ?_
      refine lv_bipush (v := 10) hx hb d_O_about_102 (by decide) ?_
      refine lv_isub hx hb d_O_about_104 ?_
      obtain ⟨r_14, e_13, hj⟩ := Option.bind_eq_some_iff.mp hj
      refine gw_calli (As := [.int (a2 - 10)]) (rest := []) S hw (c_T_segmentAt e_13) w_76 (xa_T y_3) rfl rfl hl.1 rfl (Nat.le_of_ble_eq_true rfl) d_O_about_105 (fun H locs hw => ?_)
      exact hend H locs ls 108 _ _ (Option.some.inj hj) rfl hw d_O_about_108
    · rw [if_neg c_12] at hj
      refine lv_iconst (v := -1) hx hb d_O_about_96 (by decide) ?_
      refine lv_goto (tgt := 108) hx hb d_O_about_97 (by decide) ?_
      exact hend H locs ls 108 _ _ (Option.some.inj hj) rfl hw d_O_about_108
abbrev rm_S_isReady : Room := { frames := 0, cells := 0, slots := 0, locals := 0 }
def ws_S_isReady : List Cond := Cond.code y_S_isReady b_S_isReady 2 (some .boolean) :: wB
set_option maxHeartbeats 4000000 in
set_option maxRecDepth 100000 in
theorem c_S_isReady {l : Launch} {D : va_G} {cI cT : ClassId} {ad : Nat → Nat} {n : Nat} {M : MX} {r0 : Int32} (hj : j_S_isReady n M = some r0) : gw_Cz l y_S_isReady ws_S_isReady rm_S_isReady D (tyX cI cT) (wX cI cT ad M) [.ref (ad 1)] r0 (wX cI cT ad M) := by
  intro sz
  refine gw_metz (cc := b_S_isReady) (maxL := 2) (by decide) rfl (Nat.le_of_ble_eq_true rfl) ?_
  intro p e s m args below meth c A Q S H locs hw hend ls hl
  have S : CallFix p m c b_S_isReady 2 s args ws_S_isReady R_S := S
  have hx := S.1
  have hb := S.2.1
  have hts := S.2.2.2.2
  have hl : lv_has ls 2 [(0, .ref (ad 1))] := hl
  have n_T_S : ∀ w ∈ u_ws R_S T_S 3, w ∈ ws_S_isReady := fun w h => List.mem_cons_of_mem _ (uT_S w h)
  have n_T_T : ∀ w ∈ u_ws R_T T_T 13, w ∈ ws_S_isReady := fun w h => List.mem_cons_of_mem _ (uT_T w h)
  have f_17 : Cond.fieldLink R_S 17 (T_S 1).1 (T_S 1).2.1 (T_S 1).2.2.1 ∈ ws_S_isReady := List.mem_cons_of_mem _ xw_0
  have f_27 : Cond.fieldLink R_S 27 (T_S 2).1 (T_S 2).2.1 (T_S 2).2.2.1 ∈ ws_S_isReady := List.mem_cons_of_mem _ xw_1
  have f_53 : Cond.fieldLink R_S 53 (T_T 6).1 (T_T 6).2.1 (T_T 6).2.2.1 ∈ ws_S_isReady := List.mem_cons_of_mem _ xw_114
  unfold j_S_isReady at hj
  refine lv_iconst (v := 0) hx hb d_S_isReady_0 (by decide) ?_
  refine lv_istore_n (lv' := [(1, .int 0), (0, .ref (ad 1))]) hx hb d_S_isReady_1 rfl hl (by decide) rfl (fun ls hl => ?_)
  have L2 : ∀ (f2 : Nat) (v1_2 : Int32), j_S_isReady_L2 n M f2 v1_2 = some r0 → ∀ (H : Heap) (locs : List Loc), gw_W D (tyX cI cT) A (wX cI cT ad M) s H locs → ∀ ls : Array Slot, lv_has ls 2 [(0, .ref (ad 1)), (1, .int v1_2)] → W p l e rm_S_isReady s m args below meth c H locs 0 0 Q (F0 m 2 ls []) := by
    intro f2
    induction f2 with
    | zero =>
      intro v1_2 hj
      exact nomatch (show (none : Option Int32) = some r0 from hj)
    | succ f2 ih2 =>
      intro v1_2 hj H locs hw ls hl
      rw [j_S_isReady_L2] at hj
      refine lv_iload_n hx hb d_S_isReady_2 rfl (lv_at hl 1 rfl) ?_
      refine lv_aload_n hx hb d_S_isReady_3 rfl (lv_at hl 0 rfl) ?_
      refine gw_get (v := .int (M.2.1 0 2)) S hw xa_S rfl (by decide) n_T_S f_27 rfl d_S_isReady_4 ?_
      refine lv_icmp_ge (tgt := 30) hx hb d_S_isReady_7 (by decide) (fun c_5 => ?_) (fun c_5 => ?_)
      · rw [if_pos c_5] at hj
        refine lv_aload_n hx hb d_S_isReady_30 rfl (lv_at hl 0 rfl) ?_
        refine gw_get (v := .int (M.2.1 0 2)) S hw xa_S rfl (by decide) n_T_S f_27 rfl d_S_isReady_31 ?_
        refine lv_if_le (tgt := 41) hx hb d_S_isReady_34 (by decide) (fun c_6 => ?_) (fun c_6 => ?_)
        · rw [if_pos c_6] at hj
          refine lv_iconst (v := 0) hx hb d_S_isReady_41 (by decide) ?_
          exact hend H locs ls 42 _ _ (Option.some.inj hj) rfl (Or.inl rfl) hw d_S_isReady_42
        · rw [if_neg c_6] at hj
          refine lv_iconst (v := 1) hx hb d_S_isReady_37 (by decide) ?_
          refine lv_goto (tgt := 42) hx hb d_S_isReady_38 (by decide) ?_
          exact hend H locs ls 42 _ _ (Option.some.inj hj) rfl (Or.inr rfl) hw d_S_isReady_42
      · rw [if_neg c_5] at hj
        refine lv_aload_n hx hb d_S_isReady_10 rfl (lv_at hl 0 rfl) ?_
        refine gw_get (v := .ref (ad 3)) S hw xa_S rfl (by decide) n_T_S f_17 rfl d_S_isReady_11 ?_
        refine lv_iload_n hx hb d_S_isReady_14 rfl (lv_at hl 1 rfl) ?_
        obtain ⟨g_7, hj⟩ := gw_if hj
        refine gw_aldq (t0 := 1) S hw ⟨xa_rk, rfl⟩ g_7 d_S_isReady_15 ?_
        refine gw_get (v := .int (M.1 0 (M.2.2.1 v1_2.toNatClampNeg) 6)) S hw (xa_T (M.2.2.1 v1_2.toNatClampNeg)) rfl (by decide) n_T_T f_53 rfl d_S_isReady_16 ?_
        refine lv_if_ne (tgt := 24) hx hb d_S_isReady_19 (by decide) (fun c_8 => ?_) (fun c_8 => ?_)
        · rw [if_neg c_8] at hj
          refine lv_iinc (v := (v1_2 + 1)) (lv' := [(1, .int (v1_2 + 1)), (0, .ref (ad 1))]) hx hb d_S_isReady_24 hl (k := 1) rfl rfl (by decide) rfl (fun ls hl => ?_)
          refine lv_goto (tgt := 2) hx hb d_S_isReady_27 (by decide) ?_
          exact ih2 (v1_2 + 1) hj H locs hw ls (lv_sub hl [1, 0] rfl)
        · rw [if_pos c_8] at hj
          refine lv_iconst (v := 0) hx hb d_S_isReady_22 (by decide) ?_
          exact hend H locs ls 23 _ _ (Option.some.inj hj) rfl (Or.inl rfl) hw d_S_isReady_23
  exact L2 n 0 hj H locs hw ls (lv_sub hl [1, 0] rfl)
abbrev rm_T_arrivalsBy : Room := { frames := 0, cells := 0, slots := 0, locals := 0 }
def ws_T_arrivalsBy : List Cond := Cond.code y_T_arrivalsBy b_T_arrivalsBy 2 (some .int) :: wB
set_option maxHeartbeats 4000000 in
set_option maxRecDepth 100000 in
theorem c_T_arrivalsBy {l : Launch} {D : va_G} {cI cT : ClassId} {ad : Nat → Nat} {n : Nat} {M : MX} {x0 : Fin 8} {a1 : Int32} {r0 : Int32} (hj : j_T_arrivalsBy n M x0 a1 = some r0) : gw_Ci l y_T_arrivalsBy ws_T_arrivalsBy rm_T_arrivalsBy D (tyX cI cT) (wX cI cT ad M) [.ref (ad (6 + x0.val)), .int a1] r0 (wX cI cT ad M) := by
  intro sz
  refine gw_meti (cc := b_T_arrivalsBy) (maxL := 2) (by decide) rfl (Nat.le_of_ble_eq_true rfl) ?_
  intro p e s m args below meth c A Q S H locs hw hend ls hl
  have S : CallFix p m c b_T_arrivalsBy 2 s args ws_T_arrivalsBy R_T := S
  have hx := S.1
  have hb := S.2.1
  have hts := S.2.2.2.2
  have hl : lv_has ls 2 [(0, .ref (ad (6 + x0.val))), (1, .int a1)] := hl
  have n_T_T : ∀ w ∈ u_ws R_T T_T 13, w ∈ ws_T_arrivalsBy := fun w h => List.mem_cons_of_mem _ (uT_T w h)
  have f_35 : Cond.fieldLink R_T 35 (T_T 3).1 (T_T 3).2.1 (T_T 3).2.2.1 ∈ ws_T_arrivalsBy := List.mem_cons_of_mem _ xw_5
  unfold j_T_arrivalsBy at hj
  refine lv_iload_n hx hb d_T_arrivalsBy_0 rfl (lv_at hl 1 rfl) ?_
  refine lv_if_lt (tgt := 12) hx hb d_T_arrivalsBy_1 (by decide) (fun c_1 => ?_) (fun c_1 => ?_)
  · rw [if_pos c_1] at hj
    refine lv_iconst (v := 0) hx hb d_T_arrivalsBy_12 (by decide) ?_
    refine lv_goto (tgt := 24) hx hb d_T_arrivalsBy_13 (by decide) ?_
    exact hend H locs ls 24 _ _ (Option.some.inj hj) rfl hw d_T_arrivalsBy_24
  · rw [if_neg c_1] at hj
    refine lv_aload_n hx hb d_T_arrivalsBy_4 rfl (lv_at hl 0 rfl) ?_
    refine gw_get (v := .int (M.1 0 x0 3)) S hw (xa_T x0) rfl (by decide) n_T_T f_35 rfl d_T_arrivalsBy_5 ?_
    refine lv_iconst (v := 1) hx hb d_T_arrivalsBy_8 (by decide) ?_
    refine lv_icmp_ge (tgt := 16) hx hb d_T_arrivalsBy_9 (by decide) (fun c_2 => ?_) (fun c_2 => ?_)
    · rw [if_pos c_2] at hj
      refine lv_iload_n hx hb d_T_arrivalsBy_16 rfl (lv_at hl 1 rfl) ?_
      refine lv_aload_n hx hb d_T_arrivalsBy_17 rfl (lv_at hl 0 rfl) ?_
      refine gw_get (v := .int (M.1 0 x0 3)) S hw (xa_T x0) rfl (by decide) n_T_T f_35 rfl d_T_arrivalsBy_18 ?_
      obtain ⟨g_3, hj⟩ := gw_if hj
      refine lv_idiv hx hb d_T_arrivalsBy_21 g_3 ?_
      refine lv_iconst (v := 1) hx hb d_T_arrivalsBy_22 (by decide) ?_
      refine lv_iadd hx hb d_T_arrivalsBy_23 ?_
      exact hend H locs ls 24 _ _ (Option.some.inj hj) rfl hw d_T_arrivalsBy_24
    · rw [if_neg c_2] at hj
      refine lv_iconst (v := 0) hx hb d_T_arrivalsBy_12 (by decide) ?_
      refine lv_goto (tgt := 24) hx hb d_T_arrivalsBy_13 (by decide) ?_
      exact hend H locs ls 24 _ _ (Option.some.inj hj) rfl hw d_T_arrivalsBy_24
end
section
abbrev rm_A_higherWorkBy : Room := { frames := 1, cells := 0, slots := 0, locals := 21 }
def ws_A_higherWorkBy : List Cond := Cond.code y_A_higherWorkBy b_A_higherWorkBy 6 (some .int) :: wB
set_option maxHeartbeats 4000000 in
set_option maxRecDepth 100000 in
theorem c_A_higherWorkBy {l : Launch} {D : va_G} {cI cT : ClassId} {ad : Nat → Nat} {n : Nat} {M : MX} {x1 : Fin 8} {a2 : Int32} {r0 : Int32} (hj : j_A_higherWorkBy n M x1 a2 = some r0) : gw_Ci l y_A_higherWorkBy ws_A_higherWorkBy rm_A_higherWorkBy D (tyX cI cT) (wX cI cT ad M) [.ref (ad 4), .ref (ad (6 + x1.val)), .int a2] r0 (wX cI cT ad M) := by
  intro sz
  refine gw_meti (cc := b_A_higherWorkBy) (maxL := 6) (by decide) rfl (Nat.le_of_ble_eq_true rfl) ?_
  intro p e s m args below meth c A Q S H locs hw hend ls hl
  have S : CallFix p m c b_A_higherWorkBy 6 s args ws_A_higherWorkBy R_A := S
  have hx := S.1
  have hb := S.2.1
  have hts := S.2.2.2.2
  have hl : lv_has ls 6 [(0, .ref (ad 4)), (1, .ref (ad (6 + x1.val))), (2, .int a2)] := hl
  have n_T_A : ∀ w ∈ u_ws R_A T_A 3, w ∈ ws_A_higherWorkBy := fun w h => List.mem_cons_of_mem _ (uT_A w h)
  have n_T_S : ∀ w ∈ u_ws R_S T_S 3, w ∈ ws_A_higherWorkBy := fun w h => List.mem_cons_of_mem _ (uT_S w h)
  have n_T_T : ∀ w ∈ u_ws R_T T_T 13, w ∈ ws_A_higherWorkBy := fun w h => List.mem_cons_of_mem _ (uT_T w h)
  have f_9 : Cond.fieldLink R_A 9 (T_A 0).1 (T_A 0).2.1 (T_A 0).2.2.1 ∈ ws_A_higherWorkBy := List.mem_cons_of_mem _ xw_115
  have f_46 : Cond.fieldLink R_A 46 (T_S 1).1 (T_S 1).2.1 (T_S 1).2.2.1 ∈ ws_A_higherWorkBy := List.mem_cons_of_mem _ xw_116
  have f_82 : Cond.fieldLink R_A 82 (T_T 7).1 (T_T 7).2.1 (T_T 7).2.2.1 ∈ ws_A_higherWorkBy := List.mem_cons_of_mem _ xw_117
  have f_118 : Cond.fieldLink R_A 118 (T_T 8).1 (T_T 8).2.1 (T_T 8).2.2.1 ∈ ws_A_higherWorkBy := List.mem_cons_of_mem _ xw_118
  have w_124 : CallW rm_A_higherWorkBy s args R_A R_T 124 y_T_arrivalsBy b_T_arrivalsBy 2 (some .int) ws_T_arrivalsBy rm_T_arrivalsBy 0 0 1 := cwV 1 hts (wB_callV (fun w h => List.mem_cons_of_mem _ h) xw_119 xw_120 xw_121 xw_122 xw_21) rfl rfl rfl (by decide +kernel) ⟨Nat.le_of_ble_eq_true rfl, Nat.le_of_ble_eq_true rfl⟩
  unfold j_A_higherWorkBy at hj
  refine lv_iconst (v := 0) hx hb d_A_higherWorkBy_0 (by decide) ?_
  refine lv_istore_n (lv' := [(3, .int 0), (0, .ref (ad 4)), (1, .ref (ad (6 + x1.val))), (2, .int a2)]) hx hb d_A_higherWorkBy_1 rfl hl (by decide) rfl (fun ls hl => ?_)
  refine lv_iconst (v := 0) hx hb d_A_higherWorkBy_2 (by decide) ?_
  refine lv_istore (lv' := [(4, .int 0), (3, .int 0), (0, .ref (ad 4)), (1, .ref (ad (6 + x1.val))), (2, .int a2)]) hx hb d_A_higherWorkBy_3 hl (by decide) rfl (fun ls hl => ?_)
  have L5 : ∀ (f5 : Nat) (v3_5 : Int32) (v4_5 : Int32), j_A_higherWorkBy_L5 n M x1 a2 f5 v3_5 v4_5 = some r0 → ∀ (H : Heap) (locs : List Loc), gw_W D (tyX cI cT) A (wX cI cT ad M) s H locs → ∀ ls : Array Slot, lv_has ls 6 [(0, .ref (ad 4)), (1, .ref (ad (6 + x1.val))), (2, .int a2), (3, .int v3_5), (4, .int v4_5)] → W p l e rm_A_higherWorkBy s m args below meth c H locs 0 0 Q (F0 m 5 ls []) := by
    intro f5
    induction f5 with
    | zero =>
      intro v3_5 v4_5 hj
      exact nomatch (show (none : Option Int32) = some r0 from hj)
    | succ f5 ih5 =>
      intro v3_5 v4_5 hj H locs hw ls hl
      rw [j_A_higherWorkBy_L5] at hj
      refine lv_iload hx hb d_A_higherWorkBy_5 (lv_at hl 4 rfl) ?_
      refine lv_aload_n hx hb d_A_higherWorkBy_7 rfl (lv_at hl 1 rfl) ?_
      refine gw_get (v := .int (M.1 0 x1 8)) S hw (xa_T x1) rfl (by decide) n_T_T f_118 rfl d_A_higherWorkBy_8 ?_
      refine lv_icmp_ge (tgt := 47) hx hb d_A_higherWorkBy_11 (by decide) (fun c_5 => ?_) (fun c_5 => ?_)
      · rw [if_pos c_5] at hj
        refine lv_iload_n hx hb d_A_higherWorkBy_47 rfl (lv_at hl 3 rfl) ?_
        exact hend H locs ls 48 _ _ (Option.some.inj hj) rfl hw d_A_higherWorkBy_48
      · rw [if_neg c_5] at hj
        refine lv_aload_n hx hb d_A_higherWorkBy_14 rfl (lv_at hl 0 rfl) ?_
        refine gw_get (v := .ref (ad 1)) S hw xa_A rfl (by decide) n_T_A f_9 rfl d_A_higherWorkBy_15 ?_
        refine gw_get (v := .ref (ad 3)) S hw xa_S rfl (by decide) n_T_S f_46 rfl d_A_higherWorkBy_18 ?_
        refine lv_iload hx hb d_A_higherWorkBy_21 (lv_at hl 4 rfl) ?_
        obtain ⟨g_6, hj⟩ := gw_if hj
        refine gw_aldq (t0 := 1) S hw ⟨xa_rk, rfl⟩ g_6 d_A_higherWorkBy_23 ?_
        refine lv_astore (lv' := [(5, .ref (ad (6 + (M.2.2.1 v4_5.toNatClampNeg).val))), (0, .ref (ad 4)), (1, .ref (ad (6 + x1.val))), (2, .int a2), (3, .int v3_5), (4, .int v4_5)]) hx hb d_A_higherWorkBy_24 hl (by decide) rfl (fun ls hl => ?_)
        refine lv_iload_n hx hb d_A_higherWorkBy_26 rfl (lv_at hl 4 rfl) ?_
        refine lv_aload hx hb d_A_higherWorkBy_27 (lv_at hl 0 rfl) ?_
        refine lv_iload_n hx hb d_A_higherWorkBy_29 rfl (lv_at hl 3 rfl) ?_
        obtain ⟨r_8, e_7, hj⟩ := Option.bind_eq_some_iff.mp hj
        refine gw_calli (As := [.int a2]) (rest := [.int v3_5]) S hw (c_T_arrivalsBy e_7) w_124 (xa_T (M.2.2.1 v4_5.toNatClampNeg)) rfl rfl hl.1 rfl (Nat.le_of_ble_eq_true rfl) d_A_higherWorkBy_30 (fun H locs hw => ?_)
        refine lv_aload hx hb d_A_higherWorkBy_33 (lv_at hl 0 rfl) ?_
        refine gw_get (v := .int (M.1 0 (M.2.2.1 v4_5.toNatClampNeg) 7)) S hw (xa_T (M.2.2.1 v4_5.toNatClampNeg)) rfl (by decide) n_T_T f_82 rfl d_A_higherWorkBy_35 ?_
        refine lv_imul hx hb d_A_higherWorkBy_38 ?_
        refine lv_iadd hx hb d_A_higherWorkBy_39 ?_
        refine lv_istore_n (lv' := [(3, .int (v3_5 + (r_8 * (M.1 0 (M.2.2.1 v4_5.toNatClampNeg) 7)))), (5, .ref (ad (6 + (M.2.2.1 v4_5.toNatClampNeg).val))), (0, .ref (ad 4)), (1, .ref (ad (6 + x1.val))), (2, .int a2), (4, .int v4_5)]) hx hb d_A_higherWorkBy_40 rfl hl (by decide) rfl (fun ls hl => ?_)
        refine lv_iinc (v := (v4_5 + 1)) (lv' := [(4, .int (v4_5 + 1)), (3, .int (v3_5 + (r_8 * (M.1 0 (M.2.2.1 v4_5.toNatClampNeg) 7)))), (5, .ref (ad (6 + (M.2.2.1 v4_5.toNatClampNeg).val))), (0, .ref (ad 4)), (1, .ref (ad (6 + x1.val))), (2, .int a2)]) hx hb d_A_higherWorkBy_41 hl (k := 5) rfl rfl (by decide) rfl (fun ls hl => ?_)
        refine lv_goto (tgt := 5) hx hb d_A_higherWorkBy_44 (by decide) ?_
        exact ih5 (v3_5 + (r_8 * (M.1 0 (M.2.2.1 v4_5.toNatClampNeg) 7))) (v4_5 + 1) hj H locs hw ls (lv_sub hl [3, 4, 5, 1, 0] rfl)
  exact L5 n 0 0 hj H locs hw ls (lv_sub hl [2, 3, 4, 1, 0] rfl)
abbrev rm_A_busyWith : Room := { frames := 2, cells := 0, slots := 0, locals := 46 }
def ws_A_busyWith : List Cond := Cond.code y_A_busyWith b_A_busyWith 6 (some .int) :: wB
set_option maxHeartbeats 4000000 in
set_option maxRecDepth 100000 in
theorem c_A_busyWith {l : Launch} {D : va_G} {cI cT : ClassId} {ad : Nat → Nat} {n : Nat} {M : MX} {x1 : Fin 8} {a2 : Int32} {r0 : Int32} (hj : j_A_busyWith n M x1 a2 = some r0) : gw_Ci l y_A_busyWith ws_A_busyWith rm_A_busyWith D (tyX cI cT) (wX cI cT ad M) [.ref (ad 4), .ref (ad (6 + x1.val)), .int a2] r0 (wX cI cT ad M) := by
  intro sz
  refine gw_meti (cc := b_A_busyWith) (maxL := 6) (by decide) rfl (Nat.le_of_ble_eq_true rfl) ?_
  intro p e s m args below meth c A Q S H locs hw hend ls hl
  have S : CallFix p m c b_A_busyWith 6 s args ws_A_busyWith R_A := S
  have hx := S.1
  have hb := S.2.1
  have hts := S.2.2.2.2
  have hl : lv_has ls 6 [(0, .ref (ad 4)), (1, .ref (ad (6 + x1.val))), (2, .int a2)] := hl
  have n_T_T : ∀ w ∈ u_ws R_T T_T 13, w ∈ ws_A_busyWith := fun w h => List.mem_cons_of_mem _ (uT_T w h)
  have f_82 : Cond.fieldLink R_A 82 (T_T 7).1 (T_T 7).2.1 (T_T 7).2.2.1 ∈ ws_A_busyWith := List.mem_cons_of_mem _ xw_117
  have w_124 : CallW rm_A_busyWith s args R_A R_T 124 y_T_arrivalsBy b_T_arrivalsBy 2 (some .int) ws_T_arrivalsBy rm_T_arrivalsBy 0 0 1 := cwV 1 hts (wB_callV (fun w h => List.mem_cons_of_mem _ h) xw_119 xw_120 xw_121 xw_122 xw_21) rfl rfl rfl (by decide +kernel) ⟨Nat.le_of_ble_eq_true rfl, Nat.le_of_ble_eq_true rfl⟩
  have w_136 : CallW rm_A_busyWith s args R_A R_A 136 y_A_higherWorkBy b_A_higherWorkBy 6 (some .int) ws_A_higherWorkBy rm_A_higherWorkBy 0 0 2 := cwV 2 hts (wB_callV (fun w h => List.mem_cons_of_mem _ h) xw_123 xw_124 xw_125 xw_126 xw_127) rfl rfl rfl (by decide +kernel) ⟨Nat.le_of_ble_eq_true rfl, Nat.le_of_ble_eq_true rfl⟩
  unfold j_A_busyWith at hj
  refine lv_iload_n hx hb d_A_busyWith_0 rfl (lv_at hl 2 rfl) ?_
  refine lv_iconst (v := 1) hx hb d_A_busyWith_1 (by decide) ?_
  refine lv_iadd hx hb d_A_busyWith_2 ?_
  refine lv_istore_n (lv' := [(3, .int (a2 + 1)), (0, .ref (ad 4)), (1, .ref (ad (6 + x1.val))), (2, .int a2)]) hx hb d_A_busyWith_3 rfl hl (by decide) rfl (fun ls hl => ?_)
  refine lv_iconst (v := 0) hx hb d_A_busyWith_4 (by decide) ?_
  refine lv_istore (lv' := [(4, .int 0), (3, .int (a2 + 1)), (0, .ref (ad 4)), (1, .ref (ad (6 + x1.val))), (2, .int a2)]) hx hb d_A_busyWith_5 hl (by decide) rfl (fun ls hl => ?_)
  have L7 : ∀ (f7 : Nat) (v3_7 : Int32) (v4_7 : Int32), j_A_busyWith_L7 n M x1 a2 f7 v3_7 v4_7 = some r0 → ∀ (H : Heap) (locs : List Loc), gw_W D (tyX cI cT) A (wX cI cT ad M) s H locs → ∀ ls : Array Slot, lv_has ls 6 [(0, .ref (ad 4)), (1, .ref (ad (6 + x1.val))), (2, .int a2), (3, .int v3_7), (4, .int v4_7)] → W p l e rm_A_busyWith s m args below meth c H locs 0 0 Q (F0 m 7 ls []) := by
    intro f7
    induction f7 with
    | zero =>
      intro v3_7 v4_7 hj
      exact nomatch (show (none : Option Int32) = some r0 from hj)
    | succ f7 ih7 =>
      intro v3_7 v4_7 hj H locs hw ls hl
      rw [j_A_busyWith_L7] at hj
      refine lv_iload hx hb d_A_busyWith_7 (lv_at hl 4 rfl) ?_
      refine lv_sipush (v := 20000) hx hb d_A_busyWith_9 (by decide) ?_
      refine lv_icmp_gt (tgt := 64) hx hb d_A_busyWith_12 (by decide) (fun c_8 => ?_) (fun c_8 => ?_)
      · rw [if_pos c_8] at hj
        refine lv_sipush (v := 20001) hx hb d_A_busyWith_64 (by decide) ?_
        exact hend H locs ls 67 _ _ (Option.some.inj hj) rfl hw d_A_busyWith_67
      · rw [if_neg c_8] at hj
        refine lv_iload_n hx hb d_A_busyWith_15 rfl (lv_at hl 3 rfl) ?_
        refine lv_sipush (v := 20000) hx hb d_A_busyWith_16 (by decide) ?_
        refine lv_icmp_gt (tgt := 64) hx hb d_A_busyWith_19 (by decide) (fun c_9 => ?_) (fun c_9 => ?_)
        · rw [if_pos c_9] at hj
          refine lv_sipush (v := 20001) hx hb d_A_busyWith_64 (by decide) ?_
          exact hend H locs ls 67 _ _ (Option.some.inj hj) rfl hw d_A_busyWith_67
        · rw [if_neg c_9] at hj
          refine lv_iload_n hx hb d_A_busyWith_22 rfl (lv_at hl 2 rfl) ?_
          refine lv_aload_n hx hb d_A_busyWith_23 rfl (lv_at hl 1 rfl) ?_
          refine lv_iload_n hx hb d_A_busyWith_24 rfl (lv_at hl 3 rfl) ?_
          refine lv_iconst (v := 1) hx hb d_A_busyWith_25 (by decide) ?_
          refine lv_isub hx hb d_A_busyWith_26 ?_
          obtain ⟨r_11, e_10, hj⟩ := Option.bind_eq_some_iff.mp hj
          refine gw_calli (As := [.int (v3_7 - 1)]) (rest := [.int a2]) S hw (c_T_arrivalsBy e_10) w_124 (xa_T x1) rfl rfl hl.1 rfl (Nat.le_of_ble_eq_true rfl) d_A_busyWith_27 (fun H locs hw => ?_)
          refine lv_aload_n hx hb d_A_busyWith_30 rfl (lv_at hl 1 rfl) ?_
          refine gw_get (v := .int (M.1 0 x1 7)) S hw (xa_T x1) rfl (by decide) n_T_T f_82 rfl d_A_busyWith_31 ?_
          refine lv_imul hx hb d_A_busyWith_34 ?_
          refine lv_iadd hx hb d_A_busyWith_35 ?_
          refine lv_aload_n hx hb d_A_busyWith_36 rfl (lv_at hl 0 rfl) ?_
          refine lv_aload_n hx hb d_A_busyWith_37 rfl (lv_at hl 1 rfl) ?_
          refine lv_iload_n hx hb d_A_busyWith_38 rfl (lv_at hl 3 rfl) ?_
          refine lv_iconst (v := 1) hx hb d_A_busyWith_39 (by decide) ?_
          refine lv_isub hx hb d_A_busyWith_40 ?_
          obtain ⟨r_13, e_12, hj⟩ := Option.bind_eq_some_iff.mp hj
          refine gw_calli (As := [.ref (ad (6 + x1.val)), .int (v3_7 - 1)]) (rest := [.int (a2 + (r_11 * (M.1 0 x1 7)))]) S hw (c_A_higherWorkBy e_12) w_136 xa_A rfl rfl hl.1 rfl (Nat.le_of_ble_eq_true rfl) d_A_busyWith_41 (fun H locs hw => ?_)
          refine lv_iadd hx hb d_A_busyWith_44 ?_
          refine lv_istore (lv' := [(5, .int ((a2 + (r_11 * (M.1 0 x1 7))) + r_13)), (0, .ref (ad 4)), (1, .ref (ad (6 + x1.val))), (2, .int a2), (3, .int v3_7), (4, .int v4_7)]) hx hb d_A_busyWith_45 hl (by decide) rfl (fun ls hl => ?_)
          refine lv_iload hx hb d_A_busyWith_47 (lv_at hl 0 rfl) ?_
          refine lv_iload_n hx hb d_A_busyWith_49 rfl (lv_at hl 4 rfl) ?_
          refine lv_icmp_gt (tgt := 55) hx hb d_A_busyWith_50 (by decide) (fun c_14 => ?_) (fun c_14 => ?_)
          · rw [if_pos c_14] at hj
            refine lv_iload hx hb d_A_busyWith_55 (lv_at hl 0 rfl) ?_
            refine lv_istore_n (lv' := [(3, .int ((a2 + (r_11 * (M.1 0 x1 7))) + r_13)), (5, .int ((a2 + (r_11 * (M.1 0 x1 7))) + r_13)), (0, .ref (ad 4)), (1, .ref (ad (6 + x1.val))), (2, .int a2), (4, .int v4_7)]) hx hb d_A_busyWith_57 rfl hl (by decide) rfl (fun ls hl => ?_)
            refine lv_iinc (v := (v4_7 + 1)) (lv' := [(4, .int (v4_7 + 1)), (3, .int ((a2 + (r_11 * (M.1 0 x1 7))) + r_13)), (5, .int ((a2 + (r_11 * (M.1 0 x1 7))) + r_13)), (0, .ref (ad 4)), (1, .ref (ad (6 + x1.val))), (2, .int a2)]) hx hb d_A_busyWith_58 hl (k := 5) rfl rfl (by decide) rfl (fun ls hl => ?_)
            refine lv_goto (tgt := 7) hx hb d_A_busyWith_61 (by decide) ?_
            exact ih7 ((a2 + (r_11 * (M.1 0 x1 7))) + r_13) (v4_7 + 1) hj H locs hw ls (lv_sub hl [3, 4, 5, 1, 0] rfl)
          · rw [if_neg c_14] at hj
            refine lv_iload_n hx hb d_A_busyWith_53 rfl (lv_at hl 4 rfl) ?_
            exact hend H locs ls 54 _ _ (Option.some.inj hj) rfl hw d_A_busyWith_54
  exact L7 n (a2 + 1) 0 hj H locs hw ls (lv_sub hl [2, 3, 4, 1, 0] rfl)
abbrev rm_T_lastSegment : Room := { frames := 0, cells := 0, slots := 0, locals := 0 }
def ws_T_lastSegment : List Cond := Cond.code y_T_lastSegment b_T_lastSegment 1 (some .int) :: wB
set_option maxHeartbeats 4000000 in
set_option maxRecDepth 100000 in
theorem c_T_lastSegment {l : Launch} {D : va_G} {cI cT : ClassId} {ad : Nat → Nat} {n : Nat} {M : MX} {x0 : Fin 8} {r0 : Int32} (hj : j_T_lastSegment n M x0 = some r0) : gw_Ci l y_T_lastSegment ws_T_lastSegment rm_T_lastSegment D (tyX cI cT) (wX cI cT ad M) [.ref (ad (6 + x0.val))] r0 (wX cI cT ad M) := by
  intro sz
  refine gw_meti (cc := b_T_lastSegment) (maxL := 1) (by decide) rfl (Nat.le_of_ble_eq_true rfl) ?_
  intro p e s m args below meth c A Q S H locs hw hend ls hl
  have S : CallFix p m c b_T_lastSegment 1 s args ws_T_lastSegment R_T := S
  have hx := S.1
  have hb := S.2.1
  have hts := S.2.2.2.2
  have hl : lv_has ls 1 [(0, .ref (ad (6 + x0.val)))] := hl
  have n_T_T : ∀ w ∈ u_ws R_T T_T 13, w ∈ ws_T_lastSegment := fun w h => List.mem_cons_of_mem _ (uT_T w h)
  have f_18 : Cond.fieldLink R_T 18 (T_T 2).1 (T_T 2).2.1 (T_T 2).2.2.1 ∈ ws_T_lastSegment := List.mem_cons_of_mem _ xw_49
  have f_44 : Cond.fieldLink R_T 44 (T_T 6).1 (T_T 6).2.1 (T_T 6).2.2.1 ∈ ws_T_lastSegment := List.mem_cons_of_mem _ xw_8
  unfold j_T_lastSegment at hj
  refine lv_aload_n hx hb d_T_lastSegment_0 rfl (lv_at hl 0 rfl) ?_
  refine gw_get (v := .int (M.1 0 x0 6)) S hw (xa_T x0) rfl (by decide) n_T_T f_44 rfl d_T_lastSegment_1 ?_
  refine lv_iconst (v := 1) hx hb d_T_lastSegment_4 (by decide) ?_
  refine lv_icmp_ge (tgt := 12) hx hb d_T_lastSegment_5 (by decide) (fun c_1 => ?_) (fun c_1 => ?_)
  · rw [if_pos c_1] at hj
    refine lv_aload_n hx hb d_T_lastSegment_12 rfl (lv_at hl 0 rfl) ?_
    refine gw_get (v := .ref (ad (22 + x0.val))) S hw (xa_T x0) rfl (by decide) n_T_T f_18 rfl d_T_lastSegment_13 ?_
    refine lv_aload_n hx hb d_T_lastSegment_16 rfl (lv_at hl 0 rfl) ?_
    refine gw_get (v := .int (M.1 0 x0 6)) S hw (xa_T x0) rfl (by decide) n_T_T f_44 rfl d_T_lastSegment_17 ?_
    refine lv_iconst (v := 1) hx hb d_T_lastSegment_20 (by decide) ?_
    refine lv_isub hx hb d_T_lastSegment_21 ?_
    obtain ⟨g_2, hj⟩ := gw_if hj
    refine gw_iald (t0 := 0) S hw ⟨xa_sg x0, rfl⟩ g_2 d_T_lastSegment_22 ?_
    exact hend H locs ls 23 _ _ (Option.some.inj hj) rfl hw d_T_lastSegment_23
  · rw [if_neg c_1] at hj
    refine lv_iconst (v := 0) hx hb d_T_lastSegment_8 (by decide) ?_
    refine lv_goto (tgt := 23) hx hb d_T_lastSegment_9 (by decide) ?_
    exact hend H locs ls 23 _ _ (Option.some.inj hj) rfl hw d_T_lastSegment_23
abbrev rm_A_lastBegin : Room := { frames := 2, cells := 0, slots := 0, locals := 46 }
def ws_A_lastBegin : List Cond := Cond.code y_A_lastBegin b_A_lastBegin 9 (some .int) :: wB
set_option maxHeartbeats 4000000 in
set_option maxRecDepth 100000 in
theorem c_A_lastBegin {l : Launch} {D : va_G} {cI cT : ClassId} {ad : Nat → Nat} {n : Nat} {M : MX} {x1 : Fin 8} {a2 : Int32} {a3 : Int32} {a4 : Int32} {r0 : Int32} (hj : j_A_lastBegin n M x1 a2 a3 a4 = some r0) : gw_Ci l y_A_lastBegin ws_A_lastBegin rm_A_lastBegin D (tyX cI cT) (wX cI cT ad M) [.ref (ad 4), .ref (ad (6 + x1.val)), .int a2, .int a3, .int a4] r0 (wX cI cT ad M) := by
  intro sz
  refine gw_meti (cc := b_A_lastBegin) (maxL := 9) (by decide) rfl (Nat.le_of_ble_eq_true rfl) ?_
  intro p e s m args below meth c A Q S H locs hw hend ls hl
  have S : CallFix p m c b_A_lastBegin 9 s args ws_A_lastBegin R_A := S
  have hx := S.1
  have hb := S.2.1
  have hts := S.2.2.2.2
  have hl : lv_has ls 9 [(0, .ref (ad 4)), (1, .ref (ad (6 + x1.val))), (2, .int a2), (3, .int a3), (4, .int a4)] := hl
  have n_T_T : ∀ w ∈ u_ws R_T T_T 13, w ∈ ws_A_lastBegin := fun w h => List.mem_cons_of_mem _ (uT_T w h)
  have f_82 : Cond.fieldLink R_A 82 (T_T 7).1 (T_T 7).2.1 (T_T 7).2.2.1 ∈ ws_A_lastBegin := List.mem_cons_of_mem _ xw_117
  have w_68 : CallW rm_A_lastBegin s args R_A R_T 68 y_T_lastSegment b_T_lastSegment 1 (some .int) ws_T_lastSegment rm_T_lastSegment 0 0 0 := cwV 0 hts (wB_callV (fun w h => List.mem_cons_of_mem _ h) xw_128 xw_129 xw_130 xw_131 xw_21) rfl rfl rfl (by decide +kernel) ⟨Nat.le_of_ble_eq_true rfl, Nat.le_of_ble_eq_true rfl⟩
  have w_136 : CallW rm_A_lastBegin s args R_A R_A 136 y_A_higherWorkBy b_A_higherWorkBy 6 (some .int) ws_A_higherWorkBy rm_A_higherWorkBy 0 0 2 := cwV 2 hts (wB_callV (fun w h => List.mem_cons_of_mem _ h) xw_123 xw_124 xw_125 xw_126 xw_127) rfl rfl rfl (by decide +kernel) ⟨Nat.le_of_ble_eq_true rfl, Nat.le_of_ble_eq_true rfl⟩
  unfold j_A_lastBegin at hj
  refine lv_iload_n hx hb d_A_lastBegin_0 rfl (lv_at hl 2 rfl) ?_
  refine lv_iload_n hx hb d_A_lastBegin_1 rfl (lv_at hl 3 rfl) ?_
  refine lv_iconst (v := 1) hx hb d_A_lastBegin_2 (by decide) ?_
  refine lv_iadd hx hb d_A_lastBegin_3 ?_
  refine lv_aload_n hx hb d_A_lastBegin_4 rfl (lv_at hl 1 rfl) ?_
  refine gw_get (v := .int (M.1 0 x1 7)) S hw (xa_T x1) rfl (by decide) n_T_T f_82 rfl d_A_lastBegin_5 ?_
  refine lv_imul hx hb d_A_lastBegin_8 ?_
  refine lv_iadd hx hb d_A_lastBegin_9 ?_
  refine lv_aload_n hx hb d_A_lastBegin_10 rfl (lv_at hl 1 rfl) ?_
  obtain ⟨r_2, e_1, hj⟩ := Option.bind_eq_some_iff.mp hj
  refine gw_calli (As := []) (rest := [.int (a2 + ((a3 + 1) * (M.1 0 x1 7)))]) S hw (c_T_lastSegment e_1) w_68 (xa_T x1) rfl rfl hl.1 rfl (Nat.le_of_ble_eq_true rfl) d_A_lastBegin_11 (fun H locs hw => ?_)
  refine lv_isub hx hb d_A_lastBegin_14 ?_
  refine lv_istore (lv' := [(5, .int ((a2 + ((a3 + 1) * (M.1 0 x1 7))) - r_2)), (0, .ref (ad 4)), (1, .ref (ad (6 + x1.val))), (2, .int a2), (3, .int a3), (4, .int a4)]) hx hb d_A_lastBegin_15 hl (by decide) rfl (fun ls hl => ?_)
  refine lv_iload hx hb d_A_lastBegin_17 (lv_at hl 5 rfl) ?_
  refine lv_istore (lv' := [(6, .int a4), (5, .int ((a2 + ((a3 + 1) * (M.1 0 x1 7))) - r_2)), (0, .ref (ad 4)), (1, .ref (ad (6 + x1.val))), (2, .int a2), (3, .int a3), (4, .int a4)]) hx hb d_A_lastBegin_19 hl (by decide) rfl (fun ls hl => ?_)
  refine lv_iconst (v := 0) hx hb d_A_lastBegin_21 (by decide) ?_
  refine lv_istore (lv' := [(7, .int 0), (6, .int a4), (5, .int ((a2 + ((a3 + 1) * (M.1 0 x1 7))) - r_2)), (0, .ref (ad 4)), (1, .ref (ad (6 + x1.val))), (2, .int a2), (3, .int a3), (4, .int a4)]) hx hb d_A_lastBegin_22 hl (by decide) rfl (fun ls hl => ?_)
  have L24 : ∀ (f24 : Nat) (v6_24 : Int32) (v7_24 : Int32), j_A_lastBegin_L24 n M x1 a2 a3 a4 ((a2 + ((a3 + 1) * (M.1 0 x1 7))) - r_2) f24 v6_24 v7_24 = some r0 → ∀ (H : Heap) (locs : List Loc), gw_W D (tyX cI cT) A (wX cI cT ad M) s H locs → ∀ ls : Array Slot, lv_has ls 9 [(0, .ref (ad 4)), (1, .ref (ad (6 + x1.val))), (2, .int a2), (3, .int a3), (4, .int a4), (5, .int ((a2 + ((a3 + 1) * (M.1 0 x1 7))) - r_2)), (6, .int v6_24), (7, .int v7_24)] → W p l e rm_A_lastBegin s m args below meth c H locs 0 0 Q (F0 m 24 ls []) := by
    intro f24
    induction f24 with
    | zero =>
      intro v6_24 v7_24 hj
      exact nomatch (show (none : Option Int32) = some r0 from hj)
    | succ f24 ih24 =>
      intro v6_24 v7_24 hj H locs hw ls hl
      rw [j_A_lastBegin_L24] at hj
      refine lv_iload hx hb d_A_lastBegin_24 (lv_at hl 7 rfl) ?_
      refine lv_sipush (v := 20000) hx hb d_A_lastBegin_26 (by decide) ?_
      refine lv_icmp_gt (tgt := 64) hx hb d_A_lastBegin_29 (by decide) (fun c_7 => ?_) (fun c_7 => ?_)
      · rw [if_pos c_7] at hj
        refine lv_iload hx hb d_A_lastBegin_64 (lv_at hl 6 rfl) ?_
        exact hend H locs ls 66 _ _ (Option.some.inj hj) rfl hw d_A_lastBegin_66
      · rw [if_neg c_7] at hj
        refine lv_iload hx hb d_A_lastBegin_32 (lv_at hl 5 rfl) ?_
        refine lv_aload_n hx hb d_A_lastBegin_34 rfl (lv_at hl 0 rfl) ?_
        refine lv_aload_n hx hb d_A_lastBegin_35 rfl (lv_at hl 1 rfl) ?_
        refine lv_iload hx hb d_A_lastBegin_36 (lv_at hl 6 rfl) ?_
        obtain ⟨r_9, e_8, hj⟩ := Option.bind_eq_some_iff.mp hj
        refine gw_calli (As := [.ref (ad (6 + x1.val)), .int v6_24]) (rest := [.int ((a2 + ((a3 + 1) * (M.1 0 x1 7))) - r_2)]) S hw (c_A_higherWorkBy e_8) w_136 xa_A rfl rfl hl.1 rfl (Nat.le_of_ble_eq_true rfl) d_A_lastBegin_38 (fun H locs hw => ?_)
        refine lv_iadd hx hb d_A_lastBegin_41 ?_
        refine lv_istore (lv' := [(8, .int (((a2 + ((a3 + 1) * (M.1 0 x1 7))) - r_2) + r_9)), (0, .ref (ad 4)), (1, .ref (ad (6 + x1.val))), (2, .int a2), (3, .int a3), (4, .int a4), (5, .int ((a2 + ((a3 + 1) * (M.1 0 x1 7))) - r_2)), (6, .int v6_24), (7, .int v7_24)]) hx hb d_A_lastBegin_42 hl (by decide) rfl (fun ls hl => ?_)
        refine lv_iload hx hb d_A_lastBegin_44 (lv_at hl 0 rfl) ?_
        refine lv_iload hx hb d_A_lastBegin_46 (lv_at hl 7 rfl) ?_
        refine lv_icmp_gt (tgt := 54) hx hb d_A_lastBegin_48 (by decide) (fun c_10 => ?_) (fun c_10 => ?_)
        · rw [if_pos c_10] at hj
          refine lv_iload hx hb d_A_lastBegin_54 (lv_at hl 0 rfl) ?_
          refine lv_istore (lv' := [(6, .int (((a2 + ((a3 + 1) * (M.1 0 x1 7))) - r_2) + r_9)), (8, .int (((a2 + ((a3 + 1) * (M.1 0 x1 7))) - r_2) + r_9)), (0, .ref (ad 4)), (1, .ref (ad (6 + x1.val))), (2, .int a2), (3, .int a3), (4, .int a4), (5, .int ((a2 + ((a3 + 1) * (M.1 0 x1 7))) - r_2)), (7, .int v7_24)]) hx hb d_A_lastBegin_56 hl (by decide) rfl (fun ls hl => ?_)
          refine lv_iinc (v := (v7_24 + 1)) (lv' := [(7, .int (v7_24 + 1)), (6, .int (((a2 + ((a3 + 1) * (M.1 0 x1 7))) - r_2) + r_9)), (8, .int (((a2 + ((a3 + 1) * (M.1 0 x1 7))) - r_2) + r_9)), (0, .ref (ad 4)), (1, .ref (ad (6 + x1.val))), (2, .int a2), (3, .int a3), (4, .int a4), (5, .int ((a2 + ((a3 + 1) * (M.1 0 x1 7))) - r_2))]) hx hb d_A_lastBegin_58 hl (k := 8) rfl rfl (by decide) rfl (fun ls hl => ?_)
          refine lv_goto (tgt := 24) hx hb d_A_lastBegin_61 (by decide) ?_
          exact ih24 (((a2 + ((a3 + 1) * (M.1 0 x1 7))) - r_2) + r_9) (v7_24 + 1) hj H locs hw ls (lv_sub hl [3, 4, 5, 6, 7, 8, 1, 0] rfl)
        · rw [if_neg c_10] at hj
          refine lv_iload hx hb d_A_lastBegin_51 (lv_at hl 7 rfl) ?_
          exact hend H locs ls 53 _ _ (Option.some.inj hj) rfl hw d_A_lastBegin_53
  exact L24 n a4 0 hj H locs hw ls (lv_sub hl [3, 4, 5, 6, 7, 2, 1, 0] rfl)
abbrev rm_A_greatestWith : Room := { frames := 3, cells := 0, slots := 0, locals := 74 }
def ws_A_greatestWith : List Cond := Cond.code y_A_greatestWith b_A_greatestWith 8 (some .int) :: wB
set_option maxHeartbeats 4000000 in
set_option maxRecDepth 100000 in
theorem c_A_greatestWith {l : Launch} {D : va_G} {cI cT : ClassId} {ad : Nat → Nat} {n : Nat} {M : MX} {x1 : Fin 8} {a2 : Int32} {r0 : Int32} {M0 : MX} (hj : j_A_greatestWith n M x1 a2 = some (r0, M0)) : gw_Ci l y_A_greatestWith ws_A_greatestWith rm_A_greatestWith D (tyX cI cT) (wX cI cT ad M) [.ref (ad 4), .ref (ad (6 + x1.val)), .int a2] r0 (wX cI cT ad M0) := by
  intro sz
  refine gw_meti (cc := b_A_greatestWith) (maxL := 8) (by decide) rfl (Nat.le_of_ble_eq_true rfl) ?_
  intro p e s m args below meth c A Q S H locs hw hend ls hl
  have S : CallFix p m c b_A_greatestWith 8 s args ws_A_greatestWith R_A := S
  have hx := S.1
  have hb := S.2.1
  have hts := S.2.2.2.2
  have hl : lv_has ls 8 [(0, .ref (ad 4)), (1, .ref (ad (6 + x1.val))), (2, .int a2)] := hl
  have n_T_A : ∀ w ∈ u_ws R_A T_A 3, w ∈ ws_A_greatestWith := fun w h => List.mem_cons_of_mem _ (uT_A w h)
  have n_T_T : ∀ w ∈ u_ws R_T T_T 13, w ∈ ws_A_greatestWith := fun w h => List.mem_cons_of_mem _ (uT_T w h)
  have f_31 : Cond.fieldLink R_A 31 (T_A 1).1 (T_A 1).2.1 (T_A 1).2.2.1 ∈ ws_A_greatestWith := List.mem_cons_of_mem _ xw_132
  have f_37 : Cond.fieldLink R_A 37 (T_A 2).1 (T_A 2).2.1 (T_A 2).2.2.1 ∈ ws_A_greatestWith := List.mem_cons_of_mem _ xw_133
  have f_72 : Cond.fieldLink R_A 72 (T_T 3).1 (T_T 3).2.1 (T_T 3).2.2.1 ∈ ws_A_greatestWith := List.mem_cons_of_mem _ xw_134
  have k_81 := hts _ (List.mem_cons_of_mem _ xw_135)
  have w_64 : CallW rm_A_greatestWith s args R_A R_A 64 y_A_lastBegin b_A_lastBegin 9 (some .int) ws_A_lastBegin rm_A_lastBegin 0 0 4 := cwV 4 hts (wB_callV (fun w h => List.mem_cons_of_mem _ h) xw_136 xw_137 xw_138 xw_139 xw_127) rfl rfl rfl (by decide +kernel) ⟨Nat.le_of_ble_eq_true rfl, Nat.le_of_ble_eq_true rfl⟩
  have w_68 : CallW rm_A_greatestWith s args R_A R_T 68 y_T_lastSegment b_T_lastSegment 1 (some .int) ws_T_lastSegment rm_T_lastSegment 0 0 0 := cwV 0 hts (wB_callV (fun w h => List.mem_cons_of_mem _ h) xw_128 xw_129 xw_130 xw_131 xw_21) rfl rfl rfl (by decide +kernel) ⟨Nat.le_of_ble_eq_true rfl, Nat.le_of_ble_eq_true rfl⟩
  have w_124 : CallW rm_A_greatestWith s args R_A R_T 124 y_T_arrivalsBy b_T_arrivalsBy 2 (some .int) ws_T_arrivalsBy rm_T_arrivalsBy 0 0 1 := cwV 1 hts (wB_callV (fun w h => List.mem_cons_of_mem _ h) xw_119 xw_120 xw_121 xw_122 xw_21) rfl rfl rfl (by decide +kernel) ⟨Nat.le_of_ble_eq_true rfl, Nat.le_of_ble_eq_true rfl⟩
  have w_133 : CallW rm_A_greatestWith s args R_A R_A 133 y_A_busyWith b_A_busyWith 6 (some .int) ws_A_busyWith rm_A_busyWith 0 0 2 := cwV 2 hts (wB_callV (fun w h => List.mem_cons_of_mem _ h) xw_140 xw_141 xw_142 xw_143 xw_127) rfl rfl rfl (by decide +kernel) ⟨Nat.le_of_ble_eq_true rfl, Nat.le_of_ble_eq_true rfl⟩
  unfold j_A_greatestWith at hj
  refine lv_aload_n hx hb d_A_greatestWith_0 rfl (lv_at hl 0 rfl) ?_
  refine lv_aload_n hx hb d_A_greatestWith_1 rfl (lv_at hl 1 rfl) ?_
  refine lv_iload_n hx hb d_A_greatestWith_2 rfl (lv_at hl 2 rfl) ?_
  obtain ⟨r_2, e_1, hj⟩ := Option.bind_eq_some_iff.mp hj
  refine gw_calli (As := [.ref (ad (6 + x1.val)), .int a2]) (rest := []) S hw (c_A_busyWith e_1) w_133 xa_A rfl rfl hl.1 rfl (Nat.le_of_ble_eq_true rfl) d_A_greatestWith_3 (fun H locs hw => ?_)
  refine lv_istore_n (lv' := [(3, .int r_2), (0, .ref (ad 4)), (1, .ref (ad (6 + x1.val))), (2, .int a2)]) hx hb d_A_greatestWith_6 rfl hl (by decide) rfl (fun ls hl => ?_)
  refine lv_iconst (v := 0) hx hb d_A_greatestWith_7 (by decide) ?_
  refine lv_istore (lv' := [(4, .int 0), (3, .int r_2), (0, .ref (ad 4)), (1, .ref (ad (6 + x1.val))), (2, .int a2)]) hx hb d_A_greatestWith_8 hl (by decide) rfl (fun ls hl => ?_)
  refine lv_iconst (v := 0) hx hb d_A_greatestWith_10 (by decide) ?_
  refine lv_istore (lv' := [(5, .int 0), (4, .int 0), (3, .int r_2), (0, .ref (ad 4)), (1, .ref (ad (6 + x1.val))), (2, .int a2)]) hx hb d_A_greatestWith_11 hl (by decide) rfl (fun ls hl => ?_)
  refine lv_aload_n hx hb d_A_greatestWith_13 rfl (lv_at hl 3 rfl) ?_
  refine lv_iconst (v := 0) hx hb d_A_greatestWith_14 (by decide) ?_
  refine gw_put (v := .int 0) (ty := .int) S hw xa_A rfl (by decide) n_T_A f_31 tk_A nm_A rfl (by decide +kernel) rfl rfl (Nat.le_of_ble_eq_true rfl) (xs_A 1 0 (by decide)) d_A_greatestWith_15 (fun H locs hw => ?_)
  refine lv_aload_n hx hb d_A_greatestWith_18 rfl (lv_at hl 3 rfl) ?_
  refine lv_iload_n hx hb d_A_greatestWith_19 rfl (lv_at hl 2 rfl) ?_
  refine lv_sipush (v := 20000) hx hb d_A_greatestWith_20 (by decide) ?_
  refine lv_icmp_le (tgt := 30) hx hb d_A_greatestWith_23 (by decide) (fun c_3 => ?_) (fun c_3 => ?_)
  · rw [if_pos c_3] at hj
    refine lv_aload_n hx hb d_A_greatestWith_30 rfl (lv_at hl 4 rfl) ?_
    refine lv_iload_n hx hb d_A_greatestWith_31 rfl (lv_at hl 2 rfl) ?_
    refine lv_iconst (v := 1) hx hb d_A_greatestWith_32 (by decide) ?_
    refine lv_isub hx hb d_A_greatestWith_33 ?_
    obtain ⟨r_5, e_4, hj⟩ := Option.bind_eq_some_iff.mp hj
    refine gw_calli (As := [.int (r_2 - 1)]) (rest := [.ref (ad 4)]) S hw (c_T_arrivalsBy e_4) w_124 (xa_T x1) rfl rfl hl.1 rfl (Nat.le_of_ble_eq_true rfl) d_A_greatestWith_34 (fun H locs hw => ?_)
    refine gw_put (v := .int r_5) (ty := .int) S hw xa_A rfl (by decide) n_T_A f_37 tk_A nm_A rfl (by decide +kernel) rfl rfl (Nat.le_of_ble_eq_true rfl) (xs_A 2 r_5 (by decide)) d_A_greatestWith_37 (fun H locs hw => ?_)
    refine lv_iconst (v := 0) hx hb d_A_greatestWith_40 (by decide) ?_
    refine lv_istore (lv' := [(6, .int 0), (5, .int 0), (4, .int 0), (3, .int r_2), (0, .ref (ad 4)), (1, .ref (ad (6 + x1.val))), (2, .int a2)]) hx hb d_A_greatestWith_41 hl (by decide) rfl (fun ls hl => ?_)
    have L43 : ∀ (f43 : Nat) (v4_43 : Int32) (v5_43 : Int32) (v6_43 : Int32) (M43 : MX), j_A_greatestWith_L43 n x1 a2 r_2 f43 v4_43 v5_43 v6_43 M43 = some (r0, M0) → ∀ (H : Heap) (locs : List Loc), gw_W D (tyX cI cT) A (wX cI cT ad M43) s H locs → ∀ ls : Array Slot, lv_has ls 8 [(0, .ref (ad 4)), (1, .ref (ad (6 + x1.val))), (2, .int a2), (3, .int r_2), (4, .int v4_43), (5, .int v5_43), (6, .int v6_43)] → W p l e rm_A_greatestWith s m args below meth c H locs 0 0 Q (F0 m 43 ls []) := by
      intro f43
      induction f43 with
      | zero =>
        intro v4_43 v5_43 v6_43 M43 hj
        exact nomatch (show (none : Option (Int32 × MX)) = some (r0, M0) from hj)
      | succ f43 ih43 =>
        intro v4_43 v5_43 v6_43 M43 hj H locs hw ls hl
        rw [j_A_greatestWith_L43] at hj
        refine lv_iload hx hb d_A_greatestWith_43 (lv_at hl 6 rfl) ?_
        refine lv_aload_n hx hb d_A_greatestWith_45 rfl (lv_at hl 0 rfl) ?_
        refine gw_get (v := .int (M43.2.1 1 2)) S hw xa_A rfl (by decide) n_T_A f_37 rfl d_A_greatestWith_46 ?_
        refine lv_icmp_ge (tgt := 104) hx hb d_A_greatestWith_49 (by decide) (fun c_13 => ?_) (fun c_13 => ?_)
        · rw [if_pos c_13] at hj
          refine lv_aload_n hx hb d_A_greatestWith_104 rfl (lv_at hl 0 rfl) ?_
          refine gw_get (v := .int (M43.2.1 1 2)) S hw xa_A rfl (by decide) n_T_A f_37 rfl d_A_greatestWith_105 ?_
          refine lv_if_ne (tgt := 116) hx hb d_A_greatestWith_108 (by decide) (fun c_14 => ?_) (fun c_14 => ?_)
          · rw [if_neg c_14] at hj
            refine lv_iload hx hb d_A_greatestWith_116 (lv_at hl 4 rfl) ?_
            exact hend H locs ls 118 _ _ (Prod.mk.inj (Option.some.inj hj)).1 (congrArg (wX cI cT ad) (Prod.mk.inj (Option.some.inj hj)).2) hw d_A_greatestWith_118
          · rw [if_pos c_14] at hj
            refine lv_ldc (v := 1000000000) hx hb S.2.2.2.1 k_81 d_A_greatestWith_111 ?_
            refine lv_goto (tgt := 118) hx hb d_A_greatestWith_113 (by decide) ?_
            exact hend H locs ls 118 _ _ (Prod.mk.inj (Option.some.inj hj)).1 (congrArg (wX cI cT ad) (Prod.mk.inj (Option.some.inj hj)).2) hw d_A_greatestWith_118
        · rw [if_neg c_13] at hj
          refine lv_aload_n hx hb d_A_greatestWith_52 rfl (lv_at hl 0 rfl) ?_
          refine lv_aload_n hx hb d_A_greatestWith_53 rfl (lv_at hl 1 rfl) ?_
          refine lv_iload_n hx hb d_A_greatestWith_54 rfl (lv_at hl 2 rfl) ?_
          refine lv_iload hx hb d_A_greatestWith_55 (lv_at hl 6 rfl) ?_
          refine lv_iload hx hb d_A_greatestWith_57 (lv_at hl 5 rfl) ?_
          obtain ⟨r_16, e_15, hj⟩ := Option.bind_eq_some_iff.mp hj
          refine gw_calli (As := [.ref (ad (6 + x1.val)), .int a2, .int v6_43, .int v5_43]) (rest := []) S hw (c_A_lastBegin e_15) w_64 xa_A rfl rfl hl.1 rfl (Nat.le_of_ble_eq_true rfl) d_A_greatestWith_59 (fun H locs hw => ?_)
          refine lv_istore (lv' := [(5, .int r_16), (0, .ref (ad 4)), (1, .ref (ad (6 + x1.val))), (2, .int a2), (3, .int r_2), (4, .int v4_43), (6, .int v6_43)]) hx hb d_A_greatestWith_62 hl (by decide) rfl (fun ls hl => ?_)
          refine lv_iload hx hb d_A_greatestWith_64 (lv_at hl 0 rfl) ?_
          refine lv_aload_n hx hb d_A_greatestWith_66 rfl (lv_at hl 2 rfl) ?_
          obtain ⟨r_18, e_17, hj⟩ := Option.bind_eq_some_iff.mp hj
          refine gw_calli (As := []) (rest := [.int r_16]) S hw (c_T_lastSegment e_17) w_68 (xa_T x1) rfl rfl hl.1 rfl (Nat.le_of_ble_eq_true rfl) d_A_greatestWith_67 (fun H locs hw => ?_)
          refine lv_iadd hx hb d_A_greatestWith_70 ?_
          refine lv_iload hx hb d_A_greatestWith_71 (lv_at hl 6 rfl) ?_
          refine lv_aload_n hx hb d_A_greatestWith_73 rfl (lv_at hl 2 rfl) ?_
          refine gw_get (v := .int (M43.1 0 x1 3)) S hw (xa_T x1) rfl (by decide) n_T_T f_72 rfl d_A_greatestWith_74 ?_
          refine lv_imul hx hb d_A_greatestWith_77 ?_
          refine lv_isub hx hb d_A_greatestWith_78 ?_
          refine lv_istore (lv' := [(7, .int ((r_16 + r_18) - (v6_43 * (M43.1 0 x1 3)))), (5, .int r_16), (0, .ref (ad 4)), (1, .ref (ad (6 + x1.val))), (2, .int a2), (3, .int r_2), (4, .int v4_43), (6, .int v6_43)]) hx hb d_A_greatestWith_79 hl (by decide) rfl (fun ls hl => ?_)
          refine lv_iload hx hb d_A_greatestWith_81 (lv_at hl 0 rfl) ?_
          refine lv_iload hx hb d_A_greatestWith_83 (lv_at hl 6 rfl) ?_
          refine lv_icmp_le (tgt := 98) hx hb d_A_greatestWith_85 (by decide) (fun c_19 => ?_) (fun c_19 => ?_)
          · rw [if_pos c_19] at hj
            refine lv_iinc (v := (v6_43 + 1)) (lv' := [(6, .int (v6_43 + 1)), (7, .int ((r_16 + r_18) - (v6_43 * (M43.1 0 x1 3)))), (5, .int r_16), (0, .ref (ad 4)), (1, .ref (ad (6 + x1.val))), (2, .int a2), (3, .int r_2), (4, .int v4_43)]) hx hb d_A_greatestWith_98 hl (k := 7) rfl rfl (by decide) rfl (fun ls hl => ?_)
            refine lv_goto (tgt := 43) hx hb d_A_greatestWith_101 (by decide) ?_
            exact ih43 v4_43 r_16 (v6_43 + 1) M43 hj H locs hw ls (lv_sub hl [3, 4, 5, 6, 7, 2, 0] rfl)
          · rw [if_neg c_19] at hj
            refine lv_iload hx hb d_A_greatestWith_88 (lv_at hl 0 rfl) ?_
            refine lv_istore (lv' := [(4, .int ((r_16 + r_18) - (v6_43 * (M43.1 0 x1 3)))), (7, .int ((r_16 + r_18) - (v6_43 * (M43.1 0 x1 3)))), (5, .int r_16), (0, .ref (ad 4)), (1, .ref (ad (6 + x1.val))), (2, .int a2), (3, .int r_2), (6, .int v6_43)]) hx hb d_A_greatestWith_90 hl (by decide) rfl (fun ls hl => ?_)
            refine lv_aload_n hx hb d_A_greatestWith_92 rfl (lv_at hl 3 rfl) ?_
            refine lv_iload hx hb d_A_greatestWith_93 (lv_at hl 7 rfl) ?_
            refine gw_put (v := .int v6_43) (ty := .int) S hw xa_A rfl (by decide) n_T_A f_31 tk_A nm_A rfl (by decide +kernel) rfl rfl (Nat.le_of_ble_eq_true rfl) (xs_A 1 v6_43 (by decide)) d_A_greatestWith_95 (fun H locs hw => ?_)
            refine lv_iinc (v := (v6_43 + 1)) (lv' := [(6, .int (v6_43 + 1)), (4, .int ((r_16 + r_18) - (v6_43 * (M43.1 0 x1 3)))), (7, .int ((r_16 + r_18) - (v6_43 * (M43.1 0 x1 3)))), (5, .int r_16), (0, .ref (ad 4)), (1, .ref (ad (6 + x1.val))), (2, .int a2), (3, .int r_2)]) hx hb d_A_greatestWith_98 hl (k := 7) rfl rfl (by decide) rfl (fun ls hl => ?_)
            refine lv_goto (tgt := 43) hx hb d_A_greatestWith_101 (by decide) ?_
            exact ih43 ((r_16 + r_18) - (v6_43 * (M43.1 0 x1 3))) r_16 (v6_43 + 1) (sG M43 1 1 v6_43) hj H locs hw ls (lv_sub hl [4, 5, 6, 7, 1, 3, 0] rfl)
    exact L43 n 0 0 0 (sG (sG M 1 1 0) 1 2 r_5) hj H locs hw ls (lv_sub hl [4, 5, 6, 3, 2, 1, 0] rfl)
  · rw [if_neg c_3] at hj
    refine lv_iconst (v := 0) hx hb d_A_greatestWith_26 (by decide) ?_
    refine lv_goto (tgt := 37) hx hb d_A_greatestWith_27 (by decide) ?_
    refine gw_put (v := .int 0) (ty := .int) S hw xa_A rfl (by decide) n_T_A f_37 tk_A nm_A rfl (by decide +kernel) rfl rfl (Nat.le_of_ble_eq_true rfl) (xs_A 2 0 (by decide)) d_A_greatestWith_37 (fun H locs hw => ?_)
    refine lv_iconst (v := 0) hx hb d_A_greatestWith_40 (by decide) ?_
    refine lv_istore (lv' := [(6, .int 0), (5, .int 0), (4, .int 0), (3, .int r_2), (0, .ref (ad 4)), (1, .ref (ad (6 + x1.val))), (2, .int a2)]) hx hb d_A_greatestWith_41 hl (by decide) rfl (fun ls hl => ?_)
    have L43 : ∀ (f43 : Nat) (v4_43 : Int32) (v5_43 : Int32) (v6_43 : Int32) (M43 : MX), j_A_greatestWith_L43 n x1 a2 r_2 f43 v4_43 v5_43 v6_43 M43 = some (r0, M0) → ∀ (H : Heap) (locs : List Loc), gw_W D (tyX cI cT) A (wX cI cT ad M43) s H locs → ∀ ls : Array Slot, lv_has ls 8 [(0, .ref (ad 4)), (1, .ref (ad (6 + x1.val))), (2, .int a2), (3, .int r_2), (4, .int v4_43), (5, .int v5_43), (6, .int v6_43)] → W p l e rm_A_greatestWith s m args below meth c H locs 0 0 Q (F0 m 43 ls []) := by
      intro f43
      induction f43 with
      | zero =>
        intro v4_43 v5_43 v6_43 M43 hj
        exact nomatch (show (none : Option (Int32 × MX)) = some (r0, M0) from hj)
      | succ f43 ih43 =>
        intro v4_43 v5_43 v6_43 M43 hj H locs hw ls hl
        rw [j_A_greatestWith_L43] at hj
        refine lv_iload hx hb d_A_greatestWith_43 (lv_at hl 6 rfl) ?_
        refine lv_aload_n hx hb d_A_greatestWith_45 rfl (lv_at hl 0 rfl) ?_
        refine gw_get (v := .int (M43.2.1 1 2)) S hw xa_A rfl (by decide) n_T_A f_37 rfl d_A_greatestWith_46 ?_
        refine lv_icmp_ge (tgt := 104) hx hb d_A_greatestWith_49 (by decide) (fun c_20 => ?_) (fun c_20 => ?_)
        · rw [if_pos c_20] at hj
          refine lv_aload_n hx hb d_A_greatestWith_104 rfl (lv_at hl 0 rfl) ?_
          refine gw_get (v := .int (M43.2.1 1 2)) S hw xa_A rfl (by decide) n_T_A f_37 rfl d_A_greatestWith_105 ?_
          refine lv_if_ne (tgt := 116) hx hb d_A_greatestWith_108 (by decide) (fun c_21 => ?_) (fun c_21 => ?_)
          · rw [if_neg c_21] at hj
            refine lv_iload hx hb d_A_greatestWith_116 (lv_at hl 4 rfl) ?_
            exact hend H locs ls 118 _ _ (Prod.mk.inj (Option.some.inj hj)).1 (congrArg (wX cI cT ad) (Prod.mk.inj (Option.some.inj hj)).2) hw d_A_greatestWith_118
          · rw [if_pos c_21] at hj
            refine lv_ldc (v := 1000000000) hx hb S.2.2.2.1 k_81 d_A_greatestWith_111 ?_
            refine lv_goto (tgt := 118) hx hb d_A_greatestWith_113 (by decide) ?_
            exact hend H locs ls 118 _ _ (Prod.mk.inj (Option.some.inj hj)).1 (congrArg (wX cI cT ad) (Prod.mk.inj (Option.some.inj hj)).2) hw d_A_greatestWith_118
        · rw [if_neg c_20] at hj
          refine lv_aload_n hx hb d_A_greatestWith_52 rfl (lv_at hl 0 rfl) ?_
          refine lv_aload_n hx hb d_A_greatestWith_53 rfl (lv_at hl 1 rfl) ?_
          refine lv_iload_n hx hb d_A_greatestWith_54 rfl (lv_at hl 2 rfl) ?_
          refine lv_iload hx hb d_A_greatestWith_55 (lv_at hl 6 rfl) ?_
          refine lv_iload hx hb d_A_greatestWith_57 (lv_at hl 5 rfl) ?_
          obtain ⟨r_23, e_22, hj⟩ := Option.bind_eq_some_iff.mp hj
          refine gw_calli (As := [.ref (ad (6 + x1.val)), .int a2, .int v6_43, .int v5_43]) (rest := []) S hw (c_A_lastBegin e_22) w_64 xa_A rfl rfl hl.1 rfl (Nat.le_of_ble_eq_true rfl) d_A_greatestWith_59 (fun H locs hw => ?_)
          refine lv_istore (lv' := [(5, .int r_23), (0, .ref (ad 4)), (1, .ref (ad (6 + x1.val))), (2, .int a2), (3, .int r_2), (4, .int v4_43), (6, .int v6_43)]) hx hb d_A_greatestWith_62 hl (by decide) rfl (fun ls hl => ?_)
          refine lv_iload hx hb d_A_greatestWith_64 (lv_at hl 0 rfl) ?_
          refine lv_aload_n hx hb d_A_greatestWith_66 rfl (lv_at hl 2 rfl) ?_
          obtain ⟨r_25, e_24, hj⟩ := Option.bind_eq_some_iff.mp hj
          refine gw_calli (As := []) (rest := [.int r_23]) S hw (c_T_lastSegment e_24) w_68 (xa_T x1) rfl rfl hl.1 rfl (Nat.le_of_ble_eq_true rfl) d_A_greatestWith_67 (fun H locs hw => ?_)
          refine lv_iadd hx hb d_A_greatestWith_70 ?_
          refine lv_iload hx hb d_A_greatestWith_71 (lv_at hl 6 rfl) ?_
          refine lv_aload_n hx hb d_A_greatestWith_73 rfl (lv_at hl 2 rfl) ?_
          refine gw_get (v := .int (M43.1 0 x1 3)) S hw (xa_T x1) rfl (by decide) n_T_T f_72 rfl d_A_greatestWith_74 ?_
          refine lv_imul hx hb d_A_greatestWith_77 ?_
          refine lv_isub hx hb d_A_greatestWith_78 ?_
          refine lv_istore (lv' := [(7, .int ((r_23 + r_25) - (v6_43 * (M43.1 0 x1 3)))), (5, .int r_23), (0, .ref (ad 4)), (1, .ref (ad (6 + x1.val))), (2, .int a2), (3, .int r_2), (4, .int v4_43), (6, .int v6_43)]) hx hb d_A_greatestWith_79 hl (by decide) rfl (fun ls hl => ?_)
          refine lv_iload hx hb d_A_greatestWith_81 (lv_at hl 0 rfl) ?_
          refine lv_iload hx hb d_A_greatestWith_83 (lv_at hl 6 rfl) ?_
          refine lv_icmp_le (tgt := 98) hx hb d_A_greatestWith_85 (by decide) (fun c_26 => ?_) (fun c_26 => ?_)
          · rw [if_pos c_26] at hj
            refine lv_iinc (v := (v6_43 + 1)) (lv' := [(6, .int (v6_43 + 1)), (7, .int ((r_23 + r_25) - (v6_43 * (M43.1 0 x1 3)))), (5, .int r_23), (0, .ref (ad 4)), (1, .ref (ad (6 + x1.val))), (2, .int a2), (3, .int r_2), (4, .int v4_43)]) hx hb d_A_greatestWith_98 hl (k := 7) rfl rfl (by decide) rfl (fun ls hl => ?_)
            refine lv_goto (tgt := 43) hx hb d_A_greatestWith_101 (by decide) ?_
            exact ih43 v4_43 r_23 (v6_43 + 1) M43 hj H locs hw ls (lv_sub hl [3, 4, 5, 6, 7, 2, 0] rfl)
          · rw [if_neg c_26] at hj
            refine lv_iload hx hb d_A_greatestWith_88 (lv_at hl 0 rfl) ?_
            refine lv_istore (lv' := [(4, .int ((r_23 + r_25) - (v6_43 * (M43.1 0 x1 3)))), (7, .int ((r_23 + r_25) - (v6_43 * (M43.1 0 x1 3)))), (5, .int r_23), (0, .ref (ad 4)), (1, .ref (ad (6 + x1.val))), (2, .int a2), (3, .int r_2), (6, .int v6_43)]) hx hb d_A_greatestWith_90 hl (by decide) rfl (fun ls hl => ?_)
            refine lv_aload_n hx hb d_A_greatestWith_92 rfl (lv_at hl 3 rfl) ?_
            refine lv_iload hx hb d_A_greatestWith_93 (lv_at hl 7 rfl) ?_
            refine gw_put (v := .int v6_43) (ty := .int) S hw xa_A rfl (by decide) n_T_A f_31 tk_A nm_A rfl (by decide +kernel) rfl rfl (Nat.le_of_ble_eq_true rfl) (xs_A 1 v6_43 (by decide)) d_A_greatestWith_95 (fun H locs hw => ?_)
            refine lv_iinc (v := (v6_43 + 1)) (lv' := [(6, .int (v6_43 + 1)), (4, .int ((r_23 + r_25) - (v6_43 * (M43.1 0 x1 3)))), (7, .int ((r_23 + r_25) - (v6_43 * (M43.1 0 x1 3)))), (5, .int r_23), (0, .ref (ad 4)), (1, .ref (ad (6 + x1.val))), (2, .int a2), (3, .int r_2)]) hx hb d_A_greatestWith_98 hl (k := 7) rfl rfl (by decide) rfl (fun ls hl => ?_)
            refine lv_goto (tgt := 43) hx hb d_A_greatestWith_101 (by decide) ?_
            exact ih43 ((r_23 + r_25) - (v6_43 * (M43.1 0 x1 3))) r_23 (v6_43 + 1) (sG M43 1 1 v6_43) hj H locs hw ls (lv_sub hl [4, 5, 6, 7, 1, 3, 0] rfl)
    exact L43 n 0 0 0 (sG (sG M 1 1 0) 1 2 0) hj H locs hw ls (lv_sub hl [4, 5, 6, 3, 2, 1, 0] rfl)
abbrev rm_A_survey : Room := { frames := 4, cells := 0, slots := 0, locals := 101 }
def ws_A_survey : List Cond := Cond.code y_A_survey b_A_survey 2 none :: wB
set_option maxHeartbeats 4000000 in
set_option maxRecDepth 100000 in
theorem c_A_survey {l : Launch} {D : va_G} {cI cT : ClassId} {ad : Nat → Nat} {n : Nat} {M : MX} {x1 : Fin 8} {M0 : MX} (hj : j_A_survey n M x1 = some M0) : gw_Cv l y_A_survey ws_A_survey rm_A_survey D (tyX cI cT) (wX cI cT ad M) [.ref (ad 4), .ref (ad (6 + x1.val))] (wX cI cT ad M0) := by
  intro sz
  refine gw_metv (cc := b_A_survey) (maxL := 2) (by decide) rfl (Nat.le_of_ble_eq_true rfl) ?_
  intro p e s m args below meth c A Q S H locs hw hend ls hl
  have S : CallFix p m c b_A_survey 2 s args ws_A_survey R_A := S
  have hx := S.1
  have hb := S.2.1
  have hts := S.2.2.2.2
  have hl : lv_has ls 2 [(0, .ref (ad 4)), (1, .ref (ad (6 + x1.val)))] := hl
  have n_T_A : ∀ w ∈ u_ws R_A T_A 3, w ∈ ws_A_survey := fun w h => List.mem_cons_of_mem _ (uT_A w h)
  have n_T_T : ∀ w ∈ u_ws R_T T_T 13, w ∈ ws_A_survey := fun w h => List.mem_cons_of_mem _ (uT_T w h)
  have f_9 : Cond.fieldLink R_A 9 (T_A 0).1 (T_A 0).2.1 (T_A 0).2.2.1 ∈ ws_A_survey := List.mem_cons_of_mem _ xw_115
  have f_15 : Cond.fieldLink R_A 15 (T_T 9).1 (T_T 9).2.1 (T_T 9).2.2.1 ∈ ws_A_survey := List.mem_cons_of_mem _ xw_144
  have f_31 : Cond.fieldLink R_A 31 (T_A 1).1 (T_A 1).2.1 (T_A 1).2.2.1 ∈ ws_A_survey := List.mem_cons_of_mem _ xw_132
  have f_34 : Cond.fieldLink R_A 34 (T_T 10).1 (T_T 10).2.1 (T_T 10).2.2.1 ∈ ws_A_survey := List.mem_cons_of_mem _ xw_145
  have f_37 : Cond.fieldLink R_A 37 (T_A 2).1 (T_A 2).2.1 (T_A 2).2.2.1 ∈ ws_A_survey := List.mem_cons_of_mem _ xw_133
  have f_40 : Cond.fieldLink R_A 40 (T_T 11).1 (T_T 11).2.1 (T_T 11).2.2.1 ∈ ws_A_survey := List.mem_cons_of_mem _ xw_146
  have w_21 : CallW rm_A_survey s args R_A R_S 21 y_S_blockingOf b_S_blockingOf 2 (some .int) ws_S_blockingOf rm_S_blockingOf 0 0 1 := cwV 1 hts (wB_callV (fun w h => List.mem_cons_of_mem _ h) xw_106 xw_147 xw_108 xw_109 xw_14) rfl rfl rfl (by decide +kernel) ⟨Nat.le_of_ble_eq_true rfl, Nat.le_of_ble_eq_true rfl⟩
  have w_27 : CallW rm_A_survey s args R_A R_A 27 y_A_greatestWith b_A_greatestWith 8 (some .int) ws_A_greatestWith rm_A_greatestWith 0 0 2 := cwV 2 hts (wB_callV (fun w h => List.mem_cons_of_mem _ h) xw_148 xw_149 xw_150 xw_151 xw_127) rfl rfl rfl (by decide +kernel) ⟨Nat.le_of_ble_eq_true rfl, Nat.le_of_ble_eq_true rfl⟩
  unfold j_A_survey at hj
  refine lv_aload_n hx hb d_A_survey_0 rfl (lv_at hl 1 rfl) ?_
  refine gw_get (v := .int (M.1 0 x1 9)) S hw (xa_T x1) rfl (by decide) n_T_T f_15 rfl d_A_survey_1 ?_
  refine lv_bipush (v := -2) hx hb d_A_survey_4 (by decide) ?_
  refine lv_icmp_eq (tgt := 10) hx hb d_A_survey_6 (by decide) (fun c_1 => ?_) (fun c_1 => ?_)
  · rw [if_pos c_1] at hj
    refine lv_aload_n hx hb d_A_survey_10 rfl (lv_at hl 1 rfl) ?_
    refine lv_aload_n hx hb d_A_survey_11 rfl (lv_at hl 0 rfl) ?_
    refine lv_aload_n hx hb d_A_survey_12 rfl (lv_at hl 1 rfl) ?_
    refine lv_aload_n hx hb d_A_survey_13 rfl (lv_at hl 0 rfl) ?_
    refine gw_get (v := .ref (ad 1)) S hw xa_A rfl (by decide) n_T_A f_9 rfl d_A_survey_14 ?_
    refine lv_aload_n hx hb d_A_survey_17 rfl (lv_at hl 1 rfl) ?_
    obtain ⟨r_3, e_2, hj⟩ := Option.bind_eq_some_iff.mp hj
    refine gw_calli (As := [.ref (ad (6 + x1.val))]) (rest := [.ref (ad (6 + x1.val)), .ref (ad 4), .ref (ad (6 + x1.val))]) S hw (c_S_blockingOf e_2) w_21 xa_S rfl rfl hl.1 rfl (Nat.le_of_ble_eq_true rfl) d_A_survey_18 (fun H locs hw => ?_)
    obtain ⟨q_5, e_4, hj⟩ := Option.bind_eq_some_iff.mp hj
    refine gw_calli (As := [.ref (ad (6 + x1.val)), .int r_3]) (rest := [.ref (ad (6 + x1.val))]) S hw (c_A_greatestWith e_4) w_27 xa_A rfl rfl hl.1 rfl (Nat.le_of_ble_eq_true rfl) d_A_survey_21 (fun H locs hw => ?_)
    refine gw_put (v := .int q_5.1) (ty := .int) S hw (xa_T x1) rfl (by decide) n_T_T f_15 tk_T nm_T rfl (by decide +kernel) rfl rfl (Nat.le_of_ble_eq_true rfl) (xs_T x1 9 q_5.1 (by decide)) d_A_survey_24 (fun H locs hw => ?_)
    refine lv_aload_n hx hb d_A_survey_27 rfl (lv_at hl 1 rfl) ?_
    refine lv_aload_n hx hb d_A_survey_28 rfl (lv_at hl 0 rfl) ?_
    refine gw_get (v := .int ((sF q_5.2 0 x1 9 q_5.1).2.1 1 1)) S hw xa_A rfl (by decide) n_T_A f_31 rfl d_A_survey_29 ?_
    refine gw_put (v := .int ((sF q_5.2 0 x1 9 q_5.1).2.1 1 1)) (ty := .int) S hw (xa_T x1) rfl (by decide) n_T_T f_34 tk_T nm_T rfl (by decide +kernel) rfl rfl (Nat.le_of_ble_eq_true rfl) (xs_T x1 10 ((sF q_5.2 0 x1 9 q_5.1).2.1 1 1) (by decide)) d_A_survey_32 (fun H locs hw => ?_)
    refine lv_aload_n hx hb d_A_survey_35 rfl (lv_at hl 1 rfl) ?_
    refine lv_aload_n hx hb d_A_survey_36 rfl (lv_at hl 0 rfl) ?_
    refine gw_get (v := .int ((sF (sF q_5.2 0 x1 9 q_5.1) 0 x1 10 ((sF q_5.2 0 x1 9 q_5.1).2.1 1 1)).2.1 1 2)) S hw xa_A rfl (by decide) n_T_A f_37 rfl d_A_survey_37 ?_
    refine gw_put (v := .int ((sF (sF q_5.2 0 x1 9 q_5.1) 0 x1 10 ((sF q_5.2 0 x1 9 q_5.1).2.1 1 1)).2.1 1 2)) (ty := .int) S hw (xa_T x1) rfl (by decide) n_T_T f_40 tk_T nm_T rfl (by decide +kernel) rfl rfl (Nat.le_of_ble_eq_true rfl) (xs_T x1 11 ((sF (sF q_5.2 0 x1 9 q_5.1) 0 x1 10 ((sF q_5.2 0 x1 9 q_5.1).2.1 1 1)).2.1 1 2) (by decide)) d_A_survey_40 (fun H locs hw => ?_)
    exact hend H locs ls 43 _ (congrArg (wX cI cT ad) (Option.some.inj hj)) hw d_A_survey_43
  · rw [if_neg c_1] at hj
    exact hend H locs ls 9 _ (congrArg (wX cI cT ad) (Option.some.inj hj)) hw d_A_survey_9
abbrev rm_T_isTooLong : Room := { frames := 0, cells := 0, slots := 0, locals := 0 }
def ws_T_isTooLong : List Cond := Cond.code y_T_isTooLong b_T_isTooLong 1 (some .boolean) :: wB
set_option maxHeartbeats 4000000 in
set_option maxRecDepth 100000 in
theorem c_T_isTooLong {l : Launch} {D : va_G} {cI cT : ClassId} {ad : Nat → Nat} {n : Nat} {M : MX} {x0 : Fin 8} {r0 : Int32} (hj : j_T_isTooLong n M x0 = some r0) : gw_Cz l y_T_isTooLong ws_T_isTooLong rm_T_isTooLong D (tyX cI cT) (wX cI cT ad M) [.ref (ad (6 + x0.val))] r0 (wX cI cT ad M) := by
  intro sz
  refine gw_metz (cc := b_T_isTooLong) (maxL := 1) (by decide) rfl (Nat.le_of_ble_eq_true rfl) ?_
  intro p e s m args below meth c A Q S H locs hw hend ls hl
  have S : CallFix p m c b_T_isTooLong 1 s args ws_T_isTooLong R_T := S
  have hx := S.1
  have hb := S.2.1
  have hts := S.2.2.2.2
  have hl : lv_has ls 1 [(0, .ref (ad (6 + x0.val)))] := hl
  have n_T_T : ∀ w ∈ u_ws R_T T_T 13, w ∈ ws_T_isTooLong := fun w h => List.mem_cons_of_mem _ (uT_T w h)
  have f_22 : Cond.fieldLink R_T 22 (T_T 9).1 (T_T 9).2.1 (T_T 9).2.2.1 ∈ ws_T_isTooLong := List.mem_cons_of_mem _ xw_15
  have k_56 := hts _ (List.mem_cons_of_mem _ xw_152)
  unfold j_T_isTooLong at hj
  refine lv_aload_n hx hb d_T_isTooLong_0 rfl (lv_at hl 0 rfl) ?_
  refine gw_get (v := .int (M.1 0 x0 9)) S hw (xa_T x0) rfl (by decide) n_T_T f_22 rfl d_T_isTooLong_1 ?_
  refine lv_ldc (v := 1000000000) hx hb S.2.2.2.1 k_56 d_T_isTooLong_4 ?_
  refine lv_icmp_ne (tgt := 13) hx hb d_T_isTooLong_6 (by decide) (fun c_1 => ?_) (fun c_1 => ?_)
  · rw [if_neg c_1] at hj
    refine lv_iconst (v := 0) hx hb d_T_isTooLong_13 (by decide) ?_
    exact hend H locs ls 14 _ _ (Option.some.inj hj) rfl (Or.inl rfl) hw d_T_isTooLong_14
  · rw [if_pos c_1] at hj
    refine lv_iconst (v := 1) hx hb d_T_isTooLong_9 (by decide) ?_
    refine lv_goto (tgt := 14) hx hb d_T_isTooLong_10 (by decide) ?_
    exact hend H locs ls 14 _ _ (Option.some.inj hj) rfl (Or.inr rfl) hw d_T_isTooLong_14
abbrev rm_A_verdict : Room := { frames := 5, cells := 0, slots := 0, locals := 122 }
def ws_A_verdict : List Cond := Cond.code y_A_verdict b_A_verdict 3 (some .int) :: wB
set_option maxHeartbeats 4000000 in
set_option maxRecDepth 100000 in
theorem c_A_verdict {l : Launch} {D : va_G} {cI cT : ClassId} {ad : Nat → Nat} {n : Nat} {M : MX} {r0 : Int32} {M0 : MX} (hj : j_A_verdict n M = some (r0, M0)) : gw_Ci l y_A_verdict ws_A_verdict rm_A_verdict D (tyX cI cT) (wX cI cT ad M) [.ref (ad 4)] r0 (wX cI cT ad M0) := by
  intro sz
  refine gw_meti (cc := b_A_verdict) (maxL := 3) (by decide) rfl (Nat.le_of_ble_eq_true rfl) ?_
  intro p e s m args below meth c A Q S H locs hw hend ls hl
  have S : CallFix p m c b_A_verdict 3 s args ws_A_verdict R_A := S
  have hx := S.1
  have hb := S.2.1
  have hts := S.2.2.2.2
  have hl : lv_has ls 3 [(0, .ref (ad 4))] := hl
  have n_T_A : ∀ w ∈ u_ws R_A T_A 3, w ∈ ws_A_verdict := fun w h => List.mem_cons_of_mem _ (uT_A w h)
  have n_T_S : ∀ w ∈ u_ws R_S T_S 3, w ∈ ws_A_verdict := fun w h => List.mem_cons_of_mem _ (uT_S w h)
  have n_T_T : ∀ w ∈ u_ws R_T T_T 13, w ∈ ws_A_verdict := fun w h => List.mem_cons_of_mem _ (uT_T w h)
  have f_9 : Cond.fieldLink R_A 9 (T_A 0).1 (T_A 0).2.1 (T_A 0).2.2.1 ∈ ws_A_verdict := List.mem_cons_of_mem _ xw_115
  have f_15 : Cond.fieldLink R_A 15 (T_T 9).1 (T_T 9).2.1 (T_T 9).2.2.1 ∈ ws_A_verdict := List.mem_cons_of_mem _ xw_144
  have f_43 : Cond.fieldLink R_A 43 (T_S 2).1 (T_S 2).2.1 (T_S 2).2.2.1 ∈ ws_A_verdict := List.mem_cons_of_mem _ xw_153
  have f_46 : Cond.fieldLink R_A 46 (T_S 1).1 (T_S 1).2.1 (T_S 1).2.2.1 ∈ ws_A_verdict := List.mem_cons_of_mem _ xw_116
  have f_58 : Cond.fieldLink R_A 58 (T_T 0).1 (T_T 0).2.1 (T_T 0).2.2.1 ∈ ws_A_verdict := List.mem_cons_of_mem _ xw_154
  have f_61 : Cond.fieldLink R_A 61 (T_T 4).1 (T_T 4).2.1 (T_T 4).2.2.1 ∈ ws_A_verdict := List.mem_cons_of_mem _ xw_155
  have w_50 : CallW rm_A_verdict s args R_A R_A 50 y_A_survey b_A_survey 2 none ws_A_survey rm_A_survey 0 0 1 := cwV 1 hts (wB_callV (fun w h => List.mem_cons_of_mem _ h) xw_156 xw_157 xw_158 xw_159 xw_127) rfl rfl rfl (by decide +kernel) ⟨Nat.le_of_ble_eq_true rfl, Nat.le_of_ble_eq_true rfl⟩
  have w_54 : CallW rm_A_verdict s args R_A R_T 54 y_T_isTooLong b_T_isTooLong 1 (some .boolean) ws_T_isTooLong rm_T_isTooLong 0 0 0 := cwV 0 hts (wB_callV (fun w h => List.mem_cons_of_mem _ h) xw_160 xw_161 xw_162 xw_163 xw_21) rfl rfl rfl (by decide +kernel) ⟨Nat.le_of_ble_eq_true rfl, Nat.le_of_ble_eq_true rfl⟩
  unfold j_A_verdict at hj
  refine lv_iconst (v := 0) hx hb d_A_verdict_0 (by decide) ?_
  refine lv_istore_n (lv' := [(1, .int 0), (0, .ref (ad 4))]) hx hb d_A_verdict_1 rfl hl (by decide) rfl (fun ls hl => ?_)
  have L2 : ∀ (f2 : Nat) (v1_2 : Int32) (M2 : MX), j_A_verdict_L2 n f2 v1_2 M2 = some (r0, M0) → ∀ (H : Heap) (locs : List Loc), gw_W D (tyX cI cT) A (wX cI cT ad M2) s H locs → ∀ ls : Array Slot, lv_has ls 3 [(0, .ref (ad 4)), (1, .int v1_2)] → W p l e rm_A_verdict s m args below meth c H locs 0 0 Q (F0 m 2 ls []) := by
    intro f2
    induction f2 with
    | zero =>
      intro v1_2 M2 hj
      exact nomatch (show (none : Option (Int32 × MX)) = some (r0, M0) from hj)
    | succ f2 ih2 =>
      intro v1_2 M2 hj H locs hw ls hl
      rw [j_A_verdict_L2] at hj
      refine lv_iload_n hx hb d_A_verdict_2 rfl (lv_at hl 1 rfl) ?_
      refine lv_aload_n hx hb d_A_verdict_3 rfl (lv_at hl 0 rfl) ?_
      refine gw_get (v := .ref (ad 1)) S hw xa_A rfl (by decide) n_T_A f_9 rfl d_A_verdict_4 ?_
      refine gw_get (v := .int (M2.2.1 0 2)) S hw xa_S rfl (by decide) n_T_S f_43 rfl d_A_verdict_7 ?_
      refine lv_icmp_ge (tgt := 67) hx hb d_A_verdict_10 (by decide) (fun c_9 => ?_) (fun c_9 => ?_)
      · rw [if_pos c_9] at hj
        refine lv_iconst (v := 1) hx hb d_A_verdict_67 (by decide) ?_
        exact hend H locs ls 68 _ _ (Prod.mk.inj (Option.some.inj hj)).1 (congrArg (wX cI cT ad) (Prod.mk.inj (Option.some.inj hj)).2) hw d_A_verdict_68
      · rw [if_neg c_9] at hj
        refine lv_aload_n hx hb d_A_verdict_13 rfl (lv_at hl 0 rfl) ?_
        refine gw_get (v := .ref (ad 1)) S hw xa_A rfl (by decide) n_T_A f_9 rfl d_A_verdict_14 ?_
        refine gw_get (v := .ref (ad 3)) S hw xa_S rfl (by decide) n_T_S f_46 rfl d_A_verdict_17 ?_
        refine lv_iload_n hx hb d_A_verdict_20 rfl (lv_at hl 1 rfl) ?_
        obtain ⟨g_10, hj⟩ := gw_if hj
        refine gw_aldq (t0 := 1) S hw ⟨xa_rk, rfl⟩ g_10 d_A_verdict_21 ?_
        refine lv_astore_n (lv' := [(2, .ref (ad (6 + (M2.2.2.1 v1_2.toNatClampNeg).val))), (0, .ref (ad 4)), (1, .int v1_2)]) hx hb d_A_verdict_22 rfl hl (by decide) rfl (fun ls hl => ?_)
        refine lv_aload_n hx hb d_A_verdict_23 rfl (lv_at hl 1 rfl) ?_
        refine lv_aload_n hx hb d_A_verdict_24 rfl (lv_at hl 0 rfl) ?_
        obtain ⟨M_12, e_11, hj⟩ := Option.bind_eq_some_iff.mp hj
        refine gw_callv (As := [.ref (ad (6 + (M2.2.2.1 v1_2.toNatClampNeg).val))]) (rest := []) S hw (c_A_survey e_11) w_50 xa_A rfl rfl hl.1 rfl (Nat.le_of_ble_eq_true rfl) d_A_verdict_25 (fun H locs hw => ?_)
        refine lv_aload_n hx hb d_A_verdict_28 rfl (lv_at hl 0 rfl) ?_
        obtain ⟨r_14, e_13, hj⟩ := Option.bind_eq_some_iff.mp hj
        refine gw_calli (As := []) (rest := []) S hw (c_T_isTooLong e_13) w_54 (xa_T (M2.2.2.1 v1_2.toNatClampNeg)) rfl rfl hl.1 rfl (Nat.le_of_ble_eq_true rfl) d_A_verdict_29 (fun H locs hw => ?_)
        refine lv_if_eq (tgt := 44) hx hb d_A_verdict_32 (by decide) (fun c_15 => ?_) (fun c_15 => ?_)
        · rw [if_pos c_15] at hj
          refine lv_aload_n hx hb d_A_verdict_44 rfl (lv_at hl 0 rfl) ?_
          refine gw_get (v := .int (M_12.1 0 (M2.2.2.1 v1_2.toNatClampNeg) 9)) S hw (xa_T (M2.2.2.1 v1_2.toNatClampNeg)) rfl (by decide) n_T_T f_15 rfl d_A_verdict_45 ?_
          refine lv_aload_n hx hb d_A_verdict_48 rfl (lv_at hl 0 rfl) ?_
          refine gw_get (v := .int (M_12.1 0 (M2.2.2.1 v1_2.toNatClampNeg) 4)) S hw (xa_T (M2.2.2.1 v1_2.toNatClampNeg)) rfl (by decide) n_T_T f_61 rfl d_A_verdict_49 ?_
          refine lv_icmp_le (tgt := 61) hx hb d_A_verdict_52 (by decide) (fun c_16 => ?_) (fun c_16 => ?_)
          · rw [if_pos c_16] at hj
            refine lv_iinc (v := (v1_2 + 1)) (lv' := [(1, .int (v1_2 + 1)), (2, .ref (ad (6 + (M2.2.2.1 v1_2.toNatClampNeg).val))), (0, .ref (ad 4))]) hx hb d_A_verdict_61 hl (k := 2) rfl rfl (by decide) rfl (fun ls hl => ?_)
            refine lv_goto (tgt := 2) hx hb d_A_verdict_64 (by decide) ?_
            exact ih2 (v1_2 + 1) M_12 hj H locs hw ls (lv_sub hl [2, 0] rfl)
          · rw [if_neg c_16] at hj
            refine lv_aload_n hx hb d_A_verdict_55 rfl (lv_at hl 0 rfl) ?_
            refine gw_get (v := .int (M_12.1 0 (M2.2.2.1 v1_2.toNatClampNeg) 0)) S hw (xa_T (M2.2.2.1 v1_2.toNatClampNeg)) rfl (by decide) n_T_T f_58 rfl d_A_verdict_56 ?_
            refine lv_ineg hx hb d_A_verdict_59 ?_
            exact hend H locs ls 60 _ _ (Prod.mk.inj (Option.some.inj hj)).1 (congrArg (wX cI cT ad) (Prod.mk.inj (Option.some.inj hj)).2) hw d_A_verdict_60
        · rw [if_neg c_15] at hj
          refine lv_aload_n hx hb d_A_verdict_35 rfl (lv_at hl 0 rfl) ?_
          refine gw_get (v := .int (M_12.1 0 (M2.2.2.1 v1_2.toNatClampNeg) 0)) S hw (xa_T (M2.2.2.1 v1_2.toNatClampNeg)) rfl (by decide) n_T_T f_58 rfl d_A_verdict_36 ?_
          refine lv_ineg hx hb d_A_verdict_39 ?_
          refine lv_bipush (v := 100) hx hb d_A_verdict_40 (by decide) ?_
          refine lv_isub hx hb d_A_verdict_42 ?_
          exact hend H locs ls 43 _ _ (Prod.mk.inj (Option.some.inj hj)).1 (congrArg (wX cI cT ad) (Prod.mk.inj (Option.some.inj hj)).2) hw d_A_verdict_43
  exact L2 n 0 M hj H locs hw ls (lv_sub hl [1, 0] rfl)
abbrev rm_A_responseOfJob : Room := { frames := 4, cells := 0, slots := 0, locals := 87 }
def ws_A_responseOfJob : List Cond := Cond.code y_A_responseOfJob b_A_responseOfJob 3 (some .int) :: wB
set_option maxHeartbeats 4000000 in
set_option maxRecDepth 100000 in
theorem c_A_responseOfJob {l : Launch} {D : va_G} {cI cT : ClassId} {ad : Nat → Nat} {n : Nat} {M : MX} {x1 : Fin 8} {a2 : Int32} {r0 : Int32} (hj : j_A_responseOfJob n M x1 a2 = some r0) : gw_Ci l y_A_responseOfJob ws_A_responseOfJob rm_A_responseOfJob D (tyX cI cT) (wX cI cT ad M) [.ref (ad 4), .ref (ad (6 + x1.val)), .int a2] r0 (wX cI cT ad M) := by
  intro sz
  refine gw_meti (cc := b_A_responseOfJob) (maxL := 3) (by decide) rfl (Nat.le_of_ble_eq_true rfl) ?_
  intro p e s m args below meth c A Q S H locs hw hend ls hl
  have S : CallFix p m c b_A_responseOfJob 3 s args ws_A_responseOfJob R_A := S
  have hx := S.1
  have hb := S.2.1
  have hts := S.2.2.2.2
  have hl : lv_has ls 3 [(0, .ref (ad 4)), (1, .ref (ad (6 + x1.val))), (2, .int a2)] := hl
  have n_T_A : ∀ w ∈ u_ws R_A T_A 3, w ∈ ws_A_responseOfJob := fun w h => List.mem_cons_of_mem _ (uT_A w h)
  have n_T_T : ∀ w ∈ u_ws R_T T_T 13, w ∈ ws_A_responseOfJob := fun w h => List.mem_cons_of_mem _ (uT_T w h)
  have f_9 : Cond.fieldLink R_A 9 (T_A 0).1 (T_A 0).2.1 (T_A 0).2.2.1 ∈ ws_A_responseOfJob := List.mem_cons_of_mem _ xw_115
  have f_40 : Cond.fieldLink R_A 40 (T_T 11).1 (T_T 11).2.1 (T_T 11).2.2.1 ∈ ws_A_responseOfJob := List.mem_cons_of_mem _ xw_146
  have f_72 : Cond.fieldLink R_A 72 (T_T 3).1 (T_T 3).2.1 (T_T 3).2.2.1 ∈ ws_A_responseOfJob := List.mem_cons_of_mem _ xw_134
  have w_21 : CallW rm_A_responseOfJob s args R_A R_S 21 y_S_blockingOf b_S_blockingOf 2 (some .int) ws_S_blockingOf rm_S_blockingOf 0 0 1 := cwV 1 hts (wB_callV (fun w h => List.mem_cons_of_mem _ h) xw_106 xw_147 xw_108 xw_109 xw_14) rfl rfl rfl (by decide +kernel) ⟨Nat.le_of_ble_eq_true rfl, Nat.le_of_ble_eq_true rfl⟩
  have w_64 : CallW rm_A_responseOfJob s args R_A R_A 64 y_A_lastBegin b_A_lastBegin 9 (some .int) ws_A_lastBegin rm_A_lastBegin 0 0 4 := cwV 4 hts (wB_callV (fun w h => List.mem_cons_of_mem _ h) xw_136 xw_137 xw_138 xw_139 xw_127) rfl rfl rfl (by decide +kernel) ⟨Nat.le_of_ble_eq_true rfl, Nat.le_of_ble_eq_true rfl⟩
  have w_68 : CallW rm_A_responseOfJob s args R_A R_T 68 y_T_lastSegment b_T_lastSegment 1 (some .int) ws_T_lastSegment rm_T_lastSegment 0 0 0 := cwV 0 hts (wB_callV (fun w h => List.mem_cons_of_mem _ h) xw_128 xw_129 xw_130 xw_131 xw_21) rfl rfl rfl (by decide +kernel) ⟨Nat.le_of_ble_eq_true rfl, Nat.le_of_ble_eq_true rfl⟩
  unfold j_A_responseOfJob at hj
  refine lv_iload_n hx hb d_A_responseOfJob_0 rfl (lv_at hl 2 rfl) ?_
  refine lv_if_lt (tgt := 12) hx hb d_A_responseOfJob_1 (by decide) (fun c_1 => ?_) (fun c_1 => ?_)
  · rw [if_pos c_1] at hj
    refine lv_iconst (v := -1) hx hb d_A_responseOfJob_12 (by decide) ?_
    exact hend H locs ls 13 _ _ (Option.some.inj hj) rfl hw d_A_responseOfJob_13
  · rw [if_neg c_1] at hj
    refine lv_iload_n hx hb d_A_responseOfJob_4 rfl (lv_at hl 2 rfl) ?_
    refine lv_aload_n hx hb d_A_responseOfJob_5 rfl (lv_at hl 1 rfl) ?_
    refine gw_get (v := .int (M.1 0 x1 11)) S hw (xa_T x1) rfl (by decide) n_T_T f_40 rfl d_A_responseOfJob_6 ?_
    refine lv_icmp_lt (tgt := 14) hx hb d_A_responseOfJob_9 (by decide) (fun c_2 => ?_) (fun c_2 => ?_)
    · rw [if_pos c_2] at hj
      refine lv_aload_n hx hb d_A_responseOfJob_14 rfl (lv_at hl 0 rfl) ?_
      refine lv_aload_n hx hb d_A_responseOfJob_15 rfl (lv_at hl 1 rfl) ?_
      refine lv_aload_n hx hb d_A_responseOfJob_16 rfl (lv_at hl 0 rfl) ?_
      refine gw_get (v := .ref (ad 1)) S hw xa_A rfl (by decide) n_T_A f_9 rfl d_A_responseOfJob_17 ?_
      refine lv_aload_n hx hb d_A_responseOfJob_20 rfl (lv_at hl 1 rfl) ?_
      obtain ⟨r_4, e_3, hj⟩ := Option.bind_eq_some_iff.mp hj
      refine gw_calli (As := [.ref (ad (6 + x1.val))]) (rest := [.ref (ad (6 + x1.val)), .ref (ad 4)]) S hw (c_S_blockingOf e_3) w_21 xa_S rfl rfl hl.1 rfl (Nat.le_of_ble_eq_true rfl) d_A_responseOfJob_21 (fun H locs hw => ?_)
      refine lv_iload_n hx hb d_A_responseOfJob_24 rfl (lv_at hl 2 rfl) ?_
      refine lv_iconst (v := 0) hx hb d_A_responseOfJob_25 (by decide) ?_
      obtain ⟨r_6, e_5, hj⟩ := Option.bind_eq_some_iff.mp hj
      refine gw_calli (As := [.ref (ad (6 + x1.val)), .int r_4, .int a2, .int 0]) (rest := []) S hw (c_A_lastBegin e_5) w_64 xa_A rfl rfl hl.1 rfl (Nat.le_of_ble_eq_true rfl) d_A_responseOfJob_26 (fun H locs hw => ?_)
      refine lv_aload_n hx hb d_A_responseOfJob_29 rfl (lv_at hl 1 rfl) ?_
      obtain ⟨r_8, e_7, hj⟩ := Option.bind_eq_some_iff.mp hj
      refine gw_calli (As := []) (rest := [.int r_6]) S hw (c_T_lastSegment e_7) w_68 (xa_T x1) rfl rfl hl.1 rfl (Nat.le_of_ble_eq_true rfl) d_A_responseOfJob_30 (fun H locs hw => ?_)
      refine lv_iadd hx hb d_A_responseOfJob_33 ?_
      refine lv_iload_n hx hb d_A_responseOfJob_34 rfl (lv_at hl 2 rfl) ?_
      refine lv_aload_n hx hb d_A_responseOfJob_35 rfl (lv_at hl 1 rfl) ?_
      refine gw_get (v := .int (M.1 0 x1 3)) S hw (xa_T x1) rfl (by decide) n_T_T f_72 rfl d_A_responseOfJob_36 ?_
      refine lv_imul hx hb d_A_responseOfJob_39 ?_
      refine lv_isub hx hb d_A_responseOfJob_40 ?_
      exact hend H locs ls 41 _ _ (Option.some.inj hj) rfl hw d_A_responseOfJob_41
    · rw [if_neg c_2] at hj
      refine lv_iconst (v := -1) hx hb d_A_responseOfJob_12 (by decide) ?_
      exact hend H locs ls 13 _ _ (Option.some.inj hj) rfl hw d_A_responseOfJob_13
abbrev rm_A_greatestBorne : Room := { frames := 4, cells := 0, slots := 0, locals := 101 }
def ws_A_greatestBorne : List Cond := Cond.code y_A_greatestBorne b_A_greatestBorne 6 (some .int) :: wB
set_option maxHeartbeats 4000000 in
set_option maxRecDepth 100000 in
theorem c_A_greatestBorne {l : Launch} {D : va_G} {cI cT : ClassId} {ad : Nat → Nat} {n : Nat} {M : MX} {x1 : Fin 8} {r0 : Int32} {M0 : MX} (hj : j_A_greatestBorne n M x1 = some (r0, M0)) : gw_Ci l y_A_greatestBorne ws_A_greatestBorne rm_A_greatestBorne D (tyX cI cT) (wX cI cT ad M) [.ref (ad 4), .ref (ad (6 + x1.val))] r0 (wX cI cT ad M0) := by
  intro sz
  refine gw_meti (cc := b_A_greatestBorne) (maxL := 6) (by decide) rfl (Nat.le_of_ble_eq_true rfl) ?_
  intro p e s m args below meth c A Q S H locs hw hend ls hl
  have S : CallFix p m c b_A_greatestBorne 6 s args ws_A_greatestBorne R_A := S
  have hx := S.1
  have hb := S.2.1
  have hts := S.2.2.2.2
  have hl : lv_has ls 6 [(0, .ref (ad 4)), (1, .ref (ad (6 + x1.val)))] := hl
  have n_T_T : ∀ w ∈ u_ws R_T T_T 13, w ∈ ws_A_greatestBorne := fun w h => List.mem_cons_of_mem _ (uT_T w h)
  have f_61 : Cond.fieldLink R_A 61 (T_T 4).1 (T_T 4).2.1 (T_T 4).2.2.1 ∈ ws_A_greatestBorne := List.mem_cons_of_mem _ xw_155
  have f_82 : Cond.fieldLink R_A 82 (T_T 7).1 (T_T 7).2.1 (T_T 7).2.2.1 ∈ ws_A_greatestBorne := List.mem_cons_of_mem _ xw_117
  have m_130 := hts _ (List.mem_cons_of_mem _ xw_164)
  have ms_max := hts _ (List.mem_cons_of_mem _ xw_88)
  have mc_max := hts _ (List.mem_cons_of_mem _ xw_89)
  have mi_ := hts _ (List.mem_cons_of_mem _ xw_90)
  have w_27 : CallW rm_A_greatestBorne s args R_A R_A 27 y_A_greatestWith b_A_greatestWith 8 (some .int) ws_A_greatestWith rm_A_greatestWith 0 0 2 := cwV 2 hts (wB_callV (fun w h => List.mem_cons_of_mem _ h) xw_148 xw_149 xw_150 xw_151 xw_127) rfl rfl rfl (by decide +kernel) ⟨Nat.le_of_ble_eq_true rfl, Nat.le_of_ble_eq_true rfl⟩
  unfold j_A_greatestBorne at hj
  refine lv_iconst (v := -1) hx hb d_A_greatestBorne_0 (by decide) ?_
  refine lv_istore_n (lv' := [(2, .int (-1)), (0, .ref (ad 4)), (1, .ref (ad (6 + x1.val)))]) hx hb d_A_greatestBorne_1 rfl hl (by decide) rfl (fun ls hl => ?_)
  refine lv_iconst (v := 0) hx hb d_A_greatestBorne_2 (by decide) ?_
  refine lv_aload_n hx hb d_A_greatestBorne_3 rfl (lv_at hl 2 rfl) ?_
  refine gw_get (v := .int (M.1 0 x1 4)) S hw (xa_T x1) rfl (by decide) n_T_T f_61 rfl d_A_greatestBorne_4 ?_
  refine lv_aload_n hx hb d_A_greatestBorne_7 rfl (lv_at hl 2 rfl) ?_
  refine gw_get (v := .int (M.1 0 x1 7)) S hw (xa_T x1) rfl (by decide) n_T_T f_82 rfl d_A_greatestBorne_8 ?_
  refine lv_isub hx hb d_A_greatestBorne_11 ?_
  refine lv_iconst (v := 1) hx hb d_A_greatestBorne_12 (by decide) ?_
  refine lv_iadd hx hb d_A_greatestBorne_13 ?_
  refine va_mmax hx hb (S.2.2.1.trans hl.1.symm) S.2.2.2.1 m_130 ms_max mi_ mc_max (by decide) (Nat.le_of_ble_eq_true rfl) (Nat.zero_le _) (Nat.zero_le _) d_A_greatestBorne_14 ?_
  refine lv_istore_n (lv' := [(3, .int (if 0 < (((M.1 0 x1 4) - (M.1 0 x1 7)) + 1) then (((M.1 0 x1 4) - (M.1 0 x1 7)) + 1) else 0)), (2, .int (-1)), (0, .ref (ad 4)), (1, .ref (ad (6 + x1.val)))]) hx hb d_A_greatestBorne_17 rfl hl (by decide) rfl (fun ls hl => ?_)
  refine lv_iconst (v := 0) hx hb d_A_greatestBorne_18 (by decide) ?_
  refine lv_istore (lv' := [(4, .int 0), (3, .int (if 0 < (((M.1 0 x1 4) - (M.1 0 x1 7)) + 1) then (((M.1 0 x1 4) - (M.1 0 x1 7)) + 1) else 0)), (2, .int (-1)), (0, .ref (ad 4)), (1, .ref (ad (6 + x1.val)))]) hx hb d_A_greatestBorne_19 hl (by decide) rfl (fun ls hl => ?_)
  have L21 : ∀ (f21 : Nat) (v2_21 : Int32) (v3_21 : Int32) (v4_21 : Int32) (M21 : MX), j_A_greatestBorne_L21 n x1 f21 v2_21 v3_21 v4_21 M21 = some (r0, M0) → ∀ (H : Heap) (locs : List Loc), gw_W D (tyX cI cT) A (wX cI cT ad M21) s H locs → ∀ ls : Array Slot, lv_has ls 6 [(0, .ref (ad 4)), (1, .ref (ad (6 + x1.val))), (2, .int v2_21), (3, .int v3_21), (4, .int v4_21)] → W p l e rm_A_greatestBorne s m args below meth c H locs 0 0 Q (F0 m 21 ls []) := by
    intro f21
    induction f21 with
    | zero =>
      intro v2_21 v3_21 v4_21 M21 hj
      exact nomatch (show (none : Option (Int32 × MX)) = some (r0, M0) from hj)
    | succ f21 ih21 =>
      intro v2_21 v3_21 v4_21 M21 hj H locs hw ls hl
      rw [j_A_greatestBorne_L21] at hj
      refine lv_iload hx hb d_A_greatestBorne_21 (lv_at hl 4 rfl) ?_
      refine lv_bipush (v := 64) hx hb d_A_greatestBorne_23 (by decide) ?_
      refine lv_icmp_ge (tgt := 71) hx hb d_A_greatestBorne_25 (by decide) (fun c_6 => ?_) (fun c_6 => ?_)
      · rw [if_pos c_6] at hj
        refine lv_iload_n hx hb d_A_greatestBorne_71 rfl (lv_at hl 2 rfl) ?_
        exact hend H locs ls 72 _ _ (Prod.mk.inj (Option.some.inj hj)).1 (congrArg (wX cI cT ad) (Prod.mk.inj (Option.some.inj hj)).2) hw d_A_greatestBorne_72
      · rw [if_neg c_6] at hj
        refine lv_iload_n hx hb d_A_greatestBorne_28 rfl (lv_at hl 3 rfl) ?_
        refine lv_iload_n hx hb d_A_greatestBorne_29 rfl (lv_at hl 2 rfl) ?_
        refine lv_isub hx hb d_A_greatestBorne_30 ?_
        refine lv_iconst (v := 1) hx hb d_A_greatestBorne_31 (by decide) ?_
        refine lv_icmp_le (tgt := 71) hx hb d_A_greatestBorne_32 (by decide) (fun c_7 => ?_) (fun c_7 => ?_)
        · rw [if_pos c_7] at hj
          refine lv_iload_n hx hb d_A_greatestBorne_71 rfl (lv_at hl 2 rfl) ?_
          exact hend H locs ls 72 _ _ (Prod.mk.inj (Option.some.inj hj)).1 (congrArg (wX cI cT ad) (Prod.mk.inj (Option.some.inj hj)).2) hw d_A_greatestBorne_72
        · rw [if_neg c_7] at hj
          refine lv_iload_n hx hb d_A_greatestBorne_35 rfl (lv_at hl 2 rfl) ?_
          refine lv_iload_n hx hb d_A_greatestBorne_36 rfl (lv_at hl 3 rfl) ?_
          refine lv_iadd hx hb d_A_greatestBorne_37 ?_
          refine lv_iconst (v := 2) hx hb d_A_greatestBorne_38 (by decide) ?_
          refine lv_idiv hx hb d_A_greatestBorne_39 (by decide) ?_
          refine lv_istore (lv' := [(5, .int ((v2_21 + v3_21) / 2)), (0, .ref (ad 4)), (1, .ref (ad (6 + x1.val))), (2, .int v2_21), (3, .int v3_21), (4, .int v4_21)]) hx hb d_A_greatestBorne_40 hl (by decide) rfl (fun ls hl => ?_)
          refine lv_aload_n hx hb d_A_greatestBorne_42 rfl (lv_at hl 1 rfl) ?_
          refine lv_aload_n hx hb d_A_greatestBorne_43 rfl (lv_at hl 2 rfl) ?_
          refine lv_iload hx hb d_A_greatestBorne_44 (lv_at hl 0 rfl) ?_
          obtain ⟨q_9, e_8, hj⟩ := Option.bind_eq_some_iff.mp hj
          refine gw_calli (As := [.ref (ad (6 + x1.val)), .int ((v2_21 + v3_21) / 2)]) (rest := []) S hw (c_A_greatestWith e_8) w_27 xa_A rfl rfl hl.1 rfl (Nat.le_of_ble_eq_true rfl) d_A_greatestBorne_46 (fun H locs hw => ?_)
          refine lv_aload_n hx hb d_A_greatestBorne_49 rfl (lv_at hl 2 rfl) ?_
          refine gw_get (v := .int (q_9.2.1 0 x1 4)) S hw (xa_T x1) rfl (by decide) n_T_T f_61 rfl d_A_greatestBorne_50 ?_
          refine lv_icmp_gt (tgt := 62) hx hb d_A_greatestBorne_53 (by decide) (fun c_10 => ?_) (fun c_10 => ?_)
          · rw [if_pos c_10] at hj
            refine lv_iload hx hb d_A_greatestBorne_62 (lv_at hl 0 rfl) ?_
            refine lv_istore_n (lv' := [(3, .int ((v2_21 + v3_21) / 2)), (5, .int ((v2_21 + v3_21) / 2)), (0, .ref (ad 4)), (1, .ref (ad (6 + x1.val))), (2, .int v2_21), (4, .int v4_21)]) hx hb d_A_greatestBorne_64 rfl hl (by decide) rfl (fun ls hl => ?_)
            refine lv_iinc (v := (v4_21 + 1)) (lv' := [(4, .int (v4_21 + 1)), (3, .int ((v2_21 + v3_21) / 2)), (5, .int ((v2_21 + v3_21) / 2)), (0, .ref (ad 4)), (1, .ref (ad (6 + x1.val))), (2, .int v2_21)]) hx hb d_A_greatestBorne_65 hl (k := 5) rfl rfl (by decide) rfl (fun ls hl => ?_)
            refine lv_goto (tgt := 21) hx hb d_A_greatestBorne_68 (by decide) ?_
            exact ih21 v2_21 ((v2_21 + v3_21) / 2) (v4_21 + 1) q_9.2 hj H locs hw ls (lv_sub hl [3, 4, 5, 1, 0] rfl)
          · rw [if_neg c_10] at hj
            refine lv_iload hx hb d_A_greatestBorne_56 (lv_at hl 0 rfl) ?_
            refine lv_istore_n (lv' := [(2, .int ((v2_21 + v3_21) / 2)), (5, .int ((v2_21 + v3_21) / 2)), (0, .ref (ad 4)), (1, .ref (ad (6 + x1.val))), (3, .int v3_21), (4, .int v4_21)]) hx hb d_A_greatestBorne_58 rfl hl (by decide) rfl (fun ls hl => ?_)
            refine lv_goto (tgt := 65) hx hb d_A_greatestBorne_59 (by decide) ?_
            refine lv_iinc (v := (v4_21 + 1)) (lv' := [(4, .int (v4_21 + 1)), (2, .int ((v2_21 + v3_21) / 2)), (5, .int ((v2_21 + v3_21) / 2)), (0, .ref (ad 4)), (1, .ref (ad (6 + x1.val))), (3, .int v3_21)]) hx hb d_A_greatestBorne_65 hl (k := 5) rfl rfl (by decide) rfl (fun ls hl => ?_)
            refine lv_goto (tgt := 21) hx hb d_A_greatestBorne_68 (by decide) ?_
            exact ih21 ((v2_21 + v3_21) / 2) v3_21 (v4_21 + 1) q_9.2 hj H locs hw ls (lv_sub hl [3, 4, 1, 5, 0] rfl)
  exact L21 n (-1) (if 0 < (((M.1 0 x1 4) - (M.1 0 x1 7)) + 1) then (((M.1 0 x1 4) - (M.1 0 x1 7)) + 1) else 0) 0 M hj H locs hw ls (lv_sub hl [3, 4, 2, 1, 0] rfl)
abbrev rm_A_bearableBy : Room := { frames := 5, cells := 0, slots := 0, locals := 126 }
def ws_A_bearableBy : List Cond := Cond.code y_A_bearableBy b_A_bearableBy 2 (some .int) :: wB
set_option maxHeartbeats 4000000 in
set_option maxRecDepth 100000 in
theorem c_A_bearableBy {l : Launch} {D : va_G} {cI cT : ClassId} {ad : Nat → Nat} {n : Nat} {M : MX} {x1 : Fin 8} {r0 : Int32} {M0 : MX} (hj : j_A_bearableBy n M x1 = some (r0, M0)) : gw_Ci l y_A_bearableBy ws_A_bearableBy rm_A_bearableBy D (tyX cI cT) (wX cI cT ad M) [.ref (ad 4), .ref (ad (6 + x1.val))] r0 (wX cI cT ad M0) := by
  intro sz
  refine gw_meti (cc := b_A_bearableBy) (maxL := 2) (by decide) rfl (Nat.le_of_ble_eq_true rfl) ?_
  intro p e s m args below meth c A Q S H locs hw hend ls hl
  have S : CallFix p m c b_A_bearableBy 2 s args ws_A_bearableBy R_A := S
  have hx := S.1
  have hb := S.2.1
  have hts := S.2.2.2.2
  have hl : lv_has ls 2 [(0, .ref (ad 4)), (1, .ref (ad (6 + x1.val)))] := hl
  have n_T_T : ∀ w ∈ u_ws R_T T_T 13, w ∈ ws_A_bearableBy := fun w h => List.mem_cons_of_mem _ (uT_T w h)
  have f_75 : Cond.fieldLink R_A 75 (T_T 12).1 (T_T 12).2.1 (T_T 12).2.2.1 ∈ ws_A_bearableBy := List.mem_cons_of_mem _ xw_165
  have w_78 : CallW rm_A_bearableBy s args R_A R_A 78 y_A_greatestBorne b_A_greatestBorne 6 (some .int) ws_A_greatestBorne rm_A_greatestBorne 0 0 1 := cwV 1 hts (wB_callV (fun w h => List.mem_cons_of_mem _ h) xw_166 xw_167 xw_168 xw_169 xw_127) rfl rfl rfl (by decide +kernel) ⟨Nat.le_of_ble_eq_true rfl, Nat.le_of_ble_eq_true rfl⟩
  unfold j_A_bearableBy at hj
  refine lv_aload_n hx hb d_A_bearableBy_0 rfl (lv_at hl 1 rfl) ?_
  refine gw_get (v := .int (M.1 0 x1 12)) S hw (xa_T x1) rfl (by decide) n_T_T f_75 rfl d_A_bearableBy_1 ?_
  refine lv_bipush (v := -2) hx hb d_A_bearableBy_4 (by decide) ?_
  refine lv_icmp_ne (tgt := 18) hx hb d_A_bearableBy_6 (by decide) (fun c_1 => ?_) (fun c_1 => ?_)
  · rw [if_neg c_1] at hj
    refine lv_aload_n hx hb d_A_bearableBy_18 rfl (lv_at hl 1 rfl) ?_
    refine gw_get (v := .int (M.1 0 x1 12)) S hw (xa_T x1) rfl (by decide) n_T_T f_75 rfl d_A_bearableBy_19 ?_
    exact hend H locs ls 22 _ _ (Prod.mk.inj (Option.some.inj hj)).1 (congrArg (wX cI cT ad) (Prod.mk.inj (Option.some.inj hj)).2) hw d_A_bearableBy_22
  · rw [if_pos c_1] at hj
    refine lv_aload_n hx hb d_A_bearableBy_9 rfl (lv_at hl 1 rfl) ?_
    refine lv_aload_n hx hb d_A_bearableBy_10 rfl (lv_at hl 0 rfl) ?_
    refine lv_aload_n hx hb d_A_bearableBy_11 rfl (lv_at hl 1 rfl) ?_
    obtain ⟨q_3, e_2, hj⟩ := Option.bind_eq_some_iff.mp hj
    refine gw_calli (As := [.ref (ad (6 + x1.val))]) (rest := [.ref (ad (6 + x1.val))]) S hw (c_A_greatestBorne e_2) w_78 xa_A rfl rfl hl.1 rfl (Nat.le_of_ble_eq_true rfl) d_A_bearableBy_12 (fun H locs hw => ?_)
    refine gw_put (v := .int q_3.1) (ty := .int) S hw (xa_T x1) rfl (by decide) n_T_T f_75 tk_T nm_T rfl (by decide +kernel) rfl rfl (Nat.le_of_ble_eq_true rfl) (xs_T x1 12 q_3.1 (by decide)) d_A_bearableBy_15 (fun H locs hw => ?_)
    refine lv_aload_n hx hb d_A_bearableBy_18 rfl (lv_at hl 1 rfl) ?_
    refine gw_get (v := .int ((sF q_3.2 0 x1 12 q_3.1).1 0 x1 12)) S hw (xa_T x1) rfl (by decide) n_T_T f_75 rfl d_A_bearableBy_19 ?_
    exact hend H locs ls 22 _ _ (Prod.mk.inj (Option.some.inj hj)).1 (congrArg (wX cI cT ad) (Prod.mk.inj (Option.some.inj hj)).2) hw d_A_bearableBy_22
abbrev rm_T_growLast : Room := { frames := 0, cells := 0, slots := 0, locals := 0 }
def ws_T_growLast : List Cond := Cond.code y_T_growLast b_T_growLast 5 (some .int) :: wB
set_option maxHeartbeats 4000000 in
set_option maxRecDepth 100000 in
theorem c_T_growLast {l : Launch} {D : va_G} {cI cT : ClassId} {ad : Nat → Nat} {n : Nat} {M : MX} {x0 : Fin 8} {a1 : Int32} {r0 : Int32} {M0 : MX} (hj : j_T_growLast n M x0 a1 = some (r0, M0)) : gw_Ci l y_T_growLast ws_T_growLast rm_T_growLast D (tyX cI cT) (wX cI cT ad M) [.ref (ad (6 + x0.val)), .int a1] r0 (wX cI cT ad M0) := by
  intro sz
  refine gw_meti (cc := b_T_growLast) (maxL := 5) (by decide) rfl (Nat.le_of_ble_eq_true rfl) ?_
  intro p e s m args below meth c A Q S H locs hw hend ls hl
  have S : CallFix p m c b_T_growLast 5 s args ws_T_growLast R_T := S
  have hx := S.1
  have hb := S.2.1
  have hts := S.2.2.2.2
  have hl : lv_has ls 5 [(0, .ref (ad (6 + x0.val))), (1, .int a1)] := hl
  have n_T_T : ∀ w ∈ u_ws R_T T_T 13, w ∈ ws_T_growLast := fun w h => List.mem_cons_of_mem _ (uT_T w h)
  have f_18 : Cond.fieldLink R_T 18 (T_T 2).1 (T_T 2).2.1 (T_T 2).2.2.1 ∈ ws_T_growLast := List.mem_cons_of_mem _ xw_49
  have f_44 : Cond.fieldLink R_T 44 (T_T 6).1 (T_T 6).2.1 (T_T 6).2.2.1 ∈ ws_T_growLast := List.mem_cons_of_mem _ xw_8
  have f_47 : Cond.fieldLink R_T 47 (T_T 7).1 (T_T 7).2.1 (T_T 7).2.2.1 ∈ ws_T_growLast := List.mem_cons_of_mem _ xw_9
  unfold j_T_growLast at hj
  refine lv_aload_n hx hb d_T_growLast_0 rfl (lv_at hl 0 rfl) ?_
  refine gw_get (v := .int (M.1 0 x0 6)) S hw (xa_T x0) rfl (by decide) n_T_T f_44 rfl d_T_growLast_1 ?_
  refine lv_istore_n (lv' := [(2, .int (M.1 0 x0 6)), (0, .ref (ad (6 + x0.val))), (1, .int a1)]) hx hb d_T_growLast_4 rfl hl (by decide) rfl (fun ls hl => ?_)
  refine lv_aload_n hx hb d_T_growLast_5 rfl (lv_at hl 1 rfl) ?_
  refine gw_get (v := .int (M.1 0 x0 7)) S hw (xa_T x0) rfl (by decide) n_T_T f_47 rfl d_T_growLast_6 ?_
  refine lv_iload_n hx hb d_T_growLast_9 rfl (lv_at hl 2 rfl) ?_
  refine lv_isub hx hb d_T_growLast_10 ?_
  refine lv_istore_n (lv' := [(3, .int ((M.1 0 x0 7) - a1)), (2, .int (M.1 0 x0 6)), (0, .ref (ad (6 + x0.val))), (1, .int a1)]) hx hb d_T_growLast_11 rfl hl (by decide) rfl (fun ls hl => ?_)
  refine lv_iconst (v := 0) hx hb d_T_growLast_12 (by decide) ?_
  refine lv_istore (lv' := [(4, .int 0), (3, .int ((M.1 0 x0 7) - a1)), (2, .int (M.1 0 x0 6)), (0, .ref (ad (6 + x0.val))), (1, .int a1)]) hx hb d_T_growLast_13 hl (by decide) rfl (fun ls hl => ?_)
  have L15 : ∀ (f15 : Nat) (v3_15 : Int32) (v4_15 : Int32) (M15 : MX), j_T_growLast_L15 n x0 a1 (M.1 0 x0 6) f15 v3_15 v4_15 M15 = some (r0, M0) → ∀ (H : Heap) (locs : List Loc), gw_W D (tyX cI cT) A (wX cI cT ad M15) s H locs → ∀ ls : Array Slot, lv_has ls 5 [(0, .ref (ad (6 + x0.val))), (1, .int a1), (2, .int (M.1 0 x0 6)), (3, .int v3_15), (4, .int v4_15)] → W p l e rm_T_growLast s m args below meth c H locs 0 0 Q (F0 m 15 ls []) := by
    intro f15
    induction f15 with
    | zero =>
      intro v3_15 v4_15 M15 hj
      exact nomatch (show (none : Option (Int32 × MX)) = some (r0, M0) from hj)
    | succ f15 ih15 =>
      intro v3_15 v4_15 M15 hj H locs hw ls hl
      rw [j_T_growLast_L15] at hj
      refine lv_iload hx hb d_T_growLast_15 (lv_at hl 4 rfl) ?_
      refine lv_iload_n hx hb d_T_growLast_17 rfl (lv_at hl 2 rfl) ?_
      refine lv_iconst (v := 1) hx hb d_T_growLast_18 (by decide) ?_
      refine lv_isub hx hb d_T_growLast_19 ?_
      refine lv_icmp_ge (tgt := 50) hx hb d_T_growLast_20 (by decide) (fun c_17 => ?_) (fun c_17 => ?_)
      · rw [if_pos c_17] at hj
        refine lv_iload_n hx hb d_T_growLast_50 rfl (lv_at hl 3 rfl) ?_
        refine lv_if_le (tgt := 73) hx hb d_T_growLast_51 (by decide) (fun c_18 => ?_) (fun c_18 => ?_)
        · rw [if_pos c_18] at hj
          refine lv_aload_n hx hb d_T_growLast_73 rfl (lv_at hl 0 rfl) ?_
          refine gw_get (v := .ref (ad (22 + x0.val))) S hw (xa_T x0) rfl (by decide) n_T_T f_18 rfl d_T_growLast_74 ?_
          refine lv_iload hx hb d_T_growLast_77 (lv_at hl 4 rfl) ?_
          refine lv_iload_n hx hb d_T_growLast_79 rfl (lv_at hl 1 rfl) ?_
          obtain ⟨g_19, hj⟩ := gw_if hj
          refine gw_iast (t0 := 0) S hw ⟨xa_sg x0, rfl⟩ g_19 (xs_sg x0 v4_15.toNatClampNeg a1) d_T_growLast_80 (fun H locs hw => ?_)
          refine lv_aload_n hx hb d_T_growLast_81 rfl (lv_at hl 0 rfl) ?_
          refine lv_iload hx hb d_T_growLast_82 (lv_at hl 4 rfl) ?_
          refine lv_iconst (v := 1) hx hb d_T_growLast_84 (by decide) ?_
          refine lv_iadd hx hb d_T_growLast_85 ?_
          refine gw_put (v := .int (v4_15 + 1)) (ty := .int) S hw (xa_T x0) rfl (by decide) n_T_T f_44 tk_T nm_T rfl (by decide +kernel) rfl rfl (Nat.le_of_ble_eq_true rfl) (xs_T x0 6 (v4_15 + 1) (by decide)) d_T_growLast_86 (fun H locs hw => ?_)
          refine lv_iload_n hx hb d_T_growLast_89 rfl (lv_at hl 2 rfl) ?_
          refine lv_aload_n hx hb d_T_growLast_90 rfl (lv_at hl 0 rfl) ?_
          refine gw_get (v := .int ((sF (sF M15 2 x0 v4_15.toNatClampNeg a1) 0 x0 6 (v4_15 + 1)).1 0 x0 6)) S hw (xa_T x0) rfl (by decide) n_T_T f_44 rfl d_T_growLast_91 ?_
          refine lv_isub hx hb d_T_growLast_94 ?_
          exact hend H locs ls 95 _ _ (Prod.mk.inj (Option.some.inj hj)).1 (congrArg (wX cI cT ad) (Prod.mk.inj (Option.some.inj hj)).2) hw d_T_growLast_95
        · rw [if_neg c_18] at hj
          refine lv_iload hx hb d_T_growLast_54 (lv_at hl 4 rfl) ?_
          refine lv_iload_n hx hb d_T_growLast_56 rfl (lv_at hl 2 rfl) ?_
          refine lv_iconst (v := 1) hx hb d_T_growLast_57 (by decide) ?_
          refine lv_isub hx hb d_T_growLast_58 ?_
          refine lv_icmp_ge (tgt := 73) hx hb d_T_growLast_59 (by decide) (fun c_20 => ?_) (fun c_20 => ?_)
          · rw [if_pos c_20] at hj
            refine lv_aload_n hx hb d_T_growLast_73 rfl (lv_at hl 0 rfl) ?_
            refine gw_get (v := .ref (ad (22 + x0.val))) S hw (xa_T x0) rfl (by decide) n_T_T f_18 rfl d_T_growLast_74 ?_
            refine lv_iload hx hb d_T_growLast_77 (lv_at hl 4 rfl) ?_
            refine lv_iload_n hx hb d_T_growLast_79 rfl (lv_at hl 1 rfl) ?_
            obtain ⟨g_21, hj⟩ := gw_if hj
            refine gw_iast (t0 := 0) S hw ⟨xa_sg x0, rfl⟩ g_21 (xs_sg x0 v4_15.toNatClampNeg a1) d_T_growLast_80 (fun H locs hw => ?_)
            refine lv_aload_n hx hb d_T_growLast_81 rfl (lv_at hl 0 rfl) ?_
            refine lv_iload hx hb d_T_growLast_82 (lv_at hl 4 rfl) ?_
            refine lv_iconst (v := 1) hx hb d_T_growLast_84 (by decide) ?_
            refine lv_iadd hx hb d_T_growLast_85 ?_
            refine gw_put (v := .int (v4_15 + 1)) (ty := .int) S hw (xa_T x0) rfl (by decide) n_T_T f_44 tk_T nm_T rfl (by decide +kernel) rfl rfl (Nat.le_of_ble_eq_true rfl) (xs_T x0 6 (v4_15 + 1) (by decide)) d_T_growLast_86 (fun H locs hw => ?_)
            refine lv_iload_n hx hb d_T_growLast_89 rfl (lv_at hl 2 rfl) ?_
            refine lv_aload_n hx hb d_T_growLast_90 rfl (lv_at hl 0 rfl) ?_
            refine gw_get (v := .int ((sF (sF M15 2 x0 v4_15.toNatClampNeg a1) 0 x0 6 (v4_15 + 1)).1 0 x0 6)) S hw (xa_T x0) rfl (by decide) n_T_T f_44 rfl d_T_growLast_91 ?_
            refine lv_isub hx hb d_T_growLast_94 ?_
            exact hend H locs ls 95 _ _ (Prod.mk.inj (Option.some.inj hj)).1 (congrArg (wX cI cT ad) (Prod.mk.inj (Option.some.inj hj)).2) hw d_T_growLast_95
          · rw [if_neg c_20] at hj
            refine lv_aload_n hx hb d_T_growLast_62 rfl (lv_at hl 0 rfl) ?_
            refine gw_get (v := .ref (ad (22 + x0.val))) S hw (xa_T x0) rfl (by decide) n_T_T f_18 rfl d_T_growLast_63 ?_
            refine lv_iload hx hb d_T_growLast_66 (lv_at hl 4 rfl) ?_
            refine lv_iload_n hx hb d_T_growLast_68 rfl (lv_at hl 3 rfl) ?_
            obtain ⟨g_22, hj⟩ := gw_if hj
            refine gw_iast (t0 := 0) S hw ⟨xa_sg x0, rfl⟩ g_22 (xs_sg x0 v4_15.toNatClampNeg v3_15) d_T_growLast_69 (fun H locs hw => ?_)
            refine lv_iinc (v := (v4_15 + 1)) (lv' := [(4, .int (v4_15 + 1)), (0, .ref (ad (6 + x0.val))), (1, .int a1), (2, .int (M.1 0 x0 6)), (3, .int v3_15)]) hx hb d_T_growLast_70 hl (k := 4) rfl rfl (by decide) rfl (fun ls hl => ?_)
            refine lv_aload_n hx hb d_T_growLast_73 rfl (lv_at hl 1 rfl) ?_
            refine gw_get (v := .ref (ad (22 + x0.val))) S hw (xa_T x0) rfl (by decide) n_T_T f_18 rfl d_T_growLast_74 ?_
            refine lv_iload hx hb d_T_growLast_77 (lv_at hl 0 rfl) ?_
            refine lv_iload_n hx hb d_T_growLast_79 rfl (lv_at hl 2 rfl) ?_
            obtain ⟨g_23, hj⟩ := gw_if hj
            refine gw_iast (t0 := 0) S hw ⟨xa_sg x0, rfl⟩ g_23 (xs_sg x0 (v4_15 + 1).toNatClampNeg a1) d_T_growLast_80 (fun H locs hw => ?_)
            refine lv_aload_n hx hb d_T_growLast_81 rfl (lv_at hl 1 rfl) ?_
            refine lv_iload hx hb d_T_growLast_82 (lv_at hl 0 rfl) ?_
            refine lv_iconst (v := 1) hx hb d_T_growLast_84 (by decide) ?_
            refine lv_iadd hx hb d_T_growLast_85 ?_
            refine gw_put (v := .int ((v4_15 + 1) + 1)) (ty := .int) S hw (xa_T x0) rfl (by decide) n_T_T f_44 tk_T nm_T rfl (by decide +kernel) rfl rfl (Nat.le_of_ble_eq_true rfl) (xs_T x0 6 ((v4_15 + 1) + 1) (by decide)) d_T_growLast_86 (fun H locs hw => ?_)
            refine lv_iload_n hx hb d_T_growLast_89 rfl (lv_at hl 3 rfl) ?_
            refine lv_aload_n hx hb d_T_growLast_90 rfl (lv_at hl 1 rfl) ?_
            refine gw_get (v := .int ((sF (sF (sF M15 2 x0 v4_15.toNatClampNeg v3_15) 2 x0 (v4_15 + 1).toNatClampNeg a1) 0 x0 6 ((v4_15 + 1) + 1)).1 0 x0 6)) S hw (xa_T x0) rfl (by decide) n_T_T f_44 rfl d_T_growLast_91 ?_
            refine lv_isub hx hb d_T_growLast_94 ?_
            exact hend H locs ls 95 _ _ (Prod.mk.inj (Option.some.inj hj)).1 (congrArg (wX cI cT ad) (Prod.mk.inj (Option.some.inj hj)).2) hw d_T_growLast_95
      · rw [if_neg c_17] at hj
        refine lv_aload_n hx hb d_T_growLast_23 rfl (lv_at hl 0 rfl) ?_
        refine gw_get (v := .ref (ad (22 + x0.val))) S hw (xa_T x0) rfl (by decide) n_T_T f_18 rfl d_T_growLast_24 ?_
        refine lv_iload hx hb d_T_growLast_27 (lv_at hl 4 rfl) ?_
        obtain ⟨g_24, hj⟩ := gw_if hj
        refine gw_iald (t0 := 0) S hw ⟨xa_sg x0, rfl⟩ g_24 d_T_growLast_29 ?_
        refine lv_iload_n hx hb d_T_growLast_30 rfl (lv_at hl 3 rfl) ?_
        refine lv_icmp_gt (tgt := 50) hx hb d_T_growLast_31 (by decide) (fun c_25 => ?_) (fun c_25 => ?_)
        · rw [if_pos c_25] at hj
          refine lv_iload_n hx hb d_T_growLast_50 rfl (lv_at hl 3 rfl) ?_
          refine lv_if_le (tgt := 73) hx hb d_T_growLast_51 (by decide) (fun c_26 => ?_) (fun c_26 => ?_)
          · rw [if_pos c_26] at hj
            refine lv_aload_n hx hb d_T_growLast_73 rfl (lv_at hl 0 rfl) ?_
            refine gw_get (v := .ref (ad (22 + x0.val))) S hw (xa_T x0) rfl (by decide) n_T_T f_18 rfl d_T_growLast_74 ?_
            refine lv_iload hx hb d_T_growLast_77 (lv_at hl 4 rfl) ?_
            refine lv_iload_n hx hb d_T_growLast_79 rfl (lv_at hl 1 rfl) ?_
            obtain ⟨g_27, hj⟩ := gw_if hj
            refine gw_iast (t0 := 0) S hw ⟨xa_sg x0, rfl⟩ g_27 (xs_sg x0 v4_15.toNatClampNeg a1) d_T_growLast_80 (fun H locs hw => ?_)
            refine lv_aload_n hx hb d_T_growLast_81 rfl (lv_at hl 0 rfl) ?_
            refine lv_iload hx hb d_T_growLast_82 (lv_at hl 4 rfl) ?_
            refine lv_iconst (v := 1) hx hb d_T_growLast_84 (by decide) ?_
            refine lv_iadd hx hb d_T_growLast_85 ?_
            refine gw_put (v := .int (v4_15 + 1)) (ty := .int) S hw (xa_T x0) rfl (by decide) n_T_T f_44 tk_T nm_T rfl (by decide +kernel) rfl rfl (Nat.le_of_ble_eq_true rfl) (xs_T x0 6 (v4_15 + 1) (by decide)) d_T_growLast_86 (fun H locs hw => ?_)
            refine lv_iload_n hx hb d_T_growLast_89 rfl (lv_at hl 2 rfl) ?_
            refine lv_aload_n hx hb d_T_growLast_90 rfl (lv_at hl 0 rfl) ?_
            refine gw_get (v := .int ((sF (sF M15 2 x0 v4_15.toNatClampNeg a1) 0 x0 6 (v4_15 + 1)).1 0 x0 6)) S hw (xa_T x0) rfl (by decide) n_T_T f_44 rfl d_T_growLast_91 ?_
            refine lv_isub hx hb d_T_growLast_94 ?_
            exact hend H locs ls 95 _ _ (Prod.mk.inj (Option.some.inj hj)).1 (congrArg (wX cI cT ad) (Prod.mk.inj (Option.some.inj hj)).2) hw d_T_growLast_95
          · rw [if_neg c_26] at hj
            refine lv_iload hx hb d_T_growLast_54 (lv_at hl 4 rfl) ?_
            refine lv_iload_n hx hb d_T_growLast_56 rfl (lv_at hl 2 rfl) ?_
            refine lv_iconst (v := 1) hx hb d_T_growLast_57 (by decide) ?_
            refine lv_isub hx hb d_T_growLast_58 ?_
            refine lv_icmp_ge (tgt := 73) hx hb d_T_growLast_59 (by decide) (fun c_28 => ?_) (fun c_28 => ?_)
            · rw [if_pos c_28] at hj
              refine lv_aload_n hx hb d_T_growLast_73 rfl (lv_at hl 0 rfl) ?_
              refine gw_get (v := .ref (ad (22 + x0.val))) S hw (xa_T x0) rfl (by decide) n_T_T f_18 rfl d_T_growLast_74 ?_
              refine lv_iload hx hb d_T_growLast_77 (lv_at hl 4 rfl) ?_
              refine lv_iload_n hx hb d_T_growLast_79 rfl (lv_at hl 1 rfl) ?_
              obtain ⟨g_29, hj⟩ := gw_if hj
              refine gw_iast (t0 := 0) S hw ⟨xa_sg x0, rfl⟩ g_29 (xs_sg x0 v4_15.toNatClampNeg a1) d_T_growLast_80 (fun H locs hw => ?_)
              refine lv_aload_n hx hb d_T_growLast_81 rfl (lv_at hl 0 rfl) ?_
              refine lv_iload hx hb d_T_growLast_82 (lv_at hl 4 rfl) ?_
              refine lv_iconst (v := 1) hx hb d_T_growLast_84 (by decide) ?_
              refine lv_iadd hx hb d_T_growLast_85 ?_
              refine gw_put (v := .int (v4_15 + 1)) (ty := .int) S hw (xa_T x0) rfl (by decide) n_T_T f_44 tk_T nm_T rfl (by decide +kernel) rfl rfl (Nat.le_of_ble_eq_true rfl) (xs_T x0 6 (v4_15 + 1) (by decide)) d_T_growLast_86 (fun H locs hw => ?_)
              refine lv_iload_n hx hb d_T_growLast_89 rfl (lv_at hl 2 rfl) ?_
              refine lv_aload_n hx hb d_T_growLast_90 rfl (lv_at hl 0 rfl) ?_
              refine gw_get (v := .int ((sF (sF M15 2 x0 v4_15.toNatClampNeg a1) 0 x0 6 (v4_15 + 1)).1 0 x0 6)) S hw (xa_T x0) rfl (by decide) n_T_T f_44 rfl d_T_growLast_91 ?_
              refine lv_isub hx hb d_T_growLast_94 ?_
              exact hend H locs ls 95 _ _ (Prod.mk.inj (Option.some.inj hj)).1 (congrArg (wX cI cT ad) (Prod.mk.inj (Option.some.inj hj)).2) hw d_T_growLast_95
            · rw [if_neg c_28] at hj
              refine lv_aload_n hx hb d_T_growLast_62 rfl (lv_at hl 0 rfl) ?_
              refine gw_get (v := .ref (ad (22 + x0.val))) S hw (xa_T x0) rfl (by decide) n_T_T f_18 rfl d_T_growLast_63 ?_
              refine lv_iload hx hb d_T_growLast_66 (lv_at hl 4 rfl) ?_
              refine lv_iload_n hx hb d_T_growLast_68 rfl (lv_at hl 3 rfl) ?_
              obtain ⟨g_30, hj⟩ := gw_if hj
              refine gw_iast (t0 := 0) S hw ⟨xa_sg x0, rfl⟩ g_30 (xs_sg x0 v4_15.toNatClampNeg v3_15) d_T_growLast_69 (fun H locs hw => ?_)
              refine lv_iinc (v := (v4_15 + 1)) (lv' := [(4, .int (v4_15 + 1)), (0, .ref (ad (6 + x0.val))), (1, .int a1), (2, .int (M.1 0 x0 6)), (3, .int v3_15)]) hx hb d_T_growLast_70 hl (k := 4) rfl rfl (by decide) rfl (fun ls hl => ?_)
              refine lv_aload_n hx hb d_T_growLast_73 rfl (lv_at hl 1 rfl) ?_
              refine gw_get (v := .ref (ad (22 + x0.val))) S hw (xa_T x0) rfl (by decide) n_T_T f_18 rfl d_T_growLast_74 ?_
              refine lv_iload hx hb d_T_growLast_77 (lv_at hl 0 rfl) ?_
              refine lv_iload_n hx hb d_T_growLast_79 rfl (lv_at hl 2 rfl) ?_
              obtain ⟨g_31, hj⟩ := gw_if hj
              refine gw_iast (t0 := 0) S hw ⟨xa_sg x0, rfl⟩ g_31 (xs_sg x0 (v4_15 + 1).toNatClampNeg a1) d_T_growLast_80 (fun H locs hw => ?_)
              refine lv_aload_n hx hb d_T_growLast_81 rfl (lv_at hl 1 rfl) ?_
              refine lv_iload hx hb d_T_growLast_82 (lv_at hl 0 rfl) ?_
              refine lv_iconst (v := 1) hx hb d_T_growLast_84 (by decide) ?_
              refine lv_iadd hx hb d_T_growLast_85 ?_
              refine gw_put (v := .int ((v4_15 + 1) + 1)) (ty := .int) S hw (xa_T x0) rfl (by decide) n_T_T f_44 tk_T nm_T rfl (by decide +kernel) rfl rfl (Nat.le_of_ble_eq_true rfl) (xs_T x0 6 ((v4_15 + 1) + 1) (by decide)) d_T_growLast_86 (fun H locs hw => ?_)
              refine lv_iload_n hx hb d_T_growLast_89 rfl (lv_at hl 3 rfl) ?_
              refine lv_aload_n hx hb d_T_growLast_90 rfl (lv_at hl 1 rfl) ?_
              refine gw_get (v := .int ((sF (sF (sF M15 2 x0 v4_15.toNatClampNeg v3_15) 2 x0 (v4_15 + 1).toNatClampNeg a1) 0 x0 6 ((v4_15 + 1) + 1)).1 0 x0 6)) S hw (xa_T x0) rfl (by decide) n_T_T f_44 rfl d_T_growLast_91 ?_
              refine lv_isub hx hb d_T_growLast_94 ?_
              exact hend H locs ls 95 _ _ (Prod.mk.inj (Option.some.inj hj)).1 (congrArg (wX cI cT ad) (Prod.mk.inj (Option.some.inj hj)).2) hw d_T_growLast_95
        · rw [if_neg c_25] at hj
          refine lv_iload_n hx hb d_T_growLast_34 rfl (lv_at hl 3 rfl) ?_
          refine lv_aload_n hx hb d_T_growLast_35 rfl (lv_at hl 0 rfl) ?_
          refine gw_get (v := .ref (ad (22 + x0.val))) S hw (xa_T x0) rfl (by decide) n_T_T f_18 rfl d_T_growLast_36 ?_
          refine lv_iload hx hb d_T_growLast_39 (lv_at hl 4 rfl) ?_
          obtain ⟨g_32, hj⟩ := gw_if hj
          refine gw_iald (t0 := 0) S hw ⟨xa_sg x0, rfl⟩ g_32 d_T_growLast_41 ?_
          refine lv_isub hx hb d_T_growLast_42 ?_
          refine lv_istore_n (lv' := [(3, .int (v3_15 - (M15.1 2 x0 v4_15.toNatClampNeg))), (0, .ref (ad (6 + x0.val))), (1, .int a1), (2, .int (M.1 0 x0 6)), (4, .int v4_15)]) hx hb d_T_growLast_43 rfl hl (by decide) rfl (fun ls hl => ?_)
          refine lv_iinc (v := (v4_15 + 1)) (lv' := [(4, .int (v4_15 + 1)), (3, .int (v3_15 - (M15.1 2 x0 v4_15.toNatClampNeg))), (0, .ref (ad (6 + x0.val))), (1, .int a1), (2, .int (M.1 0 x0 6))]) hx hb d_T_growLast_44 hl (k := 4) rfl rfl (by decide) rfl (fun ls hl => ?_)
          refine lv_goto (tgt := 15) hx hb d_T_growLast_47 (by decide) ?_
          exact ih15 (v3_15 - (M15.1 2 x0 v4_15.toNatClampNeg)) (v4_15 + 1) M15 hj H locs hw ls (lv_sub hl [2, 3, 4, 1, 0] rfl)
  exact L15 n ((M.1 0 x0 7) - a1) 0 M hj H locs hw ls (lv_sub hl [3, 4, 2, 1, 0] rfl)
end
section
abbrev rm_A_stretchTasks : Room := { frames := 5, cells := 0, slots := 0, locals := 126 }
def ws_A_stretchTasks : List Cond := Cond.code y_A_stretchTasks b_A_stretchTasks 5 (some .int) :: wB
set_option maxHeartbeats 4000000 in
set_option maxRecDepth 100000 in
theorem c_A_stretchTasks {l : Launch} {D : va_G} {cI cT : ClassId} {ad : Nat → Nat} {n : Nat} {M : MX} {r0 : Int32} {M0 : MX} (hj : j_A_stretchTasks n M = some (r0, M0)) : gw_Ci l y_A_stretchTasks ws_A_stretchTasks rm_A_stretchTasks D (tyX cI cT) (wX cI cT ad M) [.ref (ad 4)] r0 (wX cI cT ad M0) := by
  intro sz
  refine gw_meti (cc := b_A_stretchTasks) (maxL := 5) (by decide) rfl (Nat.le_of_ble_eq_true rfl) ?_
  intro p e s m args below meth c A Q S H locs hw hend ls hl
  have S : CallFix p m c b_A_stretchTasks 5 s args ws_A_stretchTasks R_A := S
  have hx := S.1
  have hb := S.2.1
  have hts := S.2.2.2.2
  have hl : lv_has ls 5 [(0, .ref (ad 4))] := hl
  have n_T_A : ∀ w ∈ u_ws R_A T_A 3, w ∈ ws_A_stretchTasks := fun w h => List.mem_cons_of_mem _ (uT_A w h)
  have n_T_S : ∀ w ∈ u_ws R_S T_S 3, w ∈ ws_A_stretchTasks := fun w h => List.mem_cons_of_mem _ (uT_S w h)
  have n_T_T : ∀ w ∈ u_ws R_T T_T 13, w ∈ ws_A_stretchTasks := fun w h => List.mem_cons_of_mem _ (uT_T w h)
  have f_9 : Cond.fieldLink R_A 9 (T_A 0).1 (T_A 0).2.1 (T_A 0).2.2.1 ∈ ws_A_stretchTasks := List.mem_cons_of_mem _ xw_115
  have f_43 : Cond.fieldLink R_A 43 (T_S 2).1 (T_S 2).2.1 (T_S 2).2.2.1 ∈ ws_A_stretchTasks := List.mem_cons_of_mem _ xw_153
  have f_46 : Cond.fieldLink R_A 46 (T_S 1).1 (T_S 1).2.1 (T_S 1).2.2.1 ∈ ws_A_stretchTasks := List.mem_cons_of_mem _ xw_116
  have f_82 : Cond.fieldLink R_A 82 (T_T 7).1 (T_T 7).2.1 (T_T 7).2.2.1 ∈ ws_A_stretchTasks := List.mem_cons_of_mem _ xw_117
  have k_81 := hts _ (List.mem_cons_of_mem _ xw_135)
  have m_85 := hts _ (List.mem_cons_of_mem _ xw_170)
  have ms_min := hts _ (List.mem_cons_of_mem _ xw_171)
  have mc_min := hts _ (List.mem_cons_of_mem _ xw_172)
  have mi_ := hts _ (List.mem_cons_of_mem _ xw_90)
  have w_78 : CallW rm_A_stretchTasks s args R_A R_A 78 y_A_greatestBorne b_A_greatestBorne 6 (some .int) ws_A_greatestBorne rm_A_greatestBorne 0 0 1 := cwV 1 hts (wB_callV (fun w h => List.mem_cons_of_mem _ h) xw_166 xw_167 xw_168 xw_169 xw_127) rfl rfl rfl (by decide +kernel) ⟨Nat.le_of_ble_eq_true rfl, Nat.le_of_ble_eq_true rfl⟩
  have w_91 : CallW rm_A_stretchTasks s args R_A R_T 91 y_T_growLast b_T_growLast 5 (some .int) ws_T_growLast rm_T_growLast 0 0 1 := cwV 1 hts (wB_callV (fun w h => List.mem_cons_of_mem _ h) xw_173 xw_174 xw_175 xw_176 xw_21) rfl rfl rfl (by decide +kernel) ⟨Nat.le_of_ble_eq_true rfl, Nat.le_of_ble_eq_true rfl⟩
  have w_95 : CallW rm_A_stretchTasks s args R_A R_S 95 y_S_forgetFindings b_S_forgetFindings 2 none ws_S_forgetFindings rm_S_forgetFindings 0 0 0 := cwV 0 hts (wB_callV (fun w h => List.mem_cons_of_mem _ h) xw_38 xw_177 xw_40 xw_41 xw_14) rfl rfl rfl (by decide +kernel) ⟨Nat.le_of_ble_eq_true rfl, Nat.le_of_ble_eq_true rfl⟩
  unfold j_A_stretchTasks at hj
  refine lv_iconst (v := 0) hx hb d_A_stretchTasks_0 (by decide) ?_
  refine lv_istore_n (lv' := [(1, .int 0), (0, .ref (ad 4))]) hx hb d_A_stretchTasks_1 rfl hl (by decide) rfl (fun ls hl => ?_)
  refine lv_ldc (v := 1000000000) hx hb S.2.2.2.1 k_81 d_A_stretchTasks_2 ?_
  refine lv_istore_n (lv' := [(2, .int 1000000000), (1, .int 0), (0, .ref (ad 4))]) hx hb d_A_stretchTasks_4 rfl hl (by decide) rfl (fun ls hl => ?_)
  refine lv_iconst (v := 0) hx hb d_A_stretchTasks_5 (by decide) ?_
  refine lv_istore_n (lv' := [(3, .int 0), (2, .int 1000000000), (1, .int 0), (0, .ref (ad 4))]) hx hb d_A_stretchTasks_6 rfl hl (by decide) rfl (fun ls hl => ?_)
  have L7 : ∀ (f7 : Nat) (v1_7 : Int32) (v2_7 : Int32) (v3_7 : Int32) (M7 : MX), j_A_stretchTasks_L7 n f7 v1_7 v2_7 v3_7 M7 = some (r0, M0) → ∀ (H : Heap) (locs : List Loc), gw_W D (tyX cI cT) A (wX cI cT ad M7) s H locs → ∀ ls : Array Slot, lv_has ls 5 [(0, .ref (ad 4)), (1, .int v1_7), (2, .int v2_7), (3, .int v3_7)] → W p l e rm_A_stretchTasks s m args below meth c H locs 0 0 Q (F0 m 7 ls []) := by
    intro f7
    induction f7 with
    | zero =>
      intro v1_7 v2_7 v3_7 M7 hj
      exact nomatch (show (none : Option (Int32 × MX)) = some (r0, M0) from hj)
    | succ f7 ih7 =>
      intro v1_7 v2_7 v3_7 M7 hj H locs hw ls hl
      rw [j_A_stretchTasks_L7] at hj
      refine lv_iload_n hx hb d_A_stretchTasks_7 rfl (lv_at hl 3 rfl) ?_
      refine lv_aload_n hx hb d_A_stretchTasks_8 rfl (lv_at hl 0 rfl) ?_
      refine gw_get (v := .ref (ad 1)) S hw xa_A rfl (by decide) n_T_A f_9 rfl d_A_stretchTasks_9 ?_
      refine gw_get (v := .int (M7.2.1 0 2)) S hw xa_S rfl (by decide) n_T_S f_43 rfl d_A_stretchTasks_12 ?_
      refine lv_icmp_ge (tgt := 65) hx hb d_A_stretchTasks_15 (by decide) (fun c_9 => ?_) (fun c_9 => ?_)
      · rw [if_pos c_9] at hj
        refine lv_aload_n hx hb d_A_stretchTasks_65 rfl (lv_at hl 0 rfl) ?_
        refine gw_get (v := .ref (ad 1)) S hw xa_A rfl (by decide) n_T_A f_9 rfl d_A_stretchTasks_66 ?_
        obtain ⟨M_11, e_10, hj⟩ := Option.bind_eq_some_iff.mp hj
        refine gw_callv (As := []) (rest := []) S hw (c_S_forgetFindings e_10) w_95 xa_S rfl rfl hl.1 rfl (Nat.le_of_ble_eq_true rfl) d_A_stretchTasks_69 (fun H locs hw => ?_)
        refine lv_iload_n hx hb d_A_stretchTasks_72 rfl (lv_at hl 1 rfl) ?_
        exact hend H locs ls 73 _ _ (Prod.mk.inj (Option.some.inj hj)).1 (congrArg (wX cI cT ad) (Prod.mk.inj (Option.some.inj hj)).2) hw d_A_stretchTasks_73
      · rw [if_neg c_9] at hj
        refine lv_aload_n hx hb d_A_stretchTasks_18 rfl (lv_at hl 0 rfl) ?_
        refine gw_get (v := .ref (ad 1)) S hw xa_A rfl (by decide) n_T_A f_9 rfl d_A_stretchTasks_19 ?_
        refine gw_get (v := .ref (ad 3)) S hw xa_S rfl (by decide) n_T_S f_46 rfl d_A_stretchTasks_22 ?_
        refine lv_iload_n hx hb d_A_stretchTasks_25 rfl (lv_at hl 3 rfl) ?_
        obtain ⟨g_12, hj⟩ := gw_if hj
        refine gw_aldq (t0 := 1) S hw ⟨xa_rk, rfl⟩ g_12 d_A_stretchTasks_26 ?_
        refine lv_astore (lv' := [(4, .ref (ad (6 + (M7.2.2.1 v3_7.toNatClampNeg).val))), (0, .ref (ad 4)), (1, .int v1_7), (2, .int v2_7), (3, .int v3_7)]) hx hb d_A_stretchTasks_27 hl (by decide) rfl (fun ls hl => ?_)
        refine lv_iload_n hx hb d_A_stretchTasks_29 rfl (lv_at hl 2 rfl) ?_
        refine lv_aload hx hb d_A_stretchTasks_30 (lv_at hl 0 rfl) ?_
        refine lv_aload hx hb d_A_stretchTasks_32 (lv_at hl 0 rfl) ?_
        refine gw_get (v := .int (M7.1 0 (M7.2.2.1 v3_7.toNatClampNeg) 7)) S hw (xa_T (M7.2.2.1 v3_7.toNatClampNeg)) rfl (by decide) n_T_T f_82 rfl d_A_stretchTasks_34 ?_
        refine lv_iload_n hx hb d_A_stretchTasks_37 rfl (lv_at hl 3 rfl) ?_
        refine va_mmin hx hb (S.2.2.1.trans hl.1.symm) S.2.2.2.1 m_85 ms_min mi_ mc_min (by decide) (Nat.le_of_ble_eq_true rfl) (Nat.zero_le _) (Nat.zero_le _) d_A_stretchTasks_38 ?_
        obtain ⟨q_14, e_13, hj⟩ := Option.bind_eq_some_iff.mp hj
        refine gw_calli (As := [.int (if v2_7 < (M7.1 0 (M7.2.2.1 v3_7.toNatClampNeg) 7) then v2_7 else (M7.1 0 (M7.2.2.1 v3_7.toNatClampNeg) 7))]) (rest := [.int v1_7]) S hw (c_T_growLast e_13) w_91 (xa_T (M7.2.2.1 v3_7.toNatClampNeg)) rfl rfl hl.1 rfl (Nat.le_of_ble_eq_true rfl) d_A_stretchTasks_41 (fun H locs hw => ?_)
        refine lv_iadd hx hb d_A_stretchTasks_44 ?_
        refine lv_istore_n (lv' := [(1, .int (v1_7 + q_14.1)), (4, .ref (ad (6 + (M7.2.2.1 v3_7.toNatClampNeg).val))), (0, .ref (ad 4)), (2, .int v2_7), (3, .int v3_7)]) hx hb d_A_stretchTasks_45 rfl hl (by decide) rfl (fun ls hl => ?_)
        refine lv_iload_n hx hb d_A_stretchTasks_46 rfl (lv_at hl 3 rfl) ?_
        refine lv_aload_n hx hb d_A_stretchTasks_47 rfl (lv_at hl 2 rfl) ?_
        refine lv_aload hx hb d_A_stretchTasks_48 (lv_at hl 1 rfl) ?_
        obtain ⟨q_16, e_15, hj⟩ := Option.bind_eq_some_iff.mp hj
        refine gw_calli (As := [.ref (ad (6 + (M7.2.2.1 v3_7.toNatClampNeg).val))]) (rest := [.int v2_7]) S hw (c_A_greatestBorne e_15) w_78 xa_A rfl rfl hl.1 rfl (Nat.le_of_ble_eq_true rfl) d_A_stretchTasks_50 (fun H locs hw => ?_)
        refine lv_iconst (v := 1) hx hb d_A_stretchTasks_53 (by decide) ?_
        refine lv_iadd hx hb d_A_stretchTasks_54 ?_
        refine va_mmin hx hb (S.2.2.1.trans hl.1.symm) S.2.2.2.1 m_85 ms_min mi_ mc_min (by decide) (Nat.le_of_ble_eq_true rfl) (Nat.zero_le _) (Nat.zero_le _) d_A_stretchTasks_55 ?_
        refine lv_istore_n (lv' := [(2, .int (if (q_16.1 + 1) < v2_7 then (q_16.1 + 1) else v2_7)), (1, .int (v1_7 + q_14.1)), (4, .ref (ad (6 + (M7.2.2.1 v3_7.toNatClampNeg).val))), (0, .ref (ad 4)), (3, .int v3_7)]) hx hb d_A_stretchTasks_58 rfl hl (by decide) rfl (fun ls hl => ?_)
        refine lv_iinc (v := (v3_7 + 1)) (lv' := [(3, .int (v3_7 + 1)), (2, .int (if (q_16.1 + 1) < v2_7 then (q_16.1 + 1) else v2_7)), (1, .int (v1_7 + q_14.1)), (4, .ref (ad (6 + (M7.2.2.1 v3_7.toNatClampNeg).val))), (0, .ref (ad 4))]) hx hb d_A_stretchTasks_59 hl (k := 4) rfl rfl (by decide) rfl (fun ls hl => ?_)
        refine lv_goto (tgt := 7) hx hb d_A_stretchTasks_62 (by decide) ?_
        exact ih7 (v1_7 + q_14.1) (if (q_16.1 + 1) < v2_7 then (q_16.1 + 1) else v2_7) (v3_7 + 1) q_16.2 hj H locs hw ls (lv_sub hl [4, 2, 1, 0] rfl)
  exact L7 n 0 1000000000 0 M hj H locs hw ls (lv_sub hl [3, 2, 1, 0] rfl)
abbrev rm_A_highestBelowWith : Room := { frames := 2, cells := 0, slots := 0, locals := 43 }
def ws_A_highestBelowWith : List Cond := Cond.code y_A_highestBelowWith b_A_highestBelowWith 4 (some (.object "SegmentKernel$Task")) :: wB
set_option maxHeartbeats 4000000 in
set_option maxRecDepth 100000 in
theorem c_A_highestBelowWith {l : Launch} {D : va_G} {cI cT : ClassId} {ad : Nat → Nat} {n : Nat} {M : MX} {x1 : Fin 8} {a2 : Int32} {r0 : Fin 8} (hj : j_A_highestBelowWith n M x1 a2 = some r0) : gw_Cq l y_A_highestBelowWith ws_A_highestBelowWith rm_A_highestBelowWith D (tyX cI cT) (wX cI cT ad M) [.ref (ad 4), .ref (ad (6 + x1.val)), .int a2] (gw_oa ad (some r0)) (wX cI cT ad M) := by
  intro sz
  refine gw_metq (cc := b_A_highestBelowWith) (maxL := 4) (by decide) rfl (Nat.le_of_ble_eq_true rfl) ?_
  intro p e s m args below meth c A Q S H locs hw hend ls hl
  have S : CallFix p m c b_A_highestBelowWith 4 s args ws_A_highestBelowWith R_A := S
  have hx := S.1
  have hb := S.2.1
  have hts := S.2.2.2.2
  have hl : lv_has ls 4 [(0, .ref (ad 4)), (1, .ref (ad (6 + x1.val))), (2, .int a2)] := hl
  have n_T_A : ∀ w ∈ u_ws R_A T_A 3, w ∈ ws_A_highestBelowWith := fun w h => List.mem_cons_of_mem _ (uT_A w h)
  have n_T_S : ∀ w ∈ u_ws R_S T_S 3, w ∈ ws_A_highestBelowWith := fun w h => List.mem_cons_of_mem _ (uT_S w h)
  have n_T_T : ∀ w ∈ u_ws R_T T_T 13, w ∈ ws_A_highestBelowWith := fun w h => List.mem_cons_of_mem _ (uT_T w h)
  have f_9 : Cond.fieldLink R_A 9 (T_A 0).1 (T_A 0).2.1 (T_A 0).2.2.1 ∈ ws_A_highestBelowWith := List.mem_cons_of_mem _ xw_115
  have f_43 : Cond.fieldLink R_A 43 (T_S 2).1 (T_S 2).2.1 (T_S 2).2.2.1 ∈ ws_A_highestBelowWith := List.mem_cons_of_mem _ xw_153
  have f_46 : Cond.fieldLink R_A 46 (T_S 1).1 (T_S 1).2.1 (T_S 1).2.2.1 ∈ ws_A_highestBelowWith := List.mem_cons_of_mem _ xw_116
  have f_118 : Cond.fieldLink R_A 118 (T_T 8).1 (T_T 8).2.1 (T_T 8).2.2.1 ∈ ws_A_highestBelowWith := List.mem_cons_of_mem _ xw_118
  have w_121 : CallW rm_A_highestBelowWith s args R_A R_T 121 y_T_longestSegment b_T_longestSegment 3 (some .int) ws_T_longestSegment rm_T_longestSegment 0 0 0 := cwV 0 hts (wB_callV (fun w h => List.mem_cons_of_mem _ h) xw_92 xw_178 xw_94 xw_95 xw_21) rfl rfl rfl (by decide +kernel) ⟨Nat.le_of_ble_eq_true rfl, Nat.le_of_ble_eq_true rfl⟩
  unfold j_A_highestBelowWith at hj
  refine lv_aload_n hx hb d_A_highestBelowWith_0 rfl (lv_at hl 1 rfl) ?_
  refine gw_get (v := .int (M.1 0 x1 8)) S hw (xa_T x1) rfl (by decide) n_T_T f_118 rfl d_A_highestBelowWith_1 ?_
  refine lv_iconst (v := 1) hx hb d_A_highestBelowWith_4 (by decide) ?_
  refine lv_iadd hx hb d_A_highestBelowWith_5 ?_
  refine lv_istore_n (lv' := [(3, .int ((M.1 0 x1 8) + 1)), (0, .ref (ad 4)), (1, .ref (ad (6 + x1.val))), (2, .int a2)]) hx hb d_A_highestBelowWith_6 rfl hl (by decide) rfl (fun ls hl => ?_)
  have L7 : ∀ (f7 : Nat) (v3_7 : Int32), j_A_highestBelowWith_L7 n M x1 a2 f7 v3_7 = some r0 → ∀ (H : Heap) (locs : List Loc), gw_W D (tyX cI cT) A (wX cI cT ad M) s H locs → ∀ ls : Array Slot, lv_has ls 4 [(0, .ref (ad 4)), (1, .ref (ad (6 + x1.val))), (2, .int a2), (3, .int v3_7)] → W p l e rm_A_highestBelowWith s m args below meth c H locs 0 0 Q (F0 m 7 ls []) := by
    intro f7
    induction f7 with
    | zero =>
      intro v3_7 hj
      exact nomatch (show (none : Option (Fin 8)) = some r0 from hj)
    | succ f7 ih7 =>
      intro v3_7 hj H locs hw ls hl
      rw [j_A_highestBelowWith_L7] at hj
      refine lv_iload_n hx hb d_A_highestBelowWith_7 rfl (lv_at hl 3 rfl) ?_
      refine lv_aload_n hx hb d_A_highestBelowWith_8 rfl (lv_at hl 0 rfl) ?_
      refine gw_get (v := .ref (ad 1)) S hw xa_A rfl (by decide) n_T_A f_9 rfl d_A_highestBelowWith_9 ?_
      refine gw_get (v := .int (M.2.1 0 2)) S hw xa_S rfl (by decide) n_T_S f_43 rfl d_A_highestBelowWith_12 ?_
      refine lv_icmp_ge (tgt := 50) hx hb d_A_highestBelowWith_15 (by decide) (fun c_7 => ?_) (fun c_7 => ?_)
      · rw [if_pos c_7] at hj
        refine lv_aload_n hx hb d_A_highestBelowWith_50 rfl (lv_at hl 1 rfl) ?_
        exact hend H locs ls 51 _ _ (congrArg (fun z => gw_oa ad (some z)) (Option.some.inj hj)) rfl hw d_A_highestBelowWith_51
      · rw [if_neg c_7] at hj
        refine lv_aload_n hx hb d_A_highestBelowWith_18 rfl (lv_at hl 0 rfl) ?_
        refine gw_get (v := .ref (ad 1)) S hw xa_A rfl (by decide) n_T_A f_9 rfl d_A_highestBelowWith_19 ?_
        refine gw_get (v := .ref (ad 3)) S hw xa_S rfl (by decide) n_T_S f_46 rfl d_A_highestBelowWith_22 ?_
        refine lv_iload_n hx hb d_A_highestBelowWith_25 rfl (lv_at hl 3 rfl) ?_
        obtain ⟨g_8, hj⟩ := gw_if hj
        refine gw_aldq (t0 := 1) S hw ⟨xa_rk, rfl⟩ g_8 d_A_highestBelowWith_26 ?_
        obtain ⟨r_10, e_9, hj⟩ := Option.bind_eq_some_iff.mp hj
        refine gw_calli (As := []) (rest := []) S hw (c_T_longestSegment e_9) w_121 (xa_T (M.2.2.1 v3_7.toNatClampNeg)) rfl rfl hl.1 rfl (Nat.le_of_ble_eq_true rfl) d_A_highestBelowWith_27 (fun H locs hw => ?_)
        refine lv_iload_n hx hb d_A_highestBelowWith_30 rfl (lv_at hl 2 rfl) ?_
        refine lv_icmp_ne (tgt := 44) hx hb d_A_highestBelowWith_31 (by decide) (fun c_11 => ?_) (fun c_11 => ?_)
        · rw [if_neg c_11] at hj
          refine lv_iinc (v := (v3_7 + 1)) (lv' := [(3, .int (v3_7 + 1)), (0, .ref (ad 4)), (1, .ref (ad (6 + x1.val))), (2, .int a2)]) hx hb d_A_highestBelowWith_44 hl (k := 3) rfl rfl (by decide) rfl (fun ls hl => ?_)
          refine lv_goto (tgt := 7) hx hb d_A_highestBelowWith_47 (by decide) ?_
          exact ih7 (v3_7 + 1) hj H locs hw ls (lv_sub hl [1, 2, 3, 0] rfl)
        · rw [if_pos c_11] at hj
          refine lv_aload_n hx hb d_A_highestBelowWith_34 rfl (lv_at hl 0 rfl) ?_
          refine gw_get (v := .ref (ad 1)) S hw xa_A rfl (by decide) n_T_A f_9 rfl d_A_highestBelowWith_35 ?_
          refine gw_get (v := .ref (ad 3)) S hw xa_S rfl (by decide) n_T_S f_46 rfl d_A_highestBelowWith_38 ?_
          refine lv_iload_n hx hb d_A_highestBelowWith_41 rfl (lv_at hl 3 rfl) ?_
          obtain ⟨g_12, hj⟩ := gw_if hj
          refine gw_aldq (t0 := 1) S hw ⟨xa_rk, rfl⟩ g_12 d_A_highestBelowWith_42 ?_
          exact hend H locs ls 43 _ _ (congrArg (fun z => gw_oa ad (some z)) (Option.some.inj hj)) rfl hw d_A_highestBelowWith_43
  exact L7 n ((M.1 0 x1 8) + 1) hj H locs hw ls (lv_sub hl [1, 2, 3, 0] rfl)
abbrev rm_T_workAheadOf : Room := { frames := 0, cells := 0, slots := 0, locals := 0 }
def ws_T_workAheadOf : List Cond := Cond.code y_T_workAheadOf b_T_workAheadOf 4 (some .int) :: wB
set_option maxHeartbeats 4000000 in
set_option maxRecDepth 100000 in
theorem c_T_workAheadOf {l : Launch} {D : va_G} {cI cT : ClassId} {ad : Nat → Nat} {n : Nat} {M : MX} {x0 : Fin 8} {a1 : Int32} {r0 : Int32} (hj : j_T_workAheadOf n M x0 a1 = some r0) : gw_Ci l y_T_workAheadOf ws_T_workAheadOf rm_T_workAheadOf D (tyX cI cT) (wX cI cT ad M) [.ref (ad (6 + x0.val)), .int a1] r0 (wX cI cT ad M) := by
  intro sz
  refine gw_meti (cc := b_T_workAheadOf) (maxL := 4) (by decide) rfl (Nat.le_of_ble_eq_true rfl) ?_
  intro p e s m args below meth c A Q S H locs hw hend ls hl
  have S : CallFix p m c b_T_workAheadOf 4 s args ws_T_workAheadOf R_T := S
  have hx := S.1
  have hb := S.2.1
  have hts := S.2.2.2.2
  have hl : lv_has ls 4 [(0, .ref (ad (6 + x0.val))), (1, .int a1)] := hl
  have n_T_T : ∀ w ∈ u_ws R_T T_T 13, w ∈ ws_T_workAheadOf := fun w h => List.mem_cons_of_mem _ (uT_T w h)
  have f_18 : Cond.fieldLink R_T 18 (T_T 2).1 (T_T 2).2.1 (T_T 2).2.2.1 ∈ ws_T_workAheadOf := List.mem_cons_of_mem _ xw_49
  have f_44 : Cond.fieldLink R_T 44 (T_T 6).1 (T_T 6).2.1 (T_T 6).2.2.1 ∈ ws_T_workAheadOf := List.mem_cons_of_mem _ xw_8
  unfold j_T_workAheadOf at hj
  refine lv_iconst (v := 0) hx hb d_T_workAheadOf_0 (by decide) ?_
  refine lv_istore_n (lv' := [(2, .int 0), (0, .ref (ad (6 + x0.val))), (1, .int a1)]) hx hb d_T_workAheadOf_1 rfl hl (by decide) rfl (fun ls hl => ?_)
  refine lv_iconst (v := 0) hx hb d_T_workAheadOf_2 (by decide) ?_
  refine lv_istore_n (lv' := [(3, .int 0), (2, .int 0), (0, .ref (ad (6 + x0.val))), (1, .int a1)]) hx hb d_T_workAheadOf_3 rfl hl (by decide) rfl (fun ls hl => ?_)
  have L4 : ∀ (f4 : Nat) (v2_4 : Int32) (v3_4 : Int32), j_T_workAheadOf_L4 n M x0 a1 f4 v2_4 v3_4 = some r0 → ∀ (H : Heap) (locs : List Loc), gw_W D (tyX cI cT) A (wX cI cT ad M) s H locs → ∀ ls : Array Slot, lv_has ls 4 [(0, .ref (ad (6 + x0.val))), (1, .int a1), (2, .int v2_4), (3, .int v3_4)] → W p l e rm_T_workAheadOf s m args below meth c H locs 0 0 Q (F0 m 4 ls []) := by
    intro f4
    induction f4 with
    | zero =>
      intro v2_4 v3_4 hj
      exact nomatch (show (none : Option Int32) = some r0 from hj)
    | succ f4 ih4 =>
      intro v2_4 v3_4 hj H locs hw ls hl
      rw [j_T_workAheadOf_L4] at hj
      refine lv_iload_n hx hb d_T_workAheadOf_4 rfl (lv_at hl 3 rfl) ?_
      refine lv_aload_n hx hb d_T_workAheadOf_5 rfl (lv_at hl 0 rfl) ?_
      refine gw_get (v := .int (M.1 0 x0 6)) S hw (xa_T x0) rfl (by decide) n_T_T f_44 rfl d_T_workAheadOf_6 ?_
      refine lv_icmp_ge (tgt := 37) hx hb d_T_workAheadOf_9 (by decide) (fun c_5 => ?_) (fun c_5 => ?_)
      · rw [if_pos c_5] at hj
        refine lv_iload_n hx hb d_T_workAheadOf_37 rfl (lv_at hl 2 rfl) ?_
        exact hend H locs ls 38 _ _ (Option.some.inj hj) rfl hw d_T_workAheadOf_38
      · rw [if_neg c_5] at hj
        refine lv_aload_n hx hb d_T_workAheadOf_12 rfl (lv_at hl 0 rfl) ?_
        refine gw_get (v := .ref (ad (22 + x0.val))) S hw (xa_T x0) rfl (by decide) n_T_T f_18 rfl d_T_workAheadOf_13 ?_
        refine lv_iload_n hx hb d_T_workAheadOf_16 rfl (lv_at hl 3 rfl) ?_
        obtain ⟨g_6, hj⟩ := gw_if hj
        refine gw_iald (t0 := 0) S hw ⟨xa_sg x0, rfl⟩ g_6 d_T_workAheadOf_17 ?_
        refine lv_iload_n hx hb d_T_workAheadOf_18 rfl (lv_at hl 1 rfl) ?_
        refine lv_icmp_eq (tgt := 37) hx hb d_T_workAheadOf_19 (by decide) (fun c_7 => ?_) (fun c_7 => ?_)
        · rw [if_pos c_7] at hj
          refine lv_iload_n hx hb d_T_workAheadOf_37 rfl (lv_at hl 2 rfl) ?_
          exact hend H locs ls 38 _ _ (Option.some.inj hj) rfl hw d_T_workAheadOf_38
        · rw [if_neg c_7] at hj
          refine lv_iload_n hx hb d_T_workAheadOf_22 rfl (lv_at hl 2 rfl) ?_
          refine lv_aload_n hx hb d_T_workAheadOf_23 rfl (lv_at hl 0 rfl) ?_
          refine gw_get (v := .ref (ad (22 + x0.val))) S hw (xa_T x0) rfl (by decide) n_T_T f_18 rfl d_T_workAheadOf_24 ?_
          refine lv_iload_n hx hb d_T_workAheadOf_27 rfl (lv_at hl 3 rfl) ?_
          obtain ⟨g_8, hj⟩ := gw_if hj
          refine gw_iald (t0 := 0) S hw ⟨xa_sg x0, rfl⟩ g_8 d_T_workAheadOf_28 ?_
          refine lv_iadd hx hb d_T_workAheadOf_29 ?_
          refine lv_istore_n (lv' := [(2, .int (v2_4 + (M.1 2 x0 v3_4.toNatClampNeg))), (0, .ref (ad (6 + x0.val))), (1, .int a1), (3, .int v3_4)]) hx hb d_T_workAheadOf_30 rfl hl (by decide) rfl (fun ls hl => ?_)
          refine lv_iinc (v := (v3_4 + 1)) (lv' := [(3, .int (v3_4 + 1)), (2, .int (v2_4 + (M.1 2 x0 v3_4.toNatClampNeg))), (0, .ref (ad (6 + x0.val))), (1, .int a1)]) hx hb d_T_workAheadOf_31 hl (k := 3) rfl rfl (by decide) rfl (fun ls hl => ?_)
          refine lv_goto (tgt := 4) hx hb d_T_workAheadOf_34 (by decide) ?_
          exact ih4 (v2_4 + (M.1 2 x0 v3_4.toNatClampNeg)) (v3_4 + 1) hj H locs hw ls (lv_sub hl [2, 3, 1, 0] rfl)
  exact L4 n 0 0 hj H locs hw ls (lv_sub hl [2, 3, 1, 0] rfl)
abbrev rm_A_ownArrivalsBy : Room := { frames := 1, cells := 0, slots := 0, locals := 21 }
def ws_A_ownArrivalsBy : List Cond := Cond.code y_A_ownArrivalsBy b_A_ownArrivalsBy 3 (some .int) :: wB
set_option maxHeartbeats 4000000 in
set_option maxRecDepth 100000 in
theorem c_A_ownArrivalsBy {l : Launch} {D : va_G} {cI cT : ClassId} {ad : Nat → Nat} {n : Nat} {M : MX} {x1 : Fin 8} {a2 : Int32} {r0 : Int32} (hj : j_A_ownArrivalsBy n M x1 a2 = some r0) : gw_Ci l y_A_ownArrivalsBy ws_A_ownArrivalsBy rm_A_ownArrivalsBy D (tyX cI cT) (wX cI cT ad M) [.ref (ad 4), .ref (ad (6 + x1.val)), .int a2] r0 (wX cI cT ad M) := by
  intro sz
  refine gw_meti (cc := b_A_ownArrivalsBy) (maxL := 3) (by decide) rfl (Nat.le_of_ble_eq_true rfl) ?_
  intro p e s m args below meth c A Q S H locs hw hend ls hl
  have S : CallFix p m c b_A_ownArrivalsBy 3 s args ws_A_ownArrivalsBy R_A := S
  have hx := S.1
  have hb := S.2.1
  have hts := S.2.2.2.2
  have hl : lv_has ls 3 [(0, .ref (ad 4)), (1, .ref (ad (6 + x1.val))), (2, .int a2)] := hl
  have n_T_T : ∀ w ∈ u_ws R_T T_T 13, w ∈ ws_A_ownArrivalsBy := fun w h => List.mem_cons_of_mem _ (uT_T w h)
  have f_34 : Cond.fieldLink R_A 34 (T_T 10).1 (T_T 10).2.1 (T_T 10).2.2.1 ∈ ws_A_ownArrivalsBy := List.mem_cons_of_mem _ xw_145
  have m_85 := hts _ (List.mem_cons_of_mem _ xw_170)
  have ms_min := hts _ (List.mem_cons_of_mem _ xw_171)
  have mc_min := hts _ (List.mem_cons_of_mem _ xw_172)
  have mi_ := hts _ (List.mem_cons_of_mem _ xw_90)
  have w_124 : CallW rm_A_ownArrivalsBy s args R_A R_T 124 y_T_arrivalsBy b_T_arrivalsBy 2 (some .int) ws_T_arrivalsBy rm_T_arrivalsBy 0 0 1 := cwV 1 hts (wB_callV (fun w h => List.mem_cons_of_mem _ h) xw_119 xw_120 xw_121 xw_122 xw_21) rfl rfl rfl (by decide +kernel) ⟨Nat.le_of_ble_eq_true rfl, Nat.le_of_ble_eq_true rfl⟩
  unfold j_A_ownArrivalsBy at hj
  refine lv_aload_n hx hb d_A_ownArrivalsBy_0 rfl (lv_at hl 1 rfl) ?_
  refine gw_get (v := .int (M.1 0 x1 10)) S hw (xa_T x1) rfl (by decide) n_T_T f_34 rfl d_A_ownArrivalsBy_1 ?_
  refine lv_iconst (v := 1) hx hb d_A_ownArrivalsBy_4 (by decide) ?_
  refine lv_iadd hx hb d_A_ownArrivalsBy_5 ?_
  refine lv_aload_n hx hb d_A_ownArrivalsBy_6 rfl (lv_at hl 1 rfl) ?_
  refine lv_iload_n hx hb d_A_ownArrivalsBy_7 rfl (lv_at hl 2 rfl) ?_
  obtain ⟨r_2, e_1, hj⟩ := Option.bind_eq_some_iff.mp hj
  refine gw_calli (As := [.int a2]) (rest := [.int ((M.1 0 x1 10) + 1)]) S hw (c_T_arrivalsBy e_1) w_124 (xa_T x1) rfl rfl hl.1 rfl (Nat.le_of_ble_eq_true rfl) d_A_ownArrivalsBy_8 (fun H locs hw => ?_)
  refine va_mmin hx hb (S.2.2.1.trans hl.1.symm) S.2.2.2.1 m_85 ms_min mi_ mc_min (by decide) (Nat.le_of_ble_eq_true rfl) (Nat.zero_le _) (Nat.zero_le _) d_A_ownArrivalsBy_11 ?_
  exact hend H locs ls 14 _ _ (Option.some.inj hj) rfl hw d_A_ownArrivalsBy_14
abbrev rm_A_scenarioArrivalsBy : Room := { frames := 2, cells := 0, slots := 0, locals := 43 }
def ws_A_scenarioArrivalsBy : List Cond := Cond.code y_A_scenarioArrivalsBy b_A_scenarioArrivalsBy 5 (some .int) :: wB
set_option maxHeartbeats 4000000 in
set_option maxRecDepth 100000 in
theorem c_A_scenarioArrivalsBy {l : Launch} {D : va_G} {cI cT : ClassId} {ad : Nat → Nat} {n : Nat} {M : MX} {x1 : Fin 8} {a2 : Int32} {r0 : Int32} (hj : j_A_scenarioArrivalsBy n M x1 a2 = some r0) : gw_Ci l y_A_scenarioArrivalsBy ws_A_scenarioArrivalsBy rm_A_scenarioArrivalsBy D (tyX cI cT) (wX cI cT ad M) [.ref (ad 4), .ref (ad (6 + x1.val)), .int a2] r0 (wX cI cT ad M) := by
  intro sz
  refine gw_meti (cc := b_A_scenarioArrivalsBy) (maxL := 5) (by decide) rfl (Nat.le_of_ble_eq_true rfl) ?_
  intro p e s m args below meth c A Q S H locs hw hend ls hl
  have S : CallFix p m c b_A_scenarioArrivalsBy 5 s args ws_A_scenarioArrivalsBy R_A := S
  have hx := S.1
  have hb := S.2.1
  have hts := S.2.2.2.2
  have hl : lv_has ls 5 [(0, .ref (ad 4)), (1, .ref (ad (6 + x1.val))), (2, .int a2)] := hl
  have n_T_A : ∀ w ∈ u_ws R_A T_A 3, w ∈ ws_A_scenarioArrivalsBy := fun w h => List.mem_cons_of_mem _ (uT_A w h)
  have n_T_S : ∀ w ∈ u_ws R_S T_S 3, w ∈ ws_A_scenarioArrivalsBy := fun w h => List.mem_cons_of_mem _ (uT_S w h)
  have n_T_T : ∀ w ∈ u_ws R_T T_T 13, w ∈ ws_A_scenarioArrivalsBy := fun w h => List.mem_cons_of_mem _ (uT_T w h)
  have f_9 : Cond.fieldLink R_A 9 (T_A 0).1 (T_A 0).2.1 (T_A 0).2.2.1 ∈ ws_A_scenarioArrivalsBy := List.mem_cons_of_mem _ xw_115
  have f_46 : Cond.fieldLink R_A 46 (T_S 1).1 (T_S 1).2.1 (T_S 1).2.2.1 ∈ ws_A_scenarioArrivalsBy := List.mem_cons_of_mem _ xw_116
  have f_118 : Cond.fieldLink R_A 118 (T_T 8).1 (T_T 8).2.1 (T_T 8).2.2.1 ∈ ws_A_scenarioArrivalsBy := List.mem_cons_of_mem _ xw_118
  have w_124 : CallW rm_A_scenarioArrivalsBy s args R_A R_T 124 y_T_arrivalsBy b_T_arrivalsBy 2 (some .int) ws_T_arrivalsBy rm_T_arrivalsBy 0 0 1 := cwV 1 hts (wB_callV (fun w h => List.mem_cons_of_mem _ h) xw_119 xw_120 xw_121 xw_122 xw_21) rfl rfl rfl (by decide +kernel) ⟨Nat.le_of_ble_eq_true rfl, Nat.le_of_ble_eq_true rfl⟩
  have w_127 : CallW rm_A_scenarioArrivalsBy s args R_A R_A 127 y_A_ownArrivalsBy b_A_ownArrivalsBy 3 (some .int) ws_A_ownArrivalsBy rm_A_ownArrivalsBy 0 0 2 := cwV 2 hts (wB_callV (fun w h => List.mem_cons_of_mem _ h) xw_179 xw_180 xw_181 xw_182 xw_127) rfl rfl rfl (by decide +kernel) ⟨Nat.le_of_ble_eq_true rfl, Nat.le_of_ble_eq_true rfl⟩
  unfold j_A_scenarioArrivalsBy at hj
  refine lv_aload_n hx hb d_A_scenarioArrivalsBy_0 rfl (lv_at hl 0 rfl) ?_
  refine lv_aload_n hx hb d_A_scenarioArrivalsBy_1 rfl (lv_at hl 1 rfl) ?_
  refine lv_iload_n hx hb d_A_scenarioArrivalsBy_2 rfl (lv_at hl 2 rfl) ?_
  obtain ⟨r_2, e_1, hj⟩ := Option.bind_eq_some_iff.mp hj
  refine gw_calli (As := [.ref (ad (6 + x1.val)), .int a2]) (rest := []) S hw (c_A_ownArrivalsBy e_1) w_127 xa_A rfl rfl hl.1 rfl (Nat.le_of_ble_eq_true rfl) d_A_scenarioArrivalsBy_3 (fun H locs hw => ?_)
  refine lv_istore_n (lv' := [(3, .int r_2), (0, .ref (ad 4)), (1, .ref (ad (6 + x1.val))), (2, .int a2)]) hx hb d_A_scenarioArrivalsBy_6 rfl hl (by decide) rfl (fun ls hl => ?_)
  refine lv_iconst (v := 0) hx hb d_A_scenarioArrivalsBy_7 (by decide) ?_
  refine lv_istore (lv' := [(4, .int 0), (3, .int r_2), (0, .ref (ad 4)), (1, .ref (ad (6 + x1.val))), (2, .int a2)]) hx hb d_A_scenarioArrivalsBy_8 hl (by decide) rfl (fun ls hl => ?_)
  have L10 : ∀ (f10 : Nat) (v3_10 : Int32) (v4_10 : Int32), j_A_scenarioArrivalsBy_L10 n M x1 a2 f10 v3_10 v4_10 = some r0 → ∀ (H : Heap) (locs : List Loc), gw_W D (tyX cI cT) A (wX cI cT ad M) s H locs → ∀ ls : Array Slot, lv_has ls 5 [(0, .ref (ad 4)), (1, .ref (ad (6 + x1.val))), (2, .int a2), (3, .int v3_10), (4, .int v4_10)] → W p l e rm_A_scenarioArrivalsBy s m args below meth c H locs 0 0 Q (F0 m 10 ls []) := by
    intro f10
    induction f10 with
    | zero =>
      intro v3_10 v4_10 hj
      exact nomatch (show (none : Option Int32) = some r0 from hj)
    | succ f10 ih10 =>
      intro v3_10 v4_10 hj H locs hw ls hl
      rw [j_A_scenarioArrivalsBy_L10] at hj
      refine lv_iload hx hb d_A_scenarioArrivalsBy_10 (lv_at hl 4 rfl) ?_
      refine lv_aload_n hx hb d_A_scenarioArrivalsBy_12 rfl (lv_at hl 1 rfl) ?_
      refine gw_get (v := .int (M.1 0 x1 8)) S hw (xa_T x1) rfl (by decide) n_T_T f_118 rfl d_A_scenarioArrivalsBy_13 ?_
      refine lv_icmp_ge (tgt := 42) hx hb d_A_scenarioArrivalsBy_16 (by decide) (fun c_7 => ?_) (fun c_7 => ?_)
      · rw [if_pos c_7] at hj
        refine lv_iload_n hx hb d_A_scenarioArrivalsBy_42 rfl (lv_at hl 3 rfl) ?_
        exact hend H locs ls 43 _ _ (Option.some.inj hj) rfl hw d_A_scenarioArrivalsBy_43
      · rw [if_neg c_7] at hj
        refine lv_iload_n hx hb d_A_scenarioArrivalsBy_19 rfl (lv_at hl 3 rfl) ?_
        refine lv_aload_n hx hb d_A_scenarioArrivalsBy_20 rfl (lv_at hl 0 rfl) ?_
        refine gw_get (v := .ref (ad 1)) S hw xa_A rfl (by decide) n_T_A f_9 rfl d_A_scenarioArrivalsBy_21 ?_
        refine gw_get (v := .ref (ad 3)) S hw xa_S rfl (by decide) n_T_S f_46 rfl d_A_scenarioArrivalsBy_24 ?_
        refine lv_iload hx hb d_A_scenarioArrivalsBy_27 (lv_at hl 4 rfl) ?_
        obtain ⟨g_8, hj⟩ := gw_if hj
        refine gw_aldq (t0 := 1) S hw ⟨xa_rk, rfl⟩ g_8 d_A_scenarioArrivalsBy_29 ?_
        refine lv_iload_n hx hb d_A_scenarioArrivalsBy_30 rfl (lv_at hl 2 rfl) ?_
        obtain ⟨r_10, e_9, hj⟩ := Option.bind_eq_some_iff.mp hj
        refine gw_calli (As := [.int a2]) (rest := [.int v3_10]) S hw (c_T_arrivalsBy e_9) w_124 (xa_T (M.2.2.1 v4_10.toNatClampNeg)) rfl rfl hl.1 rfl (Nat.le_of_ble_eq_true rfl) d_A_scenarioArrivalsBy_31 (fun H locs hw => ?_)
        refine lv_iadd hx hb d_A_scenarioArrivalsBy_34 ?_
        refine lv_istore_n (lv' := [(3, .int (v3_10 + r_10)), (0, .ref (ad 4)), (1, .ref (ad (6 + x1.val))), (2, .int a2), (4, .int v4_10)]) hx hb d_A_scenarioArrivalsBy_35 rfl hl (by decide) rfl (fun ls hl => ?_)
        refine lv_iinc (v := (v4_10 + 1)) (lv' := [(4, .int (v4_10 + 1)), (3, .int (v3_10 + r_10)), (0, .ref (ad 4)), (1, .ref (ad (6 + x1.val))), (2, .int a2)]) hx hb d_A_scenarioArrivalsBy_36 hl (k := 4) rfl rfl (by decide) rfl (fun ls hl => ?_)
        refine lv_goto (tgt := 10) hx hb d_A_scenarioArrivalsBy_39 (by decide) ?_
        exact ih10 (v3_10 + r_10) (v4_10 + 1) hj H locs hw ls (lv_sub hl [2, 3, 4, 1, 0] rfl)
  exact L10 n r_2 0 hj H locs hw ls (lv_sub hl [2, 3, 4, 1, 0] rfl)
abbrev rm_A_timeOfArrival : Room := { frames := 3, cells := 0, slots := 0, locals := 67 }
def ws_A_timeOfArrival : List Cond := Cond.code y_A_timeOfArrival b_A_timeOfArrival 8 (some .int) :: wB
set_option maxHeartbeats 4000000 in
set_option maxRecDepth 100000 in
theorem c_A_timeOfArrival {l : Launch} {D : va_G} {cI cT : ClassId} {ad : Nat → Nat} {n : Nat} {M : MX} {x1 : Fin 8} {a2 : Int32} {a3 : Int32} {r0 : Int32} (hj : j_A_timeOfArrival n M x1 a2 a3 = some r0) : gw_Ci l y_A_timeOfArrival ws_A_timeOfArrival rm_A_timeOfArrival D (tyX cI cT) (wX cI cT ad M) [.ref (ad 4), .ref (ad (6 + x1.val)), .int a2, .int a3] r0 (wX cI cT ad M) := by
  intro sz
  refine gw_meti (cc := b_A_timeOfArrival) (maxL := 8) (by decide) rfl (Nat.le_of_ble_eq_true rfl) ?_
  intro p e s m args below meth c A Q S H locs hw hend ls hl
  have S : CallFix p m c b_A_timeOfArrival 8 s args ws_A_timeOfArrival R_A := S
  have hx := S.1
  have hb := S.2.1
  have hts := S.2.2.2.2
  have hl : lv_has ls 8 [(0, .ref (ad 4)), (1, .ref (ad (6 + x1.val))), (2, .int a2), (3, .int a3)] := hl
  have w_108 : CallW rm_A_timeOfArrival s args R_A R_A 108 y_A_scenarioArrivalsBy b_A_scenarioArrivalsBy 5 (some .int) ws_A_scenarioArrivalsBy rm_A_scenarioArrivalsBy 0 0 2 := cwV 2 hts (wB_callV (fun w h => List.mem_cons_of_mem _ h) xw_183 xw_184 xw_185 xw_186 xw_127) rfl rfl rfl (by decide +kernel) ⟨Nat.le_of_ble_eq_true rfl, Nat.le_of_ble_eq_true rfl⟩
  unfold j_A_timeOfArrival at hj
  refine lv_iconst (v := 0) hx hb d_A_timeOfArrival_0 (by decide) ?_
  refine lv_istore (lv' := [(4, .int 0), (0, .ref (ad 4)), (1, .ref (ad (6 + x1.val))), (2, .int a2), (3, .int a3)]) hx hb d_A_timeOfArrival_1 hl (by decide) rfl (fun ls hl => ?_)
  refine lv_iload_n hx hb d_A_timeOfArrival_3 rfl (lv_at hl 4 rfl) ?_
  refine lv_iconst (v := 1) hx hb d_A_timeOfArrival_4 (by decide) ?_
  refine lv_isub hx hb d_A_timeOfArrival_5 ?_
  refine lv_istore (lv' := [(5, .int (a3 - 1)), (4, .int 0), (0, .ref (ad 4)), (1, .ref (ad (6 + x1.val))), (2, .int a2), (3, .int a3)]) hx hb d_A_timeOfArrival_6 hl (by decide) rfl (fun ls hl => ?_)
  refine lv_iconst (v := 0) hx hb d_A_timeOfArrival_8 (by decide) ?_
  refine lv_istore (lv' := [(6, .int 0), (5, .int (a3 - 1)), (4, .int 0), (0, .ref (ad 4)), (1, .ref (ad (6 + x1.val))), (2, .int a2), (3, .int a3)]) hx hb d_A_timeOfArrival_9 hl (by decide) rfl (fun ls hl => ?_)
  have L11 : ∀ (f11 : Nat) (v4_11 : Int32) (v5_11 : Int32) (v6_11 : Int32), j_A_timeOfArrival_L11 n M x1 a2 a3 f11 v4_11 v5_11 v6_11 = some r0 → ∀ (H : Heap) (locs : List Loc), gw_W D (tyX cI cT) A (wX cI cT ad M) s H locs → ∀ ls : Array Slot, lv_has ls 8 [(0, .ref (ad 4)), (1, .ref (ad (6 + x1.val))), (2, .int a2), (3, .int a3), (4, .int v4_11), (5, .int v5_11), (6, .int v6_11)] → W p l e rm_A_timeOfArrival s m args below meth c H locs 0 0 Q (F0 m 11 ls []) := by
    intro f11
    induction f11 with
    | zero =>
      intro v4_11 v5_11 v6_11 hj
      exact nomatch (show (none : Option Int32) = some r0 from hj)
    | succ f11 ih11 =>
      intro v4_11 v5_11 v6_11 hj H locs hw ls hl
      rw [j_A_timeOfArrival_L11] at hj
      refine lv_iload hx hb d_A_timeOfArrival_11 (lv_at hl 6 rfl) ?_
      refine lv_bipush (v := 64) hx hb d_A_timeOfArrival_13 (by decide) ?_
      refine lv_icmp_ge (tgt := 64) hx hb d_A_timeOfArrival_15 (by decide) (fun c_6 => ?_) (fun c_6 => ?_)
      · rw [if_pos c_6] at hj
        refine lv_iload hx hb d_A_timeOfArrival_64 (lv_at hl 4 rfl) ?_
        exact hend H locs ls 66 _ _ (Option.some.inj hj) rfl hw d_A_timeOfArrival_66
      · rw [if_neg c_6] at hj
        refine lv_iload hx hb d_A_timeOfArrival_18 (lv_at hl 4 rfl) ?_
        refine lv_iload hx hb d_A_timeOfArrival_20 (lv_at hl 5 rfl) ?_
        refine lv_icmp_ge (tgt := 64) hx hb d_A_timeOfArrival_22 (by decide) (fun c_7 => ?_) (fun c_7 => ?_)
        · rw [if_pos c_7] at hj
          refine lv_iload hx hb d_A_timeOfArrival_64 (lv_at hl 4 rfl) ?_
          exact hend H locs ls 66 _ _ (Option.some.inj hj) rfl hw d_A_timeOfArrival_66
        · rw [if_neg c_7] at hj
          refine lv_iload hx hb d_A_timeOfArrival_25 (lv_at hl 4 rfl) ?_
          refine lv_iload hx hb d_A_timeOfArrival_27 (lv_at hl 5 rfl) ?_
          refine lv_iadd hx hb d_A_timeOfArrival_29 ?_
          refine lv_iconst (v := 2) hx hb d_A_timeOfArrival_30 (by decide) ?_
          refine lv_idiv hx hb d_A_timeOfArrival_31 (by decide) ?_
          refine lv_istore (lv' := [(7, .int ((v4_11 + v5_11) / 2)), (0, .ref (ad 4)), (1, .ref (ad (6 + x1.val))), (2, .int a2), (3, .int a3), (4, .int v4_11), (5, .int v5_11), (6, .int v6_11)]) hx hb d_A_timeOfArrival_32 hl (by decide) rfl (fun ls hl => ?_)
          refine lv_aload_n hx hb d_A_timeOfArrival_34 rfl (lv_at hl 1 rfl) ?_
          refine lv_aload_n hx hb d_A_timeOfArrival_35 rfl (lv_at hl 2 rfl) ?_
          refine lv_iload hx hb d_A_timeOfArrival_36 (lv_at hl 0 rfl) ?_
          obtain ⟨r_9, e_8, hj⟩ := Option.bind_eq_some_iff.mp hj
          refine gw_calli (As := [.ref (ad (6 + x1.val)), .int ((v4_11 + v5_11) / 2)]) (rest := []) S hw (c_A_scenarioArrivalsBy e_8) w_108 xa_A rfl rfl hl.1 rfl (Nat.le_of_ble_eq_true rfl) d_A_timeOfArrival_38 (fun H locs hw => ?_)
          refine lv_iload_n hx hb d_A_timeOfArrival_41 rfl (lv_at hl 3 rfl) ?_
          refine lv_icmp_le (tgt := 52) hx hb d_A_timeOfArrival_42 (by decide) (fun c_10 => ?_) (fun c_10 => ?_)
          · rw [if_pos c_10] at hj
            refine lv_iload hx hb d_A_timeOfArrival_52 (lv_at hl 0 rfl) ?_
            refine lv_iconst (v := 1) hx hb d_A_timeOfArrival_54 (by decide) ?_
            refine lv_iadd hx hb d_A_timeOfArrival_55 ?_
            refine lv_istore (lv' := [(4, .int (((v4_11 + v5_11) / 2) + 1)), (7, .int ((v4_11 + v5_11) / 2)), (0, .ref (ad 4)), (1, .ref (ad (6 + x1.val))), (2, .int a2), (3, .int a3), (5, .int v5_11), (6, .int v6_11)]) hx hb d_A_timeOfArrival_56 hl (by decide) rfl (fun ls hl => ?_)
            refine lv_iinc (v := (v6_11 + 1)) (lv' := [(6, .int (v6_11 + 1)), (4, .int (((v4_11 + v5_11) / 2) + 1)), (7, .int ((v4_11 + v5_11) / 2)), (0, .ref (ad 4)), (1, .ref (ad (6 + x1.val))), (2, .int a2), (3, .int a3), (5, .int v5_11)]) hx hb d_A_timeOfArrival_58 hl (k := 7) rfl rfl (by decide) rfl (fun ls hl => ?_)
            refine lv_goto (tgt := 11) hx hb d_A_timeOfArrival_61 (by decide) ?_
            exact ih11 (((v4_11 + v5_11) / 2) + 1) v5_11 (v6_11 + 1) hj H locs hw ls (lv_sub hl [3, 4, 5, 6, 1, 7, 0] rfl)
          · rw [if_neg c_10] at hj
            refine lv_iload hx hb d_A_timeOfArrival_45 (lv_at hl 0 rfl) ?_
            refine lv_istore (lv' := [(5, .int ((v4_11 + v5_11) / 2)), (7, .int ((v4_11 + v5_11) / 2)), (0, .ref (ad 4)), (1, .ref (ad (6 + x1.val))), (2, .int a2), (3, .int a3), (4, .int v4_11), (6, .int v6_11)]) hx hb d_A_timeOfArrival_47 hl (by decide) rfl (fun ls hl => ?_)
            refine lv_goto (tgt := 58) hx hb d_A_timeOfArrival_49 (by decide) ?_
            refine lv_iinc (v := (v6_11 + 1)) (lv' := [(6, .int (v6_11 + 1)), (5, .int ((v4_11 + v5_11) / 2)), (7, .int ((v4_11 + v5_11) / 2)), (0, .ref (ad 4)), (1, .ref (ad (6 + x1.val))), (2, .int a2), (3, .int a3), (4, .int v4_11)]) hx hb d_A_timeOfArrival_58 hl (k := 7) rfl rfl (by decide) rfl (fun ls hl => ?_)
            refine lv_goto (tgt := 11) hx hb d_A_timeOfArrival_61 (by decide) ?_
            exact ih11 v4_11 ((v4_11 + v5_11) / 2) (v6_11 + 1) hj H locs hw ls (lv_sub hl [3, 4, 5, 6, 7, 1, 0] rfl)
  exact L11 n 0 (a3 - 1) 0 hj H locs hw ls (lv_sub hl [3, 4, 5, 6, 2, 1, 0] rfl)
abbrev rm_A_taskOfArrival : Room := { frames := 3, cells := 0, slots := 0, locals := 67 }
def ws_A_taskOfArrival : List Cond := Cond.code y_A_taskOfArrival b_A_taskOfArrival 7 (some .int) :: wB
set_option maxHeartbeats 4000000 in
set_option maxRecDepth 100000 in
theorem c_A_taskOfArrival {l : Launch} {D : va_G} {cI cT : ClassId} {ad : Nat → Nat} {n : Nat} {M : MX} {x1 : Fin 8} {a2 : Int32} {a3 : Int32} {r0 : Int32} (hj : j_A_taskOfArrival n M x1 a2 a3 = some r0) : gw_Ci l y_A_taskOfArrival ws_A_taskOfArrival rm_A_taskOfArrival D (tyX cI cT) (wX cI cT ad M) [.ref (ad 4), .ref (ad (6 + x1.val)), .int a2, .int a3] r0 (wX cI cT ad M) := by
  intro sz
  refine gw_meti (cc := b_A_taskOfArrival) (maxL := 7) (by decide) rfl (Nat.le_of_ble_eq_true rfl) ?_
  intro p e s m args below meth c A Q S H locs hw hend ls hl
  have S : CallFix p m c b_A_taskOfArrival 7 s args ws_A_taskOfArrival R_A := S
  have hx := S.1
  have hb := S.2.1
  have hts := S.2.2.2.2
  have hl : lv_has ls 7 [(0, .ref (ad 4)), (1, .ref (ad (6 + x1.val))), (2, .int a2), (3, .int a3)] := hl
  have n_T_A : ∀ w ∈ u_ws R_A T_A 3, w ∈ ws_A_taskOfArrival := fun w h => List.mem_cons_of_mem _ (uT_A w h)
  have n_T_S : ∀ w ∈ u_ws R_S T_S 3, w ∈ ws_A_taskOfArrival := fun w h => List.mem_cons_of_mem _ (uT_S w h)
  have n_T_T : ∀ w ∈ u_ws R_T T_T 13, w ∈ ws_A_taskOfArrival := fun w h => List.mem_cons_of_mem _ (uT_T w h)
  have f_9 : Cond.fieldLink R_A 9 (T_A 0).1 (T_A 0).2.1 (T_A 0).2.2.1 ∈ ws_A_taskOfArrival := List.mem_cons_of_mem _ xw_115
  have f_46 : Cond.fieldLink R_A 46 (T_S 1).1 (T_S 1).2.1 (T_S 1).2.2.1 ∈ ws_A_taskOfArrival := List.mem_cons_of_mem _ xw_116
  have f_58 : Cond.fieldLink R_A 58 (T_T 0).1 (T_T 0).2.1 (T_T 0).2.2.1 ∈ ws_A_taskOfArrival := List.mem_cons_of_mem _ xw_154
  have f_118 : Cond.fieldLink R_A 118 (T_T 8).1 (T_T 8).2.1 (T_T 8).2.2.1 ∈ ws_A_taskOfArrival := List.mem_cons_of_mem _ xw_118
  have w_108 : CallW rm_A_taskOfArrival s args R_A R_A 108 y_A_scenarioArrivalsBy b_A_scenarioArrivalsBy 5 (some .int) ws_A_scenarioArrivalsBy rm_A_scenarioArrivalsBy 0 0 2 := cwV 2 hts (wB_callV (fun w h => List.mem_cons_of_mem _ h) xw_183 xw_184 xw_185 xw_186 xw_127) rfl rfl rfl (by decide +kernel) ⟨Nat.le_of_ble_eq_true rfl, Nat.le_of_ble_eq_true rfl⟩
  have w_124 : CallW rm_A_taskOfArrival s args R_A R_T 124 y_T_arrivalsBy b_T_arrivalsBy 2 (some .int) ws_T_arrivalsBy rm_T_arrivalsBy 0 0 1 := cwV 1 hts (wB_callV (fun w h => List.mem_cons_of_mem _ h) xw_119 xw_120 xw_121 xw_122 xw_21) rfl rfl rfl (by decide +kernel) ⟨Nat.le_of_ble_eq_true rfl, Nat.le_of_ble_eq_true rfl⟩
  unfold j_A_taskOfArrival at hj
  refine lv_aload_n hx hb d_A_taskOfArrival_0 rfl (lv_at hl 0 rfl) ?_
  refine lv_aload_n hx hb d_A_taskOfArrival_1 rfl (lv_at hl 1 rfl) ?_
  refine lv_iload_n hx hb d_A_taskOfArrival_2 rfl (lv_at hl 3 rfl) ?_
  refine lv_iconst (v := 1) hx hb d_A_taskOfArrival_3 (by decide) ?_
  refine lv_isub hx hb d_A_taskOfArrival_4 ?_
  obtain ⟨r_2, e_1, hj⟩ := Option.bind_eq_some_iff.mp hj
  refine gw_calli (As := [.ref (ad (6 + x1.val)), .int (a3 - 1)]) (rest := []) S hw (c_A_scenarioArrivalsBy e_1) w_108 xa_A rfl rfl hl.1 rfl (Nat.le_of_ble_eq_true rfl) d_A_taskOfArrival_5 (fun H locs hw => ?_)
  refine lv_istore (lv' := [(4, .int r_2), (0, .ref (ad 4)), (1, .ref (ad (6 + x1.val))), (2, .int a2), (3, .int a3)]) hx hb d_A_taskOfArrival_8 hl (by decide) rfl (fun ls hl => ?_)
  refine lv_iconst (v := 0) hx hb d_A_taskOfArrival_10 (by decide) ?_
  refine lv_istore (lv' := [(5, .int 0), (4, .int r_2), (0, .ref (ad 4)), (1, .ref (ad (6 + x1.val))), (2, .int a2), (3, .int a3)]) hx hb d_A_taskOfArrival_11 hl (by decide) rfl (fun ls hl => ?_)
  have L13 : ∀ (f13 : Nat) (v4_13 : Int32) (v5_13 : Int32), j_A_taskOfArrival_L13 n M x1 a2 a3 f13 v4_13 v5_13 = some r0 → ∀ (H : Heap) (locs : List Loc), gw_W D (tyX cI cT) A (wX cI cT ad M) s H locs → ∀ ls : Array Slot, lv_has ls 7 [(0, .ref (ad 4)), (1, .ref (ad (6 + x1.val))), (2, .int a2), (3, .int a3), (4, .int v4_13), (5, .int v5_13)] → W p l e rm_A_taskOfArrival s m args below meth c H locs 0 0 Q (F0 m 13 ls []) := by
    intro f13
    induction f13 with
    | zero =>
      intro v4_13 v5_13 hj
      exact nomatch (show (none : Option Int32) = some r0 from hj)
    | succ f13 ih13 =>
      intro v4_13 v5_13 hj H locs hw ls hl
      rw [j_A_taskOfArrival_L13] at hj
      refine lv_iload hx hb d_A_taskOfArrival_13 (lv_at hl 5 rfl) ?_
      refine lv_aload_n hx hb d_A_taskOfArrival_15 rfl (lv_at hl 1 rfl) ?_
      refine gw_get (v := .int (M.1 0 x1 8)) S hw (xa_T x1) rfl (by decide) n_T_T f_118 rfl d_A_taskOfArrival_16 ?_
      refine lv_icmp_ge (tgt := 72) hx hb d_A_taskOfArrival_19 (by decide) (fun c_10 => ?_) (fun c_10 => ?_)
      · rw [if_pos c_10] at hj
        refine lv_aload_n hx hb d_A_taskOfArrival_72 rfl (lv_at hl 1 rfl) ?_
        refine gw_get (v := .int (M.1 0 x1 0)) S hw (xa_T x1) rfl (by decide) n_T_T f_58 rfl d_A_taskOfArrival_73 ?_
        exact hend H locs ls 76 _ _ (Option.some.inj hj) rfl hw d_A_taskOfArrival_76
      · rw [if_neg c_10] at hj
        refine lv_aload_n hx hb d_A_taskOfArrival_22 rfl (lv_at hl 0 rfl) ?_
        refine gw_get (v := .ref (ad 1)) S hw xa_A rfl (by decide) n_T_A f_9 rfl d_A_taskOfArrival_23 ?_
        refine gw_get (v := .ref (ad 3)) S hw xa_S rfl (by decide) n_T_S f_46 rfl d_A_taskOfArrival_26 ?_
        refine lv_iload hx hb d_A_taskOfArrival_29 (lv_at hl 5 rfl) ?_
        obtain ⟨g_11, hj⟩ := gw_if hj
        refine gw_aldq (t0 := 1) S hw ⟨xa_rk, rfl⟩ g_11 d_A_taskOfArrival_31 ?_
        refine lv_astore (lv' := [(6, .ref (ad (6 + (M.2.2.1 v5_13.toNatClampNeg).val))), (0, .ref (ad 4)), (1, .ref (ad (6 + x1.val))), (2, .int a2), (3, .int a3), (4, .int v4_13), (5, .int v5_13)]) hx hb d_A_taskOfArrival_32 hl (by decide) rfl (fun ls hl => ?_)
        refine lv_iload hx hb d_A_taskOfArrival_34 (lv_at hl 5 rfl) ?_
        refine lv_aload hx hb d_A_taskOfArrival_36 (lv_at hl 0 rfl) ?_
        refine lv_iload_n hx hb d_A_taskOfArrival_38 rfl (lv_at hl 4 rfl) ?_
        obtain ⟨r_13, e_12, hj⟩ := Option.bind_eq_some_iff.mp hj
        refine gw_calli (As := [.int a3]) (rest := [.int v4_13]) S hw (c_T_arrivalsBy e_12) w_124 (xa_T (M.2.2.1 v5_13.toNatClampNeg)) rfl rfl hl.1 rfl (Nat.le_of_ble_eq_true rfl) d_A_taskOfArrival_39 (fun H locs hw => ?_)
        refine lv_aload hx hb d_A_taskOfArrival_42 (lv_at hl 0 rfl) ?_
        refine lv_iload_n hx hb d_A_taskOfArrival_44 rfl (lv_at hl 4 rfl) ?_
        refine lv_iconst (v := 1) hx hb d_A_taskOfArrival_45 (by decide) ?_
        refine lv_isub hx hb d_A_taskOfArrival_46 ?_
        obtain ⟨r_15, e_14, hj⟩ := Option.bind_eq_some_iff.mp hj
        refine gw_calli (As := [.int (a3 - 1)]) (rest := [.int r_13, .int v4_13]) S hw (c_T_arrivalsBy e_14) w_124 (xa_T (M.2.2.1 v5_13.toNatClampNeg)) rfl rfl hl.1 rfl (Nat.le_of_ble_eq_true rfl) d_A_taskOfArrival_47 (fun H locs hw => ?_)
        refine lv_isub hx hb d_A_taskOfArrival_50 ?_
        refine lv_iadd hx hb d_A_taskOfArrival_51 ?_
        refine lv_istore (lv' := [(4, .int (v4_13 + (r_13 - r_15))), (6, .ref (ad (6 + (M.2.2.1 v5_13.toNatClampNeg).val))), (0, .ref (ad 4)), (1, .ref (ad (6 + x1.val))), (2, .int a2), (3, .int a3), (5, .int v5_13)]) hx hb d_A_taskOfArrival_52 hl (by decide) rfl (fun ls hl => ?_)
        refine lv_iload hx hb d_A_taskOfArrival_54 (lv_at hl 0 rfl) ?_
        refine lv_iload_n hx hb d_A_taskOfArrival_56 rfl (lv_at hl 4 rfl) ?_
        refine lv_icmp_le (tgt := 66) hx hb d_A_taskOfArrival_57 (by decide) (fun c_16 => ?_) (fun c_16 => ?_)
        · rw [if_pos c_16] at hj
          refine lv_iinc (v := (v5_13 + 1)) (lv' := [(5, .int (v5_13 + 1)), (4, .int (v4_13 + (r_13 - r_15))), (6, .ref (ad (6 + (M.2.2.1 v5_13.toNatClampNeg).val))), (0, .ref (ad 4)), (1, .ref (ad (6 + x1.val))), (2, .int a2), (3, .int a3)]) hx hb d_A_taskOfArrival_66 hl (k := 6) rfl rfl (by decide) rfl (fun ls hl => ?_)
          refine lv_goto (tgt := 13) hx hb d_A_taskOfArrival_69 (by decide) ?_
          exact ih13 (v4_13 + (r_13 - r_15)) (v5_13 + 1) hj H locs hw ls (lv_sub hl [3, 4, 5, 6, 1, 0] rfl)
        · rw [if_neg c_16] at hj
          refine lv_aload hx hb d_A_taskOfArrival_60 (lv_at hl 1 rfl) ?_
          refine gw_get (v := .int (M.1 0 (M.2.2.1 v5_13.toNatClampNeg) 0)) S hw (xa_T (M.2.2.1 v5_13.toNatClampNeg)) rfl (by decide) n_T_T f_58 rfl d_A_taskOfArrival_62 ?_
          exact hend H locs ls 65 _ _ (Option.some.inj hj) rfl hw d_A_taskOfArrival_65
  exact L13 n r_2 0 hj H locs hw ls (lv_sub hl [2, 3, 4, 5, 1, 0] rfl)
abbrev rm_A_scenarioItem : Room := { frames := 4, cells := 0, slots := 0, locals := 94 }
def ws_A_scenarioItem : List Cond := Cond.code y_A_scenarioItem b_A_scenarioItem 8 (some .int) :: wB
set_option maxHeartbeats 4000000 in
set_option maxRecDepth 100000 in
theorem c_A_scenarioItem {l : Launch} {D : va_G} {cI cT : ClassId} {ad : Nat → Nat} {n : Nat} {M : MX} {x1 : Fin 8} {a2 : Int32} {a3 : Int32} {r0 : Int32} (hj : j_A_scenarioItem n M x1 a2 a3 = some r0) : gw_Ci l y_A_scenarioItem ws_A_scenarioItem rm_A_scenarioItem D (tyX cI cT) (wX cI cT ad M) [.ref (ad 4), .ref (ad (6 + x1.val)), .int a2, .int a3] r0 (wX cI cT ad M) := by
  intro sz
  refine gw_meti (cc := b_A_scenarioItem) (maxL := 8) (by decide) rfl (Nat.le_of_ble_eq_true rfl) ?_
  intro p e s m args below meth c A Q S H locs hw hend ls hl
  have S : CallFix p m c b_A_scenarioItem 8 s args ws_A_scenarioItem R_A := S
  have hx := S.1
  have hb := S.2.1
  have hts := S.2.2.2.2
  have hl : lv_has ls 8 [(0, .ref (ad 4)), (1, .ref (ad (6 + x1.val))), (2, .int a2), (3, .int a3)] := hl
  have n_T_A : ∀ w ∈ u_ws R_A T_A 3, w ∈ ws_A_scenarioItem := fun w h => List.mem_cons_of_mem _ (uT_A w h)
  have n_T_T : ∀ w ∈ u_ws R_T T_T 13, w ∈ ws_A_scenarioItem := fun w h => List.mem_cons_of_mem _ (uT_T w h)
  have f_9 : Cond.fieldLink R_A 9 (T_A 0).1 (T_A 0).2.1 (T_A 0).2.2.1 ∈ ws_A_scenarioItem := List.mem_cons_of_mem _ xw_115
  have f_15 : Cond.fieldLink R_A 15 (T_T 9).1 (T_T 9).2.1 (T_T 9).2.2.1 ∈ ws_A_scenarioItem := List.mem_cons_of_mem _ xw_144
  have f_34 : Cond.fieldLink R_A 34 (T_T 10).1 (T_T 10).2.1 (T_T 10).2.2.1 ∈ ws_A_scenarioItem := List.mem_cons_of_mem _ xw_145
  have f_58 : Cond.fieldLink R_A 58 (T_T 0).1 (T_T 0).2.1 (T_T 0).2.2.1 ∈ ws_A_scenarioItem := List.mem_cons_of_mem _ xw_154
  have f_72 : Cond.fieldLink R_A 72 (T_T 3).1 (T_T 3).2.1 (T_T 3).2.2.1 ∈ ws_A_scenarioItem := List.mem_cons_of_mem _ xw_134
  have w_21 : CallW rm_A_scenarioItem s args R_A R_S 21 y_S_blockingOf b_S_blockingOf 2 (some .int) ws_S_blockingOf rm_S_blockingOf 0 0 1 := cwV 1 hts (wB_callV (fun w h => List.mem_cons_of_mem _ h) xw_106 xw_147 xw_108 xw_109 xw_14) rfl rfl rfl (by decide +kernel) ⟨Nat.le_of_ble_eq_true rfl, Nat.le_of_ble_eq_true rfl⟩
  have w_98 : CallW rm_A_scenarioItem s args R_A R_S 98 y_S_longestBelow b_S_longestBelow 4 (some .int) ws_S_longestBelow rm_S_longestBelow 0 0 1 := cwV 1 hts (wB_callV (fun w h => List.mem_cons_of_mem _ h) xw_96 xw_187 xw_98 xw_99 xw_14) rfl rfl rfl (by decide +kernel) ⟨Nat.le_of_ble_eq_true rfl, Nat.le_of_ble_eq_true rfl⟩
  have w_101 : CallW rm_A_scenarioItem s args R_A R_A 101 y_A_highestBelowWith b_A_highestBelowWith 4 (some (.object "SegmentKernel$Task")) ws_A_highestBelowWith rm_A_highestBelowWith 0 0 2 := cwV 2 hts (wB_callV (fun w h => List.mem_cons_of_mem _ h) xw_188 xw_189 xw_190 xw_191 xw_127) rfl rfl rfl (by decide +kernel) ⟨Nat.le_of_ble_eq_true rfl, Nat.le_of_ble_eq_true rfl⟩
  have w_105 : CallW rm_A_scenarioItem s args R_A R_T 105 y_T_workAheadOf b_T_workAheadOf 4 (some .int) ws_T_workAheadOf rm_T_workAheadOf 0 0 1 := cwV 1 hts (wB_callV (fun w h => List.mem_cons_of_mem _ h) xw_192 xw_193 xw_194 xw_195 xw_21) rfl rfl rfl (by decide +kernel) ⟨Nat.le_of_ble_eq_true rfl, Nat.le_of_ble_eq_true rfl⟩
  have w_108 : CallW rm_A_scenarioItem s args R_A R_A 108 y_A_scenarioArrivalsBy b_A_scenarioArrivalsBy 5 (some .int) ws_A_scenarioArrivalsBy rm_A_scenarioArrivalsBy 0 0 2 := cwV 2 hts (wB_callV (fun w h => List.mem_cons_of_mem _ h) xw_183 xw_184 xw_185 xw_186 xw_127) rfl rfl rfl (by decide +kernel) ⟨Nat.le_of_ble_eq_true rfl, Nat.le_of_ble_eq_true rfl⟩
  have w_111 : CallW rm_A_scenarioItem s args R_A R_A 111 y_A_timeOfArrival b_A_timeOfArrival 8 (some .int) ws_A_timeOfArrival rm_A_timeOfArrival 0 0 3 := cwV 3 hts (wB_callV (fun w h => List.mem_cons_of_mem _ h) xw_196 xw_197 xw_198 xw_199 xw_127) rfl rfl rfl (by decide +kernel) ⟨Nat.le_of_ble_eq_true rfl, Nat.le_of_ble_eq_true rfl⟩
  have w_115 : CallW rm_A_scenarioItem s args R_A R_A 115 y_A_taskOfArrival b_A_taskOfArrival 7 (some .int) ws_A_taskOfArrival rm_A_taskOfArrival 0 0 3 := cwV 3 hts (wB_callV (fun w h => List.mem_cons_of_mem _ h) xw_200 xw_201 xw_202 xw_203 xw_127) rfl rfl rfl (by decide +kernel) ⟨Nat.le_of_ble_eq_true rfl, Nat.le_of_ble_eq_true rfl⟩
  unfold j_A_scenarioItem at hj
  refine lv_iload_n hx hb d_A_scenarioItem_0 rfl (lv_at hl 2 rfl) ?_
  refine lv_istore (lv' := [(4, .int a2), (0, .ref (ad 4)), (1, .ref (ad (6 + x1.val))), (2, .int a2), (3, .int a3)]) hx hb d_A_scenarioItem_1 hl (by decide) rfl (fun ls hl => ?_)
  refine lv_iconst (v := 0) hx hb d_A_scenarioItem_3 (by decide) ?_
  refine lv_istore (lv' := [(5, .int 0), (4, .int a2), (0, .ref (ad 4)), (1, .ref (ad (6 + x1.val))), (2, .int a2), (3, .int a3)]) hx hb d_A_scenarioItem_4 hl (by decide) rfl (fun ls hl => ?_)
  refine lv_aload_n hx hb d_A_scenarioItem_6 rfl (lv_at hl 2 rfl) ?_
  refine gw_get (v := .ref (ad 1)) S hw xa_A rfl (by decide) n_T_A f_9 rfl d_A_scenarioItem_7 ?_
  refine lv_aload_n hx hb d_A_scenarioItem_10 rfl (lv_at hl 3 rfl) ?_
  obtain ⟨r_2, e_1, hj⟩ := Option.bind_eq_some_iff.mp hj
  refine gw_calli (As := [.ref (ad (6 + x1.val))]) (rest := []) S hw (c_S_blockingOf e_1) w_21 xa_S rfl rfl hl.1 rfl (Nat.le_of_ble_eq_true rfl) d_A_scenarioItem_11 (fun H locs hw => ?_)
  refine lv_if_le (tgt := 70) hx hb d_A_scenarioItem_14 (by decide) (fun c_3 => ?_) (fun c_3 => ?_)
  · rw [if_pos c_3] at hj
    refine lv_aload_n hx hb d_A_scenarioItem_70 rfl (lv_at hl 3 rfl) ?_
    refine gw_get (v := .int (M.1 0 x1 10)) S hw (xa_T x1) rfl (by decide) n_T_T f_34 rfl d_A_scenarioItem_71 ?_
    refine lv_aload_n hx hb d_A_scenarioItem_74 rfl (lv_at hl 3 rfl) ?_
    refine gw_get (v := .int (M.1 0 x1 3)) S hw (xa_T x1) rfl (by decide) n_T_T f_72 rfl d_A_scenarioItem_75 ?_
    refine lv_imul hx hb d_A_scenarioItem_78 ?_
    refine lv_aload_n hx hb d_A_scenarioItem_79 rfl (lv_at hl 3 rfl) ?_
    refine gw_get (v := .int (M.1 0 x1 9)) S hw (xa_T x1) rfl (by decide) n_T_T f_15 rfl d_A_scenarioItem_80 ?_
    refine lv_iadd hx hb d_A_scenarioItem_83 ?_
    refine lv_istore (lv' := [(6, .int (((M.1 0 x1 10) * (M.1 0 x1 3)) + (M.1 0 x1 9))), (5, .int 0), (4, .int a2), (0, .ref (ad 4)), (1, .ref (ad (6 + x1.val))), (2, .int a2), (3, .int a3)]) hx hb d_A_scenarioItem_84 hl (by decide) rfl (fun ls hl => ?_)
    refine lv_iload hx hb d_A_scenarioItem_86 (lv_at hl 2 rfl) ?_
    refine lv_aload_n hx hb d_A_scenarioItem_88 rfl (lv_at hl 3 rfl) ?_
    refine lv_aload_n hx hb d_A_scenarioItem_89 rfl (lv_at hl 4 rfl) ?_
    refine lv_iload hx hb d_A_scenarioItem_90 (lv_at hl 0 rfl) ?_
    refine lv_iconst (v := 1) hx hb d_A_scenarioItem_92 (by decide) ?_
    refine lv_isub hx hb d_A_scenarioItem_93 ?_
    obtain ⟨r_5, e_4, hj⟩ := Option.bind_eq_some_iff.mp hj
    refine gw_calli (As := [.ref (ad (6 + x1.val)), .int ((((M.1 0 x1 10) * (M.1 0 x1 3)) + (M.1 0 x1 9)) - 1)]) (rest := [.int a2]) S hw (c_A_scenarioArrivalsBy e_4) w_108 xa_A rfl rfl hl.1 rfl (Nat.le_of_ble_eq_true rfl) d_A_scenarioItem_94 (fun H locs hw => ?_)
    refine lv_icmp_lt (tgt := 102) hx hb d_A_scenarioItem_97 (by decide) (fun c_6 => ?_) (fun c_6 => ?_)
    · rw [if_pos c_6] at hj
      refine lv_aload_n hx hb d_A_scenarioItem_102 rfl (lv_at hl 3 rfl) ?_
      refine lv_aload_n hx hb d_A_scenarioItem_103 rfl (lv_at hl 4 rfl) ?_
      refine lv_iload hx hb d_A_scenarioItem_104 (lv_at hl 2 rfl) ?_
      refine lv_iload hx hb d_A_scenarioItem_106 (lv_at hl 0 rfl) ?_
      obtain ⟨r_8, e_7, hj⟩ := Option.bind_eq_some_iff.mp hj
      refine gw_calli (As := [.ref (ad (6 + x1.val)), .int a2, .int (((M.1 0 x1 10) * (M.1 0 x1 3)) + (M.1 0 x1 9))]) (rest := []) S hw (c_A_timeOfArrival e_7) w_111 xa_A rfl rfl hl.1 rfl (Nat.le_of_ble_eq_true rfl) d_A_scenarioItem_108 (fun H locs hw => ?_)
      refine lv_istore (lv' := [(7, .int r_8), (6, .int (((M.1 0 x1 10) * (M.1 0 x1 3)) + (M.1 0 x1 9))), (5, .int 0), (4, .int a2), (0, .ref (ad 4)), (1, .ref (ad (6 + x1.val))), (2, .int a2), (3, .int a3)]) hx hb d_A_scenarioItem_111 hl (by decide) rfl (fun ls hl => ?_)
      refine lv_iload_n hx hb d_A_scenarioItem_113 rfl (lv_at hl 7 rfl) ?_
      refine lv_if_eq (tgt := 125) hx hb d_A_scenarioItem_114 (by decide) (fun c_9 => ?_) (fun c_9 => ?_)
      · rw [if_pos c_9] at hj
        refine lv_aload_n hx hb d_A_scenarioItem_125 rfl (lv_at hl 4 rfl) ?_
        refine lv_aload_n hx hb d_A_scenarioItem_126 rfl (lv_at hl 5 rfl) ?_
        refine lv_iload hx hb d_A_scenarioItem_127 (lv_at hl 3 rfl) ?_
        refine lv_iload hx hb d_A_scenarioItem_129 (lv_at hl 0 rfl) ?_
        obtain ⟨r_11, e_10, hj⟩ := Option.bind_eq_some_iff.mp hj
        refine gw_calli (As := [.ref (ad (6 + x1.val)), .int a2, .int r_8]) (rest := []) S hw (c_A_taskOfArrival e_10) w_115 xa_A rfl rfl hl.1 rfl (Nat.le_of_ble_eq_true rfl) d_A_scenarioItem_131 (fun H locs hw => ?_)
        exact hend H locs ls 134 _ _ (Option.some.inj hj) rfl hw d_A_scenarioItem_134
      · rw [if_neg c_9] at hj
        refine lv_iload hx hb d_A_scenarioItem_117 (lv_at hl 2 rfl) ?_
        refine lv_iload hx hb d_A_scenarioItem_119 (lv_at hl 0 rfl) ?_
        refine lv_iadd hx hb d_A_scenarioItem_121 ?_
        refine lv_goto (tgt := 134) hx hb d_A_scenarioItem_122 (by decide) ?_
        exact hend H locs ls 134 _ _ (Option.some.inj hj) rfl hw d_A_scenarioItem_134
    · rw [if_neg c_6] at hj
      refine lv_iconst (v := -1) hx hb d_A_scenarioItem_100 (by decide) ?_
      exact hend H locs ls 101 _ _ (Option.some.inj hj) rfl hw d_A_scenarioItem_101
  · rw [if_neg c_3] at hj
    refine lv_aload_n hx hb d_A_scenarioItem_17 rfl (lv_at hl 2 rfl) ?_
    refine gw_get (v := .ref (ad 1)) S hw xa_A rfl (by decide) n_T_A f_9 rfl d_A_scenarioItem_18 ?_
    refine lv_aload_n hx hb d_A_scenarioItem_21 rfl (lv_at hl 3 rfl) ?_
    obtain ⟨r_13, e_12, hj⟩ := Option.bind_eq_some_iff.mp hj
    refine gw_calli (As := [.ref (ad (6 + x1.val))]) (rest := []) S hw (c_S_longestBelow e_12) w_98 xa_S rfl rfl hl.1 rfl (Nat.le_of_ble_eq_true rfl) d_A_scenarioItem_22 (fun H locs hw => ?_)
    refine lv_istore (lv' := [(6, .int r_13), (5, .int 0), (4, .int a2), (0, .ref (ad 4)), (1, .ref (ad (6 + x1.val))), (2, .int a2), (3, .int a3)]) hx hb d_A_scenarioItem_25 hl (by decide) rfl (fun ls hl => ?_)
    refine lv_aload_n hx hb d_A_scenarioItem_27 rfl (lv_at hl 3 rfl) ?_
    refine lv_aload_n hx hb d_A_scenarioItem_28 rfl (lv_at hl 4 rfl) ?_
    refine lv_iload hx hb d_A_scenarioItem_29 (lv_at hl 0 rfl) ?_
    obtain ⟨r_15, e_14, hj⟩ := Option.bind_eq_some_iff.mp hj
    refine gw_callq (As := [.ref (ad (6 + x1.val)), .int r_13]) (rest := []) S hw (c_A_highestBelowWith e_14) w_101 xa_A rfl rfl hl.1 rfl (Nat.le_of_ble_eq_true rfl) d_A_scenarioItem_31 (fun H locs hw => ?_)
    refine lv_astore (lv' := [(7, .ref (ad (6 + r_15.val))), (6, .int r_13), (5, .int 0), (4, .int a2), (0, .ref (ad 4)), (1, .ref (ad (6 + x1.val))), (2, .int a2), (3, .int a3)]) hx hb d_A_scenarioItem_34 hl (by decide) rfl (fun ls hl => ?_)
    refine lv_iload_n hx hb d_A_scenarioItem_36 rfl (lv_at hl 6 rfl) ?_
    refine lv_if_ne (tgt := 54) hx hb d_A_scenarioItem_37 (by decide) (fun c_16 => ?_) (fun c_16 => ?_)
    · rw [if_neg c_16] at hj
      refine lv_iload_n hx hb d_A_scenarioItem_54 rfl (lv_at hl 6 rfl) ?_
      refine lv_iconst (v := 1) hx hb d_A_scenarioItem_55 (by decide) ?_
      refine lv_isub hx hb d_A_scenarioItem_56 ?_
      refine lv_istore (lv' := [(4, .int (a2 - 1)), (7, .ref (ad (6 + r_15.val))), (6, .int r_13), (5, .int 0), (0, .ref (ad 4)), (1, .ref (ad (6 + x1.val))), (2, .int a2), (3, .int a3)]) hx hb d_A_scenarioItem_57 hl (by decide) rfl (fun ls hl => ?_)
      refine lv_aload hx hb d_A_scenarioItem_59 (lv_at hl 1 rfl) ?_
      refine lv_iload hx hb d_A_scenarioItem_61 (lv_at hl 2 rfl) ?_
      obtain ⟨r_18, e_17, hj⟩ := Option.bind_eq_some_iff.mp hj
      refine gw_calli (As := [.int r_13]) (rest := []) S hw (c_T_workAheadOf e_17) w_105 (xa_T r_15) rfl rfl hl.1 rfl (Nat.le_of_ble_eq_true rfl) d_A_scenarioItem_63 (fun H locs hw => ?_)
      refine lv_iconst (v := 1) hx hb d_A_scenarioItem_66 (by decide) ?_
      refine lv_iadd hx hb d_A_scenarioItem_67 ?_
      refine lv_istore (lv' := [(5, .int (r_18 + 1)), (4, .int (a2 - 1)), (7, .ref (ad (6 + r_15.val))), (6, .int r_13), (0, .ref (ad 4)), (1, .ref (ad (6 + x1.val))), (2, .int a2), (3, .int a3)]) hx hb d_A_scenarioItem_68 hl (by decide) rfl (fun ls hl => ?_)
      refine lv_aload_n hx hb d_A_scenarioItem_70 rfl (lv_at hl 5 rfl) ?_
      refine gw_get (v := .int (M.1 0 x1 10)) S hw (xa_T x1) rfl (by decide) n_T_T f_34 rfl d_A_scenarioItem_71 ?_
      refine lv_aload_n hx hb d_A_scenarioItem_74 rfl (lv_at hl 5 rfl) ?_
      refine gw_get (v := .int (M.1 0 x1 3)) S hw (xa_T x1) rfl (by decide) n_T_T f_72 rfl d_A_scenarioItem_75 ?_
      refine lv_imul hx hb d_A_scenarioItem_78 ?_
      refine lv_aload_n hx hb d_A_scenarioItem_79 rfl (lv_at hl 5 rfl) ?_
      refine gw_get (v := .int (M.1 0 x1 9)) S hw (xa_T x1) rfl (by decide) n_T_T f_15 rfl d_A_scenarioItem_80 ?_
      refine lv_iadd hx hb d_A_scenarioItem_83 ?_
      refine lv_istore (lv' := [(6, .int (((M.1 0 x1 10) * (M.1 0 x1 3)) + (M.1 0 x1 9))), (5, .int (r_18 + 1)), (4, .int (a2 - 1)), (7, .ref (ad (6 + r_15.val))), (0, .ref (ad 4)), (1, .ref (ad (6 + x1.val))), (2, .int a2), (3, .int a3)]) hx hb d_A_scenarioItem_84 hl (by decide) rfl (fun ls hl => ?_)
      refine lv_iload hx hb d_A_scenarioItem_86 (lv_at hl 2 rfl) ?_
      refine lv_aload_n hx hb d_A_scenarioItem_88 rfl (lv_at hl 4 rfl) ?_
      refine lv_aload_n hx hb d_A_scenarioItem_89 rfl (lv_at hl 5 rfl) ?_
      refine lv_iload hx hb d_A_scenarioItem_90 (lv_at hl 0 rfl) ?_
      refine lv_iconst (v := 1) hx hb d_A_scenarioItem_92 (by decide) ?_
      refine lv_isub hx hb d_A_scenarioItem_93 ?_
      obtain ⟨r_20, e_19, hj⟩ := Option.bind_eq_some_iff.mp hj
      refine gw_calli (As := [.ref (ad (6 + x1.val)), .int ((((M.1 0 x1 10) * (M.1 0 x1 3)) + (M.1 0 x1 9)) - 1)]) (rest := [.int (a2 - 1)]) S hw (c_A_scenarioArrivalsBy e_19) w_108 xa_A rfl rfl hl.1 rfl (Nat.le_of_ble_eq_true rfl) d_A_scenarioItem_94 (fun H locs hw => ?_)
      refine lv_icmp_lt (tgt := 102) hx hb d_A_scenarioItem_97 (by decide) (fun c_21 => ?_) (fun c_21 => ?_)
      · rw [if_pos c_21] at hj
        refine lv_aload_n hx hb d_A_scenarioItem_102 rfl (lv_at hl 4 rfl) ?_
        refine lv_aload_n hx hb d_A_scenarioItem_103 rfl (lv_at hl 5 rfl) ?_
        refine lv_iload hx hb d_A_scenarioItem_104 (lv_at hl 2 rfl) ?_
        refine lv_iload hx hb d_A_scenarioItem_106 (lv_at hl 0 rfl) ?_
        obtain ⟨r_23, e_22, hj⟩ := Option.bind_eq_some_iff.mp hj
        refine gw_calli (As := [.ref (ad (6 + x1.val)), .int (a2 - 1), .int (((M.1 0 x1 10) * (M.1 0 x1 3)) + (M.1 0 x1 9))]) (rest := []) S hw (c_A_timeOfArrival e_22) w_111 xa_A rfl rfl hl.1 rfl (Nat.le_of_ble_eq_true rfl) d_A_scenarioItem_108 (fun H locs hw => ?_)
        refine lv_istore (lv' := [(7, .int r_23), (6, .int (((M.1 0 x1 10) * (M.1 0 x1 3)) + (M.1 0 x1 9))), (5, .int (r_18 + 1)), (4, .int (a2 - 1)), (0, .ref (ad 4)), (1, .ref (ad (6 + x1.val))), (2, .int a2), (3, .int a3)]) hx hb d_A_scenarioItem_111 hl (by decide) rfl (fun ls hl => ?_)
        refine lv_iload_n hx hb d_A_scenarioItem_113 rfl (lv_at hl 7 rfl) ?_
        refine lv_if_eq (tgt := 125) hx hb d_A_scenarioItem_114 (by decide) (fun c_24 => ?_) (fun c_24 => ?_)
        · rw [if_pos c_24] at hj
          refine lv_aload_n hx hb d_A_scenarioItem_125 rfl (lv_at hl 4 rfl) ?_
          refine lv_aload_n hx hb d_A_scenarioItem_126 rfl (lv_at hl 5 rfl) ?_
          refine lv_iload hx hb d_A_scenarioItem_127 (lv_at hl 3 rfl) ?_
          refine lv_iload hx hb d_A_scenarioItem_129 (lv_at hl 0 rfl) ?_
          obtain ⟨r_26, e_25, hj⟩ := Option.bind_eq_some_iff.mp hj
          refine gw_calli (As := [.ref (ad (6 + x1.val)), .int (a2 - 1), .int r_23]) (rest := []) S hw (c_A_taskOfArrival e_25) w_115 xa_A rfl rfl hl.1 rfl (Nat.le_of_ble_eq_true rfl) d_A_scenarioItem_131 (fun H locs hw => ?_)
          exact hend H locs ls 134 _ _ (Option.some.inj hj) rfl hw d_A_scenarioItem_134
        · rw [if_neg c_24] at hj
          refine lv_iload hx hb d_A_scenarioItem_117 (lv_at hl 2 rfl) ?_
          refine lv_iload hx hb d_A_scenarioItem_119 (lv_at hl 0 rfl) ?_
          refine lv_iadd hx hb d_A_scenarioItem_121 ?_
          refine lv_goto (tgt := 134) hx hb d_A_scenarioItem_122 (by decide) ?_
          exact hend H locs ls 134 _ _ (Option.some.inj hj) rfl hw d_A_scenarioItem_134
      · rw [if_neg c_21] at hj
        refine lv_iconst (v := -1) hx hb d_A_scenarioItem_100 (by decide) ?_
        exact hend H locs ls 101 _ _ (Option.some.inj hj) rfl hw d_A_scenarioItem_101
    · rw [if_pos c_16] at hj
      refine lv_iload_n hx hb d_A_scenarioItem_40 rfl (lv_at hl 7 rfl) ?_
      refine lv_if_eq (tgt := 48) hx hb d_A_scenarioItem_41 (by decide) (fun c_27 => ?_) (fun c_27 => ?_)
      · rw [if_pos c_27] at hj
        refine lv_aload hx hb d_A_scenarioItem_48 (lv_at hl 0 rfl) ?_
        refine gw_get (v := .int (M.1 0 r_15 0)) S hw (xa_T r_15) rfl (by decide) n_T_T f_58 rfl d_A_scenarioItem_50 ?_
        exact hend H locs ls 53 _ _ (Option.some.inj hj) rfl hw d_A_scenarioItem_53
      · rw [if_neg c_27] at hj
        refine lv_iconst (v := 0) hx hb d_A_scenarioItem_44 (by decide) ?_
        refine lv_goto (tgt := 53) hx hb d_A_scenarioItem_45 (by decide) ?_
        exact hend H locs ls 53 _ _ (Option.some.inj hj) rfl hw d_A_scenarioItem_53
abbrev rm_J_accept : Room := { frames := 0, cells := 0, slots := 0, locals := 0 }
def ws_J_accept : List Cond := Cond.code y_J_accept b_J_accept 3 (some .boolean) :: wB
set_option maxHeartbeats 4000000 in
set_option maxRecDepth 100000 in
theorem c_J_accept {l : Launch} {D : va_G} {cI cT : ClassId} {ad : Nat → Nat} {n : Nat} {M : MX} {x0 : Fin 8} {a1 : Int32} {a2 : Int32} {r0 : Int32} {M0 : MX} (hj : j_J_accept n M x0 a1 a2 = some (r0, M0)) : gw_Cz l y_J_accept ws_J_accept rm_J_accept D (tyX cI cT) (wX cI cT ad M) [.ref (ad (14 + x0.val)), .int a1, .int a2] r0 (wX cI cT ad M0) := by
  intro sz
  refine gw_metz (cc := b_J_accept) (maxL := 3) (by decide) rfl (Nat.le_of_ble_eq_true rfl) ?_
  intro p e s m args below meth c A Q S H locs hw hend ls hl
  have S : CallFix p m c b_J_accept 3 s args ws_J_accept R_J := S
  have hx := S.1
  have hb := S.2.1
  have hts := S.2.2.2.2
  have hl : lv_has ls 3 [(0, .ref (ad (14 + x0.val))), (1, .int a1), (2, .int a2)] := hl
  have n_T_J : ∀ w ∈ u_ws R_J T_J 8, w ∈ ws_J_accept := fun w h => List.mem_cons_of_mem _ (uT_J w h)
  have f_9 : Cond.fieldLink R_J 9 (T_J 0).1 (T_J 0).2.1 (T_J 0).2.2.1 ∈ ws_J_accept := List.mem_cons_of_mem _ xw_204
  have f_18 : Cond.fieldLink R_J 18 (T_J 2).1 (T_J 2).2.1 (T_J 2).2.2.1 ∈ ws_J_accept := List.mem_cons_of_mem _ xw_58
  have f_22 : Cond.fieldLink R_J 22 (T_J 3).1 (T_J 3).2.1 (T_J 3).2.2.1 ∈ ws_J_accept := List.mem_cons_of_mem _ xw_59
  unfold j_J_accept at hj
  refine lv_aload_n hx hb d_J_accept_0 rfl (lv_at hl 0 rfl) ?_
  refine gw_get (v := .int (M.1 1 x0 2)) S hw (xa_J x0) rfl (by decide) n_T_J f_18 rfl d_J_accept_1 ?_
  refine lv_aload_n hx hb d_J_accept_4 rfl (lv_at hl 0 rfl) ?_
  refine gw_get (v := .int (M.1 1 x0 3)) S hw (xa_J x0) rfl (by decide) n_T_J f_22 rfl d_J_accept_5 ?_
  refine lv_isub hx hb d_J_accept_8 ?_
  refine lv_bipush (v := 9) hx hb d_J_accept_9 (by decide) ?_
  refine lv_icmp_lt (tgt := 16) hx hb d_J_accept_11 (by decide) (fun c_1 => ?_) (fun c_1 => ?_)
  · rw [if_pos c_1] at hj
    refine lv_aload_n hx hb d_J_accept_16 rfl (lv_at hl 0 rfl) ?_
    refine gw_get (v := .int (M.1 1 x0 2)) S hw (xa_J x0) rfl (by decide) n_T_J f_18 rfl d_J_accept_17 ?_
    refine lv_if_le (tgt := 45) hx hb d_J_accept_20 (by decide) (fun c_2 => ?_) (fun c_2 => ?_)
    · rw [if_pos c_2] at hj
      refine lv_aload_n hx hb d_J_accept_45 rfl (lv_at hl 0 rfl) ?_
      refine gw_get (v := .ref (ad (30 + x0.val))) S hw (xa_J x0) rfl (by decide) n_T_J f_9 rfl d_J_accept_46 ?_
      refine lv_aload_n hx hb d_J_accept_49 rfl (lv_at hl 0 rfl) ?_
      refine gw_get (v := .int (M.1 1 x0 2)) S hw (xa_J x0) rfl (by decide) n_T_J f_18 rfl d_J_accept_50 ?_
      refine lv_bipush (v := 9) hx hb d_J_accept_53 (by decide) ?_
      refine lv_irem hx hb d_J_accept_55 (by decide) ?_
      refine lv_iload_n hx hb d_J_accept_56 rfl (lv_at hl 1 rfl) ?_
      obtain ⟨g_3, hj⟩ := gw_if hj
      refine gw_iast (t0 := 0) S hw ⟨xa_ar x0, rfl⟩ g_3 (xs_ar x0 ((M.1 1 x0 2) - (M.1 1 x0 2) / 9 * 9).toNatClampNeg a1) d_J_accept_57 (fun H locs hw => ?_)
      refine lv_aload_n hx hb d_J_accept_58 rfl (lv_at hl 0 rfl) ?_
      refine lv_dup hx hb d_J_accept_59 rfl ?_
      refine gw_get (v := .int ((sF M 3 x0 ((M.1 1 x0 2) - (M.1 1 x0 2) / 9 * 9).toNatClampNeg a1).1 1 x0 2)) S hw (xa_J x0) rfl (by decide) n_T_J f_18 rfl d_J_accept_60 ?_
      refine lv_iconst (v := 1) hx hb d_J_accept_63 (by decide) ?_
      refine lv_iadd hx hb d_J_accept_64 ?_
      refine gw_put (v := .int (((sF M 3 x0 ((M.1 1 x0 2) - (M.1 1 x0 2) / 9 * 9).toNatClampNeg a1).1 1 x0 2) + 1)) (ty := .int) S hw (xa_J x0) rfl (by decide) n_T_J f_18 tk_J nm_J rfl (by decide +kernel) rfl rfl (Nat.le_of_ble_eq_true rfl) (xs_J x0 2 (((sF M 3 x0 ((M.1 1 x0 2) - (M.1 1 x0 2) / 9 * 9).toNatClampNeg a1).1 1 x0 2) + 1) (by decide)) d_J_accept_65 (fun H locs hw => ?_)
      refine lv_iconst (v := 1) hx hb d_J_accept_68 (by decide) ?_
      exact hend H locs ls 69 _ _ (Prod.mk.inj (Option.some.inj hj)).1 (congrArg (wX cI cT ad) (Prod.mk.inj (Option.some.inj hj)).2) (Or.inr rfl) hw d_J_accept_69
    · rw [if_neg c_2] at hj
      refine lv_iload_n hx hb d_J_accept_23 rfl (lv_at hl 1 rfl) ?_
      refine lv_aload_n hx hb d_J_accept_24 rfl (lv_at hl 0 rfl) ?_
      refine gw_get (v := .ref (ad (30 + x0.val))) S hw (xa_J x0) rfl (by decide) n_T_J f_9 rfl d_J_accept_25 ?_
      refine lv_aload_n hx hb d_J_accept_28 rfl (lv_at hl 0 rfl) ?_
      refine gw_get (v := .int (M.1 1 x0 2)) S hw (xa_J x0) rfl (by decide) n_T_J f_18 rfl d_J_accept_29 ?_
      refine lv_iconst (v := 1) hx hb d_J_accept_32 (by decide) ?_
      refine lv_isub hx hb d_J_accept_33 ?_
      refine lv_bipush (v := 9) hx hb d_J_accept_34 (by decide) ?_
      refine lv_irem hx hb d_J_accept_36 (by decide) ?_
      obtain ⟨g_4, hj⟩ := gw_if hj
      refine gw_iald (t0 := 0) S hw ⟨xa_ar x0, rfl⟩ g_4 d_J_accept_37 ?_
      refine lv_isub hx hb d_J_accept_38 ?_
      refine lv_iload_n hx hb d_J_accept_39 rfl (lv_at hl 2 rfl) ?_
      refine lv_icmp_ge (tgt := 45) hx hb d_J_accept_40 (by decide) (fun c_5 => ?_) (fun c_5 => ?_)
      · rw [if_pos c_5] at hj
        refine lv_aload_n hx hb d_J_accept_45 rfl (lv_at hl 0 rfl) ?_
        refine gw_get (v := .ref (ad (30 + x0.val))) S hw (xa_J x0) rfl (by decide) n_T_J f_9 rfl d_J_accept_46 ?_
        refine lv_aload_n hx hb d_J_accept_49 rfl (lv_at hl 0 rfl) ?_
        refine gw_get (v := .int (M.1 1 x0 2)) S hw (xa_J x0) rfl (by decide) n_T_J f_18 rfl d_J_accept_50 ?_
        refine lv_bipush (v := 9) hx hb d_J_accept_53 (by decide) ?_
        refine lv_irem hx hb d_J_accept_55 (by decide) ?_
        refine lv_iload_n hx hb d_J_accept_56 rfl (lv_at hl 1 rfl) ?_
        obtain ⟨g_6, hj⟩ := gw_if hj
        refine gw_iast (t0 := 0) S hw ⟨xa_ar x0, rfl⟩ g_6 (xs_ar x0 ((M.1 1 x0 2) - (M.1 1 x0 2) / 9 * 9).toNatClampNeg a1) d_J_accept_57 (fun H locs hw => ?_)
        refine lv_aload_n hx hb d_J_accept_58 rfl (lv_at hl 0 rfl) ?_
        refine lv_dup hx hb d_J_accept_59 rfl ?_
        refine gw_get (v := .int ((sF M 3 x0 ((M.1 1 x0 2) - (M.1 1 x0 2) / 9 * 9).toNatClampNeg a1).1 1 x0 2)) S hw (xa_J x0) rfl (by decide) n_T_J f_18 rfl d_J_accept_60 ?_
        refine lv_iconst (v := 1) hx hb d_J_accept_63 (by decide) ?_
        refine lv_iadd hx hb d_J_accept_64 ?_
        refine gw_put (v := .int (((sF M 3 x0 ((M.1 1 x0 2) - (M.1 1 x0 2) / 9 * 9).toNatClampNeg a1).1 1 x0 2) + 1)) (ty := .int) S hw (xa_J x0) rfl (by decide) n_T_J f_18 tk_J nm_J rfl (by decide +kernel) rfl rfl (Nat.le_of_ble_eq_true rfl) (xs_J x0 2 (((sF M 3 x0 ((M.1 1 x0 2) - (M.1 1 x0 2) / 9 * 9).toNatClampNeg a1).1 1 x0 2) + 1) (by decide)) d_J_accept_65 (fun H locs hw => ?_)
        refine lv_iconst (v := 1) hx hb d_J_accept_68 (by decide) ?_
        exact hend H locs ls 69 _ _ (Prod.mk.inj (Option.some.inj hj)).1 (congrArg (wX cI cT ad) (Prod.mk.inj (Option.some.inj hj)).2) (Or.inr rfl) hw d_J_accept_69
      · rw [if_neg c_5] at hj
        refine lv_iconst (v := 0) hx hb d_J_accept_43 (by decide) ?_
        exact hend H locs ls 44 _ _ (Prod.mk.inj (Option.some.inj hj)).1 (congrArg (wX cI cT ad) (Prod.mk.inj (Option.some.inj hj)).2) (Or.inl rfl) hw d_J_accept_44
  · rw [if_neg c_1] at hj
    refine lv_iconst (v := 0) hx hb d_J_accept_14 (by decide) ?_
    exact hend H locs ls 15 _ _ (Prod.mk.inj (Option.some.inj hj)).1 (congrArg (wX cI cT ad) (Prod.mk.inj (Option.some.inj hj)).2) (Or.inl rfl) hw d_J_accept_15
abbrev rm_K_accept : Room := { frames := 1, cells := 0, slots := 0, locals := 22 }
def ws_K_accept : List Cond := Cond.code y_K_accept b_K_accept 2 (some .boolean) :: wB
set_option maxHeartbeats 4000000 in
set_option maxRecDepth 100000 in
theorem c_K_accept {l : Launch} {D : va_G} {cI cT : ClassId} {ad : Nat → Nat} {n : Nat} {M : MX} {x1 : Fin 8} {r0 : Int32} {M0 : MX} (hj : j_K_accept n M x1 = some (r0, M0)) : gw_Cz l y_K_accept ws_K_accept rm_K_accept D (tyX cI cT) (wX cI cT ad M) [.ref (ad 5), .ref (ad (6 + x1.val))] r0 (wX cI cT ad M0) := by
  intro sz
  refine gw_metz (cc := b_K_accept) (maxL := 2) (by decide) rfl (Nat.le_of_ble_eq_true rfl) ?_
  intro p e s m args below meth c A Q S H locs hw hend ls hl
  have S : CallFix p m c b_K_accept 2 s args ws_K_accept R_K := S
  have hx := S.1
  have hb := S.2.1
  have hts := S.2.2.2.2
  have hl : lv_has ls 2 [(0, .ref (ad 5)), (1, .ref (ad (6 + x1.val)))] := hl
  have n_T_K : ∀ w ∈ u_ws R_K T_K 6, w ∈ ws_K_accept := fun w h => List.mem_cons_of_mem _ (uT_K w h)
  have n_T_T : ∀ w ∈ u_ws R_T T_T 13, w ∈ ws_K_accept := fun w h => List.mem_cons_of_mem _ (uT_T w h)
  have f_23 : Cond.fieldLink R_K 23 (T_T 1).1 (T_T 1).2.1 (T_T 1).2.2.1 ∈ ws_K_accept := List.mem_cons_of_mem _ xw_67
  have f_34 : Cond.fieldLink R_K 34 (T_K 1).1 (T_K 1).2.1 (T_K 1).2.2.1 ∈ ws_K_accept := List.mem_cons_of_mem _ xw_68
  have f_38 : Cond.fieldLink R_K 38 (T_K 2).1 (T_K 2).2.1 (T_K 2).2.2.1 ∈ ws_K_accept := List.mem_cons_of_mem _ xw_69
  have f_51 : Cond.fieldLink R_K 51 (T_T 3).1 (T_T 3).2.1 (T_T 3).2.2.1 ∈ ws_K_accept := List.mem_cons_of_mem _ xw_205
  have w_54 : CallW rm_K_accept s args R_K R_J 54 y_J_accept b_J_accept 3 (some .boolean) ws_J_accept rm_J_accept 0 0 2 := cwV 2 hts (wB_callV (fun w h => List.mem_cons_of_mem _ h) xw_206 xw_207 xw_208 xw_209 xw_77) rfl rfl rfl (by decide +kernel) ⟨Nat.le_of_ble_eq_true rfl, Nat.le_of_ble_eq_true rfl⟩
  unfold j_K_accept at hj
  refine lv_aload_n hx hb d_K_accept_0 rfl (lv_at hl 1 rfl) ?_
  refine gw_get (v := .ref (ad (14 + x1.val))) S hw (xa_T x1) rfl (by decide) n_T_T f_23 rfl d_K_accept_1 ?_
  refine lv_aload_n hx hb d_K_accept_4 rfl (lv_at hl 0 rfl) ?_
  refine gw_get (v := .int (M.2.1 2 2)) S hw xa_K rfl (by decide) n_T_K f_38 rfl d_K_accept_5 ?_
  refine lv_aload_n hx hb d_K_accept_8 rfl (lv_at hl 1 rfl) ?_
  refine gw_get (v := .int (M.1 0 x1 3)) S hw (xa_T x1) rfl (by decide) n_T_T f_51 rfl d_K_accept_9 ?_
  obtain ⟨q_2, e_1, hj⟩ := Option.bind_eq_some_iff.mp hj
  refine gw_calli (As := [.int (M.2.1 2 2), .int (M.1 0 x1 3)]) (rest := []) S hw (c_J_accept e_1) w_54 (xa_J x1) rfl rfl hl.1 rfl (Nat.le_of_ble_eq_true rfl) d_K_accept_12 (fun H locs hw => ?_)
  refine lv_if_ne (tgt := 20) hx hb d_K_accept_15 (by decide) (fun c_3 => ?_) (fun c_3 => ?_)
  · rw [if_neg c_3] at hj
    refine lv_aload_n hx hb d_K_accept_20 rfl (lv_at hl 0 rfl) ?_
    refine lv_iconst (v := 1) hx hb d_K_accept_21 (by decide) ?_
    refine gw_put (v := .int 1) (ty := .boolean) S hw xa_K rfl (by decide) n_T_K f_34 tk_K nm_K rfl (by decide +kernel) rfl rfl (Nat.le_of_ble_eq_true rfl) (xs_K 1 1 (by decide)) d_K_accept_22 (fun H locs hw => ?_)
    refine lv_iconst (v := 1) hx hb d_K_accept_25 (by decide) ?_
    exact hend H locs ls 26 _ _ (Prod.mk.inj (Option.some.inj hj)).1 (congrArg (wX cI cT ad) (Prod.mk.inj (Option.some.inj hj)).2) (Or.inr rfl) hw d_K_accept_26
  · rw [if_pos c_3] at hj
    refine lv_iconst (v := 0) hx hb d_K_accept_18 (by decide) ?_
    exact hend H locs ls 19 _ _ (Prod.mk.inj (Option.some.inj hj)).1 (congrArg (wX cI cT ad) (Prod.mk.inj (Option.some.inj hj)).2) (Or.inl rfl) hw d_K_accept_19
abbrev rm_O_arrive : Room := { frames := 2, cells := 0, slots := 0, locals := 43 }
def ws_O_arrive : List Cond := Cond.code y_O_arrive b_O_arrive 3 (some .boolean) :: wB
set_option maxHeartbeats 4000000 in
set_option maxRecDepth 100000 in
theorem c_O_arrive {l : Launch} {D : va_G} {cI cT : ClassId} {ad : Nat → Nat} {n : Nat} {M : MX} {a1 : Int32} {r0 : Int32} {M0 : MX} (hj : j_O_arrive n M a1 = some (r0, M0)) : gw_Cz l y_O_arrive ws_O_arrive rm_O_arrive D (tyX cI cT) (wX cI cT ad M) [.ref (ad 0), .int a1] r0 (wX cI cT ad M0) := by
  intro sz
  refine gw_metz (cc := b_O_arrive) (maxL := 3) (by decide) rfl (Nat.le_of_ble_eq_true rfl) ?_
  intro p e s m args below meth c A Q S H locs hw hend ls hl
  have S : CallFix p m c b_O_arrive 3 s args ws_O_arrive R_O := S
  have hx := S.1
  have hb := S.2.1
  have hts := S.2.2.2.2
  have hl : lv_has ls 3 [(0, .ref (ad 0)), (1, .int a1)] := hl
  have n_T_O : ∀ w ∈ u_ws R_O T_O 3, w ∈ ws_O_arrive := fun w h => List.mem_cons_of_mem _ (uT_O w h)
  have f_10 : Cond.fieldLink R_O 10 (T_O 0).1 (T_O 0).2.1 (T_O 0).2.2.1 ∈ ws_O_arrive := List.mem_cons_of_mem _ xw_42
  have f_28 : Cond.fieldLink R_O 28 (T_O 2).1 (T_O 2).2.1 (T_O 2).2.2.1 ∈ ws_O_arrive := List.mem_cons_of_mem _ xw_43
  have w_50 : CallW rm_O_arrive s args R_O R_S 50 y_S_find b_S_find 3 (some (.object "SegmentKernel$Task")) ws_S_find rm_S_find 0 0 1 := cwV 1 hts (wB_callV (fun w h => List.mem_cons_of_mem _ h) xw_26 xw_105 xw_28 xw_29 xw_14) rfl rfl rfl (by decide +kernel) ⟨Nat.le_of_ble_eq_true rfl, Nat.le_of_ble_eq_true rfl⟩
  have w_80 : CallW rm_O_arrive s args R_O R_S 80 y_S_isReady b_S_isReady 2 (some .boolean) ws_S_isReady rm_S_isReady 0 0 0 := cwV 0 hts (wB_callV (fun w h => List.mem_cons_of_mem _ h) xw_210 xw_211 xw_212 xw_213 xw_14) rfl rfl rfl (by decide +kernel) ⟨Nat.le_of_ble_eq_true rfl, Nat.le_of_ble_eq_true rfl⟩
  have w_114 : CallW rm_O_arrive s args R_O R_K 114 y_K_accept b_K_accept 2 (some .boolean) ws_K_accept rm_K_accept 0 0 1 := cwV 1 hts (wB_callV (fun w h => List.mem_cons_of_mem _ h) xw_214 xw_215 xw_216 xw_217 xw_82) rfl rfl rfl (by decide +kernel) ⟨Nat.le_of_ble_eq_true rfl, Nat.le_of_ble_eq_true rfl⟩
  unfold j_O_arrive at hj
  refine lv_aload_n hx hb d_O_arrive_0 rfl (lv_at hl 0 rfl) ?_
  refine gw_get (v := .ref (ad 1)) S hw xa_O rfl (by decide) n_T_O f_10 rfl d_O_arrive_1 ?_
  refine lv_iload_n hx hb d_O_arrive_4 rfl (lv_at hl 1 rfl) ?_
  obtain ⟨r_2, e_1, hj⟩ := Option.bind_eq_some_iff.mp hj
  refine gw_callq (As := [.int a1]) (rest := []) S hw (c_S_find e_1) w_50 xa_S rfl rfl hl.1 rfl (Nat.le_of_ble_eq_true rfl) d_O_arrive_5 (fun H locs hw => ?_)
  refine gw_astore_n (lv' := [(2, va_rf (gw_oa ad r_2)), (0, .ref (ad 0)), (1, .int a1)]) hx hb d_O_arrive_8 rfl hl (by decide) rfl (fun ls hl => ?_)
  refine gw_aload_n hx hb d_O_arrive_9 rfl (lv_at hl 0 rfl) ?_
  rcases r_2 with _ | y_3
  · rw [gw_oc_none rfl] at hj
    refine lv_ifnullN (tgt := 38) hx hb d_O_arrive_10 (by decide) ?_
    refine lv_iconst (v := 0) hx hb d_O_arrive_38 (by decide) ?_
    exact hend H locs ls 39 _ _ (Prod.mk.inj (Option.some.inj hj)).1 (congrArg (wX cI cT ad) (Prod.mk.inj (Option.some.inj hj)).2) (Or.inl rfl) hw d_O_arrive_39
  · rw [gw_oc_some rfl] at hj
    refine lv_ifnull hx hb d_O_arrive_10 ?_
    refine lv_aload_n hx hb d_O_arrive_13 rfl (lv_at hl 1 rfl) ?_
    refine gw_get (v := .ref (ad 1)) S hw xa_O rfl (by decide) n_T_O f_10 rfl d_O_arrive_14 ?_
    obtain ⟨r_5, e_4, hj⟩ := Option.bind_eq_some_iff.mp hj
    refine gw_calli (As := []) (rest := []) S hw (c_S_isReady e_4) w_80 xa_S rfl rfl hl.1 rfl (Nat.le_of_ble_eq_true rfl) d_O_arrive_17 (fun H locs hw => ?_)
    refine lv_if_eq (tgt := 38) hx hb d_O_arrive_20 (by decide) (fun c_6 => ?_) (fun c_6 => ?_)
    · rw [if_pos c_6] at hj
      refine lv_iconst (v := 0) hx hb d_O_arrive_38 (by decide) ?_
      exact hend H locs ls 39 _ _ (Prod.mk.inj (Option.some.inj hj)).1 (congrArg (wX cI cT ad) (Prod.mk.inj (Option.some.inj hj)).2) (Or.inl rfl) hw d_O_arrive_39
    · rw [if_neg c_6] at hj
      refine lv_aload_n hx hb d_O_arrive_23 rfl (lv_at hl 1 rfl) ?_
      refine gw_get (v := .ref (ad 5)) S hw xa_O rfl (by decide) n_T_O f_28 rfl d_O_arrive_24 ?_
      refine lv_aload_n hx hb d_O_arrive_27 rfl (lv_at hl 0 rfl) ?_
      obtain ⟨q_8, e_7, hj⟩ := Option.bind_eq_some_iff.mp hj
      refine gw_calli (As := [.ref (ad (6 + y_3.val))]) (rest := []) S hw (c_K_accept e_7) w_114 xa_K rfl rfl hl.1 rfl (Nat.le_of_ble_eq_true rfl) d_O_arrive_28 (fun H locs hw => ?_)
      refine lv_if_eq (tgt := 38) hx hb d_O_arrive_31 (by decide) (fun c_9 => ?_) (fun c_9 => ?_)
      · rw [if_pos c_9] at hj
        refine lv_iconst (v := 0) hx hb d_O_arrive_38 (by decide) ?_
        exact hend H locs ls 39 _ _ (Prod.mk.inj (Option.some.inj hj)).1 (congrArg (wX cI cT ad) (Prod.mk.inj (Option.some.inj hj)).2) (Or.inl rfl) hw d_O_arrive_39
      · rw [if_neg c_9] at hj
        refine lv_iconst (v := 1) hx hb d_O_arrive_34 (by decide) ?_
        refine lv_goto (tgt := 39) hx hb d_O_arrive_35 (by decide) ?_
        exact hend H locs ls 39 _ _ (Prod.mk.inj (Option.some.inj hj)).1 (congrArg (wX cI cT ad) (Prod.mk.inj (Option.some.inj hj)).2) (Or.inr rfl) hw d_O_arrive_39
abbrev rm_J_hasOpen : Room := { frames := 0, cells := 0, slots := 0, locals := 0 }
def ws_J_hasOpen : List Cond := Cond.code y_J_hasOpen b_J_hasOpen 1 (some .boolean) :: wB
set_option maxHeartbeats 4000000 in
set_option maxRecDepth 100000 in
theorem c_J_hasOpen {l : Launch} {D : va_G} {cI cT : ClassId} {ad : Nat → Nat} {n : Nat} {M : MX} {x0 : Fin 8} {r0 : Int32} (hj : j_J_hasOpen n M x0 = some r0) : gw_Cz l y_J_hasOpen ws_J_hasOpen rm_J_hasOpen D (tyX cI cT) (wX cI cT ad M) [.ref (ad (14 + x0.val))] r0 (wX cI cT ad M) := by
  intro sz
  refine gw_metz (cc := b_J_hasOpen) (maxL := 1) (by decide) rfl (Nat.le_of_ble_eq_true rfl) ?_
  intro p e s m args below meth c A Q S H locs hw hend ls hl
  have S : CallFix p m c b_J_hasOpen 1 s args ws_J_hasOpen R_J := S
  have hx := S.1
  have hb := S.2.1
  have hts := S.2.2.2.2
  have hl : lv_has ls 1 [(0, .ref (ad (14 + x0.val)))] := hl
  have n_T_J : ∀ w ∈ u_ws R_J T_J 8, w ∈ ws_J_hasOpen := fun w h => List.mem_cons_of_mem _ (uT_J w h)
  have f_18 : Cond.fieldLink R_J 18 (T_J 2).1 (T_J 2).2.1 (T_J 2).2.2.1 ∈ ws_J_hasOpen := List.mem_cons_of_mem _ xw_58
  have f_22 : Cond.fieldLink R_J 22 (T_J 3).1 (T_J 3).2.1 (T_J 3).2.2.1 ∈ ws_J_hasOpen := List.mem_cons_of_mem _ xw_59
  unfold j_J_hasOpen at hj
  refine lv_aload_n hx hb d_J_hasOpen_0 rfl (lv_at hl 0 rfl) ?_
  refine gw_get (v := .int (M.1 1 x0 3)) S hw (xa_J x0) rfl (by decide) n_T_J f_22 rfl d_J_hasOpen_1 ?_
  refine lv_aload_n hx hb d_J_hasOpen_4 rfl (lv_at hl 0 rfl) ?_
  refine gw_get (v := .int (M.1 1 x0 2)) S hw (xa_J x0) rfl (by decide) n_T_J f_18 rfl d_J_hasOpen_5 ?_
  refine lv_icmp_ge (tgt := 15) hx hb d_J_hasOpen_8 (by decide) (fun c_1 => ?_) (fun c_1 => ?_)
  · rw [if_pos c_1] at hj
    refine lv_iconst (v := 0) hx hb d_J_hasOpen_15 (by decide) ?_
    exact hend H locs ls 16 _ _ (Option.some.inj hj) rfl (Or.inl rfl) hw d_J_hasOpen_16
  · rw [if_neg c_1] at hj
    refine lv_iconst (v := 1) hx hb d_J_hasOpen_11 (by decide) ?_
    refine lv_goto (tgt := 16) hx hb d_J_hasOpen_12 (by decide) ?_
    exact hend H locs ls 16 _ _ (Option.some.inj hj) rfl (Or.inr rfl) hw d_J_hasOpen_16
end
section
abbrev rm_K_highestWithJob : Room := { frames := 1, cells := 0, slots := 0, locals := 20 }
def ws_K_highestWithJob : List Cond := Cond.code y_K_highestWithJob b_K_highestWithJob 2 (some (.object "SegmentKernel$Task")) :: wB
set_option maxHeartbeats 4000000 in
set_option maxRecDepth 100000 in
theorem c_K_highestWithJob {l : Launch} {D : va_G} {cI cT : ClassId} {ad : Nat → Nat} {n : Nat} {M : MX} {r0 : Option (Fin 8)} (hj : j_K_highestWithJob n M = some r0) : gw_Cq l y_K_highestWithJob ws_K_highestWithJob rm_K_highestWithJob D (tyX cI cT) (wX cI cT ad M) [.ref (ad 5)] (gw_oa ad r0) (wX cI cT ad M) := by
  intro sz
  refine gw_metq (cc := b_K_highestWithJob) (maxL := 2) (by decide) rfl (Nat.le_of_ble_eq_true rfl) ?_
  intro p e s m args below meth c A Q S H locs hw hend ls hl
  have S : CallFix p m c b_K_highestWithJob 2 s args ws_K_highestWithJob R_K := S
  have hx := S.1
  have hb := S.2.1
  have hts := S.2.2.2.2
  have hl : lv_has ls 2 [(0, .ref (ad 5))] := hl
  have n_T_K : ∀ w ∈ u_ws R_K T_K 6, w ∈ ws_K_highestWithJob := fun w h => List.mem_cons_of_mem _ (uT_K w h)
  have n_T_S : ∀ w ∈ u_ws R_S T_S 3, w ∈ ws_K_highestWithJob := fun w h => List.mem_cons_of_mem _ (uT_S w h)
  have n_T_T : ∀ w ∈ u_ws R_T T_T 13, w ∈ ws_K_highestWithJob := fun w h => List.mem_cons_of_mem _ (uT_T w h)
  have f_7 : Cond.fieldLink R_K 7 (T_K 0).1 (T_K 0).2.1 (T_K 0).2.2.1 ∈ ws_K_highestWithJob := List.mem_cons_of_mem _ xw_64
  have f_13 : Cond.fieldLink R_K 13 (T_S 2).1 (T_S 2).2.1 (T_S 2).2.2.1 ∈ ws_K_highestWithJob := List.mem_cons_of_mem _ xw_65
  have f_19 : Cond.fieldLink R_K 19 (T_S 1).1 (T_S 1).2.1 (T_S 1).2.2.1 ∈ ws_K_highestWithJob := List.mem_cons_of_mem _ xw_66
  have f_23 : Cond.fieldLink R_K 23 (T_T 1).1 (T_T 1).2.1 (T_T 1).2.2.1 ∈ ws_K_highestWithJob := List.mem_cons_of_mem _ xw_67
  have w_102 : CallW rm_K_highestWithJob s args R_K R_J 102 y_J_hasOpen b_J_hasOpen 1 (some .boolean) ws_J_hasOpen rm_J_hasOpen 0 0 0 := cwV 0 hts (wB_callV (fun w h => List.mem_cons_of_mem _ h) xw_218 xw_219 xw_220 xw_221 xw_77) rfl rfl rfl (by decide +kernel) ⟨Nat.le_of_ble_eq_true rfl, Nat.le_of_ble_eq_true rfl⟩
  unfold j_K_highestWithJob at hj
  refine lv_iconst (v := 0) hx hb d_K_highestWithJob_0 (by decide) ?_
  refine lv_istore_n (lv' := [(1, .int 0), (0, .ref (ad 5))]) hx hb d_K_highestWithJob_1 rfl hl (by decide) rfl (fun ls hl => ?_)
  have L2 : ∀ (f2 : Nat) (v1_2 : Int32), j_K_highestWithJob_L2 n M f2 v1_2 = some r0 → ∀ (H : Heap) (locs : List Loc), gw_W D (tyX cI cT) A (wX cI cT ad M) s H locs → ∀ ls : Array Slot, lv_has ls 2 [(0, .ref (ad 5)), (1, .int v1_2)] → W p l e rm_K_highestWithJob s m args below meth c H locs 0 0 Q (F0 m 2 ls []) := by
    intro f2
    induction f2 with
    | zero =>
      intro v1_2 hj
      exact nomatch (show (none : Option (Option (Fin 8))) = some r0 from hj)
    | succ f2 ih2 =>
      intro v1_2 hj H locs hw ls hl
      rw [j_K_highestWithJob_L2] at hj
      refine lv_iload_n hx hb d_K_highestWithJob_2 rfl (lv_at hl 1 rfl) ?_
      refine lv_aload_n hx hb d_K_highestWithJob_3 rfl (lv_at hl 0 rfl) ?_
      refine gw_get (v := .ref (ad 1)) S hw xa_K rfl (by decide) n_T_K f_7 rfl d_K_highestWithJob_4 ?_
      refine gw_get (v := .int (M.2.1 0 2)) S hw xa_S rfl (by decide) n_T_S f_13 rfl d_K_highestWithJob_7 ?_
      refine lv_icmp_ge (tgt := 47) hx hb d_K_highestWithJob_10 (by decide) (fun c_7 => ?_) (fun c_7 => ?_)
      · rw [if_pos c_7] at hj
        refine lv_null hx hb d_K_highestWithJob_47 ?_
        exact hend H locs ls 48 _ _ (congrArg (gw_oa ad) (Option.some.inj hj)) rfl hw d_K_highestWithJob_48
      · rw [if_neg c_7] at hj
        refine lv_aload_n hx hb d_K_highestWithJob_13 rfl (lv_at hl 0 rfl) ?_
        refine gw_get (v := .ref (ad 1)) S hw xa_K rfl (by decide) n_T_K f_7 rfl d_K_highestWithJob_14 ?_
        refine gw_get (v := .ref (ad 3)) S hw xa_S rfl (by decide) n_T_S f_19 rfl d_K_highestWithJob_17 ?_
        refine lv_iload_n hx hb d_K_highestWithJob_20 rfl (lv_at hl 1 rfl) ?_
        obtain ⟨g_8, hj⟩ := gw_if hj
        refine gw_aldq (t0 := 1) S hw ⟨xa_rk, rfl⟩ g_8 d_K_highestWithJob_21 ?_
        refine gw_get (v := .ref (ad (14 + (M.2.2.1 v1_2.toNatClampNeg).val))) S hw (xa_T (M.2.2.1 v1_2.toNatClampNeg)) rfl (by decide) n_T_T f_23 rfl d_K_highestWithJob_22 ?_
        obtain ⟨r_10, e_9, hj⟩ := Option.bind_eq_some_iff.mp hj
        refine gw_calli (As := []) (rest := []) S hw (c_J_hasOpen e_9) w_102 (xa_J (M.2.2.1 v1_2.toNatClampNeg)) rfl rfl hl.1 rfl (Nat.le_of_ble_eq_true rfl) d_K_highestWithJob_25 (fun H locs hw => ?_)
        refine lv_if_eq (tgt := 41) hx hb d_K_highestWithJob_28 (by decide) (fun c_11 => ?_) (fun c_11 => ?_)
        · rw [if_pos c_11] at hj
          refine lv_iinc (v := (v1_2 + 1)) (lv' := [(1, .int (v1_2 + 1)), (0, .ref (ad 5))]) hx hb d_K_highestWithJob_41 hl (k := 1) rfl rfl (by decide) rfl (fun ls hl => ?_)
          refine lv_goto (tgt := 2) hx hb d_K_highestWithJob_44 (by decide) ?_
          exact ih2 (v1_2 + 1) hj H locs hw ls (lv_sub hl [1, 0] rfl)
        · rw [if_neg c_11] at hj
          refine lv_aload_n hx hb d_K_highestWithJob_31 rfl (lv_at hl 0 rfl) ?_
          refine gw_get (v := .ref (ad 1)) S hw xa_K rfl (by decide) n_T_K f_7 rfl d_K_highestWithJob_32 ?_
          refine gw_get (v := .ref (ad 3)) S hw xa_S rfl (by decide) n_T_S f_19 rfl d_K_highestWithJob_35 ?_
          refine lv_iload_n hx hb d_K_highestWithJob_38 rfl (lv_at hl 1 rfl) ?_
          obtain ⟨g_12, hj⟩ := gw_if hj
          refine gw_aldq (t0 := 1) S hw ⟨xa_rk, rfl⟩ g_12 d_K_highestWithJob_39 ?_
          exact hend H locs ls 40 _ _ (congrArg (gw_oa ad) (Option.some.inj hj)) rfl hw d_K_highestWithJob_40
  exact L2 n 0 hj H locs hw ls (lv_sub hl [1, 0] rfl)
abbrev rm_K_beginSegment : Room := { frames := 2, cells := 0, slots := 0, locals := 41 }
def ws_K_beginSegment : List Cond := Cond.code y_K_beginSegment b_K_beginSegment 2 none :: wB
set_option maxHeartbeats 4000000 in
set_option maxRecDepth 100000 in
theorem c_K_beginSegment {l : Launch} {D : va_G} {cI cT : ClassId} {ad : Nat → Nat} {n : Nat} {M : MX} {M0 : MX} (hj : j_K_beginSegment n M = some M0) : gw_Cv l y_K_beginSegment ws_K_beginSegment rm_K_beginSegment D (tyX cI cT) (wX cI cT ad M) [.ref (ad 5)] (wX cI cT ad M0) := by
  intro sz
  refine gw_metv (cc := b_K_beginSegment) (maxL := 2) (by decide) rfl (Nat.le_of_ble_eq_true rfl) ?_
  intro p e s m args below meth c A Q S H locs hw hend ls hl
  have S : CallFix p m c b_K_beginSegment 2 s args ws_K_beginSegment R_K := S
  have hx := S.1
  have hb := S.2.1
  have hts := S.2.2.2.2
  have hl : lv_has ls 2 [(0, .ref (ad 5))] := hl
  have hinj := xi_inj hw
  have n_T_J : ∀ w ∈ u_ws R_J T_J 8, w ∈ ws_K_beginSegment := fun w h => List.mem_cons_of_mem _ (uT_J w h)
  have n_T_K : ∀ w ∈ u_ws R_K T_K 6, w ∈ ws_K_beginSegment := fun w h => List.mem_cons_of_mem _ (uT_K w h)
  have n_T_T : ∀ w ∈ u_ws R_T T_T 13, w ∈ ws_K_beginSegment := fun w h => List.mem_cons_of_mem _ (uT_T w h)
  have f_23 : Cond.fieldLink R_K 23 (T_T 1).1 (T_T 1).2.1 (T_T 1).2.2.1 ∈ ws_K_beginSegment := List.mem_cons_of_mem _ xw_67
  have f_41 : Cond.fieldLink R_K 41 (T_K 3).1 (T_K 3).2.1 (T_K 3).2.2.1 ∈ ws_K_beginSegment := List.mem_cons_of_mem _ xw_70
  have f_44 : Cond.fieldLink R_K 44 (T_K 4).1 (T_K 4).2.1 (T_K 4).2.2.1 ∈ ws_K_beginSegment := List.mem_cons_of_mem _ xw_71
  have f_48 : Cond.fieldLink R_K 48 (T_K 5).1 (T_K 5).2.1 (T_K 5).2.2.1 ∈ ws_K_beginSegment := List.mem_cons_of_mem _ xw_72
  have f_82 : Cond.fieldLink R_K 82 (T_J 5).1 (T_J 5).2.1 (T_J 5).2.2.1 ∈ ws_K_beginSegment := List.mem_cons_of_mem _ xw_222
  have f_85 : Cond.fieldLink R_K 85 (T_J 7).1 (T_J 7).2.1 (T_J 7).2.2.1 ∈ ws_K_beginSegment := List.mem_cons_of_mem _ xw_223
  have w_78 : CallW rm_K_beginSegment s args R_K R_K 78 y_K_highestWithJob b_K_highestWithJob 2 (some (.object "SegmentKernel$Task")) ws_K_highestWithJob rm_K_highestWithJob 0 0 0 := cwV 0 hts (wB_callV (fun w h => List.mem_cons_of_mem _ h) xw_224 xw_225 xw_226 xw_227 xw_82) rfl rfl rfl (by decide +kernel) ⟨Nat.le_of_ble_eq_true rfl, Nat.le_of_ble_eq_true rfl⟩
  have w_88 : CallW rm_K_beginSegment s args R_K R_T 88 y_T_segmentAt b_T_segmentAt 2 (some .int) ws_T_segmentAt rm_T_segmentAt 0 0 1 := cwV 1 hts (wB_callV (fun w h => List.mem_cons_of_mem _ h) xw_110 xw_228 xw_112 xw_113 xw_21) rfl rfl rfl (by decide +kernel) ⟨Nat.le_of_ble_eq_true rfl, Nat.le_of_ble_eq_true rfl⟩
  unfold j_K_beginSegment at hj
  refine lv_aload_n hx hb d_K_beginSegment_0 rfl (lv_at hl 0 rfl) ?_
  obtain ⟨r_2, e_1, hj⟩ := Option.bind_eq_some_iff.mp hj
  refine gw_callq (As := []) (rest := []) S hw (c_K_highestWithJob e_1) w_78 xa_K rfl rfl hl.1 rfl (Nat.le_of_ble_eq_true rfl) d_K_beginSegment_1 (fun H locs hw => ?_)
  refine gw_astore_n (lv' := [(1, va_rf (gw_oa ad r_2)), (0, .ref (ad 5))]) hx hb d_K_beginSegment_4 rfl hl (by decide) rfl (fun ls hl => ?_)
  refine gw_aload_n hx hb d_K_beginSegment_5 rfl (lv_at hl 0 rfl) ?_
  rcases r_2 with _ | y_3
  · rw [gw_oc_none rfl] at hj
    refine lv_ifnonnullN hx hb d_K_beginSegment_6 ?_
    exact hend H locs ls 9 _ (congrArg (wX cI cT ad) (Option.some.inj hj)) hw d_K_beginSegment_9
  · rw [gw_oc_some rfl] at hj
    refine lv_ifnonnull (tgt := 10) hx hb d_K_beginSegment_6 (by decide) ?_
    refine lv_aload_n hx hb d_K_beginSegment_10 rfl (lv_at hl 1 rfl) ?_
    refine gw_get (v := va_rf (gw_oa ad M.2.2.2.2)) S hw xa_K rfl (by decide) n_T_K f_48 rfl d_K_beginSegment_11 ?_
    rcases o_14 : M.2.2.2.2 with _ | y_4
    · rw [gw_oc_none o_14] at hj
      refine lv_ifnullN (tgt := 41) hx hb d_K_beginSegment_14 (by decide) ?_
      refine lv_aload_n hx hb d_K_beginSegment_41 rfl (lv_at hl 1 rfl) ?_
      refine lv_null hx hb d_K_beginSegment_42 ?_
      refine gw_put (v := .null) (ty := (.object "SegmentKernel$Task")) S hw xa_K rfl (by decide) n_T_K f_48 tk_K nm_K rfl (by decide +kernel) rfl rfl (Nat.le_of_ble_eq_true rfl) (xs_P none) d_K_beginSegment_43 (fun H locs hw => ?_)
      refine lv_aload_n hx hb d_K_beginSegment_46 rfl (lv_at hl 1 rfl) ?_
      refine lv_aload_n hx hb d_K_beginSegment_47 rfl (lv_at hl 0 rfl) ?_
      refine gw_put (v := .ref (ad (6 + y_3.val))) (ty := (.object "SegmentKernel$Task")) S hw xa_K rfl (by decide) n_T_K f_44 tk_K nm_K rfl (by decide +kernel) rfl rfl (Nat.le_of_ble_eq_true rfl) (xs_U (some y_3)) d_K_beginSegment_48 (fun H locs hw => ?_)
      refine lv_aload_n hx hb d_K_beginSegment_51 rfl (lv_at hl 1 rfl) ?_
      refine lv_aload_n hx hb d_K_beginSegment_52 rfl (lv_at hl 0 rfl) ?_
      refine lv_aload_n hx hb d_K_beginSegment_53 rfl (lv_at hl 0 rfl) ?_
      refine gw_get (v := .ref (ad (14 + y_3.val))) S hw (xa_T y_3) rfl (by decide) n_T_T f_23 rfl d_K_beginSegment_54 ?_
      refine gw_get (v := .int ((sU (sP M none) (some y_3)).1 1 y_3 7)) S hw (xa_J y_3) rfl (by decide) n_T_J f_85 rfl d_K_beginSegment_57 ?_
      obtain ⟨r_6, e_5, hj⟩ := Option.bind_eq_some_iff.mp hj
      refine gw_calli (As := [.int ((sU (sP M none) (some y_3)).1 1 y_3 7)]) (rest := [.ref (ad 5)]) S hw (c_T_segmentAt e_5) w_88 (xa_T y_3) rfl rfl hl.1 rfl (Nat.le_of_ble_eq_true rfl) d_K_beginSegment_60 (fun H locs hw => ?_)
      refine gw_put (v := .int r_6) (ty := .int) S hw xa_K rfl (by decide) n_T_K f_41 tk_K nm_K rfl (by decide +kernel) rfl rfl (Nat.le_of_ble_eq_true rfl) (xs_K 3 r_6 (by decide)) d_K_beginSegment_63 (fun H locs hw => ?_)
      exact hend H locs ls 66 _ (congrArg (wX cI cT ad) (Option.some.inj hj)) hw d_K_beginSegment_66
    · rw [gw_oc_some o_14] at hj
      refine lv_ifnull hx hb d_K_beginSegment_14 ?_
      refine lv_aload_n hx hb d_K_beginSegment_17 rfl (lv_at hl 1 rfl) ?_
      refine gw_get (v := va_rf (gw_oa ad M.2.2.2.2)) S hw xa_K rfl (by decide) n_T_K f_48 rfl d_K_beginSegment_18 ?_
      refine lv_aload_n hx hb d_K_beginSegment_21 rfl (lv_at hl 0 rfl) ?_
      refine gw_acmp_eq (ad := ad) (ox := M.2.2.2.2) (oy := (some y_3)) (tgt := 41) hinj hx hb d_K_beginSegment_22 (by decide) (fun c_7 => ?_) (fun c_7 => ?_)
      · rw [if_pos c_7] at hj
        refine lv_aload_n hx hb d_K_beginSegment_41 rfl (lv_at hl 1 rfl) ?_
        refine lv_null hx hb d_K_beginSegment_42 ?_
        refine gw_put (v := .null) (ty := (.object "SegmentKernel$Task")) S hw xa_K rfl (by decide) n_T_K f_48 tk_K nm_K rfl (by decide +kernel) rfl rfl (Nat.le_of_ble_eq_true rfl) (xs_P none) d_K_beginSegment_43 (fun H locs hw => ?_)
        refine lv_aload_n hx hb d_K_beginSegment_46 rfl (lv_at hl 1 rfl) ?_
        refine lv_aload_n hx hb d_K_beginSegment_47 rfl (lv_at hl 0 rfl) ?_
        refine gw_put (v := .ref (ad (6 + y_3.val))) (ty := (.object "SegmentKernel$Task")) S hw xa_K rfl (by decide) n_T_K f_44 tk_K nm_K rfl (by decide +kernel) rfl rfl (Nat.le_of_ble_eq_true rfl) (xs_U (some y_3)) d_K_beginSegment_48 (fun H locs hw => ?_)
        refine lv_aload_n hx hb d_K_beginSegment_51 rfl (lv_at hl 1 rfl) ?_
        refine lv_aload_n hx hb d_K_beginSegment_52 rfl (lv_at hl 0 rfl) ?_
        refine lv_aload_n hx hb d_K_beginSegment_53 rfl (lv_at hl 0 rfl) ?_
        refine gw_get (v := .ref (ad (14 + y_3.val))) S hw (xa_T y_3) rfl (by decide) n_T_T f_23 rfl d_K_beginSegment_54 ?_
        refine gw_get (v := .int ((sU (sP M none) (some y_3)).1 1 y_3 7)) S hw (xa_J y_3) rfl (by decide) n_T_J f_85 rfl d_K_beginSegment_57 ?_
        obtain ⟨r_9, e_8, hj⟩ := Option.bind_eq_some_iff.mp hj
        refine gw_calli (As := [.int ((sU (sP M none) (some y_3)).1 1 y_3 7)]) (rest := [.ref (ad 5)]) S hw (c_T_segmentAt e_8) w_88 (xa_T y_3) rfl rfl hl.1 rfl (Nat.le_of_ble_eq_true rfl) d_K_beginSegment_60 (fun H locs hw => ?_)
        refine gw_put (v := .int r_9) (ty := .int) S hw xa_K rfl (by decide) n_T_K f_41 tk_K nm_K rfl (by decide +kernel) rfl rfl (Nat.le_of_ble_eq_true rfl) (xs_K 3 r_9 (by decide)) d_K_beginSegment_63 (fun H locs hw => ?_)
        exact hend H locs ls 66 _ (congrArg (wX cI cT ad) (Option.some.inj hj)) hw d_K_beginSegment_66
      · rw [if_neg c_7] at hj
        refine lv_aload_n hx hb d_K_beginSegment_25 rfl (lv_at hl 1 rfl) ?_
        refine gw_get (v := va_rf (gw_oa ad M.2.2.2.2)) S hw xa_K rfl (by decide) n_T_K f_48 rfl d_K_beginSegment_26 ?_
        obtain ⟨y_10, e_11, hj⟩ := Option.bind_eq_some_iff.mp hj
        rw [e_11]
        show W p l _ _ s m args below meth c H locs 0 0 Q (F0 m 29 ls [.ref (ad (6 + y_10.val))])
        refine gw_get (v := .ref (ad (14 + y_10.val))) S hw (xa_T y_10) rfl (by decide) n_T_T f_23 rfl d_K_beginSegment_29 ?_
        refine lv_dup hx hb d_K_beginSegment_32 rfl ?_
        refine gw_get (v := .int (M.1 1 y_10 5)) S hw (xa_J y_10) rfl (by decide) n_T_J f_82 rfl d_K_beginSegment_33 ?_
        refine lv_iconst (v := 1) hx hb d_K_beginSegment_36 (by decide) ?_
        refine lv_iadd hx hb d_K_beginSegment_37 ?_
        refine gw_put (v := .int ((M.1 1 y_10 5) + 1)) (ty := .int) S hw (xa_J y_10) rfl (by decide) n_T_J f_82 tk_J nm_J rfl (by decide +kernel) rfl rfl (Nat.le_of_ble_eq_true rfl) (xs_J y_10 5 ((M.1 1 y_10 5) + 1) (by decide)) d_K_beginSegment_38 (fun H locs hw => ?_)
        refine lv_aload_n hx hb d_K_beginSegment_41 rfl (lv_at hl 1 rfl) ?_
        refine lv_null hx hb d_K_beginSegment_42 ?_
        refine gw_put (v := .null) (ty := (.object "SegmentKernel$Task")) S hw xa_K rfl (by decide) n_T_K f_48 tk_K nm_K rfl (by decide +kernel) rfl rfl (Nat.le_of_ble_eq_true rfl) (xs_P none) d_K_beginSegment_43 (fun H locs hw => ?_)
        refine lv_aload_n hx hb d_K_beginSegment_46 rfl (lv_at hl 1 rfl) ?_
        refine lv_aload_n hx hb d_K_beginSegment_47 rfl (lv_at hl 0 rfl) ?_
        refine gw_put (v := .ref (ad (6 + y_3.val))) (ty := (.object "SegmentKernel$Task")) S hw xa_K rfl (by decide) n_T_K f_44 tk_K nm_K rfl (by decide +kernel) rfl rfl (Nat.le_of_ble_eq_true rfl) (xs_U (some y_3)) d_K_beginSegment_48 (fun H locs hw => ?_)
        refine lv_aload_n hx hb d_K_beginSegment_51 rfl (lv_at hl 1 rfl) ?_
        refine lv_aload_n hx hb d_K_beginSegment_52 rfl (lv_at hl 0 rfl) ?_
        refine lv_aload_n hx hb d_K_beginSegment_53 rfl (lv_at hl 0 rfl) ?_
        refine gw_get (v := .ref (ad (14 + y_3.val))) S hw (xa_T y_3) rfl (by decide) n_T_T f_23 rfl d_K_beginSegment_54 ?_
        refine gw_get (v := .int ((sU (sP (sF M 1 y_10 5 ((M.1 1 y_10 5) + 1)) none) (some y_3)).1 1 y_3 7)) S hw (xa_J y_3) rfl (by decide) n_T_J f_85 rfl d_K_beginSegment_57 ?_
        obtain ⟨r_13, e_12, hj⟩ := Option.bind_eq_some_iff.mp hj
        refine gw_calli (As := [.int ((sU (sP (sF M 1 y_10 5 ((M.1 1 y_10 5) + 1)) none) (some y_3)).1 1 y_3 7)]) (rest := [.ref (ad 5)]) S hw (c_T_segmentAt e_12) w_88 (xa_T y_3) rfl rfl hl.1 rfl (Nat.le_of_ble_eq_true rfl) d_K_beginSegment_60 (fun H locs hw => ?_)
        refine gw_put (v := .int r_13) (ty := .int) S hw xa_K rfl (by decide) n_T_K f_41 tk_K nm_K rfl (by decide +kernel) rfl rfl (Nat.le_of_ble_eq_true rfl) (xs_K 3 r_13 (by decide)) d_K_beginSegment_63 (fun H locs hw => ?_)
        exact hend H locs ls 66 _ (congrArg (wX cI cT ad) (Option.some.inj hj)) hw d_K_beginSegment_66
abbrev rm_J_finishOldest : Room := { frames := 1, cells := 0, slots := 0, locals := 21 }
def ws_J_finishOldest : List Cond := Cond.code y_J_finishOldest b_J_finishOldest 4 none :: wB
set_option maxHeartbeats 4000000 in
set_option maxRecDepth 100000 in
theorem c_J_finishOldest {l : Launch} {D : va_G} {cI cT : ClassId} {ad : Nat → Nat} {n : Nat} {M : MX} {x0 : Fin 8} {a1 : Int32} {a2 : Int32} {M0 : MX} (hj : j_J_finishOldest n M x0 a1 a2 = some M0) : gw_Cv l y_J_finishOldest ws_J_finishOldest rm_J_finishOldest D (tyX cI cT) (wX cI cT ad M) [.ref (ad (14 + x0.val)), .int a1, .int a2] (wX cI cT ad M0) := by
  intro sz
  refine gw_metv (cc := b_J_finishOldest) (maxL := 4) (by decide) rfl (Nat.le_of_ble_eq_true rfl) ?_
  intro p e s m args below meth c A Q S H locs hw hend ls hl
  have S : CallFix p m c b_J_finishOldest 4 s args ws_J_finishOldest R_J := S
  have hx := S.1
  have hb := S.2.1
  have hts := S.2.2.2.2
  have hl : lv_has ls 4 [(0, .ref (ad (14 + x0.val))), (1, .int a1), (2, .int a2)] := hl
  have n_T_J : ∀ w ∈ u_ws R_J T_J 8, w ∈ ws_J_finishOldest := fun w h => List.mem_cons_of_mem _ (uT_J w h)
  have f_9 : Cond.fieldLink R_J 9 (T_J 0).1 (T_J 0).2.1 (T_J 0).2.2.1 ∈ ws_J_finishOldest := List.mem_cons_of_mem _ xw_204
  have f_15 : Cond.fieldLink R_J 15 (T_J 1).1 (T_J 1).2.1 (T_J 1).2.2.1 ∈ ws_J_finishOldest := List.mem_cons_of_mem _ xw_229
  have f_22 : Cond.fieldLink R_J 22 (T_J 3).1 (T_J 3).2.1 (T_J 3).2.2.1 ∈ ws_J_finishOldest := List.mem_cons_of_mem _ xw_59
  have f_25 : Cond.fieldLink R_J 25 (T_J 4).1 (T_J 4).2.1 (T_J 4).2.2.1 ∈ ws_J_finishOldest := List.mem_cons_of_mem _ xw_60
  have f_31 : Cond.fieldLink R_J 31 (T_J 6).1 (T_J 6).2.1 (T_J 6).2.2.1 ∈ ws_J_finishOldest := List.mem_cons_of_mem _ xw_62
  have f_34 : Cond.fieldLink R_J 34 (T_J 7).1 (T_J 7).2.1 (T_J 7).2.2.1 ∈ ws_J_finishOldest := List.mem_cons_of_mem _ xw_63
  have m_37 := hts _ (List.mem_cons_of_mem _ xw_230)
  have ms_max := hts _ (List.mem_cons_of_mem _ xw_88)
  have mc_max := hts _ (List.mem_cons_of_mem _ xw_89)
  have mi_ := hts _ (List.mem_cons_of_mem _ xw_90)
  unfold j_J_finishOldest at hj
  refine lv_iload_n hx hb d_J_finishOldest_0 rfl (lv_at hl 1 rfl) ?_
  refine lv_aload_n hx hb d_J_finishOldest_1 rfl (lv_at hl 0 rfl) ?_
  refine gw_get (v := .ref (ad (30 + x0.val))) S hw (xa_J x0) rfl (by decide) n_T_J f_9 rfl d_J_finishOldest_2 ?_
  refine lv_aload_n hx hb d_J_finishOldest_5 rfl (lv_at hl 0 rfl) ?_
  refine gw_get (v := .int (M.1 1 x0 3)) S hw (xa_J x0) rfl (by decide) n_T_J f_22 rfl d_J_finishOldest_6 ?_
  refine lv_bipush (v := 9) hx hb d_J_finishOldest_9 (by decide) ?_
  refine lv_irem hx hb d_J_finishOldest_11 (by decide) ?_
  obtain ⟨g_1, hj⟩ := gw_if hj
  refine gw_iald (t0 := 0) S hw ⟨xa_ar x0, rfl⟩ g_1 d_J_finishOldest_12 ?_
  refine lv_isub hx hb d_J_finishOldest_13 ?_
  refine lv_istore_n (lv' := [(3, .int (a1 - (M.1 3 x0 ((M.1 1 x0 3) - (M.1 1 x0 3) / 9 * 9).toNatClampNeg))), (0, .ref (ad (14 + x0.val))), (1, .int a1), (2, .int a2)]) hx hb d_J_finishOldest_14 rfl hl (by decide) rfl (fun ls hl => ?_)
  refine lv_aload_n hx hb d_J_finishOldest_15 rfl (lv_at hl 1 rfl) ?_
  refine gw_get (v := .int (M.1 1 x0 3)) S hw (xa_J x0) rfl (by decide) n_T_J f_22 rfl d_J_finishOldest_16 ?_
  refine lv_sipush (v := 200) hx hb d_J_finishOldest_19 (by decide) ?_
  refine lv_icmp_ge (tgt := 35) hx hb d_J_finishOldest_22 (by decide) (fun c_2 => ?_) (fun c_2 => ?_)
  · rw [if_pos c_2] at hj
    refine lv_aload_n hx hb d_J_finishOldest_35 rfl (lv_at hl 1 rfl) ?_
    refine lv_aload_n hx hb d_J_finishOldest_36 rfl (lv_at hl 1 rfl) ?_
    refine gw_get (v := .int (M.1 1 x0 4)) S hw (xa_J x0) rfl (by decide) n_T_J f_25 rfl d_J_finishOldest_37 ?_
    refine lv_iload_n hx hb d_J_finishOldest_40 rfl (lv_at hl 0 rfl) ?_
    refine va_mmax hx hb (S.2.2.1.trans hl.1.symm) S.2.2.2.1 m_37 ms_max mi_ mc_max (by decide) (Nat.le_of_ble_eq_true rfl) (Nat.zero_le _) (Nat.zero_le _) d_J_finishOldest_41 ?_
    refine gw_put (v := .int (if (M.1 1 x0 4) < (a1 - (M.1 3 x0 ((M.1 1 x0 3) - (M.1 1 x0 3) / 9 * 9).toNatClampNeg)) then (a1 - (M.1 3 x0 ((M.1 1 x0 3) - (M.1 1 x0 3) / 9 * 9).toNatClampNeg)) else (M.1 1 x0 4))) (ty := .int) S hw (xa_J x0) rfl (by decide) n_T_J f_25 tk_J nm_J rfl (by decide +kernel) rfl rfl (Nat.le_of_ble_eq_true rfl) (xs_J x0 4 (if (M.1 1 x0 4) < (a1 - (M.1 3 x0 ((M.1 1 x0 3) - (M.1 1 x0 3) / 9 * 9).toNatClampNeg)) then (a1 - (M.1 3 x0 ((M.1 1 x0 3) - (M.1 1 x0 3) / 9 * 9).toNatClampNeg)) else (M.1 1 x0 4)) (by decide)) d_J_finishOldest_44 (fun H locs hw => ?_)
    refine lv_iload_n hx hb d_J_finishOldest_47 rfl (lv_at hl 0 rfl) ?_
    refine lv_iload_n hx hb d_J_finishOldest_48 rfl (lv_at hl 3 rfl) ?_
    refine lv_icmp_le (tgt := 62) hx hb d_J_finishOldest_49 (by decide) (fun c_3 => ?_) (fun c_3 => ?_)
    · rw [if_pos c_3] at hj
      refine lv_aload_n hx hb d_J_finishOldest_62 rfl (lv_at hl 1 rfl) ?_
      refine lv_dup hx hb d_J_finishOldest_63 rfl ?_
      refine gw_get (v := .int ((sF M 1 x0 4 (if (M.1 1 x0 4) < (a1 - (M.1 3 x0 ((M.1 1 x0 3) - (M.1 1 x0 3) / 9 * 9).toNatClampNeg)) then (a1 - (M.1 3 x0 ((M.1 1 x0 3) - (M.1 1 x0 3) / 9 * 9).toNatClampNeg)) else (M.1 1 x0 4))).1 1 x0 3)) S hw (xa_J x0) rfl (by decide) n_T_J f_22 rfl d_J_finishOldest_64 ?_
      refine lv_iconst (v := 1) hx hb d_J_finishOldest_67 (by decide) ?_
      refine lv_iadd hx hb d_J_finishOldest_68 ?_
      refine gw_put (v := .int (((sF M 1 x0 4 (if (M.1 1 x0 4) < (a1 - (M.1 3 x0 ((M.1 1 x0 3) - (M.1 1 x0 3) / 9 * 9).toNatClampNeg)) then (a1 - (M.1 3 x0 ((M.1 1 x0 3) - (M.1 1 x0 3) / 9 * 9).toNatClampNeg)) else (M.1 1 x0 4))).1 1 x0 3) + 1)) (ty := .int) S hw (xa_J x0) rfl (by decide) n_T_J f_22 tk_J nm_J rfl (by decide +kernel) rfl rfl (Nat.le_of_ble_eq_true rfl) (xs_J x0 3 (((sF M 1 x0 4 (if (M.1 1 x0 4) < (a1 - (M.1 3 x0 ((M.1 1 x0 3) - (M.1 1 x0 3) / 9 * 9).toNatClampNeg)) then (a1 - (M.1 3 x0 ((M.1 1 x0 3) - (M.1 1 x0 3) / 9 * 9).toNatClampNeg)) else (M.1 1 x0 4))).1 1 x0 3) + 1) (by decide)) d_J_finishOldest_69 (fun H locs hw => ?_)
      refine lv_aload_n hx hb d_J_finishOldest_72 rfl (lv_at hl 1 rfl) ?_
      refine lv_iconst (v := 0) hx hb d_J_finishOldest_73 (by decide) ?_
      refine gw_put (v := .int 0) (ty := .int) S hw (xa_J x0) rfl (by decide) n_T_J f_34 tk_J nm_J rfl (by decide +kernel) rfl rfl (Nat.le_of_ble_eq_true rfl) (xs_J x0 7 0 (by decide)) d_J_finishOldest_74 (fun H locs hw => ?_)
      exact hend H locs ls 77 _ (congrArg (wX cI cT ad) (Option.some.inj hj)) hw d_J_finishOldest_77
    · rw [if_neg c_3] at hj
      refine lv_aload_n hx hb d_J_finishOldest_52 rfl (lv_at hl 1 rfl) ?_
      refine lv_dup hx hb d_J_finishOldest_53 rfl ?_
      refine gw_get (v := .int ((sF M 1 x0 4 (if (M.1 1 x0 4) < (a1 - (M.1 3 x0 ((M.1 1 x0 3) - (M.1 1 x0 3) / 9 * 9).toNatClampNeg)) then (a1 - (M.1 3 x0 ((M.1 1 x0 3) - (M.1 1 x0 3) / 9 * 9).toNatClampNeg)) else (M.1 1 x0 4))).1 1 x0 6)) S hw (xa_J x0) rfl (by decide) n_T_J f_31 rfl d_J_finishOldest_54 ?_
      refine lv_iconst (v := 1) hx hb d_J_finishOldest_57 (by decide) ?_
      refine lv_iadd hx hb d_J_finishOldest_58 ?_
      refine gw_put (v := .int (((sF M 1 x0 4 (if (M.1 1 x0 4) < (a1 - (M.1 3 x0 ((M.1 1 x0 3) - (M.1 1 x0 3) / 9 * 9).toNatClampNeg)) then (a1 - (M.1 3 x0 ((M.1 1 x0 3) - (M.1 1 x0 3) / 9 * 9).toNatClampNeg)) else (M.1 1 x0 4))).1 1 x0 6) + 1)) (ty := .int) S hw (xa_J x0) rfl (by decide) n_T_J f_31 tk_J nm_J rfl (by decide +kernel) rfl rfl (Nat.le_of_ble_eq_true rfl) (xs_J x0 6 (((sF M 1 x0 4 (if (M.1 1 x0 4) < (a1 - (M.1 3 x0 ((M.1 1 x0 3) - (M.1 1 x0 3) / 9 * 9).toNatClampNeg)) then (a1 - (M.1 3 x0 ((M.1 1 x0 3) - (M.1 1 x0 3) / 9 * 9).toNatClampNeg)) else (M.1 1 x0 4))).1 1 x0 6) + 1) (by decide)) d_J_finishOldest_59 (fun H locs hw => ?_)
      refine lv_aload_n hx hb d_J_finishOldest_62 rfl (lv_at hl 1 rfl) ?_
      refine lv_dup hx hb d_J_finishOldest_63 rfl ?_
      refine gw_get (v := .int ((sF (sF M 1 x0 4 (if (M.1 1 x0 4) < (a1 - (M.1 3 x0 ((M.1 1 x0 3) - (M.1 1 x0 3) / 9 * 9).toNatClampNeg)) then (a1 - (M.1 3 x0 ((M.1 1 x0 3) - (M.1 1 x0 3) / 9 * 9).toNatClampNeg)) else (M.1 1 x0 4))) 1 x0 6 (((sF M 1 x0 4 (if (M.1 1 x0 4) < (a1 - (M.1 3 x0 ((M.1 1 x0 3) - (M.1 1 x0 3) / 9 * 9).toNatClampNeg)) then (a1 - (M.1 3 x0 ((M.1 1 x0 3) - (M.1 1 x0 3) / 9 * 9).toNatClampNeg)) else (M.1 1 x0 4))).1 1 x0 6) + 1)).1 1 x0 3)) S hw (xa_J x0) rfl (by decide) n_T_J f_22 rfl d_J_finishOldest_64 ?_
      refine lv_iconst (v := 1) hx hb d_J_finishOldest_67 (by decide) ?_
      refine lv_iadd hx hb d_J_finishOldest_68 ?_
      refine gw_put (v := .int (((sF (sF M 1 x0 4 (if (M.1 1 x0 4) < (a1 - (M.1 3 x0 ((M.1 1 x0 3) - (M.1 1 x0 3) / 9 * 9).toNatClampNeg)) then (a1 - (M.1 3 x0 ((M.1 1 x0 3) - (M.1 1 x0 3) / 9 * 9).toNatClampNeg)) else (M.1 1 x0 4))) 1 x0 6 (((sF M 1 x0 4 (if (M.1 1 x0 4) < (a1 - (M.1 3 x0 ((M.1 1 x0 3) - (M.1 1 x0 3) / 9 * 9).toNatClampNeg)) then (a1 - (M.1 3 x0 ((M.1 1 x0 3) - (M.1 1 x0 3) / 9 * 9).toNatClampNeg)) else (M.1 1 x0 4))).1 1 x0 6) + 1)).1 1 x0 3) + 1)) (ty := .int) S hw (xa_J x0) rfl (by decide) n_T_J f_22 tk_J nm_J rfl (by decide +kernel) rfl rfl (Nat.le_of_ble_eq_true rfl) (xs_J x0 3 (((sF (sF M 1 x0 4 (if (M.1 1 x0 4) < (a1 - (M.1 3 x0 ((M.1 1 x0 3) - (M.1 1 x0 3) / 9 * 9).toNatClampNeg)) then (a1 - (M.1 3 x0 ((M.1 1 x0 3) - (M.1 1 x0 3) / 9 * 9).toNatClampNeg)) else (M.1 1 x0 4))) 1 x0 6 (((sF M 1 x0 4 (if (M.1 1 x0 4) < (a1 - (M.1 3 x0 ((M.1 1 x0 3) - (M.1 1 x0 3) / 9 * 9).toNatClampNeg)) then (a1 - (M.1 3 x0 ((M.1 1 x0 3) - (M.1 1 x0 3) / 9 * 9).toNatClampNeg)) else (M.1 1 x0 4))).1 1 x0 6) + 1)).1 1 x0 3) + 1) (by decide)) d_J_finishOldest_69 (fun H locs hw => ?_)
      refine lv_aload_n hx hb d_J_finishOldest_72 rfl (lv_at hl 1 rfl) ?_
      refine lv_iconst (v := 0) hx hb d_J_finishOldest_73 (by decide) ?_
      refine gw_put (v := .int 0) (ty := .int) S hw (xa_J x0) rfl (by decide) n_T_J f_34 tk_J nm_J rfl (by decide +kernel) rfl rfl (Nat.le_of_ble_eq_true rfl) (xs_J x0 7 0 (by decide)) d_J_finishOldest_74 (fun H locs hw => ?_)
      exact hend H locs ls 77 _ (congrArg (wX cI cT ad) (Option.some.inj hj)) hw d_J_finishOldest_77
  · rw [if_neg c_2] at hj
    refine lv_aload_n hx hb d_J_finishOldest_25 rfl (lv_at hl 1 rfl) ?_
    refine gw_get (v := .ref (ad (38 + x0.val))) S hw (xa_J x0) rfl (by decide) n_T_J f_15 rfl d_J_finishOldest_26 ?_
    refine lv_aload_n hx hb d_J_finishOldest_29 rfl (lv_at hl 1 rfl) ?_
    refine gw_get (v := .int (M.1 1 x0 3)) S hw (xa_J x0) rfl (by decide) n_T_J f_22 rfl d_J_finishOldest_30 ?_
    refine lv_iload_n hx hb d_J_finishOldest_33 rfl (lv_at hl 0 rfl) ?_
    obtain ⟨g_4, hj⟩ := gw_if hj
    refine gw_iast (t0 := 0) S hw ⟨xa_no x0, rfl⟩ g_4 (xs_no x0 (M.1 1 x0 3).toNatClampNeg (a1 - (M.1 3 x0 ((M.1 1 x0 3) - (M.1 1 x0 3) / 9 * 9).toNatClampNeg))) d_J_finishOldest_34 (fun H locs hw => ?_)
    refine lv_aload_n hx hb d_J_finishOldest_35 rfl (lv_at hl 1 rfl) ?_
    refine lv_aload_n hx hb d_J_finishOldest_36 rfl (lv_at hl 1 rfl) ?_
    refine gw_get (v := .int ((sF M 4 x0 (M.1 1 x0 3).toNatClampNeg (a1 - (M.1 3 x0 ((M.1 1 x0 3) - (M.1 1 x0 3) / 9 * 9).toNatClampNeg))).1 1 x0 4)) S hw (xa_J x0) rfl (by decide) n_T_J f_25 rfl d_J_finishOldest_37 ?_
    refine lv_iload_n hx hb d_J_finishOldest_40 rfl (lv_at hl 0 rfl) ?_
    refine va_mmax hx hb (S.2.2.1.trans hl.1.symm) S.2.2.2.1 m_37 ms_max mi_ mc_max (by decide) (Nat.le_of_ble_eq_true rfl) (Nat.zero_le _) (Nat.zero_le _) d_J_finishOldest_41 ?_
    refine gw_put (v := .int (if ((sF M 4 x0 (M.1 1 x0 3).toNatClampNeg (a1 - (M.1 3 x0 ((M.1 1 x0 3) - (M.1 1 x0 3) / 9 * 9).toNatClampNeg))).1 1 x0 4) < (a1 - (M.1 3 x0 ((M.1 1 x0 3) - (M.1 1 x0 3) / 9 * 9).toNatClampNeg)) then (a1 - (M.1 3 x0 ((M.1 1 x0 3) - (M.1 1 x0 3) / 9 * 9).toNatClampNeg)) else ((sF M 4 x0 (M.1 1 x0 3).toNatClampNeg (a1 - (M.1 3 x0 ((M.1 1 x0 3) - (M.1 1 x0 3) / 9 * 9).toNatClampNeg))).1 1 x0 4))) (ty := .int) S hw (xa_J x0) rfl (by decide) n_T_J f_25 tk_J nm_J rfl (by decide +kernel) rfl rfl (Nat.le_of_ble_eq_true rfl) (xs_J x0 4 (if ((sF M 4 x0 (M.1 1 x0 3).toNatClampNeg (a1 - (M.1 3 x0 ((M.1 1 x0 3) - (M.1 1 x0 3) / 9 * 9).toNatClampNeg))).1 1 x0 4) < (a1 - (M.1 3 x0 ((M.1 1 x0 3) - (M.1 1 x0 3) / 9 * 9).toNatClampNeg)) then (a1 - (M.1 3 x0 ((M.1 1 x0 3) - (M.1 1 x0 3) / 9 * 9).toNatClampNeg)) else ((sF M 4 x0 (M.1 1 x0 3).toNatClampNeg (a1 - (M.1 3 x0 ((M.1 1 x0 3) - (M.1 1 x0 3) / 9 * 9).toNatClampNeg))).1 1 x0 4)) (by decide)) d_J_finishOldest_44 (fun H locs hw => ?_)
    refine lv_iload_n hx hb d_J_finishOldest_47 rfl (lv_at hl 0 rfl) ?_
    refine lv_iload_n hx hb d_J_finishOldest_48 rfl (lv_at hl 3 rfl) ?_
    refine lv_icmp_le (tgt := 62) hx hb d_J_finishOldest_49 (by decide) (fun c_5 => ?_) (fun c_5 => ?_)
    · rw [if_pos c_5] at hj
      refine lv_aload_n hx hb d_J_finishOldest_62 rfl (lv_at hl 1 rfl) ?_
      refine lv_dup hx hb d_J_finishOldest_63 rfl ?_
      refine gw_get (v := .int ((sF (sF M 4 x0 (M.1 1 x0 3).toNatClampNeg (a1 - (M.1 3 x0 ((M.1 1 x0 3) - (M.1 1 x0 3) / 9 * 9).toNatClampNeg))) 1 x0 4 (if ((sF M 4 x0 (M.1 1 x0 3).toNatClampNeg (a1 - (M.1 3 x0 ((M.1 1 x0 3) - (M.1 1 x0 3) / 9 * 9).toNatClampNeg))).1 1 x0 4) < (a1 - (M.1 3 x0 ((M.1 1 x0 3) - (M.1 1 x0 3) / 9 * 9).toNatClampNeg)) then (a1 - (M.1 3 x0 ((M.1 1 x0 3) - (M.1 1 x0 3) / 9 * 9).toNatClampNeg)) else ((sF M 4 x0 (M.1 1 x0 3).toNatClampNeg (a1 - (M.1 3 x0 ((M.1 1 x0 3) - (M.1 1 x0 3) / 9 * 9).toNatClampNeg))).1 1 x0 4))).1 1 x0 3)) S hw (xa_J x0) rfl (by decide) n_T_J f_22 rfl d_J_finishOldest_64 ?_
      refine lv_iconst (v := 1) hx hb d_J_finishOldest_67 (by decide) ?_
      refine lv_iadd hx hb d_J_finishOldest_68 ?_
      refine gw_put (v := .int (((sF (sF M 4 x0 (M.1 1 x0 3).toNatClampNeg (a1 - (M.1 3 x0 ((M.1 1 x0 3) - (M.1 1 x0 3) / 9 * 9).toNatClampNeg))) 1 x0 4 (if ((sF M 4 x0 (M.1 1 x0 3).toNatClampNeg (a1 - (M.1 3 x0 ((M.1 1 x0 3) - (M.1 1 x0 3) / 9 * 9).toNatClampNeg))).1 1 x0 4) < (a1 - (M.1 3 x0 ((M.1 1 x0 3) - (M.1 1 x0 3) / 9 * 9).toNatClampNeg)) then (a1 - (M.1 3 x0 ((M.1 1 x0 3) - (M.1 1 x0 3) / 9 * 9).toNatClampNeg)) else ((sF M 4 x0 (M.1 1 x0 3).toNatClampNeg (a1 - (M.1 3 x0 ((M.1 1 x0 3) - (M.1 1 x0 3) / 9 * 9).toNatClampNeg))).1 1 x0 4))).1 1 x0 3) + 1)) (ty := .int) S hw (xa_J x0) rfl (by decide) n_T_J f_22 tk_J nm_J rfl (by decide +kernel) rfl rfl (Nat.le_of_ble_eq_true rfl) (xs_J x0 3 (((sF (sF M 4 x0 (M.1 1 x0 3).toNatClampNeg (a1 - (M.1 3 x0 ((M.1 1 x0 3) - (M.1 1 x0 3) / 9 * 9).toNatClampNeg))) 1 x0 4 (if ((sF M 4 x0 (M.1 1 x0 3).toNatClampNeg (a1 - (M.1 3 x0 ((M.1 1 x0 3) - (M.1 1 x0 3) / 9 * 9).toNatClampNeg))).1 1 x0 4) < (a1 - (M.1 3 x0 ((M.1 1 x0 3) - (M.1 1 x0 3) / 9 * 9).toNatClampNeg)) then (a1 - (M.1 3 x0 ((M.1 1 x0 3) - (M.1 1 x0 3) / 9 * 9).toNatClampNeg)) else ((sF M 4 x0 (M.1 1 x0 3).toNatClampNeg (a1 - (M.1 3 x0 ((M.1 1 x0 3) - (M.1 1 x0 3) / 9 * 9).toNatClampNeg))).1 1 x0 4))).1 1 x0 3) + 1) (by decide)) d_J_finishOldest_69 (fun H locs hw => ?_)
      refine lv_aload_n hx hb d_J_finishOldest_72 rfl (lv_at hl 1 rfl) ?_
      refine lv_iconst (v := 0) hx hb d_J_finishOldest_73 (by decide) ?_
      refine gw_put (v := .int 0) (ty := .int) S hw (xa_J x0) rfl (by decide) n_T_J f_34 tk_J nm_J rfl (by decide +kernel) rfl rfl (Nat.le_of_ble_eq_true rfl) (xs_J x0 7 0 (by decide)) d_J_finishOldest_74 (fun H locs hw => ?_)
      exact hend H locs ls 77 _ (congrArg (wX cI cT ad) (Option.some.inj hj)) hw d_J_finishOldest_77
    · rw [if_neg c_5] at hj
      refine lv_aload_n hx hb d_J_finishOldest_52 rfl (lv_at hl 1 rfl) ?_
      refine lv_dup hx hb d_J_finishOldest_53 rfl ?_
      refine gw_get (v := .int ((sF (sF M 4 x0 (M.1 1 x0 3).toNatClampNeg (a1 - (M.1 3 x0 ((M.1 1 x0 3) - (M.1 1 x0 3) / 9 * 9).toNatClampNeg))) 1 x0 4 (if ((sF M 4 x0 (M.1 1 x0 3).toNatClampNeg (a1 - (M.1 3 x0 ((M.1 1 x0 3) - (M.1 1 x0 3) / 9 * 9).toNatClampNeg))).1 1 x0 4) < (a1 - (M.1 3 x0 ((M.1 1 x0 3) - (M.1 1 x0 3) / 9 * 9).toNatClampNeg)) then (a1 - (M.1 3 x0 ((M.1 1 x0 3) - (M.1 1 x0 3) / 9 * 9).toNatClampNeg)) else ((sF M 4 x0 (M.1 1 x0 3).toNatClampNeg (a1 - (M.1 3 x0 ((M.1 1 x0 3) - (M.1 1 x0 3) / 9 * 9).toNatClampNeg))).1 1 x0 4))).1 1 x0 6)) S hw (xa_J x0) rfl (by decide) n_T_J f_31 rfl d_J_finishOldest_54 ?_
      refine lv_iconst (v := 1) hx hb d_J_finishOldest_57 (by decide) ?_
      refine lv_iadd hx hb d_J_finishOldest_58 ?_
      refine gw_put (v := .int (((sF (sF M 4 x0 (M.1 1 x0 3).toNatClampNeg (a1 - (M.1 3 x0 ((M.1 1 x0 3) - (M.1 1 x0 3) / 9 * 9).toNatClampNeg))) 1 x0 4 (if ((sF M 4 x0 (M.1 1 x0 3).toNatClampNeg (a1 - (M.1 3 x0 ((M.1 1 x0 3) - (M.1 1 x0 3) / 9 * 9).toNatClampNeg))).1 1 x0 4) < (a1 - (M.1 3 x0 ((M.1 1 x0 3) - (M.1 1 x0 3) / 9 * 9).toNatClampNeg)) then (a1 - (M.1 3 x0 ((M.1 1 x0 3) - (M.1 1 x0 3) / 9 * 9).toNatClampNeg)) else ((sF M 4 x0 (M.1 1 x0 3).toNatClampNeg (a1 - (M.1 3 x0 ((M.1 1 x0 3) - (M.1 1 x0 3) / 9 * 9).toNatClampNeg))).1 1 x0 4))).1 1 x0 6) + 1)) (ty := .int) S hw (xa_J x0) rfl (by decide) n_T_J f_31 tk_J nm_J rfl (by decide +kernel) rfl rfl (Nat.le_of_ble_eq_true rfl) (xs_J x0 6 (((sF (sF M 4 x0 (M.1 1 x0 3).toNatClampNeg (a1 - (M.1 3 x0 ((M.1 1 x0 3) - (M.1 1 x0 3) / 9 * 9).toNatClampNeg))) 1 x0 4 (if ((sF M 4 x0 (M.1 1 x0 3).toNatClampNeg (a1 - (M.1 3 x0 ((M.1 1 x0 3) - (M.1 1 x0 3) / 9 * 9).toNatClampNeg))).1 1 x0 4) < (a1 - (M.1 3 x0 ((M.1 1 x0 3) - (M.1 1 x0 3) / 9 * 9).toNatClampNeg)) then (a1 - (M.1 3 x0 ((M.1 1 x0 3) - (M.1 1 x0 3) / 9 * 9).toNatClampNeg)) else ((sF M 4 x0 (M.1 1 x0 3).toNatClampNeg (a1 - (M.1 3 x0 ((M.1 1 x0 3) - (M.1 1 x0 3) / 9 * 9).toNatClampNeg))).1 1 x0 4))).1 1 x0 6) + 1) (by decide)) d_J_finishOldest_59 (fun H locs hw => ?_)
      refine lv_aload_n hx hb d_J_finishOldest_62 rfl (lv_at hl 1 rfl) ?_
      refine lv_dup hx hb d_J_finishOldest_63 rfl ?_
      refine gw_get (v := .int ((sF (sF (sF M 4 x0 (M.1 1 x0 3).toNatClampNeg (a1 - (M.1 3 x0 ((M.1 1 x0 3) - (M.1 1 x0 3) / 9 * 9).toNatClampNeg))) 1 x0 4 (if ((sF M 4 x0 (M.1 1 x0 3).toNatClampNeg (a1 - (M.1 3 x0 ((M.1 1 x0 3) - (M.1 1 x0 3) / 9 * 9).toNatClampNeg))).1 1 x0 4) < (a1 - (M.1 3 x0 ((M.1 1 x0 3) - (M.1 1 x0 3) / 9 * 9).toNatClampNeg)) then (a1 - (M.1 3 x0 ((M.1 1 x0 3) - (M.1 1 x0 3) / 9 * 9).toNatClampNeg)) else ((sF M 4 x0 (M.1 1 x0 3).toNatClampNeg (a1 - (M.1 3 x0 ((M.1 1 x0 3) - (M.1 1 x0 3) / 9 * 9).toNatClampNeg))).1 1 x0 4))) 1 x0 6 (((sF (sF M 4 x0 (M.1 1 x0 3).toNatClampNeg (a1 - (M.1 3 x0 ((M.1 1 x0 3) - (M.1 1 x0 3) / 9 * 9).toNatClampNeg))) 1 x0 4 (if ((sF M 4 x0 (M.1 1 x0 3).toNatClampNeg (a1 - (M.1 3 x0 ((M.1 1 x0 3) - (M.1 1 x0 3) / 9 * 9).toNatClampNeg))).1 1 x0 4) < (a1 - (M.1 3 x0 ((M.1 1 x0 3) - (M.1 1 x0 3) / 9 * 9).toNatClampNeg)) then (a1 - (M.1 3 x0 ((M.1 1 x0 3) - (M.1 1 x0 3) / 9 * 9).toNatClampNeg)) else ((sF M 4 x0 (M.1 1 x0 3).toNatClampNeg (a1 - (M.1 3 x0 ((M.1 1 x0 3) - (M.1 1 x0 3) / 9 * 9).toNatClampNeg))).1 1 x0 4))).1 1 x0 6) + 1)).1 1 x0 3)) S hw (xa_J x0) rfl (by decide) n_T_J f_22 rfl d_J_finishOldest_64 ?_
      refine lv_iconst (v := 1) hx hb d_J_finishOldest_67 (by decide) ?_
      refine lv_iadd hx hb d_J_finishOldest_68 ?_
      refine gw_put (v := .int (((sF (sF (sF M 4 x0 (M.1 1 x0 3).toNatClampNeg (a1 - (M.1 3 x0 ((M.1 1 x0 3) - (M.1 1 x0 3) / 9 * 9).toNatClampNeg))) 1 x0 4 (if ((sF M 4 x0 (M.1 1 x0 3).toNatClampNeg (a1 - (M.1 3 x0 ((M.1 1 x0 3) - (M.1 1 x0 3) / 9 * 9).toNatClampNeg))).1 1 x0 4) < (a1 - (M.1 3 x0 ((M.1 1 x0 3) - (M.1 1 x0 3) / 9 * 9).toNatClampNeg)) then (a1 - (M.1 3 x0 ((M.1 1 x0 3) - (M.1 1 x0 3) / 9 * 9).toNatClampNeg)) else ((sF M 4 x0 (M.1 1 x0 3).toNatClampNeg (a1 - (M.1 3 x0 ((M.1 1 x0 3) - (M.1 1 x0 3) / 9 * 9).toNatClampNeg))).1 1 x0 4))) 1 x0 6 (((sF (sF M 4 x0 (M.1 1 x0 3).toNatClampNeg (a1 - (M.1 3 x0 ((M.1 1 x0 3) - (M.1 1 x0 3) / 9 * 9).toNatClampNeg))) 1 x0 4 (if ((sF M 4 x0 (M.1 1 x0 3).toNatClampNeg (a1 - (M.1 3 x0 ((M.1 1 x0 3) - (M.1 1 x0 3) / 9 * 9).toNatClampNeg))).1 1 x0 4) < (a1 - (M.1 3 x0 ((M.1 1 x0 3) - (M.1 1 x0 3) / 9 * 9).toNatClampNeg)) then (a1 - (M.1 3 x0 ((M.1 1 x0 3) - (M.1 1 x0 3) / 9 * 9).toNatClampNeg)) else ((sF M 4 x0 (M.1 1 x0 3).toNatClampNeg (a1 - (M.1 3 x0 ((M.1 1 x0 3) - (M.1 1 x0 3) / 9 * 9).toNatClampNeg))).1 1 x0 4))).1 1 x0 6) + 1)).1 1 x0 3) + 1)) (ty := .int) S hw (xa_J x0) rfl (by decide) n_T_J f_22 tk_J nm_J rfl (by decide +kernel) rfl rfl (Nat.le_of_ble_eq_true rfl) (xs_J x0 3 (((sF (sF (sF M 4 x0 (M.1 1 x0 3).toNatClampNeg (a1 - (M.1 3 x0 ((M.1 1 x0 3) - (M.1 1 x0 3) / 9 * 9).toNatClampNeg))) 1 x0 4 (if ((sF M 4 x0 (M.1 1 x0 3).toNatClampNeg (a1 - (M.1 3 x0 ((M.1 1 x0 3) - (M.1 1 x0 3) / 9 * 9).toNatClampNeg))).1 1 x0 4) < (a1 - (M.1 3 x0 ((M.1 1 x0 3) - (M.1 1 x0 3) / 9 * 9).toNatClampNeg)) then (a1 - (M.1 3 x0 ((M.1 1 x0 3) - (M.1 1 x0 3) / 9 * 9).toNatClampNeg)) else ((sF M 4 x0 (M.1 1 x0 3).toNatClampNeg (a1 - (M.1 3 x0 ((M.1 1 x0 3) - (M.1 1 x0 3) / 9 * 9).toNatClampNeg))).1 1 x0 4))) 1 x0 6 (((sF (sF M 4 x0 (M.1 1 x0 3).toNatClampNeg (a1 - (M.1 3 x0 ((M.1 1 x0 3) - (M.1 1 x0 3) / 9 * 9).toNatClampNeg))) 1 x0 4 (if ((sF M 4 x0 (M.1 1 x0 3).toNatClampNeg (a1 - (M.1 3 x0 ((M.1 1 x0 3) - (M.1 1 x0 3) / 9 * 9).toNatClampNeg))).1 1 x0 4) < (a1 - (M.1 3 x0 ((M.1 1 x0 3) - (M.1 1 x0 3) / 9 * 9).toNatClampNeg)) then (a1 - (M.1 3 x0 ((M.1 1 x0 3) - (M.1 1 x0 3) / 9 * 9).toNatClampNeg)) else ((sF M 4 x0 (M.1 1 x0 3).toNatClampNeg (a1 - (M.1 3 x0 ((M.1 1 x0 3) - (M.1 1 x0 3) / 9 * 9).toNatClampNeg))).1 1 x0 4))).1 1 x0 6) + 1)).1 1 x0 3) + 1) (by decide)) d_J_finishOldest_69 (fun H locs hw => ?_)
      refine lv_aload_n hx hb d_J_finishOldest_72 rfl (lv_at hl 1 rfl) ?_
      refine lv_iconst (v := 0) hx hb d_J_finishOldest_73 (by decide) ?_
      refine gw_put (v := .int 0) (ty := .int) S hw (xa_J x0) rfl (by decide) n_T_J f_34 tk_J nm_J rfl (by decide +kernel) rfl rfl (Nat.le_of_ble_eq_true rfl) (xs_J x0 7 0 (by decide)) d_J_finishOldest_74 (fun H locs hw => ?_)
      exact hend H locs ls 77 _ (congrArg (wX cI cT ad) (Option.some.inj hj)) hw d_J_finishOldest_77
abbrev rm_K_endSegment : Room := { frames := 2, cells := 0, slots := 0, locals := 44 }
def ws_K_endSegment : List Cond := Cond.code y_K_endSegment b_K_endSegment 2 none :: wB
set_option maxHeartbeats 4000000 in
set_option maxRecDepth 100000 in
theorem c_K_endSegment {l : Launch} {D : va_G} {cI cT : ClassId} {ad : Nat → Nat} {n : Nat} {M : MX} {x1 : Fin 8} {M0 : MX} (hj : j_K_endSegment n M x1 = some M0) : gw_Cv l y_K_endSegment ws_K_endSegment rm_K_endSegment D (tyX cI cT) (wX cI cT ad M) [.ref (ad 5), .ref (ad (6 + x1.val))] (wX cI cT ad M0) := by
  intro sz
  refine gw_metv (cc := b_K_endSegment) (maxL := 2) (by decide) rfl (Nat.le_of_ble_eq_true rfl) ?_
  intro p e s m args below meth c A Q S H locs hw hend ls hl
  have S : CallFix p m c b_K_endSegment 2 s args ws_K_endSegment R_K := S
  have hx := S.1
  have hb := S.2.1
  have hts := S.2.2.2.2
  have hl : lv_has ls 2 [(0, .ref (ad 5)), (1, .ref (ad (6 + x1.val)))] := hl
  have n_T_J : ∀ w ∈ u_ws R_J T_J 8, w ∈ ws_K_endSegment := fun w h => List.mem_cons_of_mem _ (uT_J w h)
  have n_T_K : ∀ w ∈ u_ws R_K T_K 6, w ∈ ws_K_endSegment := fun w h => List.mem_cons_of_mem _ (uT_K w h)
  have n_T_T : ∀ w ∈ u_ws R_T T_T 13, w ∈ ws_K_endSegment := fun w h => List.mem_cons_of_mem _ (uT_T w h)
  have f_23 : Cond.fieldLink R_K 23 (T_T 1).1 (T_T 1).2.1 (T_T 1).2.2.1 ∈ ws_K_endSegment := List.mem_cons_of_mem _ xw_67
  have f_38 : Cond.fieldLink R_K 38 (T_K 2).1 (T_K 2).2.1 (T_K 2).2.2.1 ∈ ws_K_endSegment := List.mem_cons_of_mem _ xw_69
  have f_44 : Cond.fieldLink R_K 44 (T_K 4).1 (T_K 4).2.1 (T_K 4).2.2.1 ∈ ws_K_endSegment := List.mem_cons_of_mem _ xw_71
  have f_48 : Cond.fieldLink R_K 48 (T_K 5).1 (T_K 5).2.1 (T_K 5).2.2.1 ∈ ws_K_endSegment := List.mem_cons_of_mem _ xw_72
  have f_85 : Cond.fieldLink R_K 85 (T_J 7).1 (T_J 7).2.1 (T_J 7).2.2.1 ∈ ws_K_endSegment := List.mem_cons_of_mem _ xw_223
  have f_92 : Cond.fieldLink R_K 92 (T_T 6).1 (T_T 6).2.1 (T_T 6).2.2.1 ∈ ws_K_endSegment := List.mem_cons_of_mem _ xw_231
  have f_95 : Cond.fieldLink R_K 95 (T_T 4).1 (T_T 4).2.1 (T_T 4).2.2.1 ∈ ws_K_endSegment := List.mem_cons_of_mem _ xw_232
  have w_98 : CallW rm_K_endSegment s args R_K R_J 98 y_J_finishOldest b_J_finishOldest 4 none ws_J_finishOldest rm_J_finishOldest 0 0 2 := cwV 2 hts (wB_callV (fun w h => List.mem_cons_of_mem _ h) xw_233 xw_234 xw_235 xw_236 xw_77) rfl rfl rfl (by decide +kernel) ⟨Nat.le_of_ble_eq_true rfl, Nat.le_of_ble_eq_true rfl⟩
  unfold j_K_endSegment at hj
  refine lv_aload_n hx hb d_K_endSegment_0 rfl (lv_at hl 0 rfl) ?_
  refine lv_null hx hb d_K_endSegment_1 ?_
  refine gw_put (v := .null) (ty := (.object "SegmentKernel$Task")) S hw xa_K rfl (by decide) n_T_K f_44 tk_K nm_K rfl (by decide +kernel) rfl rfl (Nat.le_of_ble_eq_true rfl) (xs_U none) d_K_endSegment_2 (fun H locs hw => ?_)
  refine lv_aload_n hx hb d_K_endSegment_5 rfl (lv_at hl 1 rfl) ?_
  refine gw_get (v := .ref (ad (14 + x1.val))) S hw (xa_T x1) rfl (by decide) n_T_T f_23 rfl d_K_endSegment_6 ?_
  refine lv_dup hx hb d_K_endSegment_9 rfl ?_
  refine gw_get (v := .int ((sU M none).1 1 x1 7)) S hw (xa_J x1) rfl (by decide) n_T_J f_85 rfl d_K_endSegment_10 ?_
  refine lv_iconst (v := 1) hx hb d_K_endSegment_13 (by decide) ?_
  refine lv_iadd hx hb d_K_endSegment_14 ?_
  refine gw_put (v := .int (((sU M none).1 1 x1 7) + 1)) (ty := .int) S hw (xa_J x1) rfl (by decide) n_T_J f_85 tk_J nm_J rfl (by decide +kernel) rfl rfl (Nat.le_of_ble_eq_true rfl) (xs_J x1 7 (((sU M none).1 1 x1 7) + 1) (by decide)) d_K_endSegment_15 (fun H locs hw => ?_)
  refine lv_aload_n hx hb d_K_endSegment_18 rfl (lv_at hl 1 rfl) ?_
  refine gw_get (v := .ref (ad (14 + x1.val))) S hw (xa_T x1) rfl (by decide) n_T_T f_23 rfl d_K_endSegment_19 ?_
  refine gw_get (v := .int ((sF (sU M none) 1 x1 7 (((sU M none).1 1 x1 7) + 1)).1 1 x1 7)) S hw (xa_J x1) rfl (by decide) n_T_J f_85 rfl d_K_endSegment_22 ?_
  refine lv_aload_n hx hb d_K_endSegment_25 rfl (lv_at hl 1 rfl) ?_
  refine gw_get (v := .int ((sF (sU M none) 1 x1 7 (((sU M none).1 1 x1 7) + 1)).1 0 x1 6)) S hw (xa_T x1) rfl (by decide) n_T_T f_92 rfl d_K_endSegment_26 ?_
  refine lv_icmp_ge (tgt := 40) hx hb d_K_endSegment_29 (by decide) (fun c_1 => ?_) (fun c_1 => ?_)
  · rw [if_pos c_1] at hj
    refine lv_aload_n hx hb d_K_endSegment_40 rfl (lv_at hl 1 rfl) ?_
    refine gw_get (v := .ref (ad (14 + x1.val))) S hw (xa_T x1) rfl (by decide) n_T_T f_23 rfl d_K_endSegment_41 ?_
    refine lv_aload_n hx hb d_K_endSegment_44 rfl (lv_at hl 0 rfl) ?_
    refine gw_get (v := .int ((sF (sU M none) 1 x1 7 (((sU M none).1 1 x1 7) + 1)).2.1 2 2)) S hw xa_K rfl (by decide) n_T_K f_38 rfl d_K_endSegment_45 ?_
    refine lv_aload_n hx hb d_K_endSegment_48 rfl (lv_at hl 1 rfl) ?_
    refine gw_get (v := .int ((sF (sU M none) 1 x1 7 (((sU M none).1 1 x1 7) + 1)).1 0 x1 4)) S hw (xa_T x1) rfl (by decide) n_T_T f_95 rfl d_K_endSegment_49 ?_
    obtain ⟨M_3, e_2, hj⟩ := Option.bind_eq_some_iff.mp hj
    refine gw_callv (As := [.int ((sF (sU M none) 1 x1 7 (((sU M none).1 1 x1 7) + 1)).2.1 2 2), .int ((sF (sU M none) 1 x1 7 (((sU M none).1 1 x1 7) + 1)).1 0 x1 4)]) (rest := []) S hw (c_J_finishOldest e_2) w_98 (xa_J x1) rfl rfl hl.1 rfl (Nat.le_of_ble_eq_true rfl) d_K_endSegment_52 (fun H locs hw => ?_)
    exact hend H locs ls 55 _ (congrArg (wX cI cT ad) (Option.some.inj hj)) hw d_K_endSegment_55
  · rw [if_neg c_1] at hj
    refine lv_aload_n hx hb d_K_endSegment_32 rfl (lv_at hl 0 rfl) ?_
    refine lv_aload_n hx hb d_K_endSegment_33 rfl (lv_at hl 1 rfl) ?_
    refine gw_put (v := .ref (ad (6 + x1.val))) (ty := (.object "SegmentKernel$Task")) S hw xa_K rfl (by decide) n_T_K f_48 tk_K nm_K rfl (by decide +kernel) rfl rfl (Nat.le_of_ble_eq_true rfl) (xs_P (some x1)) d_K_endSegment_34 (fun H locs hw => ?_)
    refine lv_goto (tgt := 55) hx hb d_K_endSegment_37 (by decide) ?_
    exact hend H locs ls 55 _ (congrArg (wX cI cT ad) (Option.some.inj hj)) hw d_K_endSegment_55
abbrev rm_K_run : Room := { frames := 3, cells := 0, slots := 0, locals := 65 }
def ws_K_run : List Cond := Cond.code y_K_run b_K_run 3 none :: wB
set_option maxHeartbeats 4000000 in
set_option maxRecDepth 100000 in
theorem c_K_run {l : Launch} {D : va_G} {cI cT : ClassId} {ad : Nat → Nat} {n : Nat} {M : MX} {x1 : Fin 8} {a2 : Int32} {M0 : MX} (hj : j_K_run n M x1 a2 = some M0) : gw_Cv l y_K_run ws_K_run rm_K_run D (tyX cI cT) (wX cI cT ad M) [.ref (ad 5), .ref (ad (6 + x1.val)), .int a2] (wX cI cT ad M0) := by
  intro sz
  refine gw_metv (cc := b_K_run) (maxL := 3) (by decide) rfl (Nat.le_of_ble_eq_true rfl) ?_
  intro p e s m args below meth c A Q S H locs hw hend ls hl
  have S : CallFix p m c b_K_run 3 s args ws_K_run R_K := S
  have hx := S.1
  have hb := S.2.1
  have hts := S.2.2.2.2
  have hl : lv_has ls 3 [(0, .ref (ad 5)), (1, .ref (ad (6 + x1.val))), (2, .int a2)] := hl
  have n_T_K : ∀ w ∈ u_ws R_K T_K 6, w ∈ ws_K_run := fun w h => List.mem_cons_of_mem _ (uT_K w h)
  have f_38 : Cond.fieldLink R_K 38 (T_K 2).1 (T_K 2).2.1 (T_K 2).2.2.1 ∈ ws_K_run := List.mem_cons_of_mem _ xw_69
  have f_41 : Cond.fieldLink R_K 41 (T_K 3).1 (T_K 3).2.1 (T_K 3).2.2.1 ∈ ws_K_run := List.mem_cons_of_mem _ xw_70
  have w_74 : CallW rm_K_run s args R_K R_K 74 y_K_endSegment b_K_endSegment 2 none ws_K_endSegment rm_K_endSegment 0 0 1 := cwV 1 hts (wB_callV (fun w h => List.mem_cons_of_mem _ h) xw_237 xw_238 xw_239 xw_240 xw_82) rfl rfl rfl (by decide +kernel) ⟨Nat.le_of_ble_eq_true rfl, Nat.le_of_ble_eq_true rfl⟩
  unfold j_K_run at hj
  refine lv_aload_n hx hb d_K_run_0 rfl (lv_at hl 0 rfl) ?_
  refine lv_dup hx hb d_K_run_1 rfl ?_
  refine gw_get (v := .int (M.2.1 2 2)) S hw xa_K rfl (by decide) n_T_K f_38 rfl d_K_run_2 ?_
  refine lv_iload_n hx hb d_K_run_5 rfl (lv_at hl 2 rfl) ?_
  refine lv_iadd hx hb d_K_run_6 ?_
  refine gw_put (v := .int ((M.2.1 2 2) + a2)) (ty := .int) S hw xa_K rfl (by decide) n_T_K f_38 tk_K nm_K rfl (by decide +kernel) rfl rfl (Nat.le_of_ble_eq_true rfl) (xs_K 2 ((M.2.1 2 2) + a2) (by decide)) d_K_run_7 (fun H locs hw => ?_)
  refine lv_aload_n hx hb d_K_run_10 rfl (lv_at hl 0 rfl) ?_
  refine lv_dup hx hb d_K_run_11 rfl ?_
  refine gw_get (v := .int ((sG M 2 2 ((M.2.1 2 2) + a2)).2.1 2 3)) S hw xa_K rfl (by decide) n_T_K f_41 rfl d_K_run_12 ?_
  refine lv_iload_n hx hb d_K_run_15 rfl (lv_at hl 2 rfl) ?_
  refine lv_isub hx hb d_K_run_16 ?_
  refine gw_put (v := .int (((sG M 2 2 ((M.2.1 2 2) + a2)).2.1 2 3) - a2)) (ty := .int) S hw xa_K rfl (by decide) n_T_K f_41 tk_K nm_K rfl (by decide +kernel) rfl rfl (Nat.le_of_ble_eq_true rfl) (xs_K 3 (((sG M 2 2 ((M.2.1 2 2) + a2)).2.1 2 3) - a2) (by decide)) d_K_run_17 (fun H locs hw => ?_)
  refine lv_aload_n hx hb d_K_run_20 rfl (lv_at hl 0 rfl) ?_
  refine gw_get (v := .int ((sG (sG M 2 2 ((M.2.1 2 2) + a2)) 2 3 (((sG M 2 2 ((M.2.1 2 2) + a2)).2.1 2 3) - a2)).2.1 2 3)) S hw xa_K rfl (by decide) n_T_K f_41 rfl d_K_run_21 ?_
  refine lv_if_ne (tgt := 32) hx hb d_K_run_24 (by decide) (fun c_1 => ?_) (fun c_1 => ?_)
  · rw [if_neg c_1] at hj
    exact hend H locs ls 32 _ (congrArg (wX cI cT ad) (Option.some.inj hj)) hw d_K_run_32
  · rw [if_pos c_1] at hj
    refine lv_aload_n hx hb d_K_run_27 rfl (lv_at hl 0 rfl) ?_
    refine lv_aload_n hx hb d_K_run_28 rfl (lv_at hl 1 rfl) ?_
    obtain ⟨M_3, e_2, hj⟩ := Option.bind_eq_some_iff.mp hj
    refine gw_callv (As := [.ref (ad (6 + x1.val))]) (rest := []) S hw (c_K_endSegment e_2) w_74 xa_K rfl rfl hl.1 rfl (Nat.le_of_ble_eq_true rfl) d_K_run_29 (fun H locs hw => ?_)
    exact hend H locs ls 32 _ (congrArg (wX cI cT ad) (Option.some.inj hj)) hw d_K_run_32
abbrev rm_K_advance : Room := { frames := 4, cells := 0, slots := 0, locals := 87 }
def ws_K_advance : List Cond := Cond.code y_K_advance b_K_advance 6 (some .int) :: wB
set_option maxHeartbeats 4000000 in
set_option maxRecDepth 100000 in
theorem c_K_advance {l : Launch} {D : va_G} {cI cT : ClassId} {ad : Nat → Nat} {n : Nat} {M : MX} {a1 : Int32} {r0 : Int32} {M0 : MX} (hj : j_K_advance n M a1 = some (r0, M0)) : gw_Ci l y_K_advance ws_K_advance rm_K_advance D (tyX cI cT) (wX cI cT ad M) [.ref (ad 5), .int a1] r0 (wX cI cT ad M0) := by
  intro sz
  refine gw_meti (cc := b_K_advance) (maxL := 6) (by decide) rfl (Nat.le_of_ble_eq_true rfl) ?_
  intro p e s m args below meth c A Q S H locs hw hend ls hl
  have S : CallFix p m c b_K_advance 6 s args ws_K_advance R_K := S
  have hx := S.1
  have hb := S.2.1
  have hts := S.2.2.2.2
  have hl : lv_has ls 6 [(0, .ref (ad 5)), (1, .int a1)] := hl
  have n_T_K : ∀ w ∈ u_ws R_K T_K 6, w ∈ ws_K_advance := fun w h => List.mem_cons_of_mem _ (uT_K w h)
  have n_T_T : ∀ w ∈ u_ws R_T T_T 13, w ∈ ws_K_advance := fun w h => List.mem_cons_of_mem _ (uT_T w h)
  have f_38 : Cond.fieldLink R_K 38 (T_K 2).1 (T_K 2).2.1 (T_K 2).2.2.1 ∈ ws_K_advance := List.mem_cons_of_mem _ xw_69
  have f_41 : Cond.fieldLink R_K 41 (T_K 3).1 (T_K 3).2.1 (T_K 3).2.2.1 ∈ ws_K_advance := List.mem_cons_of_mem _ xw_70
  have f_44 : Cond.fieldLink R_K 44 (T_K 4).1 (T_K 4).2.1 (T_K 4).2.2.1 ∈ ws_K_advance := List.mem_cons_of_mem _ xw_71
  have f_61 : Cond.fieldLink R_K 61 (T_T 0).1 (T_T 0).2.1 (T_T 0).2.2.1 ∈ ws_K_advance := List.mem_cons_of_mem _ xw_241
  have m_64 := hts _ (List.mem_cons_of_mem _ xw_242)
  have ms_min := hts _ (List.mem_cons_of_mem _ xw_171)
  have mc_min := hts _ (List.mem_cons_of_mem _ xw_172)
  have mi_ := hts _ (List.mem_cons_of_mem _ xw_90)
  have w_58 : CallW rm_K_advance s args R_K R_K 58 y_K_beginSegment b_K_beginSegment 2 none ws_K_beginSegment rm_K_beginSegment 0 0 0 := cwV 0 hts (wB_callV (fun w h => List.mem_cons_of_mem _ h) xw_243 xw_244 xw_245 xw_246 xw_82) rfl rfl rfl (by decide +kernel) ⟨Nat.le_of_ble_eq_true rfl, Nat.le_of_ble_eq_true rfl⟩
  have w_70 : CallW rm_K_advance s args R_K R_K 70 y_K_run b_K_run 3 none ws_K_run rm_K_run 0 0 2 := cwV 2 hts (wB_callV (fun w h => List.mem_cons_of_mem _ h) xw_247 xw_248 xw_249 xw_250 xw_82) rfl rfl rfl (by decide +kernel) ⟨Nat.le_of_ble_eq_true rfl, Nat.le_of_ble_eq_true rfl⟩
  unfold j_K_advance at hj
  refine lv_iconst (v := 0) hx hb d_K_advance_0 (by decide) ?_
  refine lv_istore_n (lv' := [(2, .int 0), (0, .ref (ad 5)), (1, .int a1)]) hx hb d_K_advance_1 rfl hl (by decide) rfl (fun ls hl => ?_)
  refine lv_iload_n hx hb d_K_advance_2 rfl (lv_at hl 2 rfl) ?_
  refine lv_istore_n (lv' := [(3, .int a1), (2, .int 0), (0, .ref (ad 5)), (1, .int a1)]) hx hb d_K_advance_3 rfl hl (by decide) rfl (fun ls hl => ?_)
  refine lv_iconst (v := 0) hx hb d_K_advance_4 (by decide) ?_
  refine lv_istore (lv' := [(4, .int 0), (3, .int a1), (2, .int 0), (0, .ref (ad 5)), (1, .int a1)]) hx hb d_K_advance_5 hl (by decide) rfl (fun ls hl => ?_)
  have L7 : ∀ (f7 : Nat) (v2_7 : Int32) (v3_7 : Int32) (v4_7 : Int32) (M7 : MX), j_K_advance_L7 n a1 f7 v2_7 v3_7 v4_7 M7 = some (r0, M0) → ∀ (H : Heap) (locs : List Loc), gw_W D (tyX cI cT) A (wX cI cT ad M7) s H locs → ∀ ls : Array Slot, lv_has ls 6 [(0, .ref (ad 5)), (1, .int a1), (2, .int v2_7), (3, .int v3_7), (4, .int v4_7)] → W p l e rm_K_advance s m args below meth c H locs 0 0 Q (F0 m 7 ls []) := by
    intro f7
    induction f7 with
    | zero =>
      intro v2_7 v3_7 v4_7 M7 hj
      exact nomatch (show (none : Option (Int32 × MX)) = some (r0, M0) from hj)
    | succ f7 ih7 =>
      intro v2_7 v3_7 v4_7 M7 hj H locs hw ls hl
      rw [j_K_advance_L7] at hj
      refine lv_iload hx hb d_K_advance_7 (lv_at hl 4 rfl) ?_
      refine lv_iload_n hx hb d_K_advance_9 rfl (lv_at hl 1 rfl) ?_
      refine lv_icmp_ge (tgt := 86) hx hb d_K_advance_10 (by decide) (fun c_23 => ?_) (fun c_23 => ?_)
      · rw [if_pos c_23] at hj
        refine lv_iload_n hx hb d_K_advance_86 rfl (lv_at hl 2 rfl) ?_
        exact hend H locs ls 87 _ _ (Prod.mk.inj (Option.some.inj hj)).1 (congrArg (wX cI cT ad) (Prod.mk.inj (Option.some.inj hj)).2) hw d_K_advance_87
      · rw [if_neg c_23] at hj
        refine lv_iload_n hx hb d_K_advance_13 rfl (lv_at hl 3 rfl) ?_
        refine lv_if_le (tgt := 86) hx hb d_K_advance_14 (by decide) (fun c_24 => ?_) (fun c_24 => ?_)
        · rw [if_pos c_24] at hj
          refine lv_iload_n hx hb d_K_advance_86 rfl (lv_at hl 2 rfl) ?_
          exact hend H locs ls 87 _ _ (Prod.mk.inj (Option.some.inj hj)).1 (congrArg (wX cI cT ad) (Prod.mk.inj (Option.some.inj hj)).2) hw d_K_advance_87
        · rw [if_neg c_24] at hj
          refine lv_aload_n hx hb d_K_advance_17 rfl (lv_at hl 0 rfl) ?_
          refine gw_get (v := va_rf (gw_oa ad M7.2.2.2.1)) S hw xa_K rfl (by decide) n_T_K f_44 rfl d_K_advance_18 ?_
          rcases o_44 : M7.2.2.2.1 with _ | y_25
          · rw [gw_oc_none o_44] at hj
            refine lv_ifnonnullN hx hb d_K_advance_21 ?_
            refine lv_aload_n hx hb d_K_advance_24 rfl (lv_at hl 0 rfl) ?_
            obtain ⟨M_27, e_26, hj⟩ := Option.bind_eq_some_iff.mp hj
            refine gw_callv (As := []) (rest := []) S hw (c_K_beginSegment e_26) w_58 xa_K rfl rfl hl.1 rfl (Nat.le_of_ble_eq_true rfl) d_K_advance_25 (fun H locs hw => ?_)
            refine lv_aload_n hx hb d_K_advance_28 rfl (lv_at hl 0 rfl) ?_
            refine gw_get (v := va_rf (gw_oa ad M_27.2.2.2.1)) S hw xa_K rfl (by decide) n_T_K f_44 rfl d_K_advance_29 ?_
            rcases o_35 : M_27.2.2.2.1 with _ | y_28
            · rw [gw_oc_none o_35] at hj
              refine lv_ifnonnullN hx hb d_K_advance_32 ?_
              refine lv_aload_n hx hb d_K_advance_35 rfl (lv_at hl 0 rfl) ?_
              refine lv_dup hx hb d_K_advance_36 rfl ?_
              refine gw_get (v := .int (M_27.2.1 2 2)) S hw xa_K rfl (by decide) n_T_K f_38 rfl d_K_advance_37 ?_
              refine lv_iload_n hx hb d_K_advance_40 rfl (lv_at hl 3 rfl) ?_
              refine lv_iadd hx hb d_K_advance_41 ?_
              refine gw_put (v := .int ((M_27.2.1 2 2) + v3_7)) (ty := .int) S hw xa_K rfl (by decide) n_T_K f_38 tk_K nm_K rfl (by decide +kernel) rfl rfl (Nat.le_of_ble_eq_true rfl) (xs_K 2 ((M_27.2.1 2 2) + v3_7) (by decide)) d_K_advance_42 (fun H locs hw => ?_)
              refine lv_iconst (v := 0) hx hb d_K_advance_45 (by decide) ?_
              exact hend H locs ls 46 _ _ (Prod.mk.inj (Option.some.inj hj)).1 (congrArg (wX cI cT ad) (Prod.mk.inj (Option.some.inj hj)).2) hw d_K_advance_46
            · rw [gw_oc_some o_35] at hj
              refine lv_ifnonnull (tgt := 47) hx hb d_K_advance_32 (by decide) ?_
              refine lv_aload_n hx hb d_K_advance_47 rfl (lv_at hl 0 rfl) ?_
              refine gw_get (v := va_rf (gw_oa ad M_27.2.2.2.1)) S hw xa_K rfl (by decide) n_T_K f_44 rfl d_K_advance_48 ?_
              obtain ⟨y_29, e_30, hj⟩ := Option.bind_eq_some_iff.mp hj
              rw [e_30]
              show W p l _ _ s m args below meth c H locs 0 0 Q (F0 m 51 ls [.ref (ad (6 + y_29.val))])
              refine gw_get (v := .int (M_27.1 0 y_29 0)) S hw (xa_T y_29) rfl (by decide) n_T_T f_61 rfl d_K_advance_51 ?_
              refine lv_istore_n (lv' := [(2, .int (M_27.1 0 y_29 0)), (0, .ref (ad 5)), (1, .int a1), (3, .int v3_7), (4, .int v4_7)]) hx hb d_K_advance_54 rfl hl (by decide) rfl (fun ls hl => ?_)
              refine lv_aload_n hx hb d_K_advance_55 rfl (lv_at hl 1 rfl) ?_
              refine gw_get (v := .int (M_27.2.1 2 3)) S hw xa_K rfl (by decide) n_T_K f_41 rfl d_K_advance_56 ?_
              refine lv_iload_n hx hb d_K_advance_59 rfl (lv_at hl 3 rfl) ?_
              refine va_mmin hx hb (S.2.2.1.trans hl.1.symm) S.2.2.2.1 m_64 ms_min mi_ mc_min (by decide) (Nat.le_of_ble_eq_true rfl) (Nat.zero_le _) (Nat.zero_le _) d_K_advance_60 ?_
              refine lv_istore (lv' := [(5, .int (if v3_7 < (M_27.2.1 2 3) then v3_7 else (M_27.2.1 2 3))), (2, .int (M_27.1 0 y_29 0)), (0, .ref (ad 5)), (1, .int a1), (3, .int v3_7), (4, .int v4_7)]) hx hb d_K_advance_63 hl (by decide) rfl (fun ls hl => ?_)
              refine lv_iload_n hx hb d_K_advance_65 rfl (lv_at hl 4 rfl) ?_
              refine lv_iload hx hb d_K_advance_66 (lv_at hl 0 rfl) ?_
              refine lv_isub hx hb d_K_advance_68 ?_
              refine lv_istore_n (lv' := [(3, .int (v3_7 - (if v3_7 < (M_27.2.1 2 3) then v3_7 else (M_27.2.1 2 3)))), (5, .int (if v3_7 < (M_27.2.1 2 3) then v3_7 else (M_27.2.1 2 3))), (2, .int (M_27.1 0 y_29 0)), (0, .ref (ad 5)), (1, .int a1), (4, .int v4_7)]) hx hb d_K_advance_69 rfl hl (by decide) rfl (fun ls hl => ?_)
              refine lv_aload_n hx hb d_K_advance_70 rfl (lv_at hl 3 rfl) ?_
              refine lv_aload_n hx hb d_K_advance_71 rfl (lv_at hl 3 rfl) ?_
              refine gw_get (v := va_rf (gw_oa ad M_27.2.2.2.1)) S hw xa_K rfl (by decide) n_T_K f_44 rfl d_K_advance_72 ?_
              refine lv_iload hx hb d_K_advance_75 (lv_at hl 1 rfl) ?_
              obtain ⟨y_31, e_32, hj⟩ := Option.bind_eq_some_iff.mp hj
              rw [e_32]
              show W p l _ _ s m args below meth c H locs 0 0 Q (F0 m 77 ls [.int (if v3_7 < (M_27.2.1 2 3) then v3_7 else (M_27.2.1 2 3)), .ref (ad (6 + y_31.val)), .ref (ad 5)])
              obtain ⟨M_34, e_33, hj⟩ := Option.bind_eq_some_iff.mp hj
              refine gw_callv (As := [.ref (ad (6 + y_31.val)), .int (if v3_7 < (M_27.2.1 2 3) then v3_7 else (M_27.2.1 2 3))]) (rest := []) S hw (c_K_run e_33) w_70 xa_K rfl rfl hl.1 rfl (Nat.le_of_ble_eq_true rfl) d_K_advance_77 (fun H locs hw => ?_)
              refine lv_iinc (v := (v4_7 + 1)) (lv' := [(4, .int (v4_7 + 1)), (3, .int (v3_7 - (if v3_7 < (M_27.2.1 2 3) then v3_7 else (M_27.2.1 2 3)))), (5, .int (if v3_7 < (M_27.2.1 2 3) then v3_7 else (M_27.2.1 2 3))), (2, .int (M_27.1 0 y_29 0)), (0, .ref (ad 5)), (1, .int a1)]) hx hb d_K_advance_80 hl (k := 5) rfl rfl (by decide) rfl (fun ls hl => ?_)
              refine lv_goto (tgt := 7) hx hb d_K_advance_83 (by decide) ?_
              exact ih7 (M_27.1 0 y_29 0) (v3_7 - (if v3_7 < (M_27.2.1 2 3) then v3_7 else (M_27.2.1 2 3))) (v4_7 + 1) M_34 hj H locs hw ls (lv_sub hl [4, 5, 3, 1, 0] rfl)
          · rw [gw_oc_some o_44] at hj
            refine lv_ifnonnull (tgt := 28) hx hb d_K_advance_21 (by decide) ?_
            refine lv_aload_n hx hb d_K_advance_28 rfl (lv_at hl 0 rfl) ?_
            refine gw_get (v := va_rf (gw_oa ad M7.2.2.2.1)) S hw xa_K rfl (by decide) n_T_K f_44 rfl d_K_advance_29 ?_
            rcases o_43 : M7.2.2.2.1 with _ | y_36
            · rw [gw_oc_none o_43] at hj
              refine lv_ifnonnullN hx hb d_K_advance_32 ?_
              refine lv_aload_n hx hb d_K_advance_35 rfl (lv_at hl 0 rfl) ?_
              refine lv_dup hx hb d_K_advance_36 rfl ?_
              refine gw_get (v := .int (M7.2.1 2 2)) S hw xa_K rfl (by decide) n_T_K f_38 rfl d_K_advance_37 ?_
              refine lv_iload_n hx hb d_K_advance_40 rfl (lv_at hl 3 rfl) ?_
              refine lv_iadd hx hb d_K_advance_41 ?_
              refine gw_put (v := .int ((M7.2.1 2 2) + v3_7)) (ty := .int) S hw xa_K rfl (by decide) n_T_K f_38 tk_K nm_K rfl (by decide +kernel) rfl rfl (Nat.le_of_ble_eq_true rfl) (xs_K 2 ((M7.2.1 2 2) + v3_7) (by decide)) d_K_advance_42 (fun H locs hw => ?_)
              refine lv_iconst (v := 0) hx hb d_K_advance_45 (by decide) ?_
              exact hend H locs ls 46 _ _ (Prod.mk.inj (Option.some.inj hj)).1 (congrArg (wX cI cT ad) (Prod.mk.inj (Option.some.inj hj)).2) hw d_K_advance_46
            · rw [gw_oc_some o_43] at hj
              refine lv_ifnonnull (tgt := 47) hx hb d_K_advance_32 (by decide) ?_
              refine lv_aload_n hx hb d_K_advance_47 rfl (lv_at hl 0 rfl) ?_
              refine gw_get (v := va_rf (gw_oa ad M7.2.2.2.1)) S hw xa_K rfl (by decide) n_T_K f_44 rfl d_K_advance_48 ?_
              obtain ⟨y_37, e_38, hj⟩ := Option.bind_eq_some_iff.mp hj
              rw [e_38]
              show W p l _ _ s m args below meth c H locs 0 0 Q (F0 m 51 ls [.ref (ad (6 + y_37.val))])
              refine gw_get (v := .int (M7.1 0 y_37 0)) S hw (xa_T y_37) rfl (by decide) n_T_T f_61 rfl d_K_advance_51 ?_
              refine lv_istore_n (lv' := [(2, .int (M7.1 0 y_37 0)), (0, .ref (ad 5)), (1, .int a1), (3, .int v3_7), (4, .int v4_7)]) hx hb d_K_advance_54 rfl hl (by decide) rfl (fun ls hl => ?_)
              refine lv_aload_n hx hb d_K_advance_55 rfl (lv_at hl 1 rfl) ?_
              refine gw_get (v := .int (M7.2.1 2 3)) S hw xa_K rfl (by decide) n_T_K f_41 rfl d_K_advance_56 ?_
              refine lv_iload_n hx hb d_K_advance_59 rfl (lv_at hl 3 rfl) ?_
              refine va_mmin hx hb (S.2.2.1.trans hl.1.symm) S.2.2.2.1 m_64 ms_min mi_ mc_min (by decide) (Nat.le_of_ble_eq_true rfl) (Nat.zero_le _) (Nat.zero_le _) d_K_advance_60 ?_
              refine lv_istore (lv' := [(5, .int (if v3_7 < (M7.2.1 2 3) then v3_7 else (M7.2.1 2 3))), (2, .int (M7.1 0 y_37 0)), (0, .ref (ad 5)), (1, .int a1), (3, .int v3_7), (4, .int v4_7)]) hx hb d_K_advance_63 hl (by decide) rfl (fun ls hl => ?_)
              refine lv_iload_n hx hb d_K_advance_65 rfl (lv_at hl 4 rfl) ?_
              refine lv_iload hx hb d_K_advance_66 (lv_at hl 0 rfl) ?_
              refine lv_isub hx hb d_K_advance_68 ?_
              refine lv_istore_n (lv' := [(3, .int (v3_7 - (if v3_7 < (M7.2.1 2 3) then v3_7 else (M7.2.1 2 3)))), (5, .int (if v3_7 < (M7.2.1 2 3) then v3_7 else (M7.2.1 2 3))), (2, .int (M7.1 0 y_37 0)), (0, .ref (ad 5)), (1, .int a1), (4, .int v4_7)]) hx hb d_K_advance_69 rfl hl (by decide) rfl (fun ls hl => ?_)
              refine lv_aload_n hx hb d_K_advance_70 rfl (lv_at hl 3 rfl) ?_
              refine lv_aload_n hx hb d_K_advance_71 rfl (lv_at hl 3 rfl) ?_
              refine gw_get (v := va_rf (gw_oa ad M7.2.2.2.1)) S hw xa_K rfl (by decide) n_T_K f_44 rfl d_K_advance_72 ?_
              refine lv_iload hx hb d_K_advance_75 (lv_at hl 1 rfl) ?_
              obtain ⟨y_39, e_40, hj⟩ := Option.bind_eq_some_iff.mp hj
              rw [e_40]
              show W p l _ _ s m args below meth c H locs 0 0 Q (F0 m 77 ls [.int (if v3_7 < (M7.2.1 2 3) then v3_7 else (M7.2.1 2 3)), .ref (ad (6 + y_39.val)), .ref (ad 5)])
              obtain ⟨M_42, e_41, hj⟩ := Option.bind_eq_some_iff.mp hj
              refine gw_callv (As := [.ref (ad (6 + y_39.val)), .int (if v3_7 < (M7.2.1 2 3) then v3_7 else (M7.2.1 2 3))]) (rest := []) S hw (c_K_run e_41) w_70 xa_K rfl rfl hl.1 rfl (Nat.le_of_ble_eq_true rfl) d_K_advance_77 (fun H locs hw => ?_)
              refine lv_iinc (v := (v4_7 + 1)) (lv' := [(4, .int (v4_7 + 1)), (3, .int (v3_7 - (if v3_7 < (M7.2.1 2 3) then v3_7 else (M7.2.1 2 3)))), (5, .int (if v3_7 < (M7.2.1 2 3) then v3_7 else (M7.2.1 2 3))), (2, .int (M7.1 0 y_37 0)), (0, .ref (ad 5)), (1, .int a1)]) hx hb d_K_advance_80 hl (k := 5) rfl rfl (by decide) rfl (fun ls hl => ?_)
              refine lv_goto (tgt := 7) hx hb d_K_advance_83 (by decide) ?_
              exact ih7 (M7.1 0 y_37 0) (v3_7 - (if v3_7 < (M7.2.1 2 3) then v3_7 else (M7.2.1 2 3))) (v4_7 + 1) M_42 hj H locs hw ls (lv_sub hl [4, 5, 3, 1, 0] rfl)
  exact L7 n 0 a1 0 M hj H locs hw ls (lv_sub hl [3, 4, 2, 1, 0] rfl)
abbrev rm_O_now : Room := { frames := 0, cells := 0, slots := 0, locals := 0 }
def ws_O_now : List Cond := Cond.code y_O_now b_O_now 1 (some .int) :: wB
set_option maxHeartbeats 4000000 in
set_option maxRecDepth 100000 in
theorem c_O_now {l : Launch} {D : va_G} {cI cT : ClassId} {ad : Nat → Nat} {n : Nat} {M : MX} {r0 : Int32} (hj : j_O_now n M = some r0) : gw_Ci l y_O_now ws_O_now rm_O_now D (tyX cI cT) (wX cI cT ad M) [.ref (ad 0)] r0 (wX cI cT ad M) := by
  intro sz
  refine gw_meti (cc := b_O_now) (maxL := 1) (by decide) rfl (Nat.le_of_ble_eq_true rfl) ?_
  intro p e s m args below meth c A Q S H locs hw hend ls hl
  have S : CallFix p m c b_O_now 1 s args ws_O_now R_O := S
  have hx := S.1
  have hb := S.2.1
  have hts := S.2.2.2.2
  have hl : lv_has ls 1 [(0, .ref (ad 0))] := hl
  have n_T_K : ∀ w ∈ u_ws R_K T_K 6, w ∈ ws_O_now := fun w h => List.mem_cons_of_mem _ (uT_K w h)
  have n_T_O : ∀ w ∈ u_ws R_O T_O 3, w ∈ ws_O_now := fun w h => List.mem_cons_of_mem _ (uT_O w h)
  have f_28 : Cond.fieldLink R_O 28 (T_O 2).1 (T_O 2).2.1 (T_O 2).2.2.1 ∈ ws_O_now := List.mem_cons_of_mem _ xw_43
  have f_124 : Cond.fieldLink R_O 124 (T_K 2).1 (T_K 2).2.1 (T_K 2).2.2.1 ∈ ws_O_now := List.mem_cons_of_mem _ xw_251
  unfold j_O_now at hj
  refine lv_aload_n hx hb d_O_now_0 rfl (lv_at hl 0 rfl) ?_
  refine gw_get (v := .ref (ad 5)) S hw xa_O rfl (by decide) n_T_O f_28 rfl d_O_now_1 ?_
  refine gw_get (v := .int (M.2.1 2 2)) S hw xa_K rfl (by decide) n_T_K f_124 rfl d_O_now_4 ?_
  exact hend H locs ls 7 _ _ (Option.some.inj hj) rfl hw d_O_now_7
abbrev rm_J_notedResponse : Room := { frames := 0, cells := 0, slots := 0, locals := 0 }
def ws_J_notedResponse : List Cond := Cond.code y_J_notedResponse b_J_notedResponse 2 (some .int) :: wB
set_option maxHeartbeats 4000000 in
set_option maxRecDepth 100000 in
theorem c_J_notedResponse {l : Launch} {D : va_G} {cI cT : ClassId} {ad : Nat → Nat} {n : Nat} {M : MX} {x0 : Fin 8} {a1 : Int32} {r0 : Int32} (hj : j_J_notedResponse n M x0 a1 = some r0) : gw_Ci l y_J_notedResponse ws_J_notedResponse rm_J_notedResponse D (tyX cI cT) (wX cI cT ad M) [.ref (ad (14 + x0.val)), .int a1] r0 (wX cI cT ad M) := by
  intro sz
  refine gw_meti (cc := b_J_notedResponse) (maxL := 2) (by decide) rfl (Nat.le_of_ble_eq_true rfl) ?_
  intro p e s m args below meth c A Q S H locs hw hend ls hl
  have S : CallFix p m c b_J_notedResponse 2 s args ws_J_notedResponse R_J := S
  have hx := S.1
  have hb := S.2.1
  have hts := S.2.2.2.2
  have hl : lv_has ls 2 [(0, .ref (ad (14 + x0.val))), (1, .int a1)] := hl
  have n_T_J : ∀ w ∈ u_ws R_J T_J 8, w ∈ ws_J_notedResponse := fun w h => List.mem_cons_of_mem _ (uT_J w h)
  have f_15 : Cond.fieldLink R_J 15 (T_J 1).1 (T_J 1).2.1 (T_J 1).2.2.1 ∈ ws_J_notedResponse := List.mem_cons_of_mem _ xw_229
  have f_22 : Cond.fieldLink R_J 22 (T_J 3).1 (T_J 3).2.1 (T_J 3).2.2.1 ∈ ws_J_notedResponse := List.mem_cons_of_mem _ xw_59
  unfold j_J_notedResponse at hj
  refine lv_iload_n hx hb d_J_notedResponse_0 rfl (lv_at hl 1 rfl) ?_
  refine lv_if_lt (tgt := 19) hx hb d_J_notedResponse_1 (by decide) (fun c_1 => ?_) (fun c_1 => ?_)
  · rw [if_pos c_1] at hj
    refine lv_iconst (v := -1) hx hb d_J_notedResponse_19 (by decide) ?_
    refine lv_goto (tgt := 29) hx hb d_J_notedResponse_20 (by decide) ?_
    exact hend H locs ls 29 _ _ (Option.some.inj hj) rfl hw d_J_notedResponse_29
  · rw [if_neg c_1] at hj
    refine lv_iload_n hx hb d_J_notedResponse_4 rfl (lv_at hl 1 rfl) ?_
    refine lv_aload_n hx hb d_J_notedResponse_5 rfl (lv_at hl 0 rfl) ?_
    refine gw_get (v := .int (M.1 1 x0 3)) S hw (xa_J x0) rfl (by decide) n_T_J f_22 rfl d_J_notedResponse_6 ?_
    refine lv_icmp_ge (tgt := 19) hx hb d_J_notedResponse_9 (by decide) (fun c_2 => ?_) (fun c_2 => ?_)
    · rw [if_pos c_2] at hj
      refine lv_iconst (v := -1) hx hb d_J_notedResponse_19 (by decide) ?_
      refine lv_goto (tgt := 29) hx hb d_J_notedResponse_20 (by decide) ?_
      exact hend H locs ls 29 _ _ (Option.some.inj hj) rfl hw d_J_notedResponse_29
    · rw [if_neg c_2] at hj
      refine lv_iload_n hx hb d_J_notedResponse_12 rfl (lv_at hl 1 rfl) ?_
      refine lv_sipush (v := 200) hx hb d_J_notedResponse_13 (by decide) ?_
      refine lv_icmp_lt (tgt := 23) hx hb d_J_notedResponse_16 (by decide) (fun c_3 => ?_) (fun c_3 => ?_)
      · rw [if_pos c_3] at hj
        refine lv_aload_n hx hb d_J_notedResponse_23 rfl (lv_at hl 0 rfl) ?_
        refine gw_get (v := .ref (ad (38 + x0.val))) S hw (xa_J x0) rfl (by decide) n_T_J f_15 rfl d_J_notedResponse_24 ?_
        refine lv_iload_n hx hb d_J_notedResponse_27 rfl (lv_at hl 1 rfl) ?_
        obtain ⟨g_4, hj⟩ := gw_if hj
        refine gw_iald (t0 := 0) S hw ⟨xa_no x0, rfl⟩ g_4 d_J_notedResponse_28 ?_
        exact hend H locs ls 29 _ _ (Option.some.inj hj) rfl hw d_J_notedResponse_29
      · rw [if_neg c_3] at hj
        refine lv_iconst (v := -1) hx hb d_J_notedResponse_19 (by decide) ?_
        refine lv_goto (tgt := 29) hx hb d_J_notedResponse_20 (by decide) ?_
        exact hend H locs ls 29 _ _ (Option.some.inj hj) rfl hw d_J_notedResponse_29
abbrev rm_O_ended : Room := { frames := 1, cells := 0, slots := 0, locals := 22 }
def ws_O_ended : List Cond := Cond.code y_O_ended b_O_ended 4 (some .int) :: wB
set_option maxHeartbeats 4000000 in
set_option maxRecDepth 100000 in
theorem c_O_ended {l : Launch} {D : va_G} {cI cT : ClassId} {ad : Nat → Nat} {n : Nat} {M : MX} {a1 : Int32} {a2 : Int32} {r0 : Int32} (hj : j_O_ended n M a1 a2 = some r0) : gw_Ci l y_O_ended ws_O_ended rm_O_ended D (tyX cI cT) (wX cI cT ad M) [.ref (ad 0), .int a1, .int a2] r0 (wX cI cT ad M) := by
  intro sz
  refine gw_meti (cc := b_O_ended) (maxL := 4) (by decide) rfl (Nat.le_of_ble_eq_true rfl) ?_
  intro p e s m args below meth c A Q S H locs hw hend ls hl
  have S : CallFix p m c b_O_ended 4 s args ws_O_ended R_O := S
  have hx := S.1
  have hb := S.2.1
  have hts := S.2.2.2.2
  have hl : lv_has ls 4 [(0, .ref (ad 0)), (1, .int a1), (2, .int a2)] := hl
  have n_T_O : ∀ w ∈ u_ws R_O T_O 3, w ∈ ws_O_ended := fun w h => List.mem_cons_of_mem _ (uT_O w h)
  have n_T_T : ∀ w ∈ u_ws R_T T_T 13, w ∈ ws_O_ended := fun w h => List.mem_cons_of_mem _ (uT_T w h)
  have f_10 : Cond.fieldLink R_O 10 (T_O 0).1 (T_O 0).2.1 (T_O 0).2.2.1 ∈ ws_O_ended := List.mem_cons_of_mem _ xw_42
  have f_127 : Cond.fieldLink R_O 127 (T_T 1).1 (T_T 1).2.1 (T_T 1).2.2.1 ∈ ws_O_ended := List.mem_cons_of_mem _ xw_252
  have w_50 : CallW rm_O_ended s args R_O R_S 50 y_S_find b_S_find 3 (some (.object "SegmentKernel$Task")) ws_S_find rm_S_find 0 0 1 := cwV 1 hts (wB_callV (fun w h => List.mem_cons_of_mem _ h) xw_26 xw_105 xw_28 xw_29 xw_14) rfl rfl rfl (by decide +kernel) ⟨Nat.le_of_ble_eq_true rfl, Nat.le_of_ble_eq_true rfl⟩
  have w_131 : CallW rm_O_ended s args R_O R_J 131 y_J_notedResponse b_J_notedResponse 2 (some .int) ws_J_notedResponse rm_J_notedResponse 0 0 1 := cwV 1 hts (wB_callV (fun w h => List.mem_cons_of_mem _ h) xw_253 xw_254 xw_255 xw_256 xw_77) rfl rfl rfl (by decide +kernel) ⟨Nat.le_of_ble_eq_true rfl, Nat.le_of_ble_eq_true rfl⟩
  unfold j_O_ended at hj
  refine lv_aload_n hx hb d_O_ended_0 rfl (lv_at hl 0 rfl) ?_
  refine gw_get (v := .ref (ad 1)) S hw xa_O rfl (by decide) n_T_O f_10 rfl d_O_ended_1 ?_
  refine lv_iload_n hx hb d_O_ended_4 rfl (lv_at hl 1 rfl) ?_
  obtain ⟨r_2, e_1, hj⟩ := Option.bind_eq_some_iff.mp hj
  refine gw_callq (As := [.int a1]) (rest := []) S hw (c_S_find e_1) w_50 xa_S rfl rfl hl.1 rfl (Nat.le_of_ble_eq_true rfl) d_O_ended_5 (fun H locs hw => ?_)
  refine gw_astore_n (lv' := [(3, va_rf (gw_oa ad r_2)), (0, .ref (ad 0)), (1, .int a1), (2, .int a2)]) hx hb d_O_ended_8 rfl hl (by decide) rfl (fun ls hl => ?_)
  refine gw_aload_n hx hb d_O_ended_9 rfl (lv_at hl 0 rfl) ?_
  rcases r_2 with _ | y_3
  · rw [gw_oc_none rfl] at hj
    refine lv_ifnonnullN hx hb d_O_ended_10 ?_
    refine lv_iconst (v := -1) hx hb d_O_ended_13 (by decide) ?_
    refine lv_goto (tgt := 25) hx hb d_O_ended_14 (by decide) ?_
    exact hend H locs ls 25 _ _ (Option.some.inj hj) rfl hw d_O_ended_25
  · rw [gw_oc_some rfl] at hj
    refine lv_ifnonnull (tgt := 17) hx hb d_O_ended_10 (by decide) ?_
    refine lv_aload_n hx hb d_O_ended_17 rfl (lv_at hl 0 rfl) ?_
    refine gw_get (v := .ref (ad (14 + y_3.val))) S hw (xa_T y_3) rfl (by decide) n_T_T f_127 rfl d_O_ended_18 ?_
    refine lv_iload_n hx hb d_O_ended_21 rfl (lv_at hl 3 rfl) ?_
    obtain ⟨r_5, e_4, hj⟩ := Option.bind_eq_some_iff.mp hj
    refine gw_calli (As := [.int a2]) (rest := []) S hw (c_J_notedResponse e_4) w_131 (xa_J y_3) rfl rfl hl.1 rfl (Nat.le_of_ble_eq_true rfl) d_O_ended_22 (fun H locs hw => ?_)
    exact hend H locs ls 25 _ _ (Option.some.inj hj) rfl hw d_O_ended_25
abbrev rm_K_leftOf : Room := { frames := 0, cells := 0, slots := 0, locals := 0 }
def ws_K_leftOf : List Cond := Cond.code y_K_leftOf b_K_leftOf 2 (some .int) :: wB
set_option maxHeartbeats 4000000 in
set_option maxRecDepth 100000 in
theorem c_K_leftOf {l : Launch} {D : va_G} {cI cT : ClassId} {ad : Nat → Nat} {n : Nat} {M : MX} {x1 : Fin 8} {r0 : Int32} (hj : j_K_leftOf n M x1 = some r0) : gw_Ci l y_K_leftOf ws_K_leftOf rm_K_leftOf D (tyX cI cT) (wX cI cT ad M) [.ref (ad 5), .ref (ad (6 + x1.val))] r0 (wX cI cT ad M) := by
  intro sz
  refine gw_meti (cc := b_K_leftOf) (maxL := 2) (by decide) rfl (Nat.le_of_ble_eq_true rfl) ?_
  intro p e s m args below meth c A Q S H locs hw hend ls hl
  have S : CallFix p m c b_K_leftOf 2 s args ws_K_leftOf R_K := S
  have hx := S.1
  have hb := S.2.1
  have hts := S.2.2.2.2
  have hl : lv_has ls 2 [(0, .ref (ad 5)), (1, .ref (ad (6 + x1.val)))] := hl
  have hinj := xi_inj hw
  have n_T_K : ∀ w ∈ u_ws R_K T_K 6, w ∈ ws_K_leftOf := fun w h => List.mem_cons_of_mem _ (uT_K w h)
  have f_41 : Cond.fieldLink R_K 41 (T_K 3).1 (T_K 3).2.1 (T_K 3).2.2.1 ∈ ws_K_leftOf := List.mem_cons_of_mem _ xw_70
  have f_44 : Cond.fieldLink R_K 44 (T_K 4).1 (T_K 4).2.1 (T_K 4).2.2.1 ∈ ws_K_leftOf := List.mem_cons_of_mem _ xw_71
  unfold j_K_leftOf at hj
  refine lv_aload_n hx hb d_K_leftOf_0 rfl (lv_at hl 1 rfl) ?_
  refine lv_aload_n hx hb d_K_leftOf_1 rfl (lv_at hl 0 rfl) ?_
  refine gw_get (v := va_rf (gw_oa ad M.2.2.2.1)) S hw xa_K rfl (by decide) n_T_K f_44 rfl d_K_leftOf_2 ?_
  refine gw_acmp_ne (ad := ad) (ox := (some x1)) (oy := M.2.2.2.1) (tgt := 15) hinj hx hb d_K_leftOf_5 (by decide) (fun c_1 => ?_) (fun c_1 => ?_)
  · rw [if_neg c_1] at hj
    refine lv_iconst (v := 0) hx hb d_K_leftOf_15 (by decide) ?_
    exact hend H locs ls 16 _ _ (Option.some.inj hj) rfl hw d_K_leftOf_16
  · rw [if_pos c_1] at hj
    refine lv_aload_n hx hb d_K_leftOf_8 rfl (lv_at hl 0 rfl) ?_
    refine gw_get (v := .int (M.2.1 2 3)) S hw xa_K rfl (by decide) n_T_K f_41 rfl d_K_leftOf_9 ?_
    refine lv_goto (tgt := 16) hx hb d_K_leftOf_12 (by decide) ?_
    exact hend H locs ls 16 _ _ (Option.some.inj hj) rfl hw d_K_leftOf_16
abbrev rm_O_seen : Room := { frames := 1, cells := 0, slots := 0, locals := 22 }
def ws_O_seen : List Cond := Cond.code y_O_seen b_O_seen 4 (some .int) :: wB
set_option maxHeartbeats 4000000 in
set_option maxRecDepth 100000 in
theorem c_O_seen {l : Launch} {D : va_G} {cI cT : ClassId} {ad : Nat → Nat} {n : Nat} {M : MX} {a1 : Int32} {a2 : Int32} {r0 : Int32} (hj : j_O_seen n M a1 a2 = some r0) : gw_Ci l y_O_seen ws_O_seen rm_O_seen D (tyX cI cT) (wX cI cT ad M) [.ref (ad 0), .int a1, .int a2] r0 (wX cI cT ad M) := by
  intro sz
  refine gw_meti (cc := b_O_seen) (maxL := 4) (by decide) rfl (Nat.le_of_ble_eq_true rfl) ?_
  intro p e s m args below meth c A Q S H locs hw hend ls hl
  have S : CallFix p m c b_O_seen 4 s args ws_O_seen R_O := S
  have hx := S.1
  have hb := S.2.1
  have hts := S.2.2.2.2
  have hl : lv_has ls 4 [(0, .ref (ad 0)), (1, .int a1), (2, .int a2)] := hl
  have n_T_J : ∀ w ∈ u_ws R_J T_J 8, w ∈ ws_O_seen := fun w h => List.mem_cons_of_mem _ (uT_J w h)
  have n_T_O : ∀ w ∈ u_ws R_O T_O 3, w ∈ ws_O_seen := fun w h => List.mem_cons_of_mem _ (uT_O w h)
  have n_T_T : ∀ w ∈ u_ws R_T T_T 13, w ∈ ws_O_seen := fun w h => List.mem_cons_of_mem _ (uT_T w h)
  have f_10 : Cond.fieldLink R_O 10 (T_O 0).1 (T_O 0).2.1 (T_O 0).2.2.1 ∈ ws_O_seen := List.mem_cons_of_mem _ xw_42
  have f_28 : Cond.fieldLink R_O 28 (T_O 2).1 (T_O 2).2.1 (T_O 2).2.2.1 ∈ ws_O_seen := List.mem_cons_of_mem _ xw_43
  have f_127 : Cond.fieldLink R_O 127 (T_T 1).1 (T_T 1).2.1 (T_T 1).2.2.1 ∈ ws_O_seen := List.mem_cons_of_mem _ xw_252
  have f_136 : Cond.fieldLink R_O 136 (T_J 2).1 (T_J 2).2.1 (T_J 2).2.2.1 ∈ ws_O_seen := List.mem_cons_of_mem _ xw_257
  have f_139 : Cond.fieldLink R_O 139 (T_J 3).1 (T_J 3).2.1 (T_J 3).2.2.1 ∈ ws_O_seen := List.mem_cons_of_mem _ xw_258
  have f_142 : Cond.fieldLink R_O 142 (T_J 4).1 (T_J 4).2.1 (T_J 4).2.2.1 ∈ ws_O_seen := List.mem_cons_of_mem _ xw_259
  have f_145 : Cond.fieldLink R_O 145 (T_J 5).1 (T_J 5).2.1 (T_J 5).2.2.1 ∈ ws_O_seen := List.mem_cons_of_mem _ xw_260
  have f_148 : Cond.fieldLink R_O 148 (T_J 6).1 (T_J 6).2.1 (T_J 6).2.2.1 ∈ ws_O_seen := List.mem_cons_of_mem _ xw_261
  have w_50 : CallW rm_O_seen s args R_O R_S 50 y_S_find b_S_find 3 (some (.object "SegmentKernel$Task")) ws_S_find rm_S_find 0 0 1 := cwV 1 hts (wB_callV (fun w h => List.mem_cons_of_mem _ h) xw_26 xw_105 xw_28 xw_29 xw_14) rfl rfl rfl (by decide +kernel) ⟨Nat.le_of_ble_eq_true rfl, Nat.le_of_ble_eq_true rfl⟩
  have w_151 : CallW rm_O_seen s args R_O R_K 151 y_K_leftOf b_K_leftOf 2 (some .int) ws_K_leftOf rm_K_leftOf 0 0 1 := cwV 1 hts (wB_callV (fun w h => List.mem_cons_of_mem _ h) xw_262 xw_263 xw_264 xw_265 xw_82) rfl rfl rfl (by decide +kernel) ⟨Nat.le_of_ble_eq_true rfl, Nat.le_of_ble_eq_true rfl⟩
  unfold j_O_seen at hj
  refine lv_aload_n hx hb d_O_seen_0 rfl (lv_at hl 0 rfl) ?_
  refine gw_get (v := .ref (ad 1)) S hw xa_O rfl (by decide) n_T_O f_10 rfl d_O_seen_1 ?_
  refine lv_iload_n hx hb d_O_seen_4 rfl (lv_at hl 1 rfl) ?_
  obtain ⟨r_2, e_1, hj⟩ := Option.bind_eq_some_iff.mp hj
  refine gw_callq (As := [.int a1]) (rest := []) S hw (c_S_find e_1) w_50 xa_S rfl rfl hl.1 rfl (Nat.le_of_ble_eq_true rfl) d_O_seen_5 (fun H locs hw => ?_)
  refine gw_astore_n (lv' := [(3, va_rf (gw_oa ad r_2)), (0, .ref (ad 0)), (1, .int a1), (2, .int a2)]) hx hb d_O_seen_8 rfl hl (by decide) rfl (fun ls hl => ?_)
  refine gw_aload_n hx hb d_O_seen_9 rfl (lv_at hl 0 rfl) ?_
  rcases r_2 with _ | y_3
  · rw [gw_oc_none rfl] at hj
    refine lv_ifnonnullN hx hb d_O_seen_10 ?_
    refine lv_iconst (v := -1) hx hb d_O_seen_13 (by decide) ?_
    exact hend H locs ls 14 _ _ (Option.some.inj hj) rfl hw d_O_seen_14
  · rw [gw_oc_some rfl] at hj
    refine lv_ifnonnull (tgt := 15) hx hb d_O_seen_10 (by decide) ?_
    refine lv_iload_n hx hb d_O_seen_15 rfl (lv_at hl 3 rfl) ?_
    by_cases c_4 : a2 = 0
    · rw [if_pos c_4] at hj
      refine lv_tableIn (tgt := 56) hx hb d_O_seen_16 (by rw [c_4]; decide) (by rw [c_4]; decide) (by rw [c_4]; rfl) (by decide) ?_
      refine lv_aload_n hx hb d_O_seen_56 rfl (lv_at hl 0 rfl) ?_
      refine gw_get (v := .ref (ad (14 + y_3.val))) S hw (xa_T y_3) rfl (by decide) n_T_T f_127 rfl d_O_seen_57 ?_
      refine gw_get (v := .int (M.1 1 y_3 2)) S hw (xa_J y_3) rfl (by decide) n_T_J f_136 rfl d_O_seen_60 ?_
      exact hend H locs ls 63 _ _ (Option.some.inj hj) rfl hw d_O_seen_63
    rw [if_neg c_4] at hj
    by_cases c_5 : a2 = 1
    · rw [if_pos c_5] at hj
      refine lv_tableIn (tgt := 64) hx hb d_O_seen_16 (by rw [c_5]; decide) (by rw [c_5]; decide) (by rw [c_5]; rfl) (by decide) ?_
      refine lv_aload_n hx hb d_O_seen_64 rfl (lv_at hl 0 rfl) ?_
      refine gw_get (v := .ref (ad (14 + y_3.val))) S hw (xa_T y_3) rfl (by decide) n_T_T f_127 rfl d_O_seen_65 ?_
      refine gw_get (v := .int (M.1 1 y_3 3)) S hw (xa_J y_3) rfl (by decide) n_T_J f_139 rfl d_O_seen_68 ?_
      exact hend H locs ls 71 _ _ (Option.some.inj hj) rfl hw d_O_seen_71
    rw [if_neg c_5] at hj
    by_cases c_6 : a2 = 2
    · rw [if_pos c_6] at hj
      refine lv_tableIn (tgt := 72) hx hb d_O_seen_16 (by rw [c_6]; decide) (by rw [c_6]; decide) (by rw [c_6]; rfl) (by decide) ?_
      refine lv_aload_n hx hb d_O_seen_72 rfl (lv_at hl 0 rfl) ?_
      refine gw_get (v := .ref (ad (14 + y_3.val))) S hw (xa_T y_3) rfl (by decide) n_T_T f_127 rfl d_O_seen_73 ?_
      refine gw_get (v := .int (M.1 1 y_3 4)) S hw (xa_J y_3) rfl (by decide) n_T_J f_142 rfl d_O_seen_76 ?_
      exact hend H locs ls 79 _ _ (Option.some.inj hj) rfl hw d_O_seen_79
    rw [if_neg c_6] at hj
    by_cases c_7 : a2 = 3
    · rw [if_pos c_7] at hj
      refine lv_tableIn (tgt := 80) hx hb d_O_seen_16 (by rw [c_7]; decide) (by rw [c_7]; decide) (by rw [c_7]; rfl) (by decide) ?_
      refine lv_aload_n hx hb d_O_seen_80 rfl (lv_at hl 0 rfl) ?_
      refine gw_get (v := .ref (ad (14 + y_3.val))) S hw (xa_T y_3) rfl (by decide) n_T_T f_127 rfl d_O_seen_81 ?_
      refine gw_get (v := .int (M.1 1 y_3 5)) S hw (xa_J y_3) rfl (by decide) n_T_J f_145 rfl d_O_seen_84 ?_
      exact hend H locs ls 87 _ _ (Option.some.inj hj) rfl hw d_O_seen_87
    rw [if_neg c_7] at hj
    by_cases c_8 : a2 = 4
    · rw [if_pos c_8] at hj
      refine lv_tableIn (tgt := 88) hx hb d_O_seen_16 (by rw [c_8]; decide) (by rw [c_8]; decide) (by rw [c_8]; rfl) (by decide) ?_
      refine lv_aload_n hx hb d_O_seen_88 rfl (lv_at hl 0 rfl) ?_
      refine gw_get (v := .ref (ad (14 + y_3.val))) S hw (xa_T y_3) rfl (by decide) n_T_T f_127 rfl d_O_seen_89 ?_
      refine gw_get (v := .int (M.1 1 y_3 6)) S hw (xa_J y_3) rfl (by decide) n_T_J f_148 rfl d_O_seen_92 ?_
      exact hend H locs ls 95 _ _ (Option.some.inj hj) rfl hw d_O_seen_95
    rw [if_neg c_8] at hj
    by_cases c_11 : a2 = 5
    · rw [if_pos c_11] at hj
      refine lv_tableIn (tgt := 96) hx hb d_O_seen_16 (by rw [c_11]; decide) (by rw [c_11]; decide) (by rw [c_11]; rfl) (by decide) ?_
      refine lv_aload_n hx hb d_O_seen_96 rfl (lv_at hl 1 rfl) ?_
      refine gw_get (v := .ref (ad 5)) S hw xa_O rfl (by decide) n_T_O f_28 rfl d_O_seen_97 ?_
      refine lv_aload_n hx hb d_O_seen_100 rfl (lv_at hl 0 rfl) ?_
      obtain ⟨r_10, e_9, hj⟩ := Option.bind_eq_some_iff.mp hj
      refine gw_calli (As := [.ref (ad (6 + y_3.val))]) (rest := []) S hw (c_K_leftOf e_9) w_151 xa_K rfl rfl hl.1 rfl (Nat.le_of_ble_eq_true rfl) d_O_seen_101 (fun H locs hw => ?_)
      exact hend H locs ls 104 _ _ (Option.some.inj hj) rfl hw d_O_seen_104
    rw [if_neg c_11] at hj
    refine lv_tableOut (tgt := 105) hx hb d_O_seen_16 (gw_out6 c_4 c_5 c_6 c_7 c_8 c_11) (by decide) ?_
    refine lv_iconst (v := -1) hx hb d_O_seen_105 (by decide) ?_
    exact hend H locs ls 106 _ _ (Option.some.inj hj) rfl hw d_O_seen_106
end
