section
-- ===== PART A: goes FIRST, ahead of the names: the tables' words, and 'selects' of the private methods out of them =====
/-- a private method of a class that the tables say can be made, by its rows of tables_1 -/
def lw_okq (q : MethodName × Nat) : Prop := (q.1.cls ≠ "java/lang/invoke/MethodHandle" ∧ q.1.cls ≠ "java/lang/invoke/VarHandle") ∧ Cond.instantiable q.1.cls q.2 ∈ tables_1 ∧ Cond.privateMethod q.1 ∈ tables_1 ∧ Cond.instanceMethod q.1 ∈ tables_1
theorem lw_p0 : lw_okq (⟨"SegmentKernel$TaskSet", "hasPriority", "(I)Z"⟩, 3) := ⟨⟨by decide +kernel, by decide +kernel⟩, List.mem_of_getElem? (i := 25) (by decide +kernel), List.mem_of_getElem? (i := 214) (by decide +kernel), List.mem_of_getElem? (i := 215) (by decide +kernel)⟩
theorem lw_p1 : lw_okq (⟨"SegmentKernel$TaskSet", "place", "(LSegmentKernel$Task;)V"⟩, 3) := ⟨⟨by decide +kernel, by decide +kernel⟩, List.mem_of_getElem? (i := 25) (by decide +kernel), List.mem_of_getElem? (i := 226) (by decide +kernel), List.mem_of_getElem? (i := 227) (by decide +kernel)⟩
theorem lw_p2 : lw_okq (⟨"SegmentKernel$TaskSet", "swap", "(II)V"⟩, 3) := ⟨⟨by decide +kernel, by decide +kernel⟩, List.mem_of_getElem? (i := 25) (by decide +kernel), List.mem_of_getElem? (i := 230) (by decide +kernel), List.mem_of_getElem? (i := 231) (by decide +kernel)⟩
theorem lw_p3 : lw_okq (⟨"java/lang/Throwable", "fillInStackTrace", "(I)Ljava/lang/Throwable;"⟩, 6) := ⟨⟨by decide +kernel, by decide +kernel⟩, List.mem_of_getElem? (i := 382) (by decide +kernel), List.mem_of_getElem? (i := 380) (by decide +kernel), List.mem_of_getElem? (i := 381) (by decide +kernel)⟩
theorem lw_p4 : lw_okq (⟨"SegmentKernel$Analysis", "greatestWith", "(LSegmentKernel$Task;I)I"⟩, 3) := ⟨⟨by decide +kernel, by decide +kernel⟩, List.mem_of_getElem? (i := 153) (by decide +kernel), List.mem_of_getElem? (i := 416) (by decide +kernel), List.mem_of_getElem? (i := 417) (by decide +kernel)⟩
theorem lw_p5 : lw_okq (⟨"SegmentKernel$Analysis", "busyWith", "(LSegmentKernel$Task;I)I"⟩, 3) := ⟨⟨by decide +kernel, by decide +kernel⟩, List.mem_of_getElem? (i := 153) (by decide +kernel), List.mem_of_getElem? (i := 420) (by decide +kernel), List.mem_of_getElem? (i := 421) (by decide +kernel)⟩
theorem lw_p6 : lw_okq (⟨"SegmentKernel$Analysis", "higherWorkBy", "(LSegmentKernel$Task;I)I"⟩, 3) := ⟨⟨by decide +kernel, by decide +kernel⟩, List.mem_of_getElem? (i := 153) (by decide +kernel), List.mem_of_getElem? (i := 428) (by decide +kernel), List.mem_of_getElem? (i := 429) (by decide +kernel)⟩
theorem lw_p7 : lw_okq (⟨"SegmentKernel$Analysis", "lastBegin", "(LSegmentKernel$Task;III)I"⟩, 3) := ⟨⟨by decide +kernel, by decide +kernel⟩, List.mem_of_getElem? (i := 153) (by decide +kernel), List.mem_of_getElem? (i := 432) (by decide +kernel), List.mem_of_getElem? (i := 433) (by decide +kernel)⟩
theorem lw_p8 : lw_okq (⟨"SegmentKernel", "surveyedTask", "(I)LSegmentKernel$Task;"⟩, 3) := ⟨⟨by decide +kernel, by decide +kernel⟩, List.mem_of_getElem? (i := 17) (by decide +kernel), List.mem_of_getElem? (i := 455) (by decide +kernel), List.mem_of_getElem? (i := 456) (by decide +kernel)⟩
theorem lw_p9 : lw_okq (⟨"SegmentKernel", "readyTask", "(I)LSegmentKernel$Task;"⟩, 3) := ⟨⟨by decide +kernel, by decide +kernel⟩, List.mem_of_getElem? (i := 17) (by decide +kernel), List.mem_of_getElem? (i := 459) (by decide +kernel), List.mem_of_getElem? (i := 460) (by decide +kernel)⟩
theorem lw_p10 : lw_okq (⟨"SegmentKernel$Analysis", "greatestBorne", "(LSegmentKernel$Task;)I"⟩, 3) := ⟨⟨by decide +kernel, by decide +kernel⟩, List.mem_of_getElem? (i := 153) (by decide +kernel), List.mem_of_getElem? (i := 517) (by decide +kernel), List.mem_of_getElem? (i := 518) (by decide +kernel)⟩
theorem lw_p11 : lw_okq (⟨"SegmentKernel$Analysis", "highestBelowWith", "(LSegmentKernel$Task;I)LSegmentKernel$Task;"⟩, 3) := ⟨⟨by decide +kernel, by decide +kernel⟩, List.mem_of_getElem? (i := 153) (by decide +kernel), List.mem_of_getElem? (i := 553) (by decide +kernel), List.mem_of_getElem? (i := 554) (by decide +kernel)⟩
theorem lw_p12 : lw_okq (⟨"SegmentKernel$Analysis", "scenarioArrivalsBy", "(LSegmentKernel$Task;I)I"⟩, 3) := ⟨⟨by decide +kernel, by decide +kernel⟩, List.mem_of_getElem? (i := 153) (by decide +kernel), List.mem_of_getElem? (i := 562) (by decide +kernel), List.mem_of_getElem? (i := 563) (by decide +kernel)⟩
theorem lw_p13 : lw_okq (⟨"SegmentKernel$Analysis", "ownArrivalsBy", "(LSegmentKernel$Task;I)I"⟩, 3) := ⟨⟨by decide +kernel, by decide +kernel⟩, List.mem_of_getElem? (i := 153) (by decide +kernel), List.mem_of_getElem? (i := 566) (by decide +kernel), List.mem_of_getElem? (i := 567) (by decide +kernel)⟩
theorem lw_p14 : lw_okq (⟨"SegmentKernel$Analysis", "timeOfArrival", "(LSegmentKernel$Task;II)I"⟩, 3) := ⟨⟨by decide +kernel, by decide +kernel⟩, List.mem_of_getElem? (i := 153) (by decide +kernel), List.mem_of_getElem? (i := 570) (by decide +kernel), List.mem_of_getElem? (i := 571) (by decide +kernel)⟩
theorem lw_p15 : lw_okq (⟨"SegmentKernel$Analysis", "taskOfArrival", "(LSegmentKernel$Task;II)I"⟩, 3) := ⟨⟨by decide +kernel, by decide +kernel⟩, List.mem_of_getElem? (i := 153) (by decide +kernel), List.mem_of_getElem? (i := 574) (by decide +kernel), List.mem_of_getElem? (i := 575) (by decide +kernel)⟩
def lw_privs_1 : List (MethodName × Nat) := [(⟨"SegmentKernel$TaskSet", "hasPriority", "(I)Z"⟩, 3), (⟨"SegmentKernel$TaskSet", "place", "(LSegmentKernel$Task;)V"⟩, 3), (⟨"SegmentKernel$TaskSet", "swap", "(II)V"⟩, 3), (⟨"java/lang/Throwable", "fillInStackTrace", "(I)Ljava/lang/Throwable;"⟩, 6), (⟨"SegmentKernel$Analysis", "greatestWith", "(LSegmentKernel$Task;I)I"⟩, 3), (⟨"SegmentKernel$Analysis", "busyWith", "(LSegmentKernel$Task;I)I"⟩, 3), (⟨"SegmentKernel$Analysis", "higherWorkBy", "(LSegmentKernel$Task;I)I"⟩, 3), (⟨"SegmentKernel$Analysis", "lastBegin", "(LSegmentKernel$Task;III)I"⟩, 3), (⟨"SegmentKernel", "surveyedTask", "(I)LSegmentKernel$Task;"⟩, 3), (⟨"SegmentKernel", "readyTask", "(I)LSegmentKernel$Task;"⟩, 3), (⟨"SegmentKernel$Analysis", "greatestBorne", "(LSegmentKernel$Task;)I"⟩, 3), (⟨"SegmentKernel$Analysis", "highestBelowWith", "(LSegmentKernel$Task;I)LSegmentKernel$Task;"⟩, 3), (⟨"SegmentKernel$Analysis", "scenarioArrivalsBy", "(LSegmentKernel$Task;I)I"⟩, 3), (⟨"SegmentKernel$Analysis", "ownArrivalsBy", "(LSegmentKernel$Task;I)I"⟩, 3), (⟨"SegmentKernel$Analysis", "timeOfArrival", "(LSegmentKernel$Task;II)I"⟩, 3), (⟨"SegmentKernel$Analysis", "taskOfArrival", "(LSegmentKernel$Task;II)I"⟩, 3)]
theorem lw_r1 : ∀ q ∈ lw_privs_1, lw_okq q := List.forall_mem_cons.mpr ⟨lw_p0, List.forall_mem_cons.mpr ⟨lw_p1, List.forall_mem_cons.mpr ⟨lw_p2, List.forall_mem_cons.mpr ⟨lw_p3, List.forall_mem_cons.mpr ⟨lw_p4, List.forall_mem_cons.mpr ⟨lw_p5, List.forall_mem_cons.mpr ⟨lw_p6, List.forall_mem_cons.mpr ⟨lw_p7, List.forall_mem_cons.mpr ⟨lw_p8, List.forall_mem_cons.mpr ⟨lw_p9, List.forall_mem_cons.mpr ⟨lw_p10, List.forall_mem_cons.mpr ⟨lw_p11, List.forall_mem_cons.mpr ⟨lw_p12, List.forall_mem_cons.mpr ⟨lw_p13, List.forall_mem_cons.mpr ⟨lw_p14, List.forall_mem_cons.mpr ⟨lw_p15, fun _ h => absurd h List.not_mem_nil⟩⟩⟩⟩⟩⟩⟩⟩⟩⟩⟩⟩⟩⟩⟩⟩
theorem lw_p16 : lw_okq (⟨"SegmentKernel$Kernel", "beginSegment", "()V"⟩, 6) := ⟨⟨by decide +kernel, by decide +kernel⟩, List.mem_of_getElem? (i := 169) (by decide +kernel), List.mem_of_getElem? (i := 605) (by decide +kernel), List.mem_of_getElem? (i := 606) (by decide +kernel)⟩
theorem lw_p17 : lw_okq (⟨"SegmentKernel$Kernel", "highestWithJob", "()LSegmentKernel$Task;"⟩, 6) := ⟨⟨by decide +kernel, by decide +kernel⟩, List.mem_of_getElem? (i := 169) (by decide +kernel), List.mem_of_getElem? (i := 609) (by decide +kernel), List.mem_of_getElem? (i := 610) (by decide +kernel)⟩
theorem lw_p18 : lw_okq (⟨"SegmentKernel$Kernel", "run", "(LSegmentKernel$Task;I)V"⟩, 6) := ⟨⟨by decide +kernel, by decide +kernel⟩, List.mem_of_getElem? (i := 169) (by decide +kernel), List.mem_of_getElem? (i := 619) (by decide +kernel), List.mem_of_getElem? (i := 620) (by decide +kernel)⟩
theorem lw_p19 : lw_okq (⟨"SegmentKernel$Kernel", "endSegment", "(LSegmentKernel$Task;)V"⟩, 6) := ⟨⟨by decide +kernel, by decide +kernel⟩, List.mem_of_getElem? (i := 169) (by decide +kernel), List.mem_of_getElem? (i := 623) (by decide +kernel), List.mem_of_getElem? (i := 624) (by decide +kernel)⟩
theorem lw_p20 : lw_okq (⟨"SegmentKernelModel", "isTask", "(I)Z"⟩, 29) := ⟨⟨by decide +kernel, by decide +kernel⟩, List.mem_of_getElem? (i := 632) (by decide +kernel), List.mem_of_getElem? (i := 739) (by decide +kernel), List.mem_of_getElem? (i := 740) (by decide +kernel)⟩
theorem lw_p21 : lw_okq (⟨"SegmentKernelModel", "forgetJobs", "()V"⟩, 29) := ⟨⟨by decide +kernel, by decide +kernel⟩, List.mem_of_getElem? (i := 632) (by decide +kernel), List.mem_of_getElem? (i := 747) (by decide +kernel), List.mem_of_getElem? (i := 748) (by decide +kernel)⟩
theorem lw_p22 : lw_okq (⟨"SegmentKernelModel", "work", "(I)I"⟩, 29) := ⟨⟨by decide +kernel, by decide +kernel⟩, List.mem_of_getElem? (i := 632) (by decide +kernel), List.mem_of_getElem? (i := 759) (by decide +kernel), List.mem_of_getElem? (i := 760) (by decide +kernel)⟩
theorem lw_p23 : lw_okq (⟨"SegmentKernelModel", "workBefore", "(II)I"⟩, 29) := ⟨⟨by decide +kernel, by decide +kernel⟩, List.mem_of_getElem? (i := 632) (by decide +kernel), List.mem_of_getElem? (i := 763) (by decide +kernel), List.mem_of_getElem? (i := 764) (by decide +kernel)⟩
theorem lw_p24 : lw_okq (⟨"SegmentKernelModel", "blocking", "(I)I"⟩, 29) := ⟨⟨by decide +kernel, by decide +kernel⟩, List.mem_of_getElem? (i := 632) (by decide +kernel), List.mem_of_getElem? (i := 767) (by decide +kernel), List.mem_of_getElem? (i := 768) (by decide +kernel)⟩
theorem lw_p25 : lw_okq (⟨"SegmentKernelModel", "longestBelow", "(I)I"⟩, 29) := ⟨⟨by decide +kernel, by decide +kernel⟩, List.mem_of_getElem? (i := 632) (by decide +kernel), List.mem_of_getElem? (i := 771) (by decide +kernel), List.mem_of_getElem? (i := 772) (by decide +kernel)⟩
theorem lw_p26 : lw_okq (⟨"SegmentKernelModel", "longestOf", "(I)I"⟩, 29) := ⟨⟨by decide +kernel, by decide +kernel⟩, List.mem_of_getElem? (i := 632) (by decide +kernel), List.mem_of_getElem? (i := 775) (by decide +kernel), List.mem_of_getElem? (i := 776) (by decide +kernel)⟩
theorem lw_p27 : lw_okq (⟨"SegmentKernelModel", "isReady", "()Z"⟩, 29) := ⟨⟨by decide +kernel, by decide +kernel⟩, List.mem_of_getElem? (i := 632) (by decide +kernel), List.mem_of_getElem? (i := 783) (by decide +kernel), List.mem_of_getElem? (i := 784) (by decide +kernel)⟩
theorem lw_p28 : lw_okq (⟨"SegmentKernelModel", "raise", "(I)I"⟩, 29) := ⟨⟨by decide +kernel, by decide +kernel⟩, List.mem_of_getElem? (i := 632) (by decide +kernel), List.mem_of_getElem? (i := 787) (by decide +kernel), List.mem_of_getElem? (i := 788) (by decide +kernel)⟩
theorem lw_p29 : lw_okq (⟨"SegmentKernelModel", "admitted", "()I"⟩, 29) := ⟨⟨by decide +kernel, by decide +kernel⟩, List.mem_of_getElem? (i := 632) (by decide +kernel), List.mem_of_getElem? (i := 791) (by decide +kernel), List.mem_of_getElem? (i := 792) (by decide +kernel)⟩
theorem lw_p30 : lw_okq (⟨"SegmentKernelModel", "highest", "(I)I"⟩, 29) := ⟨⟨by decide +kernel, by decide +kernel⟩, List.mem_of_getElem? (i := 632) (by decide +kernel), List.mem_of_getElem? (i := 795) (by decide +kernel), List.mem_of_getElem? (i := 796) (by decide +kernel)⟩
theorem lw_p31 : lw_okq (⟨"SegmentKernelModel", "go", "(II)V"⟩, 29) := ⟨⟨by decide +kernel, by decide +kernel⟩, List.mem_of_getElem? (i := 632) (by decide +kernel), List.mem_of_getElem? (i := 799) (by decide +kernel), List.mem_of_getElem? (i := 800) (by decide +kernel)⟩
def lw_privs_2 : List (MethodName × Nat) := [(⟨"SegmentKernel$Kernel", "beginSegment", "()V"⟩, 6), (⟨"SegmentKernel$Kernel", "highestWithJob", "()LSegmentKernel$Task;"⟩, 6), (⟨"SegmentKernel$Kernel", "run", "(LSegmentKernel$Task;I)V"⟩, 6), (⟨"SegmentKernel$Kernel", "endSegment", "(LSegmentKernel$Task;)V"⟩, 6), (⟨"SegmentKernelModel", "isTask", "(I)Z"⟩, 29), (⟨"SegmentKernelModel", "forgetJobs", "()V"⟩, 29), (⟨"SegmentKernelModel", "work", "(I)I"⟩, 29), (⟨"SegmentKernelModel", "workBefore", "(II)I"⟩, 29), (⟨"SegmentKernelModel", "blocking", "(I)I"⟩, 29), (⟨"SegmentKernelModel", "longestBelow", "(I)I"⟩, 29), (⟨"SegmentKernelModel", "longestOf", "(I)I"⟩, 29), (⟨"SegmentKernelModel", "isReady", "()Z"⟩, 29), (⟨"SegmentKernelModel", "raise", "(I)I"⟩, 29), (⟨"SegmentKernelModel", "admitted", "()I"⟩, 29), (⟨"SegmentKernelModel", "highest", "(I)I"⟩, 29), (⟨"SegmentKernelModel", "go", "(II)V"⟩, 29)]
theorem lw_r2 : ∀ q ∈ lw_privs_2, lw_okq q := List.forall_mem_cons.mpr ⟨lw_p16, List.forall_mem_cons.mpr ⟨lw_p17, List.forall_mem_cons.mpr ⟨lw_p18, List.forall_mem_cons.mpr ⟨lw_p19, List.forall_mem_cons.mpr ⟨lw_p20, List.forall_mem_cons.mpr ⟨lw_p21, List.forall_mem_cons.mpr ⟨lw_p22, List.forall_mem_cons.mpr ⟨lw_p23, List.forall_mem_cons.mpr ⟨lw_p24, List.forall_mem_cons.mpr ⟨lw_p25, List.forall_mem_cons.mpr ⟨lw_p26, List.forall_mem_cons.mpr ⟨lw_p27, List.forall_mem_cons.mpr ⟨lw_p28, List.forall_mem_cons.mpr ⟨lw_p29, List.forall_mem_cons.mpr ⟨lw_p30, List.forall_mem_cons.mpr ⟨lw_p31, fun _ h => absurd h List.not_mem_nil⟩⟩⟩⟩⟩⟩⟩⟩⟩⟩⟩⟩⟩⟩⟩⟩
theorem lw_p32 : lw_okq (⟨"SegmentKernelModel", "isOver", "(I)Z"⟩, 29) := ⟨⟨by decide +kernel, by decide +kernel⟩, List.mem_of_getElem? (i := 632) (by decide +kernel), List.mem_of_getElem? (i := 803) (by decide +kernel), List.mem_of_getElem? (i := 804) (by decide +kernel)⟩
theorem lw_p33 : lw_okq (⟨"SegmentKernelModel", "counts", "(II)Z"⟩, 29) := ⟨⟨by decide +kernel, by decide +kernel⟩, List.mem_of_getElem? (i := 632) (by decide +kernel), List.mem_of_getElem? (i := 807) (by decide +kernel), List.mem_of_getElem? (i := 808) (by decide +kernel)⟩
theorem lw_p34 : lw_okq (⟨"SegmentKernelModel", "next", "(I)I"⟩, 29) := ⟨⟨by decide +kernel, by decide +kernel⟩, List.mem_of_getElem? (i := 632) (by decide +kernel), List.mem_of_getElem? (i := 811) (by decide +kernel), List.mem_of_getElem? (i := 812) (by decide +kernel)⟩
theorem lw_p35 : lw_okq (⟨"SegmentKernelModel", "asks", "(I)Z"⟩, 29) := ⟨⟨by decide +kernel, by decide +kernel⟩, List.mem_of_getElem? (i := 632) (by decide +kernel), List.mem_of_getElem? (i := 819) (by decide +kernel), List.mem_of_getElem? (i := 820) (by decide +kernel)⟩
theorem lw_p36 : lw_okq (⟨"SegmentKernelModel", "tolerates", "(I)I"⟩, 29) := ⟨⟨by decide +kernel, by decide +kernel⟩, List.mem_of_getElem? (i := 632) (by decide +kernel), List.mem_of_getElem? (i := 831) (by decide +kernel), List.mem_of_getElem? (i := 832) (by decide +kernel)⟩
theorem lw_p37 : lw_okq (⟨"SegmentKernelModel", "stretchOne", "(II)V"⟩, 29) := ⟨⟨by decide +kernel, by decide +kernel⟩, List.mem_of_getElem? (i := 632) (by decide +kernel), List.mem_of_getElem? (i := 839) (by decide +kernel), List.mem_of_getElem? (i := 840) (by decide +kernel)⟩
theorem lw_p38 : lw_okq (⟨"SegmentKernelModel", "step", "()I"⟩, 29) := ⟨⟨by decide +kernel, by decide +kernel⟩, List.mem_of_getElem? (i := 632) (by decide +kernel), List.mem_of_getElem? (i := 855) (by decide +kernel), List.mem_of_getElem? (i := 856) (by decide +kernel)⟩
theorem lw_p39 : lw_okq (⟨"SegmentKernelModel", "begin", "()V"⟩, 29) := ⟨⟨by decide +kernel, by decide +kernel⟩, List.mem_of_getElem? (i := 632) (by decide +kernel), List.mem_of_getElem? (i := 859) (by decide +kernel), List.mem_of_getElem? (i := 860) (by decide +kernel)⟩
theorem lw_p40 : lw_okq (⟨"SegmentKernelModel", "waiting", "()I"⟩, 29) := ⟨⟨by decide +kernel, by decide +kernel⟩, List.mem_of_getElem? (i := 632) (by decide +kernel), List.mem_of_getElem? (i := 863) (by decide +kernel), List.mem_of_getElem? (i := 864) (by decide +kernel)⟩
theorem lw_p41 : lw_okq (⟨"SegmentKernelModel", "finish", "(I)V"⟩, 29) := ⟨⟨by decide +kernel, by decide +kernel⟩, List.mem_of_getElem? (i := 632) (by decide +kernel), List.mem_of_getElem? (i := 867) (by decide +kernel), List.mem_of_getElem? (i := 868) (by decide +kernel)⟩
def lw_privs_3 : List (MethodName × Nat) := [(⟨"SegmentKernelModel", "isOver", "(I)Z"⟩, 29), (⟨"SegmentKernelModel", "counts", "(II)Z"⟩, 29), (⟨"SegmentKernelModel", "next", "(I)I"⟩, 29), (⟨"SegmentKernelModel", "asks", "(I)Z"⟩, 29), (⟨"SegmentKernelModel", "tolerates", "(I)I"⟩, 29), (⟨"SegmentKernelModel", "stretchOne", "(II)V"⟩, 29), (⟨"SegmentKernelModel", "step", "()I"⟩, 29), (⟨"SegmentKernelModel", "begin", "()V"⟩, 29), (⟨"SegmentKernelModel", "waiting", "()I"⟩, 29), (⟨"SegmentKernelModel", "finish", "(I)V"⟩, 29)]
theorem lw_r3 : ∀ q ∈ lw_privs_3, lw_okq q := List.forall_mem_cons.mpr ⟨lw_p32, List.forall_mem_cons.mpr ⟨lw_p33, List.forall_mem_cons.mpr ⟨lw_p34, List.forall_mem_cons.mpr ⟨lw_p35, List.forall_mem_cons.mpr ⟨lw_p36, List.forall_mem_cons.mpr ⟨lw_p37, List.forall_mem_cons.mpr ⟨lw_p38, List.forall_mem_cons.mpr ⟨lw_p39, List.forall_mem_cons.mpr ⟨lw_p40, List.forall_mem_cons.mpr ⟨lw_p41, fun _ h => absurd h List.not_mem_nil⟩⟩⟩⟩⟩⟩⟩⟩⟩⟩
def lw_privs : List (MethodName × Nat) := lw_privs_1 ++ (lw_privs_2 ++ (lw_privs_3))
def lw_tbl : List Cond := k2_sels lw_privs ++ tables_1
theorem lw_privs_ok : ∀ q ∈ lw_privs, lw_okq q := by
  show ∀ q ∈ lw_privs_1 ++ (lw_privs_2 ++ (lw_privs_3)), lw_okq q
  exact List.forall_mem_append.mpr ⟨lw_r1, List.forall_mem_append.mpr ⟨lw_r2, lw_r3⟩⟩
end
section
/-! NAMES: classes, fields in the order of the slots, methods; the words: all good words of the tables, for every method -/
def R_A : String := "SegmentKernel$Analysis"
def R_J : String := "SegmentKernel$Jobs"
def R_K : String := "SegmentKernel$Kernel"
def R_T : String := "SegmentKernel$Task"
def R_S : String := "SegmentKernel$TaskSet"
def R_O : String := "SegmentKernel"
def R_Y : String := "SegmentKernelModel"
def R_L : String := "SegmentKernelLaw"
def T_A : u_T := fun k => match k with
  | 0 => ("SegmentKernel$Analysis", "tasks", "LSegmentKernel$TaskSet;", true)
  | 1 => ("SegmentKernel$Analysis", "greatestJob", "I", false)
  | _ => ("SegmentKernel$Analysis", "jobCount", "I", false)
def ty_A : Nat → FieldType := fun k => match k with
  | 0 => (.object "SegmentKernel$TaskSet")
  | 1 => .int
  | _ => .int
theorem nm_A : ∀ a, a < 3 → ∀ b, b < 3 → a ≠ b → (T_A a).2.1 ≠ (T_A b).2.1 := by decide +kernel
theorem tk_A : ∀ k, k < 3 → parseFieldDescriptor (T_A k).2.2.1 = some (ty_A k) := by decide +kernel
def T_J : u_T := fun k => match k with
  | 0 => ("SegmentKernel$Jobs", "arrivals", "[I", true)
  | 1 => ("SegmentKernel$Jobs", "noted", "[I", true)
  | 2 => ("SegmentKernel$Jobs", "arrived", "I", false)
  | 3 => ("SegmentKernel$Jobs", "done", "I", false)
  | 4 => ("SegmentKernel$Jobs", "greatest", "I", false)
  | 5 => ("SegmentKernel$Jobs", "interrupted", "I", false)
  | 6 => ("SegmentKernel$Jobs", "missed", "I", false)
  | _ => ("SegmentKernel$Jobs", "nextSegment", "I", false)
def ty_J : Nat → FieldType := fun k => match k with
  | 0 => (.array .int)
  | 1 => (.array .int)
  | 2 => .int
  | 3 => .int
  | 4 => .int
  | 5 => .int
  | 6 => .int
  | _ => .int
theorem nm_J : ∀ a, a < 8 → ∀ b, b < 8 → a ≠ b → (T_J a).2.1 ≠ (T_J b).2.1 := by decide +kernel
theorem tk_J : ∀ k, k < 8 → parseFieldDescriptor (T_J k).2.2.1 = some (ty_J k) := by decide +kernel
def T_K : u_T := fun k => match k with
  | 0 => ("SegmentKernel$Kernel", "tasks", "LSegmentKernel$TaskSet;", true)
  | 1 => ("SegmentKernel$Kernel", "hasJobs", "Z", false)
  | 2 => ("SegmentKernel$Kernel", "clock", "I", false)
  | 3 => ("SegmentKernel$Kernel", "left", "I", false)
  | 4 => ("SegmentKernel$Kernel", "running", "LSegmentKernel$Task;", false)
  | _ => ("SegmentKernel$Kernel", "paused", "LSegmentKernel$Task;", false)
def ty_K : Nat → FieldType := fun k => match k with
  | 0 => (.object "SegmentKernel$TaskSet")
  | 1 => .boolean
  | 2 => .int
  | 3 => .int
  | 4 => (.object "SegmentKernel$Task")
  | _ => (.object "SegmentKernel$Task")
theorem nm_K : ∀ a, a < 6 → ∀ b, b < 6 → a ≠ b → (T_K a).2.1 ≠ (T_K b).2.1 := by decide +kernel
theorem tk_K : ∀ k, k < 6 → parseFieldDescriptor (T_K k).2.2.1 = some (ty_K k) := by decide +kernel
def T_T : u_T := fun k => match k with
  | 0 => ("SegmentKernel$Task", "id", "I", true)
  | 1 => ("SegmentKernel$Task", "jobs", "LSegmentKernel$Jobs;", true)
  | 2 => ("SegmentKernel$Task", "segments", "[I", true)
  | 3 => ("SegmentKernel$Task", "distance", "I", false)
  | 4 => ("SegmentKernel$Task", "deadline", "I", false)
  | 5 => ("SegmentKernel$Task", "priority", "I", false)
  | 6 => ("SegmentKernel$Task", "segmentCount", "I", false)
  | 7 => ("SegmentKernel$Task", "work", "I", false)
  | 8 => ("SegmentKernel$Task", "rank", "I", false)
  | 9 => ("SegmentKernel$Task", "worst", "I", false)
  | 10 => ("SegmentKernel$Task", "critical", "I", false)
  | 11 => ("SegmentKernel$Task", "responseCount", "I", false)
  | _ => ("SegmentKernel$Task", "bearable", "I", false)
def ty_T : Nat → FieldType := fun k => match k with
  | 0 => .int
  | 1 => (.object "SegmentKernel$Jobs")
  | 2 => (.array .int)
  | 3 => .int
  | 4 => .int
  | 5 => .int
  | 6 => .int
  | 7 => .int
  | 8 => .int
  | 9 => .int
  | 10 => .int
  | 11 => .int
  | _ => .int
theorem nm_T : ∀ a, a < 13 → ∀ b, b < 13 → a ≠ b → (T_T a).2.1 ≠ (T_T b).2.1 := by decide +kernel
theorem tk_T : ∀ k, k < 13 → parseFieldDescriptor (T_T k).2.2.1 = some (ty_T k) := by decide +kernel
def T_S : u_T := fun k => match k with
  | 0 => ("SegmentKernel$TaskSet", "byId", "[LSegmentKernel$Task;", true)
  | 1 => ("SegmentKernel$TaskSet", "ranked", "[LSegmentKernel$Task;", true)
  | _ => ("SegmentKernel$TaskSet", "count", "I", false)
def ty_S : Nat → FieldType := fun k => match k with
  | 0 => (.array (.object "SegmentKernel$Task"))
  | 1 => (.array (.object "SegmentKernel$Task"))
  | _ => .int
theorem nm_S : ∀ a, a < 3 → ∀ b, b < 3 → a ≠ b → (T_S a).2.1 ≠ (T_S b).2.1 := by decide +kernel
theorem tk_S : ∀ k, k < 3 → parseFieldDescriptor (T_S k).2.2.1 = some (ty_S k) := by decide +kernel
def T_O : u_T := fun k => match k with
  | 0 => ("SegmentKernel", "tasks", "LSegmentKernel$TaskSet;", true)
  | 1 => ("SegmentKernel", "analysis", "LSegmentKernel$Analysis;", true)
  | _ => ("SegmentKernel", "kernel", "LSegmentKernel$Kernel;", true)
def ty_O : Nat → FieldType := fun k => match k with
  | 0 => (.object "SegmentKernel$TaskSet")
  | 1 => (.object "SegmentKernel$Analysis")
  | _ => (.object "SegmentKernel$Kernel")
theorem nm_O : ∀ a, a < 3 → ∀ b, b < 3 → a ≠ b → (T_O a).2.1 ≠ (T_O b).2.1 := by decide +kernel
theorem tk_O : ∀ k, k < 3 → parseFieldDescriptor (T_O k).2.2.1 = some (ty_O k) := by decide +kernel
def T_Y : u_T := fun k => match k with
  | 0 => ("SegmentKernelModel", "thrown", "I", false)
  | 1 => ("SegmentKernelModel", "there", "[Z", true)
  | 2 => ("SegmentKernelModel", "distance", "[I", true)
  | 3 => ("SegmentKernelModel", "deadline", "[I", true)
  | 4 => ("SegmentKernelModel", "priority", "[I", true)
  | 5 => ("SegmentKernelModel", "pieces", "[I", true)
  | 6 => ("SegmentKernelModel", "length", "[I", true)
  | 7 => ("SegmentKernelModel", "done", "[I", true)
  | 8 => ("SegmentKernelModel", "piece", "[I", true)
  | 9 => ("SegmentKernelModel", "time", "I", false)
  | 10 => ("SegmentKernelModel", "tooLong", "Z", false)
  | 11 => ("SegmentKernelModel", "worst", "I", false)
  | 12 => ("SegmentKernelModel", "critical", "I", false)
  | 13 => ("SegmentKernelModel", "asked", "I", false)
  | 14 => ("SegmentKernelModel", "answer", "I", false)
  | 15 => ("SegmentKernelModel", "clock", "I", false)
  | 16 => ("SegmentKernelModel", "came", "[I", true)
  | 17 => ("SegmentKernelModel", "finished", "[I", true)
  | 18 => ("SegmentKernelModel", "latest", "[I", true)
  | 19 => ("SegmentKernelModel", "arrivals", "[I", true)
  | 20 => ("SegmentKernelModel", "begun", "[I", true)
  | 21 => ("SegmentKernelModel", "greatest", "[I", true)
  | 22 => ("SegmentKernelModel", "interrupted", "[I", true)
  | 23 => ("SegmentKernelModel", "missed", "[I", true)
  | 24 => ("SegmentKernelModel", "responses", "[I", true)
  | 25 => ("SegmentKernelModel", "arrived", "Z", false)
  | 26 => ("SegmentKernelModel", "running", "I", false)
  | 27 => ("SegmentKernelModel", "left", "I", false)
  | _ => ("SegmentKernelModel", "endedLast", "I", false)
def ty_Y : Nat → FieldType := fun k => match k with
  | 0 => .int
  | 1 => (.array .boolean)
  | 2 => (.array .int)
  | 3 => (.array .int)
  | 4 => (.array .int)
  | 5 => (.array .int)
  | 6 => (.array .int)
  | 7 => (.array .int)
  | 8 => (.array .int)
  | 9 => .int
  | 10 => .boolean
  | 11 => .int
  | 12 => .int
  | 13 => .int
  | 14 => .int
  | 15 => .int
  | 16 => (.array .int)
  | 17 => (.array .int)
  | 18 => (.array .int)
  | 19 => (.array .int)
  | 20 => (.array .int)
  | 21 => (.array .int)
  | 22 => (.array .int)
  | 23 => (.array .int)
  | 24 => (.array .int)
  | 25 => .boolean
  | 26 => .int
  | 27 => .int
  | _ => .int
theorem nm_Y : ∀ a, a < 29 → ∀ b, b < 29 → a ≠ b → (T_Y a).2.1 ≠ (T_Y b).2.1 := by decide +kernel
theorem tk_Y : ∀ k, k < 29 → parseFieldDescriptor (T_Y k).2.2.1 = some (ty_Y k) := by decide +kernel
abbrev vwCl : List vw_C := [(R_A, T_A, 3), (R_J, T_J, 8), (R_K, T_K, 6), (R_T, T_T, 13), (R_S, T_S, 3), (R_O, T_O, 3), (R_Y, T_Y, 29)]
abbrev b_O_init : ByteArray := prog_1_method_1_code
abbrev y_O_init : MethodName := ⟨"SegmentKernel", "<init>", "()V"⟩
abbrev b_S_init : ByteArray := prog_6_method_1_code
abbrev y_S_init : MethodName := ⟨"SegmentKernel$TaskSet", "<init>", "()V"⟩
abbrev b_T_init : ByteArray := prog_5_method_1_code
abbrev y_T_init : MethodName := ⟨"SegmentKernel$Task", "<init>", "(I)V"⟩
abbrev b_J_init : ByteArray := prog_3_method_1_code
abbrev y_J_init : MethodName := ⟨"SegmentKernel$Jobs", "<init>", "()V"⟩
abbrev b_A_init : ByteArray := prog_2_method_1_code
abbrev y_A_init : MethodName := ⟨"SegmentKernel$Analysis", "<init>", "(LSegmentKernel$TaskSet;)V"⟩
abbrev b_K_init : ByteArray := prog_4_method_1_code
abbrev y_K_init : MethodName := ⟨"SegmentKernel$Kernel", "<init>", "(LSegmentKernel$TaskSet;)V"⟩
abbrev b_O_task : ByteArray := prog_1_method_2_code
abbrev y_O_task : MethodName := ⟨"SegmentKernel", "task", "(IIII)Z"⟩
abbrev b_S_add : ByteArray := prog_6_method_3_code
abbrev y_S_add : MethodName := ⟨"SegmentKernel$TaskSet", "add", "(IIII)Z"⟩
abbrev b_S_hasPriority : ByteArray := prog_6_method_10_code
abbrev y_S_hasPriority : MethodName := ⟨"SegmentKernel$TaskSet", "hasPriority", "(I)Z"⟩
abbrev b_S_find : ByteArray := prog_6_method_2_code
abbrev y_S_find : MethodName := ⟨"SegmentKernel$TaskSet", "find", "(I)LSegmentKernel$Task;"⟩
abbrev b_T_become : ByteArray := prog_5_method_2_code
abbrev y_T_become : MethodName := ⟨"SegmentKernel$Task", "become", "(III)V"⟩
abbrev b_S_place : ByteArray := prog_6_method_11_code
abbrev y_S_place : MethodName := ⟨"SegmentKernel$TaskSet", "place", "(LSegmentKernel$Task;)V"⟩
abbrev b_S_swap : ByteArray := prog_6_method_12_code
abbrev y_S_swap : MethodName := ⟨"SegmentKernel$TaskSet", "swap", "(II)V"⟩
abbrev b_S_forgetFindings : ByteArray := prog_6_method_6_code
abbrev y_S_forgetFindings : MethodName := ⟨"SegmentKernel$TaskSet", "forgetFindings", "()V"⟩
abbrev b_T_forgetFindings : ByteArray := prog_5_method_10_code
abbrev y_T_forgetFindings : MethodName := ⟨"SegmentKernel$Task", "forgetFindings", "()V"⟩
abbrev b_O_segment : ByteArray := prog_1_method_3_code
abbrev y_O_segment : MethodName := ⟨"SegmentKernel", "segment", "(II)Z"⟩
abbrev b_S_addSegment : ByteArray := prog_6_method_4_code
abbrev y_S_addSegment : MethodName := ⟨"SegmentKernel$TaskSet", "addSegment", "(II)Z"⟩
abbrev b_T_append : ByteArray := prog_5_method_3_code
abbrev y_T_append : MethodName := ⟨"SegmentKernel$Task", "append", "(I)Z"⟩
abbrev b_O_clear : ByteArray := prog_1_method_4_code
abbrev y_O_clear : MethodName := ⟨"SegmentKernel", "clear", "()V"⟩
abbrev b_K_forgetJobs : ByteArray := prog_4_method_2_code
abbrev y_K_forgetJobs : MethodName := ⟨"SegmentKernel$Kernel", "forgetJobs", "()V"⟩
abbrev b_J_forget : ByteArray := prog_3_method_2_code
abbrev y_J_forget : MethodName := ⟨"SegmentKernel$Jobs", "forget", "()V"⟩
abbrev b_S_forgetTasks : ByteArray := prog_6_method_5_code
abbrev y_S_forgetTasks : MethodName := ⟨"SegmentKernel$TaskSet", "forgetTasks", "()V"⟩
abbrev b_O_reset : ByteArray := prog_1_method_5_code
abbrev y_O_reset : MethodName := ⟨"SegmentKernel", "reset", "()V"⟩
abbrev b_O_about : ByteArray := prog_1_method_6_code
abbrev y_O_about : MethodName := ⟨"SegmentKernel", "about", "(II)I"⟩
abbrev b_S_blockingOf : ByteArray := prog_6_method_9_code
abbrev y_S_blockingOf : MethodName := ⟨"SegmentKernel$TaskSet", "blockingOf", "(LSegmentKernel$Task;)I"⟩
abbrev b_S_longestBelow : ByteArray := prog_6_method_8_code
abbrev y_S_longestBelow : MethodName := ⟨"SegmentKernel$TaskSet", "longestBelow", "(LSegmentKernel$Task;)I"⟩
abbrev b_T_longestSegment : ByteArray := prog_5_method_5_code
abbrev y_T_longestSegment : MethodName := ⟨"SegmentKernel$Task", "longestSegment", "()I"⟩
abbrev b_T_segmentAt : ByteArray := prog_5_method_4_code
abbrev y_T_segmentAt : MethodName := ⟨"SegmentKernel$Task", "segmentAt", "(I)I"⟩
abbrev b_O_arrive : ByteArray := prog_1_method_13_code
abbrev y_O_arrive : MethodName := ⟨"SegmentKernel", "arrive", "(I)Z"⟩
abbrev b_S_isReady : ByteArray := prog_6_method_7_code
abbrev y_S_isReady : MethodName := ⟨"SegmentKernel$TaskSet", "isReady", "()Z"⟩
abbrev b_K_accept : ByteArray := prog_4_method_3_code
abbrev y_K_accept : MethodName := ⟨"SegmentKernel$Kernel", "accept", "(LSegmentKernel$Task;)Z"⟩
abbrev b_J_accept : ByteArray := prog_3_method_4_code
abbrev y_J_accept : MethodName := ⟨"SegmentKernel$Jobs", "accept", "(II)Z"⟩
abbrev b_O_now : ByteArray := prog_1_method_15_code
abbrev y_O_now : MethodName := ⟨"SegmentKernel", "now", "()I"⟩
abbrev b_O_ended : ByteArray := prog_1_method_16_code
abbrev y_O_ended : MethodName := ⟨"SegmentKernel", "ended", "(II)I"⟩
abbrev b_J_notedResponse : ByteArray := prog_3_method_6_code
abbrev y_J_notedResponse : MethodName := ⟨"SegmentKernel$Jobs", "notedResponse", "(I)I"⟩
abbrev b_O_seen : ByteArray := prog_1_method_17_code
abbrev y_O_seen : MethodName := ⟨"SegmentKernel", "seen", "(II)I"⟩
abbrev b_K_leftOf : ByteArray := prog_4_method_4_code
abbrev y_K_leftOf : MethodName := ⟨"SegmentKernel$Kernel", "leftOf", "(LSegmentKernel$Task;)I"⟩
abbrev b_O_admit : ByteArray := prog_1_method_7_code
abbrev y_O_admit : MethodName := ⟨"SegmentKernel", "admit", "()I"⟩
abbrev b_A_verdict : ByteArray := prog_2_method_3_code
abbrev y_A_verdict : MethodName := ⟨"SegmentKernel$Analysis", "verdict", "()I"⟩
abbrev b_A_survey : ByteArray := prog_2_method_2_code
abbrev y_A_survey : MethodName := ⟨"SegmentKernel$Analysis", "survey", "(LSegmentKernel$Task;)V"⟩
abbrev b_A_greatestWith : ByteArray := prog_2_method_14_code
abbrev y_A_greatestWith : MethodName := ⟨"SegmentKernel$Analysis", "greatestWith", "(LSegmentKernel$Task;I)I"⟩
abbrev b_A_busyWith : ByteArray := prog_2_method_15_code
abbrev y_A_busyWith : MethodName := ⟨"SegmentKernel$Analysis", "busyWith", "(LSegmentKernel$Task;I)I"⟩
abbrev b_T_arrivalsBy : ByteArray := prog_5_method_9_code
abbrev y_T_arrivalsBy : MethodName := ⟨"SegmentKernel$Task", "arrivalsBy", "(I)I"⟩
abbrev b_A_higherWorkBy : ByteArray := prog_2_method_17_code
abbrev y_A_higherWorkBy : MethodName := ⟨"SegmentKernel$Analysis", "higherWorkBy", "(LSegmentKernel$Task;I)I"⟩
abbrev b_A_lastBegin : ByteArray := prog_2_method_16_code
abbrev y_A_lastBegin : MethodName := ⟨"SegmentKernel$Analysis", "lastBegin", "(LSegmentKernel$Task;III)I"⟩
abbrev b_T_lastSegment : ByteArray := prog_5_method_6_code
abbrev y_T_lastSegment : MethodName := ⟨"SegmentKernel$Task", "lastSegment", "()I"⟩
abbrev b_T_isTooLong : ByteArray := prog_5_method_11_code
abbrev y_T_isTooLong : MethodName := ⟨"SegmentKernel$Task", "isTooLong", "()Z"⟩
abbrev b_O_response : ByteArray := prog_1_method_8_code
abbrev y_O_response : MethodName := ⟨"SegmentKernel", "response", "(I)I"⟩
abbrev b_O_surveyedTask : ByteArray := prog_1_method_19_code
abbrev y_O_surveyedTask : MethodName := ⟨"SegmentKernel", "surveyedTask", "(I)LSegmentKernel$Task;"⟩
abbrev b_O_readyTask : ByteArray := prog_1_method_18_code
abbrev y_O_readyTask : MethodName := ⟨"SegmentKernel", "readyTask", "(I)LSegmentKernel$Task;"⟩
abbrev b_O_job : ByteArray := prog_1_method_9_code
abbrev y_O_job : MethodName := ⟨"SegmentKernel", "job", "(II)I"⟩
abbrev b_A_responseOfJob : ByteArray := prog_2_method_4_code
abbrev y_A_responseOfJob : MethodName := ⟨"SegmentKernel$Analysis", "responseOfJob", "(LSegmentKernel$Task;I)I"⟩
abbrev b_O_tolerance : ByteArray := prog_1_method_10_code
abbrev y_O_tolerance : MethodName := ⟨"SegmentKernel", "tolerance", "(I)I"⟩
abbrev b_A_bearableBy : ByteArray := prog_2_method_5_code
abbrev y_A_bearableBy : MethodName := ⟨"SegmentKernel$Analysis", "bearableBy", "(LSegmentKernel$Task;)I"⟩
abbrev b_A_greatestBorne : ByteArray := prog_2_method_13_code
abbrev y_A_greatestBorne : MethodName := ⟨"SegmentKernel$Analysis", "greatestBorne", "(LSegmentKernel$Task;)I"⟩
abbrev b_O_stretch : ByteArray := prog_1_method_11_code
abbrev y_O_stretch : MethodName := ⟨"SegmentKernel", "stretch", "()I"⟩
abbrev b_A_stretchTasks : ByteArray := prog_2_method_6_code
abbrev y_A_stretchTasks : MethodName := ⟨"SegmentKernel$Analysis", "stretchTasks", "()I"⟩
abbrev b_T_growLast : ByteArray := prog_5_method_8_code
abbrev y_T_growLast : MethodName := ⟨"SegmentKernel$Task", "growLast", "(I)I"⟩
abbrev b_O_scenario : ByteArray := prog_1_method_12_code
abbrev y_O_scenario : MethodName := ⟨"SegmentKernel", "scenario", "(III)I"⟩
abbrev b_A_scenarioItem : ByteArray := prog_2_method_7_code
abbrev y_A_scenarioItem : MethodName := ⟨"SegmentKernel$Analysis", "scenarioItem", "(LSegmentKernel$Task;IZ)I"⟩
abbrev b_A_highestBelowWith : ByteArray := prog_2_method_8_code
abbrev y_A_highestBelowWith : MethodName := ⟨"SegmentKernel$Analysis", "highestBelowWith", "(LSegmentKernel$Task;I)LSegmentKernel$Task;"⟩
abbrev b_T_workAheadOf : ByteArray := prog_5_method_7_code
abbrev y_T_workAheadOf : MethodName := ⟨"SegmentKernel$Task", "workAheadOf", "(I)I"⟩
abbrev b_A_scenarioArrivalsBy : ByteArray := prog_2_method_10_code
abbrev y_A_scenarioArrivalsBy : MethodName := ⟨"SegmentKernel$Analysis", "scenarioArrivalsBy", "(LSegmentKernel$Task;I)I"⟩
abbrev b_A_ownArrivalsBy : ByteArray := prog_2_method_9_code
abbrev y_A_ownArrivalsBy : MethodName := ⟨"SegmentKernel$Analysis", "ownArrivalsBy", "(LSegmentKernel$Task;I)I"⟩
abbrev b_A_timeOfArrival : ByteArray := prog_2_method_11_code
abbrev y_A_timeOfArrival : MethodName := ⟨"SegmentKernel$Analysis", "timeOfArrival", "(LSegmentKernel$Task;II)I"⟩
abbrev b_A_taskOfArrival : ByteArray := prog_2_method_12_code
abbrev y_A_taskOfArrival : MethodName := ⟨"SegmentKernel$Analysis", "taskOfArrival", "(LSegmentKernel$Task;II)I"⟩
abbrev b_O_tick : ByteArray := prog_1_method_14_code
abbrev y_O_tick : MethodName := ⟨"SegmentKernel", "tick", "(I)I"⟩
abbrev b_K_advance : ByteArray := prog_4_method_5_code
abbrev y_K_advance : MethodName := ⟨"SegmentKernel$Kernel", "advance", "(I)I"⟩
abbrev b_K_beginSegment : ByteArray := prog_4_method_7_code
abbrev y_K_beginSegment : MethodName := ⟨"SegmentKernel$Kernel", "beginSegment", "()V"⟩
abbrev b_K_highestWithJob : ByteArray := prog_4_method_9_code
abbrev y_K_highestWithJob : MethodName := ⟨"SegmentKernel$Kernel", "highestWithJob", "()LSegmentKernel$Task;"⟩
abbrev b_J_hasOpen : ByteArray := prog_3_method_3_code
abbrev y_J_hasOpen : MethodName := ⟨"SegmentKernel$Jobs", "hasOpen", "()Z"⟩
abbrev b_K_run : ByteArray := prog_4_method_6_code
abbrev y_K_run : MethodName := ⟨"SegmentKernel$Kernel", "run", "(LSegmentKernel$Task;I)V"⟩
abbrev b_K_endSegment : ByteArray := prog_4_method_8_code
abbrev y_K_endSegment : MethodName := ⟨"SegmentKernel$Kernel", "endSegment", "(LSegmentKernel$Task;)V"⟩
abbrev b_J_finishOldest : ByteArray := prog_3_method_5_code
abbrev y_J_finishOldest : MethodName := ⟨"SegmentKernel$Jobs", "finishOldest", "(II)V"⟩
abbrev b_Y_init : ByteArray := prog_8_method_1_code
abbrev y_Y_init : MethodName := ⟨"SegmentKernelModel", "<init>", "()V"⟩
abbrev b_Y_thrown : ByteArray := prog_8_method_2_code
abbrev y_Y_thrown : MethodName := ⟨"SegmentKernelModel", "thrown", "()I"⟩
abbrev b_Y_task : ByteArray := prog_8_method_5_code
abbrev y_Y_task : MethodName := ⟨"SegmentKernelModel", "task", "(IIII)Z"⟩
abbrev b_Y_segment : ByteArray := prog_8_method_6_code
abbrev y_Y_segment : MethodName := ⟨"SegmentKernelModel", "segment", "(II)Z"⟩
abbrev b_Y_isTask : ByteArray := prog_8_method_4_code
abbrev y_Y_isTask : MethodName := ⟨"SegmentKernelModel", "isTask", "(I)Z"⟩
abbrev b_Y_clear : ByteArray := prog_8_method_8_code
abbrev y_Y_clear : MethodName := ⟨"SegmentKernelModel", "clear", "()V"⟩
abbrev b_Y_forgetJobs : ByteArray := prog_8_method_7_code
abbrev y_Y_forgetJobs : MethodName := ⟨"SegmentKernelModel", "forgetJobs", "()V"⟩
abbrev b_Y_reset : ByteArray := prog_8_method_9_code
abbrev y_Y_reset : MethodName := ⟨"SegmentKernelModel", "reset", "()V"⟩
abbrev b_Y_about : ByteArray := prog_8_method_16_code
abbrev y_Y_about : MethodName := ⟨"SegmentKernelModel", "about", "(II)I"⟩
abbrev b_Y_work : ByteArray := prog_8_method_12_code
abbrev y_Y_work : MethodName := ⟨"SegmentKernelModel", "work", "(I)I"⟩
abbrev b_Y_workBefore : ByteArray := prog_8_method_11_code
abbrev y_Y_workBefore : MethodName := ⟨"SegmentKernelModel", "workBefore", "(II)I"⟩
abbrev b_Y_blocking : ByteArray := prog_8_method_15_code
abbrev y_Y_blocking : MethodName := ⟨"SegmentKernelModel", "blocking", "(I)I"⟩
abbrev b_Y_longestBelow : ByteArray := prog_8_method_14_code
abbrev y_Y_longestBelow : MethodName := ⟨"SegmentKernelModel", "longestBelow", "(I)I"⟩
abbrev b_Y_longestOf : ByteArray := prog_8_method_13_code
abbrev y_Y_longestOf : MethodName := ⟨"SegmentKernelModel", "longestOf", "(I)I"⟩
abbrev b_Y_admit : ByteArray := prog_8_method_23_code
abbrev y_Y_admit : MethodName := ⟨"SegmentKernelModel", "admit", "()I"⟩
abbrev b_Y_isReady : ByteArray := prog_8_method_10_code
abbrev y_Y_isReady : MethodName := ⟨"SegmentKernelModel", "isReady", "()Z"⟩
abbrev b_Y_raise : ByteArray := prog_8_method_3_code
abbrev y_Y_raise : MethodName := ⟨"SegmentKernelModel", "raise", "(I)I"⟩
abbrev b_Y_admitted : ByteArray := prog_8_method_22_code
abbrev y_Y_admitted : MethodName := ⟨"SegmentKernelModel", "admitted", "()I"⟩
abbrev b_Y_highest : ByteArray := prog_8_method_21_code
abbrev y_Y_highest : MethodName := ⟨"SegmentKernelModel", "highest", "(I)I"⟩
abbrev b_Y_go : ByteArray := prog_8_method_20_code
abbrev y_Y_go : MethodName := ⟨"SegmentKernelModel", "go", "(II)V"⟩
abbrev b_Y_isOver : ByteArray := prog_8_method_19_code
abbrev y_Y_isOver : MethodName := ⟨"SegmentKernelModel", "isOver", "(I)Z"⟩
abbrev b_Y_counts : ByteArray := prog_8_method_17_code
abbrev y_Y_counts : MethodName := ⟨"SegmentKernelModel", "counts", "(II)Z"⟩
abbrev b_Y_next : ByteArray := prog_8_method_18_code
abbrev y_Y_next : MethodName := ⟨"SegmentKernelModel", "next", "(I)I"⟩
abbrev b_Y_response : ByteArray := prog_8_method_25_code
abbrev y_Y_response : MethodName := ⟨"SegmentKernelModel", "response", "(I)I"⟩
abbrev b_Y_asks : ByteArray := prog_8_method_24_code
abbrev y_Y_asks : MethodName := ⟨"SegmentKernelModel", "asks", "(I)Z"⟩
abbrev b_Y_job : ByteArray := prog_8_method_26_code
abbrev y_Y_job : MethodName := ⟨"SegmentKernelModel", "job", "(II)I"⟩
abbrev b_Y_tolerance : ByteArray := prog_8_method_28_code
abbrev y_Y_tolerance : MethodName := ⟨"SegmentKernelModel", "tolerance", "(I)I"⟩
abbrev b_Y_tolerates : ByteArray := prog_8_method_27_code
abbrev y_Y_tolerates : MethodName := ⟨"SegmentKernelModel", "tolerates", "(I)I"⟩
abbrev b_Y_stretch : ByteArray := prog_8_method_30_code
abbrev y_Y_stretch : MethodName := ⟨"SegmentKernelModel", "stretch", "()I"⟩
abbrev b_Y_stretchOne : ByteArray := prog_8_method_29_code
abbrev y_Y_stretchOne : MethodName := ⟨"SegmentKernelModel", "stretchOne", "(II)V"⟩
abbrev b_Y_scenario : ByteArray := prog_8_method_31_code
abbrev y_Y_scenario : MethodName := ⟨"SegmentKernelModel", "scenario", "(III)I"⟩
abbrev b_Y_arrive : ByteArray := prog_8_method_32_code
abbrev y_Y_arrive : MethodName := ⟨"SegmentKernelModel", "arrive", "(I)Z"⟩
abbrev b_Y_tick : ByteArray := prog_8_method_37_code
abbrev y_Y_tick : MethodName := ⟨"SegmentKernelModel", "tick", "(I)I"⟩
abbrev b_Y_step : ByteArray := prog_8_method_36_code
abbrev y_Y_step : MethodName := ⟨"SegmentKernelModel", "step", "()I"⟩
abbrev b_Y_begin : ByteArray := prog_8_method_34_code
abbrev y_Y_begin : MethodName := ⟨"SegmentKernelModel", "begin", "()V"⟩
abbrev b_Y_waiting : ByteArray := prog_8_method_33_code
abbrev y_Y_waiting : MethodName := ⟨"SegmentKernelModel", "waiting", "()I"⟩
abbrev b_Y_finish : ByteArray := prog_8_method_35_code
abbrev y_Y_finish : MethodName := ⟨"SegmentKernelModel", "finish", "(I)V"⟩
abbrev b_Y_now : ByteArray := prog_8_method_38_code
abbrev y_Y_now : MethodName := ⟨"SegmentKernelModel", "now", "()I"⟩
abbrev b_Y_ended : ByteArray := prog_8_method_39_code
abbrev y_Y_ended : MethodName := ⟨"SegmentKernelModel", "ended", "(II)I"⟩
abbrev b_Y_seen : ByteArray := prog_8_method_40_code
abbrev y_Y_seen : MethodName := ⟨"SegmentKernelModel", "seen", "(II)I"⟩
def wB : List Cond := lw_tbl.filter goodWord
theorem wB_in {w : Cond} (h : w ∈ lw_tbl) (g : goodWord w = true) : w ∈ wB := List.mem_filter.mpr ⟨h, g⟩
theorem wB_sub : ∀ w ∈ wB, w ∈ lw_tbl := fun _ h => (List.mem_filter.mp h).1
theorem wB_good : ∀ w ∈ wB, (w.onTables && w.keeps) = true ∨ ∃ ty, w = .arrayClass ty := fun _ h => good_of_word (List.mem_filter.mp h).2
/-- a callee's words among a caller's: its code is one of the words -/
theorem wB_call {big : List Cond} {y : MethodName} {b : ByteArray} {n : Nat} {r : Option FieldType} (hb : ∀ w ∈ wB, w ∈ big) (h : Cond.code y b n r ∈ wB) : GoodIn big (Cond.code y b n r :: wB) := by
  intro w hw
  rcases List.mem_cons.mp hw with rfl | hw
  · exact ⟨hb _ h, wB_good _ h⟩
  · exact ⟨hb _ hw, wB_good _ hw⟩
theorem wB_callV {big : List Cond} {y : MethodName} {b : ByteArray} {n : Nat} {r : Option FieldType} {own C : String} {ix : Nat} (hb : ∀ w ∈ wB, w ∈ big) (h : Cond.code y b n r ∈ wB) (h1 : Cond.methodLink own ix y ∈ wB) (h2 : Cond.instanceMethod y ∈ wB) (h3 : Cond.selects C y y ∈ wB) (h4 : Cond.initialized C ∈ wB) : GoodIn big (wsV own ix C y (Cond.code y b n r :: wB)) := by
  intro w hw
  unfold wsV at hw
  rcases List.mem_append.mp hw with hw | hw
  · have hw' : w ∈ wB := by
      simp only [List.mem_cons, List.not_mem_nil, or_false] at hw
      rcases hw with rfl | rfl | rfl | rfl
      · exact h1
      · exact h2
      · exact h3
      · exact h4
    exact ⟨hb _ hw', wB_good _ hw'⟩
  · exact wB_call hb h w hw
end
section
/-! PART: rows over a whole world: a list of cells ws, and what a method makes of it -/
def gw_P (D : va_G) (tys : List (ClassId × FieldType)) (ws : va_W) (sz : Nat) (U : State) : Prop := U.heap.size = sz ∧ va_K D vwCl tys U ∧ va_P D vwCl ws U.heap ∧ va_D (fun _ => True) ws
def gw_B (D : va_G) (tys : List (ClassId × FieldType)) (A : Nat → Prop) (ws : va_W) (t : State) : Prop := va_P D vwCl ws t.heap ∧ va_K D vwCl tys t ∧ va_D A ws
def gw_W (D : va_G) (tys : List (ClassId × FieldType)) (A : Nat → Prop) (ws : va_W) (s : State) (H : Heap) (locs : List Loc) : Prop := va_K D vwCl tys s ∧ va_P D vwCl ws H ∧ va_D A ws ∧ va_S A s.heap H locs ∧ ∀ q : Nat, s.heap.size ≤ q → A q
abbrev gw_Ci (l : Launch) (y : MethodName) (wd : List Cond) (rm : Room) (D : va_G) (tys : List (ClassId × FieldType)) (ws : va_W) (av : List Value) (r0 : Int32) (ws0 : va_W) : Prop :=
  ∀ sz : Nat, Met l y wd rm (va_Pc av (gw_P D tys ws sz)) (va_Qi (fun (r : Int32) (u : va_W) => r = r0 ∧ u = ws0) (gw_B D tys (va_A ws sz)) (va_A ws sz)) 0 0 (va_A ws sz)
abbrev gw_Cz (l : Launch) (y : MethodName) (wd : List Cond) (rm : Room) (D : va_G) (tys : List (ClassId × FieldType)) (ws : va_W) (av : List Value) (r0 : Int32) (ws0 : va_W) : Prop := gw_Ci l y wd rm D tys ws av r0 ws0
abbrev gw_Cv (l : Launch) (y : MethodName) (wd : List Cond) (rm : Room) (D : va_G) (tys : List (ClassId × FieldType)) (ws : va_W) (av : List Value) (ws0 : va_W) : Prop :=
  ∀ sz : Nat, Met l y wd rm (va_Pc av (gw_P D tys ws sz)) (va_Qv (fun (u : va_W) => u = ws0) (gw_B D tys (va_A ws sz)) (va_A ws sz)) 0 0 (va_A ws sz)
abbrev gw_Cq (l : Launch) (y : MethodName) (wd : List Cond) (rm : Room) (D : va_G) (tys : List (ClassId × FieldType)) (ws : va_W) (av : List Value) (r0 : Option Nat) (ws0 : va_W) : Prop :=
  ∀ sz : Nat, Met l y wd rm (va_Pc av (gw_P D tys ws sz)) (va_Qq (fun (r : Option Nat) (u : va_W) => r = r0 ∧ u = ws0) (gw_B D tys (va_A ws sz)) (va_A ws sz)) 0 0 (va_A ws sz)
theorem gw_blind {av : List Value} {D : va_G} {tys : List (ClassId × FieldType)} {ws : va_W} {sz : Nat} : FrameBlind (va_Pc av (gw_P D tys ws sz)) := fun a U g mk q => by
  obtain ⟨q0, q1, qK, qP, qD⟩ := q
  exact ⟨q0, q1, va_K.moved (u := U) (U := U.calling g mk a) (Vm.Alike.refl U.vm) qK, qP, qD⟩
theorem gw_free {D : va_G} {tys : List (ClassId × FieldType)} {A : Nat → Prop} {ws : va_W} {s : State} {H : Heap} {locs : List Loc} (hw : gw_W D tys A ws s H locs) : ∀ q, va_A ws H.size q → A q := by
  obtain ⟨-, -, hD, hS, hA⟩ := hw
  intro q h
  rcases h with ⟨k, e, h⟩ | h
  · exact hD.2 k (q, e) h
  · exact hA q (Nat.le_trans hS.1 h)
theorem gw_if {α : Type} {c : Prop} [Decidable c] {a : Option α} {r : α} (h : (if c then a else none) = some r) : c ∧ a = some r := by
  by_cases hc : c
  · rw [if_pos hc] at h; exact ⟨hc, h⟩
  · rw [if_neg hc] at h; cases h
def gw_oa (ad : Nat → Nat) (o : Option (Fin 8)) : Option Nat := o.map (fun x => ad (6 + x.val))
theorem gw_cat {ad : Nat → Nat} {o : Option (Fin 8)} : (va_rf (gw_oa ad o)).category = 1 := by cases o <;> rfl
section Enter
variable {l : Launch} {y : MethodName} {wd wd' : List Cond} {rm : Room} {D : va_G} {tys : List (ClassId × FieldType)} {ws ws0 : va_W} {av : List Value} {cc : ByteArray} {maxL sz : Nat}
set_option maxHeartbeats 1000000 in
theorem gw_meti {r0 : Int32} (hy : plainName y.cls = true) (hw : wd = Cond.code y cc maxL (some .int) :: wd') (hn : (lg_sl av).length ≤ maxL)
    (body : ∀ (p : Program) (e : Env) (s : State) (m : MethodId) (args : Array Value) (below : List Frame) (meth : Method) (c : Code) (A : Nat → Prop) (Q : State → Prop), CallFix p m c cc maxL s args wd y.cls → ∀ (H : Heap) (locs : List Loc), gw_W D tys A ws s H locs →
      (∀ (H : Heap) (locs : List Loc) (ls : Array Slot) (pc : Nat) (r : Int32) (u : va_W), r = r0 → u = ws0 → gw_W D tys A u s H locs → decode cc pc = .ok (.ireturn, 1) → W p l e rm s m args below meth c H locs 0 0 Q (F0 m pc ls [.int r])) →
      ∀ ls : Array Slot, lv_has ls maxL (lv_args 0 av) → W p l e rm s m args below meth c H locs 0 0 Q (F0 m 0 ls [])) :
    Met l y wd rm (va_Pc av (gw_P D tys ws sz)) (va_Qi (fun (r : Int32) (u : va_W) => r = r0 ∧ u = ws0) (gw_B D tys (va_A ws sz)) (va_A ws sz)) 0 0 (va_A ws sz) := by
  refine Met.ofW (cc := cc) (maxL := maxL) (ret := some .int) hy hw ?_
  intro p e s m args below meth c s₁ B hml hv
  obtain ⟨hargs, hsz, hK, hP, hD0⟩ := hv
  have hl := lv_entry av (n := maxL) hn
  subst hsz
  have hD := hD0.self (sz := s.heap.size)
  have hlk := B.notSynchronized
  rw [show entryFrame m args maxL = F0 m 0 ((lg_sl av ++ List.replicate (maxL - (lg_sl av).length) Slot.unset).toArray) [] by rw [hargs]; exact lg_entry_eq m av maxL]
  exact body p e s m args below meth c (va_A ws s.heap.size) _ ⟨B.exec, B.bytes, hml, findClass_of_methodNamed B.named, atoms_spec (ws := wd) B.pre⟩ s.heap [] ⟨hK, hP, hD, va_S.rf, fun q h => Or.inr h⟩
    (fun H locs ls pc r u hr hu hw hd => by
      subst hr; subst hu
      exact W.iret B.exec B.bytes B.returns (fun t ht hW => ⟨⟨r, u, rfl, ⟨rfl, rfl⟩, by rw [ht]; exact hw.2.1, va_K.moved hW.alike hw.1, hw.2.2.1⟩, hw.2.2.2.1.F ht⟩) hw.2.2.2.1.2.2 hd hlk) _ hl
set_option maxHeartbeats 1000000 in
theorem gw_metz {r0 : Int32} (hy : plainName y.cls = true) (hw : wd = Cond.code y cc maxL (some .boolean) :: wd') (hn : (lg_sl av).length ≤ maxL)
    (body : ∀ (p : Program) (e : Env) (s : State) (m : MethodId) (args : Array Value) (below : List Frame) (meth : Method) (c : Code) (A : Nat → Prop) (Q : State → Prop), CallFix p m c cc maxL s args wd y.cls → ∀ (H : Heap) (locs : List Loc), gw_W D tys A ws s H locs →
      (∀ (H : Heap) (locs : List Loc) (ls : Array Slot) (pc : Nat) (r : Int32) (u : va_W), r = r0 → u = ws0 → (r = 0 ∨ r = 1) → gw_W D tys A u s H locs → decode cc pc = .ok (.ireturn, 1) → W p l e rm s m args below meth c H locs 0 0 Q (F0 m pc ls [.int r])) →
      ∀ ls : Array Slot, lv_has ls maxL (lv_args 0 av) → W p l e rm s m args below meth c H locs 0 0 Q (F0 m 0 ls [])) :
    Met l y wd rm (va_Pc av (gw_P D tys ws sz)) (va_Qi (fun (r : Int32) (u : va_W) => r = r0 ∧ u = ws0) (gw_B D tys (va_A ws sz)) (va_A ws sz)) 0 0 (va_A ws sz) := by
  refine Met.ofW (cc := cc) (maxL := maxL) (ret := some .boolean) hy hw ?_
  intro p e s m args below meth c s₁ B hml hv
  obtain ⟨hargs, hsz, hK, hP, hD0⟩ := hv
  have hl := lv_entry av (n := maxL) hn
  subst hsz
  have hD := hD0.self (sz := s.heap.size)
  have hlk := B.notSynchronized
  rw [show entryFrame m args maxL = F0 m 0 ((lg_sl av ++ List.replicate (maxL - (lg_sl av).length) Slot.unset).toArray) [] by rw [hargs]; exact lg_entry_eq m av maxL]
  exact body p e s m args below meth c (va_A ws s.heap.size) _ ⟨B.exec, B.bytes, hml, findClass_of_methodNamed B.named, atoms_spec (ws := wd) B.pre⟩ s.heap [] ⟨hK, hP, hD, va_S.rf, fun q h => Or.inr h⟩
    (fun H locs ls pc r u hr hu h01 hw hd => by
      subst hr; subst hu
      have hnr : narrow .boolean (.int r) = .int r := by rcases h01 with rfl | rfl <;> rfl
      exact W.zret B.exec B.bytes B.returns hnr (fun t ht hW => ⟨⟨r, u, rfl, ⟨rfl, rfl⟩, by rw [ht]; exact hw.2.1, va_K.moved hW.alike hw.1, hw.2.2.1⟩, hw.2.2.2.1.F ht⟩) hw.2.2.2.1.2.2 hd hlk) _ hl
set_option maxHeartbeats 1000000 in
theorem gw_metv (hy : plainName y.cls = true) (hw : wd = Cond.code y cc maxL none :: wd') (hn : (lg_sl av).length ≤ maxL)
    (body : ∀ (p : Program) (e : Env) (s : State) (m : MethodId) (args : Array Value) (below : List Frame) (meth : Method) (c : Code) (A : Nat → Prop) (Q : State → Prop), CallFix p m c cc maxL s args wd y.cls → ∀ (H : Heap) (locs : List Loc), gw_W D tys A ws s H locs →
      (∀ (H : Heap) (locs : List Loc) (ls : Array Slot) (pc : Nat) (u : va_W), u = ws0 → gw_W D tys A u s H locs → decode cc pc = .ok (.return_, 1) → W p l e rm s m args below meth c H locs 0 0 Q (F0 m pc ls [])) →
      ∀ ls : Array Slot, lv_has ls maxL (lv_args 0 av) → W p l e rm s m args below meth c H locs 0 0 Q (F0 m 0 ls [])) :
    Met l y wd rm (va_Pc av (gw_P D tys ws sz)) (va_Qv (fun (u : va_W) => u = ws0) (gw_B D tys (va_A ws sz)) (va_A ws sz)) 0 0 (va_A ws sz) := by
  refine Met.ofW (cc := cc) (maxL := maxL) (ret := none) hy hw ?_
  intro p e s m args below meth c s₁ B hml hv
  obtain ⟨hargs, hsz, hK, hP, hD0⟩ := hv
  have hl := lv_entry av (n := maxL) hn
  subst hsz
  have hD := hD0.self (sz := s.heap.size)
  have hlk := B.notSynchronized
  rw [show entryFrame m args maxL = F0 m 0 ((lg_sl av ++ List.replicate (maxL - (lg_sl av).length) Slot.unset).toArray) [] by rw [hargs]; exact lg_entry_eq m av maxL]
  exact body p e s m args below meth c (va_A ws s.heap.size) _ ⟨B.exec, B.bytes, hml, findClass_of_methodNamed B.named, atoms_spec (ws := wd) B.pre⟩ s.heap [] ⟨hK, hP, hD, va_S.rf, fun q h => Or.inr h⟩
    (fun H locs ls pc u hu hw hd => by
      subst hu
      exact W.vret B.exec B.bytes B.returns (fun t ht hW => ⟨⟨u, rfl, rfl, by rw [ht]; exact hw.2.1, va_K.moved hW.alike hw.1, hw.2.2.1⟩, hw.2.2.2.1.F ht⟩) hw.2.2.2.1.2.2 hd hlk) _ hl
set_option maxHeartbeats 1000000 in
theorem gw_metq {C : String} {r0 : Option Nat} (hy : plainName y.cls = true) (hw : wd = Cond.code y cc maxL (some (.object C)) :: wd') (hn : (lg_sl av).length ≤ maxL)
    (body : ∀ (p : Program) (e : Env) (s : State) (m : MethodId) (args : Array Value) (below : List Frame) (meth : Method) (c : Code) (A : Nat → Prop) (Q : State → Prop), CallFix p m c cc maxL s args wd y.cls → ∀ (H : Heap) (locs : List Loc), gw_W D tys A ws s H locs →
      (∀ (H : Heap) (locs : List Loc) (ls : Array Slot) (pc : Nat) (r : Option Nat) (u : va_W), r = r0 → u = ws0 → gw_W D tys A u s H locs → decode cc pc = .ok (.areturn, 1) → W p l e rm s m args below meth c H locs 0 0 Q (F0 m pc ls [va_rf r])) →
      ∀ ls : Array Slot, lv_has ls maxL (lv_args 0 av) → W p l e rm s m args below meth c H locs 0 0 Q (F0 m 0 ls [])) :
    Met l y wd rm (va_Pc av (gw_P D tys ws sz)) (va_Qq (fun (r : Option Nat) (u : va_W) => r = r0 ∧ u = ws0) (gw_B D tys (va_A ws sz)) (va_A ws sz)) 0 0 (va_A ws sz) := by
  refine Met.ofW (cc := cc) (maxL := maxL) (ret := some (.object C)) hy hw ?_
  intro p e s m args below meth c s₁ B hml hv
  obtain ⟨hargs, hsz, hK, hP, hD0⟩ := hv
  have hl := lv_entry av (n := maxL) hn
  subst hsz
  have hD := hD0.self (sz := s.heap.size)
  have hlk := B.notSynchronized
  rw [show entryFrame m args maxL = F0 m 0 ((lg_sl av ++ List.replicate (maxL - (lg_sl av).length) Slot.unset).toArray) [] by rw [hargs]; exact lg_entry_eq m av maxL]
  exact body p e s m args below meth c (va_A ws s.heap.size) _ ⟨B.exec, B.bytes, hml, findClass_of_methodNamed B.named, atoms_spec (ws := wd) B.pre⟩ s.heap [] ⟨hK, hP, hD, va_S.rf, fun q h => Or.inr h⟩
    (fun H locs ls pc r u hr hu hw hd => by
      subst hr; subst hu
      exact W.aret B.exec B.bytes B.returns (Or.inl ⟨C, rfl⟩) (by cases r with | none => exact Or.inl rfl | some a => exact Or.inr ⟨a, rfl⟩) (fun t ht hW => ⟨⟨r, u, rfl, ⟨rfl, rfl⟩, by rw [ht]; exact hw.2.1, va_K.moved hW.alike hw.1, hw.2.2.1⟩, hw.2.2.2.1.F ht⟩) hw.2.2.2.1.2.2 hd hlk) _ hl
end Enter
section Rows
variable {p : Program} {l : Launch} {e : Env} {R : Room} {s : State} {m : MethodId} {args : Array Value} {below : List Frame} {meth : Method} {c : Code} {H : Heap} {locs : List Loc} {cells slots : Nat} {Q : State → Prop}
variable {cc : ByteArray} {nL : Nat} {Ts : List Cond} {own : String} {D : va_G} {tys : List (ClassId × FieldType)} {A : Nat → Prop} {ws ws0 : va_W} {pc : Nat} {ls : Array Slot} {rest : List Value}
theorem gw_aload_n {ad : Nat → Nat} {o : Option (Fin 8)} (hexec : p.tables.exec = Jvm.exec) (hb : c.code = cc) {k : Fin 4} {i : Nat} (hdg : decode cc pc = .ok (.aload_n k, 1)) (hi : (k : Nat) = i) (hl : ls[i]? = some (.val (va_rf (gw_oa ad o))))
    (kk : W p l e R s m args below meth c H locs cells slots Q (F0 m (pc + 1) ls (va_rf (gw_oa ad o) :: rest))) : W p l e R s m args below meth c H locs cells slots Q (F0 m pc ls rest) := by
  cases o with
  | none => exact lv_aload_nN hexec hb hdg hi hl kk
  | some x => exact lv_aload_n hexec hb hdg hi hl kk
theorem gw_aload {ad : Nat → Nat} {o : Option (Fin 8)} (hexec : p.tables.exec = Jvm.exec) (hb : c.code = cc) {i : Nat} (hdg : decode cc pc = .ok (.aload i, 2)) (hl : ls[i]? = some (.val (va_rf (gw_oa ad o))))
    (kk : W p l e R s m args below meth c H locs cells slots Q (F0 m (pc + 2) ls (va_rf (gw_oa ad o) :: rest))) : W p l e R s m args below meth c H locs cells slots Q (F0 m pc ls rest) := by
  cases o with
  | none => exact lv_aloadN hexec hb hdg hl kk
  | some x => exact lv_aload hexec hb hdg hl kk
theorem gw_astore_n {ad : Nat → Nat} {o : Option (Fin 8)} {lv lv' : List (Nat × Value)} (hexec : p.tables.exec = Jvm.exec) (hb : c.code = cc) {k : Fin 4} {i : Nat} (hdg : decode cc pc = .ok (.astore_n k, 1)) (hi : (k : Nat) = i) (h : lv_has ls nL lv) (hn : i < nL) (hl : (i, va_rf (gw_oa ad o)) :: lv.filter (fun q => !(q.1 == i) && !(q.1 + 1 == i && q.2.category == 2)) = lv')
    (kk : ∀ ls' : Array Slot, lv_has ls' nL lv' → W p l e R s m args below meth c H locs cells slots Q (F0 m (pc + 1) ls' rest)) : W p l e R s m args below meth c H locs cells slots Q (F0 m pc ls (va_rf (gw_oa ad o) :: rest)) := by
  cases o with
  | none => exact lv_astore_nN hexec hb hdg hi h hn hl kk
  | some x => exact lv_astore_n hexec hb hdg hi h hn hl kk
theorem gw_astore {ad : Nat → Nat} {o : Option (Fin 8)} {lv lv' : List (Nat × Value)} (hexec : p.tables.exec = Jvm.exec) (hb : c.code = cc) {i : Nat} (hdg : decode cc pc = .ok (.astore i, 2)) (h : lv_has ls nL lv) (hn : i < nL) (hl : (i, va_rf (gw_oa ad o)) :: lv.filter (fun q => !(q.1 == i) && !(q.1 + 1 == i && q.2.category == 2)) = lv')
    (kk : ∀ ls' : Array Slot, lv_has ls' nL lv' → W p l e R s m args below meth c H locs cells slots Q (F0 m (pc + 2) ls' rest)) : W p l e R s m args below meth c H locs cells slots Q (F0 m pc ls (va_rf (gw_oa ad o) :: rest)) := by
  cases o with
  | none => exact lv_astoreN hexec hb hdg h hn hl kk
  | some x => exact lv_astore hexec hb hdg h hn hl kk
theorem gw_acmp_ne {ad : Nat → Nat} {ox oy : Option (Fin 8)} {off : Int} {tgt : Nat} (hinj : ∀ x y : Fin 8, ad (6 + x.val) = ad (6 + y.val) → x = y) (hexec : p.tables.exec = Jvm.exec) (hb : c.code = cc) (hdg : decode cc pc = .ok (.if_acmp .ne off, 3)) (ht : (pc : Int) + off = (tgt : Int))
    (kt : ¬ ox = oy → W p l e R s m args below meth c H locs cells slots Q (F0 m tgt ls rest)) (kf : ox = oy → W p l e R s m args below meth c H locs cells slots Q (F0 m (pc + 3) ls rest)) : W p l e R s m args below meth c H locs cells slots Q (F0 m pc ls (va_rf (gw_oa ad oy) :: va_rf (gw_oa ad ox) :: rest)) := by
  refine lv_acmp_ne hexec hb hdg ht (fun h => kt (fun q => h (by rw [q]))) (fun h => kf ?_)
  cases ox with
  | none => cases oy with
    | none => rfl
    | some y => cases h
  | some x => cases oy with
    | none => cases h
    | some y => rw [hinj x y (Option.some.inj h)]
theorem gw_acmp_eq {ad : Nat → Nat} {ox oy : Option (Fin 8)} {off : Int} {tgt : Nat} (hinj : ∀ x y : Fin 8, ad (6 + x.val) = ad (6 + y.val) → x = y) (hexec : p.tables.exec = Jvm.exec) (hb : c.code = cc) (hdg : decode cc pc = .ok (.if_acmp .eq off, 3)) (ht : (pc : Int) + off = (tgt : Int))
    (kt : ox = oy → W p l e R s m args below meth c H locs cells slots Q (F0 m tgt ls rest)) (kf : ¬ ox = oy → W p l e R s m args below meth c H locs cells slots Q (F0 m (pc + 3) ls rest)) : W p l e R s m args below meth c H locs cells slots Q (F0 m pc ls (va_rf (gw_oa ad oy) :: va_rf (gw_oa ad ox) :: rest)) := by
  refine lv_acmp_eq hexec hb hdg ht (fun h => kt ?_) (fun h => kf (fun q => h (by rw [q])))
  cases ox with
  | none => cases oy with
    | none => rfl
    | some y => cases h
  | some x => cases oy with
    | none => cases h
    | some y => rw [hinj x y (Option.some.inj h)]
theorem gw_get (S : CallFix p m c cc nL s args Ts own) (hw : gw_W D tys A ws s H locs) {q0 a ci : Nat} {fs : List Value} (he : ws[q0]? = some (a, .inr (ci, fs))) {C : String} {T : u_T} {N : Nat} (hc : vwCl[ci]? = some (C, T, N)) {k : Nat} (hk : k < N) (hin : ∀ w ∈ u_ws C T N, w ∈ Ts) {index : Nat} (hlink : Cond.fieldLink own index (T k).1 (T k).2.1 (T k).2.2.1 ∈ Ts) {v : Value} (hv : fs[k]? = some v) (hdg : decode cc pc = .ok (.getfield index, 3))
    (kk : W p l e R s m args below meth c H locs cells slots Q (F0 m (pc + 3) ls (v :: rest))) : W p l e R s m args below meth c H locs cells slots Q (F0 m pc ls (.ref a :: rest)) :=
  va_get S.1 S.2.1 S.2.2.2.2 hin S.2.2.2.1 hw.1 hw.2.1 q0 he hc k hk (S.2.2.2.2 _ hlink) (fun _ h => h) hv hdg kk
theorem gw_put (S : CallFix p m c cc nL s args Ts own) (hw : gw_W D tys A ws s H locs) {q0 a ci : Nat} {fs : List Value} (he : ws[q0]? = some (a, .inr (ci, fs))) {C : String} {T : u_T} {N : Nat} (hc : vwCl[ci]? = some (C, T, N)) {k : Nat} (hk : k < N) (hin : ∀ w ∈ u_ws C T N, w ∈ Ts) {index : Nat} (hlink : Cond.fieldLink own index (T k).1 (T k).2.1 (T k).2.2.1 ∈ Ts) {ty0 : Nat → FieldType} (hty : ∀ k, k < N → parseFieldDescriptor (T k).2.2.1 = some (ty0 k)) (hnm : ∀ a, a < N → ∀ b, b < N → a ≠ b → (T a).2.1 ≠ (T b).2.1) (hfin : (T k).2.2.2 = false) {ty : FieldType} {v : Value} (hd : parseFieldDescriptor (T k).2.2.1 = some ty) (hn : narrow ty v = v) (hfit : fits ty v = true) (hl : k < fs.length)
    (hset : ws.set q0 (a, .inr (ci, fs.set k v)) = ws0) (hdg : decode cc pc = .ok (.putfield index, 3))
    (kk : ∀ (H1 : Heap) (locs1 : List Loc), gw_W D tys A ws0 s H1 locs1 → W p l e R s m args below meth c H1 locs1 cells slots Q (F0 m (pc + 3) ls rest)) : W p l e R s m args below meth c H locs cells slots Q (F0 m pc ls (v :: .ref a :: rest)) := by
  obtain ⟨hK, hP, hD, hS, hA⟩ := hw
  refine va_put S.1 S.2.1 S.2.2.2.2 hin ty0 hty hnm S.2.2.2.1 hK hP hD hS q0 he hc k hk (S.2.2.2.2 _ hlink) (fun _ h => h) hfin hd hn hfit hl hdg (fun H1 locs1 hP1 hD1 hS1 => ?_)
  rw [hset] at hP1 hD1
  exact kk H1 locs1 ⟨hK, hP1, hD1, hS1, hA⟩
theorem gw_iald (S : CallFix p m c cc nL s args Ts own) (hw : gw_W D tys A ws s H locs) {q0 t0 a n : Nat} {cA : ClassId} {f : Nat → Int32} (he : ws[q0]? = some (a, .inl (cA, n, .inl f)) ∧ tys[t0]? = some (cA, .int)) {i : Int32} (hin : ¬ (i < 0 ∨ n ≤ i.toNatClampNeg)) (hdg : decode cc pc = .ok (.iaload, 1))
    (kk : W p l e R s m args below meth c H locs cells slots Q (F0 m (pc + 1) ls (.int (f i.toNatClampNeg) :: rest))) : W p l e R s m args below meth c H locs cells slots Q (F0 m pc ls (.int i :: .ref a :: rest)) :=
  va_iald S.1 S.2.1 hw.1 hw.2.1 q0 t0 he.1 he.2 hin hdg kk
theorem gw_zald (S : CallFix p m c cc nL s args Ts own) (hw : gw_W D tys A ws s H locs) {q0 t0 a n : Nat} {cA : ClassId} {f : Nat → Int32} (he : ws[q0]? = some (a, .inl (cA, n, .inl f)) ∧ tys[t0]? = some (cA, .boolean)) {i : Int32} (hin : ¬ (i < 0 ∨ n ≤ i.toNatClampNeg)) (hdg : decode cc pc = .ok (.baload, 1))
    (kk : W p l e R s m args below meth c H locs cells slots Q (F0 m (pc + 1) ls (.int (f i.toNatClampNeg) :: rest))) : W p l e R s m args below meth c H locs cells slots Q (F0 m pc ls (.int i :: .ref a :: rest)) :=
  va_zald S.1 S.2.1 hw.1 hw.2.1 q0 t0 he.1 he.2 hin hdg kk
theorem gw_aldq (S : CallFix p m c cc nL s args Ts own) (hw : gw_W D tys A ws s H locs) {q0 t0 a n : Nat} {cA : ClassId} {C : String} {f : Nat → Option Nat} (he : ws[q0]? = some (a, .inl (cA, n, .inr (.inr (.inr (.inr f))))) ∧ tys[t0]? = some (cA, .object C)) {i : Int32} (hin : ¬ (i < 0 ∨ n ≤ i.toNatClampNeg)) (hdg : decode cc pc = .ok (.aaload, 1))
    (kk : W p l e R s m args below meth c H locs cells slots Q (F0 m (pc + 1) ls (va_rf (f i.toNatClampNeg) :: rest))) : W p l e R s m args below meth c H locs cells slots Q (F0 m pc ls (.int i :: .ref a :: rest)) :=
  va_aldq S.1 S.2.1 hw.1 hw.2.1 q0 t0 he.1 he.2 hin hdg kk
theorem gw_iast (S : CallFix p m c cc nL s args Ts own) (hw : gw_W D tys A ws s H locs) {q0 t0 a n : Nat} {cA : ClassId} {f : Nat → Int32} (he : ws[q0]? = some (a, .inl (cA, n, .inl f)) ∧ tys[t0]? = some (cA, .int)) {i x : Int32} (hin : ¬ (i < 0 ∨ n ≤ i.toNatClampNeg)) (hset : ws.set q0 (a, .inl (cA, n, .inl (upd f i.toNatClampNeg x))) = ws0) (hdg : decode cc pc = .ok (.iastore, 1))
    (kk : ∀ (H1 : Heap) (locs1 : List Loc), gw_W D tys A ws0 s H1 locs1 → W p l e R s m args below meth c H1 locs1 cells slots Q (F0 m (pc + 1) ls rest)) : W p l e R s m args below meth c H locs cells slots Q (F0 m pc ls (.int x :: .int i :: .ref a :: rest)) := by
  obtain ⟨hK, hP, hD, hS, hA⟩ := hw
  refine va_iast S.1 S.2.1 hK hP hD hS q0 t0 he.1 he.2 hin hdg (fun H1 locs1 hP1 hD1 hS1 => ?_)
  rw [hset] at hP1 hD1
  exact kk H1 locs1 ⟨hK, hP1, hD1, hS1, hA⟩
theorem gw_zast (S : CallFix p m c cc nL s args Ts own) (hw : gw_W D tys A ws s H locs) {q0 t0 a n : Nat} {cA : ClassId} {f : Nat → Int32} (he : ws[q0]? = some (a, .inl (cA, n, .inl f)) ∧ tys[t0]? = some (cA, .boolean)) {i x : Int32} (hin : ¬ (i < 0 ∨ n ≤ i.toNatClampNeg)) (hnar : vp_nar .boolean x = x) (hset : ws.set q0 (a, .inl (cA, n, .inl (upd f i.toNatClampNeg x))) = ws0) (hdg : decode cc pc = .ok (.bastore, 1))
    (kk : ∀ (H1 : Heap) (locs1 : List Loc), gw_W D tys A ws0 s H1 locs1 → W p l e R s m args below meth c H1 locs1 cells slots Q (F0 m (pc + 1) ls rest)) : W p l e R s m args below meth c H locs cells slots Q (F0 m pc ls (.int x :: .int i :: .ref a :: rest)) := by
  obtain ⟨hK, hP, hD, hS, hA⟩ := hw
  refine va_zast S.1 S.2.1 hK hP hD hS q0 t0 he.1 he.2 hin hdg (fun H1 locs1 hP1 hD1 hS1 => ?_)
  rw [hnar, hset] at hP1 hD1
  exact kk H1 locs1 ⟨hK, hP1, hD1, hS1, hA⟩
theorem gw_astq (S : CallFix p m c cc nL s args Ts own) (hw : gw_W D tys A ws s H locs) {q0 t0 a n qk ci v : Nat} {cA : ClassId} {r : vw_C} {vs : List Value} {f : Nat → Option Nat} (he : ws[q0]? = some (a, .inl (cA, n, .inr (.inr (.inr (.inr f))))) ∧ tys[t0]? = some (cA, .object r.1)) (hv : ws[qk]? = some (v, .inr (ci, vs))) (hc : vwCl[ci]? = some r) {i : Int32} (hin : ¬ (i < 0 ∨ n ≤ i.toNatClampNeg)) (hset : ws.set q0 (a, .inl (cA, n, .inr (.inr (.inr (.inr (va_up f i.toNatClampNeg (some v))))))) = ws0) (hdg : decode cc pc = .ok (.aastore, 1))
    (kk : ∀ (H1 : Heap) (locs1 : List Loc), gw_W D tys A ws0 s H1 locs1 → W p l e R s m args below meth c H1 locs1 cells slots Q (F0 m (pc + 1) ls rest)) : W p l e R s m args below meth c H locs cells slots Q (F0 m pc ls (.ref v :: .int i :: .ref a :: rest)) := by
  obtain ⟨hK, hP, hD, hS, hA⟩ := hw
  refine va_astq S.1 S.2.1 hK hP hD hS q0 t0 qk ci he.1 he.2 hv hc hin hdg (fun H1 locs1 hP1 hD1 hS1 => ?_)
  rw [hset] at hP1 hD1
  exact kk H1 locs1 ⟨hK, hP1, hD1, hS1, hA⟩
theorem gw_calli {y : MethodName} {wd : List Cond} {rm : Room} {C : String} {index maxL n b q0 ci N : Nat} {bytes : ByteArray} {ret : Option FieldType} {As : List Value} {r0 : Int32} {fs : List Value} {T : u_T} {st0 : List Value} (S : CallFix p m c cc nL s args Ts own) (hw : gw_W D tys A ws s H locs) (hM : gw_Ci l y wd rm D tys ws (.ref b :: As) r0 ws0) (cw : CallW R s args own C index y bytes maxL ret wd rm 0 0 n) (he : ws[q0]? = some (b, .inr (ci, fs))) (hc : vwCl[ci]? = some (C, T, N)) (hn : As.length = n) (hsize : ls.size = nL) (hst : st0 = As.reverse ++ .ref b :: rest) (hrest : (rest.map fun v => v.category).sum ≤ 8) (hdg : decode cc pc = .ok (.invokevirtual index, 3))
    (kk : ∀ (H1 : Heap) (locs1 : List Loc), gw_W D tys A ws0 s H1 locs1 → W p l e R s m args below meth c H1 locs1 0 0 Q (F0 m (pc + 3) ls (.int r0 :: rest))) : W p l e R s m args below meth c H locs 0 0 Q (F0 m pc ls st0) := by
  have hF := gw_free hw
  obtain ⟨hK, hP, hD, hS, hA⟩ := hw
  refine va_calli (va_runV S (hM H.size) cw ⟨gw_blind, va_recv hK hP hc he, fun U hU hW => ⟨rfl, by rw [hU], va_K.moved hW.alike hK, by rw [hU]; exact hP, hD.weaken (fun _ _ _ _ => trivial)⟩⟩ rfl hn hsize hst (lv_room hrest) hdg ⟨Nat.zero_le _, Nat.zero_le _⟩) hS (fun q _ h => hF q h) hF (fun r u t H1 locs1 ht hvm hp hB hz hk hS1 => ?_)
  obtain ⟨rfl, rfl⟩ := hp
  exact kk H1 locs1 ⟨hK, by rw [← ht]; exact hB.1, hB.2.2.weaken (fun _ q _ h => hF q.1 h), hS1, hA⟩
theorem gw_callv {y : MethodName} {wd : List Cond} {rm : Room} {C : String} {index maxL n b q0 ci N : Nat} {bytes : ByteArray} {ret : Option FieldType} {As : List Value} {fs : List Value} {T : u_T} {st0 : List Value} (S : CallFix p m c cc nL s args Ts own) (hw : gw_W D tys A ws s H locs) (hM : gw_Cv l y wd rm D tys ws (.ref b :: As) ws0) (cw : CallW R s args own C index y bytes maxL ret wd rm 0 0 n) (he : ws[q0]? = some (b, .inr (ci, fs))) (hc : vwCl[ci]? = some (C, T, N)) (hn : As.length = n) (hsize : ls.size = nL) (hst : st0 = As.reverse ++ .ref b :: rest) (hrest : (rest.map fun v => v.category).sum ≤ 8) (hdg : decode cc pc = .ok (.invokevirtual index, 3))
    (kk : ∀ (H1 : Heap) (locs1 : List Loc), gw_W D tys A ws0 s H1 locs1 → W p l e R s m args below meth c H1 locs1 0 0 Q (F0 m (pc + 3) ls rest)) : W p l e R s m args below meth c H locs 0 0 Q (F0 m pc ls st0) := by
  have hF := gw_free hw
  obtain ⟨hK, hP, hD, hS, hA⟩ := hw
  refine va_callv (va_runV S (hM H.size) cw ⟨gw_blind, va_recv hK hP hc he, fun U hU hW => ⟨rfl, by rw [hU], va_K.moved hW.alike hK, by rw [hU]; exact hP, hD.weaken (fun _ _ _ _ => trivial)⟩⟩ rfl hn hsize hst (lv_room hrest) hdg ⟨Nat.zero_le _, Nat.zero_le _⟩) hS (fun q _ h => hF q h) hF (fun u t H1 locs1 ht hvm hp hB hz hk hS1 => ?_)
  obtain rfl := hp
  exact kk H1 locs1 ⟨hK, by rw [← ht]; exact hB.1, hB.2.2.weaken (fun _ q _ h => hF q.1 h), hS1, hA⟩
theorem gw_callq {y : MethodName} {wd : List Cond} {rm : Room} {C : String} {index maxL n b q0 ci N : Nat} {bytes : ByteArray} {ret : Option FieldType} {As : List Value} {r0 : Option Nat} {fs : List Value} {T : u_T} {st0 : List Value} (S : CallFix p m c cc nL s args Ts own) (hw : gw_W D tys A ws s H locs) (hM : gw_Cq l y wd rm D tys ws (.ref b :: As) r0 ws0) (cw : CallW R s args own C index y bytes maxL ret wd rm 0 0 n) (he : ws[q0]? = some (b, .inr (ci, fs))) (hc : vwCl[ci]? = some (C, T, N)) (hn : As.length = n) (hsize : ls.size = nL) (hst : st0 = As.reverse ++ .ref b :: rest) (hrest : (rest.map fun v => v.category).sum ≤ 8) (hdg : decode cc pc = .ok (.invokevirtual index, 3))
    (kk : ∀ (H1 : Heap) (locs1 : List Loc), gw_W D tys A ws0 s H1 locs1 → W p l e R s m args below meth c H1 locs1 0 0 Q (F0 m (pc + 3) ls (va_rf r0 :: rest))) : W p l e R s m args below meth c H locs 0 0 Q (F0 m pc ls st0) := by
  have hF := gw_free hw
  obtain ⟨hK, hP, hD, hS, hA⟩ := hw
  refine va_callq (va_runV S (hM H.size) cw ⟨gw_blind, va_recv hK hP hc he, fun U hU hW => ⟨rfl, by rw [hU], va_K.moved hW.alike hK, by rw [hU]; exact hP, hD.weaken (fun _ _ _ _ => trivial)⟩⟩ rfl hn hsize hst (lv_room hrest) hdg ⟨Nat.zero_le _, Nat.zero_le _⟩) hS (fun q _ h => hF q h) hF (fun r u t H1 locs1 ht hvm hp hB hz hk hS1 => ?_)
  obtain ⟨rfl, rfl⟩ := hp
  exact kk H1 locs1 ⟨hK, by rw [← ht]; exact hB.1, hB.2.2.weaken (fun _ q _ h => hF q.1 h), hS1, hA⟩
end Rows
theorem gw_toInt {x : Int32} {k : Int32} (h : ¬ x = k) : x.toInt ≠ k.toInt := fun q => h (Int32.toInt_inj.mp q)
theorem gw_out6 {x : Int32} (h0 : ¬ x = 0) (h1 : ¬ x = 1) (h2 : ¬ x = 2) (h3 : ¬ x = 3) (h4 : ¬ x = 4) (h5 : ¬ x = 5) : x.toInt < 0 ∨ 5 < x.toInt := by
  have a0 : x.toInt ≠ 0 := gw_toInt h0
  have a1 : x.toInt ≠ 1 := gw_toInt h1
  have a2 : x.toInt ≠ 2 := gw_toInt h2
  have a3 : x.toInt ≠ 3 := gw_toInt h3
  have a4 : x.toInt ≠ 4 := gw_toInt h4
  have a5 : x.toInt ≠ 5 := gw_toInt h5
  omega
end
section
/-! PART 02: what a state IS. Cells have NUMBERS; a function ad lays them at addresses; nothing is made after the constructors. -/
/-- a number below 8, of any number -/
def fin8 (k : Nat) : Fin 8 := ⟨k % 8, Nat.mod_lt k (by decide)⟩
theorem fin8_val (x : Fin 8) : fin8 x.val = x := Fin.ext (Nat.mod_eq_of_lt x.isLt)
theorem fin8_of {k : Nat} (h : k < 8) : (fin8 k).val = k := Nat.mod_eq_of_lt h
/-- the class's memory: (kind 0 Task, 1 Jobs, 2 segments, 3 arrivals, 4 noted; task; place), (0 TaskSet, 1 Analysis, 2 Kernel; place), ranked, running, paused -/
abbrev MX : Type := (Nat → Fin 8 → Nat → Int32) × (Nat → Nat → Int32) × (Nat → Fin 8) × Option (Fin 8) × Option (Fin 8)
def sF (M : MX) (d : Nat) (x : Fin 8) (k : Nat) (v : Int32) : MX := (fun a b c => if a = d ∧ b = x ∧ c = k then v else M.1 a b c, M.2)
def sG (M : MX) (d k : Nat) (v : Int32) : MX := (M.1, fun a c => if a = d ∧ c = k then v else M.2.1 a c, M.2.2)
def sR (M : MX) (k : Nat) (x : Fin 8) : MX := (M.1, M.2.1, fun j => if j = k then x else M.2.2.1 j, M.2.2.2)
def sU (M : MX) (o : Option (Fin 8)) : MX := (M.1, M.2.1, M.2.2.1, o, M.2.2.2.2)
def sP (M : MX) (o : Option (Fin 8)) : MX := (M.1, M.2.1, M.2.2.1, M.2.2.2.1, o)
/-- the reference's memory: (array; place), (field) -/
abbrev MY : Type := (Nat → Nat → Int32) × (Nat → Int32)
def sA (M : MY) (d k : Nat) (v : Int32) : MY := (fun a c => if a = d ∧ c = k then v else M.1 a c, M.2)
def sV (M : MY) (k : Nat) (v : Int32) : MY := (M.1, fun c => if c = k then v else M.2 c)
/-- cells by their numbers -/
def wl (ad : Nat → Nat) (N : Nat) (C : Nat → va_E) : va_W := (List.range N).map (fun c => (ad c, C c))
theorem wl_at {ad : Nat → Nat} {N : Nat} {C : Nat → va_E} {c : Nat} (h : c < N) : (wl ad N C)[c]? = some (ad c, C c) := by
  unfold wl
  rw [List.getElem?_map, List.getElem?_range h]
  rfl
theorem wl_in {ad : Nat → Nat} {N : Nat} {C : Nat → va_E} {k : Nat} {q : Nat × va_E} (h : (wl ad N C)[k]? = some q) : k < N ∧ q = (ad k, C k) := by
  have hk : k < N := by
    have := (List.getElem?_eq_some_iff.mp h).1
    simpa [wl] using this
  rw [wl_at hk] at h
  exact ⟨hk, (Option.some.inj h).symm⟩
theorem wl_set {ad : Nat → Nat} {N : Nat} {C C' : Nat → va_E} {c : Nat} {e : va_E} (he : C' c = e) (ho : ∀ j, j < N → j ≠ c → C' j = C j) : (wl ad N C).set c (ad c, e) = wl ad N C' := by
  refine List.ext_getElem? (fun k => ?_)
  by_cases hk : k < N
  · by_cases hc : k = c
    · subst hc
      rw [List.getElem?_set_self (by simpa [wl] using hk), wl_at hk, he]
    · rw [List.getElem?_set_ne (fun q => hc q.symm), wl_at hk, wl_at hk, ho k hk hc]
  · rw [List.getElem?_eq_none (by simpa [wl] using (Nat.not_lt.mp hk)), List.getElem?_eq_none (by simpa [wl] using (Nat.not_lt.mp hk))]
def fO (ad : Nat → Nat) (M : MX) : List Value := [.ref (ad 1), .ref (ad 4), .ref (ad 5)]
def fS (ad : Nat → Nat) (M : MX) : List Value := [.ref (ad 2), .ref (ad 3), .int (M.2.1 0 2)]
def fA (ad : Nat → Nat) (M : MX) : List Value := [.ref (ad 1), .int (M.2.1 1 1), .int (M.2.1 1 2)]
def fK (ad : Nat → Nat) (M : MX) : List Value := [.ref (ad 1), .int (M.2.1 2 1), .int (M.2.1 2 2), .int (M.2.1 2 3), va_rf (gw_oa ad M.2.2.2.1), va_rf (gw_oa ad M.2.2.2.2)]
def fT (ad : Nat → Nat) (M : MX) (x : Fin 8) : List Value := [.int (M.1 0 x 0), .ref (ad (14 + x.val)), .ref (ad (22 + x.val)), .int (M.1 0 x 3), .int (M.1 0 x 4), .int (M.1 0 x 5), .int (M.1 0 x 6), .int (M.1 0 x 7), .int (M.1 0 x 8), .int (M.1 0 x 9), .int (M.1 0 x 10), .int (M.1 0 x 11), .int (M.1 0 x 12)]
def fJ (ad : Nat → Nat) (M : MX) (x : Fin 8) : List Value := [.ref (ad (30 + x.val)), .ref (ad (38 + x.val)), .int (M.1 1 x 2), .int (M.1 1 x 3), .int (M.1 1 x 4), .int (M.1 1 x 5), .int (M.1 1 x 6), .int (M.1 1 x 7)]
def cX (cI cT : ClassId) (ad : Nat → Nat) (M : MX) (c : Nat) : va_E :=
  if c = 0 then .inr (5, fO ad M)
  else if c = 1 then .inr (4, fS ad M)
  else if c = 2 then .inl (cT, 8, .inr (.inr (.inr (.inr (fun k => some (ad (6 + (fin8 k).val)))))))
  else if c = 3 then .inl (cT, 8, .inr (.inr (.inr (.inr (fun k => some (ad (6 + (M.2.2.1 k).val)))))))
  else if c = 4 then .inr (0, fA ad M)
  else if c = 5 then .inr (2, fK ad M)
  else if c < 14 then .inr (3, fT ad M (fin8 (c - 6)))
  else if c < 22 then .inr (1, fJ ad M (fin8 (c - 14)))
  else if c < 30 then .inl (cI, 8, .inl (M.1 2 (fin8 (c - 22))))
  else if c < 38 then .inl (cI, 9, .inl (M.1 3 (fin8 (c - 30))))
  else .inl (cI, 200, .inl (M.1 4 (fin8 (c - 38))))
def wX (cI cT : ClassId) (ad : Nat → Nat) (M : MX) : va_W := wl ad 46 (cX cI cT ad M)
abbrev tyX (cI cT : ClassId) : List (ClassId × FieldType) := [(cI, .int), (cT, .object "SegmentKernel$Task")]
section AtX
variable {cI cT : ClassId} {ad : Nat → Nat} {M : MX}
theorem xa_O : (wX cI cT ad M)[0]? = some (ad 0, .inr (5, fO ad M)) := wl_at (by decide)
theorem xa_S : (wX cI cT ad M)[1]? = some (ad 1, .inr (4, fS ad M)) := wl_at (by decide)
theorem xa_A : (wX cI cT ad M)[4]? = some (ad 4, .inr (0, fA ad M)) := wl_at (by decide)
theorem xa_K : (wX cI cT ad M)[5]? = some (ad 5, .inr (2, fK ad M)) := wl_at (by decide)
theorem xa_by : (wX cI cT ad M)[2]? = some (ad 2, .inl (cT, 8, .inr (.inr (.inr (.inr (fun k => some (ad (6 + (fin8 k).val)))))))) := wl_at (by decide)
theorem xa_rk : (wX cI cT ad M)[3]? = some (ad 3, .inl (cT, 8, .inr (.inr (.inr (.inr (fun k => some (ad (6 + (M.2.2.1 k).val)))))))) := wl_at (by decide)
theorem xc_T (x : Fin 8) : cX cI cT ad M (6 + x.val) = .inr (3, fT ad M x) := by
  have h := x.isLt
  unfold cX
  rw [if_neg (by omega : ¬ 6 + x.val = 0), if_neg (by omega : ¬ 6 + x.val = 1), if_neg (by omega : ¬ 6 + x.val = 2), if_neg (by omega : ¬ 6 + x.val = 3), if_neg (by omega : ¬ 6 + x.val = 4), if_neg (by omega : ¬ 6 + x.val = 5), if_pos (by omega : 6 + x.val < 14), Nat.add_sub_cancel_left, fin8_val]
theorem xa_T (x : Fin 8) : (wX cI cT ad M)[6 + x.val]? = some (ad (6 + x.val), .inr (3, fT ad M x)) := by
  have h := x.isLt
  unfold wX
  rw [wl_at (by omega), xc_T]
theorem xc_J (x : Fin 8) : cX cI cT ad M (14 + x.val) = .inr (1, fJ ad M x) := by
  have h := x.isLt
  unfold cX
  rw [if_neg (by omega : ¬ 14 + x.val = 0), if_neg (by omega : ¬ 14 + x.val = 1), if_neg (by omega : ¬ 14 + x.val = 2), if_neg (by omega : ¬ 14 + x.val = 3), if_neg (by omega : ¬ 14 + x.val = 4), if_neg (by omega : ¬ 14 + x.val = 5), if_neg (by omega : ¬ 14 + x.val < 14), if_pos (by omega : 14 + x.val < 22), Nat.add_sub_cancel_left, fin8_val]
theorem xa_J (x : Fin 8) : (wX cI cT ad M)[14 + x.val]? = some (ad (14 + x.val), .inr (1, fJ ad M x)) := by
  have h := x.isLt
  unfold wX
  rw [wl_at (by omega), xc_J]
theorem xc_sg (x : Fin 8) : cX cI cT ad M (22 + x.val) = .inl (cI, 8, .inl (M.1 2 x)) := by
  have h := x.isLt
  unfold cX
  rw [if_neg (by omega : ¬ 22 + x.val = 0), if_neg (by omega : ¬ 22 + x.val = 1), if_neg (by omega : ¬ 22 + x.val = 2), if_neg (by omega : ¬ 22 + x.val = 3), if_neg (by omega : ¬ 22 + x.val = 4), if_neg (by omega : ¬ 22 + x.val = 5), if_neg (by omega : ¬ 22 + x.val < 14), if_neg (by omega : ¬ 22 + x.val < 22), if_pos (by omega : 22 + x.val < 30), Nat.add_sub_cancel_left, fin8_val]
theorem xa_sg (x : Fin 8) : (wX cI cT ad M)[22 + x.val]? = some (ad (22 + x.val), .inl (cI, 8, .inl (M.1 2 x))) := by
  have h := x.isLt
  unfold wX
  rw [wl_at (by omega), xc_sg]
theorem xc_ar (x : Fin 8) : cX cI cT ad M (30 + x.val) = .inl (cI, 9, .inl (M.1 3 x)) := by
  have h := x.isLt
  unfold cX
  rw [if_neg (by omega : ¬ 30 + x.val = 0), if_neg (by omega : ¬ 30 + x.val = 1), if_neg (by omega : ¬ 30 + x.val = 2), if_neg (by omega : ¬ 30 + x.val = 3), if_neg (by omega : ¬ 30 + x.val = 4), if_neg (by omega : ¬ 30 + x.val = 5), if_neg (by omega : ¬ 30 + x.val < 14), if_neg (by omega : ¬ 30 + x.val < 22), if_neg (by omega : ¬ 30 + x.val < 30), if_pos (by omega : 30 + x.val < 38), Nat.add_sub_cancel_left, fin8_val]
theorem xa_ar (x : Fin 8) : (wX cI cT ad M)[30 + x.val]? = some (ad (30 + x.val), .inl (cI, 9, .inl (M.1 3 x))) := by
  have h := x.isLt
  unfold wX
  rw [wl_at (by omega), xc_ar]
theorem xc_no (x : Fin 8) : cX cI cT ad M (38 + x.val) = .inl (cI, 200, .inl (M.1 4 x)) := by
  have h := x.isLt
  unfold cX
  rw [if_neg (by omega : ¬ 38 + x.val = 0), if_neg (by omega : ¬ 38 + x.val = 1), if_neg (by omega : ¬ 38 + x.val = 2), if_neg (by omega : ¬ 38 + x.val = 3), if_neg (by omega : ¬ 38 + x.val = 4), if_neg (by omega : ¬ 38 + x.val = 5), if_neg (by omega : ¬ 38 + x.val < 14), if_neg (by omega : ¬ 38 + x.val < 22), if_neg (by omega : ¬ 38 + x.val < 30), if_neg (by omega : ¬ 38 + x.val < 38), Nat.add_sub_cancel_left, fin8_val]
theorem xa_no (x : Fin 8) : (wX cI cT ad M)[38 + x.val]? = some (ad (38 + x.val), .inl (cI, 200, .inl (M.1 4 x))) := by
  have h := x.isLt
  unfold wX
  rw [wl_at (by omega), xc_no]
end AtX
section SetX
variable {cI cT : ClassId} {ad : Nat → Nat} {M M' : MX}
theorem xj_of {b j : Nat} (h1 : b ≤ j) (h2 : j < b + 8) : j = b + (fin8 (j - b)).val := by
  rw [fin8_of (by omega)]; omega
theorem xj_ne {b j : Nat} {x : Fin 8} (hne : j ≠ b + x.val) (h1 : b ≤ j) (h2 : j < b + 8) : ¬ fin8 (j - b) = x := fun q => hne (by rw [← q]; exact xj_of h1 h2)
theorem cX_of {j : Nat} (hj : j < 46) (hO : j = 0 → fO ad M = fO ad M') (hS : j = 1 → fS ad M = fS ad M') (hR : j = 3 → M.2.2.1 = M'.2.2.1) (hA : j = 4 → fA ad M = fA ad M') (hK : j = 5 → fK ad M = fK ad M')
    (hT : 6 ≤ j → j < 14 → fT ad M (fin8 (j - 6)) = fT ad M' (fin8 (j - 6))) (hJ : 14 ≤ j → j < 22 → fJ ad M (fin8 (j - 14)) = fJ ad M' (fin8 (j - 14)))
    (h2 : 22 ≤ j → j < 30 → M.1 2 (fin8 (j - 22)) = M'.1 2 (fin8 (j - 22))) (h3 : 30 ≤ j → j < 38 → M.1 3 (fin8 (j - 30)) = M'.1 3 (fin8 (j - 30))) (h4 : 38 ≤ j → j < 46 → M.1 4 (fin8 (j - 38)) = M'.1 4 (fin8 (j - 38))) : cX cI cT ad M j = cX cI cT ad M' j := by
  unfold cX
  by_cases c0 : j = 0
  · rw [if_pos c0, if_pos c0, hO c0]
  rw [if_neg c0, if_neg c0]
  by_cases c1 : j = 1
  · rw [if_pos c1, if_pos c1, hS c1]
  rw [if_neg c1, if_neg c1]
  by_cases c2 : j = 2
  · rw [if_pos c2, if_pos c2]
  rw [if_neg c2, if_neg c2]
  by_cases c3 : j = 3
  · rw [if_pos c3, if_pos c3, hR c3]
  rw [if_neg c3, if_neg c3]
  by_cases c4 : j = 4
  · rw [if_pos c4, if_pos c4, hA c4]
  rw [if_neg c4, if_neg c4]
  by_cases c5 : j = 5
  · rw [if_pos c5, if_pos c5, hK c5]
  rw [if_neg c5, if_neg c5]
  by_cases c6 : j < 14
  · rw [if_pos c6, if_pos c6, hT (by omega) c6]
  rw [if_neg c6, if_neg c6]
  by_cases c7 : j < 22
  · rw [if_pos c7, if_pos c7, hJ (by omega) c7]
  rw [if_neg c7, if_neg c7]
  by_cases c8 : j < 30
  · rw [if_pos c8, if_pos c8, h2 (by omega) c8]
  rw [if_neg c8, if_neg c8]
  by_cases c9 : j < 38
  · rw [if_pos c9, if_pos c9, h3 (by omega) c9]
  rw [if_neg c9, if_neg c9, h4 (by omega) hj]
theorem xs_T (x : Fin 8) (k : Nat) (v : Int32) (hk : k = 0 ∨ k = 3 ∨ k = 4 ∨ k = 5 ∨ k = 6 ∨ k = 7 ∨ k = 8 ∨ k = 9 ∨ k = 10 ∨ k = 11 ∨ k = 12) : (wX cI cT ad M).set (6 + x.val) (ad (6 + x.val), .inr (3, (fT ad M x).set k (.int v))) = wX cI cT ad (sF M 0 x k v) := by
  refine wl_set ?_ (fun j hj hne => ?_)
  · rw [xc_T]
    refine congrArg (fun z => Sum.inr (3, z)) ?_
    rcases hk with rfl | rfl | rfl | rfl | rfl | rfl | rfl | rfl | rfl | rfl | rfl <;> simp [fT, sF]
  · exact cX_of hj (fun _ => rfl) (fun _ => rfl) (fun _ => rfl) (fun _ => rfl) (fun _ => rfl) (fun h1 h2 => by simp [fT, sF, xj_ne hne h1 h2]) (fun _ _ => by simp [fJ, sF, sG, sR, sU, sP]) (fun _ _ => by funext a; simp [sF, sG, sR, sU, sP]) (fun _ _ => by funext a; simp [sF, sG, sR, sU, sP]) (fun _ _ => by funext a; simp [sF, sG, sR, sU, sP])
theorem xs_J (x : Fin 8) (k : Nat) (v : Int32) (hk : k = 2 ∨ k = 3 ∨ k = 4 ∨ k = 5 ∨ k = 6 ∨ k = 7) : (wX cI cT ad M).set (14 + x.val) (ad (14 + x.val), .inr (1, (fJ ad M x).set k (.int v))) = wX cI cT ad (sF M 1 x k v) := by
  refine wl_set ?_ (fun j hj hne => ?_)
  · rw [xc_J]
    refine congrArg (fun z => Sum.inr (1, z)) ?_
    rcases hk with rfl | rfl | rfl | rfl | rfl | rfl <;> simp [fJ, sF]
  · exact cX_of hj (fun _ => rfl) (fun _ => rfl) (fun _ => rfl) (fun _ => rfl) (fun _ => rfl) (fun _ _ => by simp [fT, sF, sG, sR, sU, sP]) (fun h1 h2 => by simp [fJ, sF, xj_ne hne h1 h2]) (fun _ _ => by funext a; simp [sF, sG, sR, sU, sP]) (fun _ _ => by funext a; simp [sF, sG, sR, sU, sP]) (fun _ _ => by funext a; simp [sF, sG, sR, sU, sP])
theorem xs_sg (x : Fin 8) (i : Nat) (v : Int32) : (wX cI cT ad M).set (22 + x.val) (ad (22 + x.val), .inl (cI, 8, .inl (upd (M.1 2 x) i v))) = wX cI cT ad (sF M 2 x i v) := by
  refine wl_set ?_ (fun j hj hne => ?_)
  · rw [xc_sg]
    refine congrArg (fun z => Sum.inl (cI, 8, Sum.inl z)) ?_
    funext a
    simp [sF, upd]
  · exact cX_of hj (fun _ => rfl) (fun _ => rfl) (fun _ => rfl) (fun _ => rfl) (fun _ => rfl) (fun _ _ => by simp [fT, sF, sG, sR, sU, sP]) (fun _ _ => by simp [fJ, sF, sG, sR, sU, sP]) (fun h1 h2 => by funext a; simp [sF, xj_ne hne h1 h2]) (fun _ _ => by funext a; simp [sF, sG, sR, sU, sP]) (fun _ _ => by funext a; simp [sF, sG, sR, sU, sP])
theorem xs_ar (x : Fin 8) (i : Nat) (v : Int32) : (wX cI cT ad M).set (30 + x.val) (ad (30 + x.val), .inl (cI, 9, .inl (upd (M.1 3 x) i v))) = wX cI cT ad (sF M 3 x i v) := by
  refine wl_set ?_ (fun j hj hne => ?_)
  · rw [xc_ar]
    refine congrArg (fun z => Sum.inl (cI, 9, Sum.inl z)) ?_
    funext a
    simp [sF, upd]
  · exact cX_of hj (fun _ => rfl) (fun _ => rfl) (fun _ => rfl) (fun _ => rfl) (fun _ => rfl) (fun _ _ => by simp [fT, sF, sG, sR, sU, sP]) (fun _ _ => by simp [fJ, sF, sG, sR, sU, sP]) (fun _ _ => by funext a; simp [sF, sG, sR, sU, sP]) (fun h1 h2 => by funext a; simp [sF, xj_ne hne h1 h2]) (fun _ _ => by funext a; simp [sF, sG, sR, sU, sP])
theorem xs_no (x : Fin 8) (i : Nat) (v : Int32) : (wX cI cT ad M).set (38 + x.val) (ad (38 + x.val), .inl (cI, 200, .inl (upd (M.1 4 x) i v))) = wX cI cT ad (sF M 4 x i v) := by
  refine wl_set ?_ (fun j hj hne => ?_)
  · rw [xc_no]
    refine congrArg (fun z => Sum.inl (cI, 200, Sum.inl z)) ?_
    funext a
    simp [sF, upd]
  · exact cX_of hj (fun _ => rfl) (fun _ => rfl) (fun _ => rfl) (fun _ => rfl) (fun _ => rfl) (fun _ _ => by simp [fT, sF, sG, sR, sU, sP]) (fun _ _ => by simp [fJ, sF, sG, sR, sU, sP]) (fun _ _ => by funext a; simp [sF, sG, sR, sU, sP]) (fun _ _ => by funext a; simp [sF, sG, sR, sU, sP]) (fun h1 h2 => by funext a; simp [sF, xj_ne hne h1 h2])
theorem xs_S (k : Nat) (v : Int32) (hk : k = 2) : (wX cI cT ad M).set 1 (ad 1, .inr (4, (fS ad M).set k (.int v))) = wX cI cT ad (sG M 0 k v) := by
  refine wl_set ?_ (fun j hj hne => ?_)
  · refine congrArg (fun z => Sum.inr (4, z)) ?_
    rcases hk with rfl <;> simp [fS, sG]
  · exact cX_of hj (fun _ => rfl) (fun q => absurd q hne) (fun _ => rfl) (fun _ => by simp [fA, sG]) (fun _ => by simp [fK, sG]) (fun _ _ => by simp [fT, sF, sG, sR, sU, sP]) (fun _ _ => by simp [fJ, sF, sG, sR, sU, sP]) (fun _ _ => by funext a; simp [sF, sG, sR, sU, sP]) (fun _ _ => by funext a; simp [sF, sG, sR, sU, sP]) (fun _ _ => by funext a; simp [sF, sG, sR, sU, sP])
theorem xs_A (k : Nat) (v : Int32) (hk : k = 1 ∨ k = 2) : (wX cI cT ad M).set 4 (ad 4, .inr (0, (fA ad M).set k (.int v))) = wX cI cT ad (sG M 1 k v) := by
  refine wl_set ?_ (fun j hj hne => ?_)
  · refine congrArg (fun z => Sum.inr (0, z)) ?_
    rcases hk with rfl | rfl <;> simp [fA, sG]
  · exact cX_of hj (fun _ => rfl) (fun _ => by simp [fS, sG]) (fun _ => rfl) (fun q => absurd q hne) (fun _ => by simp [fK, sG]) (fun _ _ => by simp [fT, sF, sG, sR, sU, sP]) (fun _ _ => by simp [fJ, sF, sG, sR, sU, sP]) (fun _ _ => by funext a; simp [sF, sG, sR, sU, sP]) (fun _ _ => by funext a; simp [sF, sG, sR, sU, sP]) (fun _ _ => by funext a; simp [sF, sG, sR, sU, sP])
theorem xs_K (k : Nat) (v : Int32) (hk : k = 1 ∨ k = 2 ∨ k = 3) : (wX cI cT ad M).set 5 (ad 5, .inr (2, (fK ad M).set k (.int v))) = wX cI cT ad (sG M 2 k v) := by
  refine wl_set ?_ (fun j hj hne => ?_)
  · refine congrArg (fun z => Sum.inr (2, z)) ?_
    rcases hk with rfl | rfl | rfl <;> simp [fK, sG]
  · exact cX_of hj (fun _ => rfl) (fun _ => by simp [fS, sG]) (fun _ => rfl) (fun _ => by simp [fA, sG]) (fun q => absurd q hne) (fun _ _ => by simp [fT, sF, sG, sR, sU, sP]) (fun _ _ => by simp [fJ, sF, sG, sR, sU, sP]) (fun _ _ => by funext a; simp [sF, sG, sR, sU, sP]) (fun _ _ => by funext a; simp [sF, sG, sR, sU, sP]) (fun _ _ => by funext a; simp [sF, sG, sR, sU, sP])
theorem xs_U (o : Option (Fin 8)) : (wX cI cT ad M).set 5 (ad 5, .inr (2, (fK ad M).set 4 (va_rf (gw_oa ad o)))) = wX cI cT ad (sU M o) := by
  refine wl_set ?_ (fun j hj hne => ?_)
  · rfl
  · exact cX_of hj (fun _ => rfl) (fun _ => rfl) (fun _ => rfl) (fun _ => rfl) (fun q => absurd q hne) (fun _ _ => by simp [fT, sF, sG, sR, sU, sP]) (fun _ _ => by simp [fJ, sF, sG, sR, sU, sP]) (fun _ _ => by funext a; simp [sF, sG, sR, sU, sP]) (fun _ _ => by funext a; simp [sF, sG, sR, sU, sP]) (fun _ _ => by funext a; simp [sF, sG, sR, sU, sP])
theorem xs_P (o : Option (Fin 8)) : (wX cI cT ad M).set 5 (ad 5, .inr (2, (fK ad M).set 5 (va_rf (gw_oa ad o)))) = wX cI cT ad (sP M o) := by
  refine wl_set ?_ (fun j hj hne => ?_)
  · rfl
  · exact cX_of hj (fun _ => rfl) (fun _ => rfl) (fun _ => rfl) (fun _ => rfl) (fun q => absurd q hne) (fun _ _ => by simp [fT, sF, sG, sR, sU, sP]) (fun _ _ => by simp [fJ, sF, sG, sR, sU, sP]) (fun _ _ => by funext a; simp [sF, sG, sR, sU, sP]) (fun _ _ => by funext a; simp [sF, sG, sR, sU, sP]) (fun _ _ => by funext a; simp [sF, sG, sR, sU, sP])
theorem xs_rk (i : Nat) (x : Fin 8) : (wX cI cT ad M).set 3 (ad 3, .inl (cT, 8, .inr (.inr (.inr (.inr (va_up (fun k => some (ad (6 + (M.2.2.1 k).val))) i (some (ad (6 + x.val))))))))) = wX cI cT ad (sR M i x) := by
  refine wl_set ?_ (fun j hj hne => ?_)
  · refine congrArg (fun z => Sum.inl (cT, 8, Sum.inr (Sum.inr (Sum.inr (Sum.inr z))))) ?_
    funext a
    by_cases h : a = i <;> simp [sR, va_up, h]
  · exact cX_of hj (fun _ => rfl) (fun _ => rfl) (fun q => absurd q hne) (fun _ => rfl) (fun _ => rfl) (fun _ _ => by simp [fT, sF, sG, sR, sU, sP]) (fun _ _ => by simp [fJ, sF, sG, sR, sU, sP]) (fun _ _ => by funext a; simp [sF, sG, sR, sU, sP]) (fun _ _ => by funext a; simp [sF, sG, sR, sU, sP]) (fun _ _ => by funext a; simp [sF, sG, sR, sU, sP])
theorem xi_inj {D : va_G} {tys : List (ClassId × FieldType)} {A : Nat → Prop} {s : State} {H : Heap} {locs : List Loc} (hw : gw_W D tys A (wX cI cT ad M) s H locs) : ∀ x y : Fin 8, ad (6 + x.val) = ad (6 + y.val) → x = y := by
  intro x y h
  have h1 := hw.2.2.1.1 (6 + x.val) (6 + y.val) _ _ (xa_T x) (xa_T y) h
  exact Fin.ext (by omega)
end SetX
def fY (ad : Nat → Nat) (M : MY) : List Value := [.int (M.2 0), .ref (ad 1), .ref (ad 2), .ref (ad 3), .ref (ad 4), .ref (ad 5), .ref (ad 6), .ref (ad 7), .ref (ad 8), .int (M.2 9), .int (M.2 10), .int (M.2 11), .int (M.2 12), .int (M.2 13), .int (M.2 14), .int (M.2 15), .ref (ad 9), .ref (ad 10), .ref (ad 11), .ref (ad 12), .ref (ad 13), .ref (ad 14), .ref (ad 15), .ref (ad 16), .ref (ad 17), .int (M.2 25), .int (M.2 26), .int (M.2 27), .int (M.2 28)]
def cY (cI cZ : ClassId) (ad : Nat → Nat) (M : MY) (c : Nat) : va_E :=
  if c = 0 then .inr (6, fY ad M)
  else if c = 1 then .inl (cZ, 9, .inl (M.1 1))
  else if c = 2 then .inl (cI, 9, .inl (M.1 2))
  else if c = 3 then .inl (cI, 9, .inl (M.1 3))
  else if c = 4 then .inl (cI, 9, .inl (M.1 4))
  else if c = 5 then .inl (cI, 9, .inl (M.1 5))
  else if c = 6 then .inl (cI, 72, .inl (M.1 6))
  else if c = 7 then .inl (cI, 9, .inl (M.1 7))
  else if c = 8 then .inl (cI, 9, .inl (M.1 8))
  else if c = 9 then .inl (cI, 9, .inl (M.1 9))
  else if c = 10 then .inl (cI, 9, .inl (M.1 10))
  else if c = 11 then .inl (cI, 9, .inl (M.1 11))
  else if c = 12 then .inl (cI, 81, .inl (M.1 12))
  else if c = 13 then .inl (cI, 9, .inl (M.1 13))
  else if c = 14 then .inl (cI, 9, .inl (M.1 14))
  else if c = 15 then .inl (cI, 9, .inl (M.1 15))
  else if c = 16 then .inl (cI, 9, .inl (M.1 16))
  else .inl (cI, 1800, .inl (M.1 17))
def wY (cI cZ : ClassId) (ad : Nat → Nat) (M : MY) : va_W := wl ad 18 (cY cI cZ ad M)
abbrev tyY (cI cZ : ClassId) : List (ClassId × FieldType) := [(cI, .int), (cZ, .boolean)]
section AtY
variable {cI cZ : ClassId} {ad : Nat → Nat} {M : MY}
theorem ya_R : (wY cI cZ ad M)[0]? = some (ad 0, .inr (6, fY ad M)) := wl_at (by decide)
theorem ya_a1 : (wY cI cZ ad M)[1]? = some (ad 1, .inl (cZ, 9, .inl (M.1 1))) := wl_at (by decide)
theorem ya_a2 : (wY cI cZ ad M)[2]? = some (ad 2, .inl (cI, 9, .inl (M.1 2))) := wl_at (by decide)
theorem ya_a3 : (wY cI cZ ad M)[3]? = some (ad 3, .inl (cI, 9, .inl (M.1 3))) := wl_at (by decide)
theorem ya_a4 : (wY cI cZ ad M)[4]? = some (ad 4, .inl (cI, 9, .inl (M.1 4))) := wl_at (by decide)
theorem ya_a5 : (wY cI cZ ad M)[5]? = some (ad 5, .inl (cI, 9, .inl (M.1 5))) := wl_at (by decide)
theorem ya_a6 : (wY cI cZ ad M)[6]? = some (ad 6, .inl (cI, 72, .inl (M.1 6))) := wl_at (by decide)
theorem ya_a7 : (wY cI cZ ad M)[7]? = some (ad 7, .inl (cI, 9, .inl (M.1 7))) := wl_at (by decide)
theorem ya_a8 : (wY cI cZ ad M)[8]? = some (ad 8, .inl (cI, 9, .inl (M.1 8))) := wl_at (by decide)
theorem ya_a9 : (wY cI cZ ad M)[9]? = some (ad 9, .inl (cI, 9, .inl (M.1 9))) := wl_at (by decide)
theorem ya_a10 : (wY cI cZ ad M)[10]? = some (ad 10, .inl (cI, 9, .inl (M.1 10))) := wl_at (by decide)
theorem ya_a11 : (wY cI cZ ad M)[11]? = some (ad 11, .inl (cI, 9, .inl (M.1 11))) := wl_at (by decide)
theorem ya_a12 : (wY cI cZ ad M)[12]? = some (ad 12, .inl (cI, 81, .inl (M.1 12))) := wl_at (by decide)
theorem ya_a13 : (wY cI cZ ad M)[13]? = some (ad 13, .inl (cI, 9, .inl (M.1 13))) := wl_at (by decide)
theorem ya_a14 : (wY cI cZ ad M)[14]? = some (ad 14, .inl (cI, 9, .inl (M.1 14))) := wl_at (by decide)
theorem ya_a15 : (wY cI cZ ad M)[15]? = some (ad 15, .inl (cI, 9, .inl (M.1 15))) := wl_at (by decide)
theorem ya_a16 : (wY cI cZ ad M)[16]? = some (ad 16, .inl (cI, 9, .inl (M.1 16))) := wl_at (by decide)
theorem ya_a17 : (wY cI cZ ad M)[17]? = some (ad 17, .inl (cI, 1800, .inl (M.1 17))) := wl_at (by decide)
theorem cY_of {M' : MY} {j : Nat} (hj : j < 18) (h0 : j = 0 → fY ad M = fY ad M') (h1 : j = 1 → M.1 1 = M'.1 1) (h2 : j = 2 → M.1 2 = M'.1 2) (h3 : j = 3 → M.1 3 = M'.1 3) (h4 : j = 4 → M.1 4 = M'.1 4) (h5 : j = 5 → M.1 5 = M'.1 5) (h6 : j = 6 → M.1 6 = M'.1 6) (h7 : j = 7 → M.1 7 = M'.1 7) (h8 : j = 8 → M.1 8 = M'.1 8) (h9 : j = 9 → M.1 9 = M'.1 9) (h10 : j = 10 → M.1 10 = M'.1 10) (h11 : j = 11 → M.1 11 = M'.1 11) (h12 : j = 12 → M.1 12 = M'.1 12) (h13 : j = 13 → M.1 13 = M'.1 13) (h14 : j = 14 → M.1 14 = M'.1 14) (h15 : j = 15 → M.1 15 = M'.1 15) (h16 : j = 16 → M.1 16 = M'.1 16) (h17 : j = 17 → M.1 17 = M'.1 17) : cY cI cZ ad M j = cY cI cZ ad M' j := by
  unfold cY
  by_cases c0 : j = 0
  · rw [if_pos c0, if_pos c0, h0 c0]
  rw [if_neg c0, if_neg c0]
  by_cases c1 : j = 1
  · rw [if_pos c1, if_pos c1, h1 c1]
  rw [if_neg c1, if_neg c1]
  by_cases c2 : j = 2
  · rw [if_pos c2, if_pos c2, h2 c2]
  rw [if_neg c2, if_neg c2]
  by_cases c3 : j = 3
  · rw [if_pos c3, if_pos c3, h3 c3]
  rw [if_neg c3, if_neg c3]
  by_cases c4 : j = 4
  · rw [if_pos c4, if_pos c4, h4 c4]
  rw [if_neg c4, if_neg c4]
  by_cases c5 : j = 5
  · rw [if_pos c5, if_pos c5, h5 c5]
  rw [if_neg c5, if_neg c5]
  by_cases c6 : j = 6
  · rw [if_pos c6, if_pos c6, h6 c6]
  rw [if_neg c6, if_neg c6]
  by_cases c7 : j = 7
  · rw [if_pos c7, if_pos c7, h7 c7]
  rw [if_neg c7, if_neg c7]
  by_cases c8 : j = 8
  · rw [if_pos c8, if_pos c8, h8 c8]
  rw [if_neg c8, if_neg c8]
  by_cases c9 : j = 9
  · rw [if_pos c9, if_pos c9, h9 c9]
  rw [if_neg c9, if_neg c9]
  by_cases c10 : j = 10
  · rw [if_pos c10, if_pos c10, h10 c10]
  rw [if_neg c10, if_neg c10]
  by_cases c11 : j = 11
  · rw [if_pos c11, if_pos c11, h11 c11]
  rw [if_neg c11, if_neg c11]
  by_cases c12 : j = 12
  · rw [if_pos c12, if_pos c12, h12 c12]
  rw [if_neg c12, if_neg c12]
  by_cases c13 : j = 13
  · rw [if_pos c13, if_pos c13, h13 c13]
  rw [if_neg c13, if_neg c13]
  by_cases c14 : j = 14
  · rw [if_pos c14, if_pos c14, h14 c14]
  rw [if_neg c14, if_neg c14]
  by_cases c15 : j = 15
  · rw [if_pos c15, if_pos c15, h15 c15]
  rw [if_neg c15, if_neg c15]
  by_cases c16 : j = 16
  · rw [if_pos c16, if_pos c16, h16 c16]
  rw [if_neg c16, if_neg c16]
  rw [h17 (by omega)]
theorem ys_R (k : Nat) (v : Int32) (hk : k = 0 ∨ k = 9 ∨ k = 10 ∨ k = 11 ∨ k = 12 ∨ k = 13 ∨ k = 14 ∨ k = 15 ∨ k = 25 ∨ k = 26 ∨ k = 27 ∨ k = 28) : (wY cI cZ ad M).set 0 (ad 0, .inr (6, (fY ad M).set k (.int v))) = wY cI cZ ad (sV M k v) := by
  refine wl_set ?_ (fun j hj hne => ?_)
  · refine congrArg (fun z => Sum.inr (6, z)) ?_
    rcases hk with rfl | rfl | rfl | rfl | rfl | rfl | rfl | rfl | rfl | rfl | rfl | rfl <;> simp [fY, sV]
  · exact cY_of hj (fun q => absurd q hne) (fun _ => rfl) (fun _ => rfl) (fun _ => rfl) (fun _ => rfl) (fun _ => rfl) (fun _ => rfl) (fun _ => rfl) (fun _ => rfl) (fun _ => rfl) (fun _ => rfl) (fun _ => rfl) (fun _ => rfl) (fun _ => rfl) (fun _ => rfl) (fun _ => rfl) (fun _ => rfl) (fun _ => rfl)
theorem ys_a1 (i : Nat) (v : Int32) : (wY cI cZ ad M).set 1 (ad 1, .inl (cZ, 9, .inl (upd (M.1 1) i v))) = wY cI cZ ad (sA M 1 i v) := by
  refine wl_set ?_ (fun j hj hne => ?_)
  · refine congrArg (fun z => Sum.inl (cZ, 9, Sum.inl z)) ?_
    funext a
    simp [sA, upd]
  · exact cY_of hj (fun _ => rfl) (fun q => absurd q hne) (fun _ => by funext a; simp [sA]) (fun _ => by funext a; simp [sA]) (fun _ => by funext a; simp [sA]) (fun _ => by funext a; simp [sA]) (fun _ => by funext a; simp [sA]) (fun _ => by funext a; simp [sA]) (fun _ => by funext a; simp [sA]) (fun _ => by funext a; simp [sA]) (fun _ => by funext a; simp [sA]) (fun _ => by funext a; simp [sA]) (fun _ => by funext a; simp [sA]) (fun _ => by funext a; simp [sA]) (fun _ => by funext a; simp [sA]) (fun _ => by funext a; simp [sA]) (fun _ => by funext a; simp [sA]) (fun _ => by funext a; simp [sA])
theorem ys_a2 (i : Nat) (v : Int32) : (wY cI cZ ad M).set 2 (ad 2, .inl (cI, 9, .inl (upd (M.1 2) i v))) = wY cI cZ ad (sA M 2 i v) := by
  refine wl_set ?_ (fun j hj hne => ?_)
  · refine congrArg (fun z => Sum.inl (cI, 9, Sum.inl z)) ?_
    funext a
    simp [sA, upd]
  · exact cY_of hj (fun _ => rfl) (fun _ => by funext a; simp [sA]) (fun q => absurd q hne) (fun _ => by funext a; simp [sA]) (fun _ => by funext a; simp [sA]) (fun _ => by funext a; simp [sA]) (fun _ => by funext a; simp [sA]) (fun _ => by funext a; simp [sA]) (fun _ => by funext a; simp [sA]) (fun _ => by funext a; simp [sA]) (fun _ => by funext a; simp [sA]) (fun _ => by funext a; simp [sA]) (fun _ => by funext a; simp [sA]) (fun _ => by funext a; simp [sA]) (fun _ => by funext a; simp [sA]) (fun _ => by funext a; simp [sA]) (fun _ => by funext a; simp [sA]) (fun _ => by funext a; simp [sA])
theorem ys_a3 (i : Nat) (v : Int32) : (wY cI cZ ad M).set 3 (ad 3, .inl (cI, 9, .inl (upd (M.1 3) i v))) = wY cI cZ ad (sA M 3 i v) := by
  refine wl_set ?_ (fun j hj hne => ?_)
  · refine congrArg (fun z => Sum.inl (cI, 9, Sum.inl z)) ?_
    funext a
    simp [sA, upd]
  · exact cY_of hj (fun _ => rfl) (fun _ => by funext a; simp [sA]) (fun _ => by funext a; simp [sA]) (fun q => absurd q hne) (fun _ => by funext a; simp [sA]) (fun _ => by funext a; simp [sA]) (fun _ => by funext a; simp [sA]) (fun _ => by funext a; simp [sA]) (fun _ => by funext a; simp [sA]) (fun _ => by funext a; simp [sA]) (fun _ => by funext a; simp [sA]) (fun _ => by funext a; simp [sA]) (fun _ => by funext a; simp [sA]) (fun _ => by funext a; simp [sA]) (fun _ => by funext a; simp [sA]) (fun _ => by funext a; simp [sA]) (fun _ => by funext a; simp [sA]) (fun _ => by funext a; simp [sA])
theorem ys_a4 (i : Nat) (v : Int32) : (wY cI cZ ad M).set 4 (ad 4, .inl (cI, 9, .inl (upd (M.1 4) i v))) = wY cI cZ ad (sA M 4 i v) := by
  refine wl_set ?_ (fun j hj hne => ?_)
  · refine congrArg (fun z => Sum.inl (cI, 9, Sum.inl z)) ?_
    funext a
    simp [sA, upd]
  · exact cY_of hj (fun _ => rfl) (fun _ => by funext a; simp [sA]) (fun _ => by funext a; simp [sA]) (fun _ => by funext a; simp [sA]) (fun q => absurd q hne) (fun _ => by funext a; simp [sA]) (fun _ => by funext a; simp [sA]) (fun _ => by funext a; simp [sA]) (fun _ => by funext a; simp [sA]) (fun _ => by funext a; simp [sA]) (fun _ => by funext a; simp [sA]) (fun _ => by funext a; simp [sA]) (fun _ => by funext a; simp [sA]) (fun _ => by funext a; simp [sA]) (fun _ => by funext a; simp [sA]) (fun _ => by funext a; simp [sA]) (fun _ => by funext a; simp [sA]) (fun _ => by funext a; simp [sA])
theorem ys_a5 (i : Nat) (v : Int32) : (wY cI cZ ad M).set 5 (ad 5, .inl (cI, 9, .inl (upd (M.1 5) i v))) = wY cI cZ ad (sA M 5 i v) := by
  refine wl_set ?_ (fun j hj hne => ?_)
  · refine congrArg (fun z => Sum.inl (cI, 9, Sum.inl z)) ?_
    funext a
    simp [sA, upd]
  · exact cY_of hj (fun _ => rfl) (fun _ => by funext a; simp [sA]) (fun _ => by funext a; simp [sA]) (fun _ => by funext a; simp [sA]) (fun _ => by funext a; simp [sA]) (fun q => absurd q hne) (fun _ => by funext a; simp [sA]) (fun _ => by funext a; simp [sA]) (fun _ => by funext a; simp [sA]) (fun _ => by funext a; simp [sA]) (fun _ => by funext a; simp [sA]) (fun _ => by funext a; simp [sA]) (fun _ => by funext a; simp [sA]) (fun _ => by funext a; simp [sA]) (fun _ => by funext a; simp [sA]) (fun _ => by funext a; simp [sA]) (fun _ => by funext a; simp [sA]) (fun _ => by funext a; simp [sA])
theorem ys_a6 (i : Nat) (v : Int32) : (wY cI cZ ad M).set 6 (ad 6, .inl (cI, 72, .inl (upd (M.1 6) i v))) = wY cI cZ ad (sA M 6 i v) := by
  refine wl_set ?_ (fun j hj hne => ?_)
  · refine congrArg (fun z => Sum.inl (cI, 72, Sum.inl z)) ?_
    funext a
    simp [sA, upd]
  · exact cY_of hj (fun _ => rfl) (fun _ => by funext a; simp [sA]) (fun _ => by funext a; simp [sA]) (fun _ => by funext a; simp [sA]) (fun _ => by funext a; simp [sA]) (fun _ => by funext a; simp [sA]) (fun q => absurd q hne) (fun _ => by funext a; simp [sA]) (fun _ => by funext a; simp [sA]) (fun _ => by funext a; simp [sA]) (fun _ => by funext a; simp [sA]) (fun _ => by funext a; simp [sA]) (fun _ => by funext a; simp [sA]) (fun _ => by funext a; simp [sA]) (fun _ => by funext a; simp [sA]) (fun _ => by funext a; simp [sA]) (fun _ => by funext a; simp [sA]) (fun _ => by funext a; simp [sA])
theorem ys_a7 (i : Nat) (v : Int32) : (wY cI cZ ad M).set 7 (ad 7, .inl (cI, 9, .inl (upd (M.1 7) i v))) = wY cI cZ ad (sA M 7 i v) := by
  refine wl_set ?_ (fun j hj hne => ?_)
  · refine congrArg (fun z => Sum.inl (cI, 9, Sum.inl z)) ?_
    funext a
    simp [sA, upd]
  · exact cY_of hj (fun _ => rfl) (fun _ => by funext a; simp [sA]) (fun _ => by funext a; simp [sA]) (fun _ => by funext a; simp [sA]) (fun _ => by funext a; simp [sA]) (fun _ => by funext a; simp [sA]) (fun _ => by funext a; simp [sA]) (fun q => absurd q hne) (fun _ => by funext a; simp [sA]) (fun _ => by funext a; simp [sA]) (fun _ => by funext a; simp [sA]) (fun _ => by funext a; simp [sA]) (fun _ => by funext a; simp [sA]) (fun _ => by funext a; simp [sA]) (fun _ => by funext a; simp [sA]) (fun _ => by funext a; simp [sA]) (fun _ => by funext a; simp [sA]) (fun _ => by funext a; simp [sA])
theorem ys_a8 (i : Nat) (v : Int32) : (wY cI cZ ad M).set 8 (ad 8, .inl (cI, 9, .inl (upd (M.1 8) i v))) = wY cI cZ ad (sA M 8 i v) := by
  refine wl_set ?_ (fun j hj hne => ?_)
  · refine congrArg (fun z => Sum.inl (cI, 9, Sum.inl z)) ?_
    funext a
    simp [sA, upd]
  · exact cY_of hj (fun _ => rfl) (fun _ => by funext a; simp [sA]) (fun _ => by funext a; simp [sA]) (fun _ => by funext a; simp [sA]) (fun _ => by funext a; simp [sA]) (fun _ => by funext a; simp [sA]) (fun _ => by funext a; simp [sA]) (fun _ => by funext a; simp [sA]) (fun q => absurd q hne) (fun _ => by funext a; simp [sA]) (fun _ => by funext a; simp [sA]) (fun _ => by funext a; simp [sA]) (fun _ => by funext a; simp [sA]) (fun _ => by funext a; simp [sA]) (fun _ => by funext a; simp [sA]) (fun _ => by funext a; simp [sA]) (fun _ => by funext a; simp [sA]) (fun _ => by funext a; simp [sA])
theorem ys_a9 (i : Nat) (v : Int32) : (wY cI cZ ad M).set 9 (ad 9, .inl (cI, 9, .inl (upd (M.1 9) i v))) = wY cI cZ ad (sA M 9 i v) := by
  refine wl_set ?_ (fun j hj hne => ?_)
  · refine congrArg (fun z => Sum.inl (cI, 9, Sum.inl z)) ?_
    funext a
    simp [sA, upd]
  · exact cY_of hj (fun _ => rfl) (fun _ => by funext a; simp [sA]) (fun _ => by funext a; simp [sA]) (fun _ => by funext a; simp [sA]) (fun _ => by funext a; simp [sA]) (fun _ => by funext a; simp [sA]) (fun _ => by funext a; simp [sA]) (fun _ => by funext a; simp [sA]) (fun _ => by funext a; simp [sA]) (fun q => absurd q hne) (fun _ => by funext a; simp [sA]) (fun _ => by funext a; simp [sA]) (fun _ => by funext a; simp [sA]) (fun _ => by funext a; simp [sA]) (fun _ => by funext a; simp [sA]) (fun _ => by funext a; simp [sA]) (fun _ => by funext a; simp [sA]) (fun _ => by funext a; simp [sA])
theorem ys_a10 (i : Nat) (v : Int32) : (wY cI cZ ad M).set 10 (ad 10, .inl (cI, 9, .inl (upd (M.1 10) i v))) = wY cI cZ ad (sA M 10 i v) := by
  refine wl_set ?_ (fun j hj hne => ?_)
  · refine congrArg (fun z => Sum.inl (cI, 9, Sum.inl z)) ?_
    funext a
    simp [sA, upd]
  · exact cY_of hj (fun _ => rfl) (fun _ => by funext a; simp [sA]) (fun _ => by funext a; simp [sA]) (fun _ => by funext a; simp [sA]) (fun _ => by funext a; simp [sA]) (fun _ => by funext a; simp [sA]) (fun _ => by funext a; simp [sA]) (fun _ => by funext a; simp [sA]) (fun _ => by funext a; simp [sA]) (fun _ => by funext a; simp [sA]) (fun q => absurd q hne) (fun _ => by funext a; simp [sA]) (fun _ => by funext a; simp [sA]) (fun _ => by funext a; simp [sA]) (fun _ => by funext a; simp [sA]) (fun _ => by funext a; simp [sA]) (fun _ => by funext a; simp [sA]) (fun _ => by funext a; simp [sA])
theorem ys_a11 (i : Nat) (v : Int32) : (wY cI cZ ad M).set 11 (ad 11, .inl (cI, 9, .inl (upd (M.1 11) i v))) = wY cI cZ ad (sA M 11 i v) := by
  refine wl_set ?_ (fun j hj hne => ?_)
  · refine congrArg (fun z => Sum.inl (cI, 9, Sum.inl z)) ?_
    funext a
    simp [sA, upd]
  · exact cY_of hj (fun _ => rfl) (fun _ => by funext a; simp [sA]) (fun _ => by funext a; simp [sA]) (fun _ => by funext a; simp [sA]) (fun _ => by funext a; simp [sA]) (fun _ => by funext a; simp [sA]) (fun _ => by funext a; simp [sA]) (fun _ => by funext a; simp [sA]) (fun _ => by funext a; simp [sA]) (fun _ => by funext a; simp [sA]) (fun _ => by funext a; simp [sA]) (fun q => absurd q hne) (fun _ => by funext a; simp [sA]) (fun _ => by funext a; simp [sA]) (fun _ => by funext a; simp [sA]) (fun _ => by funext a; simp [sA]) (fun _ => by funext a; simp [sA]) (fun _ => by funext a; simp [sA])
theorem ys_a12 (i : Nat) (v : Int32) : (wY cI cZ ad M).set 12 (ad 12, .inl (cI, 81, .inl (upd (M.1 12) i v))) = wY cI cZ ad (sA M 12 i v) := by
  refine wl_set ?_ (fun j hj hne => ?_)
  · refine congrArg (fun z => Sum.inl (cI, 81, Sum.inl z)) ?_
    funext a
    simp [sA, upd]
  · exact cY_of hj (fun _ => rfl) (fun _ => by funext a; simp [sA]) (fun _ => by funext a; simp [sA]) (fun _ => by funext a; simp [sA]) (fun _ => by funext a; simp [sA]) (fun _ => by funext a; simp [sA]) (fun _ => by funext a; simp [sA]) (fun _ => by funext a; simp [sA]) (fun _ => by funext a; simp [sA]) (fun _ => by funext a; simp [sA]) (fun _ => by funext a; simp [sA]) (fun _ => by funext a; simp [sA]) (fun q => absurd q hne) (fun _ => by funext a; simp [sA]) (fun _ => by funext a; simp [sA]) (fun _ => by funext a; simp [sA]) (fun _ => by funext a; simp [sA]) (fun _ => by funext a; simp [sA])
theorem ys_a13 (i : Nat) (v : Int32) : (wY cI cZ ad M).set 13 (ad 13, .inl (cI, 9, .inl (upd (M.1 13) i v))) = wY cI cZ ad (sA M 13 i v) := by
  refine wl_set ?_ (fun j hj hne => ?_)
  · refine congrArg (fun z => Sum.inl (cI, 9, Sum.inl z)) ?_
    funext a
    simp [sA, upd]
  · exact cY_of hj (fun _ => rfl) (fun _ => by funext a; simp [sA]) (fun _ => by funext a; simp [sA]) (fun _ => by funext a; simp [sA]) (fun _ => by funext a; simp [sA]) (fun _ => by funext a; simp [sA]) (fun _ => by funext a; simp [sA]) (fun _ => by funext a; simp [sA]) (fun _ => by funext a; simp [sA]) (fun _ => by funext a; simp [sA]) (fun _ => by funext a; simp [sA]) (fun _ => by funext a; simp [sA]) (fun _ => by funext a; simp [sA]) (fun q => absurd q hne) (fun _ => by funext a; simp [sA]) (fun _ => by funext a; simp [sA]) (fun _ => by funext a; simp [sA]) (fun _ => by funext a; simp [sA])
theorem ys_a14 (i : Nat) (v : Int32) : (wY cI cZ ad M).set 14 (ad 14, .inl (cI, 9, .inl (upd (M.1 14) i v))) = wY cI cZ ad (sA M 14 i v) := by
  refine wl_set ?_ (fun j hj hne => ?_)
  · refine congrArg (fun z => Sum.inl (cI, 9, Sum.inl z)) ?_
    funext a
    simp [sA, upd]
  · exact cY_of hj (fun _ => rfl) (fun _ => by funext a; simp [sA]) (fun _ => by funext a; simp [sA]) (fun _ => by funext a; simp [sA]) (fun _ => by funext a; simp [sA]) (fun _ => by funext a; simp [sA]) (fun _ => by funext a; simp [sA]) (fun _ => by funext a; simp [sA]) (fun _ => by funext a; simp [sA]) (fun _ => by funext a; simp [sA]) (fun _ => by funext a; simp [sA]) (fun _ => by funext a; simp [sA]) (fun _ => by funext a; simp [sA]) (fun _ => by funext a; simp [sA]) (fun q => absurd q hne) (fun _ => by funext a; simp [sA]) (fun _ => by funext a; simp [sA]) (fun _ => by funext a; simp [sA])
theorem ys_a15 (i : Nat) (v : Int32) : (wY cI cZ ad M).set 15 (ad 15, .inl (cI, 9, .inl (upd (M.1 15) i v))) = wY cI cZ ad (sA M 15 i v) := by
  refine wl_set ?_ (fun j hj hne => ?_)
  · refine congrArg (fun z => Sum.inl (cI, 9, Sum.inl z)) ?_
    funext a
    simp [sA, upd]
  · exact cY_of hj (fun _ => rfl) (fun _ => by funext a; simp [sA]) (fun _ => by funext a; simp [sA]) (fun _ => by funext a; simp [sA]) (fun _ => by funext a; simp [sA]) (fun _ => by funext a; simp [sA]) (fun _ => by funext a; simp [sA]) (fun _ => by funext a; simp [sA]) (fun _ => by funext a; simp [sA]) (fun _ => by funext a; simp [sA]) (fun _ => by funext a; simp [sA]) (fun _ => by funext a; simp [sA]) (fun _ => by funext a; simp [sA]) (fun _ => by funext a; simp [sA]) (fun _ => by funext a; simp [sA]) (fun q => absurd q hne) (fun _ => by funext a; simp [sA]) (fun _ => by funext a; simp [sA])
theorem ys_a16 (i : Nat) (v : Int32) : (wY cI cZ ad M).set 16 (ad 16, .inl (cI, 9, .inl (upd (M.1 16) i v))) = wY cI cZ ad (sA M 16 i v) := by
  refine wl_set ?_ (fun j hj hne => ?_)
  · refine congrArg (fun z => Sum.inl (cI, 9, Sum.inl z)) ?_
    funext a
    simp [sA, upd]
  · exact cY_of hj (fun _ => rfl) (fun _ => by funext a; simp [sA]) (fun _ => by funext a; simp [sA]) (fun _ => by funext a; simp [sA]) (fun _ => by funext a; simp [sA]) (fun _ => by funext a; simp [sA]) (fun _ => by funext a; simp [sA]) (fun _ => by funext a; simp [sA]) (fun _ => by funext a; simp [sA]) (fun _ => by funext a; simp [sA]) (fun _ => by funext a; simp [sA]) (fun _ => by funext a; simp [sA]) (fun _ => by funext a; simp [sA]) (fun _ => by funext a; simp [sA]) (fun _ => by funext a; simp [sA]) (fun _ => by funext a; simp [sA]) (fun q => absurd q hne) (fun _ => by funext a; simp [sA])
theorem ys_a17 (i : Nat) (v : Int32) : (wY cI cZ ad M).set 17 (ad 17, .inl (cI, 1800, .inl (upd (M.1 17) i v))) = wY cI cZ ad (sA M 17 i v) := by
  refine wl_set ?_ (fun j hj hne => ?_)
  · refine congrArg (fun z => Sum.inl (cI, 1800, Sum.inl z)) ?_
    funext a
    simp [sA, upd]
  · exact cY_of hj (fun _ => rfl) (fun _ => by funext a; simp [sA]) (fun _ => by funext a; simp [sA]) (fun _ => by funext a; simp [sA]) (fun _ => by funext a; simp [sA]) (fun _ => by funext a; simp [sA]) (fun _ => by funext a; simp [sA]) (fun _ => by funext a; simp [sA]) (fun _ => by funext a; simp [sA]) (fun _ => by funext a; simp [sA]) (fun _ => by funext a; simp [sA]) (fun _ => by funext a; simp [sA]) (fun _ => by funext a; simp [sA]) (fun _ => by funext a; simp [sA]) (fun _ => by funext a; simp [sA]) (fun _ => by funext a; simp [sA]) (fun _ => by funext a; simp [sA]) (fun q => absurd q hne)
end AtY
end
