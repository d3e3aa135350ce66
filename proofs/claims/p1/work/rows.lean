section
-- ===== PART A: goes FIRST, ahead of the names: the tables' words, and 'selects' of the private methods out of them =====
/-- a private method of a class that the tables say can be made, by its rows of tables_1 -/
def lw_okq (q : MethodName × Nat) : Prop := (q.1.cls ≠ "java/lang/invoke/MethodHandle" ∧ q.1.cls ≠ "java/lang/invoke/VarHandle") ∧ Cond.instantiable q.1.cls q.2 ∈ tables_1 ∧ Cond.privateMethod q.1 ∈ tables_1 ∧ Cond.instanceMethod q.1 ∈ tables_1
theorem lw_p0 : lw_okq (⟨"TaleMachine$Teller", "goOn", "(LTaleMachine$Frame;)Z"⟩, 9) := ⟨⟨by decide +kernel, by decide +kernel⟩, List.mem_of_getElem? (i := 124) (by decide +kernel), List.mem_of_getElem? (i := 270) (by decide +kernel), List.mem_of_getElem? (i := 271) (by decide +kernel)⟩
theorem lw_p1 : lw_okq (⟨"TaleMachine$Teller", "put", "(LTaleMachine$Frame;II)Z"⟩, 9) := ⟨⟨by decide +kernel, by decide +kernel⟩, List.mem_of_getElem? (i := 124) (by decide +kernel), List.mem_of_getElem? (i := 274) (by decide +kernel), List.mem_of_getElem? (i := 275) (by decide +kernel)⟩
theorem lw_p2 : lw_okq (⟨"TaleMachine$Teller", "isLocal", "(LTaleMachine$Frame;I)Z"⟩, 9) := ⟨⟨by decide +kernel, by decide +kernel⟩, List.mem_of_getElem? (i := 124) (by decide +kernel), List.mem_of_getElem? (i := 299) (by decide +kernel), List.mem_of_getElem? (i := 300) (by decide +kernel)⟩
theorem lw_p3 : lw_okq (⟨"TaleMachine$Teller", "putCopy", "(LTaleMachine$Frame;I)Z"⟩, 9) := ⟨⟨by decide +kernel, by decide +kernel⟩, List.mem_of_getElem? (i := 124) (by decide +kernel), List.mem_of_getElem? (i := 303) (by decide +kernel), List.mem_of_getElem? (i := 304) (by decide +kernel)⟩
theorem lw_p4 : lw_okq (⟨"TaleMachine$Teller", "takeIntoLocal", "(LTaleMachine$Frame;I)Z"⟩, 9) := ⟨⟨by decide +kernel, by decide +kernel⟩, List.mem_of_getElem? (i := 124) (by decide +kernel), List.mem_of_getElem? (i := 307) (by decide +kernel), List.mem_of_getElem? (i := 308) (by decide +kernel)⟩
theorem lw_p5 : lw_okq (⟨"TaleMachine$Teller", "canTake", "(LTaleMachine$Frame;I)Z"⟩, 9) := ⟨⟨by decide +kernel, by decide +kernel⟩, List.mem_of_getElem? (i := 124) (by decide +kernel), List.mem_of_getElem? (i := 311) (by decide +kernel), List.mem_of_getElem? (i := 312) (by decide +kernel)⟩
theorem lw_p6 : lw_okq (⟨"TaleMachine$Teller", "topKind", "()I"⟩, 9) := ⟨⟨by decide +kernel, by decide +kernel⟩, List.mem_of_getElem? (i := 124) (by decide +kernel), List.mem_of_getElem? (i := 315) (by decide +kernel), List.mem_of_getElem? (i := 316) (by decide +kernel)⟩
theorem lw_p7 : lw_okq (⟨"TaleMachine$Teller", "topInt", "()I"⟩, 9) := ⟨⟨by decide +kernel, by decide +kernel⟩, List.mem_of_getElem? (i := 124) (by decide +kernel), List.mem_of_getElem? (i := 319) (by decide +kernel), List.mem_of_getElem? (i := 320) (by decide +kernel)⟩
theorem lw_p8 : lw_okq (⟨"TaleMachine$Teller", "take", "(LTaleMachine$Frame;I)Z"⟩, 9) := ⟨⟨by decide +kernel, by decide +kernel⟩, List.mem_of_getElem? (i := 124) (by decide +kernel), List.mem_of_getElem? (i := 323) (by decide +kernel), List.mem_of_getElem? (i := 324) (by decide +kernel)⟩
theorem lw_p9 : lw_okq (⟨"TaleMachine$Teller", "calculate", "(LTaleMachine$Frame;I)Z"⟩, 9) := ⟨⟨by decide +kernel, by decide +kernel⟩, List.mem_of_getElem? (i := 124) (by decide +kernel), List.mem_of_getElem? (i := 327) (by decide +kernel), List.mem_of_getElem? (i := 328) (by decide +kernel)⟩
theorem lw_p10 : lw_okq (⟨"TaleMachine$Teller", "raise", "(I)Z"⟩, 9) := ⟨⟨by decide +kernel, by decide +kernel⟩, List.mem_of_getElem? (i := 124) (by decide +kernel), List.mem_of_getElem? (i := 331) (by decide +kernel), List.mem_of_getElem? (i := 332) (by decide +kernel)⟩
theorem lw_p11 : lw_okq (⟨"TaleMachine$Teller", "goal", "(LTaleMachine$Frame;)I"⟩, 9) := ⟨⟨by decide +kernel, by decide +kernel⟩, List.mem_of_getElem? (i := 124) (by decide +kernel), List.mem_of_getElem? (i := 342) (by decide +kernel), List.mem_of_getElem? (i := 343) (by decide +kernel)⟩
theorem lw_p12 : lw_okq (⟨"TaleMachine$Teller", "finish", "(III)Z"⟩, 9) := ⟨⟨by decide +kernel, by decide +kernel⟩, List.mem_of_getElem? (i := 124) (by decide +kernel), List.mem_of_getElem? (i := 350) (by decide +kernel), List.mem_of_getElem? (i := 351) (by decide +kernel)⟩
theorem lw_p13 : lw_okq (⟨"TaleMachine$Teller", "putTruthFor", "(LTaleMachine$Frame;IZ)Z"⟩, 9) := ⟨⟨by decide +kernel, by decide +kernel⟩, List.mem_of_getElem? (i := 124) (by decide +kernel), List.mem_of_getElem? (i := 362) (by decide +kernel), List.mem_of_getElem? (i := 363) (by decide +kernel)⟩
theorem lw_p14 : lw_okq (⟨"TaleMachine$Teller", "like", "(LTaleMachine$Frame;)Z"⟩, 9) := ⟨⟨by decide +kernel, by decide +kernel⟩, List.mem_of_getElem? (i := 124) (by decide +kernel), List.mem_of_getElem? (i := 369) (by decide +kernel), List.mem_of_getElem? (i := 370) (by decide +kernel)⟩
theorem lw_p15 : lw_okq (⟨"TaleMachine$Teller", "isFalse", "(I)Z"⟩, 9) := ⟨⟨by decide +kernel, by decide +kernel⟩, List.mem_of_getElem? (i := 124) (by decide +kernel), List.mem_of_getElem? (i := 373) (by decide +kernel), List.mem_of_getElem? (i := 374) (by decide +kernel)⟩
def lw_privs_1 : List (MethodName × Nat) := [(⟨"TaleMachine$Teller", "goOn", "(LTaleMachine$Frame;)Z"⟩, 9), (⟨"TaleMachine$Teller", "put", "(LTaleMachine$Frame;II)Z"⟩, 9), (⟨"TaleMachine$Teller", "isLocal", "(LTaleMachine$Frame;I)Z"⟩, 9), (⟨"TaleMachine$Teller", "putCopy", "(LTaleMachine$Frame;I)Z"⟩, 9), (⟨"TaleMachine$Teller", "takeIntoLocal", "(LTaleMachine$Frame;I)Z"⟩, 9), (⟨"TaleMachine$Teller", "canTake", "(LTaleMachine$Frame;I)Z"⟩, 9), (⟨"TaleMachine$Teller", "topKind", "()I"⟩, 9), (⟨"TaleMachine$Teller", "topInt", "()I"⟩, 9), (⟨"TaleMachine$Teller", "take", "(LTaleMachine$Frame;I)Z"⟩, 9), (⟨"TaleMachine$Teller", "calculate", "(LTaleMachine$Frame;I)Z"⟩, 9), (⟨"TaleMachine$Teller", "raise", "(I)Z"⟩, 9), (⟨"TaleMachine$Teller", "goal", "(LTaleMachine$Frame;)I"⟩, 9), (⟨"TaleMachine$Teller", "finish", "(III)Z"⟩, 9), (⟨"TaleMachine$Teller", "putTruthFor", "(LTaleMachine$Frame;IZ)Z"⟩, 9), (⟨"TaleMachine$Teller", "like", "(LTaleMachine$Frame;)Z"⟩, 9), (⟨"TaleMachine$Teller", "isFalse", "(I)Z"⟩, 9)]
theorem lw_r1 : ∀ q ∈ lw_privs_1, lw_okq q := List.forall_mem_cons.mpr ⟨lw_p0, List.forall_mem_cons.mpr ⟨lw_p1, List.forall_mem_cons.mpr ⟨lw_p2, List.forall_mem_cons.mpr ⟨lw_p3, List.forall_mem_cons.mpr ⟨lw_p4, List.forall_mem_cons.mpr ⟨lw_p5, List.forall_mem_cons.mpr ⟨lw_p6, List.forall_mem_cons.mpr ⟨lw_p7, List.forall_mem_cons.mpr ⟨lw_p8, List.forall_mem_cons.mpr ⟨lw_p9, List.forall_mem_cons.mpr ⟨lw_p10, List.forall_mem_cons.mpr ⟨lw_p11, List.forall_mem_cons.mpr ⟨lw_p12, List.forall_mem_cons.mpr ⟨lw_p13, List.forall_mem_cons.mpr ⟨lw_p14, List.forall_mem_cons.mpr ⟨lw_p15, fun _ h => absurd h List.not_mem_nil⟩⟩⟩⟩⟩⟩⟩⟩⟩⟩⟩⟩⟩⟩⟩⟩
theorem lw_p16 : lw_okq (⟨"TaleMachine$Teller", "jump", "(LTaleMachine$Frame;I)Z"⟩, 9) := ⟨⟨by decide +kernel, by decide +kernel⟩, List.mem_of_getElem? (i := 124) (by decide +kernel), List.mem_of_getElem? (i := 377) (by decide +kernel), List.mem_of_getElem? (i := 378) (by decide +kernel)⟩
theorem lw_p17 : lw_okq (⟨"TaleMachine$Teller", "jumpIfFalse", "(LTaleMachine$Frame;I)Z"⟩, 9) := ⟨⟨by decide +kernel, by decide +kernel⟩, List.mem_of_getElem? (i := 124) (by decide +kernel), List.mem_of_getElem? (i := 381) (by decide +kernel), List.mem_of_getElem? (i := 382) (by decide +kernel)⟩
theorem lw_p18 : lw_okq (⟨"TaleMachine$Teller", "ask", "(LTaleMachine$Frame;II)Z"⟩, 9) := ⟨⟨by decide +kernel, by decide +kernel⟩, List.mem_of_getElem? (i := 124) (by decide +kernel), List.mem_of_getElem? (i := 385) (by decide +kernel), List.mem_of_getElem? (i := 386) (by decide +kernel)⟩
theorem lw_p19 : lw_okq (⟨"TaleMachine$Teller", "isObjectOnTop", "(LTaleMachine$Frame;)Z"⟩, 9) := ⟨⟨by decide +kernel, by decide +kernel⟩, List.mem_of_getElem? (i := 124) (by decide +kernel), List.mem_of_getElem? (i := 392) (by decide +kernel), List.mem_of_getElem? (i := 393) (by decide +kernel)⟩
theorem lw_p20 : lw_okq (⟨"TaleMachine$World", "holderFrom", "(II)I"⟩, 9) := ⟨⟨by decide +kernel, by decide +kernel⟩, List.mem_of_getElem? (i := 42) (by decide +kernel), List.mem_of_getElem? (i := 401) (by decide +kernel), List.mem_of_getElem? (i := 402) (by decide +kernel)⟩
theorem lw_p21 : lw_okq (⟨"TaleMachine$Teller", "answer", "(LTaleMachine$Frame;IIIII)Z"⟩, 9) := ⟨⟨by decide +kernel, by decide +kernel⟩, List.mem_of_getElem? (i := 124) (by decide +kernel), List.mem_of_getElem? (i := 409) (by decide +kernel), List.mem_of_getElem? (i := 410) (by decide +kernel)⟩
theorem lw_p22 : lw_okq (⟨"TaleMachine$Teller", "enter", "(IIIII)Z"⟩, 9) := ⟨⟨by decide +kernel, by decide +kernel⟩, List.mem_of_getElem? (i := 124) (by decide +kernel), List.mem_of_getElem? (i := 418) (by decide +kernel), List.mem_of_getElem? (i := 419) (by decide +kernel)⟩
theorem lw_p23 : lw_okq (⟨"TaleMachine$Teller", "setOwn", "(LTaleMachine$Frame;I)Z"⟩, 9) := ⟨⟨by decide +kernel, by decide +kernel⟩, List.mem_of_getElem? (i := 124) (by decide +kernel), List.mem_of_getElem? (i := 434) (by decide +kernel), List.mem_of_getElem? (i := 435) (by decide +kernel)⟩
theorem lw_p24 : lw_okq (⟨"TaleMachine$Teller", "inherited", "(LTaleMachine$Frame;II)Z"⟩, 9) := ⟨⟨by decide +kernel, by decide +kernel⟩, List.mem_of_getElem? (i := 124) (by decide +kernel), List.mem_of_getElem? (i := 442) (by decide +kernel), List.mem_of_getElem? (i := 443) (by decide +kernel)⟩
theorem lw_p25 : lw_okq (⟨"TaleMachine$Teller", "end", "(LTaleMachine$Frame;II)Z"⟩, 9) := ⟨⟨by decide +kernel, by decide +kernel⟩, List.mem_of_getElem? (i := 124) (by decide +kernel), List.mem_of_getElem? (i := 451) (by decide +kernel), List.mem_of_getElem? (i := 452) (by decide +kernel)⟩
theorem lw_p26 : lw_okq (⟨"TaleMachine$Teller", "make", "(LTaleMachine$Frame;I)Z"⟩, 9) := ⟨⟨by decide +kernel, by decide +kernel⟩, List.mem_of_getElem? (i := 124) (by decide +kernel), List.mem_of_getElem? (i := 455) (by decide +kernel), List.mem_of_getElem? (i := 456) (by decide +kernel)⟩
theorem lw_p27 : lw_okq (⟨"TaleMachine$World", "clearOwn", "(I)V"⟩, 9) := ⟨⟨by decide +kernel, by decide +kernel⟩, List.mem_of_getElem? (i := 42) (by decide +kernel), List.mem_of_getElem? (i := 467) (by decide +kernel), List.mem_of_getElem? (i := 468) (by decide +kernel)⟩
theorem lw_p28 : lw_okq (⟨"TaleMachine$Teller", "testOf", "(LTaleMachine$Frame;I)Z"⟩, 9) := ⟨⟨by decide +kernel, by decide +kernel⟩, List.mem_of_getElem? (i := 124) (by decide +kernel), List.mem_of_getElem? (i := 472) (by decide +kernel), List.mem_of_getElem? (i := 473) (by decide +kernel)⟩
theorem lw_p29 : lw_okq (⟨"TaleMachine$Teller", "setPoint", "(LTaleMachine$Frame;)Z"⟩, 9) := ⟨⟨by decide +kernel, by decide +kernel⟩, List.mem_of_getElem? (i := 124) (by decide +kernel), List.mem_of_getElem? (i := 481) (by decide +kernel), List.mem_of_getElem? (i := 482) (by decide +kernel)⟩
theorem lw_p30 : lw_okq (⟨"TaleMachine$History", "dropOldest", "()V"⟩, 4) := ⟨⟨by decide +kernel, by decide +kernel⟩, List.mem_of_getElem? (i := 100) (by decide +kernel), List.mem_of_getElem? (i := 489) (by decide +kernel), List.mem_of_getElem? (i := 490) (by decide +kernel)⟩
theorem lw_p31 : lw_okq (⟨"TaleMachine$Teller", "save", "(LTaleMachine$Frame;I)Z"⟩, 9) := ⟨⟨by decide +kernel, by decide +kernel⟩, List.mem_of_getElem? (i := 124) (by decide +kernel), List.mem_of_getElem? (i := 502) (by decide +kernel), List.mem_of_getElem? (i := 503) (by decide +kernel)⟩
def lw_privs_2 : List (MethodName × Nat) := [(⟨"TaleMachine$Teller", "jump", "(LTaleMachine$Frame;I)Z"⟩, 9), (⟨"TaleMachine$Teller", "jumpIfFalse", "(LTaleMachine$Frame;I)Z"⟩, 9), (⟨"TaleMachine$Teller", "ask", "(LTaleMachine$Frame;II)Z"⟩, 9), (⟨"TaleMachine$Teller", "isObjectOnTop", "(LTaleMachine$Frame;)Z"⟩, 9), (⟨"TaleMachine$World", "holderFrom", "(II)I"⟩, 9), (⟨"TaleMachine$Teller", "answer", "(LTaleMachine$Frame;IIIII)Z"⟩, 9), (⟨"TaleMachine$Teller", "enter", "(IIIII)Z"⟩, 9), (⟨"TaleMachine$Teller", "setOwn", "(LTaleMachine$Frame;I)Z"⟩, 9), (⟨"TaleMachine$Teller", "inherited", "(LTaleMachine$Frame;II)Z"⟩, 9), (⟨"TaleMachine$Teller", "end", "(LTaleMachine$Frame;II)Z"⟩, 9), (⟨"TaleMachine$Teller", "make", "(LTaleMachine$Frame;I)Z"⟩, 9), (⟨"TaleMachine$World", "clearOwn", "(I)V"⟩, 9), (⟨"TaleMachine$Teller", "testOf", "(LTaleMachine$Frame;I)Z"⟩, 9), (⟨"TaleMachine$Teller", "setPoint", "(LTaleMachine$Frame;)Z"⟩, 9), (⟨"TaleMachine$History", "dropOldest", "()V"⟩, 4), (⟨"TaleMachine$Teller", "save", "(LTaleMachine$Frame;I)Z"⟩, 9)]
theorem lw_r2 : ∀ q ∈ lw_privs_2, lw_okq q := List.forall_mem_cons.mpr ⟨lw_p16, List.forall_mem_cons.mpr ⟨lw_p17, List.forall_mem_cons.mpr ⟨lw_p18, List.forall_mem_cons.mpr ⟨lw_p19, List.forall_mem_cons.mpr ⟨lw_p20, List.forall_mem_cons.mpr ⟨lw_p21, List.forall_mem_cons.mpr ⟨lw_p22, List.forall_mem_cons.mpr ⟨lw_p23, List.forall_mem_cons.mpr ⟨lw_p24, List.forall_mem_cons.mpr ⟨lw_p25, List.forall_mem_cons.mpr ⟨lw_p26, List.forall_mem_cons.mpr ⟨lw_p27, List.forall_mem_cons.mpr ⟨lw_p28, List.forall_mem_cons.mpr ⟨lw_p29, List.forall_mem_cons.mpr ⟨lw_p30, List.forall_mem_cons.mpr ⟨lw_p31, fun _ h => absurd h List.not_mem_nil⟩⟩⟩⟩⟩⟩⟩⟩⟩⟩⟩⟩⟩⟩⟩⟩
theorem lw_p32 : lw_okq (⟨"TaleMachine$Teller", "bringBack", "(LTaleMachine$Frame;I)Z"⟩, 9) := ⟨⟨by decide +kernel, by decide +kernel⟩, List.mem_of_getElem? (i := 124) (by decide +kernel), List.mem_of_getElem? (i := 510) (by decide +kernel), List.mem_of_getElem? (i := 511) (by decide +kernel)⟩
theorem lw_p33 : lw_okq (⟨"TaleMachine$World", "reachFrom", "(I)V"⟩, 9) := ⟨⟨by decide +kernel, by decide +kernel⟩, List.mem_of_getElem? (i := 42) (by decide +kernel), List.mem_of_getElem? (i := 548) (by decide +kernel), List.mem_of_getElem? (i := 549) (by decide +kernel)⟩
theorem lw_p34 : lw_okq (⟨"java/lang/Throwable", "fillInStackTrace", "(I)Ljava/lang/Throwable;"⟩, 6) := ⟨⟨by decide +kernel, by decide +kernel⟩, List.mem_of_getElem? (i := 607) (by decide +kernel), List.mem_of_getElem? (i := 605) (by decide +kernel), List.mem_of_getElem? (i := 606) (by decide +kernel)⟩
theorem lw_p35 : lw_okq (⟨"TaleMachine$World", "gather", "(II)I"⟩, 9) := ⟨⟨by decide +kernel, by decide +kernel⟩, List.mem_of_getElem? (i := 42) (by decide +kernel), List.mem_of_getElem? (i := 661) (by decide +kernel), List.mem_of_getElem? (i := 662) (by decide +kernel)⟩
theorem lw_p36 : lw_okq (⟨"TaleMachineModel", "isParent", "(I)Z"⟩, 31) := ⟨⟨by decide +kernel, by decide +kernel⟩, List.mem_of_getElem? (i := 750) (by decide +kernel), List.mem_of_getElem? (i := 865) (by decide +kernel), List.mem_of_getElem? (i := 866) (by decide +kernel)⟩
theorem lw_p37 : lw_okq (⟨"TaleMachineModel", "isThere", "(I)Z"⟩, 31) := ⟨⟨by decide +kernel, by decide +kernel⟩, List.mem_of_getElem? (i := 750) (by decide +kernel), List.mem_of_getElem? (i := 869) (by decide +kernel), List.mem_of_getElem? (i := 870) (by decide +kernel)⟩
theorem lw_p38 : lw_okq (⟨"TaleMachineModel", "empty", "(I)V"⟩, 31) := ⟨⟨by decide +kernel, by decide +kernel⟩, List.mem_of_getElem? (i := 750) (by decide +kernel), List.mem_of_getElem? (i := 873) (by decide +kernel), List.mem_of_getElem? (i := 874) (by decide +kernel)⟩
theorem lw_p39 : lw_okq (⟨"TaleMachineModel", "placeOf", "(II)I"⟩, 31) := ⟨⟨by decide +kernel, by decide +kernel⟩, List.mem_of_getElem? (i := 750) (by decide +kernel), List.mem_of_getElem? (i := 877) (by decide +kernel), List.mem_of_getElem? (i := 878) (by decide +kernel)⟩
theorem lw_p40 : lw_okq (⟨"TaleMachineModel", "give", "(IIII)V"⟩, 31) := ⟨⟨by decide +kernel, by decide +kernel⟩, List.mem_of_getElem? (i := 750) (by decide +kernel), List.mem_of_getElem? (i := 885) (by decide +kernel), List.mem_of_getElem? (i := 886) (by decide +kernel)⟩
theorem lw_p41 : lw_okq (⟨"TaleMachineModel", "owner", "(III)I"⟩, 31) := ⟨⟨by decide +kernel, by decide +kernel⟩, List.mem_of_getElem? (i := 750) (by decide +kernel), List.mem_of_getElem? (i := 893) (by decide +kernel), List.mem_of_getElem? (i := 894) (by decide +kernel)⟩
theorem lw_p42 : lw_okq (⟨"TaleMachineModel", "findLine", "(I)V"⟩, 31) := ⟨⟨by decide +kernel, by decide +kernel⟩, List.mem_of_getElem? (i := 750) (by decide +kernel), List.mem_of_getElem? (i := 897) (by decide +kernel), List.mem_of_getElem? (i := 898) (by decide +kernel)⟩
theorem lw_p43 : lw_okq (⟨"TaleMachineModel", "parents", "(I)I"⟩, 31) := ⟨⟨by decide +kernel, by decide +kernel⟩, List.mem_of_getElem? (i := 750) (by decide +kernel), List.mem_of_getElem? (i := 901) (by decide +kernel), List.mem_of_getElem? (i := 902) (by decide +kernel)⟩
theorem lw_p44 : lw_okq (⟨"TaleMachineModel", "parent", "(II)I"⟩, 31) := ⟨⟨by decide +kernel, by decide +kernel⟩, List.mem_of_getElem? (i := 750) (by decide +kernel), List.mem_of_getElem? (i := 905) (by decide +kernel), List.mem_of_getElem? (i := 906) (by decide +kernel)⟩
theorem lw_p45 : lw_okq (⟨"TaleMachineModel", "hasOwn", "(II)Z"⟩, 31) := ⟨⟨by decide +kernel, by decide +kernel⟩, List.mem_of_getElem? (i := 750) (by decide +kernel), List.mem_of_getElem? (i := 909) (by decide +kernel), List.mem_of_getElem? (i := 910) (by decide +kernel)⟩
theorem lw_p46 : lw_okq (⟨"TaleMachineModel", "sound", "(II)Z"⟩, 31) := ⟨⟨by decide +kernel, by decide +kernel⟩, List.mem_of_getElem? (i := 750) (by decide +kernel), List.mem_of_getElem? (i := 913) (by decide +kernel), List.mem_of_getElem? (i := 914) (by decide +kernel)⟩
theorem lw_p47 : lw_okq (⟨"TaleMachineModel", "at", "(I)I"⟩, 31) := ⟨⟨by decide +kernel, by decide +kernel⟩, List.mem_of_getElem? (i := 750) (by decide +kernel), List.mem_of_getElem? (i := 917) (by decide +kernel), List.mem_of_getElem? (i := 918) (by decide +kernel)⟩
def lw_privs_3 : List (MethodName × Nat) := [(⟨"TaleMachine$Teller", "bringBack", "(LTaleMachine$Frame;I)Z"⟩, 9), (⟨"TaleMachine$World", "reachFrom", "(I)V"⟩, 9), (⟨"java/lang/Throwable", "fillInStackTrace", "(I)Ljava/lang/Throwable;"⟩, 6), (⟨"TaleMachine$World", "gather", "(II)I"⟩, 9), (⟨"TaleMachineModel", "isParent", "(I)Z"⟩, 31), (⟨"TaleMachineModel", "isThere", "(I)Z"⟩, 31), (⟨"TaleMachineModel", "empty", "(I)V"⟩, 31), (⟨"TaleMachineModel", "placeOf", "(II)I"⟩, 31), (⟨"TaleMachineModel", "give", "(IIII)V"⟩, 31), (⟨"TaleMachineModel", "owner", "(III)I"⟩, 31), (⟨"TaleMachineModel", "findLine", "(I)V"⟩, 31), (⟨"TaleMachineModel", "parents", "(I)I"⟩, 31), (⟨"TaleMachineModel", "parent", "(II)I"⟩, 31), (⟨"TaleMachineModel", "hasOwn", "(II)Z"⟩, 31), (⟨"TaleMachineModel", "sound", "(II)Z"⟩, 31), (⟨"TaleMachineModel", "at", "(I)I"⟩, 31)]
theorem lw_r3 : ∀ q ∈ lw_privs_3, lw_okq q := List.forall_mem_cons.mpr ⟨lw_p32, List.forall_mem_cons.mpr ⟨lw_p33, List.forall_mem_cons.mpr ⟨lw_p34, List.forall_mem_cons.mpr ⟨lw_p35, List.forall_mem_cons.mpr ⟨lw_p36, List.forall_mem_cons.mpr ⟨lw_p37, List.forall_mem_cons.mpr ⟨lw_p38, List.forall_mem_cons.mpr ⟨lw_p39, List.forall_mem_cons.mpr ⟨lw_p40, List.forall_mem_cons.mpr ⟨lw_p41, List.forall_mem_cons.mpr ⟨lw_p42, List.forall_mem_cons.mpr ⟨lw_p43, List.forall_mem_cons.mpr ⟨lw_p44, List.forall_mem_cons.mpr ⟨lw_p45, List.forall_mem_cons.mpr ⟨lw_p46, List.forall_mem_cons.mpr ⟨lw_p47, fun _ h => absurd h List.not_mem_nil⟩⟩⟩⟩⟩⟩⟩⟩⟩⟩⟩⟩⟩⟩⟩⟩
theorem lw_p48 : lw_okq (⟨"TaleMachineModel", "enter", "(IIII)V"⟩, 31) := ⟨⟨by decide +kernel, by decide +kernel⟩, List.mem_of_getElem? (i := 750) (by decide +kernel), List.mem_of_getElem? (i := 921) (by decide +kernel), List.mem_of_getElem? (i := 922) (by decide +kernel)⟩
theorem lw_p49 : lw_okq (⟨"TaleMachineModel", "push", "(II)V"⟩, 31) := ⟨⟨by decide +kernel, by decide +kernel⟩, List.mem_of_getElem? (i := 750) (by decide +kernel), List.mem_of_getElem? (i := 925) (by decide +kernel), List.mem_of_getElem? (i := 926) (by decide +kernel)⟩
theorem lw_p50 : lw_okq (⟨"TaleMachineModel", "one", "()Z"⟩, 31) := ⟨⟨by decide +kernel, by decide +kernel⟩, List.mem_of_getElem? (i := 750) (by decide +kernel), List.mem_of_getElem? (i := 933) (by decide +kernel), List.mem_of_getElem? (i := 934) (by decide +kernel)⟩
theorem lw_p51 : lw_okq (⟨"TaleMachineModel", "putting", "(III)Z"⟩, 31) := ⟨⟨by decide +kernel, by decide +kernel⟩, List.mem_of_getElem? (i := 750) (by decide +kernel), List.mem_of_getElem? (i := 940) (by decide +kernel), List.mem_of_getElem? (i := 941) (by decide +kernel)⟩
theorem lw_p52 : lw_okq (⟨"TaleMachineModel", "taken", "()I"⟩, 31) := ⟨⟨by decide +kernel, by decide +kernel⟩, List.mem_of_getElem? (i := 750) (by decide +kernel), List.mem_of_getElem? (i := 944) (by decide +kernel), List.mem_of_getElem? (i := 945) (by decide +kernel)⟩
theorem lw_p53 : lw_okq (⟨"TaleMachineModel", "signed", "(I)I"⟩, 31) := ⟨⟨by decide +kernel, by decide +kernel⟩, List.mem_of_getElem? (i := 750) (by decide +kernel), List.mem_of_getElem? (i := 948) (by decide +kernel), List.mem_of_getElem? (i := 949) (by decide +kernel)⟩
theorem lw_p54 : lw_okq (⟨"TaleMachineModel", "two", "(I)I"⟩, 31) := ⟨⟨by decide +kernel, by decide +kernel⟩, List.mem_of_getElem? (i := 750) (by decide +kernel), List.mem_of_getElem? (i := 952) (by decide +kernel), List.mem_of_getElem? (i := 953) (by decide +kernel)⟩
theorem lw_p55 : lw_okq (⟨"TaleMachineModel", "reckoning", "(I)Z"⟩, 31) := ⟨⟨by decide +kernel, by decide +kernel⟩, List.mem_of_getElem? (i := 750) (by decide +kernel), List.mem_of_getElem? (i := 956) (by decide +kernel), List.mem_of_getElem? (i := 957) (by decide +kernel)⟩
theorem lw_p56 : lw_okq (⟨"TaleMachineModel", "isFalse", "(I)Z"⟩, 31) := ⟨⟨by decide +kernel, by decide +kernel⟩, List.mem_of_getElem? (i := 750) (by decide +kernel), List.mem_of_getElem? (i := 960) (by decide +kernel), List.mem_of_getElem? (i := 961) (by decide +kernel)⟩
theorem lw_p57 : lw_okq (⟨"TaleMachineModel", "truth", "(Z)Z"⟩, 31) := ⟨⟨by decide +kernel, by decide +kernel⟩, List.mem_of_getElem? (i := 750) (by decide +kernel), List.mem_of_getElem? (i := 964) (by decide +kernel), List.mem_of_getElem? (i := 965) (by decide +kernel)⟩
theorem lw_p58 : lw_okq (⟨"TaleMachineModel", "toss", "(I)Z"⟩, 31) := ⟨⟨by decide +kernel, by decide +kernel⟩, List.mem_of_getElem? (i := 750) (by decide +kernel), List.mem_of_getElem? (i := 968) (by decide +kernel), List.mem_of_getElem? (i := 969) (by decide +kernel)⟩
theorem lw_p59 : lw_okq (⟨"TaleMachineModel", "handler", "(II)I"⟩, 31) := ⟨⟨by decide +kernel, by decide +kernel⟩, List.mem_of_getElem? (i := 750) (by decide +kernel), List.mem_of_getElem? (i := 972) (by decide +kernel), List.mem_of_getElem? (i := 973) (by decide +kernel)⟩
theorem lw_p60 : lw_okq (⟨"TaleMachineModel", "belongs", "(II)Z"⟩, 31) := ⟨⟨by decide +kernel, by decide +kernel⟩, List.mem_of_getElem? (i := 750) (by decide +kernel), List.mem_of_getElem? (i := 976) (by decide +kernel), List.mem_of_getElem? (i := 977) (by decide +kernel)⟩
theorem lw_p61 : lw_okq (⟨"TaleMachineModel", "over", "(I)I"⟩, 31) := ⟨⟨by decide +kernel, by decide +kernel⟩, List.mem_of_getElem? (i := 750) (by decide +kernel), List.mem_of_getElem? (i := 980) (by decide +kernel), List.mem_of_getElem? (i := 981) (by decide +kernel)⟩
theorem lw_p62 : lw_okq (⟨"TaleMachineModel", "going", "(III)Z"⟩, 31) := ⟨⟨by decide +kernel, by decide +kernel⟩, List.mem_of_getElem? (i := 750) (by decide +kernel), List.mem_of_getElem? (i := 984) (by decide +kernel), List.mem_of_getElem? (i := 985) (by decide +kernel)⟩
theorem lw_p63 : lw_okq (⟨"TaleMachineModel", "isObject", "(I)Z"⟩, 31) := ⟨⟨by decide +kernel, by decide +kernel⟩, List.mem_of_getElem? (i := 750) (by decide +kernel), List.mem_of_getElem? (i := 988) (by decide +kernel), List.mem_of_getElem? (i := 989) (by decide +kernel)⟩
def lw_privs_4 : List (MethodName × Nat) := [(⟨"TaleMachineModel", "enter", "(IIII)V"⟩, 31), (⟨"TaleMachineModel", "push", "(II)V"⟩, 31), (⟨"TaleMachineModel", "one", "()Z"⟩, 31), (⟨"TaleMachineModel", "putting", "(III)Z"⟩, 31), (⟨"TaleMachineModel", "taken", "()I"⟩, 31), (⟨"TaleMachineModel", "signed", "(I)I"⟩, 31), (⟨"TaleMachineModel", "two", "(I)I"⟩, 31), (⟨"TaleMachineModel", "reckoning", "(I)Z"⟩, 31), (⟨"TaleMachineModel", "isFalse", "(I)Z"⟩, 31), (⟨"TaleMachineModel", "truth", "(Z)Z"⟩, 31), (⟨"TaleMachineModel", "toss", "(I)Z"⟩, 31), (⟨"TaleMachineModel", "handler", "(II)I"⟩, 31), (⟨"TaleMachineModel", "belongs", "(II)Z"⟩, 31), (⟨"TaleMachineModel", "over", "(I)I"⟩, 31), (⟨"TaleMachineModel", "going", "(III)Z"⟩, 31), (⟨"TaleMachineModel", "isObject", "(I)Z"⟩, 31)]
theorem lw_r4 : ∀ q ∈ lw_privs_4, lw_okq q := List.forall_mem_cons.mpr ⟨lw_p48, List.forall_mem_cons.mpr ⟨lw_p49, List.forall_mem_cons.mpr ⟨lw_p50, List.forall_mem_cons.mpr ⟨lw_p51, List.forall_mem_cons.mpr ⟨lw_p52, List.forall_mem_cons.mpr ⟨lw_p53, List.forall_mem_cons.mpr ⟨lw_p54, List.forall_mem_cons.mpr ⟨lw_p55, List.forall_mem_cons.mpr ⟨lw_p56, List.forall_mem_cons.mpr ⟨lw_p57, List.forall_mem_cons.mpr ⟨lw_p58, List.forall_mem_cons.mpr ⟨lw_p59, List.forall_mem_cons.mpr ⟨lw_p60, List.forall_mem_cons.mpr ⟨lw_p61, List.forall_mem_cons.mpr ⟨lw_p62, List.forall_mem_cons.mpr ⟨lw_p63, fun _ h => absurd h List.not_mem_nil⟩⟩⟩⟩⟩⟩⟩⟩⟩⟩⟩⟩⟩⟩⟩⟩
theorem lw_p64 : lw_okq (⟨"TaleMachineModel", "ask", "(IIIII)Z"⟩, 31) := ⟨⟨by decide +kernel, by decide +kernel⟩, List.mem_of_getElem? (i := 750) (by decide +kernel), List.mem_of_getElem? (i := 992) (by decide +kernel), List.mem_of_getElem? (i := 993) (by decide +kernel)⟩
theorem lw_p65 : lw_okq (⟨"TaleMachineModel", "call", "(IIIII)Z"⟩, 31) := ⟨⟨by decide +kernel, by decide +kernel⟩, List.mem_of_getElem? (i := 750) (by decide +kernel), List.mem_of_getElem? (i := 996) (by decide +kernel), List.mem_of_getElem? (i := 997) (by decide +kernel)⟩
theorem lw_p66 : lw_okq (⟨"TaleMachineModel", "assign", "(I)Z"⟩, 31) := ⟨⟨by decide +kernel, by decide +kernel⟩, List.mem_of_getElem? (i := 750) (by decide +kernel), List.mem_of_getElem? (i := 1000) (by decide +kernel), List.mem_of_getElem? (i := 1001) (by decide +kernel)⟩
theorem lw_p67 : lw_okq (⟨"TaleMachineModel", "end", "(II)Z"⟩, 31) := ⟨⟨by decide +kernel, by decide +kernel⟩, List.mem_of_getElem? (i := 750) (by decide +kernel), List.mem_of_getElem? (i := 1004) (by decide +kernel), List.mem_of_getElem? (i := 1005) (by decide +kernel)⟩
theorem lw_p68 : lw_okq (⟨"TaleMachineModel", "world", "(II)Z"⟩, 31) := ⟨⟨by decide +kernel, by decide +kernel⟩, List.mem_of_getElem? (i := 750) (by decide +kernel), List.mem_of_getElem? (i := 1008) (by decide +kernel), List.mem_of_getElem? (i := 1009) (by decide +kernel)⟩
theorem lw_p69 : lw_okq (⟨"TaleMachineModel", "make", "(I)Z"⟩, 31) := ⟨⟨by decide +kernel, by decide +kernel⟩, List.mem_of_getElem? (i := 750) (by decide +kernel), List.mem_of_getElem? (i := 1012) (by decide +kernel), List.mem_of_getElem? (i := 1013) (by decide +kernel)⟩
theorem lw_p70 : lw_okq (⟨"TaleMachineModel", "point", "()Z"⟩, 31) := ⟨⟨by decide +kernel, by decide +kernel⟩, List.mem_of_getElem? (i := 750) (by decide +kernel), List.mem_of_getElem? (i := 1016) (by decide +kernel), List.mem_of_getElem? (i := 1017) (by decide +kernel)⟩
theorem lw_p71 : lw_okq (⟨"TaleMachineModel", "copy", "(II)V"⟩, 31) := ⟨⟨by decide +kernel, by decide +kernel⟩, List.mem_of_getElem? (i := 750) (by decide +kernel), List.mem_of_getElem? (i := 1020) (by decide +kernel), List.mem_of_getElem? (i := 1021) (by decide +kernel)⟩
theorem lw_p72 : lw_okq (⟨"TaleMachineModel", "mark", "(III)I"⟩, 31) := ⟨⟨by decide +kernel, by decide +kernel⟩, List.mem_of_getElem? (i := 750) (by decide +kernel), List.mem_of_getElem? (i := 1032) (by decide +kernel), List.mem_of_getElem? (i := 1033) (by decide +kernel)⟩
theorem lw_p73 : lw_okq (⟨"TaleMachineModel", "spread", "(I)I"⟩, 31) := ⟨⟨by decide +kernel, by decide +kernel⟩, List.mem_of_getElem? (i := 750) (by decide +kernel), List.mem_of_getElem? (i := 1036) (by decide +kernel), List.mem_of_getElem? (i := 1037) (by decide +kernel)⟩
theorem lw_p74 : lw_okq (⟨"TaleMachineModel", "refuse", "(I)I"⟩, 31) := ⟨⟨by decide +kernel, by decide +kernel⟩, List.mem_of_getElem? (i := 750) (by decide +kernel), List.mem_of_getElem? (i := 1044) (by decide +kernel), List.mem_of_getElem? (i := 1045) (by decide +kernel)⟩
def lw_privs_5 : List (MethodName × Nat) := [(⟨"TaleMachineModel", "ask", "(IIIII)Z"⟩, 31), (⟨"TaleMachineModel", "call", "(IIIII)Z"⟩, 31), (⟨"TaleMachineModel", "assign", "(I)Z"⟩, 31), (⟨"TaleMachineModel", "end", "(II)Z"⟩, 31), (⟨"TaleMachineModel", "world", "(II)Z"⟩, 31), (⟨"TaleMachineModel", "make", "(I)Z"⟩, 31), (⟨"TaleMachineModel", "point", "()Z"⟩, 31), (⟨"TaleMachineModel", "copy", "(II)V"⟩, 31), (⟨"TaleMachineModel", "mark", "(III)I"⟩, 31), (⟨"TaleMachineModel", "spread", "(I)I"⟩, 31), (⟨"TaleMachineModel", "refuse", "(I)I"⟩, 31)]
theorem lw_r5 : ∀ q ∈ lw_privs_5, lw_okq q := List.forall_mem_cons.mpr ⟨lw_p64, List.forall_mem_cons.mpr ⟨lw_p65, List.forall_mem_cons.mpr ⟨lw_p66, List.forall_mem_cons.mpr ⟨lw_p67, List.forall_mem_cons.mpr ⟨lw_p68, List.forall_mem_cons.mpr ⟨lw_p69, List.forall_mem_cons.mpr ⟨lw_p70, List.forall_mem_cons.mpr ⟨lw_p71, List.forall_mem_cons.mpr ⟨lw_p72, List.forall_mem_cons.mpr ⟨lw_p73, List.forall_mem_cons.mpr ⟨lw_p74, fun _ h => absurd h List.not_mem_nil⟩⟩⟩⟩⟩⟩⟩⟩⟩⟩⟩
def lw_privs : List (MethodName × Nat) := lw_privs_1 ++ (lw_privs_2 ++ (lw_privs_3 ++ (lw_privs_4 ++ (lw_privs_5))))
def lw_tbl : List Cond := k2_sels lw_privs ++ tables_1
theorem lw_privs_ok : ∀ q ∈ lw_privs, lw_okq q := by
  show ∀ q ∈ lw_privs_1 ++ (lw_privs_2 ++ (lw_privs_3 ++ (lw_privs_4 ++ (lw_privs_5)))), lw_okq q
  exact List.forall_mem_append.mpr ⟨lw_r1, List.forall_mem_append.mpr ⟨lw_r2, List.forall_mem_append.mpr ⟨lw_r3, List.forall_mem_append.mpr ⟨lw_r4, lw_r5⟩⟩⟩⟩
end
section
/-! Methods that throw: a contract's end that is a throw (vt_Met), the call of such a method, its way out of a caller without handlers, its way into a caller's handler, and the making and throwing of an exception with a String constant. -/
def vt_Met (l : Launch) (y : MethodName) (ws : List Cond) (rm : Room) (Pc : Array Value → State → Prop) (Qx : Array Value → State → Addr → State → Prop) (mc ms : Nat) (free : Addr → Prop) : Prop :=
  MetFree l y (headSpec ws rm) Pc (fun _ _ _ _ _ => True) (fun a st o t => ∃ x, o = .threw x ∧ Qx a st x t ∧ st.WarmedH t.vm ∧ ∃ L, st.sameButNew ({ t with vm := st.vm } : State) L mc ms ∧ ∀ q ∈ L, free q.base)
def vt_MQ (below : List Frame) (Qx : Array Value → State → Addr → State → Prop) (a : Array Value) (s : State) (mc ms : Nat) (free : Addr → Prop) : State → Prop := fun t =>
  ∃ x, t.status = .running ∧ Ended t below (.threw x) ∧ Qx a s x t ∧ s.WarmedH t.vm ∧ ∃ L, s.sameButNew ({ t with vm := s.vm } : State) L mc ms ∧ ∀ q ∈ L, free q.base
/-- what a thrower's end says: the thrown cell's class; what isn't the method's own stays -/
def vt_Q (cls : String) (A : Nat → Prop) : Array Value → State → Addr → State → Prop := fun _ st x t => (∃ cell : Cell, t.heap[x]? = some cell ∧ cell.vm = .none ∧ st.vm.findClass cls = some cell.cls) ∧ va_F A st t
def vt_PostOf (Qx : Array Value → State → Addr → State → Prop) (mc ms : Nat) (free : Addr → Prop) : Pt → Array Value → Addr → Pt → Prop := fun A a x B =>
  ∃ (g : JFrame) (mk : MethodId) (t : State) (L : List Loc), B.U.heap = t.heap ∧ B.U.vm = t.vm ∧ Qx a (A.U.calling g mk a) x t ∧ B.locs = A.locs ++ L ∧ (∀ q ∈ L, free q.base) ∧ B.cells = A.cells + mc ∧ B.slots = A.slots + ms
def vt_Back (l : Launch) (R : Room) (p : Program) (e : Env) (below : List Frame) (s : State) (sargs : Array Value) (y : MethodName) (len W : Nat) (Pre : Pt → Array Value → Prop) (Post : Pt → Array Value → Addr → Pt → Prop) : Prop :=
  ∀ (m : MethodId) (meth : Method) (c : Code) (A : Pt) (g : JFrame) (ig : Instr) (mk : MethodId) (a : Array Value),
    Stand p l e R s m sargs below meth c A.U A.locs A.cells A.slots → g.method = m → g.locals.size = c.maxLocals → decode c.code g.pc = .ok (ig, len) →
    2 * g.monitorRoom + (g.stack.map fun v => v.category).sum ≤ W → A.U.methodNamed? y = some mk → Pre A a →
    ∃ (x : Addr) (B : Pt), Stand p l e R s m sargs below meth c B.U B.locs B.cells B.slots ∧ Post A a x B ∧
      Steps p.tables e below (doInvoke e (A.U.setTop g) [] mk a).1 ((B.U.setTop g).pushFrame (.throwing x))
theorem vt_same {s t : State} {locs : List Loc} {k n : Nat} {A : Nat → Prop} (h : s.sameButNew t locs k n) (hA : ∀ q ∈ locs, A q.base) : ∀ q : Nat, q < s.heap.size → ¬ A q → t.heap[q]? = s.heap[q]? := by
  intro q hq hn
  have hc : s.heap[q]? = some s.heap[q] := Array.getElem?_eq_getElem hq
  obtain ⟨c', h1, h2, -, h4⟩ := h.2.2.2.2.2 q _ hc
  have h5 : c'.slots = (s.heap[q]).slots := Array.ext_getElem? (fun i => h4 i (fun hm => hn (hA _ hm)))
  rw [h1, hc, h2, h5]
section VT1
variable {l : Launch}
theorem vt_ofW {y : MethodName} {ws ws' : List Cond} {rm : Room} {Pc : Array Value → State → Prop} {Qx : Array Value → State → Addr → State → Prop} {mc ms : Nat} {free : Addr → Prop} {cc : ByteArray} {maxL : Nat} {ret : Option FieldType}
    (hy : plainName y.cls = true) (hw : ws = Cond.code y cc maxL ret :: ws')
    (body : ∀ p e s m args below meth c s₁, BodyLoose p l y (headSpec ws rm) cc maxL ret e s m args below meth c s₁ → c.maxLocals = maxL → c.exceptionTable.isEmpty = true → Pc args s →
      W p l e (headSpec ws rm).room s m args below meth c s.heap [] 0 0 (vt_MQ below Qx args s mc ms free) (entryFrame m args maxL)) : vt_Met l y ws rm Pc Qx mc ms free := by
  refine MetFree.of_bodyS (code := cc) (maxLocals := maxL) (ret := ret) hy ?_ ?_
  · intro args s m h hn
    obtain ⟨meth, c, h1, h2, h3, h4, h5, h6, -, -⟩ := Cond.code_spec hn (atoms_spec (ws := ws) h _ (by rw [hw]; exact List.mem_cons_self))
    exact ⟨meth, c, h1, h2, h3, h4, h5, h6⟩
  · intro p e s m args below meth c s₁ B hml hP _
    have hh0 : s₁.heap = s.heap := by rw [B.state]; rfl
    have hne := B.noHandlers (atoms_spec (ws := ws) B.pre _ (by rw [hw]; exact List.mem_cons_self))
    obtain ⟨t, a1, x, b1, b2, b3⟩ := body p e s m args below meth c s₁ B hml hne hP s₁ hh0 (Stand.of_body B)
    exact ⟨t, .threw x, a1, b1, b2, x, rfl, b3⟩
end VT1
section VT2
variable {l : Launch} {R : Room} {p : Program} {e : Env} {below : List Frame} {s : State} {sargs : Array Value} {y : MethodName} {len W : Nat}
theorem vt_back {ws : List Cond} {rm : Room} {Pc : Array Value → State → Prop} {Qx : Array Value → State → Addr → State → Prop} {mc ms : Nat} {free : Addr → Prop} {bytes : ByteArray} {maxL : Nat} {ret : Option FieldType}
    (hM : vt_Met l y ws rm Pc Qx mc ms free) (hblind : FrameBlind Pc) (hrc : rm.cells = mc) (hrs : rm.slots = ms)
    (hframes : rm.frames + 1 ≤ R.frames) (hlocals : W + (maxL + 11) + rm.locals ≤ R.locals)
    (hws : ∀ w ∈ ws, ∀ (a' : Array Value) (U : State), s.WarmedH U.vm → w.before a' U = true) (hcode : Cond.code y bytes maxL ret ∈ ws) (hinit : ∀ (a' : Array Value) (U : State), s.WarmedH U.vm → (Cond.initialized y.cls).before a' U = true) :
    vt_Back l R p e below s sargs y len W (PreOf R mc ms Pc) (vt_PostOf Qx mc ms free) := by
  intro m meth c A g ig mk a X hg hsize hdg hW hn hp
  obtain ⟨U, Ls, c0, s0⟩ := A
  obtain ⟨hp1, hp2, hp3⟩ := hp
  dsimp only [Pt.U, Pt.locs, Pt.cells, Pt.slots] at X hn hp1 hp2 hp3 ⊢
  subst hrc; subst hrs
  obtain ⟨methY, cY, hmY, hcY, -, hlY, -, -, -, -⟩ := Cond.code_spec hn (hws _ hcode a U X.warmed)
  obtain ⟨kY, hkY, -⟩ := className_of_methodNamed hn
  have hinitY : kY.init = .initialized := Cond.initialized_spec (findClass_of_methodNamed hn) hkY (hinit a U X.warmed)
  have h : At U g.method c below := by rw [hg]; exact X.here
  have happ : (headSpec ws rm).appliesLoose y e.platform (U.calling g mk a) = true :=
    Spec.appliesLoose_calling (g := g) h hdg hn hkY hinitY
      (X.room_calling (g := g) (R' := rm) hsize hmY hcY hframes (by rw [hlY]; omega) hp1 hp2) (atoms_intro fun w hw => hws w hw _ _ X.warmed)
  obtain ⟨mid, hmid⟩ := h.above
  have hfr : (U.setTop g).frames = (.java g :: mid) ++ below := by rw [State.frames_setTop' g h.top, hmid]; rfl
  obtain ⟨o, s₂, hsteps, -, hend, hq⟩ := Steps.callFree hM p X.admits X.cas X.clock (acts := []) hfr happ (hblind _ _ _ _ hp3) trivial
  obtain ⟨x, rfl, hq, hWs, L, hsame, hL⟩ := hq
  rw [State.frames_setTop' g h.top, X.tail] at hend
  obtain ⟨T', X', -, -, ht⟩ := X.outOfThrown (g := g) (mk := mk) (a := a) hg hend hWs hsame
  refine ⟨x, ⟨T', Ls ++ L, c0 + rm.cells, s0 + rm.slots⟩, X', ⟨g, mk, s₂, L, ?_, ?_, hq, rfl, hL, rfl, rfl⟩, ?_⟩
  · rw [ht]; exact (Stand.throwing_heap T' g x).symm
  · rw [ht]; exact (Stand.throwing_vm T' g x).symm
  · show Steps p.tables e below _ ((T'.setTop g).pushFrame (.throwing x))
    rw [← ht]
    exact hsteps
end VT2
section VT3
variable {p : Program} {l : Launch} {e : Env} {R : Room} {s : State} {m : MethodId} {args : Array Value} {below : List Frame} {meth : Method} {c : Code} {H : Heap} {locs : List Loc} {cells slots : Nat} {Q : State → Prop}
variable {y : MethodName} {bytes cc : ByteArray} {maxL nL mc ms n index : Nat} {ret : Option FieldType} {ws : List Cond} {rm : Room} {Pc : Array Value → State → Prop} {Qx : Array Value → State → Addr → State → Prop} {free : Addr → Prop} {Ts : List Cond} {own C : String} {b : Addr} {As rest : List Value} {g : JFrame}
def vt_Run (p : Program) (l : Launch) (e : Env) (R : Room) (s : State) (m : MethodId) (args : Array Value) (below : List Frame) (meth : Method) (c : Code) (H : Heap) (locs : List Loc) (cells slots mc ms : Nat) (g : JFrame) (rest : List Value) (Qa : State → Addr → State → Prop) (free : Addr → Prop) : Prop :=
  ∀ T : State, T.heap = H → Stand p l e R s m args below meth c T locs cells slots → ∃ (x : Addr) (st₀ t T' : State) (L : List Loc), st₀.heap = H ∧ s.vm.Alike st₀.vm ∧ Stand p l e R s m args below meth c T' (locs ++ L) (cells + mc) (slots + ms) ∧ (∀ q ∈ L, free q.base) ∧ T'.heap = t.heap ∧ T'.vm = t.vm ∧ Qa st₀ x t ∧
    ∀ target, Steps p.tables e below ((T'.setTop { g with stack := rest }).pushFrame (.throwing x)) target → Steps p.tables e below (T.setTop g) target
theorem vt_callBack (cb : CallB R s args own index y bytes maxL ret ws rm mc ms n) (hM : vt_Met l y ws rm Pc Qx mc ms free) (hbl : FrameBlind Pc) : vt_Back l R p e below s args y 3 8 (PreOf R mc ms Pc) (vt_PostOf Qx mc ms free) := by
  obtain ⟨hrc, hrs, hfr, hlo, hws, hcw, -, hini, -⟩ := cb
  exact vt_back (bytes := bytes) (maxL := maxL) (ret := ret) hM hbl hrc hrs hfr hlo hws hcw (fun a' U hW => word_at hW (Or.inl (by first | rfl | simp [Cond.onTables, Cond.keeps, Cond.steady])) hini)
theorem vt_runV (S : CallFix p m c cc nL s args Ts own) (hM : vt_Met l y ws rm Pc Qx mc ms free) (cw : CallW R s args own C index y bytes maxL ret ws rm mc ms n) (hp : PreV s H C b Pc As)
    (hg : g.method = m) (hn : As.length = n) (hsize : g.locals.size = nL) (hstack : g.stack = As.reverse ++ .ref b :: rest) (hW : 2 * g.monitorRoom + (rest.map fun v => v.category).sum ≤ 8) (hdg : decode cc g.pc = .ok (.invokevirtual index, 3)) (hf : cells + mc ≤ R.cells ∧ slots + ms ≤ R.slots) :
    vt_Run p l e R s m args below meth c H locs cells slots mc ms g rest (Qx (Value.ref b :: As).toArray) free := by
  have hK : vt_Back l R p e below s args y 3 8 (PreOf R mc ms Pc) (vt_PostOf Qx mc ms free) := vt_callBack cw.1 hM hp.1
  obtain ⟨⟨-, -, -, -, -, -, hcode, -, hy, hlen, hlink⟩, hinst, hsel⟩ := cw
  obtain ⟨hexec, hb, hml, hown, -⟩ := S
  obtain ⟨-, ⟨cellB, hcB, hobj, hcls⟩, hPc⟩ := hp
  intro T hT X
  obtain ⟨mk, methM, hnamed, hmethM, hstM, habM⟩ := Cond.instanceMethod_spec hinst
  obtain ⟨methM', cM, hmethM', -, -, -, -, -, -, hsigM⟩ := Cond.code_spec hnamed hcode
  cases hmethM.symm.trans hmethM'
  obtain ⟨c2, r2, m2, q1, q2, q3, q4, kP, hkP, hkPi⟩ := Cond.selects_spec hsel
  cases hcls.symm.trans q1
  cases (State.methodFound?_of_named hnamed hy).symm.trans q2
  cases hnamed.symm.trans q3
  have hselP : selectMethod e.platform s.vm cellB.cls mk = .method mk := by rw [Launch.admits_selectMethod X.admits]; exact q4
  obtain ⟨vm₁, X₁, hstep₁⟩ := X.invokevirtual hexec hown hlink hnamed hmethM hstM hkP hkPi hy (a := b) (cell := cellB) (by rw [hT]; exact hcB)
    (fun z h => by rw [h] at hobj; cases hobj) hselP hmethM habM hkP hkPi (g := g) hg (argsL := As) (rest := rest) (hn.trans (hlen _ hsigM)) hstack (by rw [hb]; exact hdg)
  obtain ⟨x, ⟨U', l2, c2, s2⟩, X', ⟨g', mk', t, L, e1, e2, hq, h1, hL, h2, h3⟩, hsteps⟩ := hK m meth c ⟨T.setVm vm₁, locs, cells, slots⟩ { g with stack := rest } (.invokevirtual index) mk (Value.ref b :: As).toArray X₁ hg (hsize.trans hml.symm) (by rw [hb]; exact hdg) hW (X₁.named hnamed) ⟨hf.1, hf.2, hPc (T.setVm vm₁) hT X₁.warmed⟩
  dsimp only [Pt.U, Pt.locs, Pt.cells, Pt.slots] at X' e1 e2 h1 h2 h3 hsteps
  subst h1; subst h2; subst h3
  exact ⟨x, (T.setVm vm₁).calling g' mk' (Value.ref b :: As).toArray, t, U', L, hT, X₁.warmed.alike, X', hL, e1, e2, hq, fun target h => hstep₁ _ fun acts => by rw [doInvoke_state]; exact hsteps.trans h⟩
theorem vt_runS (S : CallFix p m c cc nL s args Ts own) (hM : vt_Met l y ws rm Pc Qx mc ms free) (cw : CallB R s args own index y bytes maxL ret ws rm mc ms n ∧ (Cond.static y).before args s = true) (hp : PreS s H Pc As)
    (hg : g.method = m) (hn : As.length = n) (hsize : g.locals.size = nL) (hstack : g.stack = As.reverse ++ rest) (hW : 2 * g.monitorRoom + (rest.map fun v => v.category).sum ≤ 8) (hdg : decode cc g.pc = .ok (.invokestatic index, 3)) (hf : cells + mc ≤ R.cells ∧ slots + ms ≤ R.slots) :
    vt_Run p l e R s m args below meth c H locs cells slots mc ms g rest (Qx As.toArray) free := by
  have hK : vt_Back l R p e below s args y 3 8 (PreOf R mc ms Pc) (vt_PostOf Qx mc ms free) := vt_callBack cw.1 hM hp.1
  obtain ⟨⟨-, -, -, -, -, -, hcode, hinit, hy, hlen, hlink⟩, hstat⟩ := cw
  obtain ⟨hexec, hb, hml, hown, -⟩ := S
  intro T hT X
  obtain ⟨mk, hnamed⟩ := Cond.code_named hcode
  obtain ⟨methM, cM, hmethM, -, -, -, -, -, -, hsigM⟩ := Cond.code_spec hnamed hcode
  have hstatic : methM.isStatic = true := Cond.static_spec hnamed hmethM hstat
  obtain ⟨kP, hkP, -⟩ := className_of_methodNamed hnamed
  have hinitP : kP.init = .initialized := Cond.initialized_spec (findClass_of_methodNamed hnamed) hkP hinit
  obtain ⟨vm₁, X₁, hstep₁⟩ := X.invokestatic hexec hown hlink hnamed hmethM hstatic hkP hinitP hy (g := g) hg (argsL := As) (rest := rest) (hn.trans (hlen _ hsigM)) hstack (by rw [hb]; exact hdg)
  obtain ⟨x, ⟨U', l2, c2, s2⟩, X', ⟨g', mk', t, L, e1, e2, hq, h1, hL, h2, h3⟩, hsteps⟩ := hK m meth c ⟨T.setVm vm₁, locs, cells, slots⟩ { g with stack := rest } (.invokestatic index) mk As.toArray X₁ hg (hsize.trans hml.symm) (by rw [hb]; exact hdg) hW (X₁.named hnamed) ⟨hf.1, hf.2, hp.2 (T.setVm vm₁) hT X₁.warmed⟩
  dsimp only [Pt.U, Pt.locs, Pt.cells, Pt.slots] at X' e1 e2 h1 h2 h3 hsteps
  subst h1; subst h2; subst h3
  exact ⟨x, (T.setVm vm₁).calling g' mk' As.toArray, t, U', L, hT, X₁.warmed.alike, X', hL, e1, e2, hq, fun target h => hstep₁ _ fun acts => by rw [doInvoke_state]; exact hsteps.trans h⟩
end VT3
section VT4
variable {p : Program} {l : Launch} {e : Env} {R : Room} {s : State} {m : MethodId} {args : Array Value} {below : List Frame} {meth : Method} {c : Code} {H : Heap} {locs : List Loc} {cells slots : Nat} {Q : State → Prop}
variable {pc : Nat} {ls : Array Slot} {rest st0 : List Value} {a : Array Value} {A0 A1 : Nat → Prop} {H0 : Heap} {mc ms : Nat} {free : Addr → Prop} {cls : String}
theorem vt_grow {A0 A1 : Nat → Prop} {H0 H H1 : Heap} {locs L : List Loc} {free : Addr → Prop} (hS : va_S A0 H0 H locs) (hA : ∀ q, q < H.size → A1 q → A0 q) (hf : ∀ q, free q → A0 q) (hL : ∀ q ∈ L, free q.base) (hz : H.size ≤ H1.size) (hk : ∀ q : Nat, q < H.size → ¬ A1 q → H1[q]? = H[q]?) : va_S A0 H0 H1 (locs ++ L) := by
  refine ⟨Nat.le_trans hS.1 hz, fun q h1 h2 => ?_, fun q hq => ?_⟩
  · rw [hk q (Nat.lt_of_lt_of_le h1 hS.1) (fun z => h2 (hA q (Nat.lt_of_lt_of_le h1 hS.1) z))]
    exact hS.2.1 q h1 h2
  · rcases List.mem_append.mp hq with h | h
    · exact hS.2.2 q h
    · exact hf _ (hL q h)
/-- a callee's throw goes out of a method without handlers -/
theorem vt_out (hr : vt_Run p l e R s m args below meth c H locs cells slots mc ms (F0 m pc ls st0) rest (vt_Q cls A1 a) free) (hS : va_S A0 s.heap H locs) (hA : ∀ q, q < H.size → A1 q → A0 q) (hf : ∀ q, free q → A0 q) (hne : c.exceptionTable.isEmpty = true) (hlocks : meth.locks = false) :
    W p l e R s m args below meth c H locs cells slots (vt_MQ below (vt_Q cls A0) args s (cells + mc) (slots + ms) A0) (F0 m pc ls st0) := by
  intro T hT X
  obtain ⟨x, st₀, t, T', L, h0, hal, X', hL, e1, e2, ⟨⟨cell, k1, k2, k3⟩, hz, hk⟩, st⟩ := hr T hT X
  rw [h0] at hz hk
  have hS1 : va_S A0 s.heap T'.heap (locs ++ L) := vt_grow hS hA hf hL (by rw [e1]; exact hz) (fun q h1 h2 => by rw [e1]; exact hk q h1 h2)
  obtain ⟨hw, hrun, hend, hW, hsame⟩ := X'.leaveThrown x (g := { F0 m pc ls st0 with stack := rest }) rfl rfl rfl (covers_of_empty hne _) hlocks
  refine ⟨_, st _ hw, x, hrun, hend, ⟨⟨cell, ?_, k2, ?_⟩, ?_⟩, hW, locs ++ L, hsame, hS1.2.2⟩
  · show T'.heap[x]? = some cell
    rw [e1]; exact k1
  · rw [← hal.findClass]; exact k3
  · exact ⟨hS1.1, hS1.2.1⟩
/-- a callee's throw comes into the first row of the method's own table -/
theorem vt_catch (hr : vt_Run p l e R s m args below meth c H locs cells slots mc ms (F0 m pc ls st0) rest (vt_Q cls A1 a) free) (hS : va_S A0 H0 H locs) (hA : ∀ q, q < H.size → A1 q → A0 q) (hf : ∀ q, free q → A0 q)
    {own name : String} (hown : s.vm.findClass own = some m.cls) {x0 x1 hpc ct : Nat} {hs : List (Nat × Nat × Nat × Nat)} (htab : c.exceptionTable.toList.map (fun h => (h.startPc, h.endPc, h.handlerPc, h.catchType)) = (x0, x1, hpc, ct) :: hs)
    (hcov : (decide (x0 ≤ pc) && decide (pc < x1)) = true) (hct : ct ≠ 0) (hlink : (Cond.classLink own ct name).before args s = true) (hcast : (Cond.castable cls name).before args s = true)
    (kk : ∀ (q : Nat) (H1 : Heap) (locs1 : List Loc), H.size ≤ H1.size → (∀ z : Nat, z < H.size → ¬ A1 z → H1[z]? = H[z]?) → va_S A0 H0 H1 locs1 → W p l e R s m args below meth c H1 locs1 (cells + mc) (slots + ms) Q (F0 m hpc ls [.ref q])) :
    W p l e R s m args below meth c H locs cells slots Q (F0 m pc ls st0) := by
  intro T hT X
  obtain ⟨x, st₀, t, T', L, h0, hal, X', hL, e1, e2, ⟨⟨cell, k1, k2, k3⟩, hz, hk⟩, st⟩ := hr T hT X
  rw [h0] at hz hk
  have hz' : H.size ≤ T'.heap.size := by rw [e1]; exact hz
  have hk' : ∀ q : Nat, q < H.size → ¬ A1 q → T'.heap[q]? = H[q]? := fun q h1 h2 => by rw [e1]; exact hk q h1 h2
  have hS1 : va_S A0 H0 T'.heap (locs ++ L) := vt_grow hS hA hf hL hz' hk'
  -- the row of the table
  obtain ⟨row, rows, hsplit, hr0⟩ : ∃ row rows, c.exceptionTable.toList = row :: rows ∧ (row.startPc, row.endPc, row.handlerPc, row.catchType) = (x0, x1, hpc, ct) := by
    cases hE : c.exceptionTable.toList with
    | nil => rw [hE] at htab; cases htab
    | cons row rows => rw [hE] at htab; exact ⟨row, rows, rfl, (List.cons.inj htab).1⟩
  have r1 : row.startPc = x0 := congrArg Prod.fst hr0
  have r2 : row.endPc = x1 := congrArg (fun z => z.2.1) hr0
  have r3 : row.handlerPc = hpc := congrArg (fun z => z.2.2.1) hr0
  have r4 : row.catchType = ct := congrArg (fun z => z.2.2.2) hr0
  -- its class, by the word
  have hpl : e.platform.magicAccessors = ({} : Platform).magicAccessors := by rw [X'.admits.platform]
  obtain ⟨cT, hcT, hcl⟩ := Cond.classLink_spec hown hlink e.platform hpl
  obtain ⟨c3, c4, hc3, hc4, hasg⟩ := Cond.castable_spec hcast
  cases hcT.symm.trans hc4
  have hcx : s.vm.findClass cls = some cell.cls := by rw [← hal.findClass]; exact k3
  cases hcx.symm.trans hc3
  obtain ⟨dk, _, _, kt, hd, _, _, _, _, hkt, _, hopen⟩ := hcl.here
  have hcl' := X'.warmed.classLinks hcl
  have hW' : s.WarmedH (T'.vm.noted m.cls ct (.cls cT)) := X'.warmed.noted hd hopen (State.rightAt_cls hcl)
  have halT := X'.warmed.alike
  obtain ⟨kt', hkt', -⟩ := halT.2.2 _ _ hkt
  have hfit : T'.vm.assignable cell.cls cT = true := by rw [halT.assignable]; exact hasg
  obtain ⟨kx', hkx'⟩ := Vm.classAt_of_assignable hfit ⟨kt', hkt'⟩
  have hcellx : T'.heap[x]? = some cell := by rw [e1]; exact k1
  -- what the search leaves
  have halN : T'.vm.Alike (T'.vm.noted m.cls ct (.cls cT)) := (Vm.Alike.refl T'.vm).noted _ _ _
  obtain ⟨k1', hk1', -⟩ := halN.2.2 _ _ hkx'
  obtain ⟨k2', hk2', -⟩ := halN.2.2 _ _ hkt'
  have hfitN : (T'.vm.noted m.cls ct (.cls cT)).assignable cell.cls cT = true := by rw [halN.assignable]; exact hfit
  have hgo : ∀ (Q' : Handler → Pre) (E : CtlPost) (d : Bool) (acts : List Action), wp (findHandler { F0 m pc ls st0 with stack := rest } x) Q' E e d acts ((T'.setTop { F0 m pc ls st0 with stack := rest }).pushFrame (.throwing x)) ↔ Q' (.found hpc) d acts (((T'.setTop { F0 m pc ls st0 with stack := rest }).pushFrame (.throwing x)).setVm (T'.vm.noted m.cls ct (.cls cT))) := by
    intro Q' E d acts
    rw [W.findHandler_eq (s := (T'.setTop { F0 m pc ls st0 with stack := rest }).pushFrame (.throwing x)) (f := { F0 m pc ls st0 with stack := rest }) (meth := meth) (code := c) X'.method' X'.code, hsplit]
    have hcv : (decide (row.startPc ≤ pc) && decide (pc < row.endPc)) = true := by rw [r1, r2]; exact hcov
    have hob : ∀ k, cell.vm ≠ .statics k := fun k h => by rw [k2] at h; cases h
    have hvS : ((T'.setTop { F0 m pc ls st0 with stack := rest }).pushFrame (.throwing x)).vm = T'.vm := Stand.throwing_vm _ _ _
    have hhS : ((T'.setTop { F0 m pc ls st0 with stack := rest }).pushFrame (.throwing x)).heap = T'.heap := Stand.throwing_heap _ _ _
    generalize (T'.setTop { F0 m pc ls st0 with stack := rest }).pushFrame (.throwing x) = S at hvS hhS ⊢
    rw [← hvS] at hcl' hfitN hk1' hk2' ⊢
    rw [← hhS] at hcellx
    obtain ⟨ha, ht⟩ := (resolveClass_links e.toSetting hcl').op (op := VmOp.resolveClass m.cls ct) rfl
    simp [findHandler.go, hcv, r3, r4, hct, ha, ht, hcellx, hob, hk1', hk2', hfitN, VmOp.dirties, VmOp.acts]
  obtain ⟨t2, a1, b1⟩ := kk x T'.heap (locs ++ L) hz' hk' hS1 (T'.setVm (T'.vm.noted m.cls ct (.cls cT))) rfl (X'.noted hW')
  refine ⟨t2, st t2 ?_, b1⟩
  have hAt : At T' m c below := X'.here
  obtain ⟨hgoes, hwi⟩ := At.throwing (g := { F0 m pc ls st0 with stack := rest }) hAt x
  refine Steps.head hgoes hwi ?_
  rw [stepThread_throwing (frames_entered hAt.top _)]
  have hstep : (stepThrowing e ((T'.setTop { F0 m pc ls st0 with stack := rest }).pushFrame (.throwing x)) x (.java { F0 m pc ls st0 with stack := rest } :: T'.frames.tail)).1 = (T'.setVm (T'.vm.noted m.cls ct (.cls cT))).setTop (F0 m hpc ls [.ref x]) := by
    simp only [stepThrowing, searchFrame, vmDo]
    generalize hres : Sem.go _ e false [] _ = res
    obtain ⟨as, rfl, -⟩ := Sem.eq_ok_of hres (a := Handler.found hpc) (s' := ((T'.setTop { F0 m pc ls st0 with stack := rest }).pushFrame (.throwing x)).setVm (T'.vm.noted m.cls ct (.cls cT))) (acts' := []) (by simp [hgo _ _ _ _])
    obtain ⟨g₀, hg⟩ := Option.isSome_iff_exists.mp hAt.top
    obtain ⟨r, hr⟩ := State.topJava?_eq_some.mp hg
    have hr2 : (T'.setVm (T'.vm.noted m.cls ct (.cls cT))).frames = .java g₀ :: r := hr
    rw [State.setTop_of_frames _ hr2, hr, State.pushFrame, State.setTop_of_frames _ hr]
    show ((((T'.setFrames _).setFrames _).setVm _).setFrames _) = _
    rw [State.setFrames_setFrames]
    show (((T'.setVm _).setFrames _).setFrames _) = _
    rw [State.setFrames_setFrames]
    rfl
  rw [hstep]
  exact a1
end VT4
/-- a static of Throwable, as the making of an exception reads it -/
def vt_Z1 (n d : String) (A : Nat → Prop) (U : State) (H : Heap) : Prop := ∃ (cf : ClassId) (kf : Class) (fi : Nat) (f : Field) (a : Nat) (cell : Cell) (v : Value), U.vm.findClass Bundle.tN = some cf ∧ U.fieldFound? Bundle.tN n d = some (cf, kf, fi, f) ∧ f.isStatic = true ∧ kf.statics = some a ∧ cell.vm.isStatics = true ∧ cell.cls = cf ∧ f.slot < cell.slots.size ∧ kf.staticTypes[f.slot]? = some f.type ∧ cell.slots[f.slot]? = some v ∧ v.isRef = true ∧ H[a]? = some cell ∧ ¬ A a
theorem vt_Z1.moved {n d : String} {A : Nat → Prop} {u U : State} {H : Heap} (hvm : u.vm.Alike U.vm) (h : vt_Z1 n d A u H) : vt_Z1 n d A U H := by
  obtain ⟨cf, kf, fi, f, a, cell, v, h1, h2, h3, h4, h5, h6, h7, h8, h9⟩ := h
  obtain ⟨k', hi', he⟩ := State.fieldFound?_setVm hvm h2
  exact ⟨cf, k', fi, f, a, cell, v, by rw [hvm.findClass]; exact h1, hi', h3, by rw [he]; exact h4, h5, h6, h7, by rw [he]; exact h8, h9⟩
theorem vt_Z1.kept {n d : String} {A : Nat → Prop} {U : State} {H H1 : Heap} (h : vt_Z1 n d A U H) (hq : ∀ a : Nat, a < H.size → ¬ A a → H1[a]? = H[a]?) : vt_Z1 n d A U H1 := by
  obtain ⟨cf, kf, fi, f, a, cell, v, h1, h2, h3, h4, h5, h6, h7, h8, h9, h10, h11, h12⟩ := h
  exact ⟨cf, kf, fi, f, a, cell, v, h1, h2, h3, h4, h5, h6, h7, h8, h9, h10, by rw [hq a (Array.getElem?_eq_some_iff.mp h11).1 h12]; exact h11, h12⟩
theorem vt_Z1.narrow {n d : String} {A B : Nat → Prop} {U : State} {H : Heap} (h : vt_Z1 n d A U H) (hAB : ∀ q, q < H.size → B q → A q) : vt_Z1 n d B U H := by
  obtain ⟨cf, kf, fi, f, a, cell, v, h1, h2, h3, h4, h5, h6, h7, h8, h9, h10, h11, h12⟩ := h
  exact ⟨cf, kf, fi, f, a, cell, v, h1, h2, h3, h4, h5, h6, h7, h8, h9, h10, h11, fun z => h12 (hAB a (Array.getElem?_eq_some_iff.mp h11).1 z)⟩
theorem vt_Z1.of {args : Array Value} {s : State} {n d : String} {A : Nat → Prop} (hl : (Cond.laysStatic Bundle.tN n d).before args s = true) (hr : (Cond.isRef (.static Bundle.tN n d)).before args s = true) (hA : ∀ a : Nat, a < s.heap.size → ¬ A a) : vt_Z1 n d A s s.heap := by
  obtain ⟨c, k, i, f, a, cell, hc, hi, hst, ha, hcell, hs, hcls, hlt, hty⟩ := Cond.laysStatic_spec hl
  have hsl : cell.slots[f.slot]? = some cell.slots[f.slot] := Array.getElem?_eq_getElem hlt
  generalize cell.slots[f.slot] = w at hsl
  refine ⟨c, k, i, f, a, cell, w, hc, hi, hst, ha, hs, hcls, hlt, hty, hsl, ?_, hcell, hA a (Array.getElem?_eq_some_iff.mp hcell).1⟩
  have hv : (Term.static Bundle.tN n d).eval args s none [] s = some w := by simp [Term.eval, State.fieldNamed?, hi, hst, ha, hcell, hs, hsl]
  simp only [Cond.before, Cond.holds, Cond.value, hv] at hr
  cases w <;> simp_all [Value.isRef]
theorem vt_Z1.lays {args : Array Value} {U : State} {n d : String} {A : Nat → Prop} (h : vt_Z1 n d A U U.heap) : (Cond.laysStatic Bundle.tN n d).before args U = true := by
  obtain ⟨cf, kf, fi, f, a, cell, v, h1, h2, h3, h4, h5, h6, h7, h8, h9, h10, h11, h12⟩ := h
  simp [Cond.before, Cond.holds, Cond.value, h1, h2, h3, h4, h5, h6, h7, h8, h11]
theorem vt_Z1.isRef {args : Array Value} {U : State} {n d : String} {A : Nat → Prop} (h : vt_Z1 n d A U U.heap) : (Cond.isRef (.static Bundle.tN n d)).before args U = true := by
  obtain ⟨cf, kf, fi, f, a, cell, v, h1, h2, h3, h4, h5, h6, h7, h8, h9, h10, h11, h12⟩ := h
  have hv : (Term.static Bundle.tN n d).eval args U none [] U = some v := by simp [Term.eval, State.fieldNamed?, h2, h3, h4, h11, h5, h9]
  simp only [Cond.before, Cond.holds, Cond.value, hv]
  cases v <;> simp_all [Value.isRef]
/-- words of the tables alone, as they hold in a state -/
def vt_J (L : List Cond) (U : State) : Prop := ∀ w ∈ L, w.before #[] U = true
theorem vt_word {w : Cond} (ho : w.onTables = true) (hf : w.keepsFace = true) {a a' : Array Value} {s U : State} (hW : s.WarmedH U.vm) (h : w.before a s = true) : w.before a' U = true := by
  have h1 : w.before a (s.setVm U.vm) = true := Cond.before_shiftedFace (State.Shifted.of_warmed hW) _ hf h
  have h2 := Cond.onTables_vm (A := a) (A' := a') (U := s) (U' := U) U.vm w ho
  rw [h2, State.setVm_self] at h1
  exact h1
theorem vt_J.warm {L : List Cond} (hL : L.all (fun w => w.onTables && w.keepsFace) = true) {s U : State} (hW : s.WarmedH U.vm) (h : vt_J L s) : vt_J L U := fun w hw => by
  have h1 := List.all_eq_true.mp hL w hw
  rw [Bool.and_eq_true] at h1
  exact vt_word h1.1 h1.2 hW (h w hw)
theorem vt_J.same {L : List Cond} (hL : L.all (fun w => w.onTables && w.keepsFace) = true) {s U : State} (hv : U.vm = s.vm) (h : vt_J L s) : vt_J L U := fun w hw => by
  have h1 := List.all_eq_true.mp hL w hw
  rw [Bool.and_eq_true] at h1
  have h2 := Cond.onTables_vm (A := #[]) (A' := #[]) (U := s) (U' := U) s.vm w h1.1
  rw [State.setVm_self, ← hv, State.setVm_self] at h2
  rw [← h2]
  exact h w hw
/-- what an exception's making asks: the words of the tables; the two statics -/
def vt_four : List Cond := [.laysStatic Bundle.tN "UNASSIGNED_STACK" Bundle.steD, .laysStatic Bundle.tN "SUPPRESSED_SENTINEL" Bundle.listD, .isRef (.static Bundle.tN "UNASSIGNED_STACK" Bundle.steD), .isRef (.static Bundle.tN "SUPPRESSED_SENTINEL" Bundle.listD)]
def vt_own (own : String) (ic : Nat) (cls : String) (names : List String) : List Cond := (Bundle.ownAtoms own ic cls names).filter (fun w => w.onTables)
def vt_ZZ (A : Nat → Prop) (U : State) (H : Heap) : Prop := vt_Z1 "UNASSIGNED_STACK" Bundle.steD A U H ∧ vt_Z1 "SUPPRESSED_SENTINEL" Bundle.listD A U H
theorem vt_ZZ.moved {A : Nat → Prop} {u U : State} {H : Heap} (hvm : u.vm.Alike U.vm) (h : vt_ZZ A u H) : vt_ZZ A U H := ⟨h.1.moved hvm, h.2.moved hvm⟩
theorem vt_ZZ.kept {A : Nat → Prop} {U : State} {H H1 : Heap} (h : vt_ZZ A U H) (hq : ∀ a : Nat, a < H.size → ¬ A a → H1[a]? = H[a]?) : vt_ZZ A U H1 := ⟨h.1.kept hq, h.2.kept hq⟩
theorem vt_ZZ.narrow {A B : Nat → Prop} {U : State} {H : Heap} (h : vt_ZZ A U H) (hAB : ∀ q, q < H.size → B q → A q) : vt_ZZ B U H := ⟨h.1.narrow hAB, h.2.narrow hAB⟩
theorem vt_atoms {own cls : String} {ic : Nat} {names : List String} (hd : (Bundle.ownAtoms own ic cls names).all (fun w => w.onTables || decide (w ∈ vt_four)) = true) {A : Nat → Prop} {args : Array Value} {U : State} (hJ : vt_J (vt_own own ic cls names) U) (hZ : vt_ZZ A U U.heap) : ∀ w ∈ Bundle.ownAtoms own ic cls names, w.before args U = true := by
  intro w hw
  by_cases ho : w.onTables = true
  · have h1 := hJ w (List.mem_filter.mpr ⟨hw, ho⟩)
    have h2 := Cond.onTables_vm (A := #[]) (A' := args) (U := U) (U' := U) U.vm w ho
    rw [State.setVm_self] at h2
    rw [← h2]
    exact h1
  · have h1 := List.all_eq_true.mp hd w hw
    simp only [Bool.not_eq_true] at ho
    rw [ho, Bool.false_or, decide_eq_true_eq] at h1
    simp only [vt_four, List.mem_cons, List.not_mem_nil, or_false] at h1
    rcases h1 with rfl | rfl | rfl | rfl
    · exact hZ.1.lays
    · exact hZ.2.lays
    · exact hZ.1.isRef
    · exact hZ.2.isRef
/-- cells of a world are no cells of statics -/
theorem vt_plain {D : va_G} {cl : List vw_C} {ws : va_W} {H : Heap} (hP : va_P D cl ws H) : ∀ q, va_A ws H.size q → ∀ cell : Cell, H[q]? = some cell → cell.vm.isStatics = false := by
  intro q hq cell hc
  rcases hq with ⟨k, e, hk⟩ | hq
  · have h := hP k _ hk
    cases e with
    | inl x =>
      have h1 : H[q]? = some (vp_cell x.1 x.2) := h
      rw [hc] at h1
      rw [Option.some.inj h1]
      obtain ⟨i, n, f⟩ := x
      rcases f with f | f | f | f | f <;> rfl
    | inr o =>
      obtain ⟨r, h1, cell', q1, q2, q3, q4⟩ := h
      have h2 : cell = cell' := Option.some.inj (hc.symm.trans q1)
      rw [h2, q3]; rfl
  · exact absurd (Array.getElem?_eq_some_iff.mp hc).1 (Nat.not_lt.mpr hq)
section VT5
variable {p : Program} {l : Launch} {e : Env} {R : Room} {s : State} {m : MethodId} {args : Array Value} {below : List Frame} {meth : Method} {c : Code} {H : Heap} {locs : List Loc} {cells slots : Nat} {Q : State → Prop}
variable {cc : ByteArray} {pc : Nat} {ls : Array Slot} {rest : List Value} {A : Nat → Prop}
/-- from the call of the exception's constructor to the throw's end -/
theorem vt_throwS (hexec : p.tables.exec = Jvm.exec) (hb : c.code = cc) (hl : l.stackTraces = false) {own cls : String} {names : List String} {ic : Nat} (hown : s.vm.findClass own = some m.cls) (hcls : Bundle.fit cls = true) (hnames : ∀ n ∈ names, Bundle.fit n = true)
    (h : ∀ w ∈ Bundle.ownAtoms own ic cls names, w.before args s = true) (hS : va_S A s.heap H locs) (hns : ∀ q, A q → ∀ cell : Cell, s.heap[q]? = some cell → cell.vm.isStatics = false)
    {q qm : Nat} {cX : ClassId} {kX : Class} (hfX : s.vm.findClass cls = some cX) (hkX : s.vm.classes[cX]? = some kX) (hcell : H[q]? = some (freshCell cX kX)) (hnew : s.heap.size ≤ q)
    (hne : c.exceptionTable.isEmpty = true) (hsz : ls.size = c.maxLocals) (hlocks : meth.locks = false) (hd6 : decode cc pc = .ok (.invokespecial ic, 3)) (hd9 : decode cc (pc + 3) = .ok (.athrow, 1))
    (hRf : names.length + 3 < R.frames) (hRl : 2 * (F0 m pc ls rest).monitorRoom + ((Value.ref q :: rest).map fun v => v.category).sum + (13 * (names.length + 1) + 42) ≤ R.locals) :
    W p l e R s m args below meth c H locs cells slots (vt_MQ below (vt_Q cls A) args s cells slots A) (F0 m pc ls (.ref qm :: .ref q :: .ref q :: rest)) := by
  intro T hT X
  have htr : e.platform.stackTraces = false := by rw [X.admits.platform]; exact hl
  obtain ⟨U, hst, hrun, hend, hW, hsame, ce, hce, K⟩ := X.ctorThrowS hexec htr (own := own) (cls := cls) (names := names) (ic := ic) hown hcls hnames h
    (fun x hx cell hc => hns _ (hS.2.2 x hx) cell hc) hfX hkX (by rw [hT]; exact hcell) hnew (msg := .ref qm) rfl (g := F0 m pc ls (.ref qm :: .ref q :: .ref q :: rest)) rfl hsz rfl rfl (rest := rest) rfl
    (by rw [hb]; exact hd6) (by rw [hb]; exact hd9) (covers_of_empty hne _) hRf hRl hlocks
  exact ⟨U, hst, q, hrun, hend, ⟨⟨ce, hce, K.vm, K.cls⟩, hsame.2.1, fun z h1 h2 => vt_same (t := ({ U with vm := s.vm } : State)) hsame hS.2.2 z h1 h2⟩, hW, locs, hsame, hS.2.2⟩
end VT5
/-! NoSuchElementException's own constructor calls its superclass's by another place of its pool (13) than the bundle of the library has it: the same road, with the first of the constructors told apart. -/
abbrev vs_NS : String := "java/util/NoSuchElementException"
abbrev vs_RT : String := "java/lang/RuntimeException"
def vs_b13 : ByteArray := ⟨#[0x2a, 0x2b, 0xb7, 0x00, 0x0d, 0xb1]⟩
theorem vs_b13_0 : decode vs_b13 0 = .ok (.aload_n 0, 1) := by decide +kernel
theorem vs_b13_1 : decode vs_b13 1 = .ok (.aload_n 1, 1) := by decide +kernel
theorem vs_b13_2 : decode vs_b13 2 = .ok (.invokespecial 13, 3) := by decide +kernel
theorem vs_b13_5 : decode vs_b13 5 = .ok (.return_, 1) := by decide +kernel
def vs_pins : List Cond := [.instantiable vs_NS 6, .selects vs_NS Bundle.tFill0 Bundle.tFill0, .selects vs_NS Bundle.tFill Bundle.tFill,
  .lays vs_NS Bundle.tN "cause" "Ljava/lang/Throwable;", .lays vs_NS Bundle.tN "stackTrace" Bundle.steD, .lays vs_NS Bundle.tN "suppressedExceptions" Bundle.listD, .lays vs_NS Bundle.tN "detailMessage" "Ljava/lang/String;",
  .isRef (.static Bundle.tN "UNASSIGNED_STACK" Bundle.steD), .isRef (.static Bundle.tN "SUPPRESSED_SENTINEL" Bundle.listD),
  .fieldLink Bundle.tN 198 Bundle.tN "backtrace" "Ljava/lang/Object;", .lays Bundle.tN Bundle.tN "backtrace" "Ljava/lang/Object;", .lays vs_NS Bundle.tN "backtrace" "Ljava/lang/Object;"]
def vs_ownN (own : String) (ic : Nat) : List Cond := .methodLink own ic (Bundle.initS vs_NS) :: (Bundle.throwableAtoms ++ (Bundle.throwableSAtoms ++ (Bundle.passSAtoms vs_NS vs_RT 13 vs_b13 ++ (Bundle.chainSAtoms vs_RT ["java/lang/Exception"] ++ vs_pins))))
section VT6
variable {p : Program} {l : Launch} {e : Env} {R : Room} {s : State} {m₀ : MethodId} {args : Array Value} {below : List Frame} {meth : Method} {c : Code} {Wt : State} {locs : List Loc} {cells slots : Nat}
set_option maxHeartbeats 1000000 in
theorem vt_ctorN (X : Stand p l e R s m₀ args below meth c Wt locs cells slots) (hexec : p.tables.exec = Jvm.exec) (htr : e.platform.stackTraces = false) {own : String} {ic : Nat} (hown : s.vm.findClass own = some m₀.cls)
    (h : ∀ w ∈ vs_ownN own ic, w.before args s = true) (hlocs : ∀ x ∈ locs, ∀ cell, s.heap[x.base]? = some cell → cell.vm.isStatics = false)
    {a : Addr} {cX : ClassId} {kX : Class} (hfX : s.vm.findClass vs_NS = some cX) (hkX : s.vm.classes[cX]? = some kX) (hcell : Wt.heap[a]? = some (freshCell cX kX)) (hnew : s.heap.size ≤ a) {msg : Value} (hmsg : msg.isRef = true)
    {g : JFrame} (hg : g.method = m₀) (hsize : g.locals.size = c.maxLocals) (hlocked : g.locked = none) (hentered : g.entered = []) {rest : List Value} (hstack : g.stack = msg :: .ref a :: .ref a :: rest)
    (hd6 : decode c.code g.pc = .ok (.invokespecial ic, 3)) (hd9 : decode c.code (g.pc + 3) = .ok (.athrow, 1)) (hout : ∀ x ∈ c.exceptionTable.toList, covers x (g.pc + 3) = false)
    (hRf : 5 < R.frames) (hRl : 2 * g.monitorRoom + ((Value.ref a :: rest).map fun v => v.category).sum + 81 ≤ R.locals) (hlocks : meth.locks = false) :
    ∃ U : State, Steps p.tables e below (Wt.setTop g) U ∧ U.status = .running ∧ Ended U below (.threw a) ∧ s.WarmedH U.vm ∧ s.sameButNew ({ U with vm := s.vm } : State) locs cells slots ∧ ∃ ce : Cell, U.heap[a]? = some ce ∧ ce.vm = .none ∧ s.vm.findClass vs_NS = some ce.cls := by
  have howns : e.platform.frameOwnsMonitors = true := by rw [X.admits.platform]
  have hfin : e.platform.finalization = false := by rw [X.admits.platform]
  have hpl : e.platform.magicAccessors = ({} : Platform).magicAccessors := by rw [X.admits.platform]
  have hk : ∀ w ∈ vs_pins, w.before args s = true := fun w hw => h w (List.mem_cons_of_mem _ (List.mem_append_right _ (List.mem_append_right _ (List.mem_append_right _ (List.mem_append_right _ hw)))))
  have hpin : ∀ {w : Cond} (i : Nat), vs_pins[i]? = some w → w.before args s = true := fun i hi => hk _ (List.mem_of_getElem? hi)
  -- the constructors, from the top of the classes down
  obtain ⟨T, Z0, L, -, Y⟩ := ThrowableC.of_atoms (args := args) howns hfin hpl (fun w hw => h w (List.mem_cons_of_mem _ (List.mem_append_left _ hw)))
  obtain ⟨Z, M, LZ, LM, hnZ⟩ := Init0T.ofS_atoms (args := args) hpl L Y (fun w hw => h w (List.mem_cons_of_mem _ (List.mem_append_right _ (List.mem_append_left _ hw))))
  have hpass : ∀ w ∈ Bundle.passSAtoms vs_NS vs_RT 13 vs_b13, w.before args s = true := fun w hw => h w (List.mem_cons_of_mem _ (List.mem_append_right _ (List.mem_append_right _ (List.mem_append_left _ hw))))
  obtain ⟨P1, L1, hP1m, hP1s⟩ := PassC.ofS_atoms (args := args) (s := s) hpl (X := vs_NS) (Y := vs_RT) (by decide) (by decide) vs_b13_0 vs_b13_1 vs_b13_2 vs_b13_5 hpass
  obtain ⟨P2, Ps, hlen, L2, hL2, hP2m, hlink2, hlink⟩ := Bundle.chainS (args := args) hpl hnZ ["java/lang/Exception"] vs_RT (by decide) (by decide) (fun w hw => h w (List.mem_cons_of_mem _ (List.mem_append_right _ (List.mem_append_right _ (List.mem_append_right _ (List.mem_append_left _ hw))))))
  have hup : P1.sup = P2.m := Option.some.inj (hP1s.symm.trans hP2m)
  have hfound : s.vm.findClass vs_NS = some P1.m.cls := findClass_of_methodNamed hP1m
  cases Option.some.inj (hfX.symm.trans hfound)
  obtain ⟨c1, kX', hc1, hkc, hord, -, -, hn6⟩ := Cond.instantiable_spec (hpin (w := .instantiable vs_NS 6) 0 rfl)
  cases Option.some.inj (hc1.symm.trans hfound)
  cases Option.some.inj (hkX.symm.trans hkc)
  have hsel0 : selectMethod e.platform s.vm P1.m.cls T.fill0 = .method T.fill0 := by
    obtain ⟨c2, r2, m2, q1, q2, q3, q4, -⟩ := Cond.selects_spec (hpin (w := .selects vs_NS Bundle.tFill0 Bundle.tFill0) 1 rfl)
    cases Option.some.inj (q1.symm.trans hfound)
    cases Option.some.inj (q2.symm.trans (State.methodFound?_of_named Y.fill0 (by decide)))
    cases Option.some.inj (q3.symm.trans Y.fill0)
    rw [Launch.admits_selectMethod X.admits]; exact q4
  have hselF : selectMethod e.platform s.vm P1.m.cls T.fill = .method T.fill := by
    obtain ⟨c2, r2, m2, q1, q2, q3, q4, -⟩ := Cond.selects_spec (hpin (w := .selects vs_NS Bundle.tFill Bundle.tFill) 2 rfl)
    cases Option.some.inj (q1.symm.trans hfound)
    cases Option.some.inj (q2.symm.trans (State.methodFound?_of_named Y.fill (by decide)))
    cases Option.some.inj (q3.symm.trans Y.fill)
    rw [Launch.admits_selectMethod X.admits]; exact q4
  -- Throwable's statics
  obtain ⟨cellS0, hcS0, hiss⟩ := Y.statics
  obtain ⟨u0, hu0⟩ := Cond.staticRefV Y.unassigned L.unassignedStatic L.statics hcS0 hiss (hpin (w := .isRef (.static Bundle.tN "UNASSIGNED_STACK" Bundle.steD)) 7 rfl)
  obtain ⟨sen, hsen⟩ := Cond.staticRefV Y.sentinel L.sentinelStatic L.statics hcS0 hiss (hpin (w := .isRef (.static Bundle.tN "SUPPRESSED_SENTINEL" Bundle.listD)) 8 rfl)
  obtain ⟨ci198, i198, fB, hk198, hg198, ha198, hsB, -, hnB, htB, hffB⟩ := Cond.ownField (t := .object "java/lang/Object") Y.found L.cls (by decide +kernel) (hpin (w := .fieldLink Bundle.tN 198 Bundle.tN "backtrace" "Ljava/lang/Object;") 9 rfl) (hpin (w := .lays Bundle.tN Bundle.tN "backtrace" "Ljava/lang/Object;") 10 rfl) e.platform hpl
  obtain ⟨cellS, hcS', heS, -, hkeep⟩ := X.same.2.2.2.2.2 T.aS cellS0 hcS0
  have hcellS : Wt.heap[T.aS]? = some cellS := hcS'
  have hfree : ∀ i, (⟨T.aS, i⟩ : Loc) ∉ locs := fun i hmem => by
    have h9 := hlocs _ hmem cellS0 hcS0
    rw [hiss] at h9; cases h9
  have hknownS : cellS.vm ≠ .unknown := by
    rw [heS]; intro hu
    rw [show cellS0.vm = .unknown from hu] at hiss
    cases hiss
  have hneS : T.aS ≠ a := Nat.ne_of_lt (Nat.lt_of_lt_of_le (Array.getElem?_eq_some_iff.mp hcS0).1 hnew)
  -- where the exception's own fields lie
  obtain ⟨iM, hffM⟩ := Y.msg
  obtain ⟨tyC, dC, hdC, hdnC⟩ := Cond.laysAt hfound hkc Y.cause (hpin (w := .lays vs_NS Bundle.tN "cause" "Ljava/lang/Throwable;") 3 rfl)
  obtain ⟨tyS, dS, hdS, hdnS⟩ := Cond.laysAt hfound hkc Y.stack (hpin (w := .lays vs_NS Bundle.tN "stackTrace" Bundle.steD) 4 rfl)
  obtain ⟨tyP, dP, hdP, hdnP⟩ := Cond.laysAt hfound hkc Y.supp (hpin (w := .lays vs_NS Bundle.tN "suppressedExceptions" Bundle.listD) 5 rfl)
  obtain ⟨tyM, dM, hdM, hdnM⟩ := Cond.laysAt hfound hkc hffM (hpin (w := .lays vs_NS Bundle.tN "detailMessage" "Ljava/lang/String;") 6 rfl)
  obtain ⟨tyB, dB, hdB, hdnB⟩ := Cond.laysAt hfound hkc hffB (hpin (w := .lays vs_NS Bundle.tN "backtrace" "Ljava/lang/Object;") 11 rfl)
  have bC := Cond.laysApart hdB hdC hdnB hdnC (by rw [hnB, Y.causeName]; decide)
  have bS := Cond.laysApart hdB hdS hdnB hdnS (by rw [hnB, Y.stackName]; decide)
  have bP := Cond.laysApart hdB hdP hdnB hdnP (by rw [hnB, Y.suppName]; decide)
  have hskip : SkipFacts T e.platform s (fun u => u) u0 ((preparedCellV T.toThrowableT (freshCell P1.m.cls kX) a u0 sen).withEntry Wt.cur) :=
    ⟨{ ci198 := ci198, i198 := i198, fBack := fB }, ⟨hk198, hg198, ha198, hsB⟩, by
      have h9 := fresh_default (c := P1.m.cls) tyB
      rw [htB] at h9
      simpa [preparedCellV, Cell.setSlot, Cell.withEntry, Array.getElem?_setIfInBounds, bC, bS, bP, bC.symm, bS.symm, bP.symm, defaultValue] using h9, fun _ _ => rfl⟩
  -- into the constructor, through it, out by the throw
  obtain ⟨tm, methC, cdC, kC, vm₁, hnC, -, -, -, -, -, -, -, hW₁, st1⟩ := Steps.initColdS (tb := p.tables) (e := e) (below := below) (s := s) (U := Wt) X.here hexec X.warmed hpl hown (t := Bundle.initS vs_NS) rfl rfl (by decide)
    (h _ List.mem_cons_self) (hpass (.instanceMethod (Bundle.initS vs_NS)) (List.mem_of_getElem? (i := 0) rfl)) (bytes := vs_b13) (maxL := 2) (hpass (.code (Bundle.initS vs_NS) vs_b13 2 none) (List.mem_of_getElem? (i := 1) rfl))
    (f := g) hg (a := a) (msg := msg) (rest := .ref a :: rest) hstack hd6
  cases Option.some.inj (hnC.symm.trans hP1m)
  have X₁ := X.noted hW₁
  obtain ⟨vm₂, X₂, st2⟩ := X₁.ctorMessageOffV hexec (g := { g with stack := .ref a :: rest }) hg hsize T L Z LZ M LM (P1 :: P2 :: Ps)
    (fun P hP => by
      rcases List.mem_cons.mp hP with rfl | hP
      · exact L1
      · rcases List.mem_cons.mp hP with rfl | hP
        · exact L2
        · exact hL2 P hP) ⟨hup, hlink2, hlink⟩ (u0 := u0) (sen := sen) (self := a) hmsg (cell := freshCell P1.m.cls kX) (cellS := cellS)
    hcell (fun _ => by simp) (by simp) rfl rfl hsel0 hselF hcellS hneS hknownS (by rw [hkeep _ (hfree _)]; exact hu0) (by rw [hkeep _ (hfree _)]; exact hsen)
    (Takes.of_laid hkc hord tyC (by rw [Y.causeType]; rfl)) (Takes.of_laid hkc hord tyS (by rw [Y.stackType]; exact fits_refV_array _ u0)) (Takes.of_laid hkc hord tyP (by rw [Y.suppType]; exact fits_refV_object _ sen))
    (Takes.of_laid hkc hord tyM (by rw [Y.msgType]; exact fits_refV_object _ ⟨msg, hmsg⟩)) Y.objLocals hskip htr [] hd6
    (by have h9 : Ps.length = 1 := hlen
        simp only [List.length_cons, h9]; omega) (by have h9 : Ps.length = 1 := hlen
                                                     simp only [List.length_cons, h9]; exact hRl)
  obtain ⟨hwalk, hrun, hended, hWU, hsame⟩ := X₂.athrowLeaves hexec (g := { g with stack := .ref a :: rest, pc := g.pc + 3 }) hg hlocked hentered hout (a := a) (rest := rest) rfl hd9 hlocks
  have hlt : a < ((Wt.setVm vm₁).setVm vm₂).heap.size := (Array.getElem?_eq_some_iff.mp hcell).1
  have hU := heapAt_setCell_self (s := (Wt.setVm vm₁).setVm vm₂) (plainBareV T.toThrowableT (freshCell P1.m.cls kX) a u0 sen msg) hlt
  refine ⟨_, st1 _ (fun acts => ?_), hrun, hended, hWU, hsame.weaken (fun y hy hlt' => ?_) (Nat.le_refl _) (Nat.le_refl _), _, hU, rfl, hfound⟩
  · rw [doInvoke_state]
    exact st2 _ hwalk
  · rcases List.mem_append.mp hy with h1 | h1
    · exact h1
    · exfalso
      have hb : y.base = a := by
        simp only [List.mem_cons, List.not_mem_nil, or_false] at h1
        rcases h1 with rfl | rfl | rfl | rfl | rfl <;> rfl
      rw [hb] at hlt'
      exact Nat.not_lt.mpr hnew hlt'
theorem vt_throwN {H : Heap} {cc : ByteArray} {pc : Nat} {ls : Array Slot} {rest : List Value} {A : Nat → Prop} (hexec : p.tables.exec = Jvm.exec) (hb : c.code = cc) (hl : l.stackTraces = false) {own : String} {ic : Nat} (hown : s.vm.findClass own = some m₀.cls)
    (h : ∀ w ∈ vs_ownN own ic, w.before args s = true) (hS : va_S A s.heap H locs) (hns : ∀ q, A q → ∀ cell : Cell, s.heap[q]? = some cell → cell.vm.isStatics = false)
    {q qm : Nat} {cX : ClassId} {kX : Class} (hfX : s.vm.findClass vs_NS = some cX) (hkX : s.vm.classes[cX]? = some kX) (hcell : H[q]? = some (freshCell cX kX)) (hnew : s.heap.size ≤ q)
    (hne : c.exceptionTable.isEmpty = true) (hsz : ls.size = c.maxLocals) (hlocks : meth.locks = false) (hd6 : decode cc pc = .ok (.invokespecial ic, 3)) (hd9 : decode cc (pc + 3) = .ok (.athrow, 1))
    (hRf : 5 < R.frames) (hRl : 2 * (F0 m₀ pc ls rest).monitorRoom + ((Value.ref q :: rest).map fun v => v.category).sum + 81 ≤ R.locals) :
    W p l e R s m₀ args below meth c H locs cells slots (vt_MQ below (vt_Q vs_NS A) args s cells slots A) (F0 m₀ pc ls (.ref qm :: .ref q :: .ref q :: rest)) := by
  intro T hT X
  have htr : e.platform.stackTraces = false := by rw [X.admits.platform]; exact hl
  obtain ⟨U, hst, hrun, hend, hW, hsame, ce, hce, k1, k2⟩ := vt_ctorN X hexec htr (own := own) (ic := ic) hown h
    (fun x hx cell hc => hns _ (hS.2.2 x hx) cell hc) hfX hkX (by rw [hT]; exact hcell) hnew (msg := .ref qm) rfl (g := F0 m₀ pc ls (.ref qm :: .ref q :: .ref q :: rest)) rfl hsz rfl rfl (rest := rest) rfl
    (by rw [hb]; exact hd6) (by rw [hb]; exact hd9) (covers_of_empty hne _) hRf hRl hlocks
  exact ⟨U, hst, q, hrun, hend, ⟨⟨ce, hce, k1, k2⟩, hsame.2.1, fun z h1 h2 => vt_same (t := ({ U with vm := s.vm } : State)) hsame hS.2.2 z h1 h2⟩, hW, locs, hsame, hS.2.2⟩
end VT6
/-- of any list of words: those of the tables, and the four on the statics -/
theorem vt_atomsL {L0 : List Cond} (hd : L0.all (fun w => w.onTables || decide (w ∈ vt_four)) = true) {A : Nat → Prop} {args : Array Value} {U : State} (hJ : vt_J (L0.filter (fun w => w.onTables)) U) (hZ : vt_ZZ A U U.heap) : ∀ w ∈ L0, w.before args U = true := by
  intro w hw
  by_cases ho : w.onTables = true
  · exact va_Nw.use ho (hJ w (List.mem_filter.mpr ⟨hw, ho⟩))
  · have h1 := List.all_eq_true.mp hd w hw
    simp only [Bool.not_eq_true] at ho
    rw [ho, Bool.false_or, decide_eq_true_eq] at h1
    simp only [vt_four, List.mem_cons, List.not_mem_nil, or_false] at h1
    rcases h1 with rfl | rfl | rfl | rfl
    · exact hZ.1.lays
    · exact hZ.2.lays
    · exact hZ.1.isRef
    · exact hZ.2.isRef
end
section
abbrev y_TM_init : MethodName := ⟨"TaleMachine", "<init>", "()V"⟩
abbrev y_TM_begin : MethodName := ⟨"TaleMachine", "begin", "(II)V"⟩
abbrev y_TM_code : MethodName := ⟨"TaleMachine", "code", "(II)Z"⟩
abbrev y_TM_collect : MethodName := ⟨"TaleMachine", "collect", "()I"⟩
abbrev y_TM_has : MethodName := ⟨"TaleMachine", "has", "(III)I"⟩
abbrev y_TM_isOf : MethodName := ⟨"TaleMachine", "isOf", "(II)Z"⟩
abbrev y_TM_isProperty : MethodName := ⟨"TaleMachine", "isProperty", "(I)Z"⟩
abbrev y_TM_object : MethodName := ⟨"TaleMachine", "object", "(III)I"⟩
abbrev y_TM_part : MethodName := ⟨"TaleMachine", "part", "(LTaleMachine$Values;II)I"⟩
abbrev y_TM_property : MethodName := ⟨"TaleMachine", "property", "(IIII)V"⟩
abbrev y_TM_run : MethodName := ⟨"TaleMachine", "run", "(I)I"⟩
abbrev y_TM_said : MethodName := ⟨"TaleMachine", "said", "(II)I"⟩
abbrev y_TM_show : MethodName := ⟨"TaleMachine", "show", "(I)I"⟩
abbrev y_TM_stack : MethodName := ⟨"TaleMachine", "stack", "(II)I"⟩
abbrev y_TM_stop : MethodName := ⟨"TaleMachine", "stop", "()Z"⟩
abbrev y_Frame_init : MethodName := ⟨"TaleMachine$Frame", "<init>", "()V"⟩
abbrev y_History_init : MethodName := ⟨"TaleMachine$History", "<init>", "()V"⟩
abbrev y_History_bringBack : MethodName := ⟨"TaleMachine$History", "bringBack", "(ILTaleMachine$State;)Z"⟩
abbrev y_History_dropOldest : MethodName := ⟨"TaleMachine$History", "dropOldest", "()V"⟩
abbrev y_History_dropPoints : MethodName := ⟨"TaleMachine$History", "dropPoints", "()V"⟩
abbrev y_History_dropSaved : MethodName := ⟨"TaleMachine$History", "dropSaved", "()V"⟩
abbrev y_History_save : MethodName := ⟨"TaleMachine$History", "save", "(ILTaleMachine$State;)V"⟩
abbrev y_History_setPoint : MethodName := ⟨"TaleMachine$History", "setPoint", "(LTaleMachine$State;)V"⟩
abbrev y_History_undo : MethodName := ⟨"TaleMachine$History", "undo", "(LTaleMachine$State;)Z"⟩
abbrev y_Script_init : MethodName := ⟨"TaleMachine$Script", "<init>", "()V"⟩
abbrev y_Script_address : MethodName := ⟨"TaleMachine$Script", "address", "(I)I"⟩
abbrev y_Script_append : MethodName := ⟨"TaleMachine$Script", "append", "(II)Z"⟩
abbrev y_Script_at : MethodName := ⟨"TaleMachine$Script", "at", "(I)I"⟩
abbrev y_Script_beginning : MethodName := ⟨"TaleMachine$Script", "beginning", "(I)I"⟩
abbrev y_Script_behind : MethodName := ⟨"TaleMachine$Script", "behind", "(II)I"⟩
abbrev y_Script_instruction : MethodName := ⟨"TaleMachine$Script", "instruction", "(I)I"⟩
abbrev y_Script_isMethod : MethodName := ⟨"TaleMachine$Script", "isMethod", "(II)Z"⟩
abbrev y_Script_locals : MethodName := ⟨"TaleMachine$Script", "locals", "(I)I"⟩
abbrev y_Script_number : MethodName := ⟨"TaleMachine$Script", "number", "(I)I"⟩
abbrev y_State_init : MethodName := ⟨"TaleMachine$State", "<init>", "()V"⟩
abbrev y_State_copy : MethodName := ⟨"TaleMachine$State", "copy", "(LTaleMachine$State;)V"⟩
abbrev y_Teller_init : MethodName := ⟨"TaleMachine$Teller", "<init>", "(LTaleMachine$Script;LTaleMachine$World;LTaleMachine$History;)V"⟩
abbrev y_Teller_answer : MethodName := ⟨"TaleMachine$Teller", "answer", "(LTaleMachine$Frame;IIIII)Z"⟩
abbrev y_Teller_ask : MethodName := ⟨"TaleMachine$Teller", "ask", "(LTaleMachine$Frame;II)Z"⟩
abbrev y_Teller_bringBack : MethodName := ⟨"TaleMachine$Teller", "bringBack", "(LTaleMachine$Frame;I)Z"⟩
abbrev y_Teller_calculate : MethodName := ⟨"TaleMachine$Teller", "calculate", "(LTaleMachine$Frame;I)Z"⟩
abbrev y_Teller_canTake : MethodName := ⟨"TaleMachine$Teller", "canTake", "(LTaleMachine$Frame;I)Z"⟩
abbrev y_Teller_end : MethodName := ⟨"TaleMachine$Teller", "end", "(LTaleMachine$Frame;II)Z"⟩
abbrev y_Teller_enter : MethodName := ⟨"TaleMachine$Teller", "enter", "(IIIII)Z"⟩
abbrev y_Teller_finish : MethodName := ⟨"TaleMachine$Teller", "finish", "(III)Z"⟩
abbrev y_Teller_goOn : MethodName := ⟨"TaleMachine$Teller", "goOn", "(LTaleMachine$Frame;)Z"⟩
abbrev y_Teller_goal : MethodName := ⟨"TaleMachine$Teller", "goal", "(LTaleMachine$Frame;)I"⟩
abbrev y_Teller_halt : MethodName := ⟨"TaleMachine$Teller", "halt", "(I)V"⟩
abbrev y_Teller_inherited : MethodName := ⟨"TaleMachine$Teller", "inherited", "(LTaleMachine$Frame;II)Z"⟩
abbrev y_Teller_isFalse : MethodName := ⟨"TaleMachine$Teller", "isFalse", "(I)Z"⟩
abbrev y_Teller_isLocal : MethodName := ⟨"TaleMachine$Teller", "isLocal", "(LTaleMachine$Frame;I)Z"⟩
abbrev y_Teller_isObjectOnTop : MethodName := ⟨"TaleMachine$Teller", "isObjectOnTop", "(LTaleMachine$Frame;)Z"⟩
abbrev y_Teller_jump : MethodName := ⟨"TaleMachine$Teller", "jump", "(LTaleMachine$Frame;I)Z"⟩
abbrev y_Teller_jumpIfFalse : MethodName := ⟨"TaleMachine$Teller", "jumpIfFalse", "(LTaleMachine$Frame;I)Z"⟩
abbrev y_Teller_like : MethodName := ⟨"TaleMachine$Teller", "like", "(LTaleMachine$Frame;)Z"⟩
abbrev y_Teller_make : MethodName := ⟨"TaleMachine$Teller", "make", "(LTaleMachine$Frame;I)Z"⟩
abbrev y_Teller_number : MethodName := ⟨"TaleMachine$Teller", "number", "(III)I"⟩
abbrev y_Teller_perform : MethodName := ⟨"TaleMachine$Teller", "perform", "()Z"⟩
abbrev y_Teller_put : MethodName := ⟨"TaleMachine$Teller", "put", "(LTaleMachine$Frame;II)Z"⟩
abbrev y_Teller_putCopy : MethodName := ⟨"TaleMachine$Teller", "putCopy", "(LTaleMachine$Frame;I)Z"⟩
abbrev y_Teller_putTruthFor : MethodName := ⟨"TaleMachine$Teller", "putTruthFor", "(LTaleMachine$Frame;IZ)Z"⟩
abbrev y_Teller_raise : MethodName := ⟨"TaleMachine$Teller", "raise", "(I)Z"⟩
abbrev y_Teller_reachRoots : MethodName := ⟨"TaleMachine$Teller", "reachRoots", "()V"⟩
abbrev y_Teller_save : MethodName := ⟨"TaleMachine$Teller", "save", "(LTaleMachine$Frame;I)Z"⟩
abbrev y_Teller_setOwn : MethodName := ⟨"TaleMachine$Teller", "setOwn", "(LTaleMachine$Frame;I)Z"⟩
abbrev y_Teller_setPoint : MethodName := ⟨"TaleMachine$Teller", "setPoint", "(LTaleMachine$Frame;)Z"⟩
abbrev y_Teller_start : MethodName := ⟨"TaleMachine$Teller", "start", "(III)V"⟩
abbrev y_Teller_take : MethodName := ⟨"TaleMachine$Teller", "take", "(LTaleMachine$Frame;I)Z"⟩
abbrev y_Teller_takeIntoLocal : MethodName := ⟨"TaleMachine$Teller", "takeIntoLocal", "(LTaleMachine$Frame;I)Z"⟩
abbrev y_Teller_testOf : MethodName := ⟨"TaleMachine$Teller", "testOf", "(LTaleMachine$Frame;I)Z"⟩
abbrev y_Teller_top : MethodName := ⟨"TaleMachine$Teller", "top", "()LTaleMachine$Frame;"⟩
abbrev y_Teller_topInt : MethodName := ⟨"TaleMachine$Teller", "topInt", "()I"⟩
abbrev y_Teller_topKind : MethodName := ⟨"TaleMachine$Teller", "topKind", "()I"⟩
abbrev y_Values_init : MethodName := ⟨"TaleMachine$Values", "<init>", "(I)V"⟩
abbrev y_Values_add : MethodName := ⟨"TaleMachine$Values", "add", "(II)Z"⟩
abbrev y_Values_isFull : MethodName := ⟨"TaleMachine$Values", "isFull", "()Z"⟩
abbrev y_World_init : MethodName := ⟨"TaleMachine$World", "<init>", "()V"⟩
abbrev y_World_clearOwn : MethodName := ⟨"TaleMachine$World", "clearOwn", "(I)V"⟩
abbrev y_World_count : MethodName := ⟨"TaleMachine$World", "count", "()I"⟩
abbrev y_World_descends : MethodName := ⟨"TaleMachine$World", "descends", "(II)Z"⟩
abbrev y_World_fix : MethodName := ⟨"TaleMachine$World", "fix", "(IIII)I"⟩
abbrev y_World_forgetReached : MethodName := ⟨"TaleMachine$World", "forgetReached", "()V"⟩
abbrev y_World_gather : MethodName := ⟨"TaleMachine$World", "gather", "(II)I"⟩
abbrev y_World_holder : MethodName := ⟨"TaleMachine$World", "holder", "(II)I"⟩
abbrev y_World_holderBehind : MethodName := ⟨"TaleMachine$World", "holderBehind", "(III)I"⟩
abbrev y_World_holderFrom : MethodName := ⟨"TaleMachine$World", "holderFrom", "(II)I"⟩
abbrev y_World_inLine : MethodName := ⟨"TaleMachine$World", "inLine", "(I)I"⟩
abbrev y_World_isFixed : MethodName := ⟨"TaleMachine$World", "isFixed", "(I)Z"⟩
abbrev y_World_isThere : MethodName := ⟨"TaleMachine$World", "isThere", "(I)Z"⟩
abbrev y_World_lay : MethodName := ⟨"TaleMachine$World", "lay", "(I)V"⟩
abbrev y_World_make : MethodName := ⟨"TaleMachine$World", "make", "(I)I"⟩
abbrev y_World_ownInt : MethodName := ⟨"TaleMachine$World", "ownInt", "(II)I"⟩
abbrev y_World_ownKind : MethodName := ⟨"TaleMachine$World", "ownKind", "(II)I"⟩
abbrev y_World_reach : MethodName := ⟨"TaleMachine$World", "reach", "(I)V"⟩
abbrev y_World_reachFrom : MethodName := ⟨"TaleMachine$World", "reachFrom", "(I)V"⟩
abbrev y_World_reachValue : MethodName := ⟨"TaleMachine$World", "reachValue", "(II)V"⟩
abbrev y_World_setOwn : MethodName := ⟨"TaleMachine$World", "setOwn", "(IIII)V"⟩
abbrev y_World_sweep : MethodName := ⟨"TaleMachine$World", "sweep", "()I"⟩
abbrev y_Law_begin : MethodName := ⟨"TaleMachineLaw", "begin", "(LTaleMachine;II)I"⟩
abbrev y_Law_has : MethodName := ⟨"TaleMachineLaw", "has", "(LTaleMachine;III[J)I"⟩
abbrev y_Law_object : MethodName := ⟨"TaleMachineLaw", "object", "(LTaleMachine;III[J)I"⟩
abbrev y_Law_property : MethodName := ⟨"TaleMachineLaw", "property", "(LTaleMachine;IIII)I"⟩
abbrev y_Law_said : MethodName := ⟨"TaleMachineLaw", "said", "(LTaleMachine;II[J)I"⟩
abbrev y_Law_show : MethodName := ⟨"TaleMachineLaw", "show", "(LTaleMachine;I[J)I"⟩
abbrev y_Law_stack : MethodName := ⟨"TaleMachineLaw", "stack", "(LTaleMachine;II[J)I"⟩
abbrev y_Model_init : MethodName := ⟨"TaleMachineModel", "<init>", "()V"⟩
abbrev y_Model_ask : MethodName := ⟨"TaleMachineModel", "ask", "(IIIII)Z"⟩
abbrev y_Model_assign : MethodName := ⟨"TaleMachineModel", "assign", "(I)Z"⟩
abbrev y_Model_at : MethodName := ⟨"TaleMachineModel", "at", "(I)I"⟩
abbrev y_Model_begin : MethodName := ⟨"TaleMachineModel", "begin", "(II)V"⟩
abbrev y_Model_belongs : MethodName := ⟨"TaleMachineModel", "belongs", "(II)Z"⟩
abbrev y_Model_call : MethodName := ⟨"TaleMachineModel", "call", "(IIIII)Z"⟩
abbrev y_Model_code : MethodName := ⟨"TaleMachineModel", "code", "(II)Z"⟩
abbrev y_Model_collect : MethodName := ⟨"TaleMachineModel", "collect", "()I"⟩
abbrev y_Model_copy : MethodName := ⟨"TaleMachineModel", "copy", "(II)V"⟩
abbrev y_Model_empty : MethodName := ⟨"TaleMachineModel", "empty", "(I)V"⟩
abbrev y_Model_end : MethodName := ⟨"TaleMachineModel", "end", "(II)Z"⟩
abbrev y_Model_enter : MethodName := ⟨"TaleMachineModel", "enter", "(IIII)V"⟩
abbrev y_Model_findLine : MethodName := ⟨"TaleMachineModel", "findLine", "(I)V"⟩
abbrev y_Model_give : MethodName := ⟨"TaleMachineModel", "give", "(IIII)V"⟩
abbrev y_Model_going : MethodName := ⟨"TaleMachineModel", "going", "(III)Z"⟩
abbrev y_Model_handler : MethodName := ⟨"TaleMachineModel", "handler", "(II)I"⟩
abbrev y_Model_has : MethodName := ⟨"TaleMachineModel", "has", "(III)I"⟩
abbrev y_Model_hasOwn : MethodName := ⟨"TaleMachineModel", "hasOwn", "(II)Z"⟩
abbrev y_Model_isFalse : MethodName := ⟨"TaleMachineModel", "isFalse", "(I)Z"⟩
abbrev y_Model_isObject : MethodName := ⟨"TaleMachineModel", "isObject", "(I)Z"⟩
abbrev y_Model_isOf : MethodName := ⟨"TaleMachineModel", "isOf", "(II)Z"⟩
abbrev y_Model_isParent : MethodName := ⟨"TaleMachineModel", "isParent", "(I)Z"⟩
abbrev y_Model_isThere : MethodName := ⟨"TaleMachineModel", "isThere", "(I)Z"⟩
abbrev y_Model_lengthOf : MethodName := ⟨"TaleMachineModel", "lengthOf", "(I)I"⟩
abbrev y_Model_make : MethodName := ⟨"TaleMachineModel", "make", "(I)Z"⟩
abbrev y_Model_mark : MethodName := ⟨"TaleMachineModel", "mark", "(III)I"⟩
abbrev y_Model_object : MethodName := ⟨"TaleMachineModel", "object", "(III)I"⟩
abbrev y_Model_one : MethodName := ⟨"TaleMachineModel", "one", "()Z"⟩
abbrev y_Model_outside : MethodName := ⟨"TaleMachineModel", "outside", "(III)Z"⟩
abbrev y_Model_over : MethodName := ⟨"TaleMachineModel", "over", "(I)I"⟩
abbrev y_Model_owner : MethodName := ⟨"TaleMachineModel", "owner", "(III)I"⟩
abbrev y_Model_parent : MethodName := ⟨"TaleMachineModel", "parent", "(II)I"⟩
abbrev y_Model_parents : MethodName := ⟨"TaleMachineModel", "parents", "(I)I"⟩
abbrev y_Model_placeOf : MethodName := ⟨"TaleMachineModel", "placeOf", "(II)I"⟩
abbrev y_Model_point : MethodName := ⟨"TaleMachineModel", "point", "()Z"⟩
abbrev y_Model_property : MethodName := ⟨"TaleMachineModel", "property", "(IIII)V"⟩
abbrev y_Model_push : MethodName := ⟨"TaleMachineModel", "push", "(II)V"⟩
abbrev y_Model_putting : MethodName := ⟨"TaleMachineModel", "putting", "(III)Z"⟩
abbrev y_Model_reckoning : MethodName := ⟨"TaleMachineModel", "reckoning", "(I)Z"⟩
abbrev y_Model_refuse : MethodName := ⟨"TaleMachineModel", "refuse", "(I)I"⟩
abbrev y_Model_run : MethodName := ⟨"TaleMachineModel", "run", "(I)I"⟩
abbrev y_Model_said : MethodName := ⟨"TaleMachineModel", "said", "(II)I"⟩
abbrev y_Model_show : MethodName := ⟨"TaleMachineModel", "show", "(I)I"⟩
abbrev y_Model_signed : MethodName := ⟨"TaleMachineModel", "signed", "(I)I"⟩
abbrev y_Model_sound : MethodName := ⟨"TaleMachineModel", "sound", "(II)Z"⟩
abbrev y_Model_spread : MethodName := ⟨"TaleMachineModel", "spread", "(I)I"⟩
abbrev y_Model_stack : MethodName := ⟨"TaleMachineModel", "stack", "(II)I"⟩
abbrev y_Model_stop : MethodName := ⟨"TaleMachineModel", "stop", "()Z"⟩
abbrev y_Model_taken : MethodName := ⟨"TaleMachineModel", "taken", "()I"⟩
abbrev y_Model_thrown : MethodName := ⟨"TaleMachineModel", "thrown", "()I"⟩
abbrev y_Model_toss : MethodName := ⟨"TaleMachineModel", "toss", "(I)Z"⟩
abbrev y_Model_truth : MethodName := ⟨"TaleMachineModel", "truth", "(Z)Z"⟩
abbrev y_Model_two : MethodName := ⟨"TaleMachineModel", "two", "(I)I"⟩
abbrev y_Model_world : MethodName := ⟨"TaleMachineModel", "world", "(II)Z"⟩
abbrev y_Arrays_fill : MethodName := ⟨"java/util/Arrays", "fill", "([II)V"⟩
def F_Frame : u_T := fun k => match k with
  | 0 => ("TaleMachine$Frame", "method", "I", false)
  | 1 => ("TaleMachine$Frame", "beginning", "I", false)
  | 2 => ("TaleMachine$Frame", "self", "I", false)
  | 3 => ("TaleMachine$Frame", "found", "I", false)
  | 4 => ("TaleMachine$Frame", "place", "I", false)
  | 5 => ("TaleMachine$Frame", "behind", "I", false)
  | 6 => ("TaleMachine$Frame", "base", "I", false)
  | _ => ("TaleMachine$Frame", "floor", "I", false)
def t_Frame : Nat → FieldType := fun k => match k with
  | 0 => .int
  | 1 => .int
  | 2 => .int
  | 3 => .int
  | 4 => .int
  | 5 => .int
  | 6 => .int
  | _ => .int
theorem n_Frame : ∀ a, a < 8 → ∀ b, b < 8 → a ≠ b → (F_Frame a).2.1 ≠ (F_Frame b).2.1 := by decide +kernel
theorem t_Frame_ok : ∀ k, k < 8 → parseFieldDescriptor (F_Frame k).2.2.1 = some (t_Frame k) := by decide +kernel
theorem dv_Frame : ∀ j, j < 8 → defaultValue (t_Frame j) = vp_V [.int 0, .int 0, .int 0, .int 0, .int 0, .int 0, .int 0, .int 0] j := by decide +kernel
def F_History : u_T := fun k => match k with
  | 0 => ("TaleMachine$History", "pointed", "[LTaleMachine$State;", true)
  | 1 => ("TaleMachine$History", "saved", "[LTaleMachine$State;", true)
  | 2 => ("TaleMachine$History", "isSaved", "[Z", true)
  | _ => ("TaleMachine$History", "points", "I", false)
def t_History : Nat → FieldType := fun k => match k with
  | 0 => .array (.object "TaleMachine$State")
  | 1 => .array (.object "TaleMachine$State")
  | 2 => .array .boolean
  | _ => .int
theorem n_History : ∀ a, a < 4 → ∀ b, b < 4 → a ≠ b → (F_History a).2.1 ≠ (F_History b).2.1 := by decide +kernel
theorem t_History_ok : ∀ k, k < 4 → parseFieldDescriptor (F_History k).2.2.1 = some (t_History k) := by decide +kernel
theorem dv_History : ∀ j, j < 4 → defaultValue (t_History j) = vp_V [.null, .null, .null, .int 0] j := by decide +kernel
def F_Script : u_T := fun k => match k with
  | 0 => ("TaleMachine$Script", "bytes", "[I", true)
  | _ => ("TaleMachine$Script", "length", "I", false)
def t_Script : Nat → FieldType := fun k => match k with
  | 0 => .array .int
  | _ => .int
theorem n_Script : ∀ a, a < 2 → ∀ b, b < 2 → a ≠ b → (F_Script a).2.1 ≠ (F_Script b).2.1 := by decide +kernel
theorem t_Script_ok : ∀ k, k < 2 → parseFieldDescriptor (F_Script k).2.2.1 = some (t_Script k) := by decide +kernel
theorem dv_Script : ∀ j, j < 2 → defaultValue (t_Script j) = vp_V [.null, .int 0] j := by decide +kernel
def F_State : u_T := fun k => match k with
  | 0 => ("TaleMachine$State", "kinds", "[I", true)
  | 1 => ("TaleMachine$State", "ints", "[I", true)
  | _ => ("TaleMachine$State", "parents", "[I", true)
def t_State : Nat → FieldType := fun k => match k with
  | 0 => .array .int
  | 1 => .array .int
  | _ => .array .int
theorem n_State : ∀ a, a < 3 → ∀ b, b < 3 → a ≠ b → (F_State a).2.1 ≠ (F_State b).2.1 := by decide +kernel
theorem t_State_ok : ∀ k, k < 3 → parseFieldDescriptor (F_State k).2.2.1 = some (t_State k) := by decide +kernel
theorem dv_State : ∀ j, j < 3 → defaultValue (t_State j) = vp_V [.null, .null, .null] j := by decide +kernel
def F_Teller : u_T := fun k => match k with
  | 0 => ("TaleMachine$Teller", "script", "LTaleMachine$Script;", true)
  | 1 => ("TaleMachine$Teller", "world", "LTaleMachine$World;", true)
  | 2 => ("TaleMachine$Teller", "history", "LTaleMachine$History;", true)
  | 3 => ("TaleMachine$Teller", "frames", "[LTaleMachine$Frame;", true)
  | 4 => ("TaleMachine$Teller", "values", "LTaleMachine$Values;", true)
  | 5 => ("TaleMachine$Teller", "sayings", "LTaleMachine$Values;", true)
  | 6 => ("TaleMachine$Teller", "result", "LTaleMachine$Values;", true)
  | 7 => ("TaleMachine$Teller", "depth", "I", false)
  | _ => ("TaleMachine$Teller", "outcome", "I", false)
def t_Teller : Nat → FieldType := fun k => match k with
  | 0 => .object "TaleMachine$Script"
  | 1 => .object "TaleMachine$World"
  | 2 => .object "TaleMachine$History"
  | 3 => .array (.object "TaleMachine$Frame")
  | 4 => .object "TaleMachine$Values"
  | 5 => .object "TaleMachine$Values"
  | 6 => .object "TaleMachine$Values"
  | 7 => .int
  | _ => .int
theorem n_Teller : ∀ a, a < 9 → ∀ b, b < 9 → a ≠ b → (F_Teller a).2.1 ≠ (F_Teller b).2.1 := by decide +kernel
theorem t_Teller_ok : ∀ k, k < 9 → parseFieldDescriptor (F_Teller k).2.2.1 = some (t_Teller k) := by decide +kernel
theorem dv_Teller : ∀ j, j < 9 → defaultValue (t_Teller j) = vp_V [.null, .null, .null, .null, .null, .null, .null, .int 0, .int 0] j := by decide +kernel
def F_Values : u_T := fun k => match k with
  | 0 => ("TaleMachine$Values", "kinds", "[I", true)
  | 1 => ("TaleMachine$Values", "ints", "[I", true)
  | _ => ("TaleMachine$Values", "count", "I", false)
def t_Values : Nat → FieldType := fun k => match k with
  | 0 => .array .int
  | 1 => .array .int
  | _ => .int
theorem n_Values : ∀ a, a < 3 → ∀ b, b < 3 → a ≠ b → (F_Values a).2.1 ≠ (F_Values b).2.1 := by decide +kernel
theorem t_Values_ok : ∀ k, k < 3 → parseFieldDescriptor (F_Values k).2.2.1 = some (t_Values k) := by decide +kernel
theorem dv_Values : ∀ j, j < 3 → defaultValue (t_Values j) = vp_V [.null, .null, .int 0] j := by decide +kernel
def F_World : u_T := fun k => match k with
  | 0 => ("TaleMachine$World", "now", "LTaleMachine$State;", true)
  | 1 => ("TaleMachine$World", "fixed", "I", false)
  | 2 => ("TaleMachine$World", "fixedLines", "[I", true)
  | 3 => ("TaleMachine$World", "fixedLengths", "[I", true)
  | 4 => ("TaleMachine$World", "line", "[I", true)
  | 5 => ("TaleMachine$World", "length", "I", false)
  | 6 => ("TaleMachine$World", "reached", "[I", true)
  | 7 => ("TaleMachine$World", "reachedCount", "I", false)
  | _ => ("TaleMachine$World", "reachedBits", "I", false)
def t_World : Nat → FieldType := fun k => match k with
  | 0 => .object "TaleMachine$State"
  | 1 => .int
  | 2 => .array .int
  | 3 => .array .int
  | 4 => .array .int
  | 5 => .int
  | 6 => .array .int
  | 7 => .int
  | _ => .int
theorem n_World : ∀ a, a < 9 → ∀ b, b < 9 → a ≠ b → (F_World a).2.1 ≠ (F_World b).2.1 := by decide +kernel
theorem t_World_ok : ∀ k, k < 9 → parseFieldDescriptor (F_World k).2.2.1 = some (t_World k) := by decide +kernel
theorem dv_World : ∀ j, j < 9 → defaultValue (t_World j) = vp_V [.null, .int 0, .null, .null, .null, .int 0, .null, .int 0, .int 0] j := by decide +kernel
def F_TM : u_T := fun k => match k with
  | 0 => ("TaleMachine", "script", "LTaleMachine$Script;", true)
  | 1 => ("TaleMachine", "world", "LTaleMachine$World;", true)
  | 2 => ("TaleMachine", "history", "LTaleMachine$History;", true)
  | _ => ("TaleMachine", "teller", "LTaleMachine$Teller;", true)
def t_TM : Nat → FieldType := fun k => match k with
  | 0 => .object "TaleMachine$Script"
  | 1 => .object "TaleMachine$World"
  | 2 => .object "TaleMachine$History"
  | _ => .object "TaleMachine$Teller"
theorem n_TM : ∀ a, a < 4 → ∀ b, b < 4 → a ≠ b → (F_TM a).2.1 ≠ (F_TM b).2.1 := by decide +kernel
theorem t_TM_ok : ∀ k, k < 4 → parseFieldDescriptor (F_TM k).2.2.1 = some (t_TM k) := by decide +kernel
theorem dv_TM : ∀ j, j < 4 → defaultValue (t_TM j) = vp_V [.null, .null, .null, .null] j := by decide +kernel
def F_Model : u_T := fun k => match k with
  | 0 => ("TaleMachineModel", "code", "I", false)
  | 1 => ("TaleMachineModel", "bytes", "[I", true)
  | 2 => ("TaleMachineModel", "size", "I", false)
  | 3 => ("TaleMachineModel", "w", "[I", true)
  | 4 => ("TaleMachineModel", "fixed", "I", false)
  | 5 => ("TaleMachineModel", "points", "I", false)
  | 6 => ("TaleMachineModel", "saved", "[Z", true)
  | 7 => ("TaleMachineModel", "length", "I", false)
  | 8 => ("TaleMachineModel", "line", "[I", true)
  | 9 => ("TaleMachineModel", "met", "[Z", true)
  | 10 => ("TaleMachineModel", "waiting", "[I", true)
  | 11 => ("TaleMachineModel", "nextParent", "[I", true)
  | 12 => ("TaleMachineModel", "height", "I", false)
  | 13 => ("TaleMachineModel", "kind", "[I", true)
  | 14 => ("TaleMachineModel", "number", "[I", true)
  | 15 => ("TaleMachineModel", "depth", "I", false)
  | 16 => ("TaleMachineModel", "begin", "[I", true)
  | 17 => ("TaleMachineModel", "table", "[I", true)
  | 18 => ("TaleMachineModel", "handlers", "[I", true)
  | 19 => ("TaleMachineModel", "base", "[I", true)
  | 20 => ("TaleMachineModel", "locals", "[I", true)
  | 21 => ("TaleMachineModel", "self", "[I", true)
  | 22 => ("TaleMachineModel", "found", "[I", true)
  | 23 => ("TaleMachineModel", "place", "[I", true)
  | 24 => ("TaleMachineModel", "next", "[I", true)
  | 25 => ("TaleMachineModel", "said", "I", false)
  | 26 => ("TaleMachineModel", "saidKind", "[I", true)
  | 27 => ("TaleMachineModel", "saidNumber", "[I", true)
  | 28 => ("TaleMachineModel", "resultKind", "I", false)
  | 29 => ("TaleMachineModel", "resultNumber", "I", false)
  | _ => ("TaleMachineModel", "ended", "I", false)
def t_Model : Nat → FieldType := fun k => match k with
  | 0 => .int
  | 1 => .array .int
  | 2 => .int
  | 3 => .array .int
  | 4 => .int
  | 5 => .int
  | 6 => .array .boolean
  | 7 => .int
  | 8 => .array .int
  | 9 => .array .boolean
  | 10 => .array .int
  | 11 => .array .int
  | 12 => .int
  | 13 => .array .int
  | 14 => .array .int
  | 15 => .int
  | 16 => .array .int
  | 17 => .array .int
  | 18 => .array .int
  | 19 => .array .int
  | 20 => .array .int
  | 21 => .array .int
  | 22 => .array .int
  | 23 => .array .int
  | 24 => .array .int
  | 25 => .int
  | 26 => .array .int
  | 27 => .array .int
  | 28 => .int
  | 29 => .int
  | _ => .int
theorem n_Model : ∀ a, a < 31 → ∀ b, b < 31 → a ≠ b → (F_Model a).2.1 ≠ (F_Model b).2.1 := by decide +kernel
theorem t_Model_ok : ∀ k, k < 31 → parseFieldDescriptor (F_Model k).2.2.1 = some (t_Model k) := by decide +kernel
theorem dv_Model : ∀ j, j < 31 → defaultValue (t_Model j) = vp_V [.int 0, .null, .int 0, .null, .int 0, .int 0, .null, .int 0, .null, .null, .null, .null, .int 0, .null, .null, .int 0, .null, .null, .null, .null, .null, .null, .null, .null, .null, .int 0, .null, .null, .int 0, .int 0, .int 0] j := by decide +kernel
abbrev cL : List vw_C := [("TaleMachine$Frame", F_Frame, 8), ("TaleMachine$History", F_History, 4), ("TaleMachine$Script", F_Script, 2), ("TaleMachine$State", F_State, 3), ("TaleMachine$Teller", F_Teller, 9), ("TaleMachine$Values", F_Values, 3), ("TaleMachine$World", F_World, 9), ("TaleMachine", F_TM, 4), ("TaleMachineModel", F_Model, 31)]
end
section
def AW_0 : List Cond := [.fieldLink "TaleMachineModel" 75 "TaleMachineModel" "code" "I",
  .code y_Model_outside prog_10_method_4_code 3 (some .boolean),
  .methodLink "TaleMachineModel" 78 y_Model_outside,
  .static y_Model_outside,
  .initialized "TaleMachineModel",
  .fieldLink "TaleMachineModel" 13 "TaleMachineModel" "w" "[I",
  .code y_Model_isThere prog_10_method_5_code 2 (some .boolean),
  .methodLink "TaleMachineModel" 107 y_Model_isThere,
  .instanceMethod y_Model_isThere,
  .selects "TaleMachineModel" y_Model_isThere y_Model_isThere,
  .code y_Model_placeOf prog_10_method_8_code 3 (some .int),
  .methodLink "TaleMachineModel" 82 y_Model_placeOf,
  .instanceMethod y_Model_placeOf,
  .selects "TaleMachineModel" y_Model_placeOf y_Model_placeOf,
  .fieldLink "TaleMachineModel" 104 "TaleMachineModel" "size" "I",
  .fieldLink "TaleMachineModel" 7 "TaleMachineModel" "bytes" "[I",
  .code y_Model_isParent prog_10_method_17_code 2 (some .boolean),
  .methodLink "TaleMachineModel" 111 y_Model_isParent,
  .instanceMethod y_Model_isParent,
  .selects "TaleMachineModel" y_Model_isParent y_Model_isParent,
  .fieldLink "TaleMachineModel" 71 "TaleMachineModel" "ended" "I",
  .fieldLink "TaleMachineModel" 114 "TaleMachineModel" "fixed" "I",
  .code y_Model_empty prog_10_method_11_code 3 none,
  .methodLink "TaleMachineModel" 117 y_Model_empty,
  .instanceMethod y_Model_empty,
  .selects "TaleMachineModel" y_Model_empty y_Model_empty,
  .fieldLink "TaleMachineModel" 16 "TaleMachineModel" "saved" "[Z",
  .fieldLink "TaleMachineModel" 147 "TaleMachineModel" "resultKind" "I",
  .fieldLink "TaleMachineModel" 150 "TaleMachineModel" "resultNumber" "I",
  .code y_Model_mark prog_10_method_48_code 4 (some .int),
  .methodLink "TaleMachineModel" 232 y_Model_mark,
  .instanceMethod y_Model_mark,
  .selects "TaleMachineModel" y_Model_mark y_Model_mark,
  .fieldLink "TaleMachineModel" 130 "TaleMachineModel" "height" "I",
  .fieldLink "TaleMachineModel" 127 "TaleMachineModel" "depth" "I",
  .code y_Model_refuse prog_10_method_3_code 2 (some .int),
  .methodLink "TaleMachineModel" 238 y_Model_refuse,
  .instanceMethod y_Model_refuse,
  .selects "TaleMachineModel" y_Model_refuse y_Model_refuse,
  .fieldLink "TaleMachineModel" 144 "TaleMachineModel" "said" "I",
  .fieldLink "TaleMachineModel" 153 "TaleMachineModel" "points" "I",
  .methodLink "TaleMachine$Script" 3 objectInit,
  .instanceMethod objectInit,
  .code objectInit object_method_1_code 1 none,
  .arrayClass .int,
  .fieldLink "TaleMachine$Script" 9 "TaleMachine$Script" "bytes" "[I",
  .methodLink "TaleMachine$Frame" 1 objectInit,
  .methodLink "TaleMachine$Values" 1 objectInit,
  .fieldLink "TaleMachine$Values" 7 "TaleMachine$Values" "kinds" "[I",
  .fieldLink "TaleMachine$Values" 13 "TaleMachine$Values" "ints" "[I",
  .methodLink "TaleMachine$State" 3 objectInit,
  .fieldLink "TaleMachine$State" 9 "TaleMachine$State" "kinds" "[I",
  .fieldLink "TaleMachine$State" 15 "TaleMachine$State" "ints" "[I",
  .fieldLink "TaleMachine$State" 18 "TaleMachine$State" "parents" "[I",
  .code y_Arrays_fill prog_19_method_103_code 4 none,
  .methodLink "TaleMachine$State" 21 y_Arrays_fill,
  .static y_Arrays_fill,
  .initialized "java/util/Arrays",
  .methodLink "TaleMachine$World" 3 objectInit,
  .classLink "TaleMachine$World" 9 "TaleMachine$State"]
def AW_1 : List Cond := [.instantiable "TaleMachine$State" 3,
  .initialized "TaleMachine$State",
  .code y_State_init prog_5_method_1_code 1 none,
  .methodLink "TaleMachine$World" 11 y_State_init,
  .instanceMethod y_State_init,
  .fieldLink "TaleMachine$World" 12 "TaleMachine$World" "now" "LTaleMachine$State;",
  .fieldLink "TaleMachine$World" 18 "TaleMachine$World" "fixedLines" "[I",
  .fieldLink "TaleMachine$World" 22 "TaleMachine$World" "fixedLengths" "[I",
  .fieldLink "TaleMachine$World" 25 "TaleMachine$World" "line" "[I",
  .fieldLink "TaleMachine$World" 28 "TaleMachine$World" "reached" "[I",
  .methodLink "TaleMachine$History" 3 objectInit,
  .classLink "TaleMachine$History" 9 "TaleMachine$State",
  .fieldLink "TaleMachine$History" 11 "TaleMachine$History" "pointed" "[LTaleMachine$State;",
  .fieldLink "TaleMachine$History" 17 "TaleMachine$History" "saved" "[LTaleMachine$State;",
  .arrayClass .boolean,
  .fieldLink "TaleMachine$History" 20 "TaleMachine$History" "isSaved" "[Z",
  .methodLink "TaleMachine$History" 24 y_State_init,
  .methodLink "TaleMachine$Teller" 3 objectInit,
  .classLink "TaleMachine$Teller" 9 "TaleMachine$Frame",
  .fieldLink "TaleMachine$Teller" 11 "TaleMachine$Teller" "frames" "[LTaleMachine$Frame;",
  .classLink "TaleMachine$Teller" 17 "TaleMachine$Values",
  .instantiable "TaleMachine$Values" 3,
  .initialized "TaleMachine$Values",
  .code y_Values_init prog_7_method_1_code 2 none,
  .methodLink "TaleMachine$Teller" 19 y_Values_init,
  .instanceMethod y_Values_init,
  .fieldLink "TaleMachine$Teller" 22 "TaleMachine$Teller" "values" "LTaleMachine$Values;",
  .fieldLink "TaleMachine$Teller" 26 "TaleMachine$Teller" "sayings" "LTaleMachine$Values;",
  .fieldLink "TaleMachine$Teller" 29 "TaleMachine$Teller" "result" "LTaleMachine$Values;",
  .fieldLink "TaleMachine$Teller" 32 "TaleMachine$Teller" "outcome" "I",
  .fieldLink "TaleMachine$Teller" 36 "TaleMachine$Teller" "script" "LTaleMachine$Script;",
  .fieldLink "TaleMachine$Teller" 40 "TaleMachine$Teller" "world" "LTaleMachine$World;",
  .fieldLink "TaleMachine$Teller" 44 "TaleMachine$Teller" "history" "LTaleMachine$History;",
  .instantiable "TaleMachine$Frame" 8,
  .initialized "TaleMachine$Frame",
  .code y_Frame_init prog_2_method_1_code 1 none,
  .instanceMethod y_Frame_init,
  .methodLink "TaleMachine" 3 objectInit,
  .classLink "TaleMachine" 9 "TaleMachine$Script",
  .instantiable "TaleMachine$Script" 2,
  .initialized "TaleMachine$Script",
  .code y_Script_init prog_4_method_1_code 1 none,
  .instanceMethod y_Script_init,
  .fieldLink "TaleMachine" 12 "TaleMachine" "script" "LTaleMachine$Script;",
  .classLink "TaleMachine" 16 "TaleMachine$World",
  .instantiable "TaleMachine$World" 9,
  .initialized "TaleMachine$World",
  .code y_World_init prog_8_method_1_code 1 none,
  .instanceMethod y_World_init,
  .fieldLink "TaleMachine" 19 "TaleMachine" "world" "LTaleMachine$World;",
  .classLink "TaleMachine" 23 "TaleMachine$History",
  .instantiable "TaleMachine$History" 4,
  .initialized "TaleMachine$History",
  .code y_History_init prog_3_method_1_code 2 none,
  .methodLink "TaleMachine" 25 y_History_init,
  .instanceMethod y_History_init,
  .fieldLink "TaleMachine" 26 "TaleMachine" "history" "LTaleMachine$History;",
  .classLink "TaleMachine" 30 "TaleMachine$Teller",
  .instantiable "TaleMachine$Teller" 9,
  .initialized "TaleMachine$Teller"]
def AW_2 : List Cond := [.code y_Teller_init prog_6_method_1_code 5 none,
  .methodLink "TaleMachine" 32 y_Teller_init,
  .instanceMethod y_Teller_init,
  .fieldLink "TaleMachine" 35 "TaleMachine" "teller" "LTaleMachine$Teller;",
  .fieldLink "TaleMachine$Script" 15 "TaleMachine$Script" "length" "I",
  .code y_Script_append prog_4_method_2_code 4 (some .boolean),
  .methodLink "TaleMachine" 39 y_Script_append,
  .instanceMethod y_Script_append,
  .selects "TaleMachine$Script" y_Script_append y_Script_append,
  .fieldLink "TaleMachine$World" 31 "TaleMachine$World" "fixed" "I",
  .code y_World_isFixed prog_8_method_2_code 2 (some .boolean),
  .methodLink "TaleMachine$World" 35 y_World_isFixed,
  .instanceMethod y_World_isFixed,
  .selects "TaleMachine$World" y_World_isFixed y_World_isFixed,
  .fieldLink "TaleMachine$World" 39 "TaleMachine$State" "parents" "[I",
  .fieldLink "TaleMachine$World" 85 "TaleMachine$World" "reachedCount" "I",
  .fieldLink "TaleMachine$World" 88 "TaleMachine$World" "reachedBits" "I",
  .code y_World_isThere prog_8_method_3_code 2 (some .boolean),
  .methodLink "TaleMachine$World" 82 y_World_isThere,
  .instanceMethod y_World_isThere,
  .selects "TaleMachine$World" y_World_isThere y_World_isThere,
  .fieldLink "TaleMachine$Teller" 52 "TaleMachine$Values" "count" "I",
  .fieldLink "TaleMachine$Teller" 49 "TaleMachine$Teller" "depth" "I",
  .code y_World_forgetReached prog_8_method_18_code 1 none,
  .methodLink "TaleMachine" 124 y_World_forgetReached,
  .instanceMethod y_World_forgetReached,
  .selects "TaleMachine$World" y_World_forgetReached y_World_forgetReached,
  .code y_Teller_reachRoots prog_6_method_6_code 2 none,
  .methodLink "TaleMachine" 127 y_Teller_reachRoots,
  .instanceMethod y_Teller_reachRoots,
  .selects "TaleMachine$Teller" y_Teller_reachRoots y_Teller_reachRoots,
  .code y_World_sweep prog_8_method_21_code 3 (some .int),
  .methodLink "TaleMachine" 130 y_World_sweep,
  .instanceMethod y_World_sweep,
  .selects "TaleMachine$World" y_World_sweep y_World_sweep,
  .code y_World_descends prog_8_method_17_code 3 (some .boolean),
  .methodLink "TaleMachine" 179 y_World_descends,
  .instanceMethod y_World_descends,
  .selects "TaleMachine$World" y_World_descends y_World_descends,
  .fieldLink "TaleMachine" 58 "TaleMachine$Teller" "outcome" "I",
  .methodLink "TaleMachine" 111 ⟨"java/lang/Math", "min", "(II)I"⟩,
  .static ⟨"java/lang/Math", "min", "(II)I"⟩,
  .initialized "java/lang/Math",
  .code ⟨"java/lang/Math", "min", "(II)I"⟩ prog_14_method_69_code 2 (some .int),
  .fieldLink "TaleMachine$World" 48 "TaleMachine$World" "length" "I",
  .fieldLink "TaleMachine" 54 "TaleMachine$World" "fixed" "I",
  .code y_History_dropSaved prog_3_method_8_code 2 none,
  .methodLink "TaleMachine" 66 y_History_dropSaved,
  .instanceMethod y_History_dropSaved,
  .selects "TaleMachine$History" y_History_dropSaved y_History_dropSaved,
  .code y_World_fix prog_8_method_8_code 8 (some .int),
  .methodLink "TaleMachine" 69 y_World_fix,
  .instanceMethod y_World_fix,
  .selects "TaleMachine$World" y_World_fix y_World_fix,
  .fieldLink "TaleMachine" 142 "TaleMachine$Teller" "depth" "I",
  .fieldLink "TaleMachine" 159 "TaleMachine$History" "points" "I",
  .code y_World_count prog_8_method_4_code 3 (some .int),
  .methodLink "TaleMachine" 162 y_World_count,
  .instanceMethod y_World_count,
  .selects "TaleMachine$World" y_World_count y_World_count]
def AW_3 : List Cond := [.fieldLink "TaleMachine" 165 "TaleMachine$Teller" "sayings" "LTaleMachine$Values;",
  .fieldLink "TaleMachine" 168 "TaleMachine$Values" "count" "I",
  .methodLink "TaleMachine" 43 y_World_isFixed,
  .classLink "TaleMachine" 47 "java/lang/IllegalArgumentException",
  .initialized "java/lang/IllegalArgumentException",
  .methodLink "TaleMachine" 73 y_World_isThere,
  .classLink "TaleMachine" 76 "java/util/NoSuchElementException",
  .initialized "java/util/NoSuchElementException",
  .fieldLink "TaleMachine" 134 "TaleMachine$Teller" "values" "LTaleMachine$Values;",
  .code y_TM_part prog_1_method_15_code 3 (some .int),
  .methodLink "TaleMachine" 138 y_TM_part,
  .static y_TM_part,
  .initialized "TaleMachine",
  .fieldLink "TaleMachine" 174 "TaleMachine$Teller" "result" "LTaleMachine$Values;",
  .methodLink "TaleMachineModel" 1 objectInit,
  .fieldLink "TaleMachineModel" 20 "TaleMachineModel" "line" "[I",
  .fieldLink "TaleMachineModel" 23 "TaleMachineModel" "met" "[Z",
  .fieldLink "TaleMachineModel" 26 "TaleMachineModel" "waiting" "[I",
  .fieldLink "TaleMachineModel" 29 "TaleMachineModel" "nextParent" "[I",
  .fieldLink "TaleMachineModel" 32 "TaleMachineModel" "kind" "[I",
  .fieldLink "TaleMachineModel" 35 "TaleMachineModel" "number" "[I",
  .fieldLink "TaleMachineModel" 38 "TaleMachineModel" "begin" "[I",
  .fieldLink "TaleMachineModel" 41 "TaleMachineModel" "table" "[I",
  .fieldLink "TaleMachineModel" 44 "TaleMachineModel" "handlers" "[I",
  .fieldLink "TaleMachineModel" 47 "TaleMachineModel" "base" "[I",
  .fieldLink "TaleMachineModel" 50 "TaleMachineModel" "locals" "[I",
  .fieldLink "TaleMachineModel" 53 "TaleMachineModel" "self" "[I",
  .fieldLink "TaleMachineModel" 56 "TaleMachineModel" "found" "[I",
  .fieldLink "TaleMachineModel" 59 "TaleMachineModel" "place" "[I",
  .fieldLink "TaleMachineModel" 62 "TaleMachineModel" "next" "[I",
  .fieldLink "TaleMachineModel" 65 "TaleMachineModel" "saidKind" "[I",
  .fieldLink "TaleMachineModel" 68 "TaleMachineModel" "saidNumber" "[I",
  .code y_TM_object prog_1_method_3_code 5 (some .int),
  .methodLink "TaleMachineLaw" 7 y_TM_object,
  .instanceMethod y_TM_object,
  .selects "TaleMachine" y_TM_object y_TM_object,
  .classLink "TaleMachineLaw" 13 "java/lang/IllegalArgumentException",
  .code y_TM_property prog_1_method_4_code 5 none,
  .methodLink "TaleMachineLaw" 17 y_TM_property,
  .instanceMethod y_TM_property,
  .selects "TaleMachine" y_TM_property y_TM_property,
  .classLink "TaleMachineLaw" 21 "java/util/NoSuchElementException",
  .code y_TM_begin prog_1_method_5_code 4 none,
  .methodLink "TaleMachineLaw" 23 y_TM_begin,
  .instanceMethod y_TM_begin,
  .selects "TaleMachine" y_TM_begin y_TM_begin,
  .code y_TM_stack prog_1_method_9_code 3 (some .int),
  .methodLink "TaleMachineLaw" 27 y_TM_stack,
  .instanceMethod y_TM_stack,
  .selects "TaleMachine" y_TM_stack y_TM_stack,
  .code y_TM_said prog_1_method_11_code 3 (some .int),
  .methodLink "TaleMachineLaw" 35 y_TM_said,
  .instanceMethod y_TM_said,
  .selects "TaleMachine" y_TM_said y_TM_said,
  .code y_TM_has prog_1_method_12_code 5 (some .int),
  .methodLink "TaleMachineLaw" 38 y_TM_has,
  .instanceMethod y_TM_has,
  .selects "TaleMachine" y_TM_has y_TM_has,
  .code y_TM_show prog_1_method_10_code 2 (some .int),
  .methodLink "TaleMachineLaw" 31 y_TM_show]
def AW_4 : List Cond := [.instanceMethod y_TM_show,
  .selects "TaleMachine" y_TM_show y_TM_show,
  .lays "TaleMachine$Frame" "TaleMachine$Frame" "method" "I",
  .lays "TaleMachine$Frame" "TaleMachine$Frame" "beginning" "I",
  .lays "TaleMachine$Frame" "TaleMachine$Frame" "self" "I",
  .lays "TaleMachine$Frame" "TaleMachine$Frame" "found" "I",
  .lays "TaleMachine$Frame" "TaleMachine$Frame" "place" "I",
  .lays "TaleMachine$Frame" "TaleMachine$Frame" "behind" "I",
  .lays "TaleMachine$Frame" "TaleMachine$Frame" "base" "I",
  .lays "TaleMachine$Frame" "TaleMachine$Frame" "floor" "I",
  .laysFinal "TaleMachine$History" "TaleMachine$History" "pointed" "[LTaleMachine$State;",
  .laysFinal "TaleMachine$History" "TaleMachine$History" "saved" "[LTaleMachine$State;",
  .laysFinal "TaleMachine$History" "TaleMachine$History" "isSaved" "[Z",
  .lays "TaleMachine$History" "TaleMachine$History" "points" "I",
  .laysFinal "TaleMachine$Script" "TaleMachine$Script" "bytes" "[I",
  .lays "TaleMachine$Script" "TaleMachine$Script" "length" "I",
  .laysFinal "TaleMachine$State" "TaleMachine$State" "kinds" "[I",
  .laysFinal "TaleMachine$State" "TaleMachine$State" "ints" "[I",
  .laysFinal "TaleMachine$State" "TaleMachine$State" "parents" "[I",
  .laysFinal "TaleMachine$Teller" "TaleMachine$Teller" "script" "LTaleMachine$Script;",
  .laysFinal "TaleMachine$Teller" "TaleMachine$Teller" "world" "LTaleMachine$World;",
  .laysFinal "TaleMachine$Teller" "TaleMachine$Teller" "history" "LTaleMachine$History;",
  .laysFinal "TaleMachine$Teller" "TaleMachine$Teller" "frames" "[LTaleMachine$Frame;",
  .laysFinal "TaleMachine$Teller" "TaleMachine$Teller" "values" "LTaleMachine$Values;",
  .laysFinal "TaleMachine$Teller" "TaleMachine$Teller" "sayings" "LTaleMachine$Values;",
  .laysFinal "TaleMachine$Teller" "TaleMachine$Teller" "result" "LTaleMachine$Values;",
  .lays "TaleMachine$Teller" "TaleMachine$Teller" "depth" "I",
  .lays "TaleMachine$Teller" "TaleMachine$Teller" "outcome" "I",
  .laysFinal "TaleMachine$Values" "TaleMachine$Values" "kinds" "[I",
  .laysFinal "TaleMachine$Values" "TaleMachine$Values" "ints" "[I",
  .lays "TaleMachine$Values" "TaleMachine$Values" "count" "I",
  .laysFinal "TaleMachine$World" "TaleMachine$World" "now" "LTaleMachine$State;",
  .lays "TaleMachine$World" "TaleMachine$World" "fixed" "I",
  .laysFinal "TaleMachine$World" "TaleMachine$World" "fixedLines" "[I",
  .laysFinal "TaleMachine$World" "TaleMachine$World" "fixedLengths" "[I",
  .laysFinal "TaleMachine$World" "TaleMachine$World" "line" "[I",
  .lays "TaleMachine$World" "TaleMachine$World" "length" "I",
  .laysFinal "TaleMachine$World" "TaleMachine$World" "reached" "[I",
  .lays "TaleMachine$World" "TaleMachine$World" "reachedCount" "I",
  .lays "TaleMachine$World" "TaleMachine$World" "reachedBits" "I",
  .laysFinal "TaleMachine" "TaleMachine" "script" "LTaleMachine$Script;",
  .laysFinal "TaleMachine" "TaleMachine" "world" "LTaleMachine$World;",
  .laysFinal "TaleMachine" "TaleMachine" "history" "LTaleMachine$History;",
  .laysFinal "TaleMachine" "TaleMachine" "teller" "LTaleMachine$Teller;",
  .lays "TaleMachineModel" "TaleMachineModel" "code" "I",
  .laysFinal "TaleMachineModel" "TaleMachineModel" "bytes" "[I",
  .lays "TaleMachineModel" "TaleMachineModel" "size" "I",
  .laysFinal "TaleMachineModel" "TaleMachineModel" "w" "[I",
  .lays "TaleMachineModel" "TaleMachineModel" "fixed" "I",
  .lays "TaleMachineModel" "TaleMachineModel" "points" "I",
  .laysFinal "TaleMachineModel" "TaleMachineModel" "saved" "[Z",
  .lays "TaleMachineModel" "TaleMachineModel" "length" "I",
  .laysFinal "TaleMachineModel" "TaleMachineModel" "line" "[I",
  .laysFinal "TaleMachineModel" "TaleMachineModel" "met" "[Z",
  .laysFinal "TaleMachineModel" "TaleMachineModel" "waiting" "[I",
  .laysFinal "TaleMachineModel" "TaleMachineModel" "nextParent" "[I",
  .lays "TaleMachineModel" "TaleMachineModel" "height" "I",
  .laysFinal "TaleMachineModel" "TaleMachineModel" "kind" "[I",
  .laysFinal "TaleMachineModel" "TaleMachineModel" "number" "[I",
  .lays "TaleMachineModel" "TaleMachineModel" "depth" "I"]
def AW_5 : List Cond := [.laysFinal "TaleMachineModel" "TaleMachineModel" "begin" "[I",
  .laysFinal "TaleMachineModel" "TaleMachineModel" "table" "[I",
  .laysFinal "TaleMachineModel" "TaleMachineModel" "handlers" "[I",
  .laysFinal "TaleMachineModel" "TaleMachineModel" "base" "[I",
  .laysFinal "TaleMachineModel" "TaleMachineModel" "locals" "[I",
  .laysFinal "TaleMachineModel" "TaleMachineModel" "self" "[I",
  .laysFinal "TaleMachineModel" "TaleMachineModel" "found" "[I",
  .laysFinal "TaleMachineModel" "TaleMachineModel" "place" "[I",
  .laysFinal "TaleMachineModel" "TaleMachineModel" "next" "[I",
  .lays "TaleMachineModel" "TaleMachineModel" "said" "I",
  .laysFinal "TaleMachineModel" "TaleMachineModel" "saidKind" "[I",
  .laysFinal "TaleMachineModel" "TaleMachineModel" "saidNumber" "[I",
  .lays "TaleMachineModel" "TaleMachineModel" "resultKind" "I",
  .lays "TaleMachineModel" "TaleMachineModel" "resultNumber" "I",
  .lays "TaleMachineModel" "TaleMachineModel" "ended" "I",
  .code y_TM_code prog_1_method_2_code 3 (some .boolean),
  .methodLink "TaleMachineLaw" 45 y_TM_code,
  .instanceMethod y_TM_code,
  .selects "TaleMachine" y_TM_code y_TM_code,
  .code y_Model_code prog_10_method_16_code 4 (some .boolean),
  .methodLink "TaleMachineLaw" 49 y_Model_code,
  .instanceMethod y_Model_code,
  .selects "TaleMachineModel" y_Model_code y_Model_code,
  .codeWith y_Law_object method_3_code 6 (some .int) [(0, 12, 15, 13), (0, 12, 19, 15)],
  .methodLink "TaleMachineLaw" 50 y_Law_object,
  .static y_Law_object,
  .initialized "TaleMachineLaw",
  .code y_Model_object prog_10_method_18_code 6 (some .int),
  .methodLink "TaleMachineLaw" 55 y_Model_object,
  .instanceMethod y_Model_object,
  .selects "TaleMachineModel" y_Model_object y_Model_object,
  .code y_Model_thrown prog_10_method_2_code 1 (some .int),
  .methodLink "TaleMachineLaw" 56 y_Model_thrown,
  .instanceMethod y_Model_thrown,
  .selects "TaleMachineModel" y_Model_thrown y_Model_thrown,
  .codeWith y_Law_property method_4_code 6 (some .int) [(0, 9, 12, 21), (0, 9, 16, 13), (0, 9, 20, 15)],
  .methodLink "TaleMachineLaw" 60 y_Law_property,
  .static y_Law_property,
  .code y_Model_property prog_10_method_19_code 6 none,
  .methodLink "TaleMachineLaw" 63 y_Model_property,
  .instanceMethod y_Model_property,
  .selects "TaleMachineModel" y_Model_property y_Model_property,
  .codeWith y_Law_begin method_5_code 4 (some .int) [(0, 6, 9, 21), (0, 6, 12, 13), (0, 6, 15, 15)],
  .methodLink "TaleMachineLaw" 64 y_Law_begin,
  .static y_Law_begin,
  .code y_Model_begin prog_10_method_24_code 5 none,
  .methodLink "TaleMachineLaw" 67 y_Model_begin,
  .instanceMethod y_Model_begin,
  .selects "TaleMachineModel" y_Model_begin y_Model_begin,
  .code y_TM_run prog_1_method_6_code 4 (some .int),
  .methodLink "TaleMachineLaw" 68 y_TM_run,
  .instanceMethod y_TM_run,
  .selects "TaleMachine" y_TM_run y_TM_run,
  .code y_Model_run prog_10_method_26_code 3 (some .int),
  .methodLink "TaleMachineLaw" 71 y_Model_run,
  .instanceMethod y_Model_run,
  .selects "TaleMachineModel" y_Model_run y_Model_run,
  .code y_TM_stop prog_1_method_7_code 1 (some .boolean),
  .methodLink "TaleMachineLaw" 72 y_TM_stop,
  .instanceMethod y_TM_stop]
def AW_6 : List Cond := [.selects "TaleMachine" y_TM_stop y_TM_stop,
  .code y_Model_stop prog_10_method_27_code 1 (some .boolean),
  .methodLink "TaleMachineLaw" 76 y_Model_stop,
  .instanceMethod y_Model_stop,
  .selects "TaleMachineModel" y_Model_stop y_Model_stop,
  .code y_TM_collect prog_1_method_8_code 1 (some .int),
  .methodLink "TaleMachineLaw" 77 y_TM_collect,
  .instanceMethod y_TM_collect,
  .selects "TaleMachine" y_TM_collect y_TM_collect,
  .code y_Model_collect prog_10_method_50_code 6 (some .int),
  .methodLink "TaleMachineLaw" 80 y_Model_collect,
  .instanceMethod y_Model_collect,
  .selects "TaleMachineModel" y_Model_collect y_Model_collect,
  .codeWith y_Law_stack method_6_code 5 (some .int) [(0, 10, 13, 21)],
  .methodLink "TaleMachineLaw" 81 y_Law_stack,
  .static y_Law_stack,
  .code y_Model_stack prog_10_method_51_code 3 (some .int),
  .methodLink "TaleMachineLaw" 84 y_Model_stack,
  .instanceMethod y_Model_stack,
  .selects "TaleMachineModel" y_Model_stack y_Model_stack,
  .codeWith y_Law_show method_7_code 4 (some .int) [(0, 9, 12, 21)],
  .methodLink "TaleMachineLaw" 85 y_Law_show,
  .static y_Law_show,
  .code y_Model_show prog_10_method_52_code 4 (some .int),
  .methodLink "TaleMachineLaw" 88 y_Model_show,
  .instanceMethod y_Model_show,
  .selects "TaleMachineModel" y_Model_show y_Model_show,
  .codeWith y_Law_said method_8_code 5 (some .int) [(0, 10, 13, 21)],
  .methodLink "TaleMachineLaw" 89 y_Law_said,
  .static y_Law_said,
  .code y_Model_said prog_10_method_53_code 3 (some .int),
  .methodLink "TaleMachineLaw" 91 y_Model_said,
  .instanceMethod y_Model_said,
  .selects "TaleMachineModel" y_Model_said y_Model_said,
  .codeWith y_Law_has method_9_code 6 (some .int) [(0, 12, 15, 21)],
  .methodLink "TaleMachineLaw" 92 y_Law_has,
  .static y_Law_has,
  .code y_Model_has prog_10_method_54_code 5 (some .int),
  .methodLink "TaleMachineLaw" 94 y_Model_has,
  .instanceMethod y_Model_has,
  .selects "TaleMachineModel" y_Model_has y_Model_has,
  .code y_TM_isOf prog_1_method_13_code 3 (some .boolean),
  .methodLink "TaleMachineLaw" 95 y_TM_isOf,
  .instanceMethod y_TM_isOf,
  .selects "TaleMachine" y_TM_isOf y_TM_isOf,
  .code y_Model_isOf prog_10_method_55_code 3 (some .boolean),
  .methodLink "TaleMachineLaw" 98 y_Model_isOf,
  .instanceMethod y_Model_isOf,
  .selects "TaleMachineModel" y_Model_isOf y_Model_isOf,
  .classLink "TaleMachineLaw" 8 "TaleMachine",
  .instantiable "TaleMachine" 4,
  .code y_TM_init prog_1_method_1_code 1 none,
  .methodLink "TaleMachineLaw" 41 y_TM_init,
  .instanceMethod y_TM_init,
  .classLink "TaleMachineLaw" 42 "TaleMachineModel",
  .instantiable "TaleMachineModel" 31,
  .code y_Model_init prog_10_method_1_code 1 none,
  .methodLink "TaleMachineLaw" 44 y_Model_init,
  .instanceMethod y_Model_init,
  .arrayClass .long]
def AW : List Cond := AW_0 ++ (AW_1 ++ (AW_2 ++ (AW_3 ++ (AW_4 ++ (AW_5 ++ (AW_6))))))
theorem k_0 : (.fieldLink "TaleMachineModel" 75 "TaleMachineModel" "code" "I" : Cond) ∈ AW := List.mem_of_getElem? (i := 0) rfl
theorem k_1 : (.code y_Model_outside prog_10_method_4_code 3 (some .boolean) : Cond) ∈ AW := List.mem_of_getElem? (i := 1) rfl
theorem k_2 : (.methodLink "TaleMachineModel" 78 y_Model_outside : Cond) ∈ AW := List.mem_of_getElem? (i := 2) rfl
theorem k_3 : (.static y_Model_outside : Cond) ∈ AW := List.mem_of_getElem? (i := 3) rfl
theorem k_4 : (.initialized "TaleMachineModel" : Cond) ∈ AW := List.mem_of_getElem? (i := 4) rfl
theorem k_5 : (.fieldLink "TaleMachineModel" 13 "TaleMachineModel" "w" "[I" : Cond) ∈ AW := List.mem_of_getElem? (i := 5) rfl
theorem k_6 : (.code y_Model_isThere prog_10_method_5_code 2 (some .boolean) : Cond) ∈ AW := List.mem_of_getElem? (i := 6) rfl
theorem k_7 : (.methodLink "TaleMachineModel" 107 y_Model_isThere : Cond) ∈ AW := List.mem_of_getElem? (i := 7) rfl
theorem k_8 : (.instanceMethod y_Model_isThere : Cond) ∈ AW := List.mem_of_getElem? (i := 8) rfl
theorem k_9 : (.selects "TaleMachineModel" y_Model_isThere y_Model_isThere : Cond) ∈ AW := List.mem_of_getElem? (i := 9) rfl
theorem k_10 : (.code y_Model_placeOf prog_10_method_8_code 3 (some .int) : Cond) ∈ AW := List.mem_of_getElem? (i := 10) rfl
theorem k_11 : (.methodLink "TaleMachineModel" 82 y_Model_placeOf : Cond) ∈ AW := List.mem_of_getElem? (i := 11) rfl
theorem k_12 : (.instanceMethod y_Model_placeOf : Cond) ∈ AW := List.mem_of_getElem? (i := 12) rfl
theorem k_13 : (.selects "TaleMachineModel" y_Model_placeOf y_Model_placeOf : Cond) ∈ AW := List.mem_of_getElem? (i := 13) rfl
theorem k_14 : (.fieldLink "TaleMachineModel" 104 "TaleMachineModel" "size" "I" : Cond) ∈ AW := List.mem_of_getElem? (i := 14) rfl
theorem k_15 : (.fieldLink "TaleMachineModel" 7 "TaleMachineModel" "bytes" "[I" : Cond) ∈ AW := List.mem_of_getElem? (i := 15) rfl
theorem k_16 : (.code y_Model_isParent prog_10_method_17_code 2 (some .boolean) : Cond) ∈ AW := List.mem_of_getElem? (i := 16) rfl
theorem k_17 : (.methodLink "TaleMachineModel" 111 y_Model_isParent : Cond) ∈ AW := List.mem_of_getElem? (i := 17) rfl
theorem k_18 : (.instanceMethod y_Model_isParent : Cond) ∈ AW := List.mem_of_getElem? (i := 18) rfl
theorem k_19 : (.selects "TaleMachineModel" y_Model_isParent y_Model_isParent : Cond) ∈ AW := List.mem_of_getElem? (i := 19) rfl
theorem k_20 : (.fieldLink "TaleMachineModel" 71 "TaleMachineModel" "ended" "I" : Cond) ∈ AW := List.mem_of_getElem? (i := 20) rfl
theorem k_21 : (.fieldLink "TaleMachineModel" 114 "TaleMachineModel" "fixed" "I" : Cond) ∈ AW := List.mem_of_getElem? (i := 21) rfl
theorem k_22 : (.code y_Model_empty prog_10_method_11_code 3 none : Cond) ∈ AW := List.mem_of_getElem? (i := 22) rfl
theorem k_23 : (.methodLink "TaleMachineModel" 117 y_Model_empty : Cond) ∈ AW := List.mem_of_getElem? (i := 23) rfl
theorem k_24 : (.instanceMethod y_Model_empty : Cond) ∈ AW := List.mem_of_getElem? (i := 24) rfl
theorem k_25 : (.selects "TaleMachineModel" y_Model_empty y_Model_empty : Cond) ∈ AW := List.mem_of_getElem? (i := 25) rfl
theorem k_26 : (.fieldLink "TaleMachineModel" 16 "TaleMachineModel" "saved" "[Z" : Cond) ∈ AW := List.mem_of_getElem? (i := 26) rfl
theorem k_27 : (.fieldLink "TaleMachineModel" 147 "TaleMachineModel" "resultKind" "I" : Cond) ∈ AW := List.mem_of_getElem? (i := 27) rfl
theorem k_28 : (.fieldLink "TaleMachineModel" 150 "TaleMachineModel" "resultNumber" "I" : Cond) ∈ AW := List.mem_of_getElem? (i := 28) rfl
theorem k_29 : (.code y_Model_mark prog_10_method_48_code 4 (some .int) : Cond) ∈ AW := List.mem_of_getElem? (i := 29) rfl
theorem k_30 : (.methodLink "TaleMachineModel" 232 y_Model_mark : Cond) ∈ AW := List.mem_of_getElem? (i := 30) rfl
theorem k_31 : (.instanceMethod y_Model_mark : Cond) ∈ AW := List.mem_of_getElem? (i := 31) rfl
theorem k_32 : (.selects "TaleMachineModel" y_Model_mark y_Model_mark : Cond) ∈ AW := List.mem_of_getElem? (i := 32) rfl
theorem k_33 : (.fieldLink "TaleMachineModel" 130 "TaleMachineModel" "height" "I" : Cond) ∈ AW := List.mem_of_getElem? (i := 33) rfl
theorem k_34 : (.fieldLink "TaleMachineModel" 127 "TaleMachineModel" "depth" "I" : Cond) ∈ AW := List.mem_of_getElem? (i := 34) rfl
theorem k_35 : (.code y_Model_refuse prog_10_method_3_code 2 (some .int) : Cond) ∈ AW := List.mem_of_getElem? (i := 35) rfl
theorem k_36 : (.methodLink "TaleMachineModel" 238 y_Model_refuse : Cond) ∈ AW := List.mem_of_getElem? (i := 36) rfl
theorem k_37 : (.instanceMethod y_Model_refuse : Cond) ∈ AW := List.mem_of_getElem? (i := 37) rfl
theorem k_38 : (.selects "TaleMachineModel" y_Model_refuse y_Model_refuse : Cond) ∈ AW := List.mem_of_getElem? (i := 38) rfl
theorem k_39 : (.fieldLink "TaleMachineModel" 144 "TaleMachineModel" "said" "I" : Cond) ∈ AW := List.mem_of_getElem? (i := 39) rfl
theorem k_40 : (.fieldLink "TaleMachineModel" 153 "TaleMachineModel" "points" "I" : Cond) ∈ AW := List.mem_of_getElem? (i := 40) rfl
theorem k_41 : (.methodLink "TaleMachine$Script" 3 objectInit : Cond) ∈ AW := List.mem_of_getElem? (i := 41) rfl
theorem k_42 : (.instanceMethod objectInit : Cond) ∈ AW := List.mem_of_getElem? (i := 42) rfl
theorem k_43 : (.code objectInit object_method_1_code 1 none : Cond) ∈ AW := List.mem_of_getElem? (i := 43) rfl
theorem k_44 : (.arrayClass .int : Cond) ∈ AW := List.mem_of_getElem? (i := 44) rfl
theorem k_45 : (.fieldLink "TaleMachine$Script" 9 "TaleMachine$Script" "bytes" "[I" : Cond) ∈ AW := List.mem_of_getElem? (i := 45) rfl
theorem k_46 : (.methodLink "TaleMachine$Frame" 1 objectInit : Cond) ∈ AW := List.mem_of_getElem? (i := 46) rfl
theorem k_47 : (.methodLink "TaleMachine$Values" 1 objectInit : Cond) ∈ AW := List.mem_of_getElem? (i := 47) rfl
theorem k_48 : (.fieldLink "TaleMachine$Values" 7 "TaleMachine$Values" "kinds" "[I" : Cond) ∈ AW := List.mem_of_getElem? (i := 48) rfl
theorem k_49 : (.fieldLink "TaleMachine$Values" 13 "TaleMachine$Values" "ints" "[I" : Cond) ∈ AW := List.mem_of_getElem? (i := 49) rfl
theorem k_50 : (.methodLink "TaleMachine$State" 3 objectInit : Cond) ∈ AW := List.mem_of_getElem? (i := 50) rfl
theorem k_51 : (.fieldLink "TaleMachine$State" 9 "TaleMachine$State" "kinds" "[I" : Cond) ∈ AW := List.mem_of_getElem? (i := 51) rfl
theorem k_52 : (.fieldLink "TaleMachine$State" 15 "TaleMachine$State" "ints" "[I" : Cond) ∈ AW := List.mem_of_getElem? (i := 52) rfl
theorem k_53 : (.fieldLink "TaleMachine$State" 18 "TaleMachine$State" "parents" "[I" : Cond) ∈ AW := List.mem_of_getElem? (i := 53) rfl
theorem k_54 : (.code y_Arrays_fill prog_19_method_103_code 4 none : Cond) ∈ AW := List.mem_of_getElem? (i := 54) rfl
theorem k_55 : (.methodLink "TaleMachine$State" 21 y_Arrays_fill : Cond) ∈ AW := List.mem_of_getElem? (i := 55) rfl
theorem k_56 : (.static y_Arrays_fill : Cond) ∈ AW := List.mem_of_getElem? (i := 56) rfl
theorem k_57 : (.initialized "java/util/Arrays" : Cond) ∈ AW := List.mem_of_getElem? (i := 57) rfl
theorem k_58 : (.methodLink "TaleMachine$World" 3 objectInit : Cond) ∈ AW := List.mem_of_getElem? (i := 58) rfl
theorem k_59 : (.classLink "TaleMachine$World" 9 "TaleMachine$State" : Cond) ∈ AW := List.mem_of_getElem? (i := 59) rfl
theorem k_60 : (.instantiable "TaleMachine$State" 3 : Cond) ∈ AW := List.mem_of_getElem? (i := 60) rfl
theorem k_61 : (.initialized "TaleMachine$State" : Cond) ∈ AW := List.mem_of_getElem? (i := 61) rfl
theorem k_62 : (.code y_State_init prog_5_method_1_code 1 none : Cond) ∈ AW := List.mem_of_getElem? (i := 62) rfl
theorem k_63 : (.methodLink "TaleMachine$World" 11 y_State_init : Cond) ∈ AW := List.mem_of_getElem? (i := 63) rfl
theorem k_64 : (.instanceMethod y_State_init : Cond) ∈ AW := List.mem_of_getElem? (i := 64) rfl
theorem k_65 : (.fieldLink "TaleMachine$World" 12 "TaleMachine$World" "now" "LTaleMachine$State;" : Cond) ∈ AW := List.mem_of_getElem? (i := 65) rfl
theorem k_66 : (.fieldLink "TaleMachine$World" 18 "TaleMachine$World" "fixedLines" "[I" : Cond) ∈ AW := List.mem_of_getElem? (i := 66) rfl
theorem k_67 : (.fieldLink "TaleMachine$World" 22 "TaleMachine$World" "fixedLengths" "[I" : Cond) ∈ AW := List.mem_of_getElem? (i := 67) rfl
theorem k_68 : (.fieldLink "TaleMachine$World" 25 "TaleMachine$World" "line" "[I" : Cond) ∈ AW := List.mem_of_getElem? (i := 68) rfl
theorem k_69 : (.fieldLink "TaleMachine$World" 28 "TaleMachine$World" "reached" "[I" : Cond) ∈ AW := List.mem_of_getElem? (i := 69) rfl
theorem k_70 : (.methodLink "TaleMachine$History" 3 objectInit : Cond) ∈ AW := List.mem_of_getElem? (i := 70) rfl
theorem k_71 : (.classLink "TaleMachine$History" 9 "TaleMachine$State" : Cond) ∈ AW := List.mem_of_getElem? (i := 71) rfl
theorem k_72 : (.fieldLink "TaleMachine$History" 11 "TaleMachine$History" "pointed" "[LTaleMachine$State;" : Cond) ∈ AW := List.mem_of_getElem? (i := 72) rfl
theorem k_73 : (.fieldLink "TaleMachine$History" 17 "TaleMachine$History" "saved" "[LTaleMachine$State;" : Cond) ∈ AW := List.mem_of_getElem? (i := 73) rfl
theorem k_74 : (.arrayClass .boolean : Cond) ∈ AW := List.mem_of_getElem? (i := 74) rfl
theorem k_75 : (.fieldLink "TaleMachine$History" 20 "TaleMachine$History" "isSaved" "[Z" : Cond) ∈ AW := List.mem_of_getElem? (i := 75) rfl
theorem k_76 : (.methodLink "TaleMachine$History" 24 y_State_init : Cond) ∈ AW := List.mem_of_getElem? (i := 76) rfl
theorem k_77 : (.methodLink "TaleMachine$Teller" 3 objectInit : Cond) ∈ AW := List.mem_of_getElem? (i := 77) rfl
theorem k_78 : (.classLink "TaleMachine$Teller" 9 "TaleMachine$Frame" : Cond) ∈ AW := List.mem_of_getElem? (i := 78) rfl
theorem k_79 : (.fieldLink "TaleMachine$Teller" 11 "TaleMachine$Teller" "frames" "[LTaleMachine$Frame;" : Cond) ∈ AW := List.mem_of_getElem? (i := 79) rfl
theorem k_80 : (.classLink "TaleMachine$Teller" 17 "TaleMachine$Values" : Cond) ∈ AW := List.mem_of_getElem? (i := 80) rfl
theorem k_81 : (.instantiable "TaleMachine$Values" 3 : Cond) ∈ AW := List.mem_of_getElem? (i := 81) rfl
theorem k_82 : (.initialized "TaleMachine$Values" : Cond) ∈ AW := List.mem_of_getElem? (i := 82) rfl
theorem k_83 : (.code y_Values_init prog_7_method_1_code 2 none : Cond) ∈ AW := List.mem_of_getElem? (i := 83) rfl
theorem k_84 : (.methodLink "TaleMachine$Teller" 19 y_Values_init : Cond) ∈ AW := List.mem_of_getElem? (i := 84) rfl
theorem k_85 : (.instanceMethod y_Values_init : Cond) ∈ AW := List.mem_of_getElem? (i := 85) rfl
theorem k_86 : (.fieldLink "TaleMachine$Teller" 22 "TaleMachine$Teller" "values" "LTaleMachine$Values;" : Cond) ∈ AW := List.mem_of_getElem? (i := 86) rfl
theorem k_87 : (.fieldLink "TaleMachine$Teller" 26 "TaleMachine$Teller" "sayings" "LTaleMachine$Values;" : Cond) ∈ AW := List.mem_of_getElem? (i := 87) rfl
theorem k_88 : (.fieldLink "TaleMachine$Teller" 29 "TaleMachine$Teller" "result" "LTaleMachine$Values;" : Cond) ∈ AW := List.mem_of_getElem? (i := 88) rfl
theorem k_89 : (.fieldLink "TaleMachine$Teller" 32 "TaleMachine$Teller" "outcome" "I" : Cond) ∈ AW := List.mem_of_getElem? (i := 89) rfl
theorem k_90 : (.fieldLink "TaleMachine$Teller" 36 "TaleMachine$Teller" "script" "LTaleMachine$Script;" : Cond) ∈ AW := List.mem_of_getElem? (i := 90) rfl
theorem k_91 : (.fieldLink "TaleMachine$Teller" 40 "TaleMachine$Teller" "world" "LTaleMachine$World;" : Cond) ∈ AW := List.mem_of_getElem? (i := 91) rfl
theorem k_92 : (.fieldLink "TaleMachine$Teller" 44 "TaleMachine$Teller" "history" "LTaleMachine$History;" : Cond) ∈ AW := List.mem_of_getElem? (i := 92) rfl
theorem k_93 : (.instantiable "TaleMachine$Frame" 8 : Cond) ∈ AW := List.mem_of_getElem? (i := 93) rfl
theorem k_94 : (.initialized "TaleMachine$Frame" : Cond) ∈ AW := List.mem_of_getElem? (i := 94) rfl
theorem k_95 : (.code y_Frame_init prog_2_method_1_code 1 none : Cond) ∈ AW := List.mem_of_getElem? (i := 95) rfl
theorem k_96 : (.instanceMethod y_Frame_init : Cond) ∈ AW := List.mem_of_getElem? (i := 96) rfl
theorem k_97 : (.methodLink "TaleMachine" 3 objectInit : Cond) ∈ AW := List.mem_of_getElem? (i := 97) rfl
theorem k_98 : (.classLink "TaleMachine" 9 "TaleMachine$Script" : Cond) ∈ AW := List.mem_of_getElem? (i := 98) rfl
theorem k_99 : (.instantiable "TaleMachine$Script" 2 : Cond) ∈ AW := List.mem_of_getElem? (i := 99) rfl
theorem k_100 : (.initialized "TaleMachine$Script" : Cond) ∈ AW := List.mem_of_getElem? (i := 100) rfl
theorem k_101 : (.code y_Script_init prog_4_method_1_code 1 none : Cond) ∈ AW := List.mem_of_getElem? (i := 101) rfl
theorem k_102 : (.instanceMethod y_Script_init : Cond) ∈ AW := List.mem_of_getElem? (i := 102) rfl
theorem k_103 : (.fieldLink "TaleMachine" 12 "TaleMachine" "script" "LTaleMachine$Script;" : Cond) ∈ AW := List.mem_of_getElem? (i := 103) rfl
theorem k_104 : (.classLink "TaleMachine" 16 "TaleMachine$World" : Cond) ∈ AW := List.mem_of_getElem? (i := 104) rfl
theorem k_105 : (.instantiable "TaleMachine$World" 9 : Cond) ∈ AW := List.mem_of_getElem? (i := 105) rfl
theorem k_106 : (.initialized "TaleMachine$World" : Cond) ∈ AW := List.mem_of_getElem? (i := 106) rfl
theorem k_107 : (.code y_World_init prog_8_method_1_code 1 none : Cond) ∈ AW := List.mem_of_getElem? (i := 107) rfl
theorem k_108 : (.instanceMethod y_World_init : Cond) ∈ AW := List.mem_of_getElem? (i := 108) rfl
theorem k_109 : (.fieldLink "TaleMachine" 19 "TaleMachine" "world" "LTaleMachine$World;" : Cond) ∈ AW := List.mem_of_getElem? (i := 109) rfl
theorem k_110 : (.classLink "TaleMachine" 23 "TaleMachine$History" : Cond) ∈ AW := List.mem_of_getElem? (i := 110) rfl
theorem k_111 : (.instantiable "TaleMachine$History" 4 : Cond) ∈ AW := List.mem_of_getElem? (i := 111) rfl
theorem k_112 : (.initialized "TaleMachine$History" : Cond) ∈ AW := List.mem_of_getElem? (i := 112) rfl
theorem k_113 : (.code y_History_init prog_3_method_1_code 2 none : Cond) ∈ AW := List.mem_of_getElem? (i := 113) rfl
theorem k_114 : (.methodLink "TaleMachine" 25 y_History_init : Cond) ∈ AW := List.mem_of_getElem? (i := 114) rfl
theorem k_115 : (.instanceMethod y_History_init : Cond) ∈ AW := List.mem_of_getElem? (i := 115) rfl
theorem k_116 : (.fieldLink "TaleMachine" 26 "TaleMachine" "history" "LTaleMachine$History;" : Cond) ∈ AW := List.mem_of_getElem? (i := 116) rfl
theorem k_117 : (.classLink "TaleMachine" 30 "TaleMachine$Teller" : Cond) ∈ AW := List.mem_of_getElem? (i := 117) rfl
theorem k_118 : (.instantiable "TaleMachine$Teller" 9 : Cond) ∈ AW := List.mem_of_getElem? (i := 118) rfl
theorem k_119 : (.initialized "TaleMachine$Teller" : Cond) ∈ AW := List.mem_of_getElem? (i := 119) rfl
theorem k_120 : (.code y_Teller_init prog_6_method_1_code 5 none : Cond) ∈ AW := List.mem_of_getElem? (i := 120) rfl
theorem k_121 : (.methodLink "TaleMachine" 32 y_Teller_init : Cond) ∈ AW := List.mem_of_getElem? (i := 121) rfl
theorem k_122 : (.instanceMethod y_Teller_init : Cond) ∈ AW := List.mem_of_getElem? (i := 122) rfl
theorem k_123 : (.fieldLink "TaleMachine" 35 "TaleMachine" "teller" "LTaleMachine$Teller;" : Cond) ∈ AW := List.mem_of_getElem? (i := 123) rfl
theorem k_124 : (.fieldLink "TaleMachine$Script" 15 "TaleMachine$Script" "length" "I" : Cond) ∈ AW := List.mem_of_getElem? (i := 124) rfl
theorem k_125 : (.code y_Script_append prog_4_method_2_code 4 (some .boolean) : Cond) ∈ AW := List.mem_of_getElem? (i := 125) rfl
theorem k_126 : (.methodLink "TaleMachine" 39 y_Script_append : Cond) ∈ AW := List.mem_of_getElem? (i := 126) rfl
theorem k_127 : (.instanceMethod y_Script_append : Cond) ∈ AW := List.mem_of_getElem? (i := 127) rfl
theorem k_128 : (.selects "TaleMachine$Script" y_Script_append y_Script_append : Cond) ∈ AW := List.mem_of_getElem? (i := 128) rfl
theorem k_129 : (.fieldLink "TaleMachine$World" 31 "TaleMachine$World" "fixed" "I" : Cond) ∈ AW := List.mem_of_getElem? (i := 129) rfl
theorem k_130 : (.code y_World_isFixed prog_8_method_2_code 2 (some .boolean) : Cond) ∈ AW := List.mem_of_getElem? (i := 130) rfl
theorem k_131 : (.methodLink "TaleMachine$World" 35 y_World_isFixed : Cond) ∈ AW := List.mem_of_getElem? (i := 131) rfl
theorem k_132 : (.instanceMethod y_World_isFixed : Cond) ∈ AW := List.mem_of_getElem? (i := 132) rfl
theorem k_133 : (.selects "TaleMachine$World" y_World_isFixed y_World_isFixed : Cond) ∈ AW := List.mem_of_getElem? (i := 133) rfl
theorem k_134 : (.fieldLink "TaleMachine$World" 39 "TaleMachine$State" "parents" "[I" : Cond) ∈ AW := List.mem_of_getElem? (i := 134) rfl
theorem k_135 : (.fieldLink "TaleMachine$World" 85 "TaleMachine$World" "reachedCount" "I" : Cond) ∈ AW := List.mem_of_getElem? (i := 135) rfl
theorem k_136 : (.fieldLink "TaleMachine$World" 88 "TaleMachine$World" "reachedBits" "I" : Cond) ∈ AW := List.mem_of_getElem? (i := 136) rfl
theorem k_137 : (.code y_World_isThere prog_8_method_3_code 2 (some .boolean) : Cond) ∈ AW := List.mem_of_getElem? (i := 137) rfl
theorem k_138 : (.methodLink "TaleMachine$World" 82 y_World_isThere : Cond) ∈ AW := List.mem_of_getElem? (i := 138) rfl
theorem k_139 : (.instanceMethod y_World_isThere : Cond) ∈ AW := List.mem_of_getElem? (i := 139) rfl
theorem k_140 : (.selects "TaleMachine$World" y_World_isThere y_World_isThere : Cond) ∈ AW := List.mem_of_getElem? (i := 140) rfl
theorem k_141 : (.fieldLink "TaleMachine$Teller" 52 "TaleMachine$Values" "count" "I" : Cond) ∈ AW := List.mem_of_getElem? (i := 141) rfl
theorem k_142 : (.fieldLink "TaleMachine$Teller" 49 "TaleMachine$Teller" "depth" "I" : Cond) ∈ AW := List.mem_of_getElem? (i := 142) rfl
theorem k_143 : (.code y_World_forgetReached prog_8_method_18_code 1 none : Cond) ∈ AW := List.mem_of_getElem? (i := 143) rfl
theorem k_144 : (.methodLink "TaleMachine" 124 y_World_forgetReached : Cond) ∈ AW := List.mem_of_getElem? (i := 144) rfl
theorem k_145 : (.instanceMethod y_World_forgetReached : Cond) ∈ AW := List.mem_of_getElem? (i := 145) rfl
theorem k_146 : (.selects "TaleMachine$World" y_World_forgetReached y_World_forgetReached : Cond) ∈ AW := List.mem_of_getElem? (i := 146) rfl
theorem k_147 : (.code y_Teller_reachRoots prog_6_method_6_code 2 none : Cond) ∈ AW := List.mem_of_getElem? (i := 147) rfl
theorem k_148 : (.methodLink "TaleMachine" 127 y_Teller_reachRoots : Cond) ∈ AW := List.mem_of_getElem? (i := 148) rfl
theorem k_149 : (.instanceMethod y_Teller_reachRoots : Cond) ∈ AW := List.mem_of_getElem? (i := 149) rfl
theorem k_150 : (.selects "TaleMachine$Teller" y_Teller_reachRoots y_Teller_reachRoots : Cond) ∈ AW := List.mem_of_getElem? (i := 150) rfl
theorem k_151 : (.code y_World_sweep prog_8_method_21_code 3 (some .int) : Cond) ∈ AW := List.mem_of_getElem? (i := 151) rfl
theorem k_152 : (.methodLink "TaleMachine" 130 y_World_sweep : Cond) ∈ AW := List.mem_of_getElem? (i := 152) rfl
theorem k_153 : (.instanceMethod y_World_sweep : Cond) ∈ AW := List.mem_of_getElem? (i := 153) rfl
theorem k_154 : (.selects "TaleMachine$World" y_World_sweep y_World_sweep : Cond) ∈ AW := List.mem_of_getElem? (i := 154) rfl
theorem k_155 : (.code y_World_descends prog_8_method_17_code 3 (some .boolean) : Cond) ∈ AW := List.mem_of_getElem? (i := 155) rfl
theorem k_156 : (.methodLink "TaleMachine" 179 y_World_descends : Cond) ∈ AW := List.mem_of_getElem? (i := 156) rfl
theorem k_157 : (.instanceMethod y_World_descends : Cond) ∈ AW := List.mem_of_getElem? (i := 157) rfl
theorem k_158 : (.selects "TaleMachine$World" y_World_descends y_World_descends : Cond) ∈ AW := List.mem_of_getElem? (i := 158) rfl
theorem k_159 : (.fieldLink "TaleMachine" 58 "TaleMachine$Teller" "outcome" "I" : Cond) ∈ AW := List.mem_of_getElem? (i := 159) rfl
theorem k_160 : (.methodLink "TaleMachine" 111 ⟨"java/lang/Math", "min", "(II)I"⟩ : Cond) ∈ AW := List.mem_of_getElem? (i := 160) rfl
theorem k_161 : (.static ⟨"java/lang/Math", "min", "(II)I"⟩ : Cond) ∈ AW := List.mem_of_getElem? (i := 161) rfl
theorem k_162 : (.initialized "java/lang/Math" : Cond) ∈ AW := List.mem_of_getElem? (i := 162) rfl
theorem k_163 : (.code ⟨"java/lang/Math", "min", "(II)I"⟩ prog_14_method_69_code 2 (some .int) : Cond) ∈ AW := List.mem_of_getElem? (i := 163) rfl
theorem k_164 : (.fieldLink "TaleMachine$World" 48 "TaleMachine$World" "length" "I" : Cond) ∈ AW := List.mem_of_getElem? (i := 164) rfl
theorem k_165 : (.fieldLink "TaleMachine" 54 "TaleMachine$World" "fixed" "I" : Cond) ∈ AW := List.mem_of_getElem? (i := 165) rfl
theorem k_166 : (.code y_History_dropSaved prog_3_method_8_code 2 none : Cond) ∈ AW := List.mem_of_getElem? (i := 166) rfl
theorem k_167 : (.methodLink "TaleMachine" 66 y_History_dropSaved : Cond) ∈ AW := List.mem_of_getElem? (i := 167) rfl
theorem k_168 : (.instanceMethod y_History_dropSaved : Cond) ∈ AW := List.mem_of_getElem? (i := 168) rfl
theorem k_169 : (.selects "TaleMachine$History" y_History_dropSaved y_History_dropSaved : Cond) ∈ AW := List.mem_of_getElem? (i := 169) rfl
theorem k_170 : (.code y_World_fix prog_8_method_8_code 8 (some .int) : Cond) ∈ AW := List.mem_of_getElem? (i := 170) rfl
theorem k_171 : (.methodLink "TaleMachine" 69 y_World_fix : Cond) ∈ AW := List.mem_of_getElem? (i := 171) rfl
theorem k_172 : (.instanceMethod y_World_fix : Cond) ∈ AW := List.mem_of_getElem? (i := 172) rfl
theorem k_173 : (.selects "TaleMachine$World" y_World_fix y_World_fix : Cond) ∈ AW := List.mem_of_getElem? (i := 173) rfl
theorem k_174 : (.fieldLink "TaleMachine" 142 "TaleMachine$Teller" "depth" "I" : Cond) ∈ AW := List.mem_of_getElem? (i := 174) rfl
theorem k_175 : (.fieldLink "TaleMachine" 159 "TaleMachine$History" "points" "I" : Cond) ∈ AW := List.mem_of_getElem? (i := 175) rfl
theorem k_176 : (.code y_World_count prog_8_method_4_code 3 (some .int) : Cond) ∈ AW := List.mem_of_getElem? (i := 176) rfl
theorem k_177 : (.methodLink "TaleMachine" 162 y_World_count : Cond) ∈ AW := List.mem_of_getElem? (i := 177) rfl
theorem k_178 : (.instanceMethod y_World_count : Cond) ∈ AW := List.mem_of_getElem? (i := 178) rfl
theorem k_179 : (.selects "TaleMachine$World" y_World_count y_World_count : Cond) ∈ AW := List.mem_of_getElem? (i := 179) rfl
theorem k_180 : (.fieldLink "TaleMachine" 165 "TaleMachine$Teller" "sayings" "LTaleMachine$Values;" : Cond) ∈ AW := List.mem_of_getElem? (i := 180) rfl
theorem k_181 : (.fieldLink "TaleMachine" 168 "TaleMachine$Values" "count" "I" : Cond) ∈ AW := List.mem_of_getElem? (i := 181) rfl
theorem k_182 : (.methodLink "TaleMachine" 43 y_World_isFixed : Cond) ∈ AW := List.mem_of_getElem? (i := 182) rfl
theorem k_183 : (.classLink "TaleMachine" 47 "java/lang/IllegalArgumentException" : Cond) ∈ AW := List.mem_of_getElem? (i := 183) rfl
theorem k_184 : (.initialized "java/lang/IllegalArgumentException" : Cond) ∈ AW := List.mem_of_getElem? (i := 184) rfl
theorem k_185 : (.methodLink "TaleMachine" 73 y_World_isThere : Cond) ∈ AW := List.mem_of_getElem? (i := 185) rfl
theorem k_186 : (.classLink "TaleMachine" 76 "java/util/NoSuchElementException" : Cond) ∈ AW := List.mem_of_getElem? (i := 186) rfl
theorem k_187 : (.initialized "java/util/NoSuchElementException" : Cond) ∈ AW := List.mem_of_getElem? (i := 187) rfl
theorem k_188 : (.fieldLink "TaleMachine" 134 "TaleMachine$Teller" "values" "LTaleMachine$Values;" : Cond) ∈ AW := List.mem_of_getElem? (i := 188) rfl
theorem k_189 : (.code y_TM_part prog_1_method_15_code 3 (some .int) : Cond) ∈ AW := List.mem_of_getElem? (i := 189) rfl
theorem k_190 : (.methodLink "TaleMachine" 138 y_TM_part : Cond) ∈ AW := List.mem_of_getElem? (i := 190) rfl
theorem k_191 : (.static y_TM_part : Cond) ∈ AW := List.mem_of_getElem? (i := 191) rfl
theorem k_192 : (.initialized "TaleMachine" : Cond) ∈ AW := List.mem_of_getElem? (i := 192) rfl
theorem k_193 : (.fieldLink "TaleMachine" 174 "TaleMachine$Teller" "result" "LTaleMachine$Values;" : Cond) ∈ AW := List.mem_of_getElem? (i := 193) rfl
theorem k_194 : (.methodLink "TaleMachineModel" 1 objectInit : Cond) ∈ AW := List.mem_of_getElem? (i := 194) rfl
theorem k_195 : (.fieldLink "TaleMachineModel" 20 "TaleMachineModel" "line" "[I" : Cond) ∈ AW := List.mem_of_getElem? (i := 195) rfl
theorem k_196 : (.fieldLink "TaleMachineModel" 23 "TaleMachineModel" "met" "[Z" : Cond) ∈ AW := List.mem_of_getElem? (i := 196) rfl
theorem k_197 : (.fieldLink "TaleMachineModel" 26 "TaleMachineModel" "waiting" "[I" : Cond) ∈ AW := List.mem_of_getElem? (i := 197) rfl
theorem k_198 : (.fieldLink "TaleMachineModel" 29 "TaleMachineModel" "nextParent" "[I" : Cond) ∈ AW := List.mem_of_getElem? (i := 198) rfl
theorem k_199 : (.fieldLink "TaleMachineModel" 32 "TaleMachineModel" "kind" "[I" : Cond) ∈ AW := List.mem_of_getElem? (i := 199) rfl
theorem k_200 : (.fieldLink "TaleMachineModel" 35 "TaleMachineModel" "number" "[I" : Cond) ∈ AW := List.mem_of_getElem? (i := 200) rfl
theorem k_201 : (.fieldLink "TaleMachineModel" 38 "TaleMachineModel" "begin" "[I" : Cond) ∈ AW := List.mem_of_getElem? (i := 201) rfl
theorem k_202 : (.fieldLink "TaleMachineModel" 41 "TaleMachineModel" "table" "[I" : Cond) ∈ AW := List.mem_of_getElem? (i := 202) rfl
theorem k_203 : (.fieldLink "TaleMachineModel" 44 "TaleMachineModel" "handlers" "[I" : Cond) ∈ AW := List.mem_of_getElem? (i := 203) rfl
theorem k_204 : (.fieldLink "TaleMachineModel" 47 "TaleMachineModel" "base" "[I" : Cond) ∈ AW := List.mem_of_getElem? (i := 204) rfl
theorem k_205 : (.fieldLink "TaleMachineModel" 50 "TaleMachineModel" "locals" "[I" : Cond) ∈ AW := List.mem_of_getElem? (i := 205) rfl
theorem k_206 : (.fieldLink "TaleMachineModel" 53 "TaleMachineModel" "self" "[I" : Cond) ∈ AW := List.mem_of_getElem? (i := 206) rfl
theorem k_207 : (.fieldLink "TaleMachineModel" 56 "TaleMachineModel" "found" "[I" : Cond) ∈ AW := List.mem_of_getElem? (i := 207) rfl
theorem k_208 : (.fieldLink "TaleMachineModel" 59 "TaleMachineModel" "place" "[I" : Cond) ∈ AW := List.mem_of_getElem? (i := 208) rfl
theorem k_209 : (.fieldLink "TaleMachineModel" 62 "TaleMachineModel" "next" "[I" : Cond) ∈ AW := List.mem_of_getElem? (i := 209) rfl
theorem k_210 : (.fieldLink "TaleMachineModel" 65 "TaleMachineModel" "saidKind" "[I" : Cond) ∈ AW := List.mem_of_getElem? (i := 210) rfl
theorem k_211 : (.fieldLink "TaleMachineModel" 68 "TaleMachineModel" "saidNumber" "[I" : Cond) ∈ AW := List.mem_of_getElem? (i := 211) rfl
theorem k_212 : (.code y_TM_object prog_1_method_3_code 5 (some .int) : Cond) ∈ AW := List.mem_of_getElem? (i := 212) rfl
theorem k_213 : (.methodLink "TaleMachineLaw" 7 y_TM_object : Cond) ∈ AW := List.mem_of_getElem? (i := 213) rfl
theorem k_214 : (.instanceMethod y_TM_object : Cond) ∈ AW := List.mem_of_getElem? (i := 214) rfl
theorem k_215 : (.selects "TaleMachine" y_TM_object y_TM_object : Cond) ∈ AW := List.mem_of_getElem? (i := 215) rfl
theorem k_216 : (.classLink "TaleMachineLaw" 13 "java/lang/IllegalArgumentException" : Cond) ∈ AW := List.mem_of_getElem? (i := 216) rfl
theorem k_217 : (.code y_TM_property prog_1_method_4_code 5 none : Cond) ∈ AW := List.mem_of_getElem? (i := 217) rfl
theorem k_218 : (.methodLink "TaleMachineLaw" 17 y_TM_property : Cond) ∈ AW := List.mem_of_getElem? (i := 218) rfl
theorem k_219 : (.instanceMethod y_TM_property : Cond) ∈ AW := List.mem_of_getElem? (i := 219) rfl
theorem k_220 : (.selects "TaleMachine" y_TM_property y_TM_property : Cond) ∈ AW := List.mem_of_getElem? (i := 220) rfl
theorem k_221 : (.classLink "TaleMachineLaw" 21 "java/util/NoSuchElementException" : Cond) ∈ AW := List.mem_of_getElem? (i := 221) rfl
theorem k_222 : (.code y_TM_begin prog_1_method_5_code 4 none : Cond) ∈ AW := List.mem_of_getElem? (i := 222) rfl
theorem k_223 : (.methodLink "TaleMachineLaw" 23 y_TM_begin : Cond) ∈ AW := List.mem_of_getElem? (i := 223) rfl
theorem k_224 : (.instanceMethod y_TM_begin : Cond) ∈ AW := List.mem_of_getElem? (i := 224) rfl
theorem k_225 : (.selects "TaleMachine" y_TM_begin y_TM_begin : Cond) ∈ AW := List.mem_of_getElem? (i := 225) rfl
theorem k_226 : (.code y_TM_stack prog_1_method_9_code 3 (some .int) : Cond) ∈ AW := List.mem_of_getElem? (i := 226) rfl
theorem k_227 : (.methodLink "TaleMachineLaw" 27 y_TM_stack : Cond) ∈ AW := List.mem_of_getElem? (i := 227) rfl
theorem k_228 : (.instanceMethod y_TM_stack : Cond) ∈ AW := List.mem_of_getElem? (i := 228) rfl
theorem k_229 : (.selects "TaleMachine" y_TM_stack y_TM_stack : Cond) ∈ AW := List.mem_of_getElem? (i := 229) rfl
theorem k_230 : (.code y_TM_said prog_1_method_11_code 3 (some .int) : Cond) ∈ AW := List.mem_of_getElem? (i := 230) rfl
theorem k_231 : (.methodLink "TaleMachineLaw" 35 y_TM_said : Cond) ∈ AW := List.mem_of_getElem? (i := 231) rfl
theorem k_232 : (.instanceMethod y_TM_said : Cond) ∈ AW := List.mem_of_getElem? (i := 232) rfl
theorem k_233 : (.selects "TaleMachine" y_TM_said y_TM_said : Cond) ∈ AW := List.mem_of_getElem? (i := 233) rfl
theorem k_234 : (.code y_TM_has prog_1_method_12_code 5 (some .int) : Cond) ∈ AW := List.mem_of_getElem? (i := 234) rfl
theorem k_235 : (.methodLink "TaleMachineLaw" 38 y_TM_has : Cond) ∈ AW := List.mem_of_getElem? (i := 235) rfl
theorem k_236 : (.instanceMethod y_TM_has : Cond) ∈ AW := List.mem_of_getElem? (i := 236) rfl
theorem k_237 : (.selects "TaleMachine" y_TM_has y_TM_has : Cond) ∈ AW := List.mem_of_getElem? (i := 237) rfl
theorem k_238 : (.code y_TM_show prog_1_method_10_code 2 (some .int) : Cond) ∈ AW := List.mem_of_getElem? (i := 238) rfl
theorem k_239 : (.methodLink "TaleMachineLaw" 31 y_TM_show : Cond) ∈ AW := List.mem_of_getElem? (i := 239) rfl
theorem k_240 : (.instanceMethod y_TM_show : Cond) ∈ AW := List.mem_of_getElem? (i := 240) rfl
theorem k_241 : (.selects "TaleMachine" y_TM_show y_TM_show : Cond) ∈ AW := List.mem_of_getElem? (i := 241) rfl
theorem k_242 : (.lays "TaleMachine$Frame" "TaleMachine$Frame" "method" "I" : Cond) ∈ AW := List.mem_of_getElem? (i := 242) rfl
theorem k_243 : (.lays "TaleMachine$Frame" "TaleMachine$Frame" "beginning" "I" : Cond) ∈ AW := List.mem_of_getElem? (i := 243) rfl
theorem k_244 : (.lays "TaleMachine$Frame" "TaleMachine$Frame" "self" "I" : Cond) ∈ AW := List.mem_of_getElem? (i := 244) rfl
theorem k_245 : (.lays "TaleMachine$Frame" "TaleMachine$Frame" "found" "I" : Cond) ∈ AW := List.mem_of_getElem? (i := 245) rfl
theorem k_246 : (.lays "TaleMachine$Frame" "TaleMachine$Frame" "place" "I" : Cond) ∈ AW := List.mem_of_getElem? (i := 246) rfl
theorem k_247 : (.lays "TaleMachine$Frame" "TaleMachine$Frame" "behind" "I" : Cond) ∈ AW := List.mem_of_getElem? (i := 247) rfl
theorem k_248 : (.lays "TaleMachine$Frame" "TaleMachine$Frame" "base" "I" : Cond) ∈ AW := List.mem_of_getElem? (i := 248) rfl
theorem k_249 : (.lays "TaleMachine$Frame" "TaleMachine$Frame" "floor" "I" : Cond) ∈ AW := List.mem_of_getElem? (i := 249) rfl
theorem k_250 : (.laysFinal "TaleMachine$History" "TaleMachine$History" "pointed" "[LTaleMachine$State;" : Cond) ∈ AW := List.mem_of_getElem? (i := 250) rfl
theorem k_251 : (.laysFinal "TaleMachine$History" "TaleMachine$History" "saved" "[LTaleMachine$State;" : Cond) ∈ AW := List.mem_of_getElem? (i := 251) rfl
theorem k_252 : (.laysFinal "TaleMachine$History" "TaleMachine$History" "isSaved" "[Z" : Cond) ∈ AW := List.mem_of_getElem? (i := 252) rfl
theorem k_253 : (.lays "TaleMachine$History" "TaleMachine$History" "points" "I" : Cond) ∈ AW := List.mem_of_getElem? (i := 253) rfl
theorem k_254 : (.laysFinal "TaleMachine$Script" "TaleMachine$Script" "bytes" "[I" : Cond) ∈ AW := List.mem_of_getElem? (i := 254) rfl
theorem k_255 : (.lays "TaleMachine$Script" "TaleMachine$Script" "length" "I" : Cond) ∈ AW := List.mem_of_getElem? (i := 255) rfl
theorem k_256 : (.laysFinal "TaleMachine$State" "TaleMachine$State" "kinds" "[I" : Cond) ∈ AW := List.mem_of_getElem? (i := 256) rfl
theorem k_257 : (.laysFinal "TaleMachine$State" "TaleMachine$State" "ints" "[I" : Cond) ∈ AW := List.mem_of_getElem? (i := 257) rfl
theorem k_258 : (.laysFinal "TaleMachine$State" "TaleMachine$State" "parents" "[I" : Cond) ∈ AW := List.mem_of_getElem? (i := 258) rfl
theorem k_259 : (.laysFinal "TaleMachine$Teller" "TaleMachine$Teller" "script" "LTaleMachine$Script;" : Cond) ∈ AW := List.mem_of_getElem? (i := 259) rfl
theorem k_260 : (.laysFinal "TaleMachine$Teller" "TaleMachine$Teller" "world" "LTaleMachine$World;" : Cond) ∈ AW := List.mem_of_getElem? (i := 260) rfl
theorem k_261 : (.laysFinal "TaleMachine$Teller" "TaleMachine$Teller" "history" "LTaleMachine$History;" : Cond) ∈ AW := List.mem_of_getElem? (i := 261) rfl
theorem k_262 : (.laysFinal "TaleMachine$Teller" "TaleMachine$Teller" "frames" "[LTaleMachine$Frame;" : Cond) ∈ AW := List.mem_of_getElem? (i := 262) rfl
theorem k_263 : (.laysFinal "TaleMachine$Teller" "TaleMachine$Teller" "values" "LTaleMachine$Values;" : Cond) ∈ AW := List.mem_of_getElem? (i := 263) rfl
theorem k_264 : (.laysFinal "TaleMachine$Teller" "TaleMachine$Teller" "sayings" "LTaleMachine$Values;" : Cond) ∈ AW := List.mem_of_getElem? (i := 264) rfl
theorem k_265 : (.laysFinal "TaleMachine$Teller" "TaleMachine$Teller" "result" "LTaleMachine$Values;" : Cond) ∈ AW := List.mem_of_getElem? (i := 265) rfl
theorem k_266 : (.lays "TaleMachine$Teller" "TaleMachine$Teller" "depth" "I" : Cond) ∈ AW := List.mem_of_getElem? (i := 266) rfl
theorem k_267 : (.lays "TaleMachine$Teller" "TaleMachine$Teller" "outcome" "I" : Cond) ∈ AW := List.mem_of_getElem? (i := 267) rfl
theorem k_268 : (.laysFinal "TaleMachine$Values" "TaleMachine$Values" "kinds" "[I" : Cond) ∈ AW := List.mem_of_getElem? (i := 268) rfl
theorem k_269 : (.laysFinal "TaleMachine$Values" "TaleMachine$Values" "ints" "[I" : Cond) ∈ AW := List.mem_of_getElem? (i := 269) rfl
theorem k_270 : (.lays "TaleMachine$Values" "TaleMachine$Values" "count" "I" : Cond) ∈ AW := List.mem_of_getElem? (i := 270) rfl
theorem k_271 : (.laysFinal "TaleMachine$World" "TaleMachine$World" "now" "LTaleMachine$State;" : Cond) ∈ AW := List.mem_of_getElem? (i := 271) rfl
theorem k_272 : (.lays "TaleMachine$World" "TaleMachine$World" "fixed" "I" : Cond) ∈ AW := List.mem_of_getElem? (i := 272) rfl
theorem k_273 : (.laysFinal "TaleMachine$World" "TaleMachine$World" "fixedLines" "[I" : Cond) ∈ AW := List.mem_of_getElem? (i := 273) rfl
theorem k_274 : (.laysFinal "TaleMachine$World" "TaleMachine$World" "fixedLengths" "[I" : Cond) ∈ AW := List.mem_of_getElem? (i := 274) rfl
theorem k_275 : (.laysFinal "TaleMachine$World" "TaleMachine$World" "line" "[I" : Cond) ∈ AW := List.mem_of_getElem? (i := 275) rfl
theorem k_276 : (.lays "TaleMachine$World" "TaleMachine$World" "length" "I" : Cond) ∈ AW := List.mem_of_getElem? (i := 276) rfl
theorem k_277 : (.laysFinal "TaleMachine$World" "TaleMachine$World" "reached" "[I" : Cond) ∈ AW := List.mem_of_getElem? (i := 277) rfl
theorem k_278 : (.lays "TaleMachine$World" "TaleMachine$World" "reachedCount" "I" : Cond) ∈ AW := List.mem_of_getElem? (i := 278) rfl
theorem k_279 : (.lays "TaleMachine$World" "TaleMachine$World" "reachedBits" "I" : Cond) ∈ AW := List.mem_of_getElem? (i := 279) rfl
theorem k_280 : (.laysFinal "TaleMachine" "TaleMachine" "script" "LTaleMachine$Script;" : Cond) ∈ AW := List.mem_of_getElem? (i := 280) rfl
theorem k_281 : (.laysFinal "TaleMachine" "TaleMachine" "world" "LTaleMachine$World;" : Cond) ∈ AW := List.mem_of_getElem? (i := 281) rfl
theorem k_282 : (.laysFinal "TaleMachine" "TaleMachine" "history" "LTaleMachine$History;" : Cond) ∈ AW := List.mem_of_getElem? (i := 282) rfl
theorem k_283 : (.laysFinal "TaleMachine" "TaleMachine" "teller" "LTaleMachine$Teller;" : Cond) ∈ AW := List.mem_of_getElem? (i := 283) rfl
theorem k_284 : (.lays "TaleMachineModel" "TaleMachineModel" "code" "I" : Cond) ∈ AW := List.mem_of_getElem? (i := 284) rfl
theorem k_285 : (.laysFinal "TaleMachineModel" "TaleMachineModel" "bytes" "[I" : Cond) ∈ AW := List.mem_of_getElem? (i := 285) rfl
theorem k_286 : (.lays "TaleMachineModel" "TaleMachineModel" "size" "I" : Cond) ∈ AW := List.mem_of_getElem? (i := 286) rfl
theorem k_287 : (.laysFinal "TaleMachineModel" "TaleMachineModel" "w" "[I" : Cond) ∈ AW := List.mem_of_getElem? (i := 287) rfl
theorem k_288 : (.lays "TaleMachineModel" "TaleMachineModel" "fixed" "I" : Cond) ∈ AW := List.mem_of_getElem? (i := 288) rfl
theorem k_289 : (.lays "TaleMachineModel" "TaleMachineModel" "points" "I" : Cond) ∈ AW := List.mem_of_getElem? (i := 289) rfl
theorem k_290 : (.laysFinal "TaleMachineModel" "TaleMachineModel" "saved" "[Z" : Cond) ∈ AW := List.mem_of_getElem? (i := 290) rfl
theorem k_291 : (.lays "TaleMachineModel" "TaleMachineModel" "length" "I" : Cond) ∈ AW := List.mem_of_getElem? (i := 291) rfl
theorem k_292 : (.laysFinal "TaleMachineModel" "TaleMachineModel" "line" "[I" : Cond) ∈ AW := List.mem_of_getElem? (i := 292) rfl
theorem k_293 : (.laysFinal "TaleMachineModel" "TaleMachineModel" "met" "[Z" : Cond) ∈ AW := List.mem_of_getElem? (i := 293) rfl
theorem k_294 : (.laysFinal "TaleMachineModel" "TaleMachineModel" "waiting" "[I" : Cond) ∈ AW := List.mem_of_getElem? (i := 294) rfl
theorem k_295 : (.laysFinal "TaleMachineModel" "TaleMachineModel" "nextParent" "[I" : Cond) ∈ AW := List.mem_of_getElem? (i := 295) rfl
theorem k_296 : (.lays "TaleMachineModel" "TaleMachineModel" "height" "I" : Cond) ∈ AW := List.mem_of_getElem? (i := 296) rfl
theorem k_297 : (.laysFinal "TaleMachineModel" "TaleMachineModel" "kind" "[I" : Cond) ∈ AW := List.mem_of_getElem? (i := 297) rfl
theorem k_298 : (.laysFinal "TaleMachineModel" "TaleMachineModel" "number" "[I" : Cond) ∈ AW := List.mem_of_getElem? (i := 298) rfl
theorem k_299 : (.lays "TaleMachineModel" "TaleMachineModel" "depth" "I" : Cond) ∈ AW := List.mem_of_getElem? (i := 299) rfl
theorem k_300 : (.laysFinal "TaleMachineModel" "TaleMachineModel" "begin" "[I" : Cond) ∈ AW := List.mem_of_getElem? (i := 300) rfl
theorem k_301 : (.laysFinal "TaleMachineModel" "TaleMachineModel" "table" "[I" : Cond) ∈ AW := List.mem_of_getElem? (i := 301) rfl
theorem k_302 : (.laysFinal "TaleMachineModel" "TaleMachineModel" "handlers" "[I" : Cond) ∈ AW := List.mem_of_getElem? (i := 302) rfl
theorem k_303 : (.laysFinal "TaleMachineModel" "TaleMachineModel" "base" "[I" : Cond) ∈ AW := List.mem_of_getElem? (i := 303) rfl
theorem k_304 : (.laysFinal "TaleMachineModel" "TaleMachineModel" "locals" "[I" : Cond) ∈ AW := List.mem_of_getElem? (i := 304) rfl
theorem k_305 : (.laysFinal "TaleMachineModel" "TaleMachineModel" "self" "[I" : Cond) ∈ AW := List.mem_of_getElem? (i := 305) rfl
theorem k_306 : (.laysFinal "TaleMachineModel" "TaleMachineModel" "found" "[I" : Cond) ∈ AW := List.mem_of_getElem? (i := 306) rfl
theorem k_307 : (.laysFinal "TaleMachineModel" "TaleMachineModel" "place" "[I" : Cond) ∈ AW := List.mem_of_getElem? (i := 307) rfl
theorem k_308 : (.laysFinal "TaleMachineModel" "TaleMachineModel" "next" "[I" : Cond) ∈ AW := List.mem_of_getElem? (i := 308) rfl
theorem k_309 : (.lays "TaleMachineModel" "TaleMachineModel" "said" "I" : Cond) ∈ AW := List.mem_of_getElem? (i := 309) rfl
theorem k_310 : (.laysFinal "TaleMachineModel" "TaleMachineModel" "saidKind" "[I" : Cond) ∈ AW := List.mem_of_getElem? (i := 310) rfl
theorem k_311 : (.laysFinal "TaleMachineModel" "TaleMachineModel" "saidNumber" "[I" : Cond) ∈ AW := List.mem_of_getElem? (i := 311) rfl
theorem k_312 : (.lays "TaleMachineModel" "TaleMachineModel" "resultKind" "I" : Cond) ∈ AW := List.mem_of_getElem? (i := 312) rfl
theorem k_313 : (.lays "TaleMachineModel" "TaleMachineModel" "resultNumber" "I" : Cond) ∈ AW := List.mem_of_getElem? (i := 313) rfl
theorem k_314 : (.lays "TaleMachineModel" "TaleMachineModel" "ended" "I" : Cond) ∈ AW := List.mem_of_getElem? (i := 314) rfl
theorem k_315 : (.code y_TM_code prog_1_method_2_code 3 (some .boolean) : Cond) ∈ AW := List.mem_of_getElem? (i := 315) rfl
theorem k_316 : (.methodLink "TaleMachineLaw" 45 y_TM_code : Cond) ∈ AW := List.mem_of_getElem? (i := 316) rfl
theorem k_317 : (.instanceMethod y_TM_code : Cond) ∈ AW := List.mem_of_getElem? (i := 317) rfl
theorem k_318 : (.selects "TaleMachine" y_TM_code y_TM_code : Cond) ∈ AW := List.mem_of_getElem? (i := 318) rfl
theorem k_319 : (.code y_Model_code prog_10_method_16_code 4 (some .boolean) : Cond) ∈ AW := List.mem_of_getElem? (i := 319) rfl
theorem k_320 : (.methodLink "TaleMachineLaw" 49 y_Model_code : Cond) ∈ AW := List.mem_of_getElem? (i := 320) rfl
theorem k_321 : (.instanceMethod y_Model_code : Cond) ∈ AW := List.mem_of_getElem? (i := 321) rfl
theorem k_322 : (.selects "TaleMachineModel" y_Model_code y_Model_code : Cond) ∈ AW := List.mem_of_getElem? (i := 322) rfl
theorem k_323 : (.codeWith y_Law_object method_3_code 6 (some .int) [(0, 12, 15, 13), (0, 12, 19, 15)] : Cond) ∈ AW := List.mem_of_getElem? (i := 323) rfl
theorem k_324 : (.methodLink "TaleMachineLaw" 50 y_Law_object : Cond) ∈ AW := List.mem_of_getElem? (i := 324) rfl
theorem k_325 : (.static y_Law_object : Cond) ∈ AW := List.mem_of_getElem? (i := 325) rfl
theorem k_326 : (.initialized "TaleMachineLaw" : Cond) ∈ AW := List.mem_of_getElem? (i := 326) rfl
theorem k_327 : (.code y_Model_object prog_10_method_18_code 6 (some .int) : Cond) ∈ AW := List.mem_of_getElem? (i := 327) rfl
theorem k_328 : (.methodLink "TaleMachineLaw" 55 y_Model_object : Cond) ∈ AW := List.mem_of_getElem? (i := 328) rfl
theorem k_329 : (.instanceMethod y_Model_object : Cond) ∈ AW := List.mem_of_getElem? (i := 329) rfl
theorem k_330 : (.selects "TaleMachineModel" y_Model_object y_Model_object : Cond) ∈ AW := List.mem_of_getElem? (i := 330) rfl
theorem k_331 : (.code y_Model_thrown prog_10_method_2_code 1 (some .int) : Cond) ∈ AW := List.mem_of_getElem? (i := 331) rfl
theorem k_332 : (.methodLink "TaleMachineLaw" 56 y_Model_thrown : Cond) ∈ AW := List.mem_of_getElem? (i := 332) rfl
theorem k_333 : (.instanceMethod y_Model_thrown : Cond) ∈ AW := List.mem_of_getElem? (i := 333) rfl
theorem k_334 : (.selects "TaleMachineModel" y_Model_thrown y_Model_thrown : Cond) ∈ AW := List.mem_of_getElem? (i := 334) rfl
theorem k_335 : (.codeWith y_Law_property method_4_code 6 (some .int) [(0, 9, 12, 21), (0, 9, 16, 13), (0, 9, 20, 15)] : Cond) ∈ AW := List.mem_of_getElem? (i := 335) rfl
theorem k_336 : (.methodLink "TaleMachineLaw" 60 y_Law_property : Cond) ∈ AW := List.mem_of_getElem? (i := 336) rfl
theorem k_337 : (.static y_Law_property : Cond) ∈ AW := List.mem_of_getElem? (i := 337) rfl
theorem k_338 : (.code y_Model_property prog_10_method_19_code 6 none : Cond) ∈ AW := List.mem_of_getElem? (i := 338) rfl
theorem k_339 : (.methodLink "TaleMachineLaw" 63 y_Model_property : Cond) ∈ AW := List.mem_of_getElem? (i := 339) rfl
theorem k_340 : (.instanceMethod y_Model_property : Cond) ∈ AW := List.mem_of_getElem? (i := 340) rfl
theorem k_341 : (.selects "TaleMachineModel" y_Model_property y_Model_property : Cond) ∈ AW := List.mem_of_getElem? (i := 341) rfl
theorem k_342 : (.codeWith y_Law_begin method_5_code 4 (some .int) [(0, 6, 9, 21), (0, 6, 12, 13), (0, 6, 15, 15)] : Cond) ∈ AW := List.mem_of_getElem? (i := 342) rfl
theorem k_343 : (.methodLink "TaleMachineLaw" 64 y_Law_begin : Cond) ∈ AW := List.mem_of_getElem? (i := 343) rfl
theorem k_344 : (.static y_Law_begin : Cond) ∈ AW := List.mem_of_getElem? (i := 344) rfl
theorem k_345 : (.code y_Model_begin prog_10_method_24_code 5 none : Cond) ∈ AW := List.mem_of_getElem? (i := 345) rfl
theorem k_346 : (.methodLink "TaleMachineLaw" 67 y_Model_begin : Cond) ∈ AW := List.mem_of_getElem? (i := 346) rfl
theorem k_347 : (.instanceMethod y_Model_begin : Cond) ∈ AW := List.mem_of_getElem? (i := 347) rfl
theorem k_348 : (.selects "TaleMachineModel" y_Model_begin y_Model_begin : Cond) ∈ AW := List.mem_of_getElem? (i := 348) rfl
theorem k_349 : (.code y_TM_run prog_1_method_6_code 4 (some .int) : Cond) ∈ AW := List.mem_of_getElem? (i := 349) rfl
theorem k_350 : (.methodLink "TaleMachineLaw" 68 y_TM_run : Cond) ∈ AW := List.mem_of_getElem? (i := 350) rfl
theorem k_351 : (.instanceMethod y_TM_run : Cond) ∈ AW := List.mem_of_getElem? (i := 351) rfl
theorem k_352 : (.selects "TaleMachine" y_TM_run y_TM_run : Cond) ∈ AW := List.mem_of_getElem? (i := 352) rfl
theorem k_353 : (.code y_Model_run prog_10_method_26_code 3 (some .int) : Cond) ∈ AW := List.mem_of_getElem? (i := 353) rfl
theorem k_354 : (.methodLink "TaleMachineLaw" 71 y_Model_run : Cond) ∈ AW := List.mem_of_getElem? (i := 354) rfl
theorem k_355 : (.instanceMethod y_Model_run : Cond) ∈ AW := List.mem_of_getElem? (i := 355) rfl
theorem k_356 : (.selects "TaleMachineModel" y_Model_run y_Model_run : Cond) ∈ AW := List.mem_of_getElem? (i := 356) rfl
theorem k_357 : (.code y_TM_stop prog_1_method_7_code 1 (some .boolean) : Cond) ∈ AW := List.mem_of_getElem? (i := 357) rfl
theorem k_358 : (.methodLink "TaleMachineLaw" 72 y_TM_stop : Cond) ∈ AW := List.mem_of_getElem? (i := 358) rfl
theorem k_359 : (.instanceMethod y_TM_stop : Cond) ∈ AW := List.mem_of_getElem? (i := 359) rfl
theorem k_360 : (.selects "TaleMachine" y_TM_stop y_TM_stop : Cond) ∈ AW := List.mem_of_getElem? (i := 360) rfl
theorem k_361 : (.code y_Model_stop prog_10_method_27_code 1 (some .boolean) : Cond) ∈ AW := List.mem_of_getElem? (i := 361) rfl
theorem k_362 : (.methodLink "TaleMachineLaw" 76 y_Model_stop : Cond) ∈ AW := List.mem_of_getElem? (i := 362) rfl
theorem k_363 : (.instanceMethod y_Model_stop : Cond) ∈ AW := List.mem_of_getElem? (i := 363) rfl
theorem k_364 : (.selects "TaleMachineModel" y_Model_stop y_Model_stop : Cond) ∈ AW := List.mem_of_getElem? (i := 364) rfl
theorem k_365 : (.code y_TM_collect prog_1_method_8_code 1 (some .int) : Cond) ∈ AW := List.mem_of_getElem? (i := 365) rfl
theorem k_366 : (.methodLink "TaleMachineLaw" 77 y_TM_collect : Cond) ∈ AW := List.mem_of_getElem? (i := 366) rfl
theorem k_367 : (.instanceMethod y_TM_collect : Cond) ∈ AW := List.mem_of_getElem? (i := 367) rfl
theorem k_368 : (.selects "TaleMachine" y_TM_collect y_TM_collect : Cond) ∈ AW := List.mem_of_getElem? (i := 368) rfl
theorem k_369 : (.code y_Model_collect prog_10_method_50_code 6 (some .int) : Cond) ∈ AW := List.mem_of_getElem? (i := 369) rfl
theorem k_370 : (.methodLink "TaleMachineLaw" 80 y_Model_collect : Cond) ∈ AW := List.mem_of_getElem? (i := 370) rfl
theorem k_371 : (.instanceMethod y_Model_collect : Cond) ∈ AW := List.mem_of_getElem? (i := 371) rfl
theorem k_372 : (.selects "TaleMachineModel" y_Model_collect y_Model_collect : Cond) ∈ AW := List.mem_of_getElem? (i := 372) rfl
theorem k_373 : (.codeWith y_Law_stack method_6_code 5 (some .int) [(0, 10, 13, 21)] : Cond) ∈ AW := List.mem_of_getElem? (i := 373) rfl
theorem k_374 : (.methodLink "TaleMachineLaw" 81 y_Law_stack : Cond) ∈ AW := List.mem_of_getElem? (i := 374) rfl
theorem k_375 : (.static y_Law_stack : Cond) ∈ AW := List.mem_of_getElem? (i := 375) rfl
theorem k_376 : (.code y_Model_stack prog_10_method_51_code 3 (some .int) : Cond) ∈ AW := List.mem_of_getElem? (i := 376) rfl
theorem k_377 : (.methodLink "TaleMachineLaw" 84 y_Model_stack : Cond) ∈ AW := List.mem_of_getElem? (i := 377) rfl
theorem k_378 : (.instanceMethod y_Model_stack : Cond) ∈ AW := List.mem_of_getElem? (i := 378) rfl
theorem k_379 : (.selects "TaleMachineModel" y_Model_stack y_Model_stack : Cond) ∈ AW := List.mem_of_getElem? (i := 379) rfl
theorem k_380 : (.codeWith y_Law_show method_7_code 4 (some .int) [(0, 9, 12, 21)] : Cond) ∈ AW := List.mem_of_getElem? (i := 380) rfl
theorem k_381 : (.methodLink "TaleMachineLaw" 85 y_Law_show : Cond) ∈ AW := List.mem_of_getElem? (i := 381) rfl
theorem k_382 : (.static y_Law_show : Cond) ∈ AW := List.mem_of_getElem? (i := 382) rfl
theorem k_383 : (.code y_Model_show prog_10_method_52_code 4 (some .int) : Cond) ∈ AW := List.mem_of_getElem? (i := 383) rfl
theorem k_384 : (.methodLink "TaleMachineLaw" 88 y_Model_show : Cond) ∈ AW := List.mem_of_getElem? (i := 384) rfl
theorem k_385 : (.instanceMethod y_Model_show : Cond) ∈ AW := List.mem_of_getElem? (i := 385) rfl
theorem k_386 : (.selects "TaleMachineModel" y_Model_show y_Model_show : Cond) ∈ AW := List.mem_of_getElem? (i := 386) rfl
theorem k_387 : (.codeWith y_Law_said method_8_code 5 (some .int) [(0, 10, 13, 21)] : Cond) ∈ AW := List.mem_of_getElem? (i := 387) rfl
theorem k_388 : (.methodLink "TaleMachineLaw" 89 y_Law_said : Cond) ∈ AW := List.mem_of_getElem? (i := 388) rfl
theorem k_389 : (.static y_Law_said : Cond) ∈ AW := List.mem_of_getElem? (i := 389) rfl
theorem k_390 : (.code y_Model_said prog_10_method_53_code 3 (some .int) : Cond) ∈ AW := List.mem_of_getElem? (i := 390) rfl
theorem k_391 : (.methodLink "TaleMachineLaw" 91 y_Model_said : Cond) ∈ AW := List.mem_of_getElem? (i := 391) rfl
theorem k_392 : (.instanceMethod y_Model_said : Cond) ∈ AW := List.mem_of_getElem? (i := 392) rfl
theorem k_393 : (.selects "TaleMachineModel" y_Model_said y_Model_said : Cond) ∈ AW := List.mem_of_getElem? (i := 393) rfl
theorem k_394 : (.codeWith y_Law_has method_9_code 6 (some .int) [(0, 12, 15, 21)] : Cond) ∈ AW := List.mem_of_getElem? (i := 394) rfl
theorem k_395 : (.methodLink "TaleMachineLaw" 92 y_Law_has : Cond) ∈ AW := List.mem_of_getElem? (i := 395) rfl
theorem k_396 : (.static y_Law_has : Cond) ∈ AW := List.mem_of_getElem? (i := 396) rfl
theorem k_397 : (.code y_Model_has prog_10_method_54_code 5 (some .int) : Cond) ∈ AW := List.mem_of_getElem? (i := 397) rfl
theorem k_398 : (.methodLink "TaleMachineLaw" 94 y_Model_has : Cond) ∈ AW := List.mem_of_getElem? (i := 398) rfl
theorem k_399 : (.instanceMethod y_Model_has : Cond) ∈ AW := List.mem_of_getElem? (i := 399) rfl
theorem k_400 : (.selects "TaleMachineModel" y_Model_has y_Model_has : Cond) ∈ AW := List.mem_of_getElem? (i := 400) rfl
theorem k_401 : (.code y_TM_isOf prog_1_method_13_code 3 (some .boolean) : Cond) ∈ AW := List.mem_of_getElem? (i := 401) rfl
theorem k_402 : (.methodLink "TaleMachineLaw" 95 y_TM_isOf : Cond) ∈ AW := List.mem_of_getElem? (i := 402) rfl
theorem k_403 : (.instanceMethod y_TM_isOf : Cond) ∈ AW := List.mem_of_getElem? (i := 403) rfl
theorem k_404 : (.selects "TaleMachine" y_TM_isOf y_TM_isOf : Cond) ∈ AW := List.mem_of_getElem? (i := 404) rfl
theorem k_405 : (.code y_Model_isOf prog_10_method_55_code 3 (some .boolean) : Cond) ∈ AW := List.mem_of_getElem? (i := 405) rfl
theorem k_406 : (.methodLink "TaleMachineLaw" 98 y_Model_isOf : Cond) ∈ AW := List.mem_of_getElem? (i := 406) rfl
theorem k_407 : (.instanceMethod y_Model_isOf : Cond) ∈ AW := List.mem_of_getElem? (i := 407) rfl
theorem k_408 : (.selects "TaleMachineModel" y_Model_isOf y_Model_isOf : Cond) ∈ AW := List.mem_of_getElem? (i := 408) rfl
theorem k_409 : (.classLink "TaleMachineLaw" 8 "TaleMachine" : Cond) ∈ AW := List.mem_of_getElem? (i := 409) rfl
theorem k_410 : (.instantiable "TaleMachine" 4 : Cond) ∈ AW := List.mem_of_getElem? (i := 410) rfl
theorem k_411 : (.code y_TM_init prog_1_method_1_code 1 none : Cond) ∈ AW := List.mem_of_getElem? (i := 411) rfl
theorem k_412 : (.methodLink "TaleMachineLaw" 41 y_TM_init : Cond) ∈ AW := List.mem_of_getElem? (i := 412) rfl
theorem k_413 : (.instanceMethod y_TM_init : Cond) ∈ AW := List.mem_of_getElem? (i := 413) rfl
theorem k_414 : (.classLink "TaleMachineLaw" 42 "TaleMachineModel" : Cond) ∈ AW := List.mem_of_getElem? (i := 414) rfl
theorem k_415 : (.instantiable "TaleMachineModel" 31 : Cond) ∈ AW := List.mem_of_getElem? (i := 415) rfl
theorem k_416 : (.code y_Model_init prog_10_method_1_code 1 none : Cond) ∈ AW := List.mem_of_getElem? (i := 416) rfl
theorem k_417 : (.methodLink "TaleMachineLaw" 44 y_Model_init : Cond) ∈ AW := List.mem_of_getElem? (i := 417) rfl
theorem k_418 : (.instanceMethod y_Model_init : Cond) ∈ AW := List.mem_of_getElem? (i := 418) rfl
theorem k_419 : (.arrayClass .long : Cond) ∈ AW := List.mem_of_getElem? (i := 419) rfl
theorem AW_all : AW.all goodWord = true := by decide +kernel
theorem in_Frame : ∀ w ∈ u_ws "TaleMachine$Frame" F_Frame 8, w ∈ AW := by
  show ∀ w ∈ ([.lays "TaleMachine$Frame" "TaleMachine$Frame" "method" "I", .lays "TaleMachine$Frame" "TaleMachine$Frame" "beginning" "I", .lays "TaleMachine$Frame" "TaleMachine$Frame" "self" "I", .lays "TaleMachine$Frame" "TaleMachine$Frame" "found" "I", .lays "TaleMachine$Frame" "TaleMachine$Frame" "place" "I", .lays "TaleMachine$Frame" "TaleMachine$Frame" "behind" "I", .lays "TaleMachine$Frame" "TaleMachine$Frame" "base" "I", .lays "TaleMachine$Frame" "TaleMachine$Frame" "floor" "I"] : List Cond), w ∈ AW
  exact List.forall_mem_cons.mpr ⟨k_242, List.forall_mem_cons.mpr ⟨k_243, List.forall_mem_cons.mpr ⟨k_244, List.forall_mem_cons.mpr ⟨k_245, List.forall_mem_cons.mpr ⟨k_246, List.forall_mem_cons.mpr ⟨k_247, List.forall_mem_cons.mpr ⟨k_248, List.forall_mem_cons.mpr ⟨k_249, fun _ h => absurd h List.not_mem_nil⟩⟩⟩⟩⟩⟩⟩⟩
theorem in_History : ∀ w ∈ u_ws "TaleMachine$History" F_History 4, w ∈ AW := by
  show ∀ w ∈ ([.laysFinal "TaleMachine$History" "TaleMachine$History" "pointed" "[LTaleMachine$State;", .laysFinal "TaleMachine$History" "TaleMachine$History" "saved" "[LTaleMachine$State;", .laysFinal "TaleMachine$History" "TaleMachine$History" "isSaved" "[Z", .lays "TaleMachine$History" "TaleMachine$History" "points" "I"] : List Cond), w ∈ AW
  exact List.forall_mem_cons.mpr ⟨k_250, List.forall_mem_cons.mpr ⟨k_251, List.forall_mem_cons.mpr ⟨k_252, List.forall_mem_cons.mpr ⟨k_253, fun _ h => absurd h List.not_mem_nil⟩⟩⟩⟩
theorem in_Script : ∀ w ∈ u_ws "TaleMachine$Script" F_Script 2, w ∈ AW := by
  show ∀ w ∈ ([.laysFinal "TaleMachine$Script" "TaleMachine$Script" "bytes" "[I", .lays "TaleMachine$Script" "TaleMachine$Script" "length" "I"] : List Cond), w ∈ AW
  exact List.forall_mem_cons.mpr ⟨k_254, List.forall_mem_cons.mpr ⟨k_255, fun _ h => absurd h List.not_mem_nil⟩⟩
theorem in_State : ∀ w ∈ u_ws "TaleMachine$State" F_State 3, w ∈ AW := by
  show ∀ w ∈ ([.laysFinal "TaleMachine$State" "TaleMachine$State" "kinds" "[I", .laysFinal "TaleMachine$State" "TaleMachine$State" "ints" "[I", .laysFinal "TaleMachine$State" "TaleMachine$State" "parents" "[I"] : List Cond), w ∈ AW
  exact List.forall_mem_cons.mpr ⟨k_256, List.forall_mem_cons.mpr ⟨k_257, List.forall_mem_cons.mpr ⟨k_258, fun _ h => absurd h List.not_mem_nil⟩⟩⟩
theorem in_Teller : ∀ w ∈ u_ws "TaleMachine$Teller" F_Teller 9, w ∈ AW := by
  show ∀ w ∈ ([.laysFinal "TaleMachine$Teller" "TaleMachine$Teller" "script" "LTaleMachine$Script;", .laysFinal "TaleMachine$Teller" "TaleMachine$Teller" "world" "LTaleMachine$World;", .laysFinal "TaleMachine$Teller" "TaleMachine$Teller" "history" "LTaleMachine$History;", .laysFinal "TaleMachine$Teller" "TaleMachine$Teller" "frames" "[LTaleMachine$Frame;", .laysFinal "TaleMachine$Teller" "TaleMachine$Teller" "values" "LTaleMachine$Values;", .laysFinal "TaleMachine$Teller" "TaleMachine$Teller" "sayings" "LTaleMachine$Values;", .laysFinal "TaleMachine$Teller" "TaleMachine$Teller" "result" "LTaleMachine$Values;", .lays "TaleMachine$Teller" "TaleMachine$Teller" "depth" "I", .lays "TaleMachine$Teller" "TaleMachine$Teller" "outcome" "I"] : List Cond), w ∈ AW
  exact List.forall_mem_cons.mpr ⟨k_259, List.forall_mem_cons.mpr ⟨k_260, List.forall_mem_cons.mpr ⟨k_261, List.forall_mem_cons.mpr ⟨k_262, List.forall_mem_cons.mpr ⟨k_263, List.forall_mem_cons.mpr ⟨k_264, List.forall_mem_cons.mpr ⟨k_265, List.forall_mem_cons.mpr ⟨k_266, List.forall_mem_cons.mpr ⟨k_267, fun _ h => absurd h List.not_mem_nil⟩⟩⟩⟩⟩⟩⟩⟩⟩
theorem in_Values : ∀ w ∈ u_ws "TaleMachine$Values" F_Values 3, w ∈ AW := by
  show ∀ w ∈ ([.laysFinal "TaleMachine$Values" "TaleMachine$Values" "kinds" "[I", .laysFinal "TaleMachine$Values" "TaleMachine$Values" "ints" "[I", .lays "TaleMachine$Values" "TaleMachine$Values" "count" "I"] : List Cond), w ∈ AW
  exact List.forall_mem_cons.mpr ⟨k_268, List.forall_mem_cons.mpr ⟨k_269, List.forall_mem_cons.mpr ⟨k_270, fun _ h => absurd h List.not_mem_nil⟩⟩⟩
theorem in_World : ∀ w ∈ u_ws "TaleMachine$World" F_World 9, w ∈ AW := by
  show ∀ w ∈ ([.laysFinal "TaleMachine$World" "TaleMachine$World" "now" "LTaleMachine$State;", .lays "TaleMachine$World" "TaleMachine$World" "fixed" "I", .laysFinal "TaleMachine$World" "TaleMachine$World" "fixedLines" "[I", .laysFinal "TaleMachine$World" "TaleMachine$World" "fixedLengths" "[I", .laysFinal "TaleMachine$World" "TaleMachine$World" "line" "[I", .lays "TaleMachine$World" "TaleMachine$World" "length" "I", .laysFinal "TaleMachine$World" "TaleMachine$World" "reached" "[I", .lays "TaleMachine$World" "TaleMachine$World" "reachedCount" "I", .lays "TaleMachine$World" "TaleMachine$World" "reachedBits" "I"] : List Cond), w ∈ AW
  exact List.forall_mem_cons.mpr ⟨k_271, List.forall_mem_cons.mpr ⟨k_272, List.forall_mem_cons.mpr ⟨k_273, List.forall_mem_cons.mpr ⟨k_274, List.forall_mem_cons.mpr ⟨k_275, List.forall_mem_cons.mpr ⟨k_276, List.forall_mem_cons.mpr ⟨k_277, List.forall_mem_cons.mpr ⟨k_278, List.forall_mem_cons.mpr ⟨k_279, fun _ h => absurd h List.not_mem_nil⟩⟩⟩⟩⟩⟩⟩⟩⟩
theorem in_TM : ∀ w ∈ u_ws "TaleMachine" F_TM 4, w ∈ AW := by
  show ∀ w ∈ ([.laysFinal "TaleMachine" "TaleMachine" "script" "LTaleMachine$Script;", .laysFinal "TaleMachine" "TaleMachine" "world" "LTaleMachine$World;", .laysFinal "TaleMachine" "TaleMachine" "history" "LTaleMachine$History;", .laysFinal "TaleMachine" "TaleMachine" "teller" "LTaleMachine$Teller;"] : List Cond), w ∈ AW
  exact List.forall_mem_cons.mpr ⟨k_280, List.forall_mem_cons.mpr ⟨k_281, List.forall_mem_cons.mpr ⟨k_282, List.forall_mem_cons.mpr ⟨k_283, fun _ h => absurd h List.not_mem_nil⟩⟩⟩⟩
theorem in_Model : ∀ w ∈ u_ws "TaleMachineModel" F_Model 31, w ∈ AW := by
  show ∀ w ∈ ([.lays "TaleMachineModel" "TaleMachineModel" "code" "I", .laysFinal "TaleMachineModel" "TaleMachineModel" "bytes" "[I", .lays "TaleMachineModel" "TaleMachineModel" "size" "I", .laysFinal "TaleMachineModel" "TaleMachineModel" "w" "[I", .lays "TaleMachineModel" "TaleMachineModel" "fixed" "I", .lays "TaleMachineModel" "TaleMachineModel" "points" "I", .laysFinal "TaleMachineModel" "TaleMachineModel" "saved" "[Z", .lays "TaleMachineModel" "TaleMachineModel" "length" "I", .laysFinal "TaleMachineModel" "TaleMachineModel" "line" "[I", .laysFinal "TaleMachineModel" "TaleMachineModel" "met" "[Z", .laysFinal "TaleMachineModel" "TaleMachineModel" "waiting" "[I", .laysFinal "TaleMachineModel" "TaleMachineModel" "nextParent" "[I", .lays "TaleMachineModel" "TaleMachineModel" "height" "I", .laysFinal "TaleMachineModel" "TaleMachineModel" "kind" "[I", .laysFinal "TaleMachineModel" "TaleMachineModel" "number" "[I", .lays "TaleMachineModel" "TaleMachineModel" "depth" "I", .laysFinal "TaleMachineModel" "TaleMachineModel" "begin" "[I", .laysFinal "TaleMachineModel" "TaleMachineModel" "table" "[I", .laysFinal "TaleMachineModel" "TaleMachineModel" "handlers" "[I", .laysFinal "TaleMachineModel" "TaleMachineModel" "base" "[I", .laysFinal "TaleMachineModel" "TaleMachineModel" "locals" "[I", .laysFinal "TaleMachineModel" "TaleMachineModel" "self" "[I", .laysFinal "TaleMachineModel" "TaleMachineModel" "found" "[I", .laysFinal "TaleMachineModel" "TaleMachineModel" "place" "[I", .laysFinal "TaleMachineModel" "TaleMachineModel" "next" "[I", .lays "TaleMachineModel" "TaleMachineModel" "said" "I", .laysFinal "TaleMachineModel" "TaleMachineModel" "saidKind" "[I", .laysFinal "TaleMachineModel" "TaleMachineModel" "saidNumber" "[I", .lays "TaleMachineModel" "TaleMachineModel" "resultKind" "I", .lays "TaleMachineModel" "TaleMachineModel" "resultNumber" "I", .lays "TaleMachineModel" "TaleMachineModel" "ended" "I"] : List Cond), w ∈ AW
  exact List.forall_mem_cons.mpr ⟨k_284, List.forall_mem_cons.mpr ⟨k_285, List.forall_mem_cons.mpr ⟨k_286, List.forall_mem_cons.mpr ⟨k_287, List.forall_mem_cons.mpr ⟨k_288, List.forall_mem_cons.mpr ⟨k_289, List.forall_mem_cons.mpr ⟨k_290, List.forall_mem_cons.mpr ⟨k_291, List.forall_mem_cons.mpr ⟨k_292, List.forall_mem_cons.mpr ⟨k_293, List.forall_mem_cons.mpr ⟨k_294, List.forall_mem_cons.mpr ⟨k_295, List.forall_mem_cons.mpr ⟨k_296, List.forall_mem_cons.mpr ⟨k_297, List.forall_mem_cons.mpr ⟨k_298, List.forall_mem_cons.mpr ⟨k_299, List.forall_mem_cons.mpr ⟨k_300, List.forall_mem_cons.mpr ⟨k_301, List.forall_mem_cons.mpr ⟨k_302, List.forall_mem_cons.mpr ⟨k_303, List.forall_mem_cons.mpr ⟨k_304, List.forall_mem_cons.mpr ⟨k_305, List.forall_mem_cons.mpr ⟨k_306, List.forall_mem_cons.mpr ⟨k_307, List.forall_mem_cons.mpr ⟨k_308, List.forall_mem_cons.mpr ⟨k_309, List.forall_mem_cons.mpr ⟨k_310, List.forall_mem_cons.mpr ⟨k_311, List.forall_mem_cons.mpr ⟨k_312, List.forall_mem_cons.mpr ⟨k_313, List.forall_mem_cons.mpr ⟨k_314, fun _ h => absurd h List.not_mem_nil⟩⟩⟩⟩⟩⟩⟩⟩⟩⟩⟩⟩⟩⟩⟩⟩⟩⟩⟩⟩⟩⟩⟩⟩⟩⟩⟩⟩⟩⟩⟩
set_option maxRecDepth 100000 in
set_option maxHeartbeats 4000000 in
theorem AW_tbl {args : Array Value} {s : State} (hts : ∀ w ∈ lw_tbl, w.before args s = true) : ∀ w ∈ AW, w.before args s = true := by
  have h0 : ∀ w ∈ AW_0, w.before args s = true := by
    refine List.forall_mem_cons.mpr ⟨hts _ (List.mem_append_right _ (List.mem_of_getElem? (i := 755) rfl)), List.forall_mem_cons.mpr ⟨hts _ (List.mem_append_right _ (List.mem_of_getElem? (i := 859) rfl)), List.forall_mem_cons.mpr ⟨hts _ (List.mem_append_right _ (List.mem_of_getElem? (i := 857) rfl)), List.forall_mem_cons.mpr ⟨hts _ (List.mem_append_right _ (List.mem_of_getElem? (i := 858) rfl)), List.forall_mem_cons.mpr ⟨hts _ (List.mem_append_right _ (List.mem_of_getElem? (i := 10) rfl)), List.forall_mem_cons.mpr ⟨hts _ (List.mem_append_right _ (List.mem_of_getElem? (i := 758) rfl)), List.forall_mem_cons.mpr ⟨hts _ (List.mem_append_right _ (List.mem_of_getElem? (i := 871) rfl)), List.forall_mem_cons.mpr ⟨hts _ (List.mem_append_right _ (List.mem_of_getElem? (i := 868) rfl)), List.forall_mem_cons.mpr ⟨hts _ (List.mem_append_right _ (List.mem_of_getElem? (i := 870) rfl)), List.forall_mem_cons.mpr ⟨hts _ (List.mem_append_left _ (List.mem_of_getElem? (i := 37) rfl)), List.forall_mem_cons.mpr ⟨hts _ (List.mem_append_right _ (List.mem_of_getElem? (i := 879) rfl)), List.forall_mem_cons.mpr ⟨hts _ (List.mem_append_right _ (List.mem_of_getElem? (i := 876) rfl)), List.forall_mem_cons.mpr ⟨hts _ (List.mem_append_right _ (List.mem_of_getElem? (i := 878) rfl)), List.forall_mem_cons.mpr ⟨hts _ (List.mem_append_left _ (List.mem_of_getElem? (i := 39) rfl)), List.forall_mem_cons.mpr ⟨hts _ (List.mem_append_right _ (List.mem_of_getElem? (i := 757) rfl)), List.forall_mem_cons.mpr ⟨hts _ (List.mem_append_right _ (List.mem_of_getElem? (i := 756) rfl)), List.forall_mem_cons.mpr ⟨hts _ (List.mem_append_right _ (List.mem_of_getElem? (i := 867) rfl)), List.forall_mem_cons.mpr ⟨hts _ (List.mem_append_right _ (List.mem_of_getElem? (i := 864) rfl)), List.forall_mem_cons.mpr ⟨hts _ (List.mem_append_right _ (List.mem_of_getElem? (i := 866) rfl)), List.forall_mem_cons.mpr ⟨hts _ (List.mem_append_left _ (List.mem_of_getElem? (i := 36) rfl)), List.forall_mem_cons.mpr ⟨hts _ (List.mem_append_right _ (List.mem_of_getElem? (i := 785) rfl)), List.forall_mem_cons.mpr ⟨hts _ (List.mem_append_right _ (List.mem_of_getElem? (i := 759) rfl)), List.forall_mem_cons.mpr ⟨hts _ (List.mem_append_right _ (List.mem_of_getElem? (i := 875) rfl)), List.forall_mem_cons.mpr ⟨hts _ (List.mem_append_right _ (List.mem_of_getElem? (i := 872) rfl)), List.forall_mem_cons.mpr ⟨hts _ (List.mem_append_right _ (List.mem_of_getElem? (i := 874) rfl)), List.forall_mem_cons.mpr ⟨hts _ (List.mem_append_left _ (List.mem_of_getElem? (i := 38) rfl)), List.forall_mem_cons.mpr ⟨hts _ (List.mem_append_right _ (List.mem_of_getElem? (i := 761) rfl)), List.forall_mem_cons.mpr ⟨hts _ (List.mem_append_right _ (List.mem_of_getElem? (i := 783) rfl)), List.forall_mem_cons.mpr ⟨hts _ (List.mem_append_right _ (List.mem_of_getElem? (i := 784) rfl)), List.forall_mem_cons.mpr ⟨hts _ (List.mem_append_right _ (List.mem_of_getElem? (i := 1034) rfl)), List.forall_mem_cons.mpr ⟨hts _ (List.mem_append_right _ (List.mem_of_getElem? (i := 1031) rfl)), List.forall_mem_cons.mpr ⟨hts _ (List.mem_append_right _ (List.mem_of_getElem? (i := 1033) rfl)), List.forall_mem_cons.mpr ⟨hts _ (List.mem_append_left _ (List.mem_of_getElem? (i := 72) rfl)), List.forall_mem_cons.mpr ⟨hts _ (List.mem_append_right _ (List.mem_of_getElem? (i := 767) rfl)), List.forall_mem_cons.mpr ⟨hts _ (List.mem_append_right _ (List.mem_of_getElem? (i := 770) rfl)), List.forall_mem_cons.mpr ⟨hts _ (List.mem_append_right _ (List.mem_of_getElem? (i := 1046) rfl)), List.forall_mem_cons.mpr ⟨hts _ (List.mem_append_right _ (List.mem_of_getElem? (i := 1043) rfl)), List.forall_mem_cons.mpr ⟨hts _ (List.mem_append_right _ (List.mem_of_getElem? (i := 1045) rfl)), List.forall_mem_cons.mpr ⟨hts _ (List.mem_append_left _ (List.mem_of_getElem? (i := 74) rfl)), List.forall_mem_cons.mpr ⟨hts _ (List.mem_append_right _ (List.mem_of_getElem? (i := 780) rfl)), List.forall_mem_cons.mpr ⟨hts _ (List.mem_append_right _ (List.mem_of_getElem? (i := 760) rfl)), List.forall_mem_cons.mpr ⟨hts _ (List.mem_append_right _ (List.mem_of_getElem? (i := 32) rfl)), List.forall_mem_cons.mpr ⟨hts _ (List.mem_append_right _ (List.mem_of_getElem? (i := 25) rfl)), List.forall_mem_cons.mpr ⟨hts _ (List.mem_append_right _ (List.mem_of_getElem? (i := 26) rfl)), List.forall_mem_cons.mpr ⟨hts _ (List.mem_append_right _ (List.mem_of_getElem? (i := 40) rfl)), List.forall_mem_cons.mpr ⟨hts _ (List.mem_append_right _ (List.mem_of_getElem? (i := 33) rfl)), List.forall_mem_cons.mpr ⟨hts _ (List.mem_append_right _ (List.mem_of_getElem? (i := 157) rfl)), List.forall_mem_cons.mpr ⟨hts _ (List.mem_append_right _ (List.mem_of_getElem? (i := 136) rfl)), List.forall_mem_cons.mpr ⟨hts _ (List.mem_append_right _ (List.mem_of_getElem? (i := 137) rfl)), List.forall_mem_cons.mpr ⟨hts _ (List.mem_append_right _ (List.mem_of_getElem? (i := 140) rfl)), List.forall_mem_cons.mpr ⟨hts _ (List.mem_append_right _ (List.mem_of_getElem? (i := 52) rfl)), List.forall_mem_cons.mpr ⟨hts _ (List.mem_append_right _ (List.mem_of_getElem? (i := 56) rfl)), List.forall_mem_cons.mpr ⟨hts _ (List.mem_append_right _ (List.mem_of_getElem? (i := 58) rfl)), List.forall_mem_cons.mpr ⟨hts _ (List.mem_append_right _ (List.mem_of_getElem? (i := 60) rfl)), List.forall_mem_cons.mpr ⟨hts _ (List.mem_append_right _ (List.mem_of_getElem? (i := 55) rfl)), List.forall_mem_cons.mpr ⟨hts _ (List.mem_append_right _ (List.mem_of_getElem? (i := 53) rfl)), List.forall_mem_cons.mpr ⟨hts _ (List.mem_append_right _ (List.mem_of_getElem? (i := 54) rfl)), List.forall_mem_cons.mpr ⟨hts _ (List.mem_append_right _ (List.mem_of_getElem? (i := 5) rfl)), List.forall_mem_cons.mpr ⟨hts _ (List.mem_append_right _ (List.mem_of_getElem? (i := 46) rfl)), List.forall_mem_cons.mpr ⟨hts _ (List.mem_append_right _ (List.mem_of_getElem? (i := 47) rfl)), fun _ h => absurd h List.not_mem_nil⟩⟩⟩⟩⟩⟩⟩⟩⟩⟩⟩⟩⟩⟩⟩⟩⟩⟩⟩⟩⟩⟩⟩⟩⟩⟩⟩⟩⟩⟩⟩⟩⟩⟩⟩⟩⟩⟩⟩⟩⟩⟩⟩⟩⟩⟩⟩⟩⟩⟩⟩⟩⟩⟩⟩⟩⟩⟩⟩⟩
  have h1 : ∀ w ∈ AW_1, w.before args s = true := by
    refine List.forall_mem_cons.mpr ⟨hts _ (List.mem_append_right _ (List.mem_of_getElem? (i := 48) rfl)), List.forall_mem_cons.mpr ⟨hts _ (List.mem_append_right _ (List.mem_of_getElem? (i := 4) rfl)), List.forall_mem_cons.mpr ⟨hts _ (List.mem_append_right _ (List.mem_of_getElem? (i := 51) rfl)), List.forall_mem_cons.mpr ⟨hts _ (List.mem_append_right _ (List.mem_of_getElem? (i := 49) rfl)), List.forall_mem_cons.mpr ⟨hts _ (List.mem_append_right _ (List.mem_of_getElem? (i := 50) rfl)), List.forall_mem_cons.mpr ⟨hts _ (List.mem_append_right _ (List.mem_of_getElem? (i := 69) rfl)), List.forall_mem_cons.mpr ⟨hts _ (List.mem_append_right _ (List.mem_of_getElem? (i := 73) rfl)), List.forall_mem_cons.mpr ⟨hts _ (List.mem_append_right _ (List.mem_of_getElem? (i := 74) rfl)), List.forall_mem_cons.mpr ⟨hts _ (List.mem_append_right _ (List.mem_of_getElem? (i := 75) rfl)), List.forall_mem_cons.mpr ⟨hts _ (List.mem_append_right _ (List.mem_of_getElem? (i := 77) rfl)), List.forall_mem_cons.mpr ⟨hts _ (List.mem_append_right _ (List.mem_of_getElem? (i := 104) rfl)), List.forall_mem_cons.mpr ⟨hts _ (List.mem_append_right _ (List.mem_of_getElem? (i := 105) rfl)), List.forall_mem_cons.mpr ⟨hts _ (List.mem_append_right _ (List.mem_of_getElem? (i := 108) rfl)), List.forall_mem_cons.mpr ⟨hts _ (List.mem_append_right _ (List.mem_of_getElem? (i := 109) rfl)), List.forall_mem_cons.mpr ⟨hts _ (List.mem_append_right _ (List.mem_of_getElem? (i := 122) rfl)), List.forall_mem_cons.mpr ⟨hts _ (List.mem_append_right _ (List.mem_of_getElem? (i := 110) rfl)), List.forall_mem_cons.mpr ⟨hts _ (List.mem_append_right _ (List.mem_of_getElem? (i := 107) rfl)), List.forall_mem_cons.mpr ⟨hts _ (List.mem_append_right _ (List.mem_of_getElem? (i := 128) rfl)), List.forall_mem_cons.mpr ⟨hts _ (List.mem_append_right _ (List.mem_of_getElem? (i := 129) rfl)), List.forall_mem_cons.mpr ⟨hts _ (List.mem_append_right _ (List.mem_of_getElem? (i := 188) rfl)), List.forall_mem_cons.mpr ⟨hts _ (List.mem_append_right _ (List.mem_of_getElem? (i := 131) rfl)), List.forall_mem_cons.mpr ⟨hts _ (List.mem_append_right _ (List.mem_of_getElem? (i := 132) rfl)), List.forall_mem_cons.mpr ⟨hts _ (List.mem_append_right _ (List.mem_of_getElem? (i := 8) rfl)), List.forall_mem_cons.mpr ⟨hts _ (List.mem_append_right _ (List.mem_of_getElem? (i := 135) rfl)), List.forall_mem_cons.mpr ⟨hts _ (List.mem_append_right _ (List.mem_of_getElem? (i := 133) rfl)), List.forall_mem_cons.mpr ⟨hts _ (List.mem_append_right _ (List.mem_of_getElem? (i := 134) rfl)), List.forall_mem_cons.mpr ⟨hts _ (List.mem_append_right _ (List.mem_of_getElem? (i := 189) rfl)), List.forall_mem_cons.mpr ⟨hts _ (List.mem_append_right _ (List.mem_of_getElem? (i := 191) rfl)), List.forall_mem_cons.mpr ⟨hts _ (List.mem_append_right _ (List.mem_of_getElem? (i := 193) rfl)), List.forall_mem_cons.mpr ⟨hts _ (List.mem_append_right _ (List.mem_of_getElem? (i := 197) rfl)), List.forall_mem_cons.mpr ⟨hts _ (List.mem_append_right _ (List.mem_of_getElem? (i := 185) rfl)), List.forall_mem_cons.mpr ⟨hts _ (List.mem_append_right _ (List.mem_of_getElem? (i := 186) rfl)), List.forall_mem_cons.mpr ⟨hts _ (List.mem_append_right _ (List.mem_of_getElem? (i := 187) rfl)), List.forall_mem_cons.mpr ⟨hts _ (List.mem_append_right _ (List.mem_of_getElem? (i := 153) rfl)), List.forall_mem_cons.mpr ⟨hts _ (List.mem_append_right _ (List.mem_of_getElem? (i := 9) rfl)), List.forall_mem_cons.mpr ⟨hts _ (List.mem_append_right _ (List.mem_of_getElem? (i := 156) rfl)), List.forall_mem_cons.mpr ⟨hts _ (List.mem_append_right _ (List.mem_of_getElem? (i := 155) rfl)), List.forall_mem_cons.mpr ⟨hts _ (List.mem_append_right _ (List.mem_of_getElem? (i := 24) rfl)), List.forall_mem_cons.mpr ⟨hts _ (List.mem_append_right _ (List.mem_of_getElem? (i := 27) rfl)), List.forall_mem_cons.mpr ⟨hts _ (List.mem_append_right _ (List.mem_of_getElem? (i := 28) rfl)), List.forall_mem_cons.mpr ⟨hts _ (List.mem_append_right _ (List.mem_of_getElem? (i := 2) rfl)), List.forall_mem_cons.mpr ⟨hts _ (List.mem_append_right _ (List.mem_of_getElem? (i := 31) rfl)), List.forall_mem_cons.mpr ⟨hts _ (List.mem_append_right _ (List.mem_of_getElem? (i := 30) rfl)), List.forall_mem_cons.mpr ⟨hts _ (List.mem_append_right _ (List.mem_of_getElem? (i := 218) rfl)), List.forall_mem_cons.mpr ⟨hts _ (List.mem_append_right _ (List.mem_of_getElem? (i := 41) rfl)), List.forall_mem_cons.mpr ⟨hts _ (List.mem_append_right _ (List.mem_of_getElem? (i := 42) rfl)), List.forall_mem_cons.mpr ⟨hts _ (List.mem_append_right _ (List.mem_of_getElem? (i := 3) rfl)), List.forall_mem_cons.mpr ⟨hts _ (List.mem_append_right _ (List.mem_of_getElem? (i := 45) rfl)), List.forall_mem_cons.mpr ⟨hts _ (List.mem_append_right _ (List.mem_of_getElem? (i := 44) rfl)), List.forall_mem_cons.mpr ⟨hts _ (List.mem_append_right _ (List.mem_of_getElem? (i := 219) rfl)), List.forall_mem_cons.mpr ⟨hts _ (List.mem_append_right _ (List.mem_of_getElem? (i := 99) rfl)), List.forall_mem_cons.mpr ⟨hts _ (List.mem_append_right _ (List.mem_of_getElem? (i := 100) rfl)), List.forall_mem_cons.mpr ⟨hts _ (List.mem_append_right _ (List.mem_of_getElem? (i := 6) rfl)), List.forall_mem_cons.mpr ⟨hts _ (List.mem_append_right _ (List.mem_of_getElem? (i := 103) rfl)), List.forall_mem_cons.mpr ⟨hts _ (List.mem_append_right _ (List.mem_of_getElem? (i := 101) rfl)), List.forall_mem_cons.mpr ⟨hts _ (List.mem_append_right _ (List.mem_of_getElem? (i := 102) rfl)), List.forall_mem_cons.mpr ⟨hts _ (List.mem_append_right _ (List.mem_of_getElem? (i := 220) rfl)), List.forall_mem_cons.mpr ⟨hts _ (List.mem_append_right _ (List.mem_of_getElem? (i := 123) rfl)), List.forall_mem_cons.mpr ⟨hts _ (List.mem_append_right _ (List.mem_of_getElem? (i := 124) rfl)), List.forall_mem_cons.mpr ⟨hts _ (List.mem_append_right _ (List.mem_of_getElem? (i := 7) rfl)), fun _ h => absurd h List.not_mem_nil⟩⟩⟩⟩⟩⟩⟩⟩⟩⟩⟩⟩⟩⟩⟩⟩⟩⟩⟩⟩⟩⟩⟩⟩⟩⟩⟩⟩⟩⟩⟩⟩⟩⟩⟩⟩⟩⟩⟩⟩⟩⟩⟩⟩⟩⟩⟩⟩⟩⟩⟩⟩⟩⟩⟩⟩⟩⟩⟩⟩
  have h2 : ∀ w ∈ AW_2, w.before args s = true := by
    refine List.forall_mem_cons.mpr ⟨hts _ (List.mem_append_right _ (List.mem_of_getElem? (i := 127) rfl)), List.forall_mem_cons.mpr ⟨hts _ (List.mem_append_right _ (List.mem_of_getElem? (i := 125) rfl)), List.forall_mem_cons.mpr ⟨hts _ (List.mem_append_right _ (List.mem_of_getElem? (i := 126) rfl)), List.forall_mem_cons.mpr ⟨hts _ (List.mem_append_right _ (List.mem_of_getElem? (i := 221) rfl)), List.forall_mem_cons.mpr ⟨hts _ (List.mem_append_right _ (List.mem_of_getElem? (i := 34) rfl)), List.forall_mem_cons.mpr ⟨hts _ (List.mem_append_right _ (List.mem_of_getElem? (i := 238) rfl)), List.forall_mem_cons.mpr ⟨hts _ (List.mem_append_right _ (List.mem_of_getElem? (i := 235) rfl)), List.forall_mem_cons.mpr ⟨hts _ (List.mem_append_right _ (List.mem_of_getElem? (i := 236) rfl)), List.forall_mem_cons.mpr ⟨hts _ (List.mem_append_right _ (List.mem_of_getElem? (i := 237) rfl)), List.forall_mem_cons.mpr ⟨hts _ (List.mem_append_right _ (List.mem_of_getElem? (i := 71) rfl)), List.forall_mem_cons.mpr ⟨hts _ (List.mem_append_right _ (List.mem_of_getElem? (i := 296) rfl)), List.forall_mem_cons.mpr ⟨hts _ (List.mem_append_right _ (List.mem_of_getElem? (i := 293) rfl)), List.forall_mem_cons.mpr ⟨hts _ (List.mem_append_right _ (List.mem_of_getElem? (i := 294) rfl)), List.forall_mem_cons.mpr ⟨hts _ (List.mem_append_right _ (List.mem_of_getElem? (i := 295) rfl)), List.forall_mem_cons.mpr ⟨hts _ (List.mem_append_right _ (List.mem_of_getElem? (i := 61) rfl)), List.forall_mem_cons.mpr ⟨hts _ (List.mem_append_right _ (List.mem_of_getElem? (i := 78) rfl)), List.forall_mem_cons.mpr ⟨hts _ (List.mem_append_right _ (List.mem_of_getElem? (i := 79) rfl)), List.forall_mem_cons.mpr ⟨hts _ (List.mem_append_right _ (List.mem_of_getElem? (i := 292) rfl)), List.forall_mem_cons.mpr ⟨hts _ (List.mem_append_right _ (List.mem_of_getElem? (i := 479) rfl)), List.forall_mem_cons.mpr ⟨hts _ (List.mem_append_right _ (List.mem_of_getElem? (i := 290) rfl)), List.forall_mem_cons.mpr ⟨hts _ (List.mem_append_right _ (List.mem_of_getElem? (i := 291) rfl)), List.forall_mem_cons.mpr ⟨hts _ (List.mem_append_right _ (List.mem_of_getElem? (i := 144) rfl)), List.forall_mem_cons.mpr ⟨hts _ (List.mem_append_right _ (List.mem_of_getElem? (i := 195) rfl)), List.forall_mem_cons.mpr ⟨hts _ (List.mem_append_right _ (List.mem_of_getElem? (i := 529) rfl)), List.forall_mem_cons.mpr ⟨hts _ (List.mem_append_right _ (List.mem_of_getElem? (i := 526) rfl)), List.forall_mem_cons.mpr ⟨hts _ (List.mem_append_right _ (List.mem_of_getElem? (i := 527) rfl)), List.forall_mem_cons.mpr ⟨hts _ (List.mem_append_right _ (List.mem_of_getElem? (i := 528) rfl)), List.forall_mem_cons.mpr ⟨hts _ (List.mem_append_right _ (List.mem_of_getElem? (i := 533) rfl)), List.forall_mem_cons.mpr ⟨hts _ (List.mem_append_right _ (List.mem_of_getElem? (i := 530) rfl)), List.forall_mem_cons.mpr ⟨hts _ (List.mem_append_right _ (List.mem_of_getElem? (i := 531) rfl)), List.forall_mem_cons.mpr ⟨hts _ (List.mem_append_right _ (List.mem_of_getElem? (i := 532) rfl)), List.forall_mem_cons.mpr ⟨hts _ (List.mem_append_right _ (List.mem_of_getElem? (i := 546) rfl)), List.forall_mem_cons.mpr ⟨hts _ (List.mem_append_right _ (List.mem_of_getElem? (i := 543) rfl)), List.forall_mem_cons.mpr ⟨hts _ (List.mem_append_right _ (List.mem_of_getElem? (i := 544) rfl)), List.forall_mem_cons.mpr ⟨hts _ (List.mem_append_right _ (List.mem_of_getElem? (i := 545) rfl)), List.forall_mem_cons.mpr ⟨hts _ (List.mem_append_right _ (List.mem_of_getElem? (i := 478) rfl)), List.forall_mem_cons.mpr ⟨hts _ (List.mem_append_right _ (List.mem_of_getElem? (i := 557) rfl)), List.forall_mem_cons.mpr ⟨hts _ (List.mem_append_right _ (List.mem_of_getElem? (i := 476) rfl)), List.forall_mem_cons.mpr ⟨hts _ (List.mem_append_right _ (List.mem_of_getElem? (i := 477) rfl)), List.forall_mem_cons.mpr ⟨hts _ (List.mem_append_right _ (List.mem_of_getElem? (i := 198) rfl)), List.forall_mem_cons.mpr ⟨hts _ (List.mem_append_right _ (List.mem_of_getElem? (i := 243) rfl)), List.forall_mem_cons.mpr ⟨hts _ (List.mem_append_right _ (List.mem_of_getElem? (i := 244) rfl)), List.forall_mem_cons.mpr ⟨hts _ (List.mem_append_right _ (List.mem_of_getElem? (i := 18) rfl)), List.forall_mem_cons.mpr ⟨hts _ (List.mem_append_right _ (List.mem_of_getElem? (i := 245) rfl)), List.forall_mem_cons.mpr ⟨hts _ (List.mem_append_right _ (List.mem_of_getElem? (i := 76) rfl)), List.forall_mem_cons.mpr ⟨hts _ (List.mem_append_right _ (List.mem_of_getElem? (i := 72) rfl)), List.forall_mem_cons.mpr ⟨hts _ (List.mem_append_right _ (List.mem_of_getElem? (i := 655) rfl)), List.forall_mem_cons.mpr ⟨hts _ (List.mem_append_right _ (List.mem_of_getElem? (i := 652) rfl)), List.forall_mem_cons.mpr ⟨hts _ (List.mem_append_right _ (List.mem_of_getElem? (i := 653) rfl)), List.forall_mem_cons.mpr ⟨hts _ (List.mem_append_right _ (List.mem_of_getElem? (i := 654) rfl)), List.forall_mem_cons.mpr ⟨hts _ (List.mem_append_right _ (List.mem_of_getElem? (i := 659) rfl)), List.forall_mem_cons.mpr ⟨hts _ (List.mem_append_right _ (List.mem_of_getElem? (i := 656) rfl)), List.forall_mem_cons.mpr ⟨hts _ (List.mem_append_right _ (List.mem_of_getElem? (i := 657) rfl)), List.forall_mem_cons.mpr ⟨hts _ (List.mem_append_right _ (List.mem_of_getElem? (i := 658) rfl)), List.forall_mem_cons.mpr ⟨hts _ (List.mem_append_right _ (List.mem_of_getElem? (i := 196) rfl)), List.forall_mem_cons.mpr ⟨hts _ (List.mem_append_right _ (List.mem_of_getElem? (i := 112) rfl)), List.forall_mem_cons.mpr ⟨hts _ (List.mem_append_right _ (List.mem_of_getElem? (i := 732) rfl)), List.forall_mem_cons.mpr ⟨hts _ (List.mem_append_right _ (List.mem_of_getElem? (i := 729) rfl)), List.forall_mem_cons.mpr ⟨hts _ (List.mem_append_right _ (List.mem_of_getElem? (i := 730) rfl)), List.forall_mem_cons.mpr ⟨hts _ (List.mem_append_right _ (List.mem_of_getElem? (i := 731) rfl)), fun _ h => absurd h List.not_mem_nil⟩⟩⟩⟩⟩⟩⟩⟩⟩⟩⟩⟩⟩⟩⟩⟩⟩⟩⟩⟩⟩⟩⟩⟩⟩⟩⟩⟩⟩⟩⟩⟩⟩⟩⟩⟩⟩⟩⟩⟩⟩⟩⟩⟩⟩⟩⟩⟩⟩⟩⟩⟩⟩⟩⟩⟩⟩⟩⟩⟩
  have h3 : ∀ w ∈ AW_3, w.before args s = true := by
    refine List.forall_mem_cons.mpr ⟨hts _ (List.mem_append_right _ (List.mem_of_getElem? (i := 192) rfl)), List.forall_mem_cons.mpr ⟨hts _ (List.mem_append_right _ (List.mem_of_getElem? (i := 145) rfl)), List.forall_mem_cons.mpr ⟨hts _ (List.mem_append_right _ (List.mem_of_getElem? (i := 567) rfl)), List.forall_mem_cons.mpr ⟨hts _ (List.mem_append_right _ (List.mem_of_getElem? (i := 568) rfl)), List.forall_mem_cons.mpr ⟨hts _ (List.mem_append_right _ (List.mem_of_getElem? (i := 14) rfl)), List.forall_mem_cons.mpr ⟨hts _ (List.mem_append_right _ (List.mem_of_getElem? (i := 672) rfl)), List.forall_mem_cons.mpr ⟨hts _ (List.mem_append_right _ (List.mem_of_getElem? (i := 673) rfl)), List.forall_mem_cons.mpr ⟨hts _ (List.mem_append_right _ (List.mem_of_getElem? (i := 16) rfl)), List.forall_mem_cons.mpr ⟨hts _ (List.mem_append_right _ (List.mem_of_getElem? (i := 190) rfl)), List.forall_mem_cons.mpr ⟨hts _ (List.mem_append_right _ (List.mem_of_getElem? (i := 718) rfl)), List.forall_mem_cons.mpr ⟨hts _ (List.mem_append_right _ (List.mem_of_getElem? (i := 716) rfl)), List.forall_mem_cons.mpr ⟨hts _ (List.mem_append_right _ (List.mem_of_getElem? (i := 717) rfl)), List.forall_mem_cons.mpr ⟨hts _ (List.mem_append_right _ (List.mem_of_getElem? (i := 1) rfl)), List.forall_mem_cons.mpr ⟨hts _ (List.mem_append_right _ (List.mem_of_getElem? (i := 194) rfl)), List.forall_mem_cons.mpr ⟨hts _ (List.mem_append_right _ (List.mem_of_getElem? (i := 754) rfl)), List.forall_mem_cons.mpr ⟨hts _ (List.mem_append_right _ (List.mem_of_getElem? (i := 763) rfl)), List.forall_mem_cons.mpr ⟨hts _ (List.mem_append_right _ (List.mem_of_getElem? (i := 764) rfl)), List.forall_mem_cons.mpr ⟨hts _ (List.mem_append_right _ (List.mem_of_getElem? (i := 765) rfl)), List.forall_mem_cons.mpr ⟨hts _ (List.mem_append_right _ (List.mem_of_getElem? (i := 766) rfl)), List.forall_mem_cons.mpr ⟨hts _ (List.mem_append_right _ (List.mem_of_getElem? (i := 768) rfl)), List.forall_mem_cons.mpr ⟨hts _ (List.mem_append_right _ (List.mem_of_getElem? (i := 769) rfl)), List.forall_mem_cons.mpr ⟨hts _ (List.mem_append_right _ (List.mem_of_getElem? (i := 771) rfl)), List.forall_mem_cons.mpr ⟨hts _ (List.mem_append_right _ (List.mem_of_getElem? (i := 772) rfl)), List.forall_mem_cons.mpr ⟨hts _ (List.mem_append_right _ (List.mem_of_getElem? (i := 773) rfl)), List.forall_mem_cons.mpr ⟨hts _ (List.mem_append_right _ (List.mem_of_getElem? (i := 774) rfl)), List.forall_mem_cons.mpr ⟨hts _ (List.mem_append_right _ (List.mem_of_getElem? (i := 775) rfl)), List.forall_mem_cons.mpr ⟨hts _ (List.mem_append_right _ (List.mem_of_getElem? (i := 776) rfl)), List.forall_mem_cons.mpr ⟨hts _ (List.mem_append_right _ (List.mem_of_getElem? (i := 777) rfl)), List.forall_mem_cons.mpr ⟨hts _ (List.mem_append_right _ (List.mem_of_getElem? (i := 778) rfl)), List.forall_mem_cons.mpr ⟨hts _ (List.mem_append_right _ (List.mem_of_getElem? (i := 779) rfl)), List.forall_mem_cons.mpr ⟨hts _ (List.mem_append_right _ (List.mem_of_getElem? (i := 781) rfl)), List.forall_mem_cons.mpr ⟨hts _ (List.mem_append_right _ (List.mem_of_getElem? (i := 782) rfl)), List.forall_mem_cons.mpr ⟨hts _ (List.mem_append_right _ (List.mem_of_getElem? (i := 566) rfl)), List.forall_mem_cons.mpr ⟨hts _ (List.mem_append_right _ (List.mem_of_getElem? (i := 563) rfl)), List.forall_mem_cons.mpr ⟨hts _ (List.mem_append_right _ (List.mem_of_getElem? (i := 564) rfl)), List.forall_mem_cons.mpr ⟨hts _ (List.mem_append_right _ (List.mem_of_getElem? (i := 565) rfl)), List.forall_mem_cons.mpr ⟨hts _ (List.mem_append_right _ (List.mem_of_getElem? (i := 561) rfl)), List.forall_mem_cons.mpr ⟨hts _ (List.mem_append_right _ (List.mem_of_getElem? (i := 671) rfl)), List.forall_mem_cons.mpr ⟨hts _ (List.mem_append_right _ (List.mem_of_getElem? (i := 668) rfl)), List.forall_mem_cons.mpr ⟨hts _ (List.mem_append_right _ (List.mem_of_getElem? (i := 669) rfl)), List.forall_mem_cons.mpr ⟨hts _ (List.mem_append_right _ (List.mem_of_getElem? (i := 670) rfl)), List.forall_mem_cons.mpr ⟨hts _ (List.mem_append_right _ (List.mem_of_getElem? (i := 667) rfl)), List.forall_mem_cons.mpr ⟨hts _ (List.mem_append_right _ (List.mem_of_getElem? (i := 699) rfl)), List.forall_mem_cons.mpr ⟨hts _ (List.mem_append_right _ (List.mem_of_getElem? (i := 696) rfl)), List.forall_mem_cons.mpr ⟨hts _ (List.mem_append_right _ (List.mem_of_getElem? (i := 697) rfl)), List.forall_mem_cons.mpr ⟨hts _ (List.mem_append_right _ (List.mem_of_getElem? (i := 698) rfl)), List.forall_mem_cons.mpr ⟨hts _ (List.mem_append_right _ (List.mem_of_getElem? (i := 715) rfl)), List.forall_mem_cons.mpr ⟨hts _ (List.mem_append_right _ (List.mem_of_getElem? (i := 712) rfl)), List.forall_mem_cons.mpr ⟨hts _ (List.mem_append_right _ (List.mem_of_getElem? (i := 713) rfl)), List.forall_mem_cons.mpr ⟨hts _ (List.mem_append_right _ (List.mem_of_getElem? (i := 714) rfl)), List.forall_mem_cons.mpr ⟨hts _ (List.mem_append_right _ (List.mem_of_getElem? (i := 740) rfl)), List.forall_mem_cons.mpr ⟨hts _ (List.mem_append_right _ (List.mem_of_getElem? (i := 737) rfl)), List.forall_mem_cons.mpr ⟨hts _ (List.mem_append_right _ (List.mem_of_getElem? (i := 738) rfl)), List.forall_mem_cons.mpr ⟨hts _ (List.mem_append_right _ (List.mem_of_getElem? (i := 739) rfl)), List.forall_mem_cons.mpr ⟨hts _ (List.mem_append_right _ (List.mem_of_getElem? (i := 747) rfl)), List.forall_mem_cons.mpr ⟨hts _ (List.mem_append_right _ (List.mem_of_getElem? (i := 744) rfl)), List.forall_mem_cons.mpr ⟨hts _ (List.mem_append_right _ (List.mem_of_getElem? (i := 745) rfl)), List.forall_mem_cons.mpr ⟨hts _ (List.mem_append_right _ (List.mem_of_getElem? (i := 746) rfl)), List.forall_mem_cons.mpr ⟨hts _ (List.mem_append_right _ (List.mem_of_getElem? (i := 726) rfl)), List.forall_mem_cons.mpr ⟨hts _ (List.mem_append_right _ (List.mem_of_getElem? (i := 723) rfl)), fun _ h => absurd h List.not_mem_nil⟩⟩⟩⟩⟩⟩⟩⟩⟩⟩⟩⟩⟩⟩⟩⟩⟩⟩⟩⟩⟩⟩⟩⟩⟩⟩⟩⟩⟩⟩⟩⟩⟩⟩⟩⟩⟩⟩⟩⟩⟩⟩⟩⟩⟩⟩⟩⟩⟩⟩⟩⟩⟩⟩⟩⟩⟩⟩⟩⟩
  have h4 : ∀ w ∈ AW_4, w.before args s = true := by
    refine List.forall_mem_cons.mpr ⟨hts _ (List.mem_append_right _ (List.mem_of_getElem? (i := 724) rfl)), List.forall_mem_cons.mpr ⟨hts _ (List.mem_append_right _ (List.mem_of_getElem? (i := 725) rfl)), List.forall_mem_cons.mpr ⟨hts _ (List.mem_append_right _ (List.mem_of_getElem? (i := 168) rfl)), List.forall_mem_cons.mpr ⟨hts _ (List.mem_append_right _ (List.mem_of_getElem? (i := 170) rfl)), List.forall_mem_cons.mpr ⟨hts _ (List.mem_append_right _ (List.mem_of_getElem? (i := 172) rfl)), List.forall_mem_cons.mpr ⟨hts _ (List.mem_append_right _ (List.mem_of_getElem? (i := 174) rfl)), List.forall_mem_cons.mpr ⟨hts _ (List.mem_append_right _ (List.mem_of_getElem? (i := 176) rfl)), List.forall_mem_cons.mpr ⟨hts _ (List.mem_append_right _ (List.mem_of_getElem? (i := 178) rfl)), List.forall_mem_cons.mpr ⟨hts _ (List.mem_append_right _ (List.mem_of_getElem? (i := 180) rfl)), List.forall_mem_cons.mpr ⟨hts _ (List.mem_append_right _ (List.mem_of_getElem? (i := 182) rfl)), List.forall_mem_cons.mpr ⟨hts _ (List.mem_append_right _ (List.mem_of_getElem? (i := 113) rfl)), List.forall_mem_cons.mpr ⟨hts _ (List.mem_append_right _ (List.mem_of_getElem? (i := 115) rfl)), List.forall_mem_cons.mpr ⟨hts _ (List.mem_append_right _ (List.mem_of_getElem? (i := 117) rfl)), List.forall_mem_cons.mpr ⟨hts _ (List.mem_append_right _ (List.mem_of_getElem? (i := 119) rfl)), List.forall_mem_cons.mpr ⟨hts _ (List.mem_append_right _ (List.mem_of_getElem? (i := 35) rfl)), List.forall_mem_cons.mpr ⟨hts _ (List.mem_append_right _ (List.mem_of_getElem? (i := 37) rfl)), List.forall_mem_cons.mpr ⟨hts _ (List.mem_append_right _ (List.mem_of_getElem? (i := 62) rfl)), List.forall_mem_cons.mpr ⟨hts _ (List.mem_append_right _ (List.mem_of_getElem? (i := 64) rfl)), List.forall_mem_cons.mpr ⟨hts _ (List.mem_append_right _ (List.mem_of_getElem? (i := 66) rfl)), List.forall_mem_cons.mpr ⟨hts _ (List.mem_append_right _ (List.mem_of_getElem? (i := 199) rfl)), List.forall_mem_cons.mpr ⟨hts _ (List.mem_append_right _ (List.mem_of_getElem? (i := 201) rfl)), List.forall_mem_cons.mpr ⟨hts _ (List.mem_append_right _ (List.mem_of_getElem? (i := 203) rfl)), List.forall_mem_cons.mpr ⟨hts _ (List.mem_append_right _ (List.mem_of_getElem? (i := 205) rfl)), List.forall_mem_cons.mpr ⟨hts _ (List.mem_append_right _ (List.mem_of_getElem? (i := 207) rfl)), List.forall_mem_cons.mpr ⟨hts _ (List.mem_append_right _ (List.mem_of_getElem? (i := 209) rfl)), List.forall_mem_cons.mpr ⟨hts _ (List.mem_append_right _ (List.mem_of_getElem? (i := 211) rfl)), List.forall_mem_cons.mpr ⟨hts _ (List.mem_append_right _ (List.mem_of_getElem? (i := 213) rfl)), List.forall_mem_cons.mpr ⟨hts _ (List.mem_append_right _ (List.mem_of_getElem? (i := 215) rfl)), List.forall_mem_cons.mpr ⟨hts _ (List.mem_append_right _ (List.mem_of_getElem? (i := 146) rfl)), List.forall_mem_cons.mpr ⟨hts _ (List.mem_append_right _ (List.mem_of_getElem? (i := 148) rfl)), List.forall_mem_cons.mpr ⟨hts _ (List.mem_append_right _ (List.mem_of_getElem? (i := 150) rfl)), List.forall_mem_cons.mpr ⟨hts _ (List.mem_append_right _ (List.mem_of_getElem? (i := 80) rfl)), List.forall_mem_cons.mpr ⟨hts _ (List.mem_append_right _ (List.mem_of_getElem? (i := 82) rfl)), List.forall_mem_cons.mpr ⟨hts _ (List.mem_append_right _ (List.mem_of_getElem? (i := 84) rfl)), List.forall_mem_cons.mpr ⟨hts _ (List.mem_append_right _ (List.mem_of_getElem? (i := 86) rfl)), List.forall_mem_cons.mpr ⟨hts _ (List.mem_append_right _ (List.mem_of_getElem? (i := 88) rfl)), List.forall_mem_cons.mpr ⟨hts _ (List.mem_append_right _ (List.mem_of_getElem? (i := 90) rfl)), List.forall_mem_cons.mpr ⟨hts _ (List.mem_append_right _ (List.mem_of_getElem? (i := 92) rfl)), List.forall_mem_cons.mpr ⟨hts _ (List.mem_append_right _ (List.mem_of_getElem? (i := 94) rfl)), List.forall_mem_cons.mpr ⟨hts _ (List.mem_append_right _ (List.mem_of_getElem? (i := 96) rfl)), List.forall_mem_cons.mpr ⟨hts _ (List.mem_append_right _ (List.mem_of_getElem? (i := 222) rfl)), List.forall_mem_cons.mpr ⟨hts _ (List.mem_append_right _ (List.mem_of_getElem? (i := 224) rfl)), List.forall_mem_cons.mpr ⟨hts _ (List.mem_append_right _ (List.mem_of_getElem? (i := 226) rfl)), List.forall_mem_cons.mpr ⟨hts _ (List.mem_append_right _ (List.mem_of_getElem? (i := 228) rfl)), List.forall_mem_cons.mpr ⟨hts _ (List.mem_append_right _ (List.mem_of_getElem? (i := 786) rfl)), List.forall_mem_cons.mpr ⟨hts _ (List.mem_append_right _ (List.mem_of_getElem? (i := 788) rfl)), List.forall_mem_cons.mpr ⟨hts _ (List.mem_append_right _ (List.mem_of_getElem? (i := 790) rfl)), List.forall_mem_cons.mpr ⟨hts _ (List.mem_append_right _ (List.mem_of_getElem? (i := 792) rfl)), List.forall_mem_cons.mpr ⟨hts _ (List.mem_append_right _ (List.mem_of_getElem? (i := 794) rfl)), List.forall_mem_cons.mpr ⟨hts _ (List.mem_append_right _ (List.mem_of_getElem? (i := 796) rfl)), List.forall_mem_cons.mpr ⟨hts _ (List.mem_append_right _ (List.mem_of_getElem? (i := 798) rfl)), List.forall_mem_cons.mpr ⟨hts _ (List.mem_append_right _ (List.mem_of_getElem? (i := 800) rfl)), List.forall_mem_cons.mpr ⟨hts _ (List.mem_append_right _ (List.mem_of_getElem? (i := 802) rfl)), List.forall_mem_cons.mpr ⟨hts _ (List.mem_append_right _ (List.mem_of_getElem? (i := 804) rfl)), List.forall_mem_cons.mpr ⟨hts _ (List.mem_append_right _ (List.mem_of_getElem? (i := 806) rfl)), List.forall_mem_cons.mpr ⟨hts _ (List.mem_append_right _ (List.mem_of_getElem? (i := 808) rfl)), List.forall_mem_cons.mpr ⟨hts _ (List.mem_append_right _ (List.mem_of_getElem? (i := 810) rfl)), List.forall_mem_cons.mpr ⟨hts _ (List.mem_append_right _ (List.mem_of_getElem? (i := 812) rfl)), List.forall_mem_cons.mpr ⟨hts _ (List.mem_append_right _ (List.mem_of_getElem? (i := 814) rfl)), List.forall_mem_cons.mpr ⟨hts _ (List.mem_append_right _ (List.mem_of_getElem? (i := 816) rfl)), fun _ h => absurd h List.not_mem_nil⟩⟩⟩⟩⟩⟩⟩⟩⟩⟩⟩⟩⟩⟩⟩⟩⟩⟩⟩⟩⟩⟩⟩⟩⟩⟩⟩⟩⟩⟩⟩⟩⟩⟩⟩⟩⟩⟩⟩⟩⟩⟩⟩⟩⟩⟩⟩⟩⟩⟩⟩⟩⟩⟩⟩⟩⟩⟩⟩⟩
  have h5 : ∀ w ∈ AW_5, w.before args s = true := by
    refine List.forall_mem_cons.mpr ⟨hts _ (List.mem_append_right _ (List.mem_of_getElem? (i := 818) rfl)), List.forall_mem_cons.mpr ⟨hts _ (List.mem_append_right _ (List.mem_of_getElem? (i := 820) rfl)), List.forall_mem_cons.mpr ⟨hts _ (List.mem_append_right _ (List.mem_of_getElem? (i := 822) rfl)), List.forall_mem_cons.mpr ⟨hts _ (List.mem_append_right _ (List.mem_of_getElem? (i := 824) rfl)), List.forall_mem_cons.mpr ⟨hts _ (List.mem_append_right _ (List.mem_of_getElem? (i := 826) rfl)), List.forall_mem_cons.mpr ⟨hts _ (List.mem_append_right _ (List.mem_of_getElem? (i := 828) rfl)), List.forall_mem_cons.mpr ⟨hts _ (List.mem_append_right _ (List.mem_of_getElem? (i := 830) rfl)), List.forall_mem_cons.mpr ⟨hts _ (List.mem_append_right _ (List.mem_of_getElem? (i := 832) rfl)), List.forall_mem_cons.mpr ⟨hts _ (List.mem_append_right _ (List.mem_of_getElem? (i := 834) rfl)), List.forall_mem_cons.mpr ⟨hts _ (List.mem_append_right _ (List.mem_of_getElem? (i := 836) rfl)), List.forall_mem_cons.mpr ⟨hts _ (List.mem_append_right _ (List.mem_of_getElem? (i := 838) rfl)), List.forall_mem_cons.mpr ⟨hts _ (List.mem_append_right _ (List.mem_of_getElem? (i := 840) rfl)), List.forall_mem_cons.mpr ⟨hts _ (List.mem_append_right _ (List.mem_of_getElem? (i := 842) rfl)), List.forall_mem_cons.mpr ⟨hts _ (List.mem_append_right _ (List.mem_of_getElem? (i := 844) rfl)), List.forall_mem_cons.mpr ⟨hts _ (List.mem_append_right _ (List.mem_of_getElem? (i := 846) rfl)), List.forall_mem_cons.mpr ⟨hts _ (List.mem_append_right _ (List.mem_of_getElem? (i := 234) rfl)), List.forall_mem_cons.mpr ⟨hts _ (List.mem_append_right _ (List.mem_of_getElem? (i := 231) rfl)), List.forall_mem_cons.mpr ⟨hts _ (List.mem_append_right _ (List.mem_of_getElem? (i := 232) rfl)), List.forall_mem_cons.mpr ⟨hts _ (List.mem_append_right _ (List.mem_of_getElem? (i := 233) rfl)), List.forall_mem_cons.mpr ⟨hts _ (List.mem_append_right _ (List.mem_of_getElem? (i := 856) rfl)), List.forall_mem_cons.mpr ⟨hts _ (List.mem_append_right _ (List.mem_of_getElem? (i := 853) rfl)), List.forall_mem_cons.mpr ⟨hts _ (List.mem_append_right _ (List.mem_of_getElem? (i := 854) rfl)), List.forall_mem_cons.mpr ⟨hts _ (List.mem_append_right _ (List.mem_of_getElem? (i := 855) rfl)), List.forall_mem_cons.mpr ⟨hts _ (List.mem_append_right _ (List.mem_of_getElem? (i := 560) rfl)), List.forall_mem_cons.mpr ⟨hts _ (List.mem_append_right _ (List.mem_of_getElem? (i := 558) rfl)), List.forall_mem_cons.mpr ⟨hts _ (List.mem_append_right _ (List.mem_of_getElem? (i := 559) rfl)), List.forall_mem_cons.mpr ⟨hts _ (List.mem_append_right _ (List.mem_of_getElem? (i := 0) rfl)), List.forall_mem_cons.mpr ⟨hts _ (List.mem_append_right _ (List.mem_of_getElem? (i := 863) rfl)), List.forall_mem_cons.mpr ⟨hts _ (List.mem_append_right _ (List.mem_of_getElem? (i := 860) rfl)), List.forall_mem_cons.mpr ⟨hts _ (List.mem_append_right _ (List.mem_of_getElem? (i := 861) rfl)), List.forall_mem_cons.mpr ⟨hts _ (List.mem_append_right _ (List.mem_of_getElem? (i := 862) rfl)), List.forall_mem_cons.mpr ⟨hts _ (List.mem_append_right _ (List.mem_of_getElem? (i := 852) rfl)), List.forall_mem_cons.mpr ⟨hts _ (List.mem_append_right _ (List.mem_of_getElem? (i := 849) rfl)), List.forall_mem_cons.mpr ⟨hts _ (List.mem_append_right _ (List.mem_of_getElem? (i := 850) rfl)), List.forall_mem_cons.mpr ⟨hts _ (List.mem_append_right _ (List.mem_of_getElem? (i := 851) rfl)), List.forall_mem_cons.mpr ⟨hts _ (List.mem_append_right _ (List.mem_of_getElem? (i := 666) rfl)), List.forall_mem_cons.mpr ⟨hts _ (List.mem_append_right _ (List.mem_of_getElem? (i := 664) rfl)), List.forall_mem_cons.mpr ⟨hts _ (List.mem_append_right _ (List.mem_of_getElem? (i := 665) rfl)), List.forall_mem_cons.mpr ⟨hts _ (List.mem_append_right _ (List.mem_of_getElem? (i := 883) rfl)), List.forall_mem_cons.mpr ⟨hts _ (List.mem_append_right _ (List.mem_of_getElem? (i := 880) rfl)), List.forall_mem_cons.mpr ⟨hts _ (List.mem_append_right _ (List.mem_of_getElem? (i := 881) rfl)), List.forall_mem_cons.mpr ⟨hts _ (List.mem_append_right _ (List.mem_of_getElem? (i := 882) rfl)), List.forall_mem_cons.mpr ⟨hts _ (List.mem_append_right _ (List.mem_of_getElem? (i := 695) rfl)), List.forall_mem_cons.mpr ⟨hts _ (List.mem_append_right _ (List.mem_of_getElem? (i := 693) rfl)), List.forall_mem_cons.mpr ⟨hts _ (List.mem_append_right _ (List.mem_of_getElem? (i := 694) rfl)), List.forall_mem_cons.mpr ⟨hts _ (List.mem_append_right _ (List.mem_of_getElem? (i := 891) rfl)), List.forall_mem_cons.mpr ⟨hts _ (List.mem_append_right _ (List.mem_of_getElem? (i := 888) rfl)), List.forall_mem_cons.mpr ⟨hts _ (List.mem_append_right _ (List.mem_of_getElem? (i := 889) rfl)), List.forall_mem_cons.mpr ⟨hts _ (List.mem_append_right _ (List.mem_of_getElem? (i := 890) rfl)), List.forall_mem_cons.mpr ⟨hts _ (List.mem_append_right _ (List.mem_of_getElem? (i := 242) rfl)), List.forall_mem_cons.mpr ⟨hts _ (List.mem_append_right _ (List.mem_of_getElem? (i := 239) rfl)), List.forall_mem_cons.mpr ⟨hts _ (List.mem_append_right _ (List.mem_of_getElem? (i := 240) rfl)), List.forall_mem_cons.mpr ⟨hts _ (List.mem_append_right _ (List.mem_of_getElem? (i := 241) rfl)), List.forall_mem_cons.mpr ⟨hts _ (List.mem_append_right _ (List.mem_of_getElem? (i := 931) rfl)), List.forall_mem_cons.mpr ⟨hts _ (List.mem_append_right _ (List.mem_of_getElem? (i := 928) rfl)), List.forall_mem_cons.mpr ⟨hts _ (List.mem_append_right _ (List.mem_of_getElem? (i := 929) rfl)), List.forall_mem_cons.mpr ⟨hts _ (List.mem_append_right _ (List.mem_of_getElem? (i := 930) rfl)), List.forall_mem_cons.mpr ⟨hts _ (List.mem_append_right _ (List.mem_of_getElem? (i := 521) rfl)), List.forall_mem_cons.mpr ⟨hts _ (List.mem_append_right _ (List.mem_of_getElem? (i := 518) rfl)), List.forall_mem_cons.mpr ⟨hts _ (List.mem_append_right _ (List.mem_of_getElem? (i := 519) rfl)), fun _ h => absurd h List.not_mem_nil⟩⟩⟩⟩⟩⟩⟩⟩⟩⟩⟩⟩⟩⟩⟩⟩⟩⟩⟩⟩⟩⟩⟩⟩⟩⟩⟩⟩⟩⟩⟩⟩⟩⟩⟩⟩⟩⟩⟩⟩⟩⟩⟩⟩⟩⟩⟩⟩⟩⟩⟩⟩⟩⟩⟩⟩⟩⟩⟩⟩
  have h6 : ∀ w ∈ AW_6, w.before args s = true := by
    refine List.forall_mem_cons.mpr ⟨hts _ (List.mem_append_right _ (List.mem_of_getElem? (i := 520) rfl)), List.forall_mem_cons.mpr ⟨hts _ (List.mem_append_right _ (List.mem_of_getElem? (i := 1026) rfl)), List.forall_mem_cons.mpr ⟨hts _ (List.mem_append_right _ (List.mem_of_getElem? (i := 1023) rfl)), List.forall_mem_cons.mpr ⟨hts _ (List.mem_append_right _ (List.mem_of_getElem? (i := 1024) rfl)), List.forall_mem_cons.mpr ⟨hts _ (List.mem_append_right _ (List.mem_of_getElem? (i := 1025) rfl)), List.forall_mem_cons.mpr ⟨hts _ (List.mem_append_right _ (List.mem_of_getElem? (i := 525) rfl)), List.forall_mem_cons.mpr ⟨hts _ (List.mem_append_right _ (List.mem_of_getElem? (i := 522) rfl)), List.forall_mem_cons.mpr ⟨hts _ (List.mem_append_right _ (List.mem_of_getElem? (i := 523) rfl)), List.forall_mem_cons.mpr ⟨hts _ (List.mem_append_right _ (List.mem_of_getElem? (i := 524) rfl)), List.forall_mem_cons.mpr ⟨hts _ (List.mem_append_right _ (List.mem_of_getElem? (i := 1030) rfl)), List.forall_mem_cons.mpr ⟨hts _ (List.mem_append_right _ (List.mem_of_getElem? (i := 1027) rfl)), List.forall_mem_cons.mpr ⟨hts _ (List.mem_append_right _ (List.mem_of_getElem? (i := 1028) rfl)), List.forall_mem_cons.mpr ⟨hts _ (List.mem_append_right _ (List.mem_of_getElem? (i := 1029) rfl)), List.forall_mem_cons.mpr ⟨hts _ (List.mem_append_right _ (List.mem_of_getElem? (i := 711) rfl)), List.forall_mem_cons.mpr ⟨hts _ (List.mem_append_right _ (List.mem_of_getElem? (i := 709) rfl)), List.forall_mem_cons.mpr ⟨hts _ (List.mem_append_right _ (List.mem_of_getElem? (i := 710) rfl)), List.forall_mem_cons.mpr ⟨hts _ (List.mem_append_right _ (List.mem_of_getElem? (i := 1042) rfl)), List.forall_mem_cons.mpr ⟨hts _ (List.mem_append_right _ (List.mem_of_getElem? (i := 1039) rfl)), List.forall_mem_cons.mpr ⟨hts _ (List.mem_append_right _ (List.mem_of_getElem? (i := 1040) rfl)), List.forall_mem_cons.mpr ⟨hts _ (List.mem_append_right _ (List.mem_of_getElem? (i := 1041) rfl)), List.forall_mem_cons.mpr ⟨hts _ (List.mem_append_right _ (List.mem_of_getElem? (i := 722) rfl)), List.forall_mem_cons.mpr ⟨hts _ (List.mem_append_right _ (List.mem_of_getElem? (i := 720) rfl)), List.forall_mem_cons.mpr ⟨hts _ (List.mem_append_right _ (List.mem_of_getElem? (i := 721) rfl)), List.forall_mem_cons.mpr ⟨hts _ (List.mem_append_right _ (List.mem_of_getElem? (i := 1050) rfl)), List.forall_mem_cons.mpr ⟨hts _ (List.mem_append_right _ (List.mem_of_getElem? (i := 1047) rfl)), List.forall_mem_cons.mpr ⟨hts _ (List.mem_append_right _ (List.mem_of_getElem? (i := 1048) rfl)), List.forall_mem_cons.mpr ⟨hts _ (List.mem_append_right _ (List.mem_of_getElem? (i := 1049) rfl)), List.forall_mem_cons.mpr ⟨hts _ (List.mem_append_right _ (List.mem_of_getElem? (i := 736) rfl)), List.forall_mem_cons.mpr ⟨hts _ (List.mem_append_right _ (List.mem_of_getElem? (i := 734) rfl)), List.forall_mem_cons.mpr ⟨hts _ (List.mem_append_right _ (List.mem_of_getElem? (i := 735) rfl)), List.forall_mem_cons.mpr ⟨hts _ (List.mem_append_right _ (List.mem_of_getElem? (i := 1054) rfl)), List.forall_mem_cons.mpr ⟨hts _ (List.mem_append_right _ (List.mem_of_getElem? (i := 1051) rfl)), List.forall_mem_cons.mpr ⟨hts _ (List.mem_append_right _ (List.mem_of_getElem? (i := 1052) rfl)), List.forall_mem_cons.mpr ⟨hts _ (List.mem_append_right _ (List.mem_of_getElem? (i := 1053) rfl)), List.forall_mem_cons.mpr ⟨hts _ (List.mem_append_right _ (List.mem_of_getElem? (i := 743) rfl)), List.forall_mem_cons.mpr ⟨hts _ (List.mem_append_right _ (List.mem_of_getElem? (i := 741) rfl)), List.forall_mem_cons.mpr ⟨hts _ (List.mem_append_right _ (List.mem_of_getElem? (i := 742) rfl)), List.forall_mem_cons.mpr ⟨hts _ (List.mem_append_right _ (List.mem_of_getElem? (i := 1058) rfl)), List.forall_mem_cons.mpr ⟨hts _ (List.mem_append_right _ (List.mem_of_getElem? (i := 1055) rfl)), List.forall_mem_cons.mpr ⟨hts _ (List.mem_append_right _ (List.mem_of_getElem? (i := 1056) rfl)), List.forall_mem_cons.mpr ⟨hts _ (List.mem_append_right _ (List.mem_of_getElem? (i := 1057) rfl)), List.forall_mem_cons.mpr ⟨hts _ (List.mem_append_right _ (List.mem_of_getElem? (i := 556) rfl)), List.forall_mem_cons.mpr ⟨hts _ (List.mem_append_right _ (List.mem_of_getElem? (i := 553) rfl)), List.forall_mem_cons.mpr ⟨hts _ (List.mem_append_right _ (List.mem_of_getElem? (i := 554) rfl)), List.forall_mem_cons.mpr ⟨hts _ (List.mem_append_right _ (List.mem_of_getElem? (i := 555) rfl)), List.forall_mem_cons.mpr ⟨hts _ (List.mem_append_right _ (List.mem_of_getElem? (i := 1062) rfl)), List.forall_mem_cons.mpr ⟨hts _ (List.mem_append_right _ (List.mem_of_getElem? (i := 1059) rfl)), List.forall_mem_cons.mpr ⟨hts _ (List.mem_append_right _ (List.mem_of_getElem? (i := 1060) rfl)), List.forall_mem_cons.mpr ⟨hts _ (List.mem_append_right _ (List.mem_of_getElem? (i := 1061) rfl)), List.forall_mem_cons.mpr ⟨hts _ (List.mem_append_right _ (List.mem_of_getElem? (i := 19) rfl)), List.forall_mem_cons.mpr ⟨hts _ (List.mem_append_right _ (List.mem_of_getElem? (i := 20) rfl)), List.forall_mem_cons.mpr ⟨hts _ (List.mem_append_right _ (List.mem_of_getElem? (i := 23) rfl)), List.forall_mem_cons.mpr ⟨hts _ (List.mem_append_right _ (List.mem_of_getElem? (i := 21) rfl)), List.forall_mem_cons.mpr ⟨hts _ (List.mem_append_right _ (List.mem_of_getElem? (i := 22) rfl)), List.forall_mem_cons.mpr ⟨hts _ (List.mem_append_right _ (List.mem_of_getElem? (i := 749) rfl)), List.forall_mem_cons.mpr ⟨hts _ (List.mem_append_right _ (List.mem_of_getElem? (i := 750) rfl)), List.forall_mem_cons.mpr ⟨hts _ (List.mem_append_right _ (List.mem_of_getElem? (i := 753) rfl)), List.forall_mem_cons.mpr ⟨hts _ (List.mem_append_right _ (List.mem_of_getElem? (i := 751) rfl)), List.forall_mem_cons.mpr ⟨hts _ (List.mem_append_right _ (List.mem_of_getElem? (i := 752) rfl)), List.forall_mem_cons.mpr ⟨hts _ (List.mem_append_right _ (List.mem_of_getElem? (i := 1063) rfl)), fun _ h => absurd h List.not_mem_nil⟩⟩⟩⟩⟩⟩⟩⟩⟩⟩⟩⟩⟩⟩⟩⟩⟩⟩⟩⟩⟩⟩⟩⟩⟩⟩⟩⟩⟩⟩⟩⟩⟩⟩⟩⟩⟩⟩⟩⟩⟩⟩⟩⟩⟩⟩⟩⟩⟩⟩⟩⟩⟩⟩⟩⟩⟩⟩⟩⟩
  exact List.forall_mem_append.mpr ⟨h0, List.forall_mem_append.mpr ⟨h1, List.forall_mem_append.mpr ⟨h2, List.forall_mem_append.mpr ⟨h3, List.forall_mem_append.mpr ⟨h4, List.forall_mem_append.mpr ⟨h5, h6⟩⟩⟩⟩⟩⟩
end
section
/-! What all contracts of this claim use: the words, a contract's start and end, a call as one row. -/
def vs_up : List String := ["java/lang/RuntimeException", "java/lang/Exception"]
/-- the words of the tables that an exception's making asks, at each of the places where one is thrown -/
def NJ : List Cond := vt_own "TaleMachine" 51 "java/lang/IllegalArgumentException" vs_up ++ (vs_ownN "TaleMachine" 80).filter (fun w => w.onTables) ++ [.castable "java/util/NoSuchElementException" "java/util/NoSuchElementException", .castable "java/lang/IllegalArgumentException" "java/lang/IllegalArgumentException"]
theorem NJ_ok : NJ.all (fun w => w.onTables && w.keepsFace) = true := by decide +kernel
theorem NJ_A : (Bundle.ownAtoms "TaleMachine" 51 "java/lang/IllegalArgumentException" vs_up).all (fun w => w.onTables || decide (w ∈ vt_four)) = true := by decide +kernel
theorem NJ_N : (vs_ownN "TaleMachine" 80).all (fun w => w.onTables || decide (w ∈ vt_four)) = true := by decide +kernel
def vs_texts : List (Nat × String) := [(49, "a parent is no fixed object that is there"), (78, "no such object"), (182, "no such value"), (145, "no frame"), (172, "nothing of that kind to show"), (177, "nothing that it has")]
def vs_str (U : State) : Prop := ∀ z ∈ vs_texts, ∃ a : Nat, vk_R "TaleMachine" z.1 z.2 a U
abbrev vs_n1 : Cond := .methodLinkNest "TaleMachine" 11 y_Script_init "TaleMachine"
abbrev vs_n2 : Cond := .methodLinkNest "TaleMachine" 18 y_World_init "TaleMachine"
abbrev vs_n3 : Cond := .methodLinkNest "TaleMachine$Teller" 48 y_Frame_init "TaleMachine"
def Tb (U : State) : Prop := vt_J NJ U ∧ (va_Nw vs_n1 U ∧ va_Nw vs_n2 U ∧ va_Nw vs_n3 U) ∧ (va_AO "TaleMachine$State" U ∧ va_AO "TaleMachine$Frame" U) ∧ vs_str U
theorem Tb.warm {s U : State} (hW : s.WarmedH U.vm) (h : Tb s) : Tb U :=
  ⟨vt_J.warm NJ_ok hW h.1, ⟨va_Nw.warmM hW h.2.1.1, va_Nw.warmM hW h.2.1.2.1, va_Nw.warmM hW h.2.1.2.2⟩, ⟨h.2.2.1.1.moved hW.alike, h.2.2.1.2.moved hW.alike⟩, fun z hz => by
    obtain ⟨a, ha⟩ := h.2.2.2 z hz
    exact ⟨a, vk_R.warm hW ha⟩⟩
theorem Tb_nest_Script {U : State} (h : Tb U) : va_Nw vs_n1 U := h.2.1.1
theorem Tb_nest_World {U : State} (h : Tb U) : va_Nw vs_n2 U := h.2.1.2.1
theorem Tb_nest_Frame {U : State} (h : Tb U) : va_Nw vs_n3 U := h.2.1.2.2
theorem Tb_ao_State {U : State} (h : Tb U) : va_AO "TaleMachine$State" U := h.2.2.1.1
theorem Tb_ao_Frame {U : State} (h : Tb U) : va_AO "TaleMachine$Frame" U := h.2.2.1.2
theorem Tb_cast_N {U : State} {a : Array Value} (h : Tb U) : (Cond.castable "java/util/NoSuchElementException" "java/util/NoSuchElementException").before a U = true := va_Nw.use rfl (h.1 _ (List.mem_append_right _ (List.mem_of_getElem? (i := 0) rfl)))
theorem Tb_cast_A {U : State} {a : Array Value} (h : Tb U) : (Cond.castable "java/lang/IllegalArgumentException" "java/lang/IllegalArgumentException").before a U = true := va_Nw.use rfl (h.1 _ (List.mem_append_right _ (List.mem_of_getElem? (i := 1) rfl)))
theorem Tb_A {A : Nat → Prop} {U : State} {args : Array Value} (h : Tb U) (hZ : vt_ZZ A U U.heap) : ∀ w ∈ Bundle.ownAtoms "TaleMachine" 51 "java/lang/IllegalArgumentException" vs_up, w.before args U = true := vt_atoms NJ_A (fun w hw => h.1 w (List.mem_append_left _ (List.mem_append_left _ hw))) hZ
theorem Tb_N {A : Nat → Prop} {U : State} {args : Array Value} (h : Tb U) (hZ : vt_ZZ A U U.heap) : ∀ w ∈ vs_ownN "TaleMachine" 80, w.before args U = true := vt_atomsL NJ_N (fun w hw => h.1 w (List.mem_append_left _ (List.mem_append_right _ hw))) hZ
/-- a contract's start and end -/
def pre_ (D : va_G) (wc : va_W) (tc : List (ClassId × FieldType)) (sz : Nat) (U : State) : Prop := U.heap.size = sz ∧ va_P D cL wc U.heap ∧ va_K D cL tc U ∧ va_D (fun _ => True) wc ∧ Tb U
def preT_ (D : va_G) (wc : va_W) (tc : List (ClassId × FieldType)) (sz : Nat) (U : State) : Prop := pre_ D wc tc sz U ∧ vt_ZZ (va_A wc sz) U U.heap
def post_ (D : va_G) (A : Nat → Prop) (wn : va_W) (t : State) : Prop := va_P D cL wn t.heap ∧ va_D A wn
theorem pre_call {D : va_G} {wc : va_W} {tc : List (ClassId × FieldType)} {sz : Nat} {U : State} (g : JFrame) (mk : MethodId) (a : Array Value) (h : pre_ D wc tc sz U) : pre_ D wc tc sz (U.calling g mk a) :=
  ⟨h.1, h.2.1, va_K.moved (u := U) (U := U.calling g mk a) (Vm.Alike.refl U.vm) h.2.2.1, h.2.2.2.1, Tb.warm (s := U) (U := U.calling g mk a) (State.WarmedH.refl U) h.2.2.2.2⟩
theorem pre_at {D : va_G} {wc : va_W} {tc : List (ClassId × FieldType)} {s U : State} {H : Heap} {A : Nat → Prop} (hP : va_P D cL wc H) (hK : va_K D cL tc s) (hD : va_D A wc) (hT : Tb s) (hU : U.heap = H) (hW : s.WarmedH U.vm) : pre_ D wc tc H.size U :=
  ⟨by rw [hU], by rw [hU]; exact hP, va_K.moved hW.alike hK, hD.weaken (fun _ _ _ _ => trivial), Tb.warm hW hT⟩
theorem pre_S {av : List Value} {D : va_G} {wc : va_W} {tc : List (ClassId × FieldType)} {s : State} {H : Heap} {A : Nat → Prop} (hP : va_P D cL wc H) (hK : va_K D cL tc s) (hD : va_D A wc) (hT : Tb s) : PreS s H (va_Pc av (pre_ D wc tc H.size)) av :=
  ⟨fun a U g mk q => ⟨q.1, pre_call g mk a q.2⟩, fun U hU hW => ⟨rfl, pre_at hP hK hD hT hU hW⟩⟩
theorem pre_V {av : List Value} {D : va_G} {wc : va_W} {tc : List (ClassId × FieldType)} {s : State} {H : Heap} {A : Nat → Prop} {C : String} {b : Nat} (hv : ∃ cell : Cell, H[b]? = some cell ∧ cell.vm.isStatics = false ∧ s.vm.findClass C = some cell.cls) (hP : va_P D cL wc H) (hK : va_K D cL tc s) (hD : va_D A wc) (hT : Tb s) : PreV s H C b (va_Pc (.ref b :: av) (pre_ D wc tc H.size)) av :=
  ⟨fun a U g mk q => ⟨q.1, pre_call g mk a q.2⟩, hv, fun U hU hW => ⟨rfl, pre_at hP hK hD hT hU hW⟩⟩
theorem vt_ZZ.at {A : Nat → Prop} {s : State} {H : Heap} {locs : List Loc} {wc : va_W} (h : vt_ZZ A s s.heap) (hS : va_S A s.heap H locs) (hF : ∀ q, va_A wc H.size q → A q) : vt_ZZ (va_A wc H.size) s H := (h.kept hS.2.1).narrow (fun q _ hq => hF q hq)
theorem preT_call {D : va_G} {wc : va_W} {tc : List (ClassId × FieldType)} {sz : Nat} {U : State} (g : JFrame) (mk : MethodId) (a : Array Value) (h : preT_ D wc tc sz U) : preT_ D wc tc sz (U.calling g mk a) :=
  ⟨pre_call g mk a h.1, vt_ZZ.moved (u := U) (U := U.calling g mk a) (Vm.Alike.refl U.vm) h.2⟩
theorem preT_S {av : List Value} {D : va_G} {wc : va_W} {tc : List (ClassId × FieldType)} {s : State} {H : Heap} {A : Nat → Prop} (hP : va_P D cL wc H) (hK : va_K D cL tc s) (hD : va_D A wc) (hT : Tb s) (hZ : vt_ZZ (va_A wc H.size) s H) : PreS s H (va_Pc av (preT_ D wc tc H.size)) av :=
  ⟨fun a U g mk q => ⟨q.1, preT_call g mk a q.2⟩, fun U hU hW => ⟨rfl, pre_at hP hK hD hT hU hW, by rw [hU]; exact hZ.moved hW.alike⟩⟩
theorem preT_V {av : List Value} {D : va_G} {wc : va_W} {tc : List (ClassId × FieldType)} {s : State} {H : Heap} {A : Nat → Prop} {C : String} {b : Nat} (hv : ∃ cell : Cell, H[b]? = some cell ∧ cell.vm.isStatics = false ∧ s.vm.findClass C = some cell.cls) (hP : va_P D cL wc H) (hK : va_K D cL tc s) (hD : va_D A wc) (hT : Tb s) (hZ : vt_ZZ (va_A wc H.size) s H) : PreV s H C b (va_Pc (.ref b :: av) (preT_ D wc tc H.size)) av :=
  ⟨fun a U g mk q => ⟨q.1, preT_call g mk a q.2⟩, hv, fun U hU hW => ⟨rfl, pre_at hP hK hD hT hU hW, by rw [hU]; exact hZ.moved hW.alike⟩⟩
/-- words of calls -/
theorem gw {w : Cond} (h : w ∈ AW) : (w.onTables && w.keeps) = true ∨ ∃ ty, w = .arrayClass ty := good_of_word (List.all_eq_true.mp AW_all w h)
theorem gIn {w0 : Cond} (h : w0 ∈ AW) : GoodIn AW (w0 :: AW) := fun w hw => by
  rcases List.mem_cons.mp hw with rfl | hw
  · exact ⟨h, gw h⟩
  · exact ⟨hw, gw hw⟩
theorem gInV {own C : String} {i : Nat} {y : MethodName} {w0 : Cond} (h1 : Cond.methodLink own i y ∈ AW) (h2 : Cond.instanceMethod y ∈ AW) (h3 : Cond.selects C y y ∈ AW) (h4 : Cond.initialized C ∈ AW) (h5 : w0 ∈ AW) : GoodIn AW (wsV own i C y (w0 :: AW)) := fun w hw => by
  unfold wsV at hw
  rcases List.mem_append.mp hw with hw | hw
  · simp only [List.mem_cons, List.not_mem_nil, or_false] at hw
    rcases hw with rfl | rfl | rfl | rfl
    · exact ⟨h1, gw h1⟩
    · exact ⟨h2, gw h2⟩
    · exact ⟨h3, gw h3⟩
    · exact ⟨h4, gw h4⟩
  · exact gIn h5 w hw
theorem gInS {own : String} {i : Nat} {y : MethodName} {w0 : Cond} (h1 : Cond.methodLink own i y ∈ AW) (h2 : Cond.static y ∈ AW) (h4 : Cond.initialized y.cls ∈ AW) (h5 : w0 ∈ AW) : GoodIn AW (va_wsS own i y (w0 :: AW)) := fun w hw => by
  unfold va_wsS at hw
  rcases List.mem_append.mp hw with hw | hw
  · simp only [List.mem_cons, List.not_mem_nil, or_false] at hw
    rcases hw with rfl | rfl | rfl
    · exact ⟨h1, gw h1⟩
    · exact ⟨h2, gw h2⟩
    · exact ⟨h4, gw h4⟩
  · exact gIn h5 w hw
section VS
variable {p : Program} {l : Launch} {e : Env} {R : Room} {s : State} {m : MethodId} {args : Array Value} {below : List Frame} {meth : Method} {c : Code} {H : Heap} {locs : List Loc} {cells slots : Nat} {Q : State → Prop}
variable {pc : Nat} {ls : Array Slot} {rest st0 : List Value} {a : Array Value} {A : Nat → Prop} {H0 : Heap} {mc ms : Nat} {D : va_G} {ws wc wr : va_W} {cc : ByteArray}
theorem mv_v {S : Type} {post : S → Prop} {B : S → State → Prop} (hr : va_Run p l e R s m args below meth c H locs cells slots mc ms (F0 m pc ls st0) rest (va_Qv post B (va_A wc H.size) a) (va_A wc H.size))
    (hP : va_P D cL ws H) (hD : va_D A ws) (hS : va_S A H0 H locs) (hA : ∀ q, H0.size ≤ q → A q) (isC isR : List Nat) (hC : isC.map (fun i => ws[i]?) = wc.map some) (hR : isR.map (fun i => ws[i]?) = wr.map some) (hn : va_nd isR = true) (hdis : ∀ i ∈ isR, i ∉ isC)
    {wn : S → va_W} (hB : ∀ u t, B u t → post_ D (va_A wc H.size) (wn u) t)
    (kk : ∀ (u : S) (H1 : Heap) (locs1 : List Loc), post u → va_P D cL (wr ++ wn u) H1 → va_D A (wr ++ wn u) → va_S A H0 H1 locs1 → W p l e R s m args below meth c H1 locs1 (cells + mc) (slots + ms) Q (F0 m (pc + 3) ls rest)) : W p l e R s m args below meth c H locs cells slots Q (F0 m pc ls st0) := by
  have hFc := va_free (wc := wc) hD hS hA isC hC
  refine va_callv hr hS (fun q _ h => hFc q h) hFc (fun u t H1 locs1 ht hvm hp hb hz hk hS1 => ?_)
  obtain ⟨hP1, hD1⟩ := hB u t hb
  rw [ht] at hP1
  obtain ⟨hP', hD'⟩ := va_join (wr := wr) (w1 := wn u) hP hD isC isR hC hR hn hdis hk hFc hP1 hD1
  exact kk u H1 locs1 hp hP' hD' hS1
theorem mv_i {S : Type} {post : Int32 → S → Prop} {B : S → State → Prop} (hr : va_Run p l e R s m args below meth c H locs cells slots mc ms (F0 m pc ls st0) rest (va_Qi post B (va_A wc H.size) a) (va_A wc H.size))
    (hP : va_P D cL ws H) (hD : va_D A ws) (hS : va_S A H0 H locs) (hA : ∀ q, H0.size ≤ q → A q) (isC isR : List Nat) (hC : isC.map (fun i => ws[i]?) = wc.map some) (hR : isR.map (fun i => ws[i]?) = wr.map some) (hn : va_nd isR = true) (hdis : ∀ i ∈ isR, i ∉ isC)
    {wn : S → va_W} (hB : ∀ u t, B u t → post_ D (va_A wc H.size) (wn u) t)
    (kk : ∀ (r : Int32) (u : S) (H1 : Heap) (locs1 : List Loc), post r u → va_P D cL (wr ++ wn u) H1 → va_D A (wr ++ wn u) → va_S A H0 H1 locs1 → W p l e R s m args below meth c H1 locs1 (cells + mc) (slots + ms) Q (F0 m (pc + 3) ls (.int r :: rest))) : W p l e R s m args below meth c H locs cells slots Q (F0 m pc ls st0) := by
  have hFc := va_free (wc := wc) hD hS hA isC hC
  refine va_calli hr hS (fun q _ h => hFc q h) hFc (fun r u t H1 locs1 ht hvm hp hb hz hk hS1 => ?_)
  obtain ⟨hP1, hD1⟩ := hB u t hb
  rw [ht] at hP1
  obtain ⟨hP', hD'⟩ := va_join (wr := wr) (w1 := wn u) hP hD isC isR hC hR hn hdis hk hFc hP1 hD1
  exact kk r u H1 locs1 hp hP' hD' hS1
theorem end_i {S : Type} {post : Int32 → S → Prop} {B : S → State → Prop} (hx : p.tables.exec = Jvm.exec) (hb : c.code = cc) (hr : meth.sig.returnType = some .int) (hlocks : meth.locks = false) (hS : va_S A s.heap H locs) {u : S} {r : Int32} (hB : ∀ t : State, t.heap = H → B u t) (hp : post r u) (h1 : cells ≤ mc) (h2 : slots ≤ ms) (hdg : decode cc pc = .ok (.ireturn, 1)) :
    W p l e R s m args below meth c H locs cells slots (MQ below (va_Qi post B A) args s mc ms A) (F0 m pc ls [.int r]) :=
  W.widen (k := mc) (n := ms) h1 h2 (W.iret hx hb hr (fun t ht _ => ⟨⟨r, u, rfl, hp, hB t ht⟩, hS.F ht⟩) hS.2.2 hdg hlocks)
theorem end_z {S : Type} {post : Int32 → S → Prop} {B : S → State → Prop} (hx : p.tables.exec = Jvm.exec) (hb : c.code = cc) (hr : meth.sig.returnType = some .boolean) (hlocks : meth.locks = false) (hS : va_S A s.heap H locs) {u : S} {r : Int32} (hB : ∀ t : State, t.heap = H → B u t) (hp : post r u) (hz : r = 0 ∨ r = 1) (h1 : cells ≤ mc) (h2 : slots ≤ ms) (hdg : decode cc pc = .ok (.ireturn, 1)) :
    W p l e R s m args below meth c H locs cells slots (MQ below (va_Qi post B A) args s mc ms A) (F0 m pc ls [.int r]) :=
  W.widen (k := mc) (n := ms) h1 h2 (W.zret hx hb hr (by rcases hz with rfl | rfl <;> decide) (fun t ht _ => ⟨⟨r, u, rfl, hp, hB t ht⟩, hS.F ht⟩) hS.2.2 hdg hlocks)
theorem end_v {S : Type} {post : S → Prop} {B : S → State → Prop} (hx : p.tables.exec = Jvm.exec) (hb : c.code = cc) (hr : meth.sig.returnType = none) (hlocks : meth.locks = false) (hS : va_S A s.heap H locs) {u : S} (hB : ∀ t : State, t.heap = H → B u t) (hp : post u) (h1 : cells ≤ mc) (h2 : slots ≤ ms) (hdg : decode cc pc = .ok (.return_, 1)) :
    W p l e R s m args below meth c H locs cells slots (MQ below (va_Qv post B A) args s mc ms A) (F0 m pc ls []) :=
  W.widen (k := mc) (n := ms) h1 h2 (W.vret hx hb hr (fun t ht _ => ⟨⟨u, rfl, hp, hB t ht⟩, hS.F ht⟩) hS.2.2 hdg hlocks)
theorem at_end {wn : va_W} (hP : va_P D cL wn H) (hD : va_D A wn) : ∀ t : State, t.heap = H → post_ D A wn t := fun t ht => ⟨by rw [ht]; exact hP, hD⟩
/-- a new array of a kind whose class is known already -/
theorem nw_i (hexec : p.tables.exec = Jvm.exec) (hb : c.code = cc) (harr : (Cond.arrayClass .int).before args s = true) {tys : List (ClassId × FieldType)} (hK : va_K D cL tys s) (t0 : Nat) {cI : ClassId} (ht0 : tys[t0]? = some (cI, .int)) (hP : va_P D cL ws H) (hD : va_D A ws) (hS : va_S A H0 H locs) (hA : ∀ q, H0.size ≤ q → A q)
    {n : Int32} {N' : Nat} (hn : ¬ n < 0) (hN : n.toNatClampNeg = N') (hbytes : N' * 4 ≤ 536870912) (hcells : cells + 1 ≤ R.cells) (hslots : slots + N' ≤ R.slots) (hdg : decode cc pc = .ok (.newarray .int, 2))
    (kk : ∀ (q : Nat) (H1 : Heap), va_P D cL (ws ++ [(q, .inl (cI, N', .inl (fun _ => 0)))]) H1 → va_D A (ws ++ [(q, .inl (cI, N', .inl (fun _ => 0)))]) → va_S A H0 H1 locs → W p l e R s m args below meth c H1 locs (cells + 1) (slots + N') Q (F0 m (pc + 2) ls (.ref q :: rest))) : W p l e R s m args below meth c H locs cells slots Q (F0 m pc ls (.int n :: rest)) := by
  refine va_newa hexec hb (atype := .int) harr (ty := .int) rfl hK hP hD hS hA (a0 := (N', .inl (fun _ => 0))) (fun _ => rfl) hn hN hbytes hcells hslots hdg (fun q cA H1 hK1 hP1 hD1 hS1 => ?_)
  have e1 : s.vm.findClass ("[" ++ FieldType.int.toString) = some cI := (hK.2 t0 _ ht0).2
  have e2 : s.vm.findClass ("[" ++ FieldType.int.toString) = some cA := (hK1.2 tys.length (cA, .int) (by rw [List.getElem?_append_right (Nat.le_refl _), Nat.sub_self]; rfl)).2
  obtain rfl : cI = cA := Option.some.inj (e1.symm.trans e2)
  exact kk q H1 hP1 hD1 hS1
theorem nw_z (hexec : p.tables.exec = Jvm.exec) (hb : c.code = cc) (harr : (Cond.arrayClass .boolean).before args s = true) {tys : List (ClassId × FieldType)} (hK : va_K D cL tys s) (t0 : Nat) {cI : ClassId} (ht0 : tys[t0]? = some (cI, .boolean)) (hP : va_P D cL ws H) (hD : va_D A ws) (hS : va_S A H0 H locs) (hA : ∀ q, H0.size ≤ q → A q)
    {n : Int32} {N' : Nat} (hn : ¬ n < 0) (hN : n.toNatClampNeg = N') (hbytes : N' * 4 ≤ 536870912) (hcells : cells + 1 ≤ R.cells) (hslots : slots + N' ≤ R.slots) (hdg : decode cc pc = .ok (.newarray .boolean, 2))
    (kk : ∀ (q : Nat) (H1 : Heap), va_P D cL (ws ++ [(q, .inl (cI, N', .inl (fun _ => 0)))]) H1 → va_D A (ws ++ [(q, .inl (cI, N', .inl (fun _ => 0)))]) → va_S A H0 H1 locs → W p l e R s m args below meth c H1 locs (cells + 1) (slots + N') Q (F0 m (pc + 2) ls (.ref q :: rest))) : W p l e R s m args below meth c H locs cells slots Q (F0 m pc ls (.int n :: rest)) := by
  refine va_newa hexec hb (atype := .boolean) harr (ty := .boolean) rfl hK hP hD hS hA (a0 := (N', .inl (fun _ => 0))) (fun _ => rfl) hn hN (Nat.le_trans (Nat.mul_le_mul_left _ (by decide)) hbytes) hcells hslots hdg (fun q cA H1 hK1 hP1 hD1 hS1 => ?_)
  have e1 : s.vm.findClass ("[" ++ FieldType.boolean.toString) = some cI := (hK.2 t0 _ ht0).2
  have e2 : s.vm.findClass ("[" ++ FieldType.boolean.toString) = some cA := (hK1.2 tys.length (cA, .boolean) (by rw [List.getElem?_append_right (Nat.le_refl _), Nat.sub_self]; rfl)).2
  obtain rfl : cI = cA := Option.some.inj (e1.symm.trans e2)
  exact kk q H1 hP1 hD1 hS1
theorem nw_l (hexec : p.tables.exec = Jvm.exec) (hb : c.code = cc) (harr : (Cond.arrayClass .long).before args s = true) {tys : List (ClassId × FieldType)} (hK : va_K D cL tys s) (t0 : Nat) {cI : ClassId} (ht0 : tys[t0]? = some (cI, .long)) (hP : va_P D cL ws H) (hD : va_D A ws) (hS : va_S A H0 H locs) (hA : ∀ q, H0.size ≤ q → A q)
    {n : Int32} {N' : Nat} (hn : ¬ n < 0) (hN : n.toNatClampNeg = N') (hbytes : N' * 8 ≤ 536870912) (hcells : cells + 1 ≤ R.cells) (hslots : slots + N' ≤ R.slots) (hdg : decode cc pc = .ok (.newarray .long, 2))
    (kk : ∀ (q : Nat) (H1 : Heap), va_P D cL (ws ++ [(q, .inl (cI, N', .inr (.inl (fun _ => 0))))]) H1 → va_D A (ws ++ [(q, .inl (cI, N', .inr (.inl (fun _ => 0))))]) → va_S A H0 H1 locs → W p l e R s m args below meth c H1 locs (cells + 1) (slots + N') Q (F0 m (pc + 2) ls (.ref q :: rest))) : W p l e R s m args below meth c H locs cells slots Q (F0 m pc ls (.int n :: rest)) := by
  refine va_newa hexec hb (atype := .long) harr (ty := .long) rfl hK hP hD hS hA (a0 := (N', .inr (.inl (fun _ => 0)))) (fun _ => rfl) hn hN hbytes hcells hslots hdg (fun q cA H1 hK1 hP1 hD1 hS1 => ?_)
  have e1 : s.vm.findClass ("[" ++ FieldType.long.toString) = some cI := (hK.2 t0 _ ht0).2
  have e2 : s.vm.findClass ("[" ++ FieldType.long.toString) = some cA := (hK1.2 tys.length (cA, .long) (by rw [List.getElem?_append_right (Nat.le_refl _), Nat.sub_self]; rfl)).2
  obtain rfl : cI = cA := Option.some.inj (e1.symm.trans e2)
  exact kk q H1 hP1 hD1 hS1
/-- a loop with a counter: the same cells and slots made at each turn -/
theorem lp_W {I : Nat → Heap → List Loc → Array Slot → Prop} {a b : Nat} (hab : a ≤ b)
    (body : ∀ (k : Nat) (H : Heap) (locs : List Loc) (ls : Array Slot), a ≤ k → k ≤ b → I k H locs ls → (k < b → ∀ (H1 : Heap) (locs1 : List Loc) (ls1 : Array Slot), I (k + 1) H1 locs1 ls1 → W p l e R s m args below meth c H1 locs1 cells slots Q (F0 m pc ls1 [])) → W p l e R s m args below meth c H locs cells slots Q (F0 m pc ls [])) :
    ∀ (H : Heap) (locs : List Loc) (ls : Array Slot), I a H locs ls → W p l e R s m args below meth c H locs cells slots Q (F0 m pc ls []) := by
  have key : ∀ (n k : Nat), a ≤ k → n + k = b → ∀ (H : Heap) (locs : List Loc) (ls : Array Slot), I k H locs ls → W p l e R s m args below meth c H locs cells slots Q (F0 m pc ls []) := by
    intro n
    induction n with
    | zero => intro k h1 h2 H locs ls hI; exact body k H locs ls h1 (by omega) hI (fun h => absurd h (by omega))
    | succ n ih => intro k h1 h2 H locs ls hI; exact body k H locs ls h1 (by omega) hI (fun _ H1 l1 s1 hI1 => ih (k + 1) (by omega) (by omega) H1 l1 s1 hI1)
  exact fun H locs ls hI => key (b - a) a (Nat.le_refl _) (by omega) H locs ls hI
/-- new X; dup; ldc; X.<init>(String); athrow -/
theorem th_go (hexec : p.tables.exec = Jvm.exec) (hb : c.code = cc) (hl : l.stackTraces = false) {cls : String} {ic ix it : Nat} {tx : String} (hown : s.vm.findClass "TaleMachine" = some m.cls) (hcls : Bundle.fit cls = true)
    (h : ∀ w ∈ Bundle.ownAtoms "TaleMachine" ic cls vs_up, w.before args s = true) (hcl : (Cond.classLink "TaleMachine" ix cls).before args s = true) (hini : (Cond.initialized cls).before args s = true) (hT : Tb s) (htx : (it, tx) ∈ vs_texts)
    (hS : va_S A s.heap H locs) (hns : ∀ q, A q → ∀ cell : Cell, s.heap[q]? = some cell → cell.vm.isStatics = false)
    (hne : c.exceptionTable.isEmpty = true) (hsz : ls.size = c.maxLocals) (hlocks : meth.locks = false) (d0 : decode cc pc = .ok (.new ix, 3)) (d3 : decode cc (pc + 3) = .ok (.dup, 1)) (d4 : decode cc (pc + 4) = .ok (.ldc it, 2)) (d6 : decode cc (pc + 6) = .ok (.invokespecial ic, 3)) (d9 : decode cc (pc + 9) = .ok (.athrow, 1))
    (hRf : 5 < R.frames) (hRl : 100 ≤ R.locals) (hRc : cells + 1 ≤ R.cells) (hRs : slots + 6 ≤ R.slots) (h1 : cells + 1 ≤ mc) (h2 : slots + 6 ≤ ms) :
    W p l e R s m args below meth c H locs cells slots (vt_MQ below (vt_Q cls A) args s mc ms A) (F0 m pc ls []) := by
  refine W.newc hexec hb hown hcl (n := 6) (h _ (by simp [Bundle.ownAtoms])) hini (g := F0 m pc ls []) rfl d0 hRc hRs (fun cC kC e1 e2 e3 e4 => ?_)
  refine W.eq (g2 := F0 m (pc + 3) ls [.ref H.size]) rfl ?_
  refine lv_dup hexec hb d3 rfl ?_
  obtain ⟨qm, hqm⟩ := hT.2.2.2 _ htx
  refine va_ldcS hexec hb hown hqm d4 ?_
  refine W.widen (k := mc) (n := ms) h1 h2 ?_
  refine vt_throwS (q := H.size) (qm := qm) (cX := cC) (kX := kC) hexec hb hl hown hcls (names := vs_up) (by decide) h (H := H.push { cls := cC, slots := kC.instanceTypes.map defaultValue, vm := .none }) (locs := locs) ⟨by rw [Array.size_push]; exact Nat.le_trans hS.1 (Nat.le_succ _), fun z hz hzA => ?_, hS.2.2⟩ hns e1 e2 (by simp) hS.1 hne hsz hlocks d6 d9 hRf ?_
  · rw [Array.getElem?_push, if_neg (by have := hS.1; omega)]
    exact hS.2.1 z hz hzA
  · show 2 * 0 + (1 + 0) + (13 * (2 + 1) + 42) ≤ R.locals
    omega
/-- new X; dup; ldc; X.<init>(String); athrow -/
theorem th_goN (hexec : p.tables.exec = Jvm.exec) (hb : c.code = cc) (hl : l.stackTraces = false) {ic ix it : Nat} {tx : String} (hown : s.vm.findClass "TaleMachine" = some m.cls)
    (h : ∀ w ∈ vs_ownN "TaleMachine" ic, w.before args s = true) (hcl : (Cond.classLink "TaleMachine" ix vs_NS).before args s = true) (hini : (Cond.initialized vs_NS).before args s = true) (hT : Tb s) (htx : (it, tx) ∈ vs_texts)
    (hS : va_S A s.heap H locs) (hns : ∀ q, A q → ∀ cell : Cell, s.heap[q]? = some cell → cell.vm.isStatics = false)
    (hne : c.exceptionTable.isEmpty = true) (hsz : ls.size = c.maxLocals) (hlocks : meth.locks = false) (d0 : decode cc pc = .ok (.new ix, 3)) (d3 : decode cc (pc + 3) = .ok (.dup, 1)) (d4 : decode cc (pc + 4) = .ok (.ldc it, 2)) (d6 : decode cc (pc + 6) = .ok (.invokespecial ic, 3)) (d9 : decode cc (pc + 9) = .ok (.athrow, 1))
    (hRf : 5 < R.frames) (hRl : 100 ≤ R.locals) (hRc : cells + 1 ≤ R.cells) (hRs : slots + 6 ≤ R.slots) (h1 : cells + 1 ≤ mc) (h2 : slots + 6 ≤ ms) :
    W p l e R s m args below meth c H locs cells slots (vt_MQ below (vt_Q vs_NS A) args s mc ms A) (F0 m pc ls []) := by
  refine W.newc hexec hb hown hcl (n := 6) (h _ (List.mem_cons_of_mem _ (List.mem_append_right _ (List.mem_append_right _ (List.mem_append_right _ (List.mem_append_right _ (List.mem_of_getElem? (i := 0) rfl))))))) hini (g := F0 m pc ls []) rfl d0 hRc hRs (fun cC kC e1 e2 e3 e4 => ?_)
  refine W.eq (g2 := F0 m (pc + 3) ls [.ref H.size]) rfl ?_
  refine lv_dup hexec hb d3 rfl ?_
  obtain ⟨qm, hqm⟩ := hT.2.2.2 _ htx
  refine va_ldcS hexec hb hown hqm d4 ?_
  refine W.widen (k := mc) (n := ms) h1 h2 ?_
  refine vt_throwN (q := H.size) (qm := qm) (cX := cC) (kX := kC) hexec hb hl hown h (H := H.push { cls := cC, slots := kC.instanceTypes.map defaultValue, vm := .none }) (locs := locs) ⟨by rw [Array.size_push]; exact Nat.le_trans hS.1 (Nat.le_succ _), fun z hz hzA => ?_, hS.2.2⟩ hns e1 e2 (by simp) hS.1 hne hsz hlocks d6 d9 hRf ?_
  · rw [Array.getElem?_push, if_neg (by have := hS.1; omega)]
    exact hS.2.1 z hz hzA
  · show 2 * 0 + (1 + 0) + 81 ≤ R.locals
    omega
end VS
/-- the table of a method with handlers, by its word -/
theorem vt_table {y : MethodName} {bytes : ByteArray} {maxL : Nat} {ret : Option FieldType} {hh : List (Nat × Nat × Nat × Nat)} {args : Array Value} {s : State} {m : MethodId} {meth : Method} {c : Code} (hn : s.methodNamed? y = some m) (hm : s.vm.method? m = some meth) (hc : meth.code = some c) (h : (Cond.codeWith y bytes maxL ret hh).before args s = true) :
    c.exceptionTable.toList.map (fun h => (h.startPc, h.endPc, h.handlerPc, h.catchType)) = hh := by
  obtain ⟨m', meth', c', h1, h2, h3, -, -, h6, -⟩ := Cond.codeWith_spec h
  cases hn.symm.trans h1
  cases hm.symm.trans h2
  cases hc.symm.trans h3
  exact h6
theorem md_ix (o : Int32) (h : ¬ (o < 0 ∨ 31 < o)) : vp_in (29 * o) 5568 := by
  obtain ⟨j, hj, rfl⟩ := nI_of2 (M := 31) (n := 31) (by decide) (fun z => h (Or.inl z)) (Int32.not_lt.mp (fun z => h (Or.inr z)))
  rw [show (29 : Int32) = nI 29 from rfl, pk_mul]
  exact vp_in_nI (by omega) (by decide)
theorem md_ixk {k : Nat} (h : k < 32) : vp_in (29 * nI k) 5568 := by
  rw [show (29 : Int32) = nI 29 from rfl, pk_mul]
  exact vp_in_nI (by omega) (by decide)
theorem md_all (k : Int32) : k < 0 ∨ -1 < k := by
  simp only [Int32.lt_iff_toInt_lt]
  have h1 : (0 : Int32).toInt = 0 := by decide
  have h2 : (-1 : Int32).toInt = -1 := by decide
  omega
theorem md_eq {k : Int32} (h : ¬ (k < -1 ∨ -1 < k)) : k = -1 := by
  simp only [Int32.lt_iff_toInt_lt] at h
  exact Int32.toInt_inj.mp (by omega)
theorem vs_ext {D : va_G} {cI : ClassId} {a n : Nat} {f g : Nat → Int32} {H : Heap} (h : ∀ j, j < n → f j = g j) (hP : va_P D cL [(a, .inl (cI, n, .inl f))] H) : va_P D cL [(a, .inl (cI, n, .inl g))] H := by
  have e : vp_cell cI (n, .inl f) = vp_cell cI (n, .inl g) := by
    have e2 : (Array.ofFn (n := n) fun j => Value.int (f j.val)) = (Array.ofFn (n := n) fun j => Value.int (g j.val)) := by
      congr 1
      funext j
      rw [h j.val j.isLt]
    show ({ cls := cI, slots := Array.ofFn (n := n) fun j => Value.int (f j.val), vm := .none } : Cell) = { cls := cI, slots := Array.ofFn (n := n) fun j => Value.int (g j.val), vm := .none }
    rw [e2]
  have h0 : H[a]? = some (vp_cell cI (n, .inl f)) := hP 0 _ rfl
  intro k q hk
  cases k with
  | zero =>
    cases hk
    show H[a]? = some (vp_cell cI (n, .inl g))
    rw [← e]
    exact h0
  | succ k => simp at hk
theorem ws_ix {x : Int32} (h1 : ¬ x < 16) (h2 : ¬ 32 ≤ x) : vp_in (x - 16) 16 := by
  have a0 : (0 : Int32).toInt = 0 := by decide
  have a1 : (16 : Int32).toInt = 16 := by decide
  have a2 : (32 : Int32).toInt = 32 := by decide
  have a3 : (31 : Int32).toInt = 31 := by decide
  have b1 : ¬ x < 0 := by
    simp only [Int32.lt_iff_toInt_lt] at h1 ⊢
    omega
  have b2 : x ≤ 31 := by
    simp only [Int32.le_iff_toInt_le] at h2 ⊢
    omega
  obtain ⟨j, hj, rfl⟩ := nI_of2 (M := 31) (n := 31) (by decide) b1 b2
  have h16 : 16 ≤ j := Nat.le_of_not_lt (fun z => h1 (by rw [show (16 : Int32) = nI 16 from rfl]; exact nI_lt z (by decide)))
  rw [show (16 : Int32) = nI 16 from rfl, pk_sub h16]
  exact vp_in_nI (by omega) (by decide)
theorem in_c {i : Int32} {n : Nat} (h : ¬ (i < 0 ∨ n ≤ i.toNatClampNeg)) : vp_in i n := h
theorem sw_out {x : Int32} (h1 : ¬ x = 1) (h2 : ¬ x = 2) (hw : (x < 0 ∨ 5 < x) ∨ x = 1 ∨ x = 2) : x.toInt < 0 ∨ 5 < x.toInt := by
  have a0 : (0 : Int32).toInt = 0 := by decide
  have a1 : (5 : Int32).toInt = 5 := by decide
  rcases hw with (h | h) | h | h
  · exact Or.inl (by simp only [Int32.lt_iff_toInt_lt] at h; omega)
  · exact Or.inr (by simp only [Int32.lt_iff_toInt_lt] at h; omega)
  · exact absurd h h1
  · exact absurd h h2
theorem va_nil {D : va_G} {H : Heap} : va_P D cL [] H := fun k q hk => by simp at hk
/-- a call of a static method with handlers -/
def VW (R : Room) (s : State) (args : Array Value) (own : String) (index : Nat) (y : MethodName) (bytes : ByteArray) (maxL : Nat) (ret : Option FieldType) (hh : List (Nat × Nat × Nat × Nat)) (ws : List Cond) (rm : Room) (mc ms n : Nat) : Prop :=
  rm.cells = mc ∧ rm.slots = ms ∧ rm.frames + 1 ≤ R.frames ∧ 8 + (maxL + 11) + rm.locals ≤ R.locals ∧ (∀ w ∈ ws, ∀ (a' : Array Value) (U : State), s.WarmedH U.vm → w.before a' U = true) ∧ Cond.codeWith y bytes maxL ret hh ∈ ws ∧
  (Cond.codeWith y bytes maxL ret hh).before args s = true ∧ (Cond.initialized y.cls).before args s = true ∧ (y.cls ≠ "java/lang/invoke/MethodHandle" ∧ y.cls ≠ "java/lang/invoke/VarHandle") ∧ (∀ sig, parseMethodDescriptor y.desc = some sig → n = sig.parameters.length) ∧ (Cond.methodLink own index y).before args s = true ∧ (Cond.static y).before args s = true
theorem vw_cw {R : Room} {s : State} {args : Array Value} {own : String} {index : Nat} {y : MethodName} {bytes : ByteArray} {maxL mc ms : Nat} {ret : Option FieldType} {hh : List (Nat × Nat × Nat × Nat)} {rm : Room} (n : Nat) (ht : ∀ w ∈ AW, w.before args s = true) (h1 : Cond.methodLink own index y ∈ AW) (h2 : Cond.static y ∈ AW) (h3 : Cond.initialized y.cls ∈ AW) (h4 : Cond.codeWith y bytes maxL ret hh ∈ AW) (hrc : rm.cells = mc) (hrs : rm.slots = ms)
    (hd : y.cls ≠ "java/lang/invoke/MethodHandle" ∧ y.cls ≠ "java/lang/invoke/VarHandle" ∧ (parseMethodDescriptor y.desc).map (fun d => d.parameters.length) = some n) (hR : rm.frames + 1 ≤ R.frames ∧ 8 + (maxL + 11) + rm.locals ≤ R.locals) : VW R s args own index y bytes maxL ret hh (Cond.codeWith y bytes maxL ret hh :: AW) rm mc ms n := by
  refine ⟨hrc, hrs, hR.1, hR.2, pay_in ht (gIn h4), List.mem_cons_self, ht _ h4, ht _ h3, ⟨hd.1, hd.2.1⟩, fun sig h => ?_, ht _ h1, ht _ h2⟩
  have h5 := hd.2.2
  rw [h] at h5
  exact (Option.some.inj h5).symm
section VS2
variable {p : Program} {l : Launch} {e : Env} {R : Room} {s : State} {m : MethodId} {args : Array Value} {below : List Frame} {meth : Method} {c : Code} {H : Heap} {locs : List Loc} {cells slots : Nat}
theorem vw_runS {y : MethodName} {bytes cc : ByteArray} {maxL nL mc ms n index : Nat} {ret : Option FieldType} {hh : List (Nat × Nat × Nat × Nat)} {ws : List Cond} {rm : Room} {Pc : Array Value → State → Prop} {Qc : Array Value → State → Outcome → State → Prop} {free : Addr → Prop} {Ts : List Cond} {own : String} {As rest : List Value} {g : JFrame}
    (S : CallFix p m c cc nL s args Ts own) (hM : Met l y ws rm Pc Qc mc ms free) (cw : VW R s args own index y bytes maxL ret hh ws rm mc ms n) (hp : PreS s H Pc As)
    (hg : g.method = m) (hn : As.length = n) (hsize : g.locals.size = nL) (hstack : g.stack = As.reverse ++ rest) (hW : 2 * g.monitorRoom + (rest.map fun v => v.category).sum ≤ 8) (hdg : decode cc g.pc = .ok (.invokestatic index, 3)) (hf : cells + mc ≤ R.cells ∧ slots + ms ≤ R.slots) :
    va_Run p l e R s m args below meth c H locs cells slots mc ms g rest (Qc As.toArray) (free) := by
  obtain ⟨hrc, hrs, hfr, hlo, hws, hcw, hcode, hinit, hy, hlen, hlink, hstat⟩ := cw
  have hK : Back l R p e below s args y 3 8 (PreOf R mc ms Pc) (PostOf Qc mc ms free) := va_backW hM hp.1 hrc hrs hfr hlo hws hcw (fun a' U hW => word_at hW (Or.inl (by first | rfl | simp [Cond.onTables, Cond.keeps, Cond.steady])) hinit)
  obtain ⟨hexec, hb, hml, hown, -⟩ := S
  intro T hT X
  obtain ⟨mk, methM, cM, hnamed, hmethM, -, -, -, -, -, -, hsigM⟩ := Cond.codeWith_spec hcode
  have hstatic : methM.isStatic = true := Cond.static_spec hnamed hmethM hstat
  obtain ⟨kP, hkP, -⟩ := className_of_methodNamed hnamed
  have hinitP : kP.init = .initialized := Cond.initialized_spec (findClass_of_methodNamed hnamed) hkP hinit
  obtain ⟨vm₁, X₁, hstep₁⟩ := X.invokestatic hexec hown hlink hnamed hmethM hstatic hkP hinitP hy (g := g) hg (argsL := As) (rest := rest) (hn.trans (hlen _ hsigM)) hstack (by rw [hb]; exact hdg)
  obtain ⟨v, ⟨U', l2, c2, s2⟩, X', ⟨g', mk', t, L, e1, e2, hq, h1, hL, h2, h3⟩, hsteps⟩ := hK m meth c ⟨T.setVm vm₁, locs, cells, slots⟩ { g with stack := rest } (.invokestatic index) mk As.toArray X₁ hg (hsize.trans hml.symm) (by rw [hb]; exact hdg) hW (X₁.named hnamed) ⟨hf.1, hf.2, hp.2 (T.setVm vm₁) hT X₁.warmed⟩
  dsimp only [Pt.U, Pt.locs, Pt.cells, Pt.slots] at X' e1 e2 h1 h2 h3 hsteps
  subst h1; subst h2; subst h3
  exact ⟨v, (T.setVm vm₁).calling g' mk' As.toArray, t, U', L, hT, X', hL, e1, e2, hq, fun target h => hstep₁ _ fun acts => by rw [doInvoke_state]; exact hsteps.trans h⟩
end VS2
end
section
theorem d_Model_outside_0 : decode prog_10_method_4_code 0 = .ok (.iload_n 0, 1) := by decide +kernel
theorem d_Model_outside_1 : decode prog_10_method_4_code 1 = .ok (.iload_n 1, 1) := by decide +kernel
theorem d_Model_outside_2 : decode prog_10_method_4_code 2 = .ok (.if_icmp .lt 8, 3) := by decide +kernel
theorem d_Model_outside_10 : decode prog_10_method_4_code 10 = .ok (.iconst 1, 1) := by decide +kernel
theorem d_Model_outside_11 : decode prog_10_method_4_code 11 = .ok (.goto 4, 3) := by decide +kernel
theorem d_Model_outside_15 : decode prog_10_method_4_code 15 = .ok (.ireturn, 1) := by decide +kernel
theorem d_Model_outside_5 : decode prog_10_method_4_code 5 = .ok (.iload_n 0, 1) := by decide +kernel
theorem d_Model_outside_6 : decode prog_10_method_4_code 6 = .ok (.iload_n 2, 1) := by decide +kernel
theorem d_Model_outside_7 : decode prog_10_method_4_code 7 = .ok (.if_icmp .le 7, 3) := by decide +kernel
theorem d_Model_outside_14 : decode prog_10_method_4_code 14 = .ok (.iconst 0, 1) := by decide +kernel
theorem d_Model_thrown_0 : decode prog_10_method_2_code 0 = .ok (.aload_n 0, 1) := by decide +kernel
theorem d_Model_thrown_1 : decode prog_10_method_2_code 1 = .ok (.getfield 75, 3) := by decide +kernel
theorem d_Model_thrown_4 : decode prog_10_method_2_code 4 = .ok (.ireturn, 1) := by decide +kernel
theorem d_Model_refuse_0 : decode prog_10_method_3_code 0 = .ok (.aload_n 0, 1) := by decide +kernel
theorem d_Model_refuse_1 : decode prog_10_method_3_code 1 = .ok (.iload_n 1, 1) := by decide +kernel
theorem d_Model_refuse_2 : decode prog_10_method_3_code 2 = .ok (.putfield 75, 3) := by decide +kernel
theorem d_Model_refuse_5 : decode prog_10_method_3_code 5 = .ok (.iconst 0, 1) := by decide +kernel
theorem d_Model_refuse_6 : decode prog_10_method_3_code 6 = .ok (.ireturn, 1) := by decide +kernel
theorem d_Model_isThere_0 : decode prog_10_method_5_code 0 = .ok (.iload_n 1, 1) := by decide +kernel
theorem d_Model_isThere_1 : decode prog_10_method_5_code 1 = .ok (.iconst 0, 1) := by decide +kernel
theorem d_Model_isThere_2 : decode prog_10_method_5_code 2 = .ok (.bipush 31, 2) := by decide +kernel
theorem d_Model_isThere_4 : decode prog_10_method_5_code 4 = .ok (.invokestatic 78, 3) := by decide +kernel
theorem d_Model_isThere_7 : decode prog_10_method_5_code 7 = .ok (.ifCond .ne 20, 3) := by decide +kernel
theorem d_Model_isThere_27 : decode prog_10_method_5_code 27 = .ok (.iconst 0, 1) := by decide +kernel
theorem d_Model_isThere_28 : decode prog_10_method_5_code 28 = .ok (.ireturn, 1) := by decide +kernel
theorem d_Model_isThere_10 : decode prog_10_method_5_code 10 = .ok (.aload_n 0, 1) := by decide +kernel
theorem d_Model_isThere_11 : decode prog_10_method_5_code 11 = .ok (.getfield 13, 3) := by decide +kernel
theorem d_Model_isThere_14 : decode prog_10_method_5_code 14 = .ok (.bipush 29, 2) := by decide +kernel
theorem d_Model_isThere_16 : decode prog_10_method_5_code 16 = .ok (.iload_n 1, 1) := by decide +kernel
theorem d_Model_isThere_17 : decode prog_10_method_5_code 17 = .ok (.imul, 1) := by decide +kernel
theorem d_Model_isThere_18 : decode prog_10_method_5_code 18 = .ok (.iaload, 1) := by decide +kernel
theorem d_Model_isThere_19 : decode prog_10_method_5_code 19 = .ok (.iconst 1, 1) := by decide +kernel
theorem d_Model_isThere_20 : decode prog_10_method_5_code 20 = .ok (.if_icmp .ne 7, 3) := by decide +kernel
theorem d_Model_isParent_0 : decode prog_10_method_17_code 0 = .ok (.iload_n 1, 1) := by decide +kernel
theorem d_Model_isParent_1 : decode prog_10_method_17_code 1 = .ok (.iconst (-1), 1) := by decide +kernel
theorem d_Model_isParent_2 : decode prog_10_method_17_code 2 = .ok (.if_icmp .eq 21, 3) := by decide +kernel
theorem d_Model_isParent_23 : decode prog_10_method_17_code 23 = .ok (.iconst 1, 1) := by decide +kernel
theorem d_Model_isParent_24 : decode prog_10_method_17_code 24 = .ok (.goto 4, 3) := by decide +kernel
theorem d_Model_isParent_28 : decode prog_10_method_17_code 28 = .ok (.ireturn, 1) := by decide +kernel
theorem d_Model_isParent_5 : decode prog_10_method_17_code 5 = .ok (.iload_n 1, 1) := by decide +kernel
theorem d_Model_isParent_6 : decode prog_10_method_17_code 6 = .ok (.iconst 0, 1) := by decide +kernel
theorem d_Model_isParent_7 : decode prog_10_method_17_code 7 = .ok (.bipush 15, 2) := by decide +kernel
theorem d_Model_isParent_9 : decode prog_10_method_17_code 9 = .ok (.invokestatic 78, 3) := by decide +kernel
theorem d_Model_isParent_12 : decode prog_10_method_17_code 12 = .ok (.ifCond .ne 15, 3) := by decide +kernel
theorem d_Model_isParent_27 : decode prog_10_method_17_code 27 = .ok (.iconst 0, 1) := by decide +kernel
theorem d_Model_isParent_15 : decode prog_10_method_17_code 15 = .ok (.aload_n 0, 1) := by decide +kernel
theorem d_Model_isParent_16 : decode prog_10_method_17_code 16 = .ok (.iload_n 1, 1) := by decide +kernel
theorem d_Model_isParent_17 : decode prog_10_method_17_code 17 = .ok (.invokevirtual 107, 3) := by decide +kernel
theorem d_Model_isParent_20 : decode prog_10_method_17_code 20 = .ok (.ifCond .eq 7, 3) := by decide +kernel
theorem d_Model_placeOf_0 : decode prog_10_method_8_code 0 = .ok (.bipush 29, 2) := by decide +kernel
theorem d_Model_placeOf_2 : decode prog_10_method_8_code 2 = .ok (.iload_n 1, 1) := by decide +kernel
theorem d_Model_placeOf_3 : decode prog_10_method_8_code 3 = .ok (.imul, 1) := by decide +kernel
theorem d_Model_placeOf_4 : decode prog_10_method_8_code 4 = .ok (.iconst 5, 1) := by decide +kernel
theorem d_Model_placeOf_5 : decode prog_10_method_8_code 5 = .ok (.iadd, 1) := by decide +kernel
theorem d_Model_placeOf_6 : decode prog_10_method_8_code 6 = .ok (.iconst 3, 1) := by decide +kernel
theorem d_Model_placeOf_7 : decode prog_10_method_8_code 7 = .ok (.iload_n 2, 1) := by decide +kernel
theorem d_Model_placeOf_8 : decode prog_10_method_8_code 8 = .ok (.imul, 1) := by decide +kernel
theorem d_Model_placeOf_9 : decode prog_10_method_8_code 9 = .ok (.iadd, 1) := by decide +kernel
theorem d_Model_placeOf_10 : decode prog_10_method_8_code 10 = .ok (.ireturn, 1) := by decide +kernel
theorem d_Model_empty_0 : decode prog_10_method_11_code 0 = .ok (.aload_n 0, 1) := by decide +kernel
theorem d_Model_empty_1 : decode prog_10_method_11_code 1 = .ok (.getfield 13, 3) := by decide +kernel
theorem d_Model_empty_4 : decode prog_10_method_11_code 4 = .ok (.bipush 29, 2) := by decide +kernel
theorem d_Model_empty_6 : decode prog_10_method_11_code 6 = .ok (.iload_n 1, 1) := by decide +kernel
theorem d_Model_empty_7 : decode prog_10_method_11_code 7 = .ok (.imul, 1) := by decide +kernel
theorem d_Model_empty_8 : decode prog_10_method_11_code 8 = .ok (.iconst 1, 1) := by decide +kernel
theorem d_Model_empty_9 : decode prog_10_method_11_code 9 = .ok (.iastore, 1) := by decide +kernel
theorem d_Model_empty_10 : decode prog_10_method_11_code 10 = .ok (.aload_n 0, 1) := by decide +kernel
theorem d_Model_empty_11 : decode prog_10_method_11_code 11 = .ok (.getfield 13, 3) := by decide +kernel
theorem d_Model_empty_14 : decode prog_10_method_11_code 14 = .ok (.bipush 29, 2) := by decide +kernel
theorem d_Model_empty_16 : decode prog_10_method_11_code 16 = .ok (.iload_n 1, 1) := by decide +kernel
theorem d_Model_empty_17 : decode prog_10_method_11_code 17 = .ok (.imul, 1) := by decide +kernel
theorem d_Model_empty_18 : decode prog_10_method_11_code 18 = .ok (.iconst 1, 1) := by decide +kernel
theorem d_Model_empty_19 : decode prog_10_method_11_code 19 = .ok (.iadd, 1) := by decide +kernel
theorem d_Model_empty_20 : decode prog_10_method_11_code 20 = .ok (.iconst 0, 1) := by decide +kernel
theorem d_Model_empty_21 : decode prog_10_method_11_code 21 = .ok (.iastore, 1) := by decide +kernel
theorem d_Model_empty_22 : decode prog_10_method_11_code 22 = .ok (.iconst 0, 1) := by decide +kernel
theorem d_Model_empty_23 : decode prog_10_method_11_code 23 = .ok (.istore_n 2, 1) := by decide +kernel
theorem d_Model_empty_24 : decode prog_10_method_11_code 24 = .ok (.iload_n 2, 1) := by decide +kernel
theorem d_Model_empty_25 : decode prog_10_method_11_code 25 = .ok (.bipush 8, 2) := by decide +kernel
theorem d_Model_empty_27 : decode prog_10_method_11_code 27 = .ok (.if_icmp .ge 21, 3) := by decide +kernel
theorem d_Model_empty_30 : decode prog_10_method_11_code 30 = .ok (.aload_n 0, 1) := by decide +kernel
theorem d_Model_empty_31 : decode prog_10_method_11_code 31 = .ok (.getfield 13, 3) := by decide +kernel
theorem d_Model_empty_34 : decode prog_10_method_11_code 34 = .ok (.aload_n 0, 1) := by decide +kernel
theorem d_Model_empty_35 : decode prog_10_method_11_code 35 = .ok (.iload_n 1, 1) := by decide +kernel
theorem d_Model_empty_36 : decode prog_10_method_11_code 36 = .ok (.iload_n 2, 1) := by decide +kernel
theorem d_Model_empty_37 : decode prog_10_method_11_code 37 = .ok (.invokevirtual 82, 3) := by decide +kernel
theorem d_Model_empty_40 : decode prog_10_method_11_code 40 = .ok (.iconst 0, 1) := by decide +kernel
theorem d_Model_empty_41 : decode prog_10_method_11_code 41 = .ok (.iastore, 1) := by decide +kernel
theorem d_Model_empty_42 : decode prog_10_method_11_code 42 = .ok (.iinc 2 1, 3) := by decide +kernel
theorem d_Model_empty_45 : decode prog_10_method_11_code 45 = .ok (.goto (-21), 3) := by decide +kernel
theorem d_Model_empty_48 : decode prog_10_method_11_code 48 = .ok (.return_, 1) := by decide +kernel
theorem d_Model_code_0 : decode prog_10_method_16_code 0 = .ok (.aload_n 0, 1) := by decide +kernel
theorem d_Model_code_1 : decode prog_10_method_16_code 1 = .ok (.iconst 0, 1) := by decide +kernel
theorem d_Model_code_2 : decode prog_10_method_16_code 2 = .ok (.putfield 75, 3) := by decide +kernel
theorem d_Model_code_5 : decode prog_10_method_16_code 5 = .ok (.iload_n 2, 1) := by decide +kernel
theorem d_Model_code_6 : decode prog_10_method_16_code 6 = .ok (.iconst 1, 1) := by decide +kernel
theorem d_Model_code_7 : decode prog_10_method_16_code 7 = .ok (.iconst 4, 1) := by decide +kernel
theorem d_Model_code_8 : decode prog_10_method_16_code 8 = .ok (.invokestatic 78, 3) := by decide +kernel
theorem d_Model_code_11 : decode prog_10_method_16_code 11 = .ok (.ifCond .ne 15, 3) := by decide +kernel
theorem d_Model_code_14 : decode prog_10_method_16_code 14 = .ok (.aload_n 0, 1) := by decide +kernel
theorem d_Model_code_15 : decode prog_10_method_16_code 15 = .ok (.getfield 104, 3) := by decide +kernel
theorem d_Model_code_18 : decode prog_10_method_16_code 18 = .ok (.iload_n 2, 1) := by decide +kernel
theorem d_Model_code_19 : decode prog_10_method_16_code 19 = .ok (.iadd, 1) := by decide +kernel
theorem d_Model_code_20 : decode prog_10_method_16_code 20 = .ok (.sipush 300, 3) := by decide +kernel
theorem d_Model_code_23 : decode prog_10_method_16_code 23 = .ok (.if_icmp .le 5, 3) := by decide +kernel
theorem d_Model_code_28 : decode prog_10_method_16_code 28 = .ok (.iload_n 2, 1) := by decide +kernel
theorem d_Model_code_29 : decode prog_10_method_16_code 29 = .ok (.iconst 1, 1) := by decide +kernel
theorem d_Model_code_30 : decode prog_10_method_16_code 30 = .ok (.isub, 1) := by decide +kernel
theorem d_Model_code_31 : decode prog_10_method_16_code 31 = .ok (.istore_n 3, 1) := by decide +kernel
theorem d_Model_code_32 : decode prog_10_method_16_code 32 = .ok (.iload_n 3, 1) := by decide +kernel
theorem d_Model_code_33 : decode prog_10_method_16_code 33 = .ok (.ifCond .lt 38, 3) := by decide +kernel
theorem d_Model_code_36 : decode prog_10_method_16_code 36 = .ok (.aload_n 0, 1) := by decide +kernel
theorem d_Model_code_37 : decode prog_10_method_16_code 37 = .ok (.getfield 7, 3) := by decide +kernel
theorem d_Model_code_40 : decode prog_10_method_16_code 40 = .ok (.aload_n 0, 1) := by decide +kernel
theorem d_Model_code_41 : decode prog_10_method_16_code 41 = .ok (.getfield 104, 3) := by decide +kernel
theorem d_Model_code_44 : decode prog_10_method_16_code 44 = .ok (.iload_n 1, 1) := by decide +kernel
theorem d_Model_code_45 : decode prog_10_method_16_code 45 = .ok (.bipush 8, 2) := by decide +kernel
theorem d_Model_code_47 : decode prog_10_method_16_code 47 = .ok (.iload_n 3, 1) := by decide +kernel
theorem d_Model_code_48 : decode prog_10_method_16_code 48 = .ok (.imul, 1) := by decide +kernel
theorem d_Model_code_49 : decode prog_10_method_16_code 49 = .ok (.ishr, 1) := by decide +kernel
theorem d_Model_code_50 : decode prog_10_method_16_code 50 = .ok (.sipush 255, 3) := by decide +kernel
theorem d_Model_code_53 : decode prog_10_method_16_code 53 = .ok (.iand, 1) := by decide +kernel
theorem d_Model_code_54 : decode prog_10_method_16_code 54 = .ok (.iastore, 1) := by decide +kernel
theorem d_Model_code_55 : decode prog_10_method_16_code 55 = .ok (.aload_n 0, 1) := by decide +kernel
theorem d_Model_code_56 : decode prog_10_method_16_code 56 = .ok (.dup, 1) := by decide +kernel
theorem d_Model_code_57 : decode prog_10_method_16_code 57 = .ok (.getfield 104, 3) := by decide +kernel
theorem d_Model_code_60 : decode prog_10_method_16_code 60 = .ok (.iconst 1, 1) := by decide +kernel
theorem d_Model_code_61 : decode prog_10_method_16_code 61 = .ok (.iadd, 1) := by decide +kernel
theorem d_Model_code_62 : decode prog_10_method_16_code 62 = .ok (.putfield 104, 3) := by decide +kernel
theorem d_Model_code_65 : decode prog_10_method_16_code 65 = .ok (.iinc 3 (-1), 3) := by decide +kernel
theorem d_Model_code_68 : decode prog_10_method_16_code 68 = .ok (.goto (-36), 3) := by decide +kernel
theorem d_Model_code_71 : decode prog_10_method_16_code 71 = .ok (.iconst 1, 1) := by decide +kernel
theorem d_Model_code_72 : decode prog_10_method_16_code 72 = .ok (.ireturn, 1) := by decide +kernel
theorem d_Model_code_26 : decode prog_10_method_16_code 26 = .ok (.iconst 0, 1) := by decide +kernel
theorem d_Model_code_27 : decode prog_10_method_16_code 27 = .ok (.ireturn, 1) := by decide +kernel
theorem d_Model_object_0 : decode prog_10_method_18_code 0 = .ok (.iload_n 1, 1) := by decide +kernel
theorem d_Model_object_1 : decode prog_10_method_18_code 1 = .ok (.iconst (-1), 1) := by decide +kernel
theorem d_Model_object_2 : decode prog_10_method_18_code 2 = .ok (.if_icmp .ne 7, 3) := by decide +kernel
theorem d_Model_object_5 : decode prog_10_method_18_code 5 = .ok (.iconst 0, 1) := by decide +kernel
theorem d_Model_object_6 : decode prog_10_method_18_code 6 = .ok (.goto 22, 3) := by decide +kernel
theorem d_Model_object_28 : decode prog_10_method_18_code 28 = .ok (.istore 4, 2) := by decide +kernel
theorem d_Model_object_30 : decode prog_10_method_18_code 30 = .ok (.aload_n 0, 1) := by decide +kernel
theorem d_Model_object_31 : decode prog_10_method_18_code 31 = .ok (.iload_n 1, 1) := by decide +kernel
theorem d_Model_object_32 : decode prog_10_method_18_code 32 = .ok (.invokevirtual 111, 3) := by decide +kernel
theorem d_Model_object_35 : decode prog_10_method_18_code 35 = .ok (.ifCond .eq 35, 3) := by decide +kernel
theorem d_Model_object_38 : decode prog_10_method_18_code 38 = .ok (.iload 4, 2) := by decide +kernel
theorem d_Model_object_40 : decode prog_10_method_18_code 40 = .ok (.iconst 1, 1) := by decide +kernel
theorem d_Model_object_41 : decode prog_10_method_18_code 41 = .ok (.if_icmp .lt 11, 3) := by decide +kernel
theorem d_Model_object_52 : decode prog_10_method_18_code 52 = .ok (.iload 4, 2) := by decide +kernel
theorem d_Model_object_54 : decode prog_10_method_18_code 54 = .ok (.iconst 2, 1) := by decide +kernel
theorem d_Model_object_55 : decode prog_10_method_18_code 55 = .ok (.if_icmp .lt 11, 3) := by decide +kernel
theorem d_Model_object_66 : decode prog_10_method_18_code 66 = .ok (.iconst 1, 1) := by decide +kernel
theorem d_Model_object_67 : decode prog_10_method_18_code 67 = .ok (.goto 4, 3) := by decide +kernel
theorem d_Model_object_71 : decode prog_10_method_18_code 71 = .ok (.istore 5, 2) := by decide +kernel
theorem d_Model_object_73 : decode prog_10_method_18_code 73 = .ok (.aload_n 0, 1) := by decide +kernel
theorem d_Model_object_74 : decode prog_10_method_18_code 74 = .ok (.iload 5, 2) := by decide +kernel
theorem d_Model_object_76 : decode prog_10_method_18_code 76 = .ok (.ifCond .ne 7, 3) := by decide +kernel
theorem d_Model_object_83 : decode prog_10_method_18_code 83 = .ok (.aload_n 0, 1) := by decide +kernel
theorem d_Model_object_84 : decode prog_10_method_18_code 84 = .ok (.getfield 71, 3) := by decide +kernel
theorem d_Model_object_87 : decode prog_10_method_18_code 87 = .ok (.ifCond .eq 12, 3) := by decide +kernel
theorem d_Model_object_90 : decode prog_10_method_18_code 90 = .ok (.aload_n 0, 1) := by decide +kernel
theorem d_Model_object_91 : decode prog_10_method_18_code 91 = .ok (.getfield 114, 3) := by decide +kernel
theorem d_Model_object_94 : decode prog_10_method_18_code 94 = .ok (.bipush 16, 2) := by decide +kernel
theorem d_Model_object_96 : decode prog_10_method_18_code 96 = .ok (.if_icmp .ne 7, 3) := by decide +kernel
theorem d_Model_object_103 : decode prog_10_method_18_code 103 = .ok (.iconst 0, 1) := by decide +kernel
theorem d_Model_object_104 : decode prog_10_method_18_code 104 = .ok (.putfield 75, 3) := by decide +kernel
theorem d_Model_object_107 : decode prog_10_method_18_code 107 = .ok (.aload_n 0, 1) := by decide +kernel
theorem d_Model_object_108 : decode prog_10_method_18_code 108 = .ok (.getfield 75, 3) := by decide +kernel
theorem d_Model_object_111 : decode prog_10_method_18_code 111 = .ok (.ifCond .le 5, 3) := by decide +kernel
theorem d_Model_object_116 : decode prog_10_method_18_code 116 = .ok (.aload_n 0, 1) := by decide +kernel
theorem d_Model_object_117 : decode prog_10_method_18_code 117 = .ok (.aload_n 0, 1) := by decide +kernel
theorem d_Model_object_118 : decode prog_10_method_18_code 118 = .ok (.getfield 114, 3) := by decide +kernel
theorem d_Model_object_121 : decode prog_10_method_18_code 121 = .ok (.invokevirtual 117, 3) := by decide +kernel
theorem d_Model_object_124 : decode prog_10_method_18_code 124 = .ok (.aload_n 0, 1) := by decide +kernel
theorem d_Model_object_125 : decode prog_10_method_18_code 125 = .ok (.getfield 13, 3) := by decide +kernel
theorem d_Model_object_128 : decode prog_10_method_18_code 128 = .ok (.bipush 29, 2) := by decide +kernel
theorem d_Model_object_130 : decode prog_10_method_18_code 130 = .ok (.aload_n 0, 1) := by decide +kernel
theorem d_Model_object_131 : decode prog_10_method_18_code 131 = .ok (.getfield 114, 3) := by decide +kernel
theorem d_Model_object_134 : decode prog_10_method_18_code 134 = .ok (.imul, 1) := by decide +kernel
theorem d_Model_object_135 : decode prog_10_method_18_code 135 = .ok (.iconst 1, 1) := by decide +kernel
theorem d_Model_object_136 : decode prog_10_method_18_code 136 = .ok (.iadd, 1) := by decide +kernel
theorem d_Model_object_137 : decode prog_10_method_18_code 137 = .ok (.iload 4, 2) := by decide +kernel
theorem d_Model_object_139 : decode prog_10_method_18_code 139 = .ok (.iastore, 1) := by decide +kernel
theorem d_Model_object_140 : decode prog_10_method_18_code 140 = .ok (.aload_n 0, 1) := by decide +kernel
theorem d_Model_object_141 : decode prog_10_method_18_code 141 = .ok (.getfield 13, 3) := by decide +kernel
theorem d_Model_object_144 : decode prog_10_method_18_code 144 = .ok (.bipush 29, 2) := by decide +kernel
theorem d_Model_object_146 : decode prog_10_method_18_code 146 = .ok (.aload_n 0, 1) := by decide +kernel
theorem d_Model_object_147 : decode prog_10_method_18_code 147 = .ok (.getfield 114, 3) := by decide +kernel
theorem d_Model_object_150 : decode prog_10_method_18_code 150 = .ok (.imul, 1) := by decide +kernel
theorem d_Model_object_151 : decode prog_10_method_18_code 151 = .ok (.iconst 2, 1) := by decide +kernel
theorem d_Model_object_152 : decode prog_10_method_18_code 152 = .ok (.iadd, 1) := by decide +kernel
theorem d_Model_object_153 : decode prog_10_method_18_code 153 = .ok (.iload_n 1, 1) := by decide +kernel
theorem d_Model_object_154 : decode prog_10_method_18_code 154 = .ok (.iastore, 1) := by decide +kernel
theorem d_Model_object_155 : decode prog_10_method_18_code 155 = .ok (.aload_n 0, 1) := by decide +kernel
theorem d_Model_object_156 : decode prog_10_method_18_code 156 = .ok (.getfield 13, 3) := by decide +kernel
theorem d_Model_object_159 : decode prog_10_method_18_code 159 = .ok (.bipush 29, 2) := by decide +kernel
theorem d_Model_object_161 : decode prog_10_method_18_code 161 = .ok (.aload_n 0, 1) := by decide +kernel
theorem d_Model_object_162 : decode prog_10_method_18_code 162 = .ok (.getfield 114, 3) := by decide +kernel
theorem d_Model_object_165 : decode prog_10_method_18_code 165 = .ok (.imul, 1) := by decide +kernel
theorem d_Model_object_166 : decode prog_10_method_18_code 166 = .ok (.iconst 3, 1) := by decide +kernel
theorem d_Model_object_167 : decode prog_10_method_18_code 167 = .ok (.iadd, 1) := by decide +kernel
theorem d_Model_object_168 : decode prog_10_method_18_code 168 = .ok (.iload_n 2, 1) := by decide +kernel
theorem d_Model_object_169 : decode prog_10_method_18_code 169 = .ok (.iastore, 1) := by decide +kernel
theorem d_Model_object_170 : decode prog_10_method_18_code 170 = .ok (.aload_n 0, 1) := by decide +kernel
theorem d_Model_object_171 : decode prog_10_method_18_code 171 = .ok (.getfield 13, 3) := by decide +kernel
theorem d_Model_object_174 : decode prog_10_method_18_code 174 = .ok (.bipush 29, 2) := by decide +kernel
theorem d_Model_object_176 : decode prog_10_method_18_code 176 = .ok (.aload_n 0, 1) := by decide +kernel
theorem d_Model_object_177 : decode prog_10_method_18_code 177 = .ok (.getfield 114, 3) := by decide +kernel
theorem d_Model_object_180 : decode prog_10_method_18_code 180 = .ok (.imul, 1) := by decide +kernel
theorem d_Model_object_181 : decode prog_10_method_18_code 181 = .ok (.iconst 4, 1) := by decide +kernel
theorem d_Model_object_182 : decode prog_10_method_18_code 182 = .ok (.iadd, 1) := by decide +kernel
theorem d_Model_object_183 : decode prog_10_method_18_code 183 = .ok (.iload_n 3, 1) := by decide +kernel
theorem d_Model_object_184 : decode prog_10_method_18_code 184 = .ok (.iastore, 1) := by decide +kernel
theorem d_Model_object_185 : decode prog_10_method_18_code 185 = .ok (.aload_n 0, 1) := by decide +kernel
theorem d_Model_object_186 : decode prog_10_method_18_code 186 = .ok (.dup, 1) := by decide +kernel
theorem d_Model_object_187 : decode prog_10_method_18_code 187 = .ok (.getfield 114, 3) := by decide +kernel
theorem d_Model_object_190 : decode prog_10_method_18_code 190 = .ok (.iconst 1, 1) := by decide +kernel
theorem d_Model_object_191 : decode prog_10_method_18_code 191 = .ok (.iadd, 1) := by decide +kernel
theorem d_Model_object_192 : decode prog_10_method_18_code 192 = .ok (.putfield 114, 3) := by decide +kernel
theorem d_Model_object_195 : decode prog_10_method_18_code 195 = .ok (.aload_n 0, 1) := by decide +kernel
theorem d_Model_object_196 : decode prog_10_method_18_code 196 = .ok (.getfield 16, 3) := by decide +kernel
theorem d_Model_object_199 : decode prog_10_method_18_code 199 = .ok (.iconst 0, 1) := by decide +kernel
theorem d_Model_object_200 : decode prog_10_method_18_code 200 = .ok (.iconst 0, 1) := by decide +kernel
theorem d_Model_object_201 : decode prog_10_method_18_code 201 = .ok (.bastore, 1) := by decide +kernel
theorem d_Model_object_202 : decode prog_10_method_18_code 202 = .ok (.aload_n 0, 1) := by decide +kernel
theorem d_Model_object_203 : decode prog_10_method_18_code 203 = .ok (.getfield 16, 3) := by decide +kernel
theorem d_Model_object_206 : decode prog_10_method_18_code 206 = .ok (.iconst 1, 1) := by decide +kernel
theorem d_Model_object_207 : decode prog_10_method_18_code 207 = .ok (.iconst 0, 1) := by decide +kernel
theorem d_Model_object_208 : decode prog_10_method_18_code 208 = .ok (.bastore, 1) := by decide +kernel
theorem d_Model_object_209 : decode prog_10_method_18_code 209 = .ok (.aload_n 0, 1) := by decide +kernel
theorem d_Model_object_210 : decode prog_10_method_18_code 210 = .ok (.getfield 114, 3) := by decide +kernel
theorem d_Model_object_213 : decode prog_10_method_18_code 213 = .ok (.iconst 1, 1) := by decide +kernel
theorem d_Model_object_214 : decode prog_10_method_18_code 214 = .ok (.isub, 1) := by decide +kernel
theorem d_Model_object_215 : decode prog_10_method_18_code 215 = .ok (.ireturn, 1) := by decide +kernel
theorem d_Model_object_9 : decode prog_10_method_18_code 9 = .ok (.iload_n 2, 1) := by decide +kernel
theorem d_Model_object_10 : decode prog_10_method_18_code 10 = .ok (.iconst (-1), 1) := by decide +kernel
theorem d_Model_object_11 : decode prog_10_method_18_code 11 = .ok (.if_icmp .ne 7, 3) := by decide +kernel
theorem d_Model_object_18 : decode prog_10_method_18_code 18 = .ok (.iload_n 3, 1) := by decide +kernel
theorem d_Model_object_19 : decode prog_10_method_18_code 19 = .ok (.iconst (-1), 1) := by decide +kernel
theorem d_Model_object_20 : decode prog_10_method_18_code 20 = .ok (.if_icmp .ne 7, 3) := by decide +kernel
theorem d_Model_object_27 : decode prog_10_method_18_code 27 = .ok (.iconst 3, 1) := by decide +kernel
theorem d_Model_object_70 : decode prog_10_method_18_code 70 = .ok (.iconst 0, 1) := by decide +kernel
theorem d_Model_object_79 : decode prog_10_method_18_code 79 = .ok (.iconst 1, 1) := by decide +kernel
theorem d_Model_object_80 : decode prog_10_method_18_code 80 = .ok (.goto 24, 3) := by decide +kernel
theorem d_Model_object_114 : decode prog_10_method_18_code 114 = .ok (.iconst 0, 1) := by decide +kernel
theorem d_Model_object_115 : decode prog_10_method_18_code 115 = .ok (.ireturn, 1) := by decide +kernel
theorem d_Model_object_23 : decode prog_10_method_18_code 23 = .ok (.iconst 2, 1) := by decide +kernel
theorem d_Model_object_24 : decode prog_10_method_18_code 24 = .ok (.goto 4, 3) := by decide +kernel
theorem d_Model_object_14 : decode prog_10_method_18_code 14 = .ok (.iconst 1, 1) := by decide +kernel
theorem d_Model_object_15 : decode prog_10_method_18_code 15 = .ok (.goto 13, 3) := by decide +kernel
theorem d_Model_property_0 : decode prog_10_method_19_code 0 = .ok (.iload_n 2, 1) := by decide +kernel
theorem d_Model_property_1 : decode prog_10_method_19_code 1 = .ok (.iconst 0, 1) := by decide +kernel
theorem d_Model_property_2 : decode prog_10_method_19_code 2 = .ok (.bipush 7, 2) := by decide +kernel
theorem d_Model_property_4 : decode prog_10_method_19_code 4 = .ok (.invokestatic 78, 3) := by decide +kernel
theorem d_Model_property_7 : decode prog_10_method_19_code 7 = .ok (.ifCond .ne 47, 3) := by decide +kernel
theorem d_Model_property_54 : decode prog_10_method_19_code 54 = .ok (.iconst 0, 1) := by decide +kernel
theorem d_Model_property_55 : decode prog_10_method_19_code 55 = .ok (.istore 5, 2) := by decide +kernel
theorem d_Model_property_57 : decode prog_10_method_19_code 57 = .ok (.aload_n 0, 1) := by decide +kernel
theorem d_Model_property_58 : decode prog_10_method_19_code 58 = .ok (.aload_n 0, 1) := by decide +kernel
theorem d_Model_property_59 : decode prog_10_method_19_code 59 = .ok (.iload_n 1, 1) := by decide +kernel
theorem d_Model_property_60 : decode prog_10_method_19_code 60 = .ok (.invokevirtual 107, 3) := by decide +kernel
theorem d_Model_property_63 : decode prog_10_method_19_code 63 = .ok (.ifCond .ne 7, 3) := by decide +kernel
theorem d_Model_property_66 : decode prog_10_method_19_code 66 = .ok (.iconst 1, 1) := by decide +kernel
theorem d_Model_property_67 : decode prog_10_method_19_code 67 = .ok (.goto 24, 3) := by decide +kernel
theorem d_Model_property_91 : decode prog_10_method_19_code 91 = .ok (.putfield 75, 3) := by decide +kernel
theorem d_Model_property_94 : decode prog_10_method_19_code 94 = .ok (.aload_n 0, 1) := by decide +kernel
theorem d_Model_property_95 : decode prog_10_method_19_code 95 = .ok (.getfield 75, 3) := by decide +kernel
theorem d_Model_property_98 : decode prog_10_method_19_code 98 = .ok (.ifCond .le 4, 3) := by decide +kernel
theorem d_Model_property_101 : decode prog_10_method_19_code 101 = .ok (.return_, 1) := by decide +kernel
theorem d_Model_property_10 : decode prog_10_method_19_code 10 = .ok (.iload_n 3, 1) := by decide +kernel
theorem d_Model_property_11 : decode prog_10_method_19_code 11 = .ok (.iconst (-1), 1) := by decide +kernel
theorem d_Model_property_12 : decode prog_10_method_19_code 12 = .ok (.iconst 4, 1) := by decide +kernel
theorem d_Model_property_13 : decode prog_10_method_19_code 13 = .ok (.invokestatic 78, 3) := by decide +kernel
theorem d_Model_property_16 : decode prog_10_method_19_code 16 = .ok (.ifCond .ne 38, 3) := by decide +kernel
theorem d_Model_property_19 : decode prog_10_method_19_code 19 = .ok (.iload_n 3, 1) := by decide +kernel
theorem d_Model_property_20 : decode prog_10_method_19_code 20 = .ok (.iconst 3, 1) := by decide +kernel
theorem d_Model_property_21 : decode prog_10_method_19_code 21 = .ok (.if_icmp .ne 12, 3) := by decide +kernel
theorem d_Model_property_33 : decode prog_10_method_19_code 33 = .ok (.iload_n 3, 1) := by decide +kernel
theorem d_Model_property_34 : decode prog_10_method_19_code 34 = .ok (.iconst 4, 1) := by decide +kernel
theorem d_Model_property_35 : decode prog_10_method_19_code 35 = .ok (.if_icmp .ne 15, 3) := by decide +kernel
theorem d_Model_property_50 : decode prog_10_method_19_code 50 = .ok (.iconst 1, 1) := by decide +kernel
theorem d_Model_property_51 : decode prog_10_method_19_code 51 = .ok (.goto 4, 3) := by decide +kernel
theorem d_Model_property_38 : decode prog_10_method_19_code 38 = .ok (.iload 4, 2) := by decide +kernel
theorem d_Model_property_40 : decode prog_10_method_19_code 40 = .ok (.iconst 0, 1) := by decide +kernel
theorem d_Model_property_41 : decode prog_10_method_19_code 41 = .ok (.sipush 299, 3) := by decide +kernel
theorem d_Model_property_44 : decode prog_10_method_19_code 44 = .ok (.invokestatic 78, 3) := by decide +kernel
theorem d_Model_property_47 : decode prog_10_method_19_code 47 = .ok (.ifCond .ne 7, 3) := by decide +kernel
theorem d_Model_property_24 : decode prog_10_method_19_code 24 = .ok (.aload_n 0, 1) := by decide +kernel
theorem d_Model_property_25 : decode prog_10_method_19_code 25 = .ok (.iload 4, 2) := by decide +kernel
theorem d_Model_property_27 : decode prog_10_method_19_code 27 = .ok (.invokevirtual 107, 3) := by decide +kernel
theorem d_Model_property_30 : decode prog_10_method_19_code 30 = .ok (.ifCond .eq 24, 3) := by decide +kernel
theorem d_Model_begin_0 : decode prog_10_method_24_code 0 = .ok (.aload_n 0, 1) := by decide +kernel
theorem d_Model_begin_1 : decode prog_10_method_24_code 1 = .ok (.iconst 0, 1) := by decide +kernel
theorem d_Model_begin_2 : decode prog_10_method_24_code 2 = .ok (.putfield 75, 3) := by decide +kernel
theorem d_Model_begin_5 : decode prog_10_method_24_code 5 = .ok (.aload_n 0, 1) := by decide +kernel
theorem d_Model_begin_6 : decode prog_10_method_24_code 6 = .ok (.iload_n 1, 1) := by decide +kernel
theorem d_Model_begin_7 : decode prog_10_method_24_code 7 = .ok (.invokevirtual 107, 3) := by decide +kernel
theorem d_Model_begin_10 : decode prog_10_method_24_code 10 = .ok (.ifCond .ne 11, 3) := by decide +kernel
theorem d_Model_begin_13 : decode prog_10_method_24_code 13 = .ok (.aload_n 0, 1) := by decide +kernel
theorem d_Model_begin_14 : decode prog_10_method_24_code 14 = .ok (.iconst 1, 1) := by decide +kernel
theorem d_Model_begin_15 : decode prog_10_method_24_code 15 = .ok (.putfield 75, 3) := by decide +kernel
theorem d_Model_begin_18 : decode prog_10_method_24_code 18 = .ok (.goto 18, 3) := by decide +kernel
theorem d_Model_begin_36 : decode prog_10_method_24_code 36 = .ok (.aload_n 0, 1) := by decide +kernel
theorem d_Model_begin_37 : decode prog_10_method_24_code 37 = .ok (.getfield 75, 3) := by decide +kernel
theorem d_Model_begin_40 : decode prog_10_method_24_code 40 = .ok (.ifCond .le 4, 3) := by decide +kernel
theorem d_Model_begin_43 : decode prog_10_method_24_code 43 = .ok (.return_, 1) := by decide +kernel
theorem d_Model_run_0 : decode prog_10_method_26_code 0 = .ok (.aload_n 0, 1) := by decide +kernel
theorem d_Model_run_1 : decode prog_10_method_26_code 1 = .ok (.iconst 0, 1) := by decide +kernel
theorem d_Model_run_2 : decode prog_10_method_26_code 2 = .ok (.putfield 75, 3) := by decide +kernel
theorem d_Model_run_5 : decode prog_10_method_26_code 5 = .ok (.iconst 0, 1) := by decide +kernel
theorem d_Model_run_6 : decode prog_10_method_26_code 6 = .ok (.istore_n 2, 1) := by decide +kernel
theorem d_Model_run_7 : decode prog_10_method_26_code 7 = .ok (.iload_n 2, 1) := by decide +kernel
theorem d_Model_run_8 : decode prog_10_method_26_code 8 = .ok (.iload_n 1, 1) := by decide +kernel
theorem d_Model_run_9 : decode prog_10_method_26_code 9 = .ok (.if_icmp .ge 36, 3) := by decide +kernel
theorem d_Model_run_45 : decode prog_10_method_26_code 45 = .ok (.aload_n 0, 1) := by decide +kernel
theorem d_Model_run_46 : decode prog_10_method_26_code 46 = .ok (.getfield 71, 3) := by decide +kernel
theorem d_Model_run_49 : decode prog_10_method_26_code 49 = .ok (.ireturn, 1) := by decide +kernel
theorem d_Model_run_12 : decode prog_10_method_26_code 12 = .ok (.iload_n 2, 1) := by decide +kernel
theorem d_Model_run_13 : decode prog_10_method_26_code 13 = .ok (.sipush 3000, 3) := by decide +kernel
theorem d_Model_run_16 : decode prog_10_method_26_code 16 = .ok (.if_icmp .ge 29, 3) := by decide +kernel
theorem d_Model_run_19 : decode prog_10_method_26_code 19 = .ok (.aload_n 0, 1) := by decide +kernel
theorem d_Model_run_20 : decode prog_10_method_26_code 20 = .ok (.getfield 71, 3) := by decide +kernel
theorem d_Model_run_23 : decode prog_10_method_26_code 23 = .ok (.ifCond .ne 22, 3) := by decide +kernel
theorem d_Model_stop_0 : decode prog_10_method_27_code 0 = .ok (.aload_n 0, 1) := by decide +kernel
theorem d_Model_stop_1 : decode prog_10_method_27_code 1 = .ok (.iconst 0, 1) := by decide +kernel
theorem d_Model_stop_2 : decode prog_10_method_27_code 2 = .ok (.putfield 75, 3) := by decide +kernel
theorem d_Model_stop_5 : decode prog_10_method_27_code 5 = .ok (.aload_n 0, 1) := by decide +kernel
theorem d_Model_stop_6 : decode prog_10_method_27_code 6 = .ok (.getfield 71, 3) := by decide +kernel
theorem d_Model_stop_9 : decode prog_10_method_27_code 9 = .ok (.ifCond .eq 5, 3) := by decide +kernel
theorem d_Model_stop_12 : decode prog_10_method_27_code 12 = .ok (.iconst 0, 1) := by decide +kernel
theorem d_Model_stop_13 : decode prog_10_method_27_code 13 = .ok (.ireturn, 1) := by decide +kernel
theorem d_Model_mark_0 : decode prog_10_method_48_code 0 = .ok (.iload_n 2, 1) := by decide +kernel
theorem d_Model_mark_1 : decode prog_10_method_48_code 1 = .ok (.iconst 3, 1) := by decide +kernel
theorem d_Model_mark_2 : decode prog_10_method_48_code 2 = .ok (.if_icmp .ne 19, 3) := by decide +kernel
theorem d_Model_mark_21 : decode prog_10_method_48_code 21 = .ok (.iload_n 1, 1) := by decide +kernel
theorem d_Model_mark_22 : decode prog_10_method_48_code 22 = .ok (.ireturn, 1) := by decide +kernel
theorem d_Model_mark_5 : decode prog_10_method_48_code 5 = .ok (.aload_n 0, 1) := by decide +kernel
theorem d_Model_mark_6 : decode prog_10_method_48_code 6 = .ok (.iload_n 3, 1) := by decide +kernel
theorem d_Model_mark_7 : decode prog_10_method_48_code 7 = .ok (.invokevirtual 107, 3) := by decide +kernel
theorem d_Model_mark_10 : decode prog_10_method_48_code 10 = .ok (.ifCond .eq 11, 3) := by decide +kernel
theorem d_Model_collect_0 : decode prog_10_method_50_code 0 = .ok (.aload_n 0, 1) := by decide +kernel
theorem d_Model_collect_1 : decode prog_10_method_50_code 1 = .ok (.iconst 0, 1) := by decide +kernel
theorem d_Model_collect_2 : decode prog_10_method_50_code 2 = .ok (.putfield 75, 3) := by decide +kernel
theorem d_Model_collect_5 : decode prog_10_method_50_code 5 = .ok (.aload_n 0, 1) := by decide +kernel
theorem d_Model_collect_6 : decode prog_10_method_50_code 6 = .ok (.iconst 0, 1) := by decide +kernel
theorem d_Model_collect_7 : decode prog_10_method_50_code 7 = .ok (.aload_n 0, 1) := by decide +kernel
theorem d_Model_collect_8 : decode prog_10_method_50_code 8 = .ok (.getfield 147, 3) := by decide +kernel
theorem d_Model_collect_11 : decode prog_10_method_50_code 11 = .ok (.aload_n 0, 1) := by decide +kernel
theorem d_Model_collect_12 : decode prog_10_method_50_code 12 = .ok (.getfield 150, 3) := by decide +kernel
theorem d_Model_collect_15 : decode prog_10_method_50_code 15 = .ok (.invokevirtual 232, 3) := by decide +kernel
theorem d_Model_collect_18 : decode prog_10_method_50_code 18 = .ok (.istore_n 1, 1) := by decide +kernel
theorem d_Model_collect_19 : decode prog_10_method_50_code 19 = .ok (.iconst 0, 1) := by decide +kernel
theorem d_Model_collect_20 : decode prog_10_method_50_code 20 = .ok (.istore_n 2, 1) := by decide +kernel
theorem d_Model_collect_21 : decode prog_10_method_50_code 21 = .ok (.iload_n 2, 1) := by decide +kernel
theorem d_Model_collect_22 : decode prog_10_method_50_code 22 = .ok (.bipush 16, 2) := by decide +kernel
theorem d_Model_collect_24 : decode prog_10_method_50_code 24 = .ok (.if_icmp .ge 17, 3) := by decide +kernel
theorem d_Model_collect_27 : decode prog_10_method_50_code 27 = .ok (.aload_n 0, 1) := by decide +kernel
theorem d_Model_collect_28 : decode prog_10_method_50_code 28 = .ok (.iload_n 1, 1) := by decide +kernel
theorem d_Model_collect_29 : decode prog_10_method_50_code 29 = .ok (.iconst 3, 1) := by decide +kernel
theorem d_Model_collect_30 : decode prog_10_method_50_code 30 = .ok (.iload_n 2, 1) := by decide +kernel
theorem d_Model_collect_31 : decode prog_10_method_50_code 31 = .ok (.invokevirtual 232, 3) := by decide +kernel
theorem d_Model_collect_34 : decode prog_10_method_50_code 34 = .ok (.istore_n 1, 1) := by decide +kernel
theorem d_Model_collect_35 : decode prog_10_method_50_code 35 = .ok (.iinc 2 1, 3) := by decide +kernel
theorem d_Model_collect_38 : decode prog_10_method_50_code 38 = .ok (.goto (-17), 3) := by decide +kernel
theorem d_Model_collect_41 : decode prog_10_method_50_code 41 = .ok (.iconst 0, 1) := by decide +kernel
theorem d_Model_collect_42 : decode prog_10_method_50_code 42 = .ok (.istore_n 2, 1) := by decide +kernel
theorem d_Model_collect_43 : decode prog_10_method_50_code 43 = .ok (.iload_n 2, 1) := by decide +kernel
theorem d_Model_collect_44 : decode prog_10_method_50_code 44 = .ok (.aload_n 0, 1) := by decide +kernel
theorem d_Model_collect_45 : decode prog_10_method_50_code 45 = .ok (.getfield 130, 3) := by decide +kernel
theorem d_Model_collect_48 : decode prog_10_method_50_code 48 = .ok (.if_icmp .ge 27, 3) := by decide +kernel
theorem d_Model_collect_75 : decode prog_10_method_50_code 75 = .ok (.iconst 0, 1) := by decide +kernel
theorem d_Model_collect_76 : decode prog_10_method_50_code 76 = .ok (.istore_n 2, 1) := by decide +kernel
theorem d_Model_collect_77 : decode prog_10_method_50_code 77 = .ok (.iload_n 2, 1) := by decide +kernel
theorem d_Model_collect_78 : decode prog_10_method_50_code 78 = .ok (.aload_n 0, 1) := by decide +kernel
theorem d_Model_collect_79 : decode prog_10_method_50_code 79 = .ok (.getfield 127, 3) := by decide +kernel
theorem d_Model_collect_82 : decode prog_10_method_50_code 82 = .ok (.if_icmp .ge 33, 3) := by decide +kernel
theorem d_Model_collect_115 : decode prog_10_method_50_code 115 = .ok (.iconst 0, 1) := by decide +kernel
theorem d_Model_collect_116 : decode prog_10_method_50_code 116 = .ok (.istore_n 2, 1) := by decide +kernel
theorem d_Model_collect_117 : decode prog_10_method_50_code 117 = .ok (.iload_n 1, 1) := by decide +kernel
theorem d_Model_collect_118 : decode prog_10_method_50_code 118 = .ok (.iload_n 2, 1) := by decide +kernel
theorem d_Model_collect_119 : decode prog_10_method_50_code 119 = .ok (.if_icmp .eq 14, 3) := by decide +kernel
theorem d_Model_collect_133 : decode prog_10_method_50_code 133 = .ok (.iconst 0, 1) := by decide +kernel
theorem d_Model_collect_134 : decode prog_10_method_50_code 134 = .ok (.istore_n 3, 1) := by decide +kernel
theorem d_Model_collect_135 : decode prog_10_method_50_code 135 = .ok (.bipush 16, 2) := by decide +kernel
theorem d_Model_collect_137 : decode prog_10_method_50_code 137 = .ok (.istore 4, 2) := by decide +kernel
theorem d_Model_collect_139 : decode prog_10_method_50_code 139 = .ok (.iload 4, 2) := by decide +kernel
theorem d_Model_collect_141 : decode prog_10_method_50_code 141 = .ok (.bipush 32, 2) := by decide +kernel
theorem d_Model_collect_143 : decode prog_10_method_50_code 143 = .ok (.if_icmp .ge 63, 3) := by decide +kernel
theorem d_Model_collect_146 : decode prog_10_method_50_code 146 = .ok (.aload_n 0, 1) := by decide +kernel
theorem d_Model_collect_147 : decode prog_10_method_50_code 147 = .ok (.iload 4, 2) := by decide +kernel
theorem d_Model_collect_149 : decode prog_10_method_50_code 149 = .ok (.invokevirtual 107, 3) := by decide +kernel
theorem d_Model_collect_152 : decode prog_10_method_50_code 152 = .ok (.ifCond .eq 16, 3) := by decide +kernel
theorem d_Model_collect_168 : decode prog_10_method_50_code 168 = .ok (.iconst 0, 1) := by decide +kernel
theorem d_Model_collect_169 : decode prog_10_method_50_code 169 = .ok (.istore 5, 2) := by decide +kernel
theorem d_Model_collect_171 : decode prog_10_method_50_code 171 = .ok (.iload 5, 2) := by decide +kernel
theorem d_Model_collect_173 : decode prog_10_method_50_code 173 = .ok (.ifCond .eq 14, 3) := by decide +kernel
theorem d_Model_collect_187 : decode prog_10_method_50_code 187 = .ok (.iload 5, 2) := by decide +kernel
theorem d_Model_collect_189 : decode prog_10_method_50_code 189 = .ok (.ifCond .eq 9, 3) := by decide +kernel
theorem d_Model_collect_198 : decode prog_10_method_50_code 198 = .ok (.iload_n 3, 1) := by decide +kernel
theorem d_Model_collect_199 : decode prog_10_method_50_code 199 = .ok (.istore_n 3, 1) := by decide +kernel
theorem d_Model_collect_200 : decode prog_10_method_50_code 200 = .ok (.iinc 4 1, 3) := by decide +kernel
theorem d_Model_collect_203 : decode prog_10_method_50_code 203 = .ok (.goto (-64), 3) := by decide +kernel
theorem d_Model_collect_206 : decode prog_10_method_50_code 206 = .ok (.iload_n 3, 1) := by decide +kernel
theorem d_Model_collect_207 : decode prog_10_method_50_code 207 = .ok (.ireturn, 1) := by decide +kernel
theorem d_Model_stack_0 : decode prog_10_method_51_code 0 = .ok (.iload_n 1, 1) := by decide +kernel
theorem d_Model_stack_1 : decode prog_10_method_51_code 1 = .ok (.iconst 0, 1) := by decide +kernel
theorem d_Model_stack_2 : decode prog_10_method_51_code 2 = .ok (.aload_n 0, 1) := by decide +kernel
theorem d_Model_stack_3 : decode prog_10_method_51_code 3 = .ok (.getfield 130, 3) := by decide +kernel
theorem d_Model_stack_6 : decode prog_10_method_51_code 6 = .ok (.iconst 1, 1) := by decide +kernel
theorem d_Model_stack_7 : decode prog_10_method_51_code 7 = .ok (.isub, 1) := by decide +kernel
theorem d_Model_stack_8 : decode prog_10_method_51_code 8 = .ok (.invokestatic 78, 3) := by decide +kernel
theorem d_Model_stack_11 : decode prog_10_method_51_code 11 = .ok (.ifCond .ne 12, 3) := by decide +kernel
theorem d_Model_stack_23 : decode prog_10_method_51_code 23 = .ok (.aload_n 0, 1) := by decide +kernel
theorem d_Model_stack_24 : decode prog_10_method_51_code 24 = .ok (.iconst 1, 1) := by decide +kernel
theorem d_Model_stack_25 : decode prog_10_method_51_code 25 = .ok (.invokevirtual 238, 3) := by decide +kernel
theorem d_Model_stack_28 : decode prog_10_method_51_code 28 = .ok (.ireturn, 1) := by decide +kernel
theorem d_Model_said_0 : decode prog_10_method_53_code 0 = .ok (.iload_n 1, 1) := by decide +kernel
theorem d_Model_said_1 : decode prog_10_method_53_code 1 = .ok (.iconst (-1), 1) := by decide +kernel
theorem d_Model_said_2 : decode prog_10_method_53_code 2 = .ok (.aload_n 0, 1) := by decide +kernel
theorem d_Model_said_3 : decode prog_10_method_53_code 3 = .ok (.getfield 144, 3) := by decide +kernel
theorem d_Model_said_6 : decode prog_10_method_53_code 6 = .ok (.iconst 1, 1) := by decide +kernel
theorem d_Model_said_7 : decode prog_10_method_53_code 7 = .ok (.isub, 1) := by decide +kernel
theorem d_Model_said_8 : decode prog_10_method_53_code 8 = .ok (.invokestatic 78, 3) := by decide +kernel
theorem d_Model_said_11 : decode prog_10_method_53_code 11 = .ok (.ifCond .ne 33, 3) := by decide +kernel
theorem d_Model_said_44 : decode prog_10_method_53_code 44 = .ok (.aload_n 0, 1) := by decide +kernel
theorem d_Model_said_45 : decode prog_10_method_53_code 45 = .ok (.iconst 1, 1) := by decide +kernel
theorem d_Model_said_46 : decode prog_10_method_53_code 46 = .ok (.invokevirtual 238, 3) := by decide +kernel
theorem d_Model_said_49 : decode prog_10_method_53_code 49 = .ok (.ireturn, 1) := by decide +kernel
theorem d_Model_said_14 : decode prog_10_method_53_code 14 = .ok (.iload_n 2, 1) := by decide +kernel
theorem d_Model_said_15 : decode prog_10_method_53_code 15 = .ok (.iconst 0, 1) := by decide +kernel
theorem d_Model_said_16 : decode prog_10_method_53_code 16 = .ok (.iconst 1, 1) := by decide +kernel
theorem d_Model_said_17 : decode prog_10_method_53_code 17 = .ok (.invokestatic 78, 3) := by decide +kernel
theorem d_Model_said_20 : decode prog_10_method_53_code 20 = .ok (.ifCond .ne 24, 3) := by decide +kernel
theorem d_Model_said_23 : decode prog_10_method_53_code 23 = .ok (.iload_n 1, 1) := by decide +kernel
theorem d_Model_said_24 : decode prog_10_method_53_code 24 = .ok (.iconst (-1), 1) := by decide +kernel
theorem d_Model_said_25 : decode prog_10_method_53_code 25 = .ok (.if_icmp .ne 25, 3) := by decide +kernel
theorem d_Model_said_28 : decode prog_10_method_53_code 28 = .ok (.aload_n 0, 1) := by decide +kernel
theorem d_Model_said_29 : decode prog_10_method_53_code 29 = .ok (.getfield 71, 3) := by decide +kernel
theorem d_Model_said_32 : decode prog_10_method_53_code 32 = .ok (.iconst 1, 1) := by decide +kernel
theorem d_Model_said_33 : decode prog_10_method_53_code 33 = .ok (.if_icmp .eq 17, 3) := by decide +kernel
theorem d_Model_said_36 : decode prog_10_method_53_code 36 = .ok (.aload_n 0, 1) := by decide +kernel
theorem d_Model_said_37 : decode prog_10_method_53_code 37 = .ok (.getfield 71, 3) := by decide +kernel
theorem d_Model_said_40 : decode prog_10_method_53_code 40 = .ok (.iconst 2, 1) := by decide +kernel
theorem d_Model_said_41 : decode prog_10_method_53_code 41 = .ok (.if_icmp .eq 9, 3) := by decide +kernel
theorem d_Model_has_0 : decode prog_10_method_54_code 0 = .ok (.aload_n 0, 1) := by decide +kernel
theorem d_Model_has_1 : decode prog_10_method_54_code 1 = .ok (.iload_n 1, 1) := by decide +kernel
theorem d_Model_has_2 : decode prog_10_method_54_code 2 = .ok (.invokevirtual 107, 3) := by decide +kernel
theorem d_Model_has_5 : decode prog_10_method_54_code 5 = .ok (.ifCond .eq 22, 3) := by decide +kernel
theorem d_Model_has_27 : decode prog_10_method_54_code 27 = .ok (.aload_n 0, 1) := by decide +kernel
theorem d_Model_has_28 : decode prog_10_method_54_code 28 = .ok (.iconst 1, 1) := by decide +kernel
theorem d_Model_has_29 : decode prog_10_method_54_code 29 = .ok (.invokevirtual 238, 3) := by decide +kernel
theorem d_Model_has_32 : decode prog_10_method_54_code 32 = .ok (.ireturn, 1) := by decide +kernel
theorem d_Model_isOf_0 : decode prog_10_method_55_code 0 = .ok (.aload_n 0, 1) := by decide +kernel
theorem d_Model_isOf_1 : decode prog_10_method_55_code 1 = .ok (.iconst 0, 1) := by decide +kernel
theorem d_Model_isOf_2 : decode prog_10_method_55_code 2 = .ok (.putfield 75, 3) := by decide +kernel
theorem d_Model_isOf_5 : decode prog_10_method_55_code 5 = .ok (.aload_n 0, 1) := by decide +kernel
theorem d_Model_isOf_6 : decode prog_10_method_55_code 6 = .ok (.iload_n 1, 1) := by decide +kernel
theorem d_Model_isOf_7 : decode prog_10_method_55_code 7 = .ok (.invokevirtual 107, 3) := by decide +kernel
theorem d_Model_isOf_10 : decode prog_10_method_55_code 10 = .ok (.ifCond .eq 24, 3) := by decide +kernel
theorem d_Model_isOf_34 : decode prog_10_method_55_code 34 = .ok (.iconst 0, 1) := by decide +kernel
theorem d_Model_isOf_35 : decode prog_10_method_55_code 35 = .ok (.ireturn, 1) := by decide +kernel
theorem d_Model_show_0 : decode prog_10_method_52_code 0 = .ok (.iload_n 1, 1) := by decide +kernel
theorem d_Model_show_1 : decode prog_10_method_52_code 1 = .ok (.iconst 0, 1) := by decide +kernel
theorem d_Model_show_2 : decode prog_10_method_52_code 2 = .ok (.iconst 5, 1) := by decide +kernel
theorem d_Model_show_3 : decode prog_10_method_52_code 3 = .ok (.invokestatic 78, 3) := by decide +kernel
theorem d_Model_show_6 : decode prog_10_method_52_code 6 = .ok (.ifCond .ne 20, 3) := by decide +kernel
theorem d_Model_show_9 : decode prog_10_method_52_code 9 = .ok (.aload_n 0, 1) := by decide +kernel
theorem d_Model_show_10 : decode prog_10_method_52_code 10 = .ok (.getfield 127, 3) := by decide +kernel
theorem d_Model_show_13 : decode prog_10_method_52_code 13 = .ok (.ifCond .ne 19, 3) := by decide +kernel
theorem d_Model_show_16 : decode prog_10_method_52_code 16 = .ok (.iload_n 1, 1) := by decide +kernel
theorem d_Model_show_17 : decode prog_10_method_52_code 17 = .ok (.iconst 1, 1) := by decide +kernel
theorem d_Model_show_18 : decode prog_10_method_52_code 18 = .ok (.if_icmp .eq 8, 3) := by decide +kernel
theorem d_Model_show_21 : decode prog_10_method_52_code 21 = .ok (.iload_n 1, 1) := by decide +kernel
theorem d_Model_show_22 : decode prog_10_method_52_code 22 = .ok (.iconst 2, 1) := by decide +kernel
theorem d_Model_show_23 : decode prog_10_method_52_code 23 = .ok (.if_icmp .ne 9, 3) := by decide +kernel
theorem d_Model_show_32 : decode prog_10_method_52_code 32 = .ok (.aload_n 0, 1) := by decide +kernel
theorem d_Model_show_33 : decode prog_10_method_52_code 33 = .ok (.iconst 0, 1) := by decide +kernel
theorem d_Model_show_34 : decode prog_10_method_52_code 34 = .ok (.putfield 75, 3) := by decide +kernel
theorem d_Model_show_37 : decode prog_10_method_52_code 37 = .ok (.iconst 0, 1) := by decide +kernel
theorem d_Model_show_38 : decode prog_10_method_52_code 38 = .ok (.istore_n 2, 1) := by decide +kernel
theorem d_Model_show_39 : decode prog_10_method_52_code 39 = .ok (.iconst 0, 1) := by decide +kernel
theorem d_Model_show_40 : decode prog_10_method_52_code 40 = .ok (.istore_n 3, 1) := by decide +kernel
theorem d_Model_show_41 : decode prog_10_method_52_code 41 = .ok (.iload_n 3, 1) := by decide +kernel
theorem d_Model_show_42 : decode prog_10_method_52_code 42 = .ok (.bipush 32, 2) := by decide +kernel
theorem d_Model_show_44 : decode prog_10_method_52_code 44 = .ok (.if_icmp .ge 21, 3) := by decide +kernel
theorem d_Model_show_47 : decode prog_10_method_52_code 47 = .ok (.iload_n 2, 1) := by decide +kernel
theorem d_Model_show_48 : decode prog_10_method_52_code 48 = .ok (.aload_n 0, 1) := by decide +kernel
theorem d_Model_show_49 : decode prog_10_method_52_code 49 = .ok (.getfield 13, 3) := by decide +kernel
theorem d_Model_show_52 : decode prog_10_method_52_code 52 = .ok (.bipush 29, 2) := by decide +kernel
theorem d_Model_show_54 : decode prog_10_method_52_code 54 = .ok (.iload_n 3, 1) := by decide +kernel
theorem d_Model_show_55 : decode prog_10_method_52_code 55 = .ok (.imul, 1) := by decide +kernel
theorem d_Model_show_56 : decode prog_10_method_52_code 56 = .ok (.iaload, 1) := by decide +kernel
theorem d_Model_show_57 : decode prog_10_method_52_code 57 = .ok (.iadd, 1) := by decide +kernel
theorem d_Model_show_58 : decode prog_10_method_52_code 58 = .ok (.istore_n 2, 1) := by decide +kernel
theorem d_Model_show_59 : decode prog_10_method_52_code 59 = .ok (.iinc 3 1, 3) := by decide +kernel
theorem d_Model_show_62 : decode prog_10_method_52_code 62 = .ok (.goto (-21), 3) := by decide +kernel
theorem d_Model_show_65 : decode prog_10_method_52_code 65 = .ok (.iload_n 1, 1) := by decide +kernel
theorem d_Model_show_66 : decode prog_10_method_52_code 66 = .ok (.tableswitch 70 0 4 #[34, 39, 51, 63, 68], 34) := by decide +kernel
theorem d_Model_show_100 : decode prog_10_method_52_code 100 = .ok (.aload_n 0, 1) := by decide +kernel
theorem d_Model_show_101 : decode prog_10_method_52_code 101 = .ok (.getfield 127, 3) := by decide +kernel
theorem d_Model_show_104 : decode prog_10_method_52_code 104 = .ok (.ireturn, 1) := by decide +kernel
theorem d_Model_show_129 : decode prog_10_method_52_code 129 = .ok (.aload_n 0, 1) := by decide +kernel
theorem d_Model_show_130 : decode prog_10_method_52_code 130 = .ok (.getfield 153, 3) := by decide +kernel
theorem d_Model_show_133 : decode prog_10_method_52_code 133 = .ok (.ireturn, 1) := by decide +kernel
theorem d_Model_show_134 : decode prog_10_method_52_code 134 = .ok (.iload_n 2, 1) := by decide +kernel
theorem d_Model_show_135 : decode prog_10_method_52_code 135 = .ok (.ireturn, 1) := by decide +kernel
theorem d_Model_show_136 : decode prog_10_method_52_code 136 = .ok (.aload_n 0, 1) := by decide +kernel
theorem d_Model_show_137 : decode prog_10_method_52_code 137 = .ok (.getfield 144, 3) := by decide +kernel
theorem d_Model_show_140 : decode prog_10_method_52_code 140 = .ok (.ireturn, 1) := by decide +kernel
theorem d_Model_show_26 : decode prog_10_method_52_code 26 = .ok (.aload_n 0, 1) := by decide +kernel
theorem d_Model_show_27 : decode prog_10_method_52_code 27 = .ok (.iconst 1, 1) := by decide +kernel
theorem d_Model_show_28 : decode prog_10_method_52_code 28 = .ok (.invokevirtual 238, 3) := by decide +kernel
theorem d_Model_show_31 : decode prog_10_method_52_code 31 = .ok (.ireturn, 1) := by decide +kernel
theorem d_Arrays_fill_0 : decode prog_19_method_103_code 0 = .ok (.iconst 0, 1) := by decide +kernel
theorem d_Arrays_fill_1 : decode prog_19_method_103_code 1 = .ok (.istore_n 2, 1) := by decide +kernel
theorem d_Arrays_fill_2 : decode prog_19_method_103_code 2 = .ok (.aload_n 0, 1) := by decide +kernel
theorem d_Arrays_fill_3 : decode prog_19_method_103_code 3 = .ok (.arraylength, 1) := by decide +kernel
theorem d_Arrays_fill_4 : decode prog_19_method_103_code 4 = .ok (.istore_n 3, 1) := by decide +kernel
theorem d_Arrays_fill_5 : decode prog_19_method_103_code 5 = .ok (.iload_n 2, 1) := by decide +kernel
theorem d_Arrays_fill_6 : decode prog_19_method_103_code 6 = .ok (.iload_n 3, 1) := by decide +kernel
theorem d_Arrays_fill_7 : decode prog_19_method_103_code 7 = .ok (.if_icmp .ge 13, 3) := by decide +kernel
theorem d_Arrays_fill_10 : decode prog_19_method_103_code 10 = .ok (.aload_n 0, 1) := by decide +kernel
theorem d_Arrays_fill_11 : decode prog_19_method_103_code 11 = .ok (.iload_n 2, 1) := by decide +kernel
theorem d_Arrays_fill_12 : decode prog_19_method_103_code 12 = .ok (.iload_n 1, 1) := by decide +kernel
theorem d_Arrays_fill_13 : decode prog_19_method_103_code 13 = .ok (.iastore, 1) := by decide +kernel
theorem d_Arrays_fill_14 : decode prog_19_method_103_code 14 = .ok (.iinc 2 1, 3) := by decide +kernel
theorem d_Arrays_fill_17 : decode prog_19_method_103_code 17 = .ok (.goto (-12), 3) := by decide +kernel
theorem d_Arrays_fill_20 : decode prog_19_method_103_code 20 = .ok (.return_, 1) := by decide +kernel
theorem d_Script_init_0 : decode prog_4_method_1_code 0 = .ok (.aload_n 0, 1) := by decide +kernel
theorem d_Script_init_1 : decode prog_4_method_1_code 1 = .ok (.invokespecial 3, 3) := by decide +kernel
theorem d_Script_init_4 : decode prog_4_method_1_code 4 = .ok (.aload_n 0, 1) := by decide +kernel
theorem d_Script_init_5 : decode prog_4_method_1_code 5 = .ok (.sipush 300, 3) := by decide +kernel
theorem d_Script_init_8 : decode prog_4_method_1_code 8 = .ok (.newarray .int, 2) := by decide +kernel
theorem d_Script_init_10 : decode prog_4_method_1_code 10 = .ok (.putfield 9, 3) := by decide +kernel
theorem d_Script_init_13 : decode prog_4_method_1_code 13 = .ok (.return_, 1) := by decide +kernel
theorem d_Frame_init_0 : decode prog_2_method_1_code 0 = .ok (.aload_n 0, 1) := by decide +kernel
theorem d_Frame_init_1 : decode prog_2_method_1_code 1 = .ok (.invokespecial 1, 3) := by decide +kernel
theorem d_Frame_init_4 : decode prog_2_method_1_code 4 = .ok (.return_, 1) := by decide +kernel
theorem d_Values_init_0 : decode prog_7_method_1_code 0 = .ok (.aload_n 0, 1) := by decide +kernel
theorem d_Values_init_1 : decode prog_7_method_1_code 1 = .ok (.invokespecial 1, 3) := by decide +kernel
theorem d_Values_init_4 : decode prog_7_method_1_code 4 = .ok (.aload_n 0, 1) := by decide +kernel
theorem d_Values_init_5 : decode prog_7_method_1_code 5 = .ok (.iload_n 1, 1) := by decide +kernel
theorem d_Values_init_6 : decode prog_7_method_1_code 6 = .ok (.newarray .int, 2) := by decide +kernel
theorem d_Values_init_8 : decode prog_7_method_1_code 8 = .ok (.putfield 7, 3) := by decide +kernel
theorem d_Values_init_11 : decode prog_7_method_1_code 11 = .ok (.aload_n 0, 1) := by decide +kernel
theorem d_Values_init_12 : decode prog_7_method_1_code 12 = .ok (.iload_n 1, 1) := by decide +kernel
theorem d_Values_init_13 : decode prog_7_method_1_code 13 = .ok (.newarray .int, 2) := by decide +kernel
theorem d_Values_init_15 : decode prog_7_method_1_code 15 = .ok (.putfield 13, 3) := by decide +kernel
theorem d_Values_init_18 : decode prog_7_method_1_code 18 = .ok (.return_, 1) := by decide +kernel
theorem d_State_init_0 : decode prog_5_method_1_code 0 = .ok (.aload_n 0, 1) := by decide +kernel
theorem d_State_init_1 : decode prog_5_method_1_code 1 = .ok (.invokespecial 3, 3) := by decide +kernel
theorem d_State_init_4 : decode prog_5_method_1_code 4 = .ok (.aload_n 0, 1) := by decide +kernel
theorem d_State_init_5 : decode prog_5_method_1_code 5 = .ok (.sipush 256, 3) := by decide +kernel
theorem d_State_init_8 : decode prog_5_method_1_code 8 = .ok (.newarray .int, 2) := by decide +kernel
theorem d_State_init_10 : decode prog_5_method_1_code 10 = .ok (.putfield 9, 3) := by decide +kernel
theorem d_State_init_13 : decode prog_5_method_1_code 13 = .ok (.aload_n 0, 1) := by decide +kernel
theorem d_State_init_14 : decode prog_5_method_1_code 14 = .ok (.sipush 256, 3) := by decide +kernel
theorem d_State_init_17 : decode prog_5_method_1_code 17 = .ok (.newarray .int, 2) := by decide +kernel
theorem d_State_init_19 : decode prog_5_method_1_code 19 = .ok (.putfield 15, 3) := by decide +kernel
theorem d_State_init_22 : decode prog_5_method_1_code 22 = .ok (.aload_n 0, 1) := by decide +kernel
theorem d_State_init_23 : decode prog_5_method_1_code 23 = .ok (.bipush 16, 2) := by decide +kernel
theorem d_State_init_25 : decode prog_5_method_1_code 25 = .ok (.newarray .int, 2) := by decide +kernel
theorem d_State_init_27 : decode prog_5_method_1_code 27 = .ok (.putfield 18, 3) := by decide +kernel
theorem d_State_init_30 : decode prog_5_method_1_code 30 = .ok (.aload_n 0, 1) := by decide +kernel
theorem d_State_init_31 : decode prog_5_method_1_code 31 = .ok (.getfield 9, 3) := by decide +kernel
theorem d_State_init_34 : decode prog_5_method_1_code 34 = .ok (.iconst (-1), 1) := by decide +kernel
theorem d_State_init_35 : decode prog_5_method_1_code 35 = .ok (.invokestatic 21, 3) := by decide +kernel
theorem d_State_init_38 : decode prog_5_method_1_code 38 = .ok (.aload_n 0, 1) := by decide +kernel
theorem d_State_init_39 : decode prog_5_method_1_code 39 = .ok (.getfield 18, 3) := by decide +kernel
theorem d_State_init_42 : decode prog_5_method_1_code 42 = .ok (.iconst (-1), 1) := by decide +kernel
theorem d_State_init_43 : decode prog_5_method_1_code 43 = .ok (.invokestatic 21, 3) := by decide +kernel
theorem d_State_init_46 : decode prog_5_method_1_code 46 = .ok (.return_, 1) := by decide +kernel
theorem d_World_init_0 : decode prog_8_method_1_code 0 = .ok (.aload_n 0, 1) := by decide +kernel
theorem d_World_init_1 : decode prog_8_method_1_code 1 = .ok (.invokespecial 3, 3) := by decide +kernel
theorem d_World_init_4 : decode prog_8_method_1_code 4 = .ok (.aload_n 0, 1) := by decide +kernel
theorem d_World_init_5 : decode prog_8_method_1_code 5 = .ok (.new 9, 3) := by decide +kernel
theorem d_World_init_8 : decode prog_8_method_1_code 8 = .ok (.dup, 1) := by decide +kernel
theorem d_World_init_9 : decode prog_8_method_1_code 9 = .ok (.invokespecial 11, 3) := by decide +kernel
theorem d_World_init_12 : decode prog_8_method_1_code 12 = .ok (.putfield 12, 3) := by decide +kernel
theorem d_World_init_15 : decode prog_8_method_1_code 15 = .ok (.aload_n 0, 1) := by decide +kernel
theorem d_World_init_16 : decode prog_8_method_1_code 16 = .ok (.sipush 256, 3) := by decide +kernel
theorem d_World_init_19 : decode prog_8_method_1_code 19 = .ok (.newarray .int, 2) := by decide +kernel
theorem d_World_init_21 : decode prog_8_method_1_code 21 = .ok (.putfield 18, 3) := by decide +kernel
theorem d_World_init_24 : decode prog_8_method_1_code 24 = .ok (.aload_n 0, 1) := by decide +kernel
theorem d_World_init_25 : decode prog_8_method_1_code 25 = .ok (.bipush 16, 2) := by decide +kernel
theorem d_World_init_27 : decode prog_8_method_1_code 27 = .ok (.newarray .int, 2) := by decide +kernel
theorem d_World_init_29 : decode prog_8_method_1_code 29 = .ok (.putfield 22, 3) := by decide +kernel
theorem d_World_init_32 : decode prog_8_method_1_code 32 = .ok (.aload_n 0, 1) := by decide +kernel
theorem d_World_init_33 : decode prog_8_method_1_code 33 = .ok (.bipush 32, 2) := by decide +kernel
theorem d_World_init_35 : decode prog_8_method_1_code 35 = .ok (.newarray .int, 2) := by decide +kernel
theorem d_World_init_37 : decode prog_8_method_1_code 37 = .ok (.putfield 25, 3) := by decide +kernel
theorem d_World_init_40 : decode prog_8_method_1_code 40 = .ok (.aload_n 0, 1) := by decide +kernel
theorem d_World_init_41 : decode prog_8_method_1_code 41 = .ok (.bipush 32, 2) := by decide +kernel
theorem d_World_init_43 : decode prog_8_method_1_code 43 = .ok (.newarray .int, 2) := by decide +kernel
theorem d_World_init_45 : decode prog_8_method_1_code 45 = .ok (.putfield 28, 3) := by decide +kernel
theorem d_World_init_48 : decode prog_8_method_1_code 48 = .ok (.return_, 1) := by decide +kernel
theorem d_History_init_0 : decode prog_3_method_1_code 0 = .ok (.aload_n 0, 1) := by decide +kernel
theorem d_History_init_1 : decode prog_3_method_1_code 1 = .ok (.invokespecial 3, 3) := by decide +kernel
theorem d_History_init_4 : decode prog_3_method_1_code 4 = .ok (.aload_n 0, 1) := by decide +kernel
theorem d_History_init_5 : decode prog_3_method_1_code 5 = .ok (.iconst 3, 1) := by decide +kernel
theorem d_History_init_6 : decode prog_3_method_1_code 6 = .ok (.anewarray 9, 3) := by decide +kernel
theorem d_History_init_9 : decode prog_3_method_1_code 9 = .ok (.putfield 11, 3) := by decide +kernel
theorem d_History_init_12 : decode prog_3_method_1_code 12 = .ok (.aload_n 0, 1) := by decide +kernel
theorem d_History_init_13 : decode prog_3_method_1_code 13 = .ok (.iconst 2, 1) := by decide +kernel
theorem d_History_init_14 : decode prog_3_method_1_code 14 = .ok (.anewarray 9, 3) := by decide +kernel
theorem d_History_init_17 : decode prog_3_method_1_code 17 = .ok (.putfield 17, 3) := by decide +kernel
theorem d_History_init_20 : decode prog_3_method_1_code 20 = .ok (.aload_n 0, 1) := by decide +kernel
theorem d_History_init_21 : decode prog_3_method_1_code 21 = .ok (.iconst 2, 1) := by decide +kernel
theorem d_History_init_22 : decode prog_3_method_1_code 22 = .ok (.newarray .boolean, 2) := by decide +kernel
theorem d_History_init_24 : decode prog_3_method_1_code 24 = .ok (.putfield 20, 3) := by decide +kernel
theorem d_History_init_27 : decode prog_3_method_1_code 27 = .ok (.iconst 0, 1) := by decide +kernel
theorem d_History_init_28 : decode prog_3_method_1_code 28 = .ok (.istore_n 1, 1) := by decide +kernel
theorem d_History_init_29 : decode prog_3_method_1_code 29 = .ok (.iload_n 1, 1) := by decide +kernel
theorem d_History_init_30 : decode prog_3_method_1_code 30 = .ok (.iconst 3, 1) := by decide +kernel
theorem d_History_init_31 : decode prog_3_method_1_code 31 = .ok (.if_icmp .ge 22, 3) := by decide +kernel
theorem d_History_init_34 : decode prog_3_method_1_code 34 = .ok (.aload_n 0, 1) := by decide +kernel
theorem d_History_init_35 : decode prog_3_method_1_code 35 = .ok (.getfield 11, 3) := by decide +kernel
theorem d_History_init_38 : decode prog_3_method_1_code 38 = .ok (.iload_n 1, 1) := by decide +kernel
theorem d_History_init_39 : decode prog_3_method_1_code 39 = .ok (.new 9, 3) := by decide +kernel
theorem d_History_init_42 : decode prog_3_method_1_code 42 = .ok (.dup, 1) := by decide +kernel
theorem d_History_init_43 : decode prog_3_method_1_code 43 = .ok (.invokespecial 24, 3) := by decide +kernel
theorem d_History_init_46 : decode prog_3_method_1_code 46 = .ok (.aastore, 1) := by decide +kernel
theorem d_History_init_47 : decode prog_3_method_1_code 47 = .ok (.iinc 1 1, 3) := by decide +kernel
theorem d_History_init_50 : decode prog_3_method_1_code 50 = .ok (.goto (-21), 3) := by decide +kernel
theorem d_History_init_53 : decode prog_3_method_1_code 53 = .ok (.iconst 0, 1) := by decide +kernel
theorem d_History_init_54 : decode prog_3_method_1_code 54 = .ok (.istore_n 1, 1) := by decide +kernel
theorem d_History_init_55 : decode prog_3_method_1_code 55 = .ok (.iload_n 1, 1) := by decide +kernel
theorem d_History_init_56 : decode prog_3_method_1_code 56 = .ok (.iconst 2, 1) := by decide +kernel
theorem d_History_init_57 : decode prog_3_method_1_code 57 = .ok (.if_icmp .ge 22, 3) := by decide +kernel
theorem d_History_init_60 : decode prog_3_method_1_code 60 = .ok (.aload_n 0, 1) := by decide +kernel
theorem d_History_init_61 : decode prog_3_method_1_code 61 = .ok (.getfield 17, 3) := by decide +kernel
theorem d_History_init_64 : decode prog_3_method_1_code 64 = .ok (.iload_n 1, 1) := by decide +kernel
theorem d_History_init_65 : decode prog_3_method_1_code 65 = .ok (.new 9, 3) := by decide +kernel
theorem d_History_init_68 : decode prog_3_method_1_code 68 = .ok (.dup, 1) := by decide +kernel
theorem d_History_init_69 : decode prog_3_method_1_code 69 = .ok (.invokespecial 24, 3) := by decide +kernel
theorem d_History_init_72 : decode prog_3_method_1_code 72 = .ok (.aastore, 1) := by decide +kernel
theorem d_History_init_73 : decode prog_3_method_1_code 73 = .ok (.iinc 1 1, 3) := by decide +kernel
theorem d_History_init_76 : decode prog_3_method_1_code 76 = .ok (.goto (-21), 3) := by decide +kernel
theorem d_History_init_79 : decode prog_3_method_1_code 79 = .ok (.return_, 1) := by decide +kernel
theorem d_Teller_init_0 : decode prog_6_method_1_code 0 = .ok (.aload_n 0, 1) := by decide +kernel
theorem d_Teller_init_1 : decode prog_6_method_1_code 1 = .ok (.invokespecial 3, 3) := by decide +kernel
theorem d_Teller_init_4 : decode prog_6_method_1_code 4 = .ok (.aload_n 0, 1) := by decide +kernel
theorem d_Teller_init_5 : decode prog_6_method_1_code 5 = .ok (.bipush 8, 2) := by decide +kernel
theorem d_Teller_init_7 : decode prog_6_method_1_code 7 = .ok (.anewarray 9, 3) := by decide +kernel
theorem d_Teller_init_10 : decode prog_6_method_1_code 10 = .ok (.putfield 11, 3) := by decide +kernel
theorem d_Teller_init_13 : decode prog_6_method_1_code 13 = .ok (.aload_n 0, 1) := by decide +kernel
theorem d_Teller_init_14 : decode prog_6_method_1_code 14 = .ok (.new 17, 3) := by decide +kernel
theorem d_Teller_init_17 : decode prog_6_method_1_code 17 = .ok (.dup, 1) := by decide +kernel
theorem d_Teller_init_18 : decode prog_6_method_1_code 18 = .ok (.bipush 40, 2) := by decide +kernel
theorem d_Teller_init_20 : decode prog_6_method_1_code 20 = .ok (.invokespecial 19, 3) := by decide +kernel
theorem d_Teller_init_23 : decode prog_6_method_1_code 23 = .ok (.putfield 22, 3) := by decide +kernel
theorem d_Teller_init_26 : decode prog_6_method_1_code 26 = .ok (.aload_n 0, 1) := by decide +kernel
theorem d_Teller_init_27 : decode prog_6_method_1_code 27 = .ok (.new 17, 3) := by decide +kernel
theorem d_Teller_init_30 : decode prog_6_method_1_code 30 = .ok (.dup, 1) := by decide +kernel
theorem d_Teller_init_31 : decode prog_6_method_1_code 31 = .ok (.bipush 50, 2) := by decide +kernel
theorem d_Teller_init_33 : decode prog_6_method_1_code 33 = .ok (.invokespecial 19, 3) := by decide +kernel
theorem d_Teller_init_36 : decode prog_6_method_1_code 36 = .ok (.putfield 26, 3) := by decide +kernel
theorem d_Teller_init_39 : decode prog_6_method_1_code 39 = .ok (.aload_n 0, 1) := by decide +kernel
theorem d_Teller_init_40 : decode prog_6_method_1_code 40 = .ok (.new 17, 3) := by decide +kernel
theorem d_Teller_init_43 : decode prog_6_method_1_code 43 = .ok (.dup, 1) := by decide +kernel
theorem d_Teller_init_44 : decode prog_6_method_1_code 44 = .ok (.iconst 1, 1) := by decide +kernel
theorem d_Teller_init_45 : decode prog_6_method_1_code 45 = .ok (.invokespecial 19, 3) := by decide +kernel
theorem d_Teller_init_48 : decode prog_6_method_1_code 48 = .ok (.putfield 29, 3) := by decide +kernel
theorem d_Teller_init_51 : decode prog_6_method_1_code 51 = .ok (.aload_n 0, 1) := by decide +kernel
theorem d_Teller_init_52 : decode prog_6_method_1_code 52 = .ok (.iconst (-1), 1) := by decide +kernel
theorem d_Teller_init_53 : decode prog_6_method_1_code 53 = .ok (.putfield 32, 3) := by decide +kernel
theorem d_Teller_init_56 : decode prog_6_method_1_code 56 = .ok (.aload_n 0, 1) := by decide +kernel
theorem d_Teller_init_57 : decode prog_6_method_1_code 57 = .ok (.aload_n 1, 1) := by decide +kernel
theorem d_Teller_init_58 : decode prog_6_method_1_code 58 = .ok (.putfield 36, 3) := by decide +kernel
theorem d_Teller_init_61 : decode prog_6_method_1_code 61 = .ok (.aload_n 0, 1) := by decide +kernel
theorem d_Teller_init_62 : decode prog_6_method_1_code 62 = .ok (.aload_n 2, 1) := by decide +kernel
theorem d_Teller_init_63 : decode prog_6_method_1_code 63 = .ok (.putfield 40, 3) := by decide +kernel
theorem d_Teller_init_66 : decode prog_6_method_1_code 66 = .ok (.aload_n 0, 1) := by decide +kernel
theorem d_Teller_init_67 : decode prog_6_method_1_code 67 = .ok (.aload_n 3, 1) := by decide +kernel
theorem d_Teller_init_68 : decode prog_6_method_1_code 68 = .ok (.putfield 44, 3) := by decide +kernel
theorem d_Teller_init_71 : decode prog_6_method_1_code 71 = .ok (.iconst 0, 1) := by decide +kernel
theorem d_Teller_init_72 : decode prog_6_method_1_code 72 = .ok (.istore 4, 2) := by decide +kernel
theorem d_Teller_init_74 : decode prog_6_method_1_code 74 = .ok (.iload 4, 2) := by decide +kernel
theorem d_Teller_init_76 : decode prog_6_method_1_code 76 = .ok (.bipush 8, 2) := by decide +kernel
theorem d_Teller_init_78 : decode prog_6_method_1_code 78 = .ok (.if_icmp .ge 23, 3) := by decide +kernel
theorem d_Teller_init_81 : decode prog_6_method_1_code 81 = .ok (.aload_n 0, 1) := by decide +kernel
theorem d_Teller_init_82 : decode prog_6_method_1_code 82 = .ok (.getfield 11, 3) := by decide +kernel
theorem d_Teller_init_85 : decode prog_6_method_1_code 85 = .ok (.iload 4, 2) := by decide +kernel
theorem d_Teller_init_87 : decode prog_6_method_1_code 87 = .ok (.new 9, 3) := by decide +kernel
theorem d_Teller_init_90 : decode prog_6_method_1_code 90 = .ok (.dup, 1) := by decide +kernel
theorem d_Teller_init_91 : decode prog_6_method_1_code 91 = .ok (.invokespecial 48, 3) := by decide +kernel
theorem d_Teller_init_94 : decode prog_6_method_1_code 94 = .ok (.aastore, 1) := by decide +kernel
theorem d_Teller_init_95 : decode prog_6_method_1_code 95 = .ok (.iinc 4 1, 3) := by decide +kernel
theorem d_Teller_init_98 : decode prog_6_method_1_code 98 = .ok (.goto (-24), 3) := by decide +kernel
theorem d_Teller_init_101 : decode prog_6_method_1_code 101 = .ok (.return_, 1) := by decide +kernel
theorem d_TM_init_0 : decode prog_1_method_1_code 0 = .ok (.aload_n 0, 1) := by decide +kernel
theorem d_TM_init_1 : decode prog_1_method_1_code 1 = .ok (.invokespecial 3, 3) := by decide +kernel
theorem d_TM_init_4 : decode prog_1_method_1_code 4 = .ok (.aload_n 0, 1) := by decide +kernel
theorem d_TM_init_5 : decode prog_1_method_1_code 5 = .ok (.new 9, 3) := by decide +kernel
theorem d_TM_init_8 : decode prog_1_method_1_code 8 = .ok (.dup, 1) := by decide +kernel
theorem d_TM_init_9 : decode prog_1_method_1_code 9 = .ok (.invokespecial 11, 3) := by decide +kernel
theorem d_TM_init_12 : decode prog_1_method_1_code 12 = .ok (.putfield 12, 3) := by decide +kernel
theorem d_TM_init_15 : decode prog_1_method_1_code 15 = .ok (.aload_n 0, 1) := by decide +kernel
theorem d_TM_init_16 : decode prog_1_method_1_code 16 = .ok (.new 16, 3) := by decide +kernel
theorem d_TM_init_19 : decode prog_1_method_1_code 19 = .ok (.dup, 1) := by decide +kernel
theorem d_TM_init_20 : decode prog_1_method_1_code 20 = .ok (.invokespecial 18, 3) := by decide +kernel
theorem d_TM_init_23 : decode prog_1_method_1_code 23 = .ok (.putfield 19, 3) := by decide +kernel
theorem d_TM_init_26 : decode prog_1_method_1_code 26 = .ok (.aload_n 0, 1) := by decide +kernel
theorem d_TM_init_27 : decode prog_1_method_1_code 27 = .ok (.new 23, 3) := by decide +kernel
theorem d_TM_init_30 : decode prog_1_method_1_code 30 = .ok (.dup, 1) := by decide +kernel
theorem d_TM_init_31 : decode prog_1_method_1_code 31 = .ok (.invokespecial 25, 3) := by decide +kernel
theorem d_TM_init_34 : decode prog_1_method_1_code 34 = .ok (.putfield 26, 3) := by decide +kernel
theorem d_TM_init_37 : decode prog_1_method_1_code 37 = .ok (.aload_n 0, 1) := by decide +kernel
theorem d_TM_init_38 : decode prog_1_method_1_code 38 = .ok (.new 30, 3) := by decide +kernel
theorem d_TM_init_41 : decode prog_1_method_1_code 41 = .ok (.dup, 1) := by decide +kernel
theorem d_TM_init_42 : decode prog_1_method_1_code 42 = .ok (.aload_n 0, 1) := by decide +kernel
theorem d_TM_init_43 : decode prog_1_method_1_code 43 = .ok (.getfield 12, 3) := by decide +kernel
theorem d_TM_init_46 : decode prog_1_method_1_code 46 = .ok (.aload_n 0, 1) := by decide +kernel
theorem d_TM_init_47 : decode prog_1_method_1_code 47 = .ok (.getfield 19, 3) := by decide +kernel
theorem d_TM_init_50 : decode prog_1_method_1_code 50 = .ok (.aload_n 0, 1) := by decide +kernel
theorem d_TM_init_51 : decode prog_1_method_1_code 51 = .ok (.getfield 26, 3) := by decide +kernel
theorem d_TM_init_54 : decode prog_1_method_1_code 54 = .ok (.invokespecial 32, 3) := by decide +kernel
theorem d_TM_init_57 : decode prog_1_method_1_code 57 = .ok (.putfield 35, 3) := by decide +kernel
theorem d_TM_init_60 : decode prog_1_method_1_code 60 = .ok (.return_, 1) := by decide +kernel
theorem d_Script_append_0 : decode prog_4_method_2_code 0 = .ok (.iload_n 2, 1) := by decide +kernel
theorem d_Script_append_1 : decode prog_4_method_2_code 1 = .ok (.iconst 1, 1) := by decide +kernel
theorem d_Script_append_2 : decode prog_4_method_2_code 2 = .ok (.if_icmp .lt 20, 3) := by decide +kernel
theorem d_Script_append_5 : decode prog_4_method_2_code 5 = .ok (.iload_n 2, 1) := by decide +kernel
theorem d_Script_append_6 : decode prog_4_method_2_code 6 = .ok (.iconst 4, 1) := by decide +kernel
theorem d_Script_append_7 : decode prog_4_method_2_code 7 = .ok (.if_icmp .gt 15, 3) := by decide +kernel
theorem d_Script_append_10 : decode prog_4_method_2_code 10 = .ok (.aload_n 0, 1) := by decide +kernel
theorem d_Script_append_11 : decode prog_4_method_2_code 11 = .ok (.getfield 15, 3) := by decide +kernel
theorem d_Script_append_14 : decode prog_4_method_2_code 14 = .ok (.iload_n 2, 1) := by decide +kernel
theorem d_Script_append_15 : decode prog_4_method_2_code 15 = .ok (.iadd, 1) := by decide +kernel
theorem d_Script_append_16 : decode prog_4_method_2_code 16 = .ok (.sipush 300, 3) := by decide +kernel
theorem d_Script_append_19 : decode prog_4_method_2_code 19 = .ok (.if_icmp .le 5, 3) := by decide +kernel
theorem d_Script_append_24 : decode prog_4_method_2_code 24 = .ok (.iload_n 2, 1) := by decide +kernel
theorem d_Script_append_25 : decode prog_4_method_2_code 25 = .ok (.iconst 1, 1) := by decide +kernel
theorem d_Script_append_26 : decode prog_4_method_2_code 26 = .ok (.isub, 1) := by decide +kernel
theorem d_Script_append_27 : decode prog_4_method_2_code 27 = .ok (.istore_n 3, 1) := by decide +kernel
theorem d_Script_append_28 : decode prog_4_method_2_code 28 = .ok (.iload_n 3, 1) := by decide +kernel
theorem d_Script_append_29 : decode prog_4_method_2_code 29 = .ok (.ifCond .lt 38, 3) := by decide +kernel
theorem d_Script_append_32 : decode prog_4_method_2_code 32 = .ok (.aload_n 0, 1) := by decide +kernel
theorem d_Script_append_33 : decode prog_4_method_2_code 33 = .ok (.getfield 9, 3) := by decide +kernel
theorem d_Script_append_36 : decode prog_4_method_2_code 36 = .ok (.aload_n 0, 1) := by decide +kernel
theorem d_Script_append_37 : decode prog_4_method_2_code 37 = .ok (.getfield 15, 3) := by decide +kernel
theorem d_Script_append_40 : decode prog_4_method_2_code 40 = .ok (.iload_n 1, 1) := by decide +kernel
theorem d_Script_append_41 : decode prog_4_method_2_code 41 = .ok (.bipush 8, 2) := by decide +kernel
theorem d_Script_append_43 : decode prog_4_method_2_code 43 = .ok (.iload_n 3, 1) := by decide +kernel
theorem d_Script_append_44 : decode prog_4_method_2_code 44 = .ok (.imul, 1) := by decide +kernel
theorem d_Script_append_45 : decode prog_4_method_2_code 45 = .ok (.iushr, 1) := by decide +kernel
theorem d_Script_append_46 : decode prog_4_method_2_code 46 = .ok (.sipush 255, 3) := by decide +kernel
theorem d_Script_append_49 : decode prog_4_method_2_code 49 = .ok (.iand, 1) := by decide +kernel
theorem d_Script_append_50 : decode prog_4_method_2_code 50 = .ok (.iastore, 1) := by decide +kernel
theorem d_Script_append_51 : decode prog_4_method_2_code 51 = .ok (.aload_n 0, 1) := by decide +kernel
theorem d_Script_append_52 : decode prog_4_method_2_code 52 = .ok (.dup, 1) := by decide +kernel
theorem d_Script_append_53 : decode prog_4_method_2_code 53 = .ok (.getfield 15, 3) := by decide +kernel
theorem d_Script_append_56 : decode prog_4_method_2_code 56 = .ok (.iconst 1, 1) := by decide +kernel
theorem d_Script_append_57 : decode prog_4_method_2_code 57 = .ok (.iadd, 1) := by decide +kernel
theorem d_Script_append_58 : decode prog_4_method_2_code 58 = .ok (.putfield 15, 3) := by decide +kernel
theorem d_Script_append_61 : decode prog_4_method_2_code 61 = .ok (.iinc 3 (-1), 3) := by decide +kernel
theorem d_Script_append_64 : decode prog_4_method_2_code 64 = .ok (.goto (-36), 3) := by decide +kernel
theorem d_Script_append_67 : decode prog_4_method_2_code 67 = .ok (.iconst 1, 1) := by decide +kernel
theorem d_Script_append_68 : decode prog_4_method_2_code 68 = .ok (.ireturn, 1) := by decide +kernel
theorem d_TM_code_0 : decode prog_1_method_2_code 0 = .ok (.aload_n 0, 1) := by decide +kernel
theorem d_TM_code_1 : decode prog_1_method_2_code 1 = .ok (.getfield 12, 3) := by decide +kernel
theorem d_TM_code_4 : decode prog_1_method_2_code 4 = .ok (.iload_n 1, 1) := by decide +kernel
theorem d_TM_code_5 : decode prog_1_method_2_code 5 = .ok (.iload_n 2, 1) := by decide +kernel
theorem d_TM_code_6 : decode prog_1_method_2_code 6 = .ok (.invokevirtual 39, 3) := by decide +kernel
theorem d_TM_code_9 : decode prog_1_method_2_code 9 = .ok (.ireturn, 1) := by decide +kernel
theorem d_Script_append_22 : decode prog_4_method_2_code 22 = .ok (.iconst 0, 1) := by decide +kernel
theorem d_Script_append_23 : decode prog_4_method_2_code 23 = .ok (.ireturn, 1) := by decide +kernel
theorem d_World_isFixed_0 : decode prog_8_method_2_code 0 = .ok (.iload_n 1, 1) := by decide +kernel
theorem d_World_isFixed_1 : decode prog_8_method_2_code 1 = .ok (.ifCond .lt 15, 3) := by decide +kernel
theorem d_World_isFixed_16 : decode prog_8_method_2_code 16 = .ok (.iconst 0, 1) := by decide +kernel
theorem d_World_isFixed_17 : decode prog_8_method_2_code 17 = .ok (.ireturn, 1) := by decide +kernel
theorem d_World_isFixed_4 : decode prog_8_method_2_code 4 = .ok (.iload_n 1, 1) := by decide +kernel
theorem d_World_isFixed_5 : decode prog_8_method_2_code 5 = .ok (.aload_n 0, 1) := by decide +kernel
theorem d_World_isFixed_6 : decode prog_8_method_2_code 6 = .ok (.getfield 31, 3) := by decide +kernel
theorem d_World_isFixed_9 : decode prog_8_method_2_code 9 = .ok (.if_icmp .ge 7, 3) := by decide +kernel
theorem d_World_isThere_0 : decode prog_8_method_3_code 0 = .ok (.aload_n 0, 1) := by decide +kernel
theorem d_World_isThere_1 : decode prog_8_method_3_code 1 = .ok (.iload_n 1, 1) := by decide +kernel
theorem d_World_isThere_2 : decode prog_8_method_3_code 2 = .ok (.invokevirtual 35, 3) := by decide +kernel
theorem d_World_isThere_5 : decode prog_8_method_3_code 5 = .ok (.ifCond .ne 31, 3) := by decide +kernel
theorem d_World_isThere_8 : decode prog_8_method_3_code 8 = .ok (.iload_n 1, 1) := by decide +kernel
theorem d_World_isThere_9 : decode prog_8_method_3_code 9 = .ok (.bipush 16, 2) := by decide +kernel
theorem d_World_isThere_11 : decode prog_8_method_3_code 11 = .ok (.if_icmp .lt 29, 3) := by decide +kernel
theorem d_World_isThere_40 : decode prog_8_method_3_code 40 = .ok (.iconst 0, 1) := by decide +kernel
theorem d_World_isThere_41 : decode prog_8_method_3_code 41 = .ok (.ireturn, 1) := by decide +kernel
theorem d_World_isThere_14 : decode prog_8_method_3_code 14 = .ok (.iload_n 1, 1) := by decide +kernel
theorem d_World_isThere_15 : decode prog_8_method_3_code 15 = .ok (.bipush 32, 2) := by decide +kernel
theorem d_World_isThere_17 : decode prog_8_method_3_code 17 = .ok (.if_icmp .ge 23, 3) := by decide +kernel
theorem d_World_isThere_20 : decode prog_8_method_3_code 20 = .ok (.aload_n 0, 1) := by decide +kernel
theorem d_World_isThere_21 : decode prog_8_method_3_code 21 = .ok (.getfield 12, 3) := by decide +kernel
theorem d_World_isThere_24 : decode prog_8_method_3_code 24 = .ok (.getfield 39, 3) := by decide +kernel
theorem d_World_isThere_27 : decode prog_8_method_3_code 27 = .ok (.iload_n 1, 1) := by decide +kernel
theorem d_World_isThere_28 : decode prog_8_method_3_code 28 = .ok (.bipush 16, 2) := by decide +kernel
theorem d_World_isThere_30 : decode prog_8_method_3_code 30 = .ok (.isub, 1) := by decide +kernel
theorem d_World_isThere_31 : decode prog_8_method_3_code 31 = .ok (.iaload, 1) := by decide +kernel
theorem d_World_isThere_32 : decode prog_8_method_3_code 32 = .ok (.iconst (-1), 1) := by decide +kernel
theorem d_World_isThere_33 : decode prog_8_method_3_code 33 = .ok (.if_icmp .eq 7, 3) := by decide +kernel
theorem d_World_count_0 : decode prog_8_method_4_code 0 = .ok (.aload_n 0, 1) := by decide +kernel
theorem d_World_count_1 : decode prog_8_method_4_code 1 = .ok (.getfield 31, 3) := by decide +kernel
theorem d_World_count_4 : decode prog_8_method_4_code 4 = .ok (.istore_n 1, 1) := by decide +kernel
theorem d_World_count_5 : decode prog_8_method_4_code 5 = .ok (.iconst 0, 1) := by decide +kernel
theorem d_World_count_6 : decode prog_8_method_4_code 6 = .ok (.istore_n 2, 1) := by decide +kernel
theorem d_World_count_7 : decode prog_8_method_4_code 7 = .ok (.iload_n 2, 1) := by decide +kernel
theorem d_World_count_8 : decode prog_8_method_4_code 8 = .ok (.bipush 16, 2) := by decide +kernel
theorem d_World_count_10 : decode prog_8_method_4_code 10 = .ok (.if_icmp .ge 25, 3) := by decide +kernel
theorem d_World_count_13 : decode prog_8_method_4_code 13 = .ok (.aload_n 0, 1) := by decide +kernel
theorem d_World_count_14 : decode prog_8_method_4_code 14 = .ok (.getfield 12, 3) := by decide +kernel
theorem d_World_count_17 : decode prog_8_method_4_code 17 = .ok (.getfield 39, 3) := by decide +kernel
theorem d_World_count_20 : decode prog_8_method_4_code 20 = .ok (.iload_n 2, 1) := by decide +kernel
theorem d_World_count_21 : decode prog_8_method_4_code 21 = .ok (.iaload, 1) := by decide +kernel
theorem d_World_count_22 : decode prog_8_method_4_code 22 = .ok (.iconst (-1), 1) := by decide +kernel
theorem d_World_count_23 : decode prog_8_method_4_code 23 = .ok (.if_icmp .eq 6, 3) := by decide +kernel
theorem d_World_count_29 : decode prog_8_method_4_code 29 = .ok (.iinc 2 1, 3) := by decide +kernel
theorem d_World_count_32 : decode prog_8_method_4_code 32 = .ok (.goto (-25), 3) := by decide +kernel
theorem d_World_count_35 : decode prog_8_method_4_code 35 = .ok (.iload_n 1, 1) := by decide +kernel
theorem d_World_count_36 : decode prog_8_method_4_code 36 = .ok (.ireturn, 1) := by decide +kernel
theorem d_World_forgetReached_0 : decode prog_8_method_18_code 0 = .ok (.aload_n 0, 1) := by decide +kernel
theorem d_World_forgetReached_1 : decode prog_8_method_18_code 1 = .ok (.iconst 0, 1) := by decide +kernel
theorem d_World_forgetReached_2 : decode prog_8_method_18_code 2 = .ok (.putfield 85, 3) := by decide +kernel
theorem d_World_forgetReached_5 : decode prog_8_method_18_code 5 = .ok (.aload_n 0, 1) := by decide +kernel
theorem d_World_forgetReached_6 : decode prog_8_method_18_code 6 = .ok (.iconst 0, 1) := by decide +kernel
theorem d_World_forgetReached_7 : decode prog_8_method_18_code 7 = .ok (.putfield 88, 3) := by decide +kernel
theorem d_World_forgetReached_10 : decode prog_8_method_18_code 10 = .ok (.return_, 1) := by decide +kernel
theorem d_World_sweep_0 : decode prog_8_method_21_code 0 = .ok (.iconst 0, 1) := by decide +kernel
theorem d_World_sweep_1 : decode prog_8_method_21_code 1 = .ok (.istore_n 1, 1) := by decide +kernel
theorem d_World_sweep_2 : decode prog_8_method_21_code 2 = .ok (.iload_n 1, 1) := by decide +kernel
theorem d_World_sweep_3 : decode prog_8_method_21_code 3 = .ok (.aload_n 0, 1) := by decide +kernel
theorem d_World_sweep_4 : decode prog_8_method_21_code 4 = .ok (.getfield 31, 3) := by decide +kernel
theorem d_World_sweep_7 : decode prog_8_method_21_code 7 = .ok (.if_icmp .ge 14, 3) := by decide +kernel
theorem d_World_sweep_21 : decode prog_8_method_21_code 21 = .ok (.iconst 0, 1) := by decide +kernel
theorem d_World_sweep_22 : decode prog_8_method_21_code 22 = .ok (.istore_n 1, 1) := by decide +kernel
theorem d_World_sweep_23 : decode prog_8_method_21_code 23 = .ok (.iload_n 1, 1) := by decide +kernel
theorem d_World_sweep_24 : decode prog_8_method_21_code 24 = .ok (.aload_n 0, 1) := by decide +kernel
theorem d_World_sweep_25 : decode prog_8_method_21_code 25 = .ok (.getfield 85, 3) := by decide +kernel
theorem d_World_sweep_28 : decode prog_8_method_21_code 28 = .ok (.if_icmp .ge 25, 3) := by decide +kernel
theorem d_World_sweep_53 : decode prog_8_method_21_code 53 = .ok (.iconst 0, 1) := by decide +kernel
theorem d_World_sweep_54 : decode prog_8_method_21_code 54 = .ok (.istore_n 1, 1) := by decide +kernel
theorem d_World_sweep_55 : decode prog_8_method_21_code 55 = .ok (.bipush 16, 2) := by decide +kernel
theorem d_World_sweep_57 : decode prog_8_method_21_code 57 = .ok (.istore_n 2, 1) := by decide +kernel
theorem d_World_sweep_58 : decode prog_8_method_21_code 58 = .ok (.iload_n 2, 1) := by decide +kernel
theorem d_World_sweep_59 : decode prog_8_method_21_code 59 = .ok (.bipush 32, 2) := by decide +kernel
theorem d_World_sweep_61 : decode prog_8_method_21_code 61 = .ok (.if_icmp .ge 44, 3) := by decide +kernel
theorem d_World_sweep_64 : decode prog_8_method_21_code 64 = .ok (.aload_n 0, 1) := by decide +kernel
theorem d_World_sweep_65 : decode prog_8_method_21_code 65 = .ok (.iload_n 2, 1) := by decide +kernel
theorem d_World_sweep_66 : decode prog_8_method_21_code 66 = .ok (.invokevirtual 82, 3) := by decide +kernel
theorem d_World_sweep_69 : decode prog_8_method_21_code 69 = .ok (.ifCond .eq 30, 3) := by decide +kernel
theorem d_World_sweep_99 : decode prog_8_method_21_code 99 = .ok (.iinc 2 1, 3) := by decide +kernel
theorem d_World_sweep_102 : decode prog_8_method_21_code 102 = .ok (.goto (-44), 3) := by decide +kernel
theorem d_World_sweep_105 : decode prog_8_method_21_code 105 = .ok (.iload_n 1, 1) := by decide +kernel
theorem d_World_sweep_106 : decode prog_8_method_21_code 106 = .ok (.ireturn, 1) := by decide +kernel
theorem d_World_descends_0 : decode prog_8_method_17_code 0 = .ok (.aload_n 0, 1) := by decide +kernel
theorem d_World_descends_1 : decode prog_8_method_17_code 1 = .ok (.iload_n 1, 1) := by decide +kernel
theorem d_World_descends_2 : decode prog_8_method_17_code 2 = .ok (.invokevirtual 82, 3) := by decide +kernel
theorem d_World_descends_5 : decode prog_8_method_17_code 5 = .ok (.ifCond .eq 11, 3) := by decide +kernel
theorem d_World_descends_16 : decode prog_8_method_17_code 16 = .ok (.iconst 0, 1) := by decide +kernel
theorem d_World_descends_17 : decode prog_8_method_17_code 17 = .ok (.ireturn, 1) := by decide +kernel
theorem d_Teller_reachRoots_0 : decode prog_6_method_6_code 0 = .ok (.iconst 0, 1) := by decide +kernel
theorem d_Teller_reachRoots_1 : decode prog_6_method_6_code 1 = .ok (.istore_n 1, 1) := by decide +kernel
theorem d_Teller_reachRoots_2 : decode prog_6_method_6_code 2 = .ok (.iload_n 1, 1) := by decide +kernel
theorem d_Teller_reachRoots_3 : decode prog_6_method_6_code 3 = .ok (.aload_n 0, 1) := by decide +kernel
theorem d_Teller_reachRoots_4 : decode prog_6_method_6_code 4 = .ok (.getfield 22, 3) := by decide +kernel
theorem d_Teller_reachRoots_7 : decode prog_6_method_6_code 7 = .ok (.getfield 52, 3) := by decide +kernel
theorem d_Teller_reachRoots_10 : decode prog_6_method_6_code 10 = .ok (.if_icmp .ge 34, 3) := by decide +kernel
theorem d_Teller_reachRoots_44 : decode prog_6_method_6_code 44 = .ok (.iconst 0, 1) := by decide +kernel
theorem d_Teller_reachRoots_45 : decode prog_6_method_6_code 45 = .ok (.istore_n 1, 1) := by decide +kernel
theorem d_Teller_reachRoots_46 : decode prog_6_method_6_code 46 = .ok (.iload_n 1, 1) := by decide +kernel
theorem d_Teller_reachRoots_47 : decode prog_6_method_6_code 47 = .ok (.aload_n 0, 1) := by decide +kernel
theorem d_Teller_reachRoots_48 : decode prog_6_method_6_code 48 = .ok (.getfield 49, 3) := by decide +kernel
theorem d_Teller_reachRoots_51 : decode prog_6_method_6_code 51 = .ok (.if_icmp .ge 41, 3) := by decide +kernel
theorem d_Teller_reachRoots_92 : decode prog_6_method_6_code 92 = .ok (.aload_n 0, 1) := by decide +kernel
theorem d_Teller_reachRoots_93 : decode prog_6_method_6_code 93 = .ok (.getfield 29, 3) := by decide +kernel
theorem d_Teller_reachRoots_96 : decode prog_6_method_6_code 96 = .ok (.getfield 52, 3) := by decide +kernel
theorem d_Teller_reachRoots_99 : decode prog_6_method_6_code 99 = .ok (.ifCond .le 28, 3) := by decide +kernel
theorem d_Teller_reachRoots_127 : decode prog_6_method_6_code 127 = .ok (.return_, 1) := by decide +kernel
theorem d_TM_collect_0 : decode prog_1_method_8_code 0 = .ok (.aload_n 0, 1) := by decide +kernel
theorem d_TM_collect_1 : decode prog_1_method_8_code 1 = .ok (.getfield 19, 3) := by decide +kernel
theorem d_TM_collect_4 : decode prog_1_method_8_code 4 = .ok (.invokevirtual 124, 3) := by decide +kernel
theorem d_TM_collect_7 : decode prog_1_method_8_code 7 = .ok (.aload_n 0, 1) := by decide +kernel
theorem d_TM_collect_8 : decode prog_1_method_8_code 8 = .ok (.getfield 35, 3) := by decide +kernel
theorem d_TM_collect_11 : decode prog_1_method_8_code 11 = .ok (.invokevirtual 127, 3) := by decide +kernel
theorem d_TM_collect_14 : decode prog_1_method_8_code 14 = .ok (.aload_n 0, 1) := by decide +kernel
theorem d_TM_collect_15 : decode prog_1_method_8_code 15 = .ok (.getfield 19, 3) := by decide +kernel
theorem d_TM_collect_18 : decode prog_1_method_8_code 18 = .ok (.invokevirtual 130, 3) := by decide +kernel
theorem d_TM_collect_21 : decode prog_1_method_8_code 21 = .ok (.ireturn, 1) := by decide +kernel
theorem d_TM_isOf_0 : decode prog_1_method_13_code 0 = .ok (.aload_n 0, 1) := by decide +kernel
theorem d_TM_isOf_1 : decode prog_1_method_13_code 1 = .ok (.getfield 19, 3) := by decide +kernel
theorem d_TM_isOf_4 : decode prog_1_method_13_code 4 = .ok (.iload_n 1, 1) := by decide +kernel
theorem d_TM_isOf_5 : decode prog_1_method_13_code 5 = .ok (.iload_n 2, 1) := by decide +kernel
theorem d_TM_isOf_6 : decode prog_1_method_13_code 6 = .ok (.invokevirtual 179, 3) := by decide +kernel
theorem d_TM_isOf_9 : decode prog_1_method_13_code 9 = .ok (.ireturn, 1) := by decide +kernel
theorem d_TM_stop_0 : decode prog_1_method_7_code 0 = .ok (.aload_n 0, 1) := by decide +kernel
theorem d_TM_stop_1 : decode prog_1_method_7_code 1 = .ok (.getfield 35, 3) := by decide +kernel
theorem d_TM_stop_4 : decode prog_1_method_7_code 4 = .ok (.getfield 58, 3) := by decide +kernel
theorem d_TM_stop_7 : decode prog_1_method_7_code 7 = .ok (.ifCond .eq 5, 3) := by decide +kernel
theorem d_TM_stop_10 : decode prog_1_method_7_code 10 = .ok (.iconst 0, 1) := by decide +kernel
theorem d_TM_stop_11 : decode prog_1_method_7_code 11 = .ok (.ireturn, 1) := by decide +kernel
theorem d_TM_run_0 : decode prog_1_method_6_code 0 = .ok (.iload_n 1, 1) := by decide +kernel
theorem d_TM_run_1 : decode prog_1_method_6_code 1 = .ok (.sipush 3000, 3) := by decide +kernel
theorem d_TM_run_4 : decode prog_1_method_6_code 4 = .ok (.invokestatic 111, 3) := by decide +kernel
theorem d_TM_run_7 : decode prog_1_method_6_code 7 = .ok (.istore_n 2, 1) := by decide +kernel
theorem d_TM_run_8 : decode prog_1_method_6_code 8 = .ok (.iconst 0, 1) := by decide +kernel
theorem d_TM_run_9 : decode prog_1_method_6_code 9 = .ok (.istore_n 3, 1) := by decide +kernel
theorem d_TM_run_10 : decode prog_1_method_6_code 10 = .ok (.iload_n 3, 1) := by decide +kernel
theorem d_TM_run_11 : decode prog_1_method_6_code 11 = .ok (.iload_n 2, 1) := by decide +kernel
theorem d_TM_run_12 : decode prog_1_method_6_code 12 = .ok (.if_icmp .ge 37, 3) := by decide +kernel
theorem d_TM_run_49 : decode prog_1_method_6_code 49 = .ok (.aload_n 0, 1) := by decide +kernel
theorem d_TM_run_50 : decode prog_1_method_6_code 50 = .ok (.getfield 35, 3) := by decide +kernel
theorem d_TM_run_53 : decode prog_1_method_6_code 53 = .ok (.getfield 58, 3) := by decide +kernel
theorem d_TM_run_56 : decode prog_1_method_6_code 56 = .ok (.ireturn, 1) := by decide +kernel
theorem d_TM_run_15 : decode prog_1_method_6_code 15 = .ok (.aload_n 0, 1) := by decide +kernel
theorem d_TM_run_16 : decode prog_1_method_6_code 16 = .ok (.getfield 35, 3) := by decide +kernel
theorem d_TM_run_19 : decode prog_1_method_6_code 19 = .ok (.getfield 58, 3) := by decide +kernel
theorem d_TM_run_22 : decode prog_1_method_6_code 22 = .ok (.ifCond .ne 27, 3) := by decide +kernel
theorem d_History_dropSaved_0 : decode prog_3_method_8_code 0 = .ok (.iconst 0, 1) := by decide +kernel
theorem d_History_dropSaved_1 : decode prog_3_method_8_code 1 = .ok (.istore_n 1, 1) := by decide +kernel
theorem d_History_dropSaved_2 : decode prog_3_method_8_code 2 = .ok (.iload_n 1, 1) := by decide +kernel
theorem d_History_dropSaved_3 : decode prog_3_method_8_code 3 = .ok (.iconst 2, 1) := by decide +kernel
theorem d_History_dropSaved_4 : decode prog_3_method_8_code 4 = .ok (.if_icmp .ge 16, 3) := by decide +kernel
theorem d_History_dropSaved_7 : decode prog_3_method_8_code 7 = .ok (.aload_n 0, 1) := by decide +kernel
theorem d_History_dropSaved_8 : decode prog_3_method_8_code 8 = .ok (.getfield 20, 3) := by decide +kernel
theorem d_History_dropSaved_11 : decode prog_3_method_8_code 11 = .ok (.iload_n 1, 1) := by decide +kernel
theorem d_History_dropSaved_12 : decode prog_3_method_8_code 12 = .ok (.iconst 0, 1) := by decide +kernel
theorem d_History_dropSaved_13 : decode prog_3_method_8_code 13 = .ok (.bastore, 1) := by decide +kernel
theorem d_History_dropSaved_14 : decode prog_3_method_8_code 14 = .ok (.iinc 1 1, 3) := by decide +kernel
theorem d_History_dropSaved_17 : decode prog_3_method_8_code 17 = .ok (.goto (-15), 3) := by decide +kernel
theorem d_History_dropSaved_20 : decode prog_3_method_8_code 20 = .ok (.return_, 1) := by decide +kernel
theorem d_World_fix_0 : decode prog_8_method_8_code 0 = .ok (.aload_n 0, 1) := by decide +kernel
theorem d_World_fix_1 : decode prog_8_method_8_code 1 = .ok (.iconst 0, 1) := by decide +kernel
theorem d_World_fix_2 : decode prog_8_method_8_code 2 = .ok (.putfield 48, 3) := by decide +kernel
theorem d_World_fix_5 : decode prog_8_method_8_code 5 = .ok (.iconst 0, 1) := by decide +kernel
theorem d_World_fix_6 : decode prog_8_method_8_code 6 = .ok (.istore 5, 2) := by decide +kernel
theorem d_World_fix_8 : decode prog_8_method_8_code 8 = .ok (.iload_n 1, 1) := by decide +kernel
theorem d_World_fix_9 : decode prog_8_method_8_code 9 = .ok (.iconst 1, 1) := by decide +kernel
theorem d_World_fix_10 : decode prog_8_method_8_code 10 = .ok (.isub, 1) := by decide +kernel
theorem d_World_fix_11 : decode prog_8_method_8_code 11 = .ok (.istore 6, 2) := by decide +kernel
theorem d_World_fix_13 : decode prog_8_method_8_code 13 = .ok (.iload 6, 2) := by decide +kernel
theorem d_World_fix_15 : decode prog_8_method_8_code 15 = .ok (.ifCond .lt 38, 3) := by decide +kernel
theorem d_World_fix_53 : decode prog_8_method_8_code 53 = .ok (.aload_n 0, 1) := by decide +kernel
theorem d_World_fix_54 : decode prog_8_method_8_code 54 = .ok (.getfield 31, 3) := by decide +kernel
theorem d_World_fix_57 : decode prog_8_method_8_code 57 = .ok (.bipush 16, 2) := by decide +kernel
theorem d_World_fix_59 : decode prog_8_method_8_code 59 = .ok (.imul, 1) := by decide +kernel
theorem d_World_fix_60 : decode prog_8_method_8_code 60 = .ok (.istore 6, 2) := by decide +kernel
theorem d_World_fix_62 : decode prog_8_method_8_code 62 = .ok (.aload_n 0, 1) := by decide +kernel
theorem d_World_fix_63 : decode prog_8_method_8_code 63 = .ok (.getfield 18, 3) := by decide +kernel
theorem d_World_fix_66 : decode prog_8_method_8_code 66 = .ok (.iload 6, 2) := by decide +kernel
theorem d_World_fix_68 : decode prog_8_method_8_code 68 = .ok (.aload_n 0, 1) := by decide +kernel
theorem d_World_fix_69 : decode prog_8_method_8_code 69 = .ok (.getfield 31, 3) := by decide +kernel
theorem d_World_fix_72 : decode prog_8_method_8_code 72 = .ok (.iastore, 1) := by decide +kernel
theorem d_World_fix_73 : decode prog_8_method_8_code 73 = .ok (.iconst 0, 1) := by decide +kernel
theorem d_World_fix_74 : decode prog_8_method_8_code 74 = .ok (.istore 7, 2) := by decide +kernel
theorem d_World_fix_76 : decode prog_8_method_8_code 76 = .ok (.iload 7, 2) := by decide +kernel
theorem d_World_fix_78 : decode prog_8_method_8_code 78 = .ok (.aload_n 0, 1) := by decide +kernel
theorem d_World_fix_79 : decode prog_8_method_8_code 79 = .ok (.getfield 48, 3) := by decide +kernel
theorem d_World_fix_82 : decode prog_8_method_8_code 82 = .ok (.if_icmp .ge 35, 3) := by decide +kernel
theorem d_World_fix_117 : decode prog_8_method_8_code 117 = .ok (.aload_n 0, 1) := by decide +kernel
theorem d_World_fix_118 : decode prog_8_method_8_code 118 = .ok (.getfield 22, 3) := by decide +kernel
theorem d_World_fix_121 : decode prog_8_method_8_code 121 = .ok (.aload_n 0, 1) := by decide +kernel
theorem d_World_fix_122 : decode prog_8_method_8_code 122 = .ok (.getfield 31, 3) := by decide +kernel
theorem d_World_fix_125 : decode prog_8_method_8_code 125 = .ok (.aload_n 0, 1) := by decide +kernel
theorem d_World_fix_126 : decode prog_8_method_8_code 126 = .ok (.getfield 48, 3) := by decide +kernel
theorem d_World_fix_129 : decode prog_8_method_8_code 129 = .ok (.iconst 1, 1) := by decide +kernel
theorem d_World_fix_130 : decode prog_8_method_8_code 130 = .ok (.iadd, 1) := by decide +kernel
theorem d_World_fix_131 : decode prog_8_method_8_code 131 = .ok (.iastore, 1) := by decide +kernel
theorem d_World_fix_132 : decode prog_8_method_8_code 132 = .ok (.aload_n 0, 1) := by decide +kernel
theorem d_World_fix_133 : decode prog_8_method_8_code 133 = .ok (.dup, 1) := by decide +kernel
theorem d_World_fix_134 : decode prog_8_method_8_code 134 = .ok (.getfield 31, 3) := by decide +kernel
theorem d_World_fix_137 : decode prog_8_method_8_code 137 = .ok (.iconst 1, 1) := by decide +kernel
theorem d_World_fix_138 : decode prog_8_method_8_code 138 = .ok (.iadd, 1) := by decide +kernel
theorem d_World_fix_139 : decode prog_8_method_8_code 139 = .ok (.putfield 31, 3) := by decide +kernel
theorem d_World_fix_142 : decode prog_8_method_8_code 142 = .ok (.aload_n 0, 1) := by decide +kernel
theorem d_World_fix_143 : decode prog_8_method_8_code 143 = .ok (.getfield 31, 3) := by decide +kernel
theorem d_World_fix_146 : decode prog_8_method_8_code 146 = .ok (.iconst 1, 1) := by decide +kernel
theorem d_World_fix_147 : decode prog_8_method_8_code 147 = .ok (.isub, 1) := by decide +kernel
theorem d_World_fix_148 : decode prog_8_method_8_code 148 = .ok (.ireturn, 1) := by decide +kernel
theorem d_TM_object_0 : decode prog_1_method_3_code 0 = .ok (.iload_n 1, 1) := by decide +kernel
theorem d_TM_object_1 : decode prog_1_method_3_code 1 = .ok (.iconst (-1), 1) := by decide +kernel
theorem d_TM_object_2 : decode prog_1_method_3_code 2 = .ok (.if_icmp .ne 7, 3) := by decide +kernel
theorem d_TM_object_5 : decode prog_1_method_3_code 5 = .ok (.iconst 0, 1) := by decide +kernel
theorem d_TM_object_6 : decode prog_1_method_3_code 6 = .ok (.goto 22, 3) := by decide +kernel
theorem d_TM_object_28 : decode prog_1_method_3_code 28 = .ok (.istore 4, 2) := by decide +kernel
theorem d_TM_object_30 : decode prog_1_method_3_code 30 = .ok (.iload 4, 2) := by decide +kernel
theorem d_TM_object_32 : decode prog_1_method_3_code 32 = .ok (.ifCond .le 14, 3) := by decide +kernel
theorem d_TM_object_46 : decode prog_1_method_3_code 46 = .ok (.iload 4, 2) := by decide +kernel
theorem d_TM_object_48 : decode prog_1_method_3_code 48 = .ok (.iconst 1, 1) := by decide +kernel
theorem d_TM_object_49 : decode prog_1_method_3_code 49 = .ok (.if_icmp .le 14, 3) := by decide +kernel
theorem d_TM_object_63 : decode prog_1_method_3_code 63 = .ok (.iload 4, 2) := by decide +kernel
theorem d_TM_object_65 : decode prog_1_method_3_code 65 = .ok (.iconst 2, 1) := by decide +kernel
theorem d_TM_object_66 : decode prog_1_method_3_code 66 = .ok (.if_icmp .le 24, 3) := by decide +kernel
theorem d_TM_object_90 : decode prog_1_method_3_code 90 = .ok (.aload_n 0, 1) := by decide +kernel
theorem d_TM_object_91 : decode prog_1_method_3_code 91 = .ok (.getfield 19, 3) := by decide +kernel
theorem d_TM_object_94 : decode prog_1_method_3_code 94 = .ok (.getfield 54, 3) := by decide +kernel
theorem d_TM_object_97 : decode prog_1_method_3_code 97 = .ok (.bipush 16, 2) := by decide +kernel
theorem d_TM_object_99 : decode prog_1_method_3_code 99 = .ok (.if_icmp .eq 13, 3) := by decide +kernel
theorem d_TM_object_102 : decode prog_1_method_3_code 102 = .ok (.aload_n 0, 1) := by decide +kernel
theorem d_TM_object_103 : decode prog_1_method_3_code 103 = .ok (.getfield 35, 3) := by decide +kernel
theorem d_TM_object_106 : decode prog_1_method_3_code 106 = .ok (.getfield 58, 3) := by decide +kernel
theorem d_TM_object_109 : decode prog_1_method_3_code 109 = .ok (.ifCond .ne 13, 3) := by decide +kernel
theorem d_TM_object_122 : decode prog_1_method_3_code 122 = .ok (.aload_n 0, 1) := by decide +kernel
theorem d_TM_object_123 : decode prog_1_method_3_code 123 = .ok (.getfield 26, 3) := by decide +kernel
theorem d_TM_object_126 : decode prog_1_method_3_code 126 = .ok (.invokevirtual 66, 3) := by decide +kernel
theorem d_TM_object_129 : decode prog_1_method_3_code 129 = .ok (.aload_n 0, 1) := by decide +kernel
theorem d_TM_object_130 : decode prog_1_method_3_code 130 = .ok (.getfield 19, 3) := by decide +kernel
theorem d_TM_object_133 : decode prog_1_method_3_code 133 = .ok (.iload 4, 2) := by decide +kernel
theorem d_TM_object_135 : decode prog_1_method_3_code 135 = .ok (.iload_n 1, 1) := by decide +kernel
theorem d_TM_object_136 : decode prog_1_method_3_code 136 = .ok (.iload_n 2, 1) := by decide +kernel
theorem d_TM_object_137 : decode prog_1_method_3_code 137 = .ok (.iload_n 3, 1) := by decide +kernel
theorem d_TM_object_138 : decode prog_1_method_3_code 138 = .ok (.invokevirtual 69, 3) := by decide +kernel
theorem d_TM_object_141 : decode prog_1_method_3_code 141 = .ok (.ireturn, 1) := by decide +kernel
theorem d_TM_show_0 : decode prog_1_method_10_code 0 = .ok (.iload_n 1, 1) := by decide +kernel
theorem d_TM_show_1 : decode prog_1_method_10_code 1 = .ok (.iconst 1, 1) := by decide +kernel
theorem d_TM_show_2 : decode prog_1_method_10_code 2 = .ok (.if_icmp .eq 8, 3) := by decide +kernel
theorem d_TM_show_5 : decode prog_1_method_10_code 5 = .ok (.iload_n 1, 1) := by decide +kernel
theorem d_TM_show_6 : decode prog_1_method_10_code 6 = .ok (.iconst 2, 1) := by decide +kernel
theorem d_TM_show_7 : decode prog_1_method_10_code 7 = .ok (.if_icmp .ne 23, 3) := by decide +kernel
theorem d_TM_show_30 : decode prog_1_method_10_code 30 = .ok (.iload_n 1, 1) := by decide +kernel
theorem d_TM_show_31 : decode prog_1_method_10_code 31 = .ok (.tableswitch 94 0 5 #[37, 45, 56, 67, 75, 83], 37) := by decide +kernel
theorem d_TM_show_68 : decode prog_1_method_10_code 68 = .ok (.aload_n 0, 1) := by decide +kernel
theorem d_TM_show_69 : decode prog_1_method_10_code 69 = .ok (.getfield 35, 3) := by decide +kernel
theorem d_TM_show_72 : decode prog_1_method_10_code 72 = .ok (.getfield 142, 3) := by decide +kernel
theorem d_TM_show_75 : decode prog_1_method_10_code 75 = .ok (.ireturn, 1) := by decide +kernel
theorem d_TM_show_98 : decode prog_1_method_10_code 98 = .ok (.aload_n 0, 1) := by decide +kernel
theorem d_TM_show_99 : decode prog_1_method_10_code 99 = .ok (.getfield 26, 3) := by decide +kernel
theorem d_TM_show_102 : decode prog_1_method_10_code 102 = .ok (.getfield 159, 3) := by decide +kernel
theorem d_TM_show_105 : decode prog_1_method_10_code 105 = .ok (.ireturn, 1) := by decide +kernel
theorem d_TM_show_106 : decode prog_1_method_10_code 106 = .ok (.aload_n 0, 1) := by decide +kernel
theorem d_TM_show_107 : decode prog_1_method_10_code 107 = .ok (.getfield 19, 3) := by decide +kernel
theorem d_TM_show_110 : decode prog_1_method_10_code 110 = .ok (.invokevirtual 162, 3) := by decide +kernel
theorem d_TM_show_113 : decode prog_1_method_10_code 113 = .ok (.ireturn, 1) := by decide +kernel
theorem d_TM_show_114 : decode prog_1_method_10_code 114 = .ok (.aload_n 0, 1) := by decide +kernel
theorem d_TM_show_115 : decode prog_1_method_10_code 115 = .ok (.getfield 35, 3) := by decide +kernel
theorem d_TM_show_118 : decode prog_1_method_10_code 118 = .ok (.getfield 165, 3) := by decide +kernel
theorem d_TM_show_121 : decode prog_1_method_10_code 121 = .ok (.getfield 168, 3) := by decide +kernel
theorem d_TM_show_124 : decode prog_1_method_10_code 124 = .ok (.ireturn, 1) := by decide +kernel
theorem d_TM_object_9 : decode prog_1_method_3_code 9 = .ok (.iload_n 2, 1) := by decide +kernel
theorem d_TM_object_10 : decode prog_1_method_3_code 10 = .ok (.iconst (-1), 1) := by decide +kernel
theorem d_TM_object_11 : decode prog_1_method_3_code 11 = .ok (.if_icmp .ne 7, 3) := by decide +kernel
theorem d_TM_object_18 : decode prog_1_method_3_code 18 = .ok (.iload_n 3, 1) := by decide +kernel
theorem d_TM_object_19 : decode prog_1_method_3_code 19 = .ok (.iconst (-1), 1) := by decide +kernel
theorem d_TM_object_20 : decode prog_1_method_3_code 20 = .ok (.if_icmp .ne 7, 3) := by decide +kernel
theorem d_TM_object_27 : decode prog_1_method_3_code 27 = .ok (.iconst 3, 1) := by decide +kernel
theorem d_TM_object_35 : decode prog_1_method_3_code 35 = .ok (.aload_n 0, 1) := by decide +kernel
theorem d_TM_object_36 : decode prog_1_method_3_code 36 = .ok (.getfield 19, 3) := by decide +kernel
theorem d_TM_object_39 : decode prog_1_method_3_code 39 = .ok (.iload_n 1, 1) := by decide +kernel
theorem d_TM_object_40 : decode prog_1_method_3_code 40 = .ok (.invokevirtual 43, 3) := by decide +kernel
theorem d_TM_object_43 : decode prog_1_method_3_code 43 = .ok (.ifCond .eq 37, 3) := by decide +kernel
theorem d_TM_object_80 : decode prog_1_method_3_code 80 = .ok (.new 47, 3) := by decide +kernel
theorem d_TM_object_83 : decode prog_1_method_3_code 83 = .ok (.dup, 1) := by decide +kernel
theorem d_TM_object_84 : decode prog_1_method_3_code 84 = .ok (.ldc 49, 2) := by decide +kernel
theorem d_TM_object_86 : decode prog_1_method_3_code 86 = .ok (.invokespecial 51, 3) := by decide +kernel
theorem d_TM_object_89 : decode prog_1_method_3_code 89 = .ok (.athrow, 1) := by decide +kernel
theorem d_TM_object_23 : decode prog_1_method_3_code 23 = .ok (.iconst 2, 1) := by decide +kernel
theorem d_TM_object_24 : decode prog_1_method_3_code 24 = .ok (.goto 4, 3) := by decide +kernel
theorem d_TM_object_14 : decode prog_1_method_3_code 14 = .ok (.iconst 1, 1) := by decide +kernel
theorem d_TM_object_15 : decode prog_1_method_3_code 15 = .ok (.goto 13, 3) := by decide +kernel
theorem d_TM_property_0 : decode prog_1_method_4_code 0 = .ok (.aload_n 0, 1) := by decide +kernel
theorem d_TM_property_1 : decode prog_1_method_4_code 1 = .ok (.getfield 19, 3) := by decide +kernel
theorem d_TM_property_4 : decode prog_1_method_4_code 4 = .ok (.iload_n 1, 1) := by decide +kernel
theorem d_TM_property_5 : decode prog_1_method_4_code 5 = .ok (.invokevirtual 73, 3) := by decide +kernel
theorem d_TM_property_8 : decode prog_1_method_4_code 8 = .ok (.ifCond .ne 13, 3) := by decide +kernel
theorem d_TM_property_11 : decode prog_1_method_4_code 11 = .ok (.new 76, 3) := by decide +kernel
theorem d_TM_property_14 : decode prog_1_method_4_code 14 = .ok (.dup, 1) := by decide +kernel
theorem d_TM_property_15 : decode prog_1_method_4_code 15 = .ok (.ldc 78, 2) := by decide +kernel
theorem d_TM_property_17 : decode prog_1_method_4_code 17 = .ok (.invokespecial 80, 3) := by decide +kernel
theorem d_TM_property_20 : decode prog_1_method_4_code 20 = .ok (.athrow, 1) := by decide +kernel
theorem d_TM_begin_0 : decode prog_1_method_5_code 0 = .ok (.aload_n 0, 1) := by decide +kernel
theorem d_TM_begin_1 : decode prog_1_method_5_code 1 = .ok (.getfield 19, 3) := by decide +kernel
theorem d_TM_begin_4 : decode prog_1_method_5_code 4 = .ok (.iload_n 1, 1) := by decide +kernel
theorem d_TM_begin_5 : decode prog_1_method_5_code 5 = .ok (.invokevirtual 73, 3) := by decide +kernel
theorem d_TM_begin_8 : decode prog_1_method_5_code 8 = .ok (.ifCond .ne 13, 3) := by decide +kernel
theorem d_TM_begin_11 : decode prog_1_method_5_code 11 = .ok (.new 76, 3) := by decide +kernel
theorem d_TM_begin_14 : decode prog_1_method_5_code 14 = .ok (.dup, 1) := by decide +kernel
theorem d_TM_begin_15 : decode prog_1_method_5_code 15 = .ok (.ldc 78, 2) := by decide +kernel
theorem d_TM_begin_17 : decode prog_1_method_5_code 17 = .ok (.invokespecial 80, 3) := by decide +kernel
theorem d_TM_begin_20 : decode prog_1_method_5_code 20 = .ok (.athrow, 1) := by decide +kernel
theorem d_TM_has_0 : decode prog_1_method_12_code 0 = .ok (.aload_n 0, 1) := by decide +kernel
theorem d_TM_has_1 : decode prog_1_method_12_code 1 = .ok (.getfield 19, 3) := by decide +kernel
theorem d_TM_has_4 : decode prog_1_method_12_code 4 = .ok (.iload_n 1, 1) := by decide +kernel
theorem d_TM_has_5 : decode prog_1_method_12_code 5 = .ok (.invokevirtual 73, 3) := by decide +kernel
theorem d_TM_has_8 : decode prog_1_method_12_code 8 = .ok (.ifCond .eq 22, 3) := by decide +kernel
theorem d_TM_has_30 : decode prog_1_method_12_code 30 = .ok (.iconst (-1), 1) := by decide +kernel
theorem d_TM_has_31 : decode prog_1_method_12_code 31 = .ok (.istore 4, 2) := by decide +kernel
theorem d_TM_has_33 : decode prog_1_method_12_code 33 = .ok (.iload 4, 2) := by decide +kernel
theorem d_TM_has_35 : decode prog_1_method_12_code 35 = .ok (.iconst (-1), 1) := by decide +kernel
theorem d_TM_has_36 : decode prog_1_method_12_code 36 = .ok (.if_icmp .eq 12, 3) := by decide +kernel
theorem d_TM_has_48 : decode prog_1_method_12_code 48 = .ok (.new 76, 3) := by decide +kernel
theorem d_TM_has_51 : decode prog_1_method_12_code 51 = .ok (.dup, 1) := by decide +kernel
theorem d_TM_has_52 : decode prog_1_method_12_code 52 = .ok (.ldc 177, 2) := by decide +kernel
theorem d_TM_has_54 : decode prog_1_method_12_code 54 = .ok (.invokespecial 80, 3) := by decide +kernel
theorem d_TM_has_57 : decode prog_1_method_12_code 57 = .ok (.athrow, 1) := by decide +kernel
theorem d_TM_part_0 : decode prog_1_method_15_code 0 = .ok (.iload_n 1, 1) := by decide +kernel
theorem d_TM_part_1 : decode prog_1_method_15_code 1 = .ok (.ifCond .lt 20, 3) := by decide +kernel
theorem d_TM_part_21 : decode prog_1_method_15_code 21 = .ok (.new 76, 3) := by decide +kernel
theorem d_TM_part_24 : decode prog_1_method_15_code 24 = .ok (.dup, 1) := by decide +kernel
theorem d_TM_part_25 : decode prog_1_method_15_code 25 = .ok (.ldc 182, 2) := by decide +kernel
theorem d_TM_part_27 : decode prog_1_method_15_code 27 = .ok (.invokespecial 80, 3) := by decide +kernel
theorem d_TM_part_30 : decode prog_1_method_15_code 30 = .ok (.athrow, 1) := by decide +kernel
theorem d_TM_part_4 : decode prog_1_method_15_code 4 = .ok (.iload_n 1, 1) := by decide +kernel
theorem d_TM_part_5 : decode prog_1_method_15_code 5 = .ok (.aload_n 0, 1) := by decide +kernel
theorem d_TM_part_6 : decode prog_1_method_15_code 6 = .ok (.getfield 168, 3) := by decide +kernel
theorem d_TM_part_9 : decode prog_1_method_15_code 9 = .ok (.if_icmp .ge 12, 3) := by decide +kernel
theorem d_TM_stack_0 : decode prog_1_method_9_code 0 = .ok (.aload_n 0, 1) := by decide +kernel
theorem d_TM_stack_1 : decode prog_1_method_9_code 1 = .ok (.getfield 35, 3) := by decide +kernel
theorem d_TM_stack_4 : decode prog_1_method_9_code 4 = .ok (.getfield 134, 3) := by decide +kernel
theorem d_TM_stack_7 : decode prog_1_method_9_code 7 = .ok (.iload_n 1, 1) := by decide +kernel
theorem d_TM_stack_8 : decode prog_1_method_9_code 8 = .ok (.iload_n 2, 1) := by decide +kernel
theorem d_TM_stack_9 : decode prog_1_method_9_code 9 = .ok (.invokestatic 138, 3) := by decide +kernel
theorem d_TM_said_0 : decode prog_1_method_11_code 0 = .ok (.iload_n 1, 1) := by decide +kernel
theorem d_TM_said_1 : decode prog_1_method_11_code 1 = .ok (.iconst (-1), 1) := by decide +kernel
theorem d_TM_said_2 : decode prog_1_method_11_code 2 = .ok (.if_icmp .ne 18, 3) := by decide +kernel
theorem d_TM_said_20 : decode prog_1_method_11_code 20 = .ok (.aload_n 0, 1) := by decide +kernel
theorem d_TM_said_21 : decode prog_1_method_11_code 21 = .ok (.getfield 35, 3) := by decide +kernel
theorem d_TM_said_24 : decode prog_1_method_11_code 24 = .ok (.getfield 165, 3) := by decide +kernel
theorem d_TM_said_27 : decode prog_1_method_11_code 27 = .ok (.iload_n 1, 1) := by decide +kernel
theorem d_TM_said_28 : decode prog_1_method_11_code 28 = .ok (.iload_n 2, 1) := by decide +kernel
theorem d_TM_said_29 : decode prog_1_method_11_code 29 = .ok (.invokestatic 138, 3) := by decide +kernel
theorem d_TM_said_5 : decode prog_1_method_11_code 5 = .ok (.aload_n 0, 1) := by decide +kernel
theorem d_TM_said_6 : decode prog_1_method_11_code 6 = .ok (.getfield 35, 3) := by decide +kernel
theorem d_TM_said_9 : decode prog_1_method_11_code 9 = .ok (.getfield 174, 3) := by decide +kernel
theorem d_TM_said_12 : decode prog_1_method_11_code 12 = .ok (.iconst 0, 1) := by decide +kernel
theorem d_TM_said_13 : decode prog_1_method_11_code 13 = .ok (.iload_n 2, 1) := by decide +kernel
theorem d_TM_said_14 : decode prog_1_method_11_code 14 = .ok (.invokestatic 138, 3) := by decide +kernel
theorem d_TM_show_10 : decode prog_1_method_10_code 10 = .ok (.aload_n 0, 1) := by decide +kernel
theorem d_TM_show_11 : decode prog_1_method_10_code 11 = .ok (.getfield 35, 3) := by decide +kernel
theorem d_TM_show_14 : decode prog_1_method_10_code 14 = .ok (.getfield 142, 3) := by decide +kernel
theorem d_TM_show_17 : decode prog_1_method_10_code 17 = .ok (.ifCond .ne 13, 3) := by decide +kernel
theorem d_TM_show_20 : decode prog_1_method_10_code 20 = .ok (.new 76, 3) := by decide +kernel
theorem d_TM_show_23 : decode prog_1_method_10_code 23 = .ok (.dup, 1) := by decide +kernel
theorem d_TM_show_24 : decode prog_1_method_10_code 24 = .ok (.ldc 145, 2) := by decide +kernel
theorem d_TM_show_26 : decode prog_1_method_10_code 26 = .ok (.invokespecial 80, 3) := by decide +kernel
theorem d_TM_show_29 : decode prog_1_method_10_code 29 = .ok (.athrow, 1) := by decide +kernel
theorem d_TM_show_125 : decode prog_1_method_10_code 125 = .ok (.new 76, 3) := by decide +kernel
theorem d_TM_show_128 : decode prog_1_method_10_code 128 = .ok (.dup, 1) := by decide +kernel
theorem d_TM_show_129 : decode prog_1_method_10_code 129 = .ok (.ldc 172, 2) := by decide +kernel
theorem d_TM_show_131 : decode prog_1_method_10_code 131 = .ok (.invokespecial 80, 3) := by decide +kernel
theorem d_TM_show_134 : decode prog_1_method_10_code 134 = .ok (.athrow, 1) := by decide +kernel
theorem d_Model_init_0 : decode prog_10_method_1_code 0 = .ok (.aload_n 0, 1) := by decide +kernel
theorem d_Model_init_1 : decode prog_10_method_1_code 1 = .ok (.invokespecial 1, 3) := by decide +kernel
theorem d_Model_init_4 : decode prog_10_method_1_code 4 = .ok (.aload_n 0, 1) := by decide +kernel
theorem d_Model_init_5 : decode prog_10_method_1_code 5 = .ok (.sipush 300, 3) := by decide +kernel
theorem d_Model_init_8 : decode prog_10_method_1_code 8 = .ok (.newarray .int, 2) := by decide +kernel
theorem d_Model_init_10 : decode prog_10_method_1_code 10 = .ok (.putfield 7, 3) := by decide +kernel
theorem d_Model_init_13 : decode prog_10_method_1_code 13 = .ok (.aload_n 0, 1) := by decide +kernel
theorem d_Model_init_14 : decode prog_10_method_1_code 14 = .ok (.sipush 5568, 3) := by decide +kernel
theorem d_Model_init_17 : decode prog_10_method_1_code 17 = .ok (.newarray .int, 2) := by decide +kernel
theorem d_Model_init_19 : decode prog_10_method_1_code 19 = .ok (.putfield 13, 3) := by decide +kernel
theorem d_Model_init_22 : decode prog_10_method_1_code 22 = .ok (.aload_n 0, 1) := by decide +kernel
theorem d_Model_init_23 : decode prog_10_method_1_code 23 = .ok (.iconst 2, 1) := by decide +kernel
theorem d_Model_init_24 : decode prog_10_method_1_code 24 = .ok (.newarray .boolean, 2) := by decide +kernel
theorem d_Model_init_26 : decode prog_10_method_1_code 26 = .ok (.putfield 16, 3) := by decide +kernel
theorem d_Model_init_29 : decode prog_10_method_1_code 29 = .ok (.aload_n 0, 1) := by decide +kernel
theorem d_Model_init_30 : decode prog_10_method_1_code 30 = .ok (.bipush 32, 2) := by decide +kernel
theorem d_Model_init_32 : decode prog_10_method_1_code 32 = .ok (.newarray .int, 2) := by decide +kernel
theorem d_Model_init_34 : decode prog_10_method_1_code 34 = .ok (.putfield 20, 3) := by decide +kernel
theorem d_Model_init_37 : decode prog_10_method_1_code 37 = .ok (.aload_n 0, 1) := by decide +kernel
theorem d_Model_init_38 : decode prog_10_method_1_code 38 = .ok (.bipush 32, 2) := by decide +kernel
theorem d_Model_init_40 : decode prog_10_method_1_code 40 = .ok (.newarray .boolean, 2) := by decide +kernel
theorem d_Model_init_42 : decode prog_10_method_1_code 42 = .ok (.putfield 23, 3) := by decide +kernel
theorem d_Model_init_45 : decode prog_10_method_1_code 45 = .ok (.aload_n 0, 1) := by decide +kernel
theorem d_Model_init_46 : decode prog_10_method_1_code 46 = .ok (.bipush 40, 2) := by decide +kernel
theorem d_Model_init_48 : decode prog_10_method_1_code 48 = .ok (.newarray .int, 2) := by decide +kernel
theorem d_Model_init_50 : decode prog_10_method_1_code 50 = .ok (.putfield 26, 3) := by decide +kernel
theorem d_Model_init_53 : decode prog_10_method_1_code 53 = .ok (.aload_n 0, 1) := by decide +kernel
theorem d_Model_init_54 : decode prog_10_method_1_code 54 = .ok (.bipush 40, 2) := by decide +kernel
theorem d_Model_init_56 : decode prog_10_method_1_code 56 = .ok (.newarray .int, 2) := by decide +kernel
theorem d_Model_init_58 : decode prog_10_method_1_code 58 = .ok (.putfield 29, 3) := by decide +kernel
theorem d_Model_init_61 : decode prog_10_method_1_code 61 = .ok (.aload_n 0, 1) := by decide +kernel
theorem d_Model_init_62 : decode prog_10_method_1_code 62 = .ok (.bipush 40, 2) := by decide +kernel
theorem d_Model_init_64 : decode prog_10_method_1_code 64 = .ok (.newarray .int, 2) := by decide +kernel
theorem d_Model_init_66 : decode prog_10_method_1_code 66 = .ok (.putfield 32, 3) := by decide +kernel
theorem d_Model_init_69 : decode prog_10_method_1_code 69 = .ok (.aload_n 0, 1) := by decide +kernel
theorem d_Model_init_70 : decode prog_10_method_1_code 70 = .ok (.bipush 40, 2) := by decide +kernel
theorem d_Model_init_72 : decode prog_10_method_1_code 72 = .ok (.newarray .int, 2) := by decide +kernel
theorem d_Model_init_74 : decode prog_10_method_1_code 74 = .ok (.putfield 35, 3) := by decide +kernel
theorem d_Model_init_77 : decode prog_10_method_1_code 77 = .ok (.aload_n 0, 1) := by decide +kernel
theorem d_Model_init_78 : decode prog_10_method_1_code 78 = .ok (.bipush 8, 2) := by decide +kernel
theorem d_Model_init_80 : decode prog_10_method_1_code 80 = .ok (.newarray .int, 2) := by decide +kernel
theorem d_Model_init_82 : decode prog_10_method_1_code 82 = .ok (.putfield 38, 3) := by decide +kernel
theorem d_Model_init_85 : decode prog_10_method_1_code 85 = .ok (.aload_n 0, 1) := by decide +kernel
theorem d_Model_init_86 : decode prog_10_method_1_code 86 = .ok (.bipush 8, 2) := by decide +kernel
theorem d_Model_init_88 : decode prog_10_method_1_code 88 = .ok (.newarray .int, 2) := by decide +kernel
theorem d_Model_init_90 : decode prog_10_method_1_code 90 = .ok (.putfield 41, 3) := by decide +kernel
theorem d_Model_init_93 : decode prog_10_method_1_code 93 = .ok (.aload_n 0, 1) := by decide +kernel
theorem d_Model_init_94 : decode prog_10_method_1_code 94 = .ok (.bipush 8, 2) := by decide +kernel
theorem d_Model_init_96 : decode prog_10_method_1_code 96 = .ok (.newarray .int, 2) := by decide +kernel
theorem d_Model_init_98 : decode prog_10_method_1_code 98 = .ok (.putfield 44, 3) := by decide +kernel
theorem d_Model_init_101 : decode prog_10_method_1_code 101 = .ok (.aload_n 0, 1) := by decide +kernel
theorem d_Model_init_102 : decode prog_10_method_1_code 102 = .ok (.bipush 8, 2) := by decide +kernel
theorem d_Model_init_104 : decode prog_10_method_1_code 104 = .ok (.newarray .int, 2) := by decide +kernel
theorem d_Model_init_106 : decode prog_10_method_1_code 106 = .ok (.putfield 47, 3) := by decide +kernel
theorem d_Model_init_109 : decode prog_10_method_1_code 109 = .ok (.aload_n 0, 1) := by decide +kernel
theorem d_Model_init_110 : decode prog_10_method_1_code 110 = .ok (.bipush 8, 2) := by decide +kernel
theorem d_Model_init_112 : decode prog_10_method_1_code 112 = .ok (.newarray .int, 2) := by decide +kernel
theorem d_Model_init_114 : decode prog_10_method_1_code 114 = .ok (.putfield 50, 3) := by decide +kernel
theorem d_Model_init_117 : decode prog_10_method_1_code 117 = .ok (.aload_n 0, 1) := by decide +kernel
theorem d_Model_init_118 : decode prog_10_method_1_code 118 = .ok (.bipush 8, 2) := by decide +kernel
theorem d_Model_init_120 : decode prog_10_method_1_code 120 = .ok (.newarray .int, 2) := by decide +kernel
theorem d_Model_init_122 : decode prog_10_method_1_code 122 = .ok (.putfield 53, 3) := by decide +kernel
theorem d_Model_init_125 : decode prog_10_method_1_code 125 = .ok (.aload_n 0, 1) := by decide +kernel
theorem d_Model_init_126 : decode prog_10_method_1_code 126 = .ok (.bipush 8, 2) := by decide +kernel
theorem d_Model_init_128 : decode prog_10_method_1_code 128 = .ok (.newarray .int, 2) := by decide +kernel
theorem d_Model_init_130 : decode prog_10_method_1_code 130 = .ok (.putfield 56, 3) := by decide +kernel
theorem d_Model_init_133 : decode prog_10_method_1_code 133 = .ok (.aload_n 0, 1) := by decide +kernel
theorem d_Model_init_134 : decode prog_10_method_1_code 134 = .ok (.bipush 8, 2) := by decide +kernel
theorem d_Model_init_136 : decode prog_10_method_1_code 136 = .ok (.newarray .int, 2) := by decide +kernel
theorem d_Model_init_138 : decode prog_10_method_1_code 138 = .ok (.putfield 59, 3) := by decide +kernel
theorem d_Model_init_141 : decode prog_10_method_1_code 141 = .ok (.aload_n 0, 1) := by decide +kernel
theorem d_Model_init_142 : decode prog_10_method_1_code 142 = .ok (.bipush 8, 2) := by decide +kernel
theorem d_Model_init_144 : decode prog_10_method_1_code 144 = .ok (.newarray .int, 2) := by decide +kernel
theorem d_Model_init_146 : decode prog_10_method_1_code 146 = .ok (.putfield 62, 3) := by decide +kernel
theorem d_Model_init_149 : decode prog_10_method_1_code 149 = .ok (.aload_n 0, 1) := by decide +kernel
theorem d_Model_init_150 : decode prog_10_method_1_code 150 = .ok (.bipush 50, 2) := by decide +kernel
theorem d_Model_init_152 : decode prog_10_method_1_code 152 = .ok (.newarray .int, 2) := by decide +kernel
theorem d_Model_init_154 : decode prog_10_method_1_code 154 = .ok (.putfield 65, 3) := by decide +kernel
theorem d_Model_init_157 : decode prog_10_method_1_code 157 = .ok (.aload_n 0, 1) := by decide +kernel
theorem d_Model_init_158 : decode prog_10_method_1_code 158 = .ok (.bipush 50, 2) := by decide +kernel
theorem d_Model_init_160 : decode prog_10_method_1_code 160 = .ok (.newarray .int, 2) := by decide +kernel
theorem d_Model_init_162 : decode prog_10_method_1_code 162 = .ok (.putfield 68, 3) := by decide +kernel
theorem d_Model_init_165 : decode prog_10_method_1_code 165 = .ok (.aload_n 0, 1) := by decide +kernel
theorem d_Model_init_166 : decode prog_10_method_1_code 166 = .ok (.iconst (-1), 1) := by decide +kernel
theorem d_Model_init_167 : decode prog_10_method_1_code 167 = .ok (.putfield 71, 3) := by decide +kernel
theorem d_Model_init_170 : decode prog_10_method_1_code 170 = .ok (.return_, 1) := by decide +kernel
theorem d_Law_object_0 : decode method_3_code 0 = .ok (.aload 4, 2) := by decide +kernel
theorem d_Law_object_2 : decode method_3_code 2 = .ok (.iconst 0, 1) := by decide +kernel
theorem d_Law_object_3 : decode method_3_code 3 = .ok (.aload_n 0, 1) := by decide +kernel
theorem d_Law_object_4 : decode method_3_code 4 = .ok (.iload_n 1, 1) := by decide +kernel
theorem d_Law_object_5 : decode method_3_code 5 = .ok (.iload_n 2, 1) := by decide +kernel
theorem d_Law_object_6 : decode method_3_code 6 = .ok (.iload_n 3, 1) := by decide +kernel
theorem d_Law_object_7 : decode method_3_code 7 = .ok (.invokevirtual 7, 3) := by decide +kernel
theorem d_Law_object_10 : decode method_3_code 10 = .ok (.i2l, 1) := by decide +kernel
theorem d_Law_object_11 : decode method_3_code 11 = .ok (.lastore, 1) := by decide +kernel
theorem d_Law_object_12 : decode method_3_code 12 = .ok (.goto 11, 3) := by decide +kernel
theorem d_Law_object_23 : decode method_3_code 23 = .ok (.iconst 0, 1) := by decide +kernel
theorem d_Law_object_24 : decode method_3_code 24 = .ok (.ireturn, 1) := by decide +kernel
theorem d_Law_object_15 : decode method_3_code 15 = .ok (.astore 5, 2) := by decide +kernel
theorem d_Law_object_17 : decode method_3_code 17 = .ok (.iconst 1, 1) := by decide +kernel
theorem d_Law_object_18 : decode method_3_code 18 = .ok (.ireturn, 1) := by decide +kernel
theorem d_Law_property_0 : decode method_4_code 0 = .ok (.aload_n 0, 1) := by decide +kernel
theorem d_Law_property_1 : decode method_4_code 1 = .ok (.iload_n 1, 1) := by decide +kernel
theorem d_Law_property_2 : decode method_4_code 2 = .ok (.iload_n 2, 1) := by decide +kernel
theorem d_Law_property_3 : decode method_4_code 3 = .ok (.iload_n 3, 1) := by decide +kernel
theorem d_Law_property_4 : decode method_4_code 4 = .ok (.iload 4, 2) := by decide +kernel
theorem d_Law_property_6 : decode method_4_code 6 = .ok (.invokevirtual 17, 3) := by decide +kernel
theorem d_Law_property_12 : decode method_4_code 12 = .ok (.astore 5, 2) := by decide +kernel
theorem d_Law_property_14 : decode method_4_code 14 = .ok (.iconst 1, 1) := by decide +kernel
theorem d_Law_property_15 : decode method_4_code 15 = .ok (.ireturn, 1) := by decide +kernel
theorem d_Law_begin_0 : decode method_5_code 0 = .ok (.aload_n 0, 1) := by decide +kernel
theorem d_Law_begin_1 : decode method_5_code 1 = .ok (.iload_n 1, 1) := by decide +kernel
theorem d_Law_begin_2 : decode method_5_code 2 = .ok (.iload_n 2, 1) := by decide +kernel
theorem d_Law_begin_3 : decode method_5_code 3 = .ok (.invokevirtual 23, 3) := by decide +kernel
theorem d_Law_begin_9 : decode method_5_code 9 = .ok (.astore_n 3, 1) := by decide +kernel
theorem d_Law_begin_10 : decode method_5_code 10 = .ok (.iconst 1, 1) := by decide +kernel
theorem d_Law_begin_11 : decode method_5_code 11 = .ok (.ireturn, 1) := by decide +kernel
theorem d_Law_stack_0 : decode method_6_code 0 = .ok (.aload_n 3, 1) := by decide +kernel
theorem d_Law_stack_1 : decode method_6_code 1 = .ok (.iconst 0, 1) := by decide +kernel
theorem d_Law_stack_2 : decode method_6_code 2 = .ok (.aload_n 0, 1) := by decide +kernel
theorem d_Law_stack_3 : decode method_6_code 3 = .ok (.iload_n 1, 1) := by decide +kernel
theorem d_Law_stack_4 : decode method_6_code 4 = .ok (.iload_n 2, 1) := by decide +kernel
theorem d_Law_stack_5 : decode method_6_code 5 = .ok (.invokevirtual 27, 3) := by decide +kernel
theorem d_Law_stack_13 : decode method_6_code 13 = .ok (.astore 4, 2) := by decide +kernel
theorem d_Law_stack_15 : decode method_6_code 15 = .ok (.iconst 1, 1) := by decide +kernel
theorem d_Law_stack_16 : decode method_6_code 16 = .ok (.ireturn, 1) := by decide +kernel
theorem d_Law_said_0 : decode method_8_code 0 = .ok (.aload_n 3, 1) := by decide +kernel
theorem d_Law_said_1 : decode method_8_code 1 = .ok (.iconst 0, 1) := by decide +kernel
theorem d_Law_said_2 : decode method_8_code 2 = .ok (.aload_n 0, 1) := by decide +kernel
theorem d_Law_said_3 : decode method_8_code 3 = .ok (.iload_n 1, 1) := by decide +kernel
theorem d_Law_said_4 : decode method_8_code 4 = .ok (.iload_n 2, 1) := by decide +kernel
theorem d_Law_said_5 : decode method_8_code 5 = .ok (.invokevirtual 35, 3) := by decide +kernel
theorem d_Law_said_13 : decode method_8_code 13 = .ok (.astore 4, 2) := by decide +kernel
theorem d_Law_said_15 : decode method_8_code 15 = .ok (.iconst 1, 1) := by decide +kernel
theorem d_Law_said_16 : decode method_8_code 16 = .ok (.ireturn, 1) := by decide +kernel
theorem d_Law_has_0 : decode method_9_code 0 = .ok (.aload 4, 2) := by decide +kernel
theorem d_Law_has_2 : decode method_9_code 2 = .ok (.iconst 0, 1) := by decide +kernel
theorem d_Law_has_3 : decode method_9_code 3 = .ok (.aload_n 0, 1) := by decide +kernel
theorem d_Law_has_4 : decode method_9_code 4 = .ok (.iload_n 1, 1) := by decide +kernel
theorem d_Law_has_5 : decode method_9_code 5 = .ok (.iload_n 2, 1) := by decide +kernel
theorem d_Law_has_6 : decode method_9_code 6 = .ok (.iload_n 3, 1) := by decide +kernel
theorem d_Law_has_7 : decode method_9_code 7 = .ok (.invokevirtual 38, 3) := by decide +kernel
theorem d_Law_has_15 : decode method_9_code 15 = .ok (.astore 5, 2) := by decide +kernel
theorem d_Law_has_17 : decode method_9_code 17 = .ok (.iconst 1, 1) := by decide +kernel
theorem d_Law_has_18 : decode method_9_code 18 = .ok (.ireturn, 1) := by decide +kernel
theorem d_Law_show_0 : decode method_7_code 0 = .ok (.aload_n 2, 1) := by decide +kernel
theorem d_Law_show_1 : decode method_7_code 1 = .ok (.iconst 0, 1) := by decide +kernel
theorem d_Law_show_2 : decode method_7_code 2 = .ok (.aload_n 0, 1) := by decide +kernel
theorem d_Law_show_3 : decode method_7_code 3 = .ok (.iload_n 1, 1) := by decide +kernel
theorem d_Law_show_4 : decode method_7_code 4 = .ok (.invokevirtual 31, 3) := by decide +kernel
theorem d_Law_show_7 : decode method_7_code 7 = .ok (.i2l, 1) := by decide +kernel
theorem d_Law_show_8 : decode method_7_code 8 = .ok (.lastore, 1) := by decide +kernel
theorem d_Law_show_9 : decode method_7_code 9 = .ok (.goto 6, 3) := by decide +kernel
theorem d_Law_show_15 : decode method_7_code 15 = .ok (.iconst 0, 1) := by decide +kernel
theorem d_Law_show_16 : decode method_7_code 16 = .ok (.ireturn, 1) := by decide +kernel
theorem d_Law_show_12 : decode method_7_code 12 = .ok (.astore_n 3, 1) := by decide +kernel
theorem d_Law_show_13 : decode method_7_code 13 = .ok (.iconst 1, 1) := by decide +kernel
theorem d_Law_show_14 : decode method_7_code 14 = .ok (.ireturn, 1) := by decide +kernel
theorem d_Law_law_100 : decode code 100 = .ok (.aload_n 1, 1) := by decide +kernel
theorem d_Law_law_101 : decode code 101 = .ok (.aload_n 0, 1) := by decide +kernel
theorem d_Law_law_102 : decode code 102 = .ok (.iload 4, 2) := by decide +kernel
theorem d_Law_law_104 : decode code 104 = .ok (.iconst 1, 1) := by decide +kernel
theorem d_Law_law_105 : decode code 105 = .ok (.iadd, 1) := by decide +kernel
theorem d_Law_law_106 : decode code 106 = .ok (.iaload, 1) := by decide +kernel
theorem d_Law_law_107 : decode code 107 = .ok (.aload_n 0, 1) := by decide +kernel
theorem d_Law_law_108 : decode code 108 = .ok (.iload 4, 2) := by decide +kernel
theorem d_Law_law_110 : decode code 110 = .ok (.iconst 2, 1) := by decide +kernel
theorem d_Law_law_111 : decode code 111 = .ok (.iadd, 1) := by decide +kernel
theorem d_Law_law_112 : decode code 112 = .ok (.iaload, 1) := by decide +kernel
theorem d_Law_law_113 : decode code 113 = .ok (.invokevirtual 45, 3) := by decide +kernel
theorem d_Law_law_116 : decode code 116 = .ok (.aload_n 2, 1) := by decide +kernel
theorem d_Law_law_117 : decode code 117 = .ok (.aload_n 0, 1) := by decide +kernel
theorem d_Law_law_118 : decode code 118 = .ok (.iload 4, 2) := by decide +kernel
theorem d_Law_law_120 : decode code 120 = .ok (.iconst 1, 1) := by decide +kernel
theorem d_Law_law_121 : decode code 121 = .ok (.iadd, 1) := by decide +kernel
theorem d_Law_law_122 : decode code 122 = .ok (.iaload, 1) := by decide +kernel
theorem d_Law_law_123 : decode code 123 = .ok (.aload_n 0, 1) := by decide +kernel
theorem d_Law_law_124 : decode code 124 = .ok (.iload 4, 2) := by decide +kernel
theorem d_Law_law_126 : decode code 126 = .ok (.iconst 2, 1) := by decide +kernel
theorem d_Law_law_127 : decode code 127 = .ok (.iadd, 1) := by decide +kernel
theorem d_Law_law_128 : decode code 128 = .ok (.iaload, 1) := by decide +kernel
theorem d_Law_law_129 : decode code 129 = .ok (.invokevirtual 49, 3) := by decide +kernel
theorem d_Law_law_132 : decode code 132 = .ok (.if_icmp .eq 565, 3) := by decide +kernel
theorem d_Law_law_697 : decode code 697 = .ok (.iinc 4 5, 3) := by decide +kernel
theorem d_Law_law_700 : decode code 700 = .ok (.goto (-677), 3) := by decide +kernel
theorem d_Law_law_23 : decode code 23 = .ok (.iload 4, 2) := by decide +kernel
theorem d_Law_law_25 : decode code 25 = .ok (.aload_n 0, 1) := by decide +kernel
theorem d_Law_law_26 : decode code 26 = .ok (.arraylength, 1) := by decide +kernel
theorem d_Law_law_27 : decode code 27 = .ok (.iconst 5, 1) := by decide +kernel
theorem d_Law_law_28 : decode code 28 = .ok (.isub, 1) := by decide +kernel
theorem d_Law_law_29 : decode code 29 = .ok (.if_icmp .gt 674, 3) := by decide +kernel
theorem d_Law_law_703 : decode code 703 = .ok (.iconst 1, 1) := by decide +kernel
theorem d_Law_law_704 : decode code 704 = .ok (.ireturn, 1) := by decide +kernel
theorem d_Law_law_137 : decode code 137 = .ok (.aload_n 1, 1) := by decide +kernel
theorem d_Law_law_138 : decode code 138 = .ok (.aload_n 0, 1) := by decide +kernel
theorem d_Law_law_139 : decode code 139 = .ok (.iload 4, 2) := by decide +kernel
theorem d_Law_law_141 : decode code 141 = .ok (.iconst 1, 1) := by decide +kernel
theorem d_Law_law_142 : decode code 142 = .ok (.iadd, 1) := by decide +kernel
theorem d_Law_law_143 : decode code 143 = .ok (.iaload, 1) := by decide +kernel
theorem d_Law_law_144 : decode code 144 = .ok (.aload_n 0, 1) := by decide +kernel
theorem d_Law_law_145 : decode code 145 = .ok (.iload 4, 2) := by decide +kernel
theorem d_Law_law_147 : decode code 147 = .ok (.iconst 2, 1) := by decide +kernel
theorem d_Law_law_148 : decode code 148 = .ok (.iadd, 1) := by decide +kernel
theorem d_Law_law_149 : decode code 149 = .ok (.iaload, 1) := by decide +kernel
theorem d_Law_law_150 : decode code 150 = .ok (.aload_n 0, 1) := by decide +kernel
theorem d_Law_law_151 : decode code 151 = .ok (.iload 4, 2) := by decide +kernel
theorem d_Law_law_153 : decode code 153 = .ok (.iconst 3, 1) := by decide +kernel
theorem d_Law_law_154 : decode code 154 = .ok (.iadd, 1) := by decide +kernel
theorem d_Law_law_155 : decode code 155 = .ok (.iaload, 1) := by decide +kernel
theorem d_Law_law_156 : decode code 156 = .ok (.aload_n 3, 1) := by decide +kernel
theorem d_Law_law_157 : decode code 157 = .ok (.invokestatic 50, 3) := by decide +kernel
theorem d_Law_law_160 : decode code 160 = .ok (.istore 5, 2) := by decide +kernel
theorem d_Law_law_162 : decode code 162 = .ok (.aload_n 2, 1) := by decide +kernel
theorem d_Law_law_163 : decode code 163 = .ok (.aload_n 0, 1) := by decide +kernel
theorem d_Law_law_164 : decode code 164 = .ok (.iload 4, 2) := by decide +kernel
theorem d_Law_law_166 : decode code 166 = .ok (.iconst 1, 1) := by decide +kernel
theorem d_Law_law_167 : decode code 167 = .ok (.iadd, 1) := by decide +kernel
theorem d_Law_law_168 : decode code 168 = .ok (.iaload, 1) := by decide +kernel
theorem d_Law_law_169 : decode code 169 = .ok (.aload_n 0, 1) := by decide +kernel
theorem d_Law_law_170 : decode code 170 = .ok (.iload 4, 2) := by decide +kernel
theorem d_Law_law_172 : decode code 172 = .ok (.iconst 2, 1) := by decide +kernel
theorem d_Law_law_173 : decode code 173 = .ok (.iadd, 1) := by decide +kernel
theorem d_Law_law_174 : decode code 174 = .ok (.iaload, 1) := by decide +kernel
theorem d_Law_law_175 : decode code 175 = .ok (.aload_n 0, 1) := by decide +kernel
theorem d_Law_law_176 : decode code 176 = .ok (.iload 4, 2) := by decide +kernel
theorem d_Law_law_178 : decode code 178 = .ok (.iconst 3, 1) := by decide +kernel
theorem d_Law_law_179 : decode code 179 = .ok (.iadd, 1) := by decide +kernel
theorem d_Law_law_180 : decode code 180 = .ok (.iaload, 1) := by decide +kernel
theorem d_Law_law_181 : decode code 181 = .ok (.invokevirtual 55, 3) := by decide +kernel
theorem d_Law_law_184 : decode code 184 = .ok (.istore 6, 2) := by decide +kernel
theorem d_Law_law_186 : decode code 186 = .ok (.aload_n 2, 1) := by decide +kernel
theorem d_Law_law_187 : decode code 187 = .ok (.invokevirtual 56, 3) := by decide +kernel
theorem d_Law_law_190 : decode code 190 = .ok (.iload 5, 2) := by decide +kernel
theorem d_Law_law_192 : decode code 192 = .ok (.if_icmp .eq 5, 3) := by decide +kernel
theorem d_Law_law_197 : decode code 197 = .ok (.iload 5, 2) := by decide +kernel
theorem d_Law_law_199 : decode code 199 = .ok (.ifCond .ne 15, 3) := by decide +kernel
theorem d_Law_law_202 : decode code 202 = .ok (.aload_n 3, 1) := by decide +kernel
theorem d_Law_law_203 : decode code 203 = .ok (.iconst 0, 1) := by decide +kernel
theorem d_Law_law_204 : decode code 204 = .ok (.laload, 1) := by decide +kernel
theorem d_Law_law_205 : decode code 205 = .ok (.iload 6, 2) := by decide +kernel
theorem d_Law_law_207 : decode code 207 = .ok (.i2l, 1) := by decide +kernel
theorem d_Law_law_208 : decode code 208 = .ok (.lcmp, 1) := by decide +kernel
theorem d_Law_law_209 : decode code 209 = .ok (.ifCond .eq 5, 3) := by decide +kernel
theorem d_Law_law_214 : decode code 214 = .ok (.goto 483, 3) := by decide +kernel
theorem d_Law_law_217 : decode code 217 = .ok (.aload_n 1, 1) := by decide +kernel
theorem d_Law_law_218 : decode code 218 = .ok (.aload_n 0, 1) := by decide +kernel
theorem d_Law_law_219 : decode code 219 = .ok (.iload 4, 2) := by decide +kernel
theorem d_Law_law_221 : decode code 221 = .ok (.iconst 1, 1) := by decide +kernel
theorem d_Law_law_222 : decode code 222 = .ok (.iadd, 1) := by decide +kernel
theorem d_Law_law_223 : decode code 223 = .ok (.iaload, 1) := by decide +kernel
theorem d_Law_law_224 : decode code 224 = .ok (.aload_n 0, 1) := by decide +kernel
theorem d_Law_law_225 : decode code 225 = .ok (.iload 4, 2) := by decide +kernel
theorem d_Law_law_227 : decode code 227 = .ok (.iconst 2, 1) := by decide +kernel
theorem d_Law_law_228 : decode code 228 = .ok (.iadd, 1) := by decide +kernel
theorem d_Law_law_229 : decode code 229 = .ok (.iaload, 1) := by decide +kernel
theorem d_Law_law_230 : decode code 230 = .ok (.aload_n 0, 1) := by decide +kernel
theorem d_Law_law_231 : decode code 231 = .ok (.iload 4, 2) := by decide +kernel
theorem d_Law_law_233 : decode code 233 = .ok (.iconst 3, 1) := by decide +kernel
theorem d_Law_law_234 : decode code 234 = .ok (.iadd, 1) := by decide +kernel
theorem d_Law_law_235 : decode code 235 = .ok (.iaload, 1) := by decide +kernel
theorem d_Law_law_236 : decode code 236 = .ok (.aload_n 0, 1) := by decide +kernel
theorem d_Law_law_237 : decode code 237 = .ok (.iload 4, 2) := by decide +kernel
theorem d_Law_law_239 : decode code 239 = .ok (.iconst 4, 1) := by decide +kernel
theorem d_Law_law_240 : decode code 240 = .ok (.iadd, 1) := by decide +kernel
theorem d_Law_law_241 : decode code 241 = .ok (.iaload, 1) := by decide +kernel
theorem d_Law_law_242 : decode code 242 = .ok (.invokestatic 60, 3) := by decide +kernel
theorem d_Law_law_245 : decode code 245 = .ok (.istore 5, 2) := by decide +kernel
theorem d_Law_law_247 : decode code 247 = .ok (.aload_n 2, 1) := by decide +kernel
theorem d_Law_law_248 : decode code 248 = .ok (.aload_n 0, 1) := by decide +kernel
theorem d_Law_law_249 : decode code 249 = .ok (.iload 4, 2) := by decide +kernel
theorem d_Law_law_251 : decode code 251 = .ok (.iconst 1, 1) := by decide +kernel
theorem d_Law_law_252 : decode code 252 = .ok (.iadd, 1) := by decide +kernel
theorem d_Law_law_253 : decode code 253 = .ok (.iaload, 1) := by decide +kernel
theorem d_Law_law_254 : decode code 254 = .ok (.aload_n 0, 1) := by decide +kernel
theorem d_Law_law_255 : decode code 255 = .ok (.iload 4, 2) := by decide +kernel
theorem d_Law_law_257 : decode code 257 = .ok (.iconst 2, 1) := by decide +kernel
theorem d_Law_law_258 : decode code 258 = .ok (.iadd, 1) := by decide +kernel
theorem d_Law_law_259 : decode code 259 = .ok (.iaload, 1) := by decide +kernel
theorem d_Law_law_260 : decode code 260 = .ok (.aload_n 0, 1) := by decide +kernel
theorem d_Law_law_261 : decode code 261 = .ok (.iload 4, 2) := by decide +kernel
theorem d_Law_law_263 : decode code 263 = .ok (.iconst 3, 1) := by decide +kernel
theorem d_Law_law_264 : decode code 264 = .ok (.iadd, 1) := by decide +kernel
theorem d_Law_law_265 : decode code 265 = .ok (.iaload, 1) := by decide +kernel
theorem d_Law_law_266 : decode code 266 = .ok (.aload_n 0, 1) := by decide +kernel
theorem d_Law_law_267 : decode code 267 = .ok (.iload 4, 2) := by decide +kernel
theorem d_Law_law_269 : decode code 269 = .ok (.iconst 4, 1) := by decide +kernel
theorem d_Law_law_270 : decode code 270 = .ok (.iadd, 1) := by decide +kernel
theorem d_Law_law_271 : decode code 271 = .ok (.iaload, 1) := by decide +kernel
theorem d_Law_law_272 : decode code 272 = .ok (.invokevirtual 63, 3) := by decide +kernel
theorem d_Law_law_275 : decode code 275 = .ok (.aload_n 2, 1) := by decide +kernel
theorem d_Law_law_276 : decode code 276 = .ok (.invokevirtual 56, 3) := by decide +kernel
theorem d_Law_law_279 : decode code 279 = .ok (.iload 5, 2) := by decide +kernel
theorem d_Law_law_281 : decode code 281 = .ok (.if_icmp .eq 5, 3) := by decide +kernel
theorem d_Law_law_286 : decode code 286 = .ok (.goto 411, 3) := by decide +kernel
theorem d_Law_law_289 : decode code 289 = .ok (.aload_n 1, 1) := by decide +kernel
theorem d_Law_law_290 : decode code 290 = .ok (.aload_n 0, 1) := by decide +kernel
theorem d_Law_law_291 : decode code 291 = .ok (.iload 4, 2) := by decide +kernel
theorem d_Law_law_293 : decode code 293 = .ok (.iconst 1, 1) := by decide +kernel
theorem d_Law_law_294 : decode code 294 = .ok (.iadd, 1) := by decide +kernel
theorem d_Law_law_295 : decode code 295 = .ok (.iaload, 1) := by decide +kernel
theorem d_Law_law_296 : decode code 296 = .ok (.aload_n 0, 1) := by decide +kernel
theorem d_Law_law_297 : decode code 297 = .ok (.iload 4, 2) := by decide +kernel
theorem d_Law_law_299 : decode code 299 = .ok (.iconst 2, 1) := by decide +kernel
theorem d_Law_law_300 : decode code 300 = .ok (.iadd, 1) := by decide +kernel
theorem d_Law_law_301 : decode code 301 = .ok (.iaload, 1) := by decide +kernel
theorem d_Law_law_302 : decode code 302 = .ok (.invokestatic 64, 3) := by decide +kernel
theorem d_Law_law_305 : decode code 305 = .ok (.istore 5, 2) := by decide +kernel
theorem d_Law_law_307 : decode code 307 = .ok (.aload_n 2, 1) := by decide +kernel
theorem d_Law_law_308 : decode code 308 = .ok (.aload_n 0, 1) := by decide +kernel
theorem d_Law_law_309 : decode code 309 = .ok (.iload 4, 2) := by decide +kernel
theorem d_Law_law_311 : decode code 311 = .ok (.iconst 1, 1) := by decide +kernel
theorem d_Law_law_312 : decode code 312 = .ok (.iadd, 1) := by decide +kernel
theorem d_Law_law_313 : decode code 313 = .ok (.iaload, 1) := by decide +kernel
theorem d_Law_law_314 : decode code 314 = .ok (.aload_n 0, 1) := by decide +kernel
theorem d_Law_law_315 : decode code 315 = .ok (.iload 4, 2) := by decide +kernel
theorem d_Law_law_317 : decode code 317 = .ok (.iconst 2, 1) := by decide +kernel
theorem d_Law_law_318 : decode code 318 = .ok (.iadd, 1) := by decide +kernel
theorem d_Law_law_319 : decode code 319 = .ok (.iaload, 1) := by decide +kernel
theorem d_Law_law_320 : decode code 320 = .ok (.invokevirtual 67, 3) := by decide +kernel
theorem d_Law_law_323 : decode code 323 = .ok (.aload_n 2, 1) := by decide +kernel
theorem d_Law_law_324 : decode code 324 = .ok (.invokevirtual 56, 3) := by decide +kernel
theorem d_Law_law_327 : decode code 327 = .ok (.iload 5, 2) := by decide +kernel
theorem d_Law_law_329 : decode code 329 = .ok (.if_icmp .eq 5, 3) := by decide +kernel
theorem d_Law_law_334 : decode code 334 = .ok (.goto 363, 3) := by decide +kernel
theorem d_Law_law_337 : decode code 337 = .ok (.aload_n 1, 1) := by decide +kernel
theorem d_Law_law_338 : decode code 338 = .ok (.aload_n 0, 1) := by decide +kernel
theorem d_Law_law_339 : decode code 339 = .ok (.iload 4, 2) := by decide +kernel
theorem d_Law_law_341 : decode code 341 = .ok (.iconst 1, 1) := by decide +kernel
theorem d_Law_law_342 : decode code 342 = .ok (.iadd, 1) := by decide +kernel
theorem d_Law_law_343 : decode code 343 = .ok (.iaload, 1) := by decide +kernel
theorem d_Law_law_344 : decode code 344 = .ok (.invokevirtual 68, 3) := by decide +kernel
theorem d_Law_law_347 : decode code 347 = .ok (.aload_n 2, 1) := by decide +kernel
theorem d_Law_law_348 : decode code 348 = .ok (.aload_n 0, 1) := by decide +kernel
theorem d_Law_law_349 : decode code 349 = .ok (.iload 4, 2) := by decide +kernel
theorem d_Law_law_351 : decode code 351 = .ok (.iconst 1, 1) := by decide +kernel
theorem d_Law_law_352 : decode code 352 = .ok (.iadd, 1) := by decide +kernel
theorem d_Law_law_353 : decode code 353 = .ok (.iaload, 1) := by decide +kernel
theorem d_Law_law_354 : decode code 354 = .ok (.invokevirtual 71, 3) := by decide +kernel
theorem d_Law_law_357 : decode code 357 = .ok (.if_icmp .eq 340, 3) := by decide +kernel
theorem d_Law_law_362 : decode code 362 = .ok (.aload_n 1, 1) := by decide +kernel
theorem d_Law_law_363 : decode code 363 = .ok (.invokevirtual 72, 3) := by decide +kernel
theorem d_Law_law_366 : decode code 366 = .ok (.aload_n 2, 1) := by decide +kernel
theorem d_Law_law_367 : decode code 367 = .ok (.invokevirtual 76, 3) := by decide +kernel
theorem d_Law_law_370 : decode code 370 = .ok (.if_icmp .eq 327, 3) := by decide +kernel
theorem d_Law_law_375 : decode code 375 = .ok (.aload_n 1, 1) := by decide +kernel
theorem d_Law_law_376 : decode code 376 = .ok (.invokevirtual 77, 3) := by decide +kernel
theorem d_Law_law_379 : decode code 379 = .ok (.aload_n 2, 1) := by decide +kernel
theorem d_Law_law_380 : decode code 380 = .ok (.invokevirtual 80, 3) := by decide +kernel
theorem d_Law_law_383 : decode code 383 = .ok (.if_icmp .eq 314, 3) := by decide +kernel
theorem d_Law_law_388 : decode code 388 = .ok (.aload_n 1, 1) := by decide +kernel
theorem d_Law_law_389 : decode code 389 = .ok (.aload_n 0, 1) := by decide +kernel
theorem d_Law_law_390 : decode code 390 = .ok (.iload 4, 2) := by decide +kernel
theorem d_Law_law_392 : decode code 392 = .ok (.iconst 1, 1) := by decide +kernel
theorem d_Law_law_393 : decode code 393 = .ok (.iadd, 1) := by decide +kernel
theorem d_Law_law_394 : decode code 394 = .ok (.iaload, 1) := by decide +kernel
theorem d_Law_law_395 : decode code 395 = .ok (.aload_n 0, 1) := by decide +kernel
theorem d_Law_law_396 : decode code 396 = .ok (.iload 4, 2) := by decide +kernel
theorem d_Law_law_398 : decode code 398 = .ok (.iconst 2, 1) := by decide +kernel
theorem d_Law_law_399 : decode code 399 = .ok (.iadd, 1) := by decide +kernel
theorem d_Law_law_400 : decode code 400 = .ok (.iaload, 1) := by decide +kernel
theorem d_Law_law_401 : decode code 401 = .ok (.aload_n 3, 1) := by decide +kernel
theorem d_Law_law_402 : decode code 402 = .ok (.invokestatic 81, 3) := by decide +kernel
theorem d_Law_law_405 : decode code 405 = .ok (.istore 5, 2) := by decide +kernel
theorem d_Law_law_407 : decode code 407 = .ok (.aload_n 2, 1) := by decide +kernel
theorem d_Law_law_408 : decode code 408 = .ok (.aload_n 0, 1) := by decide +kernel
theorem d_Law_law_409 : decode code 409 = .ok (.iload 4, 2) := by decide +kernel
theorem d_Law_law_411 : decode code 411 = .ok (.iconst 1, 1) := by decide +kernel
theorem d_Law_law_412 : decode code 412 = .ok (.iadd, 1) := by decide +kernel
theorem d_Law_law_413 : decode code 413 = .ok (.iaload, 1) := by decide +kernel
theorem d_Law_law_414 : decode code 414 = .ok (.aload_n 0, 1) := by decide +kernel
theorem d_Law_law_415 : decode code 415 = .ok (.iload 4, 2) := by decide +kernel
theorem d_Law_law_417 : decode code 417 = .ok (.iconst 2, 1) := by decide +kernel
theorem d_Law_law_418 : decode code 418 = .ok (.iadd, 1) := by decide +kernel
theorem d_Law_law_419 : decode code 419 = .ok (.iaload, 1) := by decide +kernel
theorem d_Law_law_420 : decode code 420 = .ok (.invokevirtual 84, 3) := by decide +kernel
theorem d_Law_law_423 : decode code 423 = .ok (.istore 6, 2) := by decide +kernel
theorem d_Law_law_425 : decode code 425 = .ok (.aload_n 2, 1) := by decide +kernel
theorem d_Law_law_426 : decode code 426 = .ok (.invokevirtual 56, 3) := by decide +kernel
theorem d_Law_law_429 : decode code 429 = .ok (.iload 5, 2) := by decide +kernel
theorem d_Law_law_431 : decode code 431 = .ok (.if_icmp .eq 5, 3) := by decide +kernel
theorem d_Law_law_436 : decode code 436 = .ok (.iload 5, 2) := by decide +kernel
theorem d_Law_law_438 : decode code 438 = .ok (.ifCond .ne 15, 3) := by decide +kernel
theorem d_Law_law_453 : decode code 453 = .ok (.goto 244, 3) := by decide +kernel
theorem d_Law_law_456 : decode code 456 = .ok (.aload_n 1, 1) := by decide +kernel
theorem d_Law_law_457 : decode code 457 = .ok (.aload_n 0, 1) := by decide +kernel
theorem d_Law_law_458 : decode code 458 = .ok (.iload 4, 2) := by decide +kernel
theorem d_Law_law_460 : decode code 460 = .ok (.iconst 1, 1) := by decide +kernel
theorem d_Law_law_461 : decode code 461 = .ok (.iadd, 1) := by decide +kernel
theorem d_Law_law_462 : decode code 462 = .ok (.iaload, 1) := by decide +kernel
theorem d_Law_law_463 : decode code 463 = .ok (.aload_n 3, 1) := by decide +kernel
theorem d_Law_law_464 : decode code 464 = .ok (.invokestatic 85, 3) := by decide +kernel
theorem d_Law_law_467 : decode code 467 = .ok (.istore 5, 2) := by decide +kernel
theorem d_Law_law_469 : decode code 469 = .ok (.aload_n 2, 1) := by decide +kernel
theorem d_Law_law_470 : decode code 470 = .ok (.aload_n 0, 1) := by decide +kernel
theorem d_Law_law_471 : decode code 471 = .ok (.iload 4, 2) := by decide +kernel
theorem d_Law_law_473 : decode code 473 = .ok (.iconst 1, 1) := by decide +kernel
theorem d_Law_law_474 : decode code 474 = .ok (.iadd, 1) := by decide +kernel
theorem d_Law_law_475 : decode code 475 = .ok (.iaload, 1) := by decide +kernel
theorem d_Law_law_476 : decode code 476 = .ok (.invokevirtual 88, 3) := by decide +kernel
theorem d_Law_law_479 : decode code 479 = .ok (.istore 6, 2) := by decide +kernel
theorem d_Law_law_481 : decode code 481 = .ok (.aload_n 2, 1) := by decide +kernel
theorem d_Law_law_482 : decode code 482 = .ok (.invokevirtual 56, 3) := by decide +kernel
theorem d_Law_law_485 : decode code 485 = .ok (.iload 5, 2) := by decide +kernel
theorem d_Law_law_487 : decode code 487 = .ok (.if_icmp .eq 5, 3) := by decide +kernel
theorem d_Law_law_492 : decode code 492 = .ok (.iload 5, 2) := by decide +kernel
theorem d_Law_law_494 : decode code 494 = .ok (.ifCond .ne 15, 3) := by decide +kernel
theorem d_Law_law_497 : decode code 497 = .ok (.aload_n 3, 1) := by decide +kernel
theorem d_Law_law_498 : decode code 498 = .ok (.iconst 0, 1) := by decide +kernel
theorem d_Law_law_499 : decode code 499 = .ok (.laload, 1) := by decide +kernel
theorem d_Law_law_500 : decode code 500 = .ok (.iload 6, 2) := by decide +kernel
theorem d_Law_law_502 : decode code 502 = .ok (.i2l, 1) := by decide +kernel
theorem d_Law_law_503 : decode code 503 = .ok (.lcmp, 1) := by decide +kernel
theorem d_Law_law_504 : decode code 504 = .ok (.ifCond .eq 5, 3) := by decide +kernel
theorem d_Law_law_509 : decode code 509 = .ok (.goto 188, 3) := by decide +kernel
theorem d_Law_law_512 : decode code 512 = .ok (.aload_n 1, 1) := by decide +kernel
theorem d_Law_law_513 : decode code 513 = .ok (.aload_n 0, 1) := by decide +kernel
theorem d_Law_law_514 : decode code 514 = .ok (.iload 4, 2) := by decide +kernel
theorem d_Law_law_516 : decode code 516 = .ok (.iconst 1, 1) := by decide +kernel
theorem d_Law_law_517 : decode code 517 = .ok (.iadd, 1) := by decide +kernel
theorem d_Law_law_518 : decode code 518 = .ok (.iaload, 1) := by decide +kernel
theorem d_Law_law_519 : decode code 519 = .ok (.aload_n 0, 1) := by decide +kernel
theorem d_Law_law_520 : decode code 520 = .ok (.iload 4, 2) := by decide +kernel
theorem d_Law_law_522 : decode code 522 = .ok (.iconst 2, 1) := by decide +kernel
theorem d_Law_law_523 : decode code 523 = .ok (.iadd, 1) := by decide +kernel
theorem d_Law_law_524 : decode code 524 = .ok (.iaload, 1) := by decide +kernel
theorem d_Law_law_525 : decode code 525 = .ok (.aload_n 3, 1) := by decide +kernel
theorem d_Law_law_526 : decode code 526 = .ok (.invokestatic 89, 3) := by decide +kernel
theorem d_Law_law_529 : decode code 529 = .ok (.istore 5, 2) := by decide +kernel
theorem d_Law_law_531 : decode code 531 = .ok (.aload_n 2, 1) := by decide +kernel
theorem d_Law_law_532 : decode code 532 = .ok (.aload_n 0, 1) := by decide +kernel
theorem d_Law_law_533 : decode code 533 = .ok (.iload 4, 2) := by decide +kernel
theorem d_Law_law_535 : decode code 535 = .ok (.iconst 1, 1) := by decide +kernel
theorem d_Law_law_536 : decode code 536 = .ok (.iadd, 1) := by decide +kernel
theorem d_Law_law_537 : decode code 537 = .ok (.iaload, 1) := by decide +kernel
theorem d_Law_law_538 : decode code 538 = .ok (.aload_n 0, 1) := by decide +kernel
theorem d_Law_law_539 : decode code 539 = .ok (.iload 4, 2) := by decide +kernel
theorem d_Law_law_541 : decode code 541 = .ok (.iconst 2, 1) := by decide +kernel
theorem d_Law_law_542 : decode code 542 = .ok (.iadd, 1) := by decide +kernel
theorem d_Law_law_543 : decode code 543 = .ok (.iaload, 1) := by decide +kernel
theorem d_Law_law_544 : decode code 544 = .ok (.invokevirtual 91, 3) := by decide +kernel
theorem d_Law_law_547 : decode code 547 = .ok (.istore 6, 2) := by decide +kernel
theorem d_Law_law_549 : decode code 549 = .ok (.aload_n 2, 1) := by decide +kernel
theorem d_Law_law_550 : decode code 550 = .ok (.invokevirtual 56, 3) := by decide +kernel
theorem d_Law_law_553 : decode code 553 = .ok (.iload 5, 2) := by decide +kernel
theorem d_Law_law_555 : decode code 555 = .ok (.if_icmp .eq 5, 3) := by decide +kernel
theorem d_Law_law_560 : decode code 560 = .ok (.iload 5, 2) := by decide +kernel
theorem d_Law_law_562 : decode code 562 = .ok (.ifCond .ne 15, 3) := by decide +kernel
theorem d_Law_law_577 : decode code 577 = .ok (.goto 120, 3) := by decide +kernel
theorem d_Law_law_580 : decode code 580 = .ok (.aload_n 1, 1) := by decide +kernel
theorem d_Law_law_581 : decode code 581 = .ok (.aload_n 0, 1) := by decide +kernel
theorem d_Law_law_582 : decode code 582 = .ok (.iload 4, 2) := by decide +kernel
theorem d_Law_law_584 : decode code 584 = .ok (.iconst 1, 1) := by decide +kernel
theorem d_Law_law_585 : decode code 585 = .ok (.iadd, 1) := by decide +kernel
theorem d_Law_law_586 : decode code 586 = .ok (.iaload, 1) := by decide +kernel
theorem d_Law_law_587 : decode code 587 = .ok (.aload_n 0, 1) := by decide +kernel
theorem d_Law_law_588 : decode code 588 = .ok (.iload 4, 2) := by decide +kernel
theorem d_Law_law_590 : decode code 590 = .ok (.iconst 2, 1) := by decide +kernel
theorem d_Law_law_591 : decode code 591 = .ok (.iadd, 1) := by decide +kernel
theorem d_Law_law_592 : decode code 592 = .ok (.iaload, 1) := by decide +kernel
theorem d_Law_law_593 : decode code 593 = .ok (.aload_n 0, 1) := by decide +kernel
theorem d_Law_law_594 : decode code 594 = .ok (.iload 4, 2) := by decide +kernel
theorem d_Law_law_596 : decode code 596 = .ok (.iconst 3, 1) := by decide +kernel
theorem d_Law_law_597 : decode code 597 = .ok (.iadd, 1) := by decide +kernel
theorem d_Law_law_598 : decode code 598 = .ok (.iaload, 1) := by decide +kernel
theorem d_Law_law_599 : decode code 599 = .ok (.aload_n 3, 1) := by decide +kernel
theorem d_Law_law_600 : decode code 600 = .ok (.invokestatic 92, 3) := by decide +kernel
theorem d_Law_law_603 : decode code 603 = .ok (.istore 5, 2) := by decide +kernel
theorem d_Law_law_605 : decode code 605 = .ok (.aload_n 2, 1) := by decide +kernel
theorem d_Law_law_606 : decode code 606 = .ok (.aload_n 0, 1) := by decide +kernel
theorem d_Law_law_607 : decode code 607 = .ok (.iload 4, 2) := by decide +kernel
theorem d_Law_law_609 : decode code 609 = .ok (.iconst 1, 1) := by decide +kernel
theorem d_Law_law_610 : decode code 610 = .ok (.iadd, 1) := by decide +kernel
theorem d_Law_law_611 : decode code 611 = .ok (.iaload, 1) := by decide +kernel
theorem d_Law_law_612 : decode code 612 = .ok (.aload_n 0, 1) := by decide +kernel
theorem d_Law_law_613 : decode code 613 = .ok (.iload 4, 2) := by decide +kernel
theorem d_Law_law_615 : decode code 615 = .ok (.iconst 2, 1) := by decide +kernel
theorem d_Law_law_616 : decode code 616 = .ok (.iadd, 1) := by decide +kernel
theorem d_Law_law_617 : decode code 617 = .ok (.iaload, 1) := by decide +kernel
theorem d_Law_law_618 : decode code 618 = .ok (.aload_n 0, 1) := by decide +kernel
theorem d_Law_law_619 : decode code 619 = .ok (.iload 4, 2) := by decide +kernel
theorem d_Law_law_621 : decode code 621 = .ok (.iconst 3, 1) := by decide +kernel
theorem d_Law_law_622 : decode code 622 = .ok (.iadd, 1) := by decide +kernel
theorem d_Law_law_623 : decode code 623 = .ok (.iaload, 1) := by decide +kernel
theorem d_Law_law_624 : decode code 624 = .ok (.invokevirtual 94, 3) := by decide +kernel
theorem d_Law_law_627 : decode code 627 = .ok (.istore 6, 2) := by decide +kernel
theorem d_Law_law_629 : decode code 629 = .ok (.aload_n 2, 1) := by decide +kernel
theorem d_Law_law_630 : decode code 630 = .ok (.invokevirtual 56, 3) := by decide +kernel
theorem d_Law_law_633 : decode code 633 = .ok (.iload 5, 2) := by decide +kernel
theorem d_Law_law_635 : decode code 635 = .ok (.if_icmp .eq 5, 3) := by decide +kernel
theorem d_Law_law_640 : decode code 640 = .ok (.iload 5, 2) := by decide +kernel
theorem d_Law_law_642 : decode code 642 = .ok (.ifCond .ne 15, 3) := by decide +kernel
theorem d_Law_law_657 : decode code 657 = .ok (.goto 40, 3) := by decide +kernel
theorem d_Law_law_660 : decode code 660 = .ok (.aload_n 1, 1) := by decide +kernel
theorem d_Law_law_661 : decode code 661 = .ok (.aload_n 0, 1) := by decide +kernel
theorem d_Law_law_662 : decode code 662 = .ok (.iload 4, 2) := by decide +kernel
theorem d_Law_law_664 : decode code 664 = .ok (.iconst 1, 1) := by decide +kernel
theorem d_Law_law_665 : decode code 665 = .ok (.iadd, 1) := by decide +kernel
theorem d_Law_law_666 : decode code 666 = .ok (.iaload, 1) := by decide +kernel
theorem d_Law_law_667 : decode code 667 = .ok (.aload_n 0, 1) := by decide +kernel
theorem d_Law_law_668 : decode code 668 = .ok (.iload 4, 2) := by decide +kernel
theorem d_Law_law_670 : decode code 670 = .ok (.iconst 2, 1) := by decide +kernel
theorem d_Law_law_671 : decode code 671 = .ok (.iadd, 1) := by decide +kernel
theorem d_Law_law_672 : decode code 672 = .ok (.iaload, 1) := by decide +kernel
theorem d_Law_law_673 : decode code 673 = .ok (.invokevirtual 95, 3) := by decide +kernel
theorem d_Law_law_676 : decode code 676 = .ok (.aload_n 2, 1) := by decide +kernel
theorem d_Law_law_677 : decode code 677 = .ok (.aload_n 0, 1) := by decide +kernel
theorem d_Law_law_678 : decode code 678 = .ok (.iload 4, 2) := by decide +kernel
theorem d_Law_law_680 : decode code 680 = .ok (.iconst 1, 1) := by decide +kernel
theorem d_Law_law_681 : decode code 681 = .ok (.iadd, 1) := by decide +kernel
theorem d_Law_law_682 : decode code 682 = .ok (.iaload, 1) := by decide +kernel
theorem d_Law_law_683 : decode code 683 = .ok (.aload_n 0, 1) := by decide +kernel
theorem d_Law_law_684 : decode code 684 = .ok (.iload 4, 2) := by decide +kernel
theorem d_Law_law_686 : decode code 686 = .ok (.iconst 2, 1) := by decide +kernel
theorem d_Law_law_687 : decode code 687 = .ok (.iadd, 1) := by decide +kernel
theorem d_Law_law_688 : decode code 688 = .ok (.iaload, 1) := by decide +kernel
theorem d_Law_law_689 : decode code 689 = .ok (.invokevirtual 98, 3) := by decide +kernel
theorem d_Law_law_692 : decode code 692 = .ok (.if_icmp .eq 5, 3) := by decide +kernel
theorem d_Law_law_0 : decode code 0 = .ok (.new 8, 3) := by decide +kernel
theorem d_Law_law_3 : decode code 3 = .ok (.dup, 1) := by decide +kernel
theorem d_Law_law_4 : decode code 4 = .ok (.invokespecial 41, 3) := by decide +kernel
theorem d_Law_law_7 : decode code 7 = .ok (.astore_n 1, 1) := by decide +kernel
theorem d_Law_law_8 : decode code 8 = .ok (.new 42, 3) := by decide +kernel
theorem d_Law_law_11 : decode code 11 = .ok (.dup, 1) := by decide +kernel
theorem d_Law_law_12 : decode code 12 = .ok (.invokespecial 44, 3) := by decide +kernel
theorem d_Law_law_15 : decode code 15 = .ok (.astore_n 2, 1) := by decide +kernel
theorem d_Law_law_16 : decode code 16 = .ok (.iconst 1, 1) := by decide +kernel
theorem d_Law_law_17 : decode code 17 = .ok (.newarray .long, 2) := by decide +kernel
theorem d_Law_law_19 : decode code 19 = .ok (.astore_n 3, 1) := by decide +kernel
theorem d_Law_law_20 : decode code 20 = .ok (.iconst 0, 1) := by decide +kernel
theorem d_Law_law_21 : decode code 21 = .ok (.istore 4, 2) := by decide +kernel
theorem d_Law_law_32 : decode code 32 = .ok (.aload_n 0, 1) := by decide +kernel
theorem d_Law_law_33 : decode code 33 = .ok (.iload 4, 2) := by decide +kernel
theorem d_Law_law_35 : decode code 35 = .ok (.iaload, 1) := by decide +kernel
theorem d_Law_law_36 : decode code 36 = .ok (.bipush 15, 2) := by decide +kernel
theorem d_Law_law_38 : decode code 38 = .ok (.iand, 1) := by decide +kernel
theorem d_Law_law_39 : decode code 39 = .ok (.tableswitch 658 0 11 #[61, 98, 178, 250, 298, 323, 336, 349, 417, 473, 541, 621], 61) := by decide +kernel
end
section
/-! THE CLAIM OUT OF ONE WALK OF THE LAW'S BODY. Your part is whole_start (and what it stands on); all else here is the same for every law, but numbers. -/
def R_law : String := "TaleMachineLaw"
def lw_P (b : Addr) (xs : List Int32) (args : Array Value) (s : State) : Prop := args = #[.ref b] ∧ s.IntsAt b xs ∧ xs.length ≤ 5 ∧ (Jvm.Cond.and given_1 narrow_1).before args s = true
def lw_Q (_ : Array Value) (s : State) (o : Outcome) (t : State) : Prop := o = .returned (some (.int 1)) ∧ Framed s o t [] 600002 7302232
def lw_Z (below : List Frame) (a : Array Value) (s : State) : State → Prop := fun t => ∃ o, t.status = .running ∧ Ended t below o ∧ lw_Q a s o t
/-- the law's own end, with 1 on the stack, nothing written that was there before, its room as the claim has it -/
theorem lw_ret {p : Program} {l : Launch} {e : Env} {s : State} {m : MethodId} {below : List Frame} {meth : Method} {c : Code} {b : Nat} (hx : p.tables.exec = Jvm.exec) (hb : c.code = code) (hr : meth.sig.returnType = ret) (hlocks : meth.locks = false) {pc : Nat} {H : Heap} {ls : Array Slot} (hdg : decode code pc = .ok (.ireturn, 1)) : W p l e room_1 s m #[Value.ref b] below meth c H [] 600002 7302232 (lw_Z below #[Value.ref b] s) (F0 m pc ls [.int 1]) := by
  intro T hT X
  obtain ⟨fs, hret, hrun, hended, hW, hframe⟩ := X.leave (v := some (.int 1)) (hlocks := hlocks) (fun h => by rw [hr] at h; cases h)
  have hmeth' : T.vm.method? m = some meth := X.method'
  refine ⟨T.setFrames fs, ?_, .returned (some (.int 1)), hrun, hended, rfl, ⟨_, rfl⟩, hW, hframe⟩
  jvm_step X.here [X.here.top, hx, hb, hdg, hmeth', hr, ret, narrow_b1]
  (try refine ⟨rfl, ?_⟩); (try refine ⟨rfl, ?_⟩)
  first | (intro acts; rw [hret _ acts rfl rfl rfl]) | rw [hret _ _ rfl rfl rfl]
  exact Steps.refl _
/-- what holds at the law's entry: the machine, the code, the tables' words (any of lw_tbl by 'hts w (by decide +kernel)'), the script of L ints xs at the cell b, what the Statement gives of the start (any of its parts by flat_of_before) -/
def lw_At (p : Program) (s : State) (m : MethodId) (meth : Method) (c : Code) (b L : Nat) (xs : Nat → Int32) : Prop :=
  p.tables.exec = Jvm.exec ∧ c.code = code ∧ meth.sig.returnType = ret ∧ c.maxLocals = 7 ∧ s.vm.findClass R_law = some m.cls ∧ (∀ w ∈ lw_tbl, w.before #[Value.ref b] s = true) ∧ va_X b L xs s s.heap ∧ b < s.heap.size ∧ meth.locks = false ∧ (Jvm.Cond.and given_1 narrow_1).before #[Value.ref b] s = true
/-! what holds at the law's entry -/
theorem st_arr {ty : FieldType} {args : Array Value} {s : State} (h : (Cond.arrayClass ty).before args s = true) (hty : ∀ C, ty ≠ .object C) : ∃ cA : ClassId, ArrOfT s cA ty ∧ va_RA s cA ty := by
  obtain ⟨cA, kA, comp, h1, h2, h3⟩ := Cond.arrayClass_spec h
  refine ⟨cA, fun n z => ⟨fun k h => (by cases h), kA, h2, comp, h3⟩, ?_⟩
  cases ty <;> first | exact h1 | exact absurd rfl (hty _)
theorem sp_code (k : Int32) : k < 1 ∨ 4 < k ∨ k = 1 ∨ k = 2 ∨ k = 3 ∨ k = 4 := by
  have e1 : (1 : Int32).toInt = 1 := by decide
  have e2 : (2 : Int32).toInt = 2 := by decide
  have e3 : (3 : Int32).toInt = 3 := by decide
  have e4 : (4 : Int32).toInt = 4 := by decide
  have h : k.toInt < 1 ∨ 4 < k.toInt ∨ k.toInt = 1 ∨ k.toInt = 2 ∨ k.toInt = 3 ∨ k.toInt = 4 := by omega
  rcases h with h | h | h | h | h | h
  · exact Or.inl (Int32.lt_iff_toInt_lt.mpr (by omega))
  · exact Or.inr (Or.inl (Int32.lt_iff_toInt_lt.mpr (by omega)))
  · exact Or.inr (Or.inr (Or.inl (Int32.toInt_inj.mp (by omega))))
  · exact Or.inr (Or.inr (Or.inr (Or.inl (Int32.toInt_inj.mp (by omega)))))
  · exact Or.inr (Or.inr (Or.inr (Or.inr (Or.inl (Int32.toInt_inj.mp (by omega))))))
  · exact Or.inr (Or.inr (Or.inr (Or.inr (Or.inr (Int32.toInt_inj.mp (by omega))))))
theorem sp_show (k : Int32) : k = 0 ∨ k = 3 ∨ k = 4 ∨ k = 5 ∨ ((k < 0 ∨ 5 < k) ∨ k = 1 ∨ k = 2) := by
  have e0 : (0 : Int32).toInt = 0 := by decide
  have e1 : (1 : Int32).toInt = 1 := by decide
  have e2 : (2 : Int32).toInt = 2 := by decide
  have e3 : (3 : Int32).toInt = 3 := by decide
  have e4 : (4 : Int32).toInt = 4 := by decide
  have e5 : (5 : Int32).toInt = 5 := by decide
  have h : k.toInt = 0 ∨ k.toInt = 3 ∨ k.toInt = 4 ∨ k.toInt = 5 ∨ ((k.toInt < 0 ∨ 5 < k.toInt) ∨ k.toInt = 1 ∨ k.toInt = 2) := by omega
  rcases h with h | h | h | h | (h | h) | h | h
  · exact Or.inl (Int32.toInt_inj.mp (by omega))
  · exact Or.inr (Or.inl (Int32.toInt_inj.mp (by omega)))
  · exact Or.inr (Or.inr (Or.inl (Int32.toInt_inj.mp (by omega))))
  · exact Or.inr (Or.inr (Or.inr (Or.inl (Int32.toInt_inj.mp (by omega)))))
  · exact Or.inr (Or.inr (Or.inr (Or.inr (Or.inl (Or.inl (Int32.lt_iff_toInt_lt.mpr (by omega)))))))
  · exact Or.inr (Or.inr (Or.inr (Or.inr (Or.inl (Or.inr (Int32.lt_iff_toInt_lt.mpr (by omega)))))))
  · exact Or.inr (Or.inr (Or.inr (Or.inr (Or.inr (Or.inl (Int32.toInt_inj.mp (by omega)))))))
  · exact Or.inr (Or.inr (Or.inr (Or.inr (Or.inr (Or.inr (Int32.toInt_inj.mp (by omega)))))))
set_option maxHeartbeats 4000000 in
theorem st_K {args : Array Value} {s : State} (hts : ∀ w ∈ AW, w.before args s = true) : ∃ (D : va_G) (cI cZ cJ : ClassId), va_K D cL [(cI, .int), (cZ, .boolean), (cJ, .long)] s := by
  obtain ⟨c0, i0, h0⟩ := u_known (C := "TaleMachine$Frame") (T := F_Frame) (N := 8) hts in_Frame (hts (.instantiable "TaleMachine$Frame" 8) k_93)
  obtain ⟨c1, i1, h1⟩ := u_known (C := "TaleMachine$History") (T := F_History) (N := 4) hts in_History (hts (.instantiable "TaleMachine$History" 4) k_111)
  obtain ⟨c2, i2, h2⟩ := u_known (C := "TaleMachine$Script") (T := F_Script) (N := 2) hts in_Script (hts (.instantiable "TaleMachine$Script" 2) k_99)
  obtain ⟨c3, i3, h3⟩ := u_known (C := "TaleMachine$State") (T := F_State) (N := 3) hts in_State (hts (.instantiable "TaleMachine$State" 3) k_60)
  obtain ⟨c4, i4, h4⟩ := u_known (C := "TaleMachine$Teller") (T := F_Teller) (N := 9) hts in_Teller (hts (.instantiable "TaleMachine$Teller" 9) k_118)
  obtain ⟨c5, i5, h5⟩ := u_known (C := "TaleMachine$Values") (T := F_Values) (N := 3) hts in_Values (hts (.instantiable "TaleMachine$Values" 3) k_81)
  obtain ⟨c6, i6, h6⟩ := u_known (C := "TaleMachine$World") (T := F_World) (N := 9) hts in_World (hts (.instantiable "TaleMachine$World" 9) k_105)
  obtain ⟨c7, i7, h7⟩ := u_known (C := "TaleMachine") (T := F_TM) (N := 4) hts in_TM (hts (.instantiable "TaleMachine" 4) k_410)
  obtain ⟨c8, i8, h8⟩ := u_known (C := "TaleMachineModel") (T := F_Model) (N := 31) hts in_Model (hts (.instantiable "TaleMachineModel" 31) k_415)
  obtain ⟨cI, hI1, hI2⟩ := st_arr (hts (.arrayClass .int) k_44) (fun C h => by cases h)
  obtain ⟨cZ, hZ1, hZ2⟩ := st_arr (hts (.arrayClass .boolean) k_74) (fun C h => by cases h)
  obtain ⟨cJ, hJ1, hJ2⟩ := st_arr (hts (.arrayClass .long) k_419) (fun C h => by cases h)
  refine ⟨(fun k => match k with | 0 => c0 | 1 => c1 | 2 => c2 | 3 => c3 | 4 => c4 | 5 => c5 | 6 => c6 | 7 => c7 | _ => c8, fun k => match k with | 0 => i0 | 1 => i1 | 2 => i2 | 3 => i3 | 4 => i4 | 5 => i5 | 6 => i6 | 7 => i7 | _ => i8), cI, cZ, cJ, ?_, ?_⟩
  · intro k q hk
    match k, hk with
    | 0, hk => cases hk; exact h0
    | 1, hk => cases hk; exact h1
    | 2, hk => cases hk; exact h2
    | 3, hk => cases hk; exact h3
    | 4, hk => cases hk; exact h4
    | 5, hk => cases hk; exact h5
    | 6, hk => cases hk; exact h6
    | 7, hk => cases hk; exact h7
    | 8, hk => cases hk; exact h8
    | k + 9, hk => simp at hk
  · intro k q hk
    match k, hk with
    | 0, hk => cases hk; exact ⟨hI1, hI2⟩
    | 1, hk => cases hk; exact ⟨hZ1, hZ2⟩
    | 2, hk => cases hk; exact ⟨hJ1, hJ2⟩
    | k + 3, hk => simp at hk
theorem NJ_in : ∀ w ∈ NJ, w ∈ tables_1 := by
  have h : NJ.all (fun w => decide (w ∈ tables_1)) = true := by decide +kernel
  intro w hw
  exact of_decide_eq_true (List.all_eq_true.mp h w hw)
theorem st_str {b : Nat} {s : State} {k : Nat} {tx : String} (h1 : (Cond.stringRef "TaleMachine" k tx).before #[Value.ref b] s = true) (h2 : (Cond.exactly (.string "TaleMachine" k) "java/lang/String").before #[Value.ref b] s = true) : ∃ a : Nat, vk_R "TaleMachine" k tx a s := by
  obtain ⟨a, c, cA, kA, q1, -⟩ := Cond.exactly_spec h2
  refine ⟨a, h1, ?_⟩
  rw [Term.string_eval_of_vm (args := #[Value.ref b]) (U := s) rfl]
  exact q1
theorem st_T {b : Nat} {s : State} (htbl : ∀ w ∈ lw_tbl, w.before #[Value.ref b] s = true) (hgv : (Jvm.Cond.and given_1 narrow_1).before #[Value.ref b] s = true) : Tb s := by
  have ht : ∀ w ∈ tables_1, w.before #[Value.ref b] s = true := fun w hw => htbl w (List.mem_append_right _ hw)
  have hf := flat_of_before _ hgv
  refine ⟨fun w hw => va_Nw.of (List.all_eq_true.mp NJ_ok w hw |> fun h => (Bool.and_eq_true _ _ ▸ h).1) (ht w (NJ_in w hw)), ⟨va_Nw.of rfl (ht _ (by decide +kernel)), va_Nw.of rfl (ht _ (by decide +kernel)), va_Nw.of rfl (ht _ (by decide +kernel))⟩, ⟨va_AO.of (ht _ (by decide +kernel)), va_AO.of (ht _ (by decide +kernel))⟩, ?_⟩
  unfold vs_str vs_texts
  refine List.forall_mem_cons.mpr ⟨st_str (ht _ (by decide +kernel)) (hf _ (by decide +kernel)), List.forall_mem_cons.mpr ⟨st_str (ht _ (by decide +kernel)) (hf _ (by decide +kernel)), List.forall_mem_cons.mpr ⟨st_str (ht _ (by decide +kernel)) (hf _ (by decide +kernel)), List.forall_mem_cons.mpr ⟨st_str (ht _ (by decide +kernel)) (hf _ (by decide +kernel)), List.forall_mem_cons.mpr ⟨st_str (ht _ (by decide +kernel)) (hf _ (by decide +kernel)), List.forall_mem_cons.mpr ⟨st_str (ht _ (by decide +kernel)) (hf _ (by decide +kernel)), fun _ h => absurd h List.not_mem_nil⟩⟩⟩⟩⟩⟩
theorem st_Z {b : Nat} {s : State} (htbl : ∀ w ∈ lw_tbl, w.before #[Value.ref b] s = true) (hgv : (Jvm.Cond.and given_1 narrow_1).before #[Value.ref b] s = true) : vt_ZZ (fun q => s.heap.size ≤ q) s s.heap := by
  have ht : ∀ w ∈ tables_1, w.before #[Value.ref b] s = true := fun w hw => htbl w (List.mem_append_right _ hw)
  have hf := flat_of_before _ hgv
  exact ⟨vt_Z1.of (ht _ (by decide +kernel)) (hf _ (by decide +kernel)) (fun a h => Nat.not_le.mpr h), vt_Z1.of (ht _ (by decide +kernel)) (hf _ (by decide +kernel)) (fun a h => Nat.not_le.mpr h)⟩
end
section
theorem i_vc : Claimed_1_1 ∧ Claimed_1_2 := sorry
end
