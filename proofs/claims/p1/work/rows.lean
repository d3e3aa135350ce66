section
-- ===== PART A: goes FIRST, ahead of the names: the tables' words, and 'selects' of the private methods out of them =====
/-- a private method of a class that the tables say can be made, by its rows of tables_1 -/
def lw_okq (q : MethodName × Nat) : Prop := (q.1.cls ≠ "java/lang/invoke/MethodHandle" ∧ q.1.cls ≠ "java/lang/invoke/VarHandle") ∧ Cond.instantiable q.1.cls q.2 ∈ tables_1 ∧ Cond.privateMethod q.1 ∈ tables_1 ∧ Cond.instanceMethod q.1 ∈ tables_1
theorem lw_p0 : lw_okq (⟨"TaleMachine$Teller", "goOn", "(LTaleMachine$Frame;)Z"⟩, 9) := ⟨⟨by decide +kernel, by decide +kernel⟩, List.mem_of_getElem? (i := 124) (by decide +kernel), List.mem_of_getElem? (i := 270) (by decide +kernel), List.mem_of_getElem? (i := 271) (by decide +kernel)⟩
theorem lw_p1 : lw_okq (⟨"TaleMachine$Teller", "put", "(LTaleMachine$Frame;II)Z"⟩, 9) := ⟨⟨by decide +kernel, by decide +kernel⟩, List.mem_of_getElem? (i := 124) (by decide +kernel), List.mem_of_getElem? (i := 274) (by decide +kernel), List.mem_of_getElem? (i := 275) (by decide +kernel)⟩
theorem lw_p2 : lw_okq (⟨"TaleMachine$Teller", "isLocal", "(LTaleMachine$Frame;I)Z"⟩, 9) := ⟨⟨by decide +kernel, by decide +kernel⟩, List.mem_of_getElem? (i := 124) (by decide +kernel), List.mem_of_getElem? (i := 299) (by decide +kernel), List.mem_of_getElem? (i := 300) (by decide +kernel)⟩
theorem lw_p3 : lw_okq (⟨"TaleMachine$Teller", "putCopy", "(LTaleMachine$Frame;I)Z"⟩, 9) := ⟨⟨by decide +kernel, by decide +kernel⟩, List.mem_of_getElem? (i := 124) (by decide +kernel), List.mem_of_getElem? (i := 303) (by decide +kernel), List.mem_of_getElem? (i := 304) (by decide +kernel)⟩
theorem lw_p4 : lw_okq (⟨"TaleMachine$Teller", "takeIntoLocal", "(LTaleMachine$Frame;I)Z"⟩, 9) := ⟨⟨by decide +kernel, by decide +kernel⟩, List.mem_of_getElem? (i := 124) (by decide +kernel), List.mem_of_getElem? (i := 307) (by decide +kernel), List.mem_of_getElem? (i := 308) (by decide +kernel)⟩
theorem lw_p5 : lw_okq (⟨"TaleMachine$Teller", "canTake", "(LTaleMachine$Frame;I)Z"⟩, 9) := ⟨⟨by decide +kernel, by decide +kernel⟩, List.mem_of_getElem? (i := 124) (by decide +kernel), List.mem_of_getElem? (i := 311) (by decide +kernel), List.mem_of_getElem? (i := 312) (by decide +kernel)⟩
theorem lw_p6 : lw_okq (⟨"TaleMachine$Teller", "topKind", "()I"⟩, 9) := ⟨⟨by decide +kernel, by decide +kernel⟩, List.mem_of_getElem? (i := 124) (by decide +kernel), List.mem_of_getElem? (i := 315) (by decide +kernel), List.mem_of_getElem? (i := 316) (by decide +kernel)⟩
theorem lw_p7 : lw_okq (⟨"TaleMachine$Teller", "topInt", "()I"⟩, 9) := ⟨⟨by decide +kernel, by decide +kernel⟩, List.mem_of_getElem? (i := 124) (by decide +kernel), List.mem_of_getElem? (i := 319) (by decide +kernel), List.mem_of_getElem? (i := 320) (by decide +kernel)⟩
theorem lw_p8 : lw_okq (⟨"TaleMachine$Teller", "take", "(LTaleMachine$Frame;I)Z"⟩, 9) := ⟨⟨by decide +kernel, by decide +kernel⟩, List.mem_of_getElem? (i := 124) (by decide +kernel), List.mem_of_getElem? (i := 323) (by decide +kernel), List.mem_of_getElem? (i := 324) (by decide +kernel)⟩
theorem lw_p9 : lw_okq (⟨"TaleMachine$Teller", "calculate", "(LTaleMachine$Frame;I)Z"⟩, 9) := ⟨⟨by decide +kernel, by decide +kernel⟩, List.mem_of_getElem? (i := 124) (by decide +kernel), List.mem_of_getElem? (i := 327) (by decide +kernel), List.mem_of_getElem? (i := 328) (by decide +kernel)⟩
theorem lw_p10 : lw_okq (⟨"TaleMachine$Teller", "raise", "(I)Z"⟩, 9) := ⟨⟨by decide +kernel, by decide +kernel⟩, List.mem_of_getElem? (i := 124) (by decide +kernel), List.mem_of_getElem? (i := 331) (by decide +kernel), List.mem_of_getElem? (i := 332) (by decide +kernel)⟩
theorem lw_p11 : lw_okq (⟨"TaleMachine$Teller", "goal", "(LTaleMachine$Frame;)I"⟩, 9) := ⟨⟨by decide +kernel, by decide +kernel⟩, List.mem_of_getElem? (i := 124) (by decide +kernel), List.mem_of_getElem? (i := 342) (by decide +kernel), List.mem_of_getElem? (i := 343) (by decide +kernel)⟩
theorem lw_p12 : lw_okq (⟨"TaleMachine$Teller", "finish", "(III)Z"⟩, 9) := ⟨⟨by decide +kernel, by decide +kernel⟩, List.mem_of_getElem? (i := 124) (by decide +kernel), List.mem_of_getElem? (i := 350) (by decide +kernel), List.mem_of_getElem? (i := 351) (by decide +kernel)⟩
theorem lw_p13 : lw_okq (⟨"TaleMachine$Teller", "putTruthFor", "(LTaleMachine$Frame;IZ)Z"⟩, 9) := ⟨⟨by decide +kernel, by decide +kernel⟩, List.mem_of_getElem? (i := 124) (by decide +kernel), List.mem_of_getElem? (i := 362) (by decide +kernel), List.mem_of_getElem? (i := 363) (by decide +kernel)⟩
theorem lw_p14 : lw_okq (⟨"TaleMachine$Teller", "like", "(LTaleMachine$Frame;)Z"⟩, 9) := ⟨⟨by decide +kernel, by decide +kernel⟩, List.mem_of_getElem? (i := 124) (by decide +kernel), List.mem_of_getElem? (i := 369) (by decide +kernel), List.mem_of_getElem? (i := 370) (by decide +kernel)⟩
theorem lw_p15 : lw_okq (⟨"TaleMachine$Teller", "isFalse", "(I)Z"⟩, 9) := ⟨⟨by decide +kernel, by decide +kernel⟩, List.mem_of_getElem? (i := 124) (by decide +kernel), List.mem_of_getElem? (i := 373) (by decide +kernel), List.mem_of_getElem? (i := 374) (by decide +kernel)⟩
def lw_privs_1 : List (MethodName × Nat) := [(⟨"TaleMachine$Teller", "goOn", "(LTaleMachine$Frame;)Z"⟩, 9), (⟨"TaleMachine$Teller", "put", "(LTaleMachine$Frame;II)Z"⟩, 9), (⟨"TaleMachine$Teller", "isLocal", "(LTaleMachine$Frame;I)Z"⟩, 9), (⟨"TaleMachine$Teller", "putCopy", "(LTaleMachine$Frame;I)Z"⟩, 9), (⟨"TaleMachine$Teller", "takeIntoLocal", "(LTaleMachine$Frame;I)Z"⟩, 9), (⟨"TaleMachine$Teller", "canTake", "(LTaleMachine$Frame;I)Z"⟩, 9), (⟨"TaleMachine$Teller", "topKind", "()I"⟩, 9), (⟨"TaleMachine$Teller", "topInt", "()I"⟩, 9), (⟨"TaleMachine$Teller", "take", "(LTaleMachine$Frame;I)Z"⟩, 9), (⟨"TaleMachine$Teller", "calculate", "(LTaleMachine$Frame;I)Z"⟩, 9), (⟨"TaleMachine$Teller", "raise", "(I)Z"⟩, 9), (⟨"TaleMachine$Teller", "goal", "(LTaleMachine$Frame;)I"⟩, 9), (⟨"TaleMachine$Teller", "finish", "(III)Z"⟩, 9), (⟨"TaleMachine$Teller", "putTruthFor", "(LTaleMachine$Frame;IZ)Z"⟩, 9), (⟨"TaleMachine$Teller", "like", "(LTaleMachine$Frame;)Z"⟩, 9), (⟨"TaleMachine$Teller", "isFalse", "(I)Z"⟩, 9)]
theorem lw_r1 : ∀ q ∈ lw_privs_1, lw_okq q := List.forall_mem_cons.mpr ⟨lw_p0, List.forall_mem_cons.mpr ⟨lw_p1, List.forall_mem_cons.mpr ⟨lw_p2, List.forall_mem_cons.mpr ⟨lw_p3, List.forall_mem_cons.mpr ⟨lw_p4, List.forall_mem_cons.mpr ⟨lw_p5, List.forall_mem_cons.mpr ⟨lw_p6, List.forall_mem_cons.mpr ⟨lw_p7, List.forall_mem_cons.mpr ⟨lw_p8, List.forall_mem_cons.mpr ⟨lw_p9, List.forall_mem_cons.mpr ⟨lw_p10, List.forall_mem_cons.mpr ⟨lw_p11, List.forall_mem_cons.mpr ⟨lw_p12, List.forall_mem_cons.mpr ⟨lw_p13, List.forall_mem_cons.mpr ⟨lw_p14, List.forall_mem_cons.mpr ⟨lw_p15, fun _ h => absurd h List.not_mem_nil⟩⟩⟩⟩⟩⟩⟩⟩⟩⟩⟩⟩⟩⟩⟩⟩
theorem lw_p16 : lw_okq (⟨"TaleMachine$Teller", "jump", "(LTaleMachine$Frame;I)Z"⟩, 9) := ⟨⟨by decide +kernel, by decide +kernel⟩, List.mem_of_getElem? (i := 124) (by decide +kernel), List.mem_of_getElem? (i := 377) (by decide +kernel), List.mem_of_getElem? (i := 378) (by decide +kernel)⟩
theorem lw_p17 : lw_okq (⟨"TaleMachine$Teller", "jumpIfFalse", "(LTaleMachine$Frame;I)Z"⟩, 9) := ⟨⟨by decide +kernel, by decide +kernel⟩, List.mem_of_getElem? (i := 124) (by decide +kernel), List.mem_of_getElem? (i := 381) (by decide +kernel), List.mem_of_getElem? (i := 382) (by decide +kernel)⟩
theorem lw_p18 : lw_okq (⟨"TaleMachine$Teller", "ask", "(LTaleMachine$Frame;II)Z"⟩, 9) := ⟨⟨by decide +kernel, by decide +kernel⟩, List.mem_of_getElem? (i := 124) (by decide +kernel), List.mem_of_getElem? (i := 385) (by decide +kernel), List.mem_of_getElem? (i := 386) (by decide +kernel)⟩
theorem lw_p19 : lw_okq (⟨"TaleMachine$Teller", "isObjectOnTop", "(LTaleMachine$Frame;)Z"⟩, 9) := ⟨⟨by decide +kernel, by decide +kernel⟩, List.mem_of_getElem? (i := 124) (by decide +kernel), List.mem_of_getElem? (i := 392) (by decide +kernel), List.mem_of_getElem? (i := 393) (by decide +kernel)⟩
theorem lw_p20 : lw_okq (⟨"TaleMachine$World", "holderFrom", "(II)I"⟩, 9) := ⟨⟨by decide +kernel, by decide +kernel⟩, List.mem_of_getElem? (i := 42) (by decide +kernel), List.mem_of_getElem? (i := 401) (by decide +kernel), List.mem_of_getElem? (i := 402) (by decide +kernel)⟩
theorem lw_p21 : lw_okq (⟨"TaleMachine$Teller", "answer", "(LTaleMachine$Frame;IIIII)Z"⟩, 9) := ⟨⟨by decide +kernel, by decide +kernel⟩, List.mem_of_getElem? (i := 124) (by decide +kernel), List.mem_of_getElem? (i := 409) (by decide +kernel), List.mem_of_getElem? (i := 410) (by decide +kernel)⟩
theorem lw_p22 : lw_okq (⟨"TaleMachine$Teller", "enter", "(IIIII)Z"⟩, 9) := ⟨⟨by decide +kernel, by decide +kernel⟩, List.mem_of_getElem? (i := 124) (by decide +kernel), List.mem_of_getElem? (i := 418) (by decide +kernel), List.mem_of_getElem? (i := 419) (by decide +kernel)⟩
theorem lw_p23 : lw_okq (⟨"TaleMachine$Teller", "setOwn", "(LTaleMachine$Frame;I)Z"⟩, 9) := ⟨⟨by decide +kernel, by decide +kernel⟩, List.mem_of_getElem? (i := 124) (by decide +kernel), List.mem_of_getElem? (i := 434) (by decide +kernel), List.mem_of_getElem? (i := 435) (by decide +kernel)⟩
theorem lw_p24 : lw_okq (⟨"TaleMachine$Teller", "inherited", "(LTaleMachine$Frame;II)Z"⟩, 9) := ⟨⟨by decide +kernel, by decide +kernel⟩, List.mem_of_getElem? (i := 124) (by decide +kernel), List.mem_of_getElem? (i := 442) (by decide +kernel), List.mem_of_getElem? (i := 443) (by decide +kernel)⟩
theorem lw_p25 : lw_okq (⟨"TaleMachine$Teller", "end", "(LTaleMachine$Frame;II)Z"⟩, 9) := ⟨⟨by decide +kernel, by decide +kernel⟩, List.mem_of_getElem? (i := 124) (by decide +kernel), List.mem_of_getElem? (i := 451) (by decide +kernel), List.mem_of_getElem? (i := 452) (by decide +kernel)⟩
theorem lw_p26 : lw_okq (⟨"TaleMachine$Teller", "make", "(LTaleMachine$Frame;I)Z"⟩, 9) := ⟨⟨by decide +kernel, by decide +kernel⟩, List.mem_of_getElem? (i := 124) (by decide +kernel), List.mem_of_getElem? (i := 455) (by decide +kernel), List.mem_of_getElem? (i := 456) (by decide +kernel)⟩
theorem lw_p27 : lw_okq (⟨"TaleMachine$World", "clearOwn", "(I)V"⟩, 9) := ⟨⟨by decide +kernel, by decide +kernel⟩, List.mem_of_getElem? (i := 42) (by decide +kernel), List.mem_of_getElem? (i := 467) (by decide +kernel), List.mem_of_getElem? (i := 468) (by decide +kernel)⟩
theorem lw_p28 : lw_okq (⟨"TaleMachine$Teller", "testOf", "(LTaleMachine$Frame;I)Z"⟩, 9) := ⟨⟨by decide +kernel, by decide +kernel⟩, List.mem_of_getElem? (i := 124) (by decide +kernel), List.mem_of_getElem? (i := 472) (by decide +kernel), List.mem_of_getElem? (i := 473) (by decide +kernel)⟩
theorem lw_p29 : lw_okq (⟨"TaleMachine$Teller", "setPoint", "(LTaleMachine$Frame;)Z"⟩, 9) := ⟨⟨by decide +kernel, by decide +kernel⟩, List.mem_of_getElem? (i := 124) (by decide +kernel), List.mem_of_getElem? (i := 481) (by decide +kernel), List.mem_of_getElem? (i := 482) (by decide +kernel)⟩
theorem lw_p30 : lw_okq (⟨"TaleMachine$History", "dropOldest", "()V"⟩, 4) := ⟨⟨by decide +kernel, by decide +kernel⟩, List.mem_of_getElem? (i := 100) (by decide +kernel), List.mem_of_getElem? (i := 489) (by decide +kernel), List.mem_of_getElem? (i := 490) (by decide +kernel)⟩
theorem lw_p31 : lw_okq (⟨"TaleMachine$Teller", "save", "(LTaleMachine$Frame;I)Z"⟩, 9) := ⟨⟨by decide +kernel, by decide +kernel⟩, List.mem_of_getElem? (i := 124) (by decide +kernel), List.mem_of_getElem? (i := 502) (by decide +kernel), List.mem_of_getElem? (i := 503) (by decide +kernel)⟩
def lw_privs_2 : List (MethodName × Nat) := [(⟨"TaleMachine$Teller", "jump", "(LTaleMachine$Frame;I)Z"⟩, 9), (⟨"TaleMachine$Teller", "jumpIfFalse", "(LTaleMachine$Frame;I)Z"⟩, 9), (⟨"TaleMachine$Teller", "ask", "(LTaleMachine$Frame;II)Z"⟩, 9), (⟨"TaleMachine$Teller", "isObjectOnTop", "(LTaleMachine$Frame;)Z"⟩, 9), (⟨"TaleMachine$World", "holderFrom", "(II)I"⟩, 9), (⟨"TaleMachine$Teller", "answer", "(LTaleMachine$Frame;IIIII)Z"⟩, 9), (⟨"TaleMachine$Teller", "enter", "(IIIII)Z"⟩, 9), (⟨"TaleMachine$Teller", "setOwn", "(LTaleMachine$Frame;I)Z"⟩, 9), (⟨"TaleMachine$Teller", "inherited", "(LTaleMachine$Frame;II)Z"⟩, 9), (⟨"TaleMachine$Teller", "end", "(LTaleMachine$Frame;II)Z"⟩, 9), (⟨"TaleMachine$Teller", "make", "(LTaleMachine$Frame;I)Z"⟩, 9), (⟨"TaleMachine$World", "clearOwn", "(I)V"⟩, 9), (⟨"TaleMachine$Teller", "testOf", "(LTaleMachine$Frame;I)Z"⟩, 9), (⟨"TaleMachine$Teller", "setPoint", "(LTaleMachine$Frame;)Z"⟩, 9), (⟨"TaleMachine$History", "dropOldest", "()V"⟩, 4), (⟨"TaleMachine$Teller", "save", "(LTaleMachine$Frame;I)Z"⟩, 9)]
theorem lw_r2 : ∀ q ∈ lw_privs_2, lw_okq q := List.forall_mem_cons.mpr ⟨lw_p16, List.forall_mem_cons.mpr ⟨lw_p17, List.forall_mem_cons.mpr ⟨lw_p18, List.forall_mem_cons.mpr ⟨lw_p19, List.forall_mem_cons.mpr ⟨lw_p20, List.forall_mem_cons.mpr ⟨lw_p21, List.forall_mem_cons.mpr ⟨lw_p22, List.forall_mem_cons.mpr ⟨lw_p23, List.forall_mem_cons.mpr ⟨lw_p24, List.forall_mem_cons.mpr ⟨lw_p25, List.forall_mem_cons.mpr ⟨lw_p26, List.forall_mem_cons.mpr ⟨lw_p27, List.forall_mem_cons.mpr ⟨lw_p28, List.forall_mem_cons.mpr ⟨lw_p29, List.forall_mem_cons.mpr ⟨lw_p30, List.forall_mem_cons.mpr ⟨lw_p31, fun _ h => absurd h List.not_mem_nil⟩⟩⟩⟩⟩⟩⟩⟩⟩⟩⟩⟩⟩⟩⟩⟩
theorem lw_p32 : lw_okq (⟨"TaleMachine$Teller", "bringBack", "(LTaleMachine$Frame;I)Z"⟩, 9) := ⟨⟨by decide +kernel, by decide +kernel⟩, List.mem_of_getElem? (i := 124) (by decide +kernel), List.mem_of_getElem? (i := 510) (by decide +kernel), List.mem_of_getElem? (i := 511) (by decide +kernel)⟩
theorem lw_p33 : lw_okq (⟨"TaleMachine$World", "reachFrom", "(I)V"⟩, 9) := ⟨⟨by decide +kernel, by decide +kernel⟩, List.mem_of_getElem? (i := 42) (by decide +kernel), List.mem_of_getElem? (i := 548) (by decide +kernel), List.mem_of_getElem? (i := 549) (by decide +kernel)⟩
theorem lw_p34 : lw_okq (⟨"java/lang/Throwable", "fillInStackTrace", "(I)Ljava/lang/Throwable;"⟩, 6) := ⟨⟨by decide +kernel, by decide +kernel⟩, List.mem_of_getElem? (i := 607) (by decide +kernel), List.mem_of_getElem? (i := 605) (by decide +kernel), List.mem_of_getElem? (i := 606) (by decide +kernel)⟩
theorem lw_p35 : lw_okq (⟨"TaleMachine$World", "gather", "(II)I"⟩, 9) := ⟨⟨by decide +kernel, by decide +kernel⟩, List.mem_of_getElem? (i := 42) (by decide +kernel), List.mem_of_getElem? (i := 661) (by decide +kernel), List.mem_of_getElem? (i := 662) (by decide +kernel)⟩
theorem lw_p36 : lw_okq (⟨"TaleMachineModel", "isParent", "(I)Z"⟩, 31) := ⟨⟨by decide +kernel, by decide +kernel⟩, List.mem_of_getElem? (i := 750) (by decide +kernel), List.mem_of_getElem? (i := 865) (by decide +kernel), List.mem_of_getElem? (i := 866) (by decide +kernel)⟩
theorem lw_p37 : lw_okq (⟨"TaleMachineModel", "isThere", "(I)Z"⟩, 31) := ⟨⟨by decide +kernel, by decide +kernel⟩, List.mem_of_getElem? (i := 750) (by decide +kernel), List.mem_of_getElem? (i := 869) (by decide +kernel), List.mem_of_getElem? (i := 870) (by decide +kernel)⟩
theorem lw_p38 : lw_okq (⟨"TaleMachineModel", "empty", "(I)V"⟩, 31) := ⟨⟨by decide +kernel, by decide +kernel⟩, List.mem_of_getElem? (i := 750) (by decide +kernel), List.mem_of_getElem? (i := 873) (by decide +kernel), List.mem_of_getElem? (i := 874) (by decide +kernel)⟩
theorem lw_p39 : lw_okq (⟨"TaleMachineModel", "placeOf", "(II)I"⟩, 31) := ⟨⟨by decide +kernel, by decide +kernel⟩, List.mem_of_getElem? (i := 750) (by decide +kernel), List.mem_of_getElem? (i := 877) (by decide +kernel), List.mem_of_getElem? (i := 878) (by decide +kernel)⟩
theorem lw_p40 : lw_okq (⟨"TaleMachineModel", "give", "(IIII)V"⟩, 31) := ⟨⟨by decide +kernel, by decide +kernel⟩, List.mem_of_getElem? (i := 750) (by decide +kernel), List.mem_of_getElem? (i := 885) (by decide +kernel), List.mem_of_getElem? (i := 886) (by decide +kernel)⟩
theorem lw_p41 : lw_okq (⟨"TaleMachineModel", "owner", "(III)I"⟩, 31) := ⟨⟨by decide +kernel, by decide +kernel⟩, List.mem_of_getElem? (i := 750) (by decide +kernel), List.mem_of_getElem? (i := 893) (by decide +kernel), List.mem_of_getElem? (i := 894) (by decide +kernel)⟩
theorem lw_p42 : lw_okq (⟨"TaleMachineModel", "findLine", "(I)V"⟩, 31) := ⟨⟨by decide +kernel, by decide +kernel⟩, List.mem_of_getElem? (i := 750) (by decide +kernel), List.mem_of_getElem? (i := 897) (by decide +kernel), List.mem_of_getElem? (i := 898) (by decide +kernel)⟩
theorem lw_p43 : lw_okq (⟨"TaleMachineModel", "parents", "(I)I"⟩, 31) := ⟨⟨by decide +kernel, by decide +kernel⟩, List.mem_of_getElem? (i := 750) (by decide +kernel), List.mem_of_getElem? (i := 901) (by decide +kernel), List.mem_of_getElem? (i := 902) (by decide +kernel)⟩
theorem lw_p44 : lw_okq (⟨"TaleMachineModel", "parent", "(II)I"⟩, 31) := ⟨⟨by decide +kernel, by decide +kernel⟩, List.mem_of_getElem? (i := 750) (by decide +kernel), List.mem_of_getElem? (i := 905) (by decide +kernel), List.mem_of_getElem? (i := 906) (by decide +kernel)⟩
theorem lw_p45 : lw_okq (⟨"TaleMachineModel", "hasOwn", "(II)Z"⟩, 31) := ⟨⟨by decide +kernel, by decide +kernel⟩, List.mem_of_getElem? (i := 750) (by decide +kernel), List.mem_of_getElem? (i := 909) (by decide +kernel), List.mem_of_getElem? (i := 910) (by decide +kernel)⟩
theorem lw_p46 : lw_okq (⟨"TaleMachineModel", "sound", "(II)Z"⟩, 31) := ⟨⟨by decide +kernel, by decide +kernel⟩, List.mem_of_getElem? (i := 750) (by decide +kernel), List.mem_of_getElem? (i := 913) (by decide +kernel), List.mem_of_getElem? (i := 914) (by decide +kernel)⟩
theorem lw_p47 : lw_okq (⟨"TaleMachineModel", "at", "(I)I"⟩, 31) := ⟨⟨by decide +kernel, by decide +kernel⟩, List.mem_of_getElem? (i := 750) (by decide +kernel), List.mem_of_getElem? (i := 917) (by decide +kernel), List.mem_of_getElem? (i := 918) (by decide +kernel)⟩
def lw_privs_3 : List (MethodName × Nat) := [(⟨"TaleMachine$Teller", "bringBack", "(LTaleMachine$Frame;I)Z"⟩, 9), (⟨"TaleMachine$World", "reachFrom", "(I)V"⟩, 9), (⟨"java/lang/Throwable", "fillInStackTrace", "(I)Ljava/lang/Throwable;"⟩, 6), (⟨"TaleMachine$World", "gather", "(II)I"⟩, 9), (⟨"TaleMachineModel", "isParent", "(I)Z"⟩, 31), (⟨"TaleMachineModel", "isThere", "(I)Z"⟩, 31), (⟨"TaleMachineModel", "empty", "(I)V"⟩, 31), (⟨"TaleMachineModel", "placeOf", "(II)I"⟩, 31), (⟨"TaleMachineModel", "give", "(IIII)V"⟩, 31), (⟨"TaleMachineModel", "owner", "(III)I"⟩, 31), (⟨"TaleMachineModel", "findLine", "(I)V"⟩, 31), (⟨"TaleMachineModel", "parents", "(I)I"⟩, 31), (⟨"TaleMachineModel", "parent", "(II)I"⟩, 31), (⟨"TaleMachineModel", "hasOwn", "(II)Z"⟩, 31), (⟨"TaleMachineModel", "sound", "(II)Z"⟩, 31), (⟨"TaleMachineModel", "at", "(I)I"⟩, 31)]
theorem lw_r3 : ∀ q ∈ lw_privs_3, lw_okq q := List.forall_mem_cons.mpr ⟨lw_p32, List.forall_mem_cons.mpr ⟨lw_p33, List.forall_mem_cons.mpr ⟨lw_p34, List.forall_mem_cons.mpr ⟨lw_p35, List.forall_mem_cons.mpr ⟨lw_p36, List.forall_mem_cons.mpr ⟨lw_p37, List.forall_mem_cons.mpr ⟨lw_p38, List.forall_mem_cons.mpr ⟨lw_p39, List.forall_mem_cons.mpr ⟨lw_p40, List.forall_mem_cons.mpr ⟨lw_p41, List.forall_mem_cons.mpr ⟨lw_p42, List.forall_mem_cons.mpr ⟨lw_p43, List.forall_mem_cons.mpr ⟨lw_p44, List.forall_mem_cons.mpr ⟨lw_p45, List.forall_mem_cons.mpr ⟨lw_p46, List.forall_mem_cons.mpr ⟨lw_p47, fun _ h => absurd h List.not_mem_nil⟩⟩⟩⟩⟩⟩⟩⟩⟩⟩⟩⟩⟩⟩⟩⟩
theorem lw_p48 : lw_okq (⟨"TaleMachineModel", "enter", "(IIII)V"⟩, 31) := ⟨⟨by decide +kernel, by decide +kernel⟩, List.mem_of_getElem? (i := 750) (by decide +kernel), List.mem_of_getElem? (i := 921) (by decide +kernel), List.mem_of_getElem? (i := 922) (by decide +kernel)⟩
theorem lw_p49 : lw_okq (⟨"TaleMachineModel", "push", "(II)V"⟩, 31) := ⟨⟨by decide +kernel, by decide +kernel⟩, List.mem_of_getElem? (i := 750) (by decide +kernel), List.mem_of_getElem? (i := 925) (by decide +kernel), List.mem_of_getElem? (i := 926) (by decide +kernel)⟩
theorem lw_p50 : lw_okq (⟨"TaleMachineModel", "one", "()Z"⟩, 31) := ⟨⟨by decide +kernel, by decide +kernel⟩, List.mem_of_getElem? (i := 750) (by decide +kernel), List.mem_of_getElem? (i := 933) (by decide +kernel), List.mem_of_getElem? (i := 934) (by decide +kernel)⟩
theorem lw_p51 : lw_okq (⟨"TaleMachineModel", "putting", "(III)Z"⟩, 31) := ⟨⟨by decide +kernel, by decide +kernel⟩, List.mem_of_getElem? (i := 750) (by decide +kernel), List.mem_of_getElem? (i := 940) (by decide +kernel), List.mem_of_getElem? (i := 941) (by decide +kernel)⟩
theorem lw_p52 : lw_okq (⟨"TaleMachineModel", "taken", "()I"⟩, 31) := ⟨⟨by decide +kernel, by decide +kernel⟩, List.mem_of_getElem? (i := 750) (by decide +kernel), List.mem_of_getElem? (i := 944) (by decide +kernel), List.mem_of_getElem? (i := 945) (by decide +kernel)⟩
theorem lw_p53 : lw_okq (⟨"TaleMachineModel", "signed", "(I)I"⟩, 31) := ⟨⟨by decide +kernel, by decide +kernel⟩, List.mem_of_getElem? (i := 750) (by decide +kernel), List.mem_of_getElem? (i := 948) (by decide +kernel), List.mem_of_getElem? (i := 949) (by decide +kernel)⟩
theorem lw_p54 : lw_okq (⟨"TaleMachineModel", "two", "(I)I"⟩, 31) := ⟨⟨by decide +kernel, by decide +kernel⟩, List.mem_of_getElem? (i := 750) (by decide +kernel), List.mem_of_getElem? (i := 952) (by decide +kernel), List.mem_of_getElem? (i := 953) (by decide +kernel)⟩
theorem lw_p55 : lw_okq (⟨"TaleMachineModel", "reckoning", "(I)Z"⟩, 31) := ⟨⟨by decide +kernel, by decide +kernel⟩, List.mem_of_getElem? (i := 750) (by decide +kernel), List.mem_of_getElem? (i := 956) (by decide +kernel), List.mem_of_getElem? (i := 957) (by decide +kernel)⟩
theorem lw_p56 : lw_okq (⟨"TaleMachineModel", "isFalse", "(I)Z"⟩, 31) := ⟨⟨by decide +kernel, by decide +kernel⟩, List.mem_of_getElem? (i := 750) (by decide +kernel), List.mem_of_getElem? (i := 960) (by decide +kernel), List.mem_of_getElem? (i := 961) (by decide +kernel)⟩
theorem lw_p57 : lw_okq (⟨"TaleMachineModel", "truth", "(Z)Z"⟩, 31) := ⟨⟨by decide +kernel, by decide +kernel⟩, List.mem_of_getElem? (i := 750) (by decide +kernel), List.mem_of_getElem? (i := 964) (by decide +kernel), List.mem_of_getElem? (i := 965) (by decide +kernel)⟩
theorem lw_p58 : lw_okq (⟨"TaleMachineModel", "toss", "(I)Z"⟩, 31) := ⟨⟨by decide +kernel, by decide +kernel⟩, List.mem_of_getElem? (i := 750) (by decide +kernel), List.mem_of_getElem? (i := 968) (by decide +kernel), List.mem_of_getElem? (i := 969) (by decide +kernel)⟩
theorem lw_p59 : lw_okq (⟨"TaleMachineModel", "handler", "(II)I"⟩, 31) := ⟨⟨by decide +kernel, by decide +kernel⟩, List.mem_of_getElem? (i := 750) (by decide +kernel), List.mem_of_getElem? (i := 972) (by decide +kernel), List.mem_of_getElem? (i := 973) (by decide +kernel)⟩
theorem lw_p60 : lw_okq (⟨"TaleMachineModel", "belongs", "(II)Z"⟩, 31) := ⟨⟨by decide +kernel, by decide +kernel⟩, List.mem_of_getElem? (i := 750) (by decide +kernel), List.mem_of_getElem? (i := 976) (by decide +kernel), List.mem_of_getElem? (i := 977) (by decide +kernel)⟩
theorem lw_p61 : lw_okq (⟨"TaleMachineModel", "over", "(I)I"⟩, 31) := ⟨⟨by decide +kernel, by decide +kernel⟩, List.mem_of_getElem? (i := 750) (by decide +kernel), List.mem_of_getElem? (i := 980) (by decide +kernel), List.mem_of_getElem? (i := 981) (by decide +kernel)⟩
theorem lw_p62 : lw_okq (⟨"TaleMachineModel", "going", "(III)Z"⟩, 31) := ⟨⟨by decide +kernel, by decide +kernel⟩, List.mem_of_getElem? (i := 750) (by decide +kernel), List.mem_of_getElem? (i := 984) (by decide +kernel), List.mem_of_getElem? (i := 985) (by decide +kernel)⟩
theorem lw_p63 : lw_okq (⟨"TaleMachineModel", "isObject", "(I)Z"⟩, 31) := ⟨⟨by decide +kernel, by decide +kernel⟩, List.mem_of_getElem? (i := 750) (by decide +kernel), List.mem_of_getElem? (i := 988) (by decide +kernel), List.mem_of_getElem? (i := 989) (by decide +kernel)⟩
def lw_privs_4 : List (MethodName × Nat) := [(⟨"TaleMachineModel", "enter", "(IIII)V"⟩, 31), (⟨"TaleMachineModel", "push", "(II)V"⟩, 31), (⟨"TaleMachineModel", "one", "()Z"⟩, 31), (⟨"TaleMachineModel", "putting", "(III)Z"⟩, 31), (⟨"TaleMachineModel", "taken", "()I"⟩, 31), (⟨"TaleMachineModel", "signed", "(I)I"⟩, 31), (⟨"TaleMachineModel", "two", "(I)I"⟩, 31), (⟨"TaleMachineModel", "reckoning", "(I)Z"⟩, 31), (⟨"TaleMachineModel", "isFalse", "(I)Z"⟩, 31), (⟨"TaleMachineModel", "truth", "(Z)Z"⟩, 31), (⟨"TaleMachineModel", "toss", "(I)Z"⟩, 31), (⟨"TaleMachineModel", "handler", "(II)I"⟩, 31), (⟨"TaleMachineModel", "belongs", "(II)Z"⟩, 31), (⟨"TaleMachineModel", "over", "(I)I"⟩, 31), (⟨"TaleMachineModel", "going", "(III)Z"⟩, 31), (⟨"TaleMachineModel", "isObject", "(I)Z"⟩, 31)]
theorem lw_r4 : ∀ q ∈ lw_privs_4, lw_okq q := List.forall_mem_cons.mpr ⟨lw_p48, List.forall_mem_cons.mpr ⟨lw_p49, List.forall_mem_cons.mpr ⟨lw_p50, List.forall_mem_cons.mpr ⟨lw_p51, List.forall_mem_cons.mpr ⟨lw_p52, List.forall_mem_cons.mpr ⟨lw_p53, List.forall_mem_cons.mpr ⟨lw_p54, List.forall_mem_cons.mpr ⟨lw_p55, List.forall_mem_cons.mpr ⟨lw_p56, List.forall_mem_cons.mpr ⟨lw_p57, List.forall_mem_cons.mpr ⟨lw_p58, List.forall_mem_cons.mpr ⟨lw_p59, List.forall_mem_cons.mpr ⟨lw_p60, List.forall_mem_cons.mpr ⟨lw_p61, List.forall_mem_cons.mpr ⟨lw_p62, List.forall_mem_cons.mpr ⟨lw_p63, fun _ h => absurd h List.not_mem_nil⟩⟩⟩⟩⟩⟩⟩⟩⟩⟩⟩⟩⟩⟩⟩⟩
theorem lw_p64 : lw_okq (⟨"TaleMachineModel", "ask", "(IIIII)Z"⟩, 31) := ⟨⟨by decide +kernel, by decide +kernel⟩, List.mem_of_getElem? (i := 750) (by decide +kernel), List.mem_of_getElem? (i := 992) (by decide +kernel), List.mem_of_getElem? (i := 993) (by decide +kernel)⟩
theorem lw_p65 : lw_okq (⟨"TaleMachineModel", "call", "(IIIII)Z"⟩, 31) := ⟨⟨by decide +kernel, by decide +kernel⟩, List.mem_of_getElem? (i := 750) (by decide +kernel), List.mem_of_getElem? (i := 996) (by decide +kernel), List.mem_of_getElem? (i := 997) (by decide +kernel)⟩
theorem lw_p66 : lw_okq (⟨"TaleMachineModel", "assign", "(I)Z"⟩, 31) := ⟨⟨by decide +kernel, by decide +kernel⟩, List.mem_of_getElem? (i := 750) (by decide +kernel), List.mem_of_getElem? (i := 1000) (by decide +kernel), List.mem_of_getElem? (i := 1001) (by decide +kernel)⟩
theorem lw_p67 : lw_okq (⟨"TaleMachineModel", "end", "(II)Z"⟩, 31) := ⟨⟨by decide +kernel, by decide +kernel⟩, List.mem_of_getElem? (i := 750) (by decide +kernel), List.mem_of_getElem? (i := 1004) (by decide +kernel), List.mem_of_getElem? (i := 1005) (by decide +kernel)⟩
theorem lw_p68 : lw_okq (⟨"TaleMachineModel", "world", "(II)Z"⟩, 31) := ⟨⟨by decide +kernel, by decide +kernel⟩, List.mem_of_getElem? (i := 750) (by decide +kernel), List.mem_of_getElem? (i := 1008) (by decide +kernel), List.mem_of_getElem? (i := 1009) (by decide +kernel)⟩
theorem lw_p69 : lw_okq (⟨"TaleMachineModel", "make", "(I)Z"⟩, 31) := ⟨⟨by decide +kernel, by decide +kernel⟩, List.mem_of_getElem? (i := 750) (by decide +kernel), List.mem_of_getElem? (i := 1012) (by decide +kernel), List.mem_of_getElem? (i := 1013) (by decide +kernel)⟩
theorem lw_p70 : lw_okq (⟨"TaleMachineModel", "point", "()Z"⟩, 31) := ⟨⟨by decide +kernel, by decide +kernel⟩, List.mem_of_getElem? (i := 750) (by decide +kernel), List.mem_of_getElem? (i := 1016) (by decide +kernel), List.mem_of_getElem? (i := 1017) (by decide +kernel)⟩
theorem lw_p71 : lw_okq (⟨"TaleMachineModel", "copy", "(II)V"⟩, 31) := ⟨⟨by decide +kernel, by decide +kernel⟩, List.mem_of_getElem? (i := 750) (by decide +kernel), List.mem_of_getElem? (i := 1020) (by decide +kernel), List.mem_of_getElem? (i := 1021) (by decide +kernel)⟩
theorem lw_p72 : lw_okq (⟨"TaleMachineModel", "mark", "(III)I"⟩, 31) := ⟨⟨by decide +kernel, by decide +kernel⟩, List.mem_of_getElem? (i := 750) (by decide +kernel), List.mem_of_getElem? (i := 1032) (by decide +kernel), List.mem_of_getElem? (i := 1033) (by decide +kernel)⟩
theorem lw_p73 : lw_okq (⟨"TaleMachineModel", "spread", "(I)I"⟩, 31) := ⟨⟨by decide +kernel, by decide +kernel⟩, List.mem_of_getElem? (i := 750) (by decide +kernel), List.mem_of_getElem? (i := 1036) (by decide +kernel), List.mem_of_getElem? (i := 1037) (by decide +kernel)⟩
theorem lw_p74 : lw_okq (⟨"TaleMachineModel", "refuse", "(I)I"⟩, 31) := ⟨⟨by decide +kernel, by decide +kernel⟩, List.mem_of_getElem? (i := 750) (by decide +kernel), List.mem_of_getElem? (i := 1044) (by decide +kernel), List.mem_of_getElem? (i := 1045) (by decide +kernel)⟩
def lw_privs_5 : List (MethodName × Nat) := [(⟨"TaleMachineModel", "ask", "(IIIII)Z"⟩, 31), (⟨"TaleMachineModel", "call", "(IIIII)Z"⟩, 31), (⟨"TaleMachineModel", "assign", "(I)Z"⟩, 31), (⟨"TaleMachineModel", "end", "(II)Z"⟩, 31), (⟨"TaleMachineModel", "world", "(II)Z"⟩, 31), (⟨"TaleMachineModel", "make", "(I)Z"⟩, 31), (⟨"TaleMachineModel", "point", "()Z"⟩, 31), (⟨"TaleMachineModel", "copy", "(II)V"⟩, 31), (⟨"TaleMachineModel", "mark", "(III)I"⟩, 31), (⟨"TaleMachineModel", "spread", "(I)I"⟩, 31), (⟨"TaleMachineModel", "refuse", "(I)I"⟩, 31)]
theorem lw_r5 : ∀ q ∈ lw_privs_5, lw_okq q := List.forall_mem_cons.mpr ⟨lw_p64, List.forall_mem_cons.mpr ⟨lw_p65, List.forall_mem_cons.mpr ⟨lw_p66, List.forall_mem_cons.mpr ⟨lw_p67, List.forall_mem_cons.mpr ⟨lw_p68, List.forall_mem_cons.mpr ⟨lw_p69, List.forall_mem_cons.mpr ⟨lw_p70, List.forall_mem_cons.mpr ⟨lw_p71, List.forall_mem_cons.mpr ⟨lw_p72, List.forall_mem_cons.mpr ⟨lw_p73, List.forall_mem_cons.mpr ⟨lw_p74, fun _ h => absurd h List.not_mem_nil⟩⟩⟩⟩⟩⟩⟩⟩⟩⟩⟩
def lw_privs : List (MethodName × Nat) := lw_privs_1 ++ (lw_privs_2 ++ (lw_privs_3 ++ (lw_privs_4 ++ (lw_privs_5))))
def lw_tbl : List Cond := k2_sels lw_privs ++ tables_1
theorem lw_privs_ok : ∀ q ∈ lw_privs, lw_okq q := by
  show ∀ q ∈ lw_privs_1 ++ (lw_privs_2 ++ (lw_privs_3 ++ (lw_privs_4 ++ (lw_privs_5)))), lw_okq q
  exact List.forall_mem_append.mpr ⟨lw_r1, List.forall_mem_append.mpr ⟨lw_r2, List.forall_mem_append.mpr ⟨lw_r3, List.forall_mem_append.mpr ⟨lw_r4, lw_r5⟩⟩⟩⟩
end
section
/-! Methods that throw: a contract's end that is a throw (vt_Met), the call of such a method, its way out of a caller without handlers, its way into a caller's handler, and the making and throwing of an exception with a String constant. -/
def vt_Met (l : Launch) (y : MethodName) (ws : List Cond) (rm : Room) (Pc : Array Value → State → Prop) (Qx : Array Value → State → Addr → State → Prop) (mc ms : Nat) (free : Addr → Prop) : Prop :=
  MetFree l y (headSpec ws rm) Pc (fun _ _ _ _ _ => True) (fun a st o t => ∃ x, o = .threw x ∧ Qx a st x t ∧ st.WarmedH t.vm ∧ ∃ L, st.sameButNew ({ t with vm := st.vm } : State) L mc ms ∧ ∀ q ∈ L, free q.base)
def vt_MQ (below : List Frame) (Qx : Array Value → State → Addr → State → Prop) (a : Array Value) (s : State) (mc ms : Nat) (free : Addr → Prop) : State → Prop := fun t =>
  ∃ x, t.status = .running ∧ Ended t below (.threw x) ∧ Qx a s x t ∧ s.WarmedH t.vm ∧ ∃ L, s.sameButNew ({ t with vm := s.vm } : State) L mc ms ∧ ∀ q ∈ L, free q.base
/-- what a thrower's end says: the thrown cell's class; what isn't the method's own stays -/
def vt_Q (cls : String) (A : Nat → Prop) : Array Value → State → Addr → State → Prop := fun _ st x t => (∃ cell : Cell, t.heap[x]? = some cell ∧ cell.vm = .none ∧ st.vm.findClass cls = some cell.cls) ∧ va_F A st t
def vt_PostOf (Qx : Array Value → State → Addr → State → Prop) (mc ms : Nat) (free : Addr → Prop) : Pt → Array Value → Addr → Pt → Prop := fun A a x B =>
  ∃ (g : JFrame) (mk : MethodId) (t : State) (L : List Loc), B.U.heap = t.heap ∧ B.U.vm = t.vm ∧ Qx a (A.U.calling g mk a) x t ∧ B.locs = A.locs ++ L ∧ (∀ q ∈ L, free q.base) ∧ B.cells = A.cells + mc ∧ B.slots = A.slots + ms
def vt_Back (l : Launch) (R : Room) (p : Program) (e : Env) (below : List Frame) (s : State) (sargs : Array Value) (y : MethodName) (len W : Nat) (Pre : Pt → Array Value → Prop) (Post : Pt → Array Value → Addr → Pt → Prop) : Prop :=
  ∀ (m : MethodId) (meth : Method) (c : Code) (A : Pt) (g : JFrame) (ig : Instr) (mk : MethodId) (a : Array Value),
    Stand p l e R s m sargs below meth c A.U A.locs A.cells A.slots → g.method = m → g.locals.size = c.maxLocals → decode c.code g.pc = .ok (ig, len) →
    2 * g.monitorRoom + (g.stack.map fun v => v.category).sum ≤ W → A.U.methodNamed? y = some mk → Pre A a →
    ∃ (x : Addr) (B : Pt), Stand p l e R s m sargs below meth c B.U B.locs B.cells B.slots ∧ Post A a x B ∧
      Steps p.tables e below (doInvoke e (A.U.setTop g) [] mk a).1 ((B.U.setTop g).pushFrame (.throwing x))
theorem vt_same {s t : State} {locs : List Loc} {k n : Nat} {A : Nat → Prop} (h : s.sameButNew t locs k n) (hA : ∀ q ∈ locs, A q.base) : ∀ q : Nat, q < s.heap.size → ¬ A q → t.heap[q]? = s.heap[q]? := by
  intro q hq hn
  have hc : s.heap[q]? = some s.heap[q] := Array.getElem?_eq_getElem hq
  obtain ⟨c', h1, h2, -, h4⟩ := h.2.2.2.2.2 q _ hc
  have h5 : c'.slots = (s.heap[q]).slots := Array.ext_getElem? (fun i => h4 i (fun hm => hn (hA _ hm)))
  rw [h1, hc, h2, h5]
section VT1
variable {l : Launch}
theorem vt_ofW {y : MethodName} {ws ws' : List Cond} {rm : Room} {Pc : Array Value → State → Prop} {Qx : Array Value → State → Addr → State → Prop} {mc ms : Nat} {free : Addr → Prop} {cc : ByteArray} {maxL : Nat} {ret : Option FieldType}
    (hy : plainName y.cls = true) (hw : ws = Cond.code y cc maxL ret :: ws')
    (body : ∀ p e s m args below meth c s₁, BodyLoose p l y (headSpec ws rm) cc maxL ret e s m args below meth c s₁ → c.maxLocals = maxL → c.exceptionTable.isEmpty = true → Pc args s →
      W p l e (headSpec ws rm).room s m args below meth c s.heap [] 0 0 (vt_MQ below Qx args s mc ms free) (entryFrame m args maxL)) : vt_Met l y ws rm Pc Qx mc ms free := by
  refine MetFree.of_bodyS (code := cc) (maxLocals := maxL) (ret := ret) hy ?_ ?_
  · intro args s m h hn
    obtain ⟨meth, c, h1, h2, h3, h4, h5, h6, -, -⟩ := Cond.code_spec hn (atoms_spec (ws := ws) h _ (by rw [hw]; exact List.mem_cons_self))
    exact ⟨meth, c, h1, h2, h3, h4, h5, h6⟩
  · intro p e s m args below meth c s₁ B hml hP _
    have hh0 : s₁.heap = s.heap := by rw [B.state]; rfl
    have hne := B.noHandlers (atoms_spec (ws := ws) B.pre _ (by rw [hw]; exact List.mem_cons_self))
    obtain ⟨t, a1, x, b1, b2, b3⟩ := body p e s m args below meth c s₁ B hml hne hP s₁ hh0 (Stand.of_body B)
    exact ⟨t, .threw x, a1, b1, b2, x, rfl, b3⟩
end VT1
section VT2
variable {l : Launch} {R : Room} {p : Program} {e : Env} {below : List Frame} {s : State} {sargs : Array Value} {y : MethodName} {len W : Nat}
theorem vt_back {ws : List Cond} {rm : Room} {Pc : Array Value → State → Prop} {Qx : Array Value → State → Addr → State → Prop} {mc ms : Nat} {free : Addr → Prop} {bytes : ByteArray} {maxL : Nat} {ret : Option FieldType}
    (hM : vt_Met l y ws rm Pc Qx mc ms free) (hblind : FrameBlind Pc) (hrc : rm.cells = mc) (hrs : rm.slots = ms)
    (hframes : rm.frames + 1 ≤ R.frames) (hlocals : W + (maxL + 11) + rm.locals ≤ R.locals)
    (hws : ∀ w ∈ ws, ∀ (a' : Array Value) (U : State), s.WarmedH U.vm → w.before a' U = true) (hcode : Cond.code y bytes maxL ret ∈ ws) (hinit : ∀ (a' : Array Value) (U : State), s.WarmedH U.vm → (Cond.initialized y.cls).before a' U = true) :
    vt_Back l R p e below s sargs y len W (PreOf R mc ms Pc) (vt_PostOf Qx mc ms free) := by
  intro m meth c A g ig mk a X hg hsize hdg hW hn hp
  obtain ⟨U, Ls, c0, s0⟩ := A
  obtain ⟨hp1, hp2, hp3⟩ := hp
  dsimp only [Pt.U, Pt.locs, Pt.cells, Pt.slots] at X hn hp1 hp2 hp3 ⊢
  subst hrc; subst hrs
  obtain ⟨methY, cY, hmY, hcY, -, hlY, -, -, -, -⟩ := Cond.code_spec hn (hws _ hcode a U X.warmed)
  obtain ⟨kY, hkY, -⟩ := className_of_methodNamed hn
  have hinitY : kY.init = .initialized := Cond.initialized_spec (findClass_of_methodNamed hn) hkY (hinit a U X.warmed)
  have h : At U g.method c below := by rw [hg]; exact X.here
  have happ : (headSpec ws rm).appliesLoose y e.platform (U.calling g mk a) = true :=
    Spec.appliesLoose_calling (g := g) h hdg hn hkY hinitY
      (X.room_calling (g := g) (R' := rm) hsize hmY hcY hframes (by rw [hlY]; omega) hp1 hp2) (atoms_intro fun w hw => hws w hw _ _ X.warmed)
  obtain ⟨mid, hmid⟩ := h.above
  have hfr : (U.setTop g).frames = (.java g :: mid) ++ below := by rw [State.frames_setTop' g h.top, hmid]; rfl
  obtain ⟨o, s₂, hsteps, -, hend, hq⟩ := Steps.callFree hM p X.admits X.cas X.clock (acts := []) hfr happ (hblind _ _ _ _ hp3) trivial
  obtain ⟨x, rfl, hq, hWs, L, hsame, hL⟩ := hq
  rw [State.frames_setTop' g h.top, X.tail] at hend
  obtain ⟨T', X', -, -, ht⟩ := X.outOfThrown (g := g) (mk := mk) (a := a) hg hend hWs hsame
  refine ⟨x, ⟨T', Ls ++ L, c0 + rm.cells, s0 + rm.slots⟩, X', ⟨g, mk, s₂, L, ?_, ?_, hq, rfl, hL, rfl, rfl⟩, ?_⟩
  · rw [ht]; exact (Stand.throwing_heap T' g x).symm
  · rw [ht]; exact (Stand.throwing_vm T' g x).symm
  · show Steps p.tables e below _ ((T'.setTop g).pushFrame (.throwing x))
    rw [← ht]
    exact hsteps
end VT2
section VT3
variable {p : Program} {l : Launch} {e : Env} {R : Room} {s : State} {m : MethodId} {args : Array Value} {below : List Frame} {meth : Method} {c : Code} {H : Heap} {locs : List Loc} {cells slots : Nat} {Q : State → Prop}
variable {y : MethodName} {bytes cc : ByteArray} {maxL nL mc ms n index : Nat} {ret : Option FieldType} {ws : List Cond} {rm : Room} {Pc : Array Value → State → Prop} {Qx : Array Value → State → Addr → State → Prop} {free : Addr → Prop} {Ts : List Cond} {own C : String} {b : Addr} {As rest : List Value} {g : JFrame}
def vt_Run (p : Program) (l : Launch) (e : Env) (R : Room) (s : State) (m : MethodId) (args : Array Value) (below : List Frame) (meth : Method) (c : Code) (H : Heap) (locs : List Loc) (cells slots mc ms : Nat) (g : JFrame) (rest : List Value) (Qa : State → Addr → State → Prop) (free : Addr → Prop) : Prop :=
  ∀ T : State, T.heap = H → Stand p l e R s m args below meth c T locs cells slots → ∃ (x : Addr) (st₀ t T' : State) (L : List Loc), st₀.heap = H ∧ s.vm.Alike st₀.vm ∧ Stand p l e R s m args below meth c T' (locs ++ L) (cells + mc) (slots + ms) ∧ (∀ q ∈ L, free q.base) ∧ T'.heap = t.heap ∧ T'.vm = t.vm ∧ Qa st₀ x t ∧
    ∀ target, Steps p.tables e below ((T'.setTop { g with stack := rest }).pushFrame (.throwing x)) target → Steps p.tables e below (T.setTop g) target
theorem vt_callBack (cb : CallB R s args own index y bytes maxL ret ws rm mc ms n) (hM : vt_Met l y ws rm Pc Qx mc ms free) (hbl : FrameBlind Pc) : vt_Back l R p e below s args y 3 8 (PreOf R mc ms Pc) (vt_PostOf Qx mc ms free) := by
  obtain ⟨hrc, hrs, hfr, hlo, hws, hcw, -, hini, -⟩ := cb
  exact vt_back (bytes := bytes) (maxL := maxL) (ret := ret) hM hbl hrc hrs hfr hlo hws hcw (fun a' U hW => word_at hW (Or.inl (by first | rfl | simp [Cond.onTables, Cond.keeps, Cond.steady])) hini)
theorem vt_runV (S : CallFix p m c cc nL s args Ts own) (hM : vt_Met l y ws rm Pc Qx mc ms free) (cw : CallW R s args own C index y bytes maxL ret ws rm mc ms n) (hp : PreV s H C b Pc As)
    (hg : g.method = m) (hn : As.length = n) (hsize : g.locals.size = nL) (hstack : g.stack = As.reverse ++ .ref b :: rest) (hW : 2 * g.monitorRoom + (rest.map fun v => v.category).sum ≤ 8) (hdg : decode cc g.pc = .ok (.invokevirtual index, 3)) (hf : cells + mc ≤ R.cells ∧ slots + ms ≤ R.slots) :
    vt_Run p l e R s m args below meth c H locs cells slots mc ms g rest (Qx (Value.ref b :: As).toArray) free := by
  have hK : vt_Back l R p e below s args y 3 8 (PreOf R mc ms Pc) (vt_PostOf Qx mc ms free) := vt_callBack cw.1 hM hp.1
  obtain ⟨⟨-, -, -, -, -, -, hcode, -, hy, hlen, hlink⟩, hinst, hsel⟩ := cw
  obtain ⟨hexec, hb, hml, hown, -⟩ := S
  obtain ⟨-, ⟨cellB, hcB, hobj, hcls⟩, hPc⟩ := hp
  intro T hT X
  obtain ⟨mk, methM, hnamed, hmethM, hstM, habM⟩ := Cond.instanceMethod_spec hinst
  obtain ⟨methM', cM, hmethM', -, -, -, -, -, -, hsigM⟩ := Cond.code_spec hnamed hcode
  cases hmethM.symm.trans hmethM'
  obtain ⟨c2, r2, m2, q1, q2, q3, q4, kP, hkP, hkPi⟩ := Cond.selects_spec hsel
  cases hcls.symm.trans q1
  cases (State.methodFound?_of_named hnamed hy).symm.trans q2
  cases hnamed.symm.trans q3
  have hselP : selectMethod e.platform s.vm cellB.cls mk = .method mk := by rw [Launch.admits_selectMethod X.admits]; exact q4
  obtain ⟨vm₁, X₁, hstep₁⟩ := X.invokevirtual hexec hown hlink hnamed hmethM hstM hkP hkPi hy (a := b) (cell := cellB) (by rw [hT]; exact hcB)
    (fun z h => by rw [h] at hobj; cases hobj) hselP hmethM habM hkP hkPi (g := g) hg (argsL := As) (rest := rest) (hn.trans (hlen _ hsigM)) hstack (by rw [hb]; exact hdg)
  obtain ⟨x, ⟨U', l2, c2, s2⟩, X', ⟨g', mk', t, L, e1, e2, hq, h1, hL, h2, h3⟩, hsteps⟩ := hK m meth c ⟨T.setVm vm₁, locs, cells, slots⟩ { g with stack := rest } (.invokevirtual index) mk (Value.ref b :: As).toArray X₁ hg (hsize.trans hml.symm) (by rw [hb]; exact hdg) hW (X₁.named hnamed) ⟨hf.1, hf.2, hPc (T.setVm vm₁) hT X₁.warmed⟩
  dsimp only [Pt.U, Pt.locs, Pt.cells, Pt.slots] at X' e1 e2 h1 h2 h3 hsteps
  subst h1; subst h2; subst h3
  exact ⟨x, (T.setVm vm₁).calling g' mk' (Value.ref b :: As).toArray, t, U', L, hT, X₁.warmed.alike, X', hL, e1, e2, hq, fun target h => hstep₁ _ fun acts => by rw [doInvoke_state]; exact hsteps.trans h⟩
theorem vt_runS (S : CallFix p m c cc nL s args Ts own) (hM : vt_Met l y ws rm Pc Qx mc ms free) (cw : CallB R s args own index y bytes maxL ret ws rm mc ms n ∧ (Cond.static y).before args s = true) (hp : PreS s H Pc As)
    (hg : g.method = m) (hn : As.length = n) (hsize : g.locals.size = nL) (hstack : g.stack = As.reverse ++ rest) (hW : 2 * g.monitorRoom + (rest.map fun v => v.category).sum ≤ 8) (hdg : decode cc g.pc = .ok (.invokestatic index, 3)) (hf : cells + mc ≤ R.cells ∧ slots + ms ≤ R.slots) :
    vt_Run p l e R s m args below meth c H locs cells slots mc ms g rest (Qx As.toArray) free := by
  have hK : vt_Back l R p e below s args y 3 8 (PreOf R mc ms Pc) (vt_PostOf Qx mc ms free) := vt_callBack cw.1 hM hp.1
  obtain ⟨⟨-, -, -, -, -, -, hcode, hinit, hy, hlen, hlink⟩, hstat⟩ := cw
  obtain ⟨hexec, hb, hml, hown, -⟩ := S
  intro T hT X
  obtain ⟨mk, hnamed⟩ := Cond.code_named hcode
  obtain ⟨methM, cM, hmethM, -, -, -, -, -, -, hsigM⟩ := Cond.code_spec hnamed hcode
  have hstatic : methM.isStatic = true := Cond.static_spec hnamed hmethM hstat
  obtain ⟨kP, hkP, -⟩ := className_of_methodNamed hnamed
  have hinitP : kP.init = .initialized := Cond.initialized_spec (findClass_of_methodNamed hnamed) hkP hinit
  obtain ⟨vm₁, X₁, hstep₁⟩ := X.invokestatic hexec hown hlink hnamed hmethM hstatic hkP hinitP hy (g := g) hg (argsL := As) (rest := rest) (hn.trans (hlen _ hsigM)) hstack (by rw [hb]; exact hdg)
  obtain ⟨x, ⟨U', l2, c2, s2⟩, X', ⟨g', mk', t, L, e1, e2, hq, h1, hL, h2, h3⟩, hsteps⟩ := hK m meth c ⟨T.setVm vm₁, locs, cells, slots⟩ { g with stack := rest } (.invokestatic index) mk As.toArray X₁ hg (hsize.trans hml.symm) (by rw [hb]; exact hdg) hW (X₁.named hnamed) ⟨hf.1, hf.2, hp.2 (T.setVm vm₁) hT X₁.warmed⟩
  dsimp only [Pt.U, Pt.locs, Pt.cells, Pt.slots] at X' e1 e2 h1 h2 h3 hsteps
  subst h1; subst h2; subst h3
  exact ⟨x, (T.setVm vm₁).calling g' mk' As.toArray, t, U', L, hT, X₁.warmed.alike, X', hL, e1, e2, hq, fun target h => hstep₁ _ fun acts => by rw [doInvoke_state]; exact hsteps.trans h⟩
end VT3
section VT4
variable {p : Program} {l : Launch} {e : Env} {R : Room} {s : State} {m : MethodId} {args : Array Value} {below : List Frame} {meth : Method} {c : Code} {H : Heap} {locs : List Loc} {cells slots : Nat} {Q : State → Prop}
variable {pc : Nat} {ls : Array Slot} {rest st0 : List Value} {a : Array Value} {A0 A1 : Nat → Prop} {H0 : Heap} {mc ms : Nat} {free : Addr → Prop} {cls : String}
theorem vt_grow {A0 A1 : Nat → Prop} {H0 H H1 : Heap} {locs L : List Loc} {free : Addr → Prop} (hS : va_S A0 H0 H locs) (hA : ∀ q, q < H.size → A1 q → A0 q) (hf : ∀ q, free q → A0 q) (hL : ∀ q ∈ L, free q.base) (hz : H.size ≤ H1.size) (hk : ∀ q : Nat, q < H.size → ¬ A1 q → H1[q]? = H[q]?) : va_S A0 H0 H1 (locs ++ L) := by
  refine ⟨Nat.le_trans hS.1 hz, fun q h1 h2 => ?_, fun q hq => ?_⟩
  · rw [hk q (Nat.lt_of_lt_of_le h1 hS.1) (fun z => h2 (hA q (Nat.lt_of_lt_of_le h1 hS.1) z))]
    exact hS.2.1 q h1 h2
  · rcases List.mem_append.mp hq with h | h
    · exact hS.2.2 q h
    · exact hf _ (hL q h)
/-- a callee's throw goes out of a method without handlers -/
theorem vt_out (hr : vt_Run p l e R s m args below meth c H locs cells slots mc ms (F0 m pc ls st0) rest (vt_Q cls A1 a) free) (hS : va_S A0 s.heap H locs) (hA : ∀ q, q < H.size → A1 q → A0 q) (hf : ∀ q, free q → A0 q) (hne : c.exceptionTable.isEmpty = true) (hlocks : meth.locks = false) :
    W p l e R s m args below meth c H locs cells slots (vt_MQ below (vt_Q cls A0) args s (cells + mc) (slots + ms) A0) (F0 m pc ls st0) := by
  intro T hT X
  obtain ⟨x, st₀, t, T', L, h0, hal, X', hL, e1, e2, ⟨⟨cell, k1, k2, k3⟩, hz, hk⟩, st⟩ := hr T hT X
  rw [h0] at hz hk
  have hS1 : va_S A0 s.heap T'.heap (locs ++ L) := vt_grow hS hA hf hL (by rw [e1]; exact hz) (fun q h1 h2 => by rw [e1]; exact hk q h1 h2)
  obtain ⟨hw, hrun, hend, hW, hsame⟩ := X'.leaveThrown x (g := { F0 m pc ls st0 with stack := rest }) rfl rfl rfl (covers_of_empty hne _) hlocks
  refine ⟨_, st _ hw, x, hrun, hend, ⟨⟨cell, ?_, k2, ?_⟩, ?_⟩, hW, locs ++ L, hsame, hS1.2.2⟩
  · show T'.heap[x]? = some cell
    rw [e1]; exact k1
  · rw [← hal.findClass]; exact k3
  · exact ⟨hS1.1, hS1.2.1⟩
/-- a callee's throw comes into the first row of the method's own table -/
theorem vt_catch (hr : vt_Run p l e R s m args below meth c H locs cells slots mc ms (F0 m pc ls st0) rest (vt_Q cls A1 a) free) (hS : va_S A0 H0 H locs) (hA : ∀ q, q < H.size → A1 q → A0 q) (hf : ∀ q, free q → A0 q)
    {own name : String} (hown : s.vm.findClass own = some m.cls) {x0 x1 hpc ct : Nat} {hs : List (Nat × Nat × Nat × Nat)} (htab : c.exceptionTable.toList.map (fun h => (h.startPc, h.endPc, h.handlerPc, h.catchType)) = (x0, x1, hpc, ct) :: hs)
    (hcov : (decide (x0 ≤ pc) && decide (pc < x1)) = true) (hct : ct ≠ 0) (hlink : (Cond.classLink own ct name).before args s = true) (hcast : (Cond.castable cls name).before args s = true)
    (kk : ∀ (q : Nat) (H1 : Heap) (locs1 : List Loc), H.size ≤ H1.size → (∀ z : Nat, z < H.size → ¬ A1 z → H1[z]? = H[z]?) → va_S A0 H0 H1 locs1 → W p l e R s m args below meth c H1 locs1 (cells + mc) (slots + ms) Q (F0 m hpc ls [.ref q])) :
    W p l e R s m args below meth c H locs cells slots Q (F0 m pc ls st0) := by
  intro T hT X
  obtain ⟨x, st₀, t, T', L, h0, hal, X', hL, e1, e2, ⟨⟨cell, k1, k2, k3⟩, hz, hk⟩, st⟩ := hr T hT X
  rw [h0] at hz hk
  have hz' : H.size ≤ T'.heap.size := by rw [e1]; exact hz
  have hk' : ∀ q : Nat, q < H.size → ¬ A1 q → T'.heap[q]? = H[q]? := fun q h1 h2 => by rw [e1]; exact hk q h1 h2
  have hS1 : va_S A0 H0 T'.heap (locs ++ L) := vt_grow hS hA hf hL hz' hk'
  -- the row of the table
  obtain ⟨row, rows, hsplit, hr0⟩ : ∃ row rows, c.exceptionTable.toList = row :: rows ∧ (row.startPc, row.endPc, row.handlerPc, row.catchType) = (x0, x1, hpc, ct) := by
    cases hE : c.exceptionTable.toList with
    | nil => rw [hE] at htab; cases htab
    | cons row rows => rw [hE] at htab; exact ⟨row, rows, rfl, (List.cons.inj htab).1⟩
  have r1 : row.startPc = x0 := congrArg Prod.fst hr0
  have r2 : row.endPc = x1 := congrArg (fun z => z.2.1) hr0
  have r3 : row.handlerPc = hpc := congrArg (fun z => z.2.2.1) hr0
  have r4 : row.catchType = ct := congrArg (fun z => z.2.2.2) hr0
  -- its class, by the word
  have hpl : e.platform.magicAccessors = ({} : Platform).magicAccessors := by rw [X'.admits.platform]
  obtain ⟨cT, hcT, hcl⟩ := Cond.classLink_spec hown hlink e.platform hpl
  obtain ⟨c3, c4, hc3, hc4, hasg⟩ := Cond.castable_spec hcast
  cases hcT.symm.trans hc4
  have hcx : s.vm.findClass cls = some cell.cls := by rw [← hal.findClass]; exact k3
  cases hcx.symm.trans hc3
  obtain ⟨dk, _, _, kt, hd, _, _, _, _, hkt, _, hopen⟩ := hcl.here
  have hcl' := X'.warmed.classLinks hcl
  have hW' : s.WarmedH (T'.vm.noted m.cls ct (.cls cT)) := X'.warmed.noted hd hopen (State.rightAt_cls hcl)
  have halT := X'.warmed.alike
  obtain ⟨kt', hkt', -⟩ := halT.2.2 _ _ hkt
  have hfit : T'.vm.assignable cell.cls cT = true := by rw [halT.assignable]; exact hasg
  obtain ⟨kx', hkx'⟩ := Vm.classAt_of_assignable hfit ⟨kt', hkt'⟩
  have hcellx : T'.heap[x]? = some cell := by rw [e1]; exact k1
  -- what the search leaves
  have halN : T'.vm.Alike (T'.vm.noted m.cls ct (.cls cT)) := (Vm.Alike.refl T'.vm).noted _ _ _
  obtain ⟨k1', hk1', -⟩ := halN.2.2 _ _ hkx'
  obtain ⟨k2', hk2', -⟩ := halN.2.2 _ _ hkt'
  have hfitN : (T'.vm.noted m.cls ct (.cls cT)).assignable cell.cls cT = true := by rw [halN.assignable]; exact hfit
  have hgo : ∀ (Q' : Handler → Pre) (E : CtlPost) (d : Bool) (acts : List Action), wp (findHandler { F0 m pc ls st0 with stack := rest } x) Q' E e d acts ((T'.setTop { F0 m pc ls st0 with stack := rest }).pushFrame (.throwing x)) ↔ Q' (.found hpc) d acts (((T'.setTop { F0 m pc ls st0 with stack := rest }).pushFrame (.throwing x)).setVm (T'.vm.noted m.cls ct (.cls cT))) := by
    intro Q' E d acts
    rw [W.findHandler_eq (s := (T'.setTop { F0 m pc ls st0 with stack := rest }).pushFrame (.throwing x)) (f := { F0 m pc ls st0 with stack := rest }) (meth := meth) (code := c) X'.method' X'.code, hsplit]
    have hcv : (decide (row.startPc ≤ pc) && decide (pc < row.endPc)) = true := by rw [r1, r2]; exact hcov
    have hob : ∀ k, cell.vm ≠ .statics k := fun k h => by rw [k2] at h; cases h
    have hvS : ((T'.setTop { F0 m pc ls st0 with stack := rest }).pushFrame (.throwing x)).vm = T'.vm := Stand.throwing_vm _ _ _
    have hhS : ((T'.setTop { F0 m pc ls st0 with stack := rest }).pushFrame (.throwing x)).heap = T'.heap := Stand.throwing_heap _ _ _
    generalize (T'.setTop { F0 m pc ls st0 with stack := rest }).pushFrame (.throwing x) = S at hvS hhS ⊢
    rw [← hvS] at hcl' hfitN hk1' hk2' ⊢
    rw [← hhS] at hcellx
    obtain ⟨ha, ht⟩ := (resolveClass_links e.toSetting hcl').op (op := VmOp.resolveClass m.cls ct) rfl
    simp [findHandler.go, hcv, r3, r4, hct, ha, ht, hcellx, hob, hk1', hk2', hfitN, VmOp.dirties, VmOp.acts]
  obtain ⟨t2, a1, b1⟩ := kk x T'.heap (locs ++ L) hz' hk' hS1 (T'.setVm (T'.vm.noted m.cls ct (.cls cT))) rfl (X'.noted hW')
  refine ⟨t2, st t2 ?_, b1⟩
  have hAt : At T' m c below := X'.here
  obtain ⟨hgoes, hwi⟩ := At.throwing (g := { F0 m pc ls st0 with stack := rest }) hAt x
  refine Steps.head hgoes hwi ?_
  rw [stepThread_throwing (frames_entered hAt.top _)]
  have hstep : (stepThrowing e ((T'.setTop { F0 m pc ls st0 with stack := rest }).pushFrame (.throwing x)) x (.java { F0 m pc ls st0 with stack := rest } :: T'.frames.tail)).1 = (T'.setVm (T'.vm.noted m.cls ct (.cls cT))).setTop (F0 m hpc ls [.ref x]) := by
    simp only [stepThrowing, searchFrame, vmDo]
    generalize hres : Sem.go _ e false [] _ = res
    obtain ⟨as, rfl, -⟩ := Sem.eq_ok_of hres (a := Handler.found hpc) (s' := ((T'.setTop { F0 m pc ls st0 with stack := rest }).pushFrame (.throwing x)).setVm (T'.vm.noted m.cls ct (.cls cT))) (acts' := []) (by simp [hgo _ _ _ _])
    obtain ⟨g₀, hg⟩ := Option.isSome_iff_exists.mp hAt.top
    obtain ⟨r, hr⟩ := State.topJava?_eq_some.mp hg
    have hr2 : (T'.setVm (T'.vm.noted m.cls ct (.cls cT))).frames = .java g₀ :: r := hr
    rw [State.setTop_of_frames _ hr2, hr, State.pushFrame, State.setTop_of_frames _ hr]
    show ((((T'.setFrames _).setFrames _).setVm _).setFrames _) = _
    rw [State.setFrames_setFrames]
    show (((T'.setVm _).setFrames _).setFrames _) = _
    rw [State.setFrames_setFrames]
    rfl
  rw [hstep]
  exact a1
end VT4
/-- a static of Throwable, as the making of an exception reads it -/
def vt_Z1 (n d : String) (A : Nat → Prop) (U : State) (H : Heap) : Prop := ∃ (cf : ClassId) (kf : Class) (fi : Nat) (f : Field) (a : Nat) (cell : Cell) (v : Value), U.vm.findClass Bundle.tN = some cf ∧ U.fieldFound? Bundle.tN n d = some (cf, kf, fi, f) ∧ f.isStatic = true ∧ kf.statics = some a ∧ cell.vm.isStatics = true ∧ cell.cls = cf ∧ f.slot < cell.slots.size ∧ kf.staticTypes[f.slot]? = some f.type ∧ cell.slots[f.slot]? = some v ∧ v.isRef = true ∧ H[a]? = some cell ∧ ¬ A a
theorem vt_Z1.moved {n d : String} {A : Nat → Prop} {u U : State} {H : Heap} (hvm : u.vm.Alike U.vm) (h : vt_Z1 n d A u H) : vt_Z1 n d A U H := by
  obtain ⟨cf, kf, fi, f, a, cell, v, h1, h2, h3, h4, h5, h6, h7, h8, h9⟩ := h
  obtain ⟨k', hi', he⟩ := State.fieldFound?_setVm hvm h2
  exact ⟨cf, k', fi, f, a, cell, v, by rw [hvm.findClass]; exact h1, hi', h3, by rw [he]; exact h4, h5, h6, h7, by rw [he]; exact h8, h9⟩
theorem vt_Z1.kept {n d : String} {A : Nat → Prop} {U : State} {H H1 : Heap} (h : vt_Z1 n d A U H) (hq : ∀ a : Nat, a < H.size → ¬ A a → H1[a]? = H[a]?) : vt_Z1 n d A U H1 := by
  obtain ⟨cf, kf, fi, f, a, cell, v, h1, h2, h3, h4, h5, h6, h7, h8, h9, h10, h11, h12⟩ := h
  exact ⟨cf, kf, fi, f, a, cell, v, h1, h2, h3, h4, h5, h6, h7, h8, h9, h10, by rw [hq a (Array.getElem?_eq_some_iff.mp h11).1 h12]; exact h11, h12⟩
theorem vt_Z1.narrow {n d : String} {A B : Nat → Prop} {U : State} {H : Heap} (h : vt_Z1 n d A U H) (hAB : ∀ q, q < H.size → B q → A q) : vt_Z1 n d B U H := by
  obtain ⟨cf, kf, fi, f, a, cell, v, h1, h2, h3, h4, h5, h6, h7, h8, h9, h10, h11, h12⟩ := h
  exact ⟨cf, kf, fi, f, a, cell, v, h1, h2, h3, h4, h5, h6, h7, h8, h9, h10, h11, fun z => h12 (hAB a (Array.getElem?_eq_some_iff.mp h11).1 z)⟩
theorem vt_Z1.of {args : Array Value} {s : State} {n d : String} {A : Nat → Prop} (hl : (Cond.laysStatic Bundle.tN n d).before args s = true) (hr : (Cond.isRef (.static Bundle.tN n d)).before args s = true) (hA : ∀ a : Nat, a < s.heap.size → ¬ A a) : vt_Z1 n d A s s.heap := by
  obtain ⟨c, k, i, f, a, cell, hc, hi, hst, ha, hcell, hs, hcls, hlt, hty⟩ := Cond.laysStatic_spec hl
  have hsl : cell.slots[f.slot]? = some cell.slots[f.slot] := Array.getElem?_eq_getElem hlt
  generalize cell.slots[f.slot] = w at hsl
  refine ⟨c, k, i, f, a, cell, w, hc, hi, hst, ha, hs, hcls, hlt, hty, hsl, ?_, hcell, hA a (Array.getElem?_eq_some_iff.mp hcell).1⟩
  have hv : (Term.static Bundle.tN n d).eval args s none [] s = some w := by simp [Term.eval, State.fieldNamed?, hi, hst, ha, hcell, hs, hsl]
  simp only [Cond.before, Cond.holds, Cond.value, hv] at hr
  cases w <;> simp_all [Value.isRef]
theorem vt_Z1.lays {args : Array Value} {U : State} {n d : String} {A : Nat → Prop} (h : vt_Z1 n d A U U.heap) : (Cond.laysStatic Bundle.tN n d).before args U = true := by
  obtain ⟨cf, kf, fi, f, a, cell, v, h1, h2, h3, h4, h5, h6, h7, h8, h9, h10, h11, h12⟩ := h
  simp [Cond.before, Cond.holds, Cond.value, h1, h2, h3, h4, h5, h6, h7, h8, h11]
theorem vt_Z1.isRef {args : Array Value} {U : State} {n d : String} {A : Nat → Prop} (h : vt_Z1 n d A U U.heap) : (Cond.isRef (.static Bundle.tN n d)).before args U = true := by
  obtain ⟨cf, kf, fi, f, a, cell, v, h1, h2, h3, h4, h5, h6, h7, h8, h9, h10, h11, h12⟩ := h
  have hv : (Term.static Bundle.tN n d).eval args U none [] U = some v := by simp [Term.eval, State.fieldNamed?, h2, h3, h4, h11, h5, h9]
  simp only [Cond.before, Cond.holds, Cond.value, hv]
  cases v <;> simp_all [Value.isRef]
/-- words of the tables alone, as they hold in a state -/
def vt_J (L : List Cond) (U : State) : Prop := ∀ w ∈ L, w.before #[] U = true
theorem vt_word {w : Cond} (ho : w.onTables = true) (hf : w.keepsFace = true) {a a' : Array Value} {s U : State} (hW : s.WarmedH U.vm) (h : w.before a s = true) : w.before a' U = true := by
  have h1 : w.before a (s.setVm U.vm) = true := Cond.before_shiftedFace (State.Shifted.of_warmed hW) _ hf h
  have h2 := Cond.onTables_vm (A := a) (A' := a') (U := s) (U' := U) U.vm w ho
  rw [h2, State.setVm_self] at h1
  exact h1
theorem vt_J.warm {L : List Cond} (hL : L.all (fun w => w.onTables && w.keepsFace) = true) {s U : State} (hW : s.WarmedH U.vm) (h : vt_J L s) : vt_J L U := fun w hw => by
  have h1 := List.all_eq_true.mp hL w hw
  rw [Bool.and_eq_true] at h1
  exact vt_word h1.1 h1.2 hW (h w hw)
theorem vt_J.same {L : List Cond} (hL : L.all (fun w => w.onTables && w.keepsFace) = true) {s U : State} (hv : U.vm = s.vm) (h : vt_J L s) : vt_J L U := fun w hw => by
  have h1 := List.all_eq_true.mp hL w hw
  rw [Bool.and_eq_true] at h1
  have h2 := Cond.onTables_vm (A := #[]) (A' := #[]) (U := s) (U' := U) s.vm w h1.1
  rw [State.setVm_self, ← hv, State.setVm_self] at h2
  rw [← h2]
  exact h w hw
/-- what an exception's making asks: the words of the tables; the two statics -/
def vt_four : List Cond := [.laysStatic Bundle.tN "UNASSIGNED_STACK" Bundle.steD, .laysStatic Bundle.tN "SUPPRESSED_SENTINEL" Bundle.listD, .isRef (.static Bundle.tN "UNASSIGNED_STACK" Bundle.steD), .isRef (.static Bundle.tN "SUPPRESSED_SENTINEL" Bundle.listD)]
def vt_own (own : String) (ic : Nat) (cls : String) (names : List String) : List Cond := (Bundle.ownAtoms own ic cls names).filter (fun w => w.onTables)
def vt_ZZ (A : Nat → Prop) (U : State) (H : Heap) : Prop := vt_Z1 "UNASSIGNED_STACK" Bundle.steD A U H ∧ vt_Z1 "SUPPRESSED_SENTINEL" Bundle.listD A U H
theorem vt_ZZ.moved {A : Nat → Prop} {u U : State} {H : Heap} (hvm : u.vm.Alike U.vm) (h : vt_ZZ A u H) : vt_ZZ A U H := ⟨h.1.moved hvm, h.2.moved hvm⟩
theorem vt_ZZ.kept {A : Nat → Prop} {U : State} {H H1 : Heap} (h : vt_ZZ A U H) (hq : ∀ a : Nat, a < H.size → ¬ A a → H1[a]? = H[a]?) : vt_ZZ A U H1 := ⟨h.1.kept hq, h.2.kept hq⟩
theorem vt_ZZ.narrow {A B : Nat → Prop} {U : State} {H : Heap} (h : vt_ZZ A U H) (hAB : ∀ q, q < H.size → B q → A q) : vt_ZZ B U H := ⟨h.1.narrow hAB, h.2.narrow hAB⟩
theorem vt_atoms {own cls : String} {ic : Nat} {names : List String} (hd : (Bundle.ownAtoms own ic cls names).all (fun w => w.onTables || decide (w ∈ vt_four)) = true) {A : Nat → Prop} {args : Array Value} {U : State} (hJ : vt_J (vt_own own ic cls names) U) (hZ : vt_ZZ A U U.heap) : ∀ w ∈ Bundle.ownAtoms own ic cls names, w.before args U = true := by
  intro w hw
  by_cases ho : w.onTables = true
  · have h1 := hJ w (List.mem_filter.mpr ⟨hw, ho⟩)
    have h2 := Cond.onTables_vm (A := #[]) (A' := args) (U := U) (U' := U) U.vm w ho
    rw [State.setVm_self] at h2
    rw [← h2]
    exact h1
  · have h1 := List.all_eq_true.mp hd w hw
    simp only [Bool.not_eq_true] at ho
    rw [ho, Bool.false_or, decide_eq_true_eq] at h1
    simp only [vt_four, List.mem_cons, List.not_mem_nil, or_false] at h1
    rcases h1 with rfl | rfl | rfl | rfl
    · exact hZ.1.lays
    · exact hZ.2.lays
    · exact hZ.1.isRef
    · exact hZ.2.isRef
/-- cells of a world are no cells of statics -/
theorem vt_plain {D : va_G} {cl : List vw_C} {ws : va_W} {H : Heap} (hP : va_P D cl ws H) : ∀ q, va_A ws H.size q → ∀ cell : Cell, H[q]? = some cell → cell.vm.isStatics = false := by
  intro q hq cell hc
  rcases hq with ⟨k, e, hk⟩ | hq
  · have h := hP k _ hk
    cases e with
    | inl x =>
      have h1 : H[q]? = some (vp_cell x.1 x.2) := h
      rw [hc] at h1
      rw [Option.some.inj h1]
      obtain ⟨i, n, f⟩ := x
      rcases f with f | f | f | f | f <;> rfl
    | inr o =>
      obtain ⟨r, h1, cell', q1, q2, q3, q4⟩ := h
      have h2 : cell = cell' := Option.some.inj (hc.symm.trans q1)
      rw [h2, q3]; rfl
  · exact absurd (Array.getElem?_eq_some_iff.mp hc).1 (Nat.not_lt.mpr hq)
section VT5
variable {p : Program} {l : Launch} {e : Env} {R : Room} {s : State} {m : MethodId} {args : Array Value} {below : List Frame} {meth : Method} {c : Code} {H : Heap} {locs : List Loc} {cells slots : Nat} {Q : State → Prop}
variable {cc : ByteArray} {pc : Nat} {ls : Array Slot} {rest : List Value} {A : Nat → Prop}
/-- from the call of the exception's constructor to the throw's end -/
theorem vt_throwS (hexec : p.tables.exec = Jvm.exec) (hb : c.code = cc) (hl : l.stackTraces = false) {own cls : String} {names : List String} {ic : Nat} (hown : s.vm.findClass own = some m.cls) (hcls : Bundle.fit cls = true) (hnames : ∀ n ∈ names, Bundle.fit n = true)
    (h : ∀ w ∈ Bundle.ownAtoms own ic cls names, w.before args s = true) (hS : va_S A s.heap H locs) (hns : ∀ q, A q → ∀ cell : Cell, s.heap[q]? = some cell → cell.vm.isStatics = false)
    {q qm : Nat} {cX : ClassId} {kX : Class} (hfX : s.vm.findClass cls = some cX) (hkX : s.vm.classes[cX]? = some kX) (hcell : H[q]? = some (freshCell cX kX)) (hnew : s.heap.size ≤ q)
    (hne : c.exceptionTable.isEmpty = true) (hsz : ls.size = c.maxLocals) (hlocks : meth.locks = false) (hd6 : decode cc pc = .ok (.invokespecial ic, 3)) (hd9 : decode cc (pc + 3) = .ok (.athrow, 1))
    (hRf : names.length + 3 < R.frames) (hRl : 2 * (F0 m pc ls rest).monitorRoom + ((Value.ref q :: rest).map fun v => v.category).sum + (13 * (names.length + 1) + 42) ≤ R.locals) :
    W p l e R s m args below meth c H locs cells slots (vt_MQ below (vt_Q cls A) args s cells slots A) (F0 m pc ls (.ref qm :: .ref q :: .ref q :: rest)) := by
  intro T hT X
  have htr : e.platform.stackTraces = false := by rw [X.admits.platform]; exact hl
  obtain ⟨U, hst, hrun, hend, hW, hsame, ce, hce, K⟩ := X.ctorThrowS hexec htr (own := own) (cls := cls) (names := names) (ic := ic) hown hcls hnames h
    (fun x hx cell hc => hns _ (hS.2.2 x hx) cell hc) hfX hkX (by rw [hT]; exact hcell) hnew (msg := .ref qm) rfl (g := F0 m pc ls (.ref qm :: .ref q :: .ref q :: rest)) rfl hsz rfl rfl (rest := rest) rfl
    (by rw [hb]; exact hd6) (by rw [hb]; exact hd9) (covers_of_empty hne _) hRf hRl hlocks
  exact ⟨U, hst, q, hrun, hend, ⟨⟨ce, hce, K.vm, K.cls⟩, hsame.2.1, fun z h1 h2 => vt_same (t := ({ U with vm := s.vm } : State)) hsame hS.2.2 z h1 h2⟩, hW, locs, hsame, hS.2.2⟩
end VT5
end
section
abbrev y_TM_init : MethodName := ⟨"TaleMachine", "<init>", "()V"⟩
abbrev y_TM_begin : MethodName := ⟨"TaleMachine", "begin", "(II)V"⟩
abbrev y_TM_code : MethodName := ⟨"TaleMachine", "code", "(II)Z"⟩
abbrev y_TM_collect : MethodName := ⟨"TaleMachine", "collect", "()I"⟩
abbrev y_TM_has : MethodName := ⟨"TaleMachine", "has", "(III)I"⟩
abbrev y_TM_isOf : MethodName := ⟨"TaleMachine", "isOf", "(II)Z"⟩
abbrev y_TM_isProperty : MethodName := ⟨"TaleMachine", "isProperty", "(I)Z"⟩
abbrev y_TM_object : MethodName := ⟨"TaleMachine", "object", "(III)I"⟩
abbrev y_TM_part : MethodName := ⟨"TaleMachine", "part", "(LTaleMachine$Values;II)I"⟩
abbrev y_TM_property : MethodName := ⟨"TaleMachine", "property", "(IIII)V"⟩
abbrev y_TM_run : MethodName := ⟨"TaleMachine", "run", "(I)I"⟩
abbrev y_TM_said : MethodName := ⟨"TaleMachine", "said", "(II)I"⟩
abbrev y_TM_show : MethodName := ⟨"TaleMachine", "show", "(I)I"⟩
abbrev y_TM_stack : MethodName := ⟨"TaleMachine", "stack", "(II)I"⟩
abbrev y_TM_stop : MethodName := ⟨"TaleMachine", "stop", "()Z"⟩
abbrev y_Frame_init : MethodName := ⟨"TaleMachine$Frame", "<init>", "()V"⟩
abbrev y_History_init : MethodName := ⟨"TaleMachine$History", "<init>", "()V"⟩
abbrev y_History_bringBack : MethodName := ⟨"TaleMachine$History", "bringBack", "(ILTaleMachine$State;)Z"⟩
abbrev y_History_dropOldest : MethodName := ⟨"TaleMachine$History", "dropOldest", "()V"⟩
abbrev y_History_dropPoints : MethodName := ⟨"TaleMachine$History", "dropPoints", "()V"⟩
abbrev y_History_dropSaved : MethodName := ⟨"TaleMachine$History", "dropSaved", "()V"⟩
abbrev y_History_save : MethodName := ⟨"TaleMachine$History", "save", "(ILTaleMachine$State;)V"⟩
abbrev y_History_setPoint : MethodName := ⟨"TaleMachine$History", "setPoint", "(LTaleMachine$State;)V"⟩
abbrev y_History_undo : MethodName := ⟨"TaleMachine$History", "undo", "(LTaleMachine$State;)Z"⟩
abbrev y_Script_init : MethodName := ⟨"TaleMachine$Script", "<init>", "()V"⟩
abbrev y_Script_address : MethodName := ⟨"TaleMachine$Script", "address", "(I)I"⟩
abbrev y_Script_append : MethodName := ⟨"TaleMachine$Script", "append", "(II)Z"⟩
abbrev y_Script_at : MethodName := ⟨"TaleMachine$Script", "at", "(I)I"⟩
abbrev y_Script_beginning : MethodName := ⟨"TaleMachine$Script", "beginning", "(I)I"⟩
abbrev y_Script_behind : MethodName := ⟨"TaleMachine$Script", "behind", "(II)I"⟩
abbrev y_Script_instruction : MethodName := ⟨"TaleMachine$Script", "instruction", "(I)I"⟩
abbrev y_Script_isMethod : MethodName := ⟨"TaleMachine$Script", "isMethod", "(II)Z"⟩
abbrev y_Script_locals : MethodName := ⟨"TaleMachine$Script", "locals", "(I)I"⟩
abbrev y_Script_number : MethodName := ⟨"TaleMachine$Script", "number", "(I)I"⟩
abbrev y_State_init : MethodName := ⟨"TaleMachine$State", "<init>", "()V"⟩
abbrev y_State_copy : MethodName := ⟨"TaleMachine$State", "copy", "(LTaleMachine$State;)V"⟩
abbrev y_Teller_init : MethodName := ⟨"TaleMachine$Teller", "<init>", "(LTaleMachine$Script;LTaleMachine$World;LTaleMachine$History;)V"⟩
abbrev y_Teller_answer : MethodName := ⟨"TaleMachine$Teller", "answer", "(LTaleMachine$Frame;IIIII)Z"⟩
abbrev y_Teller_ask : MethodName := ⟨"TaleMachine$Teller", "ask", "(LTaleMachine$Frame;II)Z"⟩
abbrev y_Teller_bringBack : MethodName := ⟨"TaleMachine$Teller", "bringBack", "(LTaleMachine$Frame;I)Z"⟩
abbrev y_Teller_calculate : MethodName := ⟨"TaleMachine$Teller", "calculate", "(LTaleMachine$Frame;I)Z"⟩
abbrev y_Teller_canTake : MethodName := ⟨"TaleMachine$Teller", "canTake", "(LTaleMachine$Frame;I)Z"⟩
abbrev y_Teller_end : MethodName := ⟨"TaleMachine$Teller", "end", "(LTaleMachine$Frame;II)Z"⟩
abbrev y_Teller_enter : MethodName := ⟨"TaleMachine$Teller", "enter", "(IIIII)Z"⟩
abbrev y_Teller_finish : MethodName := ⟨"TaleMachine$Teller", "finish", "(III)Z"⟩
abbrev y_Teller_goOn : MethodName := ⟨"TaleMachine$Teller", "goOn", "(LTaleMachine$Frame;)Z"⟩
abbrev y_Teller_goal : MethodName := ⟨"TaleMachine$Teller", "goal", "(LTaleMachine$Frame;)I"⟩
abbrev y_Teller_halt : MethodName := ⟨"TaleMachine$Teller", "halt", "(I)V"⟩
abbrev y_Teller_inherited : MethodName := ⟨"TaleMachine$Teller", "inherited", "(LTaleMachine$Frame;II)Z"⟩
abbrev y_Teller_isFalse : MethodName := ⟨"TaleMachine$Teller", "isFalse", "(I)Z"⟩
abbrev y_Teller_isLocal : MethodName := ⟨"TaleMachine$Teller", "isLocal", "(LTaleMachine$Frame;I)Z"⟩
abbrev y_Teller_isObjectOnTop : MethodName := ⟨"TaleMachine$Teller", "isObjectOnTop", "(LTaleMachine$Frame;)Z"⟩
abbrev y_Teller_jump : MethodName := ⟨"TaleMachine$Teller", "jump", "(LTaleMachine$Frame;I)Z"⟩
abbrev y_Teller_jumpIfFalse : MethodName := ⟨"TaleMachine$Teller", "jumpIfFalse", "(LTaleMachine$Frame;I)Z"⟩
abbrev y_Teller_like : MethodName := ⟨"TaleMachine$Teller", "like", "(LTaleMachine$Frame;)Z"⟩
abbrev y_Teller_make : MethodName := ⟨"TaleMachine$Teller", "make", "(LTaleMachine$Frame;I)Z"⟩
abbrev y_Teller_number : MethodName := ⟨"TaleMachine$Teller", "number", "(III)I"⟩
abbrev y_Teller_perform : MethodName := ⟨"TaleMachine$Teller", "perform", "()Z"⟩
abbrev y_Teller_put : MethodName := ⟨"TaleMachine$Teller", "put", "(LTaleMachine$Frame;II)Z"⟩
abbrev y_Teller_putCopy : MethodName := ⟨"TaleMachine$Teller", "putCopy", "(LTaleMachine$Frame;I)Z"⟩
abbrev y_Teller_putTruthFor : MethodName := ⟨"TaleMachine$Teller", "putTruthFor", "(LTaleMachine$Frame;IZ)Z"⟩
abbrev y_Teller_raise : MethodName := ⟨"TaleMachine$Teller", "raise", "(I)Z"⟩
abbrev y_Teller_reachRoots : MethodName := ⟨"TaleMachine$Teller", "reachRoots", "()V"⟩
abbrev y_Teller_save : MethodName := ⟨"TaleMachine$Teller", "save", "(LTaleMachine$Frame;I)Z"⟩
abbrev y_Teller_setOwn : MethodName := ⟨"TaleMachine$Teller", "setOwn", "(LTaleMachine$Frame;I)Z"⟩
abbrev y_Teller_setPoint : MethodName := ⟨"TaleMachine$Teller", "setPoint", "(LTaleMachine$Frame;)Z"⟩
abbrev y_Teller_start : MethodName := ⟨"TaleMachine$Teller", "start", "(III)V"⟩
abbrev y_Teller_take : MethodName := ⟨"TaleMachine$Teller", "take", "(LTaleMachine$Frame;I)Z"⟩
abbrev y_Teller_takeIntoLocal : MethodName := ⟨"TaleMachine$Teller", "takeIntoLocal", "(LTaleMachine$Frame;I)Z"⟩
abbrev y_Teller_testOf : MethodName := ⟨"TaleMachine$Teller", "testOf", "(LTaleMachine$Frame;I)Z"⟩
abbrev y_Teller_top : MethodName := ⟨"TaleMachine$Teller", "top", "()LTaleMachine$Frame;"⟩
abbrev y_Teller_topInt : MethodName := ⟨"TaleMachine$Teller", "topInt", "()I"⟩
abbrev y_Teller_topKind : MethodName := ⟨"TaleMachine$Teller", "topKind", "()I"⟩
abbrev y_Values_init : MethodName := ⟨"TaleMachine$Values", "<init>", "(I)V"⟩
abbrev y_Values_add : MethodName := ⟨"TaleMachine$Values", "add", "(II)Z"⟩
abbrev y_Values_isFull : MethodName := ⟨"TaleMachine$Values", "isFull", "()Z"⟩
abbrev y_World_init : MethodName := ⟨"TaleMachine$World", "<init>", "()V"⟩
abbrev y_World_clearOwn : MethodName := ⟨"TaleMachine$World", "clearOwn", "(I)V"⟩
abbrev y_World_count : MethodName := ⟨"TaleMachine$World", "count", "()I"⟩
abbrev y_World_descends : MethodName := ⟨"TaleMachine$World", "descends", "(II)Z"⟩
abbrev y_World_fix : MethodName := ⟨"TaleMachine$World", "fix", "(IIII)I"⟩
abbrev y_World_forgetReached : MethodName := ⟨"TaleMachine$World", "forgetReached", "()V"⟩
abbrev y_World_gather : MethodName := ⟨"TaleMachine$World", "gather", "(II)I"⟩
abbrev y_World_holder : MethodName := ⟨"TaleMachine$World", "holder", "(II)I"⟩
abbrev y_World_holderBehind : MethodName := ⟨"TaleMachine$World", "holderBehind", "(III)I"⟩
abbrev y_World_holderFrom : MethodName := ⟨"TaleMachine$World", "holderFrom", "(II)I"⟩
abbrev y_World_inLine : MethodName := ⟨"TaleMachine$World", "inLine", "(I)I"⟩
abbrev y_World_isFixed : MethodName := ⟨"TaleMachine$World", "isFixed", "(I)Z"⟩
abbrev y_World_isThere : MethodName := ⟨"TaleMachine$World", "isThere", "(I)Z"⟩
abbrev y_World_lay : MethodName := ⟨"TaleMachine$World", "lay", "(I)V"⟩
abbrev y_World_make : MethodName := ⟨"TaleMachine$World", "make", "(I)I"⟩
abbrev y_World_ownInt : MethodName := ⟨"TaleMachine$World", "ownInt", "(II)I"⟩
abbrev y_World_ownKind : MethodName := ⟨"TaleMachine$World", "ownKind", "(II)I"⟩
abbrev y_World_reach : MethodName := ⟨"TaleMachine$World", "reach", "(I)V"⟩
abbrev y_World_reachFrom : MethodName := ⟨"TaleMachine$World", "reachFrom", "(I)V"⟩
abbrev y_World_reachValue : MethodName := ⟨"TaleMachine$World", "reachValue", "(II)V"⟩
abbrev y_World_setOwn : MethodName := ⟨"TaleMachine$World", "setOwn", "(IIII)V"⟩
abbrev y_World_sweep : MethodName := ⟨"TaleMachine$World", "sweep", "()I"⟩
abbrev y_Law_begin : MethodName := ⟨"TaleMachineLaw", "begin", "(LTaleMachine;II)I"⟩
abbrev y_Law_has : MethodName := ⟨"TaleMachineLaw", "has", "(LTaleMachine;III[J)I"⟩
abbrev y_Law_object : MethodName := ⟨"TaleMachineLaw", "object", "(LTaleMachine;III[J)I"⟩
abbrev y_Law_property : MethodName := ⟨"TaleMachineLaw", "property", "(LTaleMachine;IIII)I"⟩
abbrev y_Law_said : MethodName := ⟨"TaleMachineLaw", "said", "(LTaleMachine;II[J)I"⟩
abbrev y_Law_show : MethodName := ⟨"TaleMachineLaw", "show", "(LTaleMachine;I[J)I"⟩
abbrev y_Law_stack : MethodName := ⟨"TaleMachineLaw", "stack", "(LTaleMachine;II[J)I"⟩
abbrev y_Model_init : MethodName := ⟨"TaleMachineModel", "<init>", "()V"⟩
abbrev y_Model_ask : MethodName := ⟨"TaleMachineModel", "ask", "(IIIII)Z"⟩
abbrev y_Model_assign : MethodName := ⟨"TaleMachineModel", "assign", "(I)Z"⟩
abbrev y_Model_at : MethodName := ⟨"TaleMachineModel", "at", "(I)I"⟩
abbrev y_Model_begin : MethodName := ⟨"TaleMachineModel", "begin", "(II)V"⟩
abbrev y_Model_belongs : MethodName := ⟨"TaleMachineModel", "belongs", "(II)Z"⟩
abbrev y_Model_call : MethodName := ⟨"TaleMachineModel", "call", "(IIIII)Z"⟩
abbrev y_Model_code : MethodName := ⟨"TaleMachineModel", "code", "(II)Z"⟩
abbrev y_Model_collect : MethodName := ⟨"TaleMachineModel", "collect", "()I"⟩
abbrev y_Model_copy : MethodName := ⟨"TaleMachineModel", "copy", "(II)V"⟩
abbrev y_Model_empty : MethodName := ⟨"TaleMachineModel", "empty", "(I)V"⟩
abbrev y_Model_end : MethodName := ⟨"TaleMachineModel", "end", "(II)Z"⟩
abbrev y_Model_enter : MethodName := ⟨"TaleMachineModel", "enter", "(IIII)V"⟩
abbrev y_Model_findLine : MethodName := ⟨"TaleMachineModel", "findLine", "(I)V"⟩
abbrev y_Model_give : MethodName := ⟨"TaleMachineModel", "give", "(IIII)V"⟩
abbrev y_Model_going : MethodName := ⟨"TaleMachineModel", "going", "(III)Z"⟩
abbrev y_Model_handler : MethodName := ⟨"TaleMachineModel", "handler", "(II)I"⟩
abbrev y_Model_has : MethodName := ⟨"TaleMachineModel", "has", "(III)I"⟩
abbrev y_Model_hasOwn : MethodName := ⟨"TaleMachineModel", "hasOwn", "(II)Z"⟩
abbrev y_Model_isFalse : MethodName := ⟨"TaleMachineModel", "isFalse", "(I)Z"⟩
abbrev y_Model_isObject : MethodName := ⟨"TaleMachineModel", "isObject", "(I)Z"⟩
abbrev y_Model_isOf : MethodName := ⟨"TaleMachineModel", "isOf", "(II)Z"⟩
abbrev y_Model_isParent : MethodName := ⟨"TaleMachineModel", "isParent", "(I)Z"⟩
abbrev y_Model_isThere : MethodName := ⟨"TaleMachineModel", "isThere", "(I)Z"⟩
abbrev y_Model_lengthOf : MethodName := ⟨"TaleMachineModel", "lengthOf", "(I)I"⟩
abbrev y_Model_make : MethodName := ⟨"TaleMachineModel", "make", "(I)Z"⟩
abbrev y_Model_mark : MethodName := ⟨"TaleMachineModel", "mark", "(III)I"⟩
abbrev y_Model_object : MethodName := ⟨"TaleMachineModel", "object", "(III)I"⟩
abbrev y_Model_one : MethodName := ⟨"TaleMachineModel", "one", "()Z"⟩
abbrev y_Model_outside : MethodName := ⟨"TaleMachineModel", "outside", "(III)Z"⟩
abbrev y_Model_over : MethodName := ⟨"TaleMachineModel", "over", "(I)I"⟩
abbrev y_Model_owner : MethodName := ⟨"TaleMachineModel", "owner", "(III)I"⟩
abbrev y_Model_parent : MethodName := ⟨"TaleMachineModel", "parent", "(II)I"⟩
abbrev y_Model_parents : MethodName := ⟨"TaleMachineModel", "parents", "(I)I"⟩
abbrev y_Model_placeOf : MethodName := ⟨"TaleMachineModel", "placeOf", "(II)I"⟩
abbrev y_Model_point : MethodName := ⟨"TaleMachineModel", "point", "()Z"⟩
abbrev y_Model_property : MethodName := ⟨"TaleMachineModel", "property", "(IIII)V"⟩
abbrev y_Model_push : MethodName := ⟨"TaleMachineModel", "push", "(II)V"⟩
abbrev y_Model_putting : MethodName := ⟨"TaleMachineModel", "putting", "(III)Z"⟩
abbrev y_Model_reckoning : MethodName := ⟨"TaleMachineModel", "reckoning", "(I)Z"⟩
abbrev y_Model_refuse : MethodName := ⟨"TaleMachineModel", "refuse", "(I)I"⟩
abbrev y_Model_run : MethodName := ⟨"TaleMachineModel", "run", "(I)I"⟩
abbrev y_Model_said : MethodName := ⟨"TaleMachineModel", "said", "(II)I"⟩
abbrev y_Model_show : MethodName := ⟨"TaleMachineModel", "show", "(I)I"⟩
abbrev y_Model_signed : MethodName := ⟨"TaleMachineModel", "signed", "(I)I"⟩
abbrev y_Model_sound : MethodName := ⟨"TaleMachineModel", "sound", "(II)Z"⟩
abbrev y_Model_spread : MethodName := ⟨"TaleMachineModel", "spread", "(I)I"⟩
abbrev y_Model_stack : MethodName := ⟨"TaleMachineModel", "stack", "(II)I"⟩
abbrev y_Model_stop : MethodName := ⟨"TaleMachineModel", "stop", "()Z"⟩
abbrev y_Model_taken : MethodName := ⟨"TaleMachineModel", "taken", "()I"⟩
abbrev y_Model_thrown : MethodName := ⟨"TaleMachineModel", "thrown", "()I"⟩
abbrev y_Model_toss : MethodName := ⟨"TaleMachineModel", "toss", "(I)Z"⟩
abbrev y_Model_truth : MethodName := ⟨"TaleMachineModel", "truth", "(Z)Z"⟩
abbrev y_Model_two : MethodName := ⟨"TaleMachineModel", "two", "(I)I"⟩
abbrev y_Model_world : MethodName := ⟨"TaleMachineModel", "world", "(II)Z"⟩
abbrev y_Arrays_fill : MethodName := ⟨"java/util/Arrays", "fill", "([II)V"⟩
def F_Frame : u_T := fun k => match k with
  | 0 => ("TaleMachine$Frame", "method", "I", false)
  | 1 => ("TaleMachine$Frame", "beginning", "I", false)
  | 2 => ("TaleMachine$Frame", "self", "I", false)
  | 3 => ("TaleMachine$Frame", "found", "I", false)
  | 4 => ("TaleMachine$Frame", "place", "I", false)
  | 5 => ("TaleMachine$Frame", "behind", "I", false)
  | 6 => ("TaleMachine$Frame", "base", "I", false)
  | _ => ("TaleMachine$Frame", "floor", "I", false)
def t_Frame : Nat → FieldType := fun k => match k with
  | 0 => .int
  | 1 => .int
  | 2 => .int
  | 3 => .int
  | 4 => .int
  | 5 => .int
  | 6 => .int
  | _ => .int
theorem n_Frame : ∀ a, a < 8 → ∀ b, b < 8 → a ≠ b → (F_Frame a).2.1 ≠ (F_Frame b).2.1 := by decide +kernel
theorem t_Frame_ok : ∀ k, k < 8 → parseFieldDescriptor (F_Frame k).2.2.1 = some (t_Frame k) := by decide +kernel
theorem dv_Frame : ∀ j, j < 8 → defaultValue (t_Frame j) = vp_V [.int 0, .int 0, .int 0, .int 0, .int 0, .int 0, .int 0, .int 0] j := by decide +kernel
def F_History : u_T := fun k => match k with
  | 0 => ("TaleMachine$History", "pointed", "[LTaleMachine$State;", true)
  | 1 => ("TaleMachine$History", "saved", "[LTaleMachine$State;", true)
  | 2 => ("TaleMachine$History", "isSaved", "[Z", true)
  | _ => ("TaleMachine$History", "points", "I", false)
def t_History : Nat → FieldType := fun k => match k with
  | 0 => .array (.object "TaleMachine$State")
  | 1 => .array (.object "TaleMachine$State")
  | 2 => .array .boolean
  | _ => .int
theorem n_History : ∀ a, a < 4 → ∀ b, b < 4 → a ≠ b → (F_History a).2.1 ≠ (F_History b).2.1 := by decide +kernel
theorem t_History_ok : ∀ k, k < 4 → parseFieldDescriptor (F_History k).2.2.1 = some (t_History k) := by decide +kernel
theorem dv_History : ∀ j, j < 4 → defaultValue (t_History j) = vp_V [.null, .null, .null, .int 0] j := by decide +kernel
def F_Script : u_T := fun k => match k with
  | 0 => ("TaleMachine$Script", "bytes", "[I", true)
  | _ => ("TaleMachine$Script", "length", "I", false)
def t_Script : Nat → FieldType := fun k => match k with
  | 0 => .array .int
  | _ => .int
theorem n_Script : ∀ a, a < 2 → ∀ b, b < 2 → a ≠ b → (F_Script a).2.1 ≠ (F_Script b).2.1 := by decide +kernel
theorem t_Script_ok : ∀ k, k < 2 → parseFieldDescriptor (F_Script k).2.2.1 = some (t_Script k) := by decide +kernel
theorem dv_Script : ∀ j, j < 2 → defaultValue (t_Script j) = vp_V [.null, .int 0] j := by decide +kernel
def F_State : u_T := fun k => match k with
  | 0 => ("TaleMachine$State", "kinds", "[I", true)
  | 1 => ("TaleMachine$State", "ints", "[I", true)
  | _ => ("TaleMachine$State", "parents", "[I", true)
def t_State : Nat → FieldType := fun k => match k with
  | 0 => .array .int
  | 1 => .array .int
  | _ => .array .int
theorem n_State : ∀ a, a < 3 → ∀ b, b < 3 → a ≠ b → (F_State a).2.1 ≠ (F_State b).2.1 := by decide +kernel
theorem t_State_ok : ∀ k, k < 3 → parseFieldDescriptor (F_State k).2.2.1 = some (t_State k) := by decide +kernel
theorem dv_State : ∀ j, j < 3 → defaultValue (t_State j) = vp_V [.null, .null, .null] j := by decide +kernel
def F_Teller : u_T := fun k => match k with
  | 0 => ("TaleMachine$Teller", "script", "LTaleMachine$Script;", true)
  | 1 => ("TaleMachine$Teller", "world", "LTaleMachine$World;", true)
  | 2 => ("TaleMachine$Teller", "history", "LTaleMachine$History;", true)
  | 3 => ("TaleMachine$Teller", "frames", "[LTaleMachine$Frame;", true)
  | 4 => ("TaleMachine$Teller", "values", "LTaleMachine$Values;", true)
  | 5 => ("TaleMachine$Teller", "sayings", "LTaleMachine$Values;", true)
  | 6 => ("TaleMachine$Teller", "result", "LTaleMachine$Values;", true)
  | 7 => ("TaleMachine$Teller", "depth", "I", false)
  | _ => ("TaleMachine$Teller", "outcome", "I", false)
def t_Teller : Nat → FieldType := fun k => match k with
  | 0 => .object "TaleMachine$Script"
  | 1 => .object "TaleMachine$World"
  | 2 => .object "TaleMachine$History"
  | 3 => .array (.object "TaleMachine$Frame")
  | 4 => .object "TaleMachine$Values"
  | 5 => .object "TaleMachine$Values"
  | 6 => .object "TaleMachine$Values"
  | 7 => .int
  | _ => .int
theorem n_Teller : ∀ a, a < 9 → ∀ b, b < 9 → a ≠ b → (F_Teller a).2.1 ≠ (F_Teller b).2.1 := by decide +kernel
theorem t_Teller_ok : ∀ k, k < 9 → parseFieldDescriptor (F_Teller k).2.2.1 = some (t_Teller k) := by decide +kernel
theorem dv_Teller : ∀ j, j < 9 → defaultValue (t_Teller j) = vp_V [.null, .null, .null, .null, .null, .null, .null, .int 0, .int 0] j := by decide +kernel
def F_Values : u_T := fun k => match k with
  | 0 => ("TaleMachine$Values", "kinds", "[I", true)
  | 1 => ("TaleMachine$Values", "ints", "[I", true)
  | _ => ("TaleMachine$Values", "count", "I", false)
def t_Values : Nat → FieldType := fun k => match k with
  | 0 => .array .int
  | 1 => .array .int
  | _ => .int
theorem n_Values : ∀ a, a < 3 → ∀ b, b < 3 → a ≠ b → (F_Values a).2.1 ≠ (F_Values b).2.1 := by decide +kernel
theorem t_Values_ok : ∀ k, k < 3 → parseFieldDescriptor (F_Values k).2.2.1 = some (t_Values k) := by decide +kernel
theorem dv_Values : ∀ j, j < 3 → defaultValue (t_Values j) = vp_V [.null, .null, .int 0] j := by decide +kernel
def F_World : u_T := fun k => match k with
  | 0 => ("TaleMachine$World", "now", "LTaleMachine$State;", true)
  | 1 => ("TaleMachine$World", "fixed", "I", false)
  | 2 => ("TaleMachine$World", "fixedLines", "[I", true)
  | 3 => ("TaleMachine$World", "fixedLengths", "[I", true)
  | 4 => ("TaleMachine$World", "line", "[I", true)
  | 5 => ("TaleMachine$World", "length", "I", false)
  | 6 => ("TaleMachine$World", "reached", "[I", true)
  | 7 => ("TaleMachine$World", "reachedCount", "I", false)
  | _ => ("TaleMachine$World", "reachedBits", "I", false)
def t_World : Nat → FieldType := fun k => match k with
  | 0 => .object "TaleMachine$State"
  | 1 => .int
  | 2 => .array .int
  | 3 => .array .int
  | 4 => .array .int
  | 5 => .int
  | 6 => .array .int
  | 7 => .int
  | _ => .int
theorem n_World : ∀ a, a < 9 → ∀ b, b < 9 → a ≠ b → (F_World a).2.1 ≠ (F_World b).2.1 := by decide +kernel
theorem t_World_ok : ∀ k, k < 9 → parseFieldDescriptor (F_World k).2.2.1 = some (t_World k) := by decide +kernel
theorem dv_World : ∀ j, j < 9 → defaultValue (t_World j) = vp_V [.null, .int 0, .null, .null, .null, .int 0, .null, .int 0, .int 0] j := by decide +kernel
def F_TM : u_T := fun k => match k with
  | 0 => ("TaleMachine", "script", "LTaleMachine$Script;", true)
  | 1 => ("TaleMachine", "world", "LTaleMachine$World;", true)
  | 2 => ("TaleMachine", "history", "LTaleMachine$History;", true)
  | _ => ("TaleMachine", "teller", "LTaleMachine$Teller;", true)
def t_TM : Nat → FieldType := fun k => match k with
  | 0 => .object "TaleMachine$Script"
  | 1 => .object "TaleMachine$World"
  | 2 => .object "TaleMachine$History"
  | _ => .object "TaleMachine$Teller"
theorem n_TM : ∀ a, a < 4 → ∀ b, b < 4 → a ≠ b → (F_TM a).2.1 ≠ (F_TM b).2.1 := by decide +kernel
theorem t_TM_ok : ∀ k, k < 4 → parseFieldDescriptor (F_TM k).2.2.1 = some (t_TM k) := by decide +kernel
theorem dv_TM : ∀ j, j < 4 → defaultValue (t_TM j) = vp_V [.null, .null, .null, .null] j := by decide +kernel
def F_Model : u_T := fun k => match k with
  | 0 => ("TaleMachineModel", "code", "I", false)
  | 1 => ("TaleMachineModel", "bytes", "[I", true)
  | 2 => ("TaleMachineModel", "size", "I", false)
  | 3 => ("TaleMachineModel", "w", "[I", true)
  | 4 => ("TaleMachineModel", "fixed", "I", false)
  | 5 => ("TaleMachineModel", "points", "I", false)
  | 6 => ("TaleMachineModel", "saved", "[Z", true)
  | 7 => ("TaleMachineModel", "length", "I", false)
  | 8 => ("TaleMachineModel", "line", "[I", true)
  | 9 => ("TaleMachineModel", "met", "[Z", true)
  | 10 => ("TaleMachineModel", "waiting", "[I", true)
  | 11 => ("TaleMachineModel", "nextParent", "[I", true)
  | 12 => ("TaleMachineModel", "height", "I", false)
  | 13 => ("TaleMachineModel", "kind", "[I", true)
  | 14 => ("TaleMachineModel", "number", "[I", true)
  | 15 => ("TaleMachineModel", "depth", "I", false)
  | 16 => ("TaleMachineModel", "begin", "[I", true)
  | 17 => ("TaleMachineModel", "table", "[I", true)
  | 18 => ("TaleMachineModel", "handlers", "[I", true)
  | 19 => ("TaleMachineModel", "base", "[I", true)
  | 20 => ("TaleMachineModel", "locals", "[I", true)
  | 21 => ("TaleMachineModel", "self", "[I", true)
  | 22 => ("TaleMachineModel", "found", "[I", true)
  | 23 => ("TaleMachineModel", "place", "[I", true)
  | 24 => ("TaleMachineModel", "next", "[I", true)
  | 25 => ("TaleMachineModel", "said", "I", false)
  | 26 => ("TaleMachineModel", "saidKind", "[I", true)
  | 27 => ("TaleMachineModel", "saidNumber", "[I", true)
  | 28 => ("TaleMachineModel", "resultKind", "I", false)
  | 29 => ("TaleMachineModel", "resultNumber", "I", false)
  | _ => ("TaleMachineModel", "ended", "I", false)
def t_Model : Nat → FieldType := fun k => match k with
  | 0 => .int
  | 1 => .array .int
  | 2 => .int
  | 3 => .array .int
  | 4 => .int
  | 5 => .int
  | 6 => .array .boolean
  | 7 => .int
  | 8 => .array .int
  | 9 => .array .boolean
  | 10 => .array .int
  | 11 => .array .int
  | 12 => .int
  | 13 => .array .int
  | 14 => .array .int
  | 15 => .int
  | 16 => .array .int
  | 17 => .array .int
  | 18 => .array .int
  | 19 => .array .int
  | 20 => .array .int
  | 21 => .array .int
  | 22 => .array .int
  | 23 => .array .int
  | 24 => .array .int
  | 25 => .int
  | 26 => .array .int
  | 27 => .array .int
  | 28 => .int
  | 29 => .int
  | _ => .int
theorem n_Model : ∀ a, a < 31 → ∀ b, b < 31 → a ≠ b → (F_Model a).2.1 ≠ (F_Model b).2.1 := by decide +kernel
theorem t_Model_ok : ∀ k, k < 31 → parseFieldDescriptor (F_Model k).2.2.1 = some (t_Model k) := by decide +kernel
theorem dv_Model : ∀ j, j < 31 → defaultValue (t_Model j) = vp_V [.int 0, .null, .int 0, .null, .int 0, .int 0, .null, .int 0, .null, .null, .null, .null, .int 0, .null, .null, .int 0, .null, .null, .null, .null, .null, .null, .null, .null, .null, .int 0, .null, .null, .int 0, .int 0, .int 0] j := by decide +kernel
abbrev cL : List vw_C := [("TaleMachine$Frame", F_Frame, 8), ("TaleMachine$History", F_History, 4), ("TaleMachine$Script", F_Script, 2), ("TaleMachine$State", F_State, 3), ("TaleMachine$Teller", F_Teller, 9), ("TaleMachine$Values", F_Values, 3), ("TaleMachine$World", F_World, 9), ("TaleMachine", F_TM, 4), ("TaleMachineModel", F_Model, 31)]
end
section
def AW_0 : List Cond := [.fieldLink "TaleMachineModel" 75 "TaleMachineModel" "code" "I",
  .methodLink "TaleMachine$Script" 3 objectInit,
  .instanceMethod objectInit,
  .code objectInit object_method_1_code 1 none,
  .arrayClass .int,
  .fieldLink "TaleMachine$Script" 9 "TaleMachine$Script" "bytes" "[I",
  .lays "TaleMachine$Frame" "TaleMachine$Frame" "method" "I",
  .lays "TaleMachine$Frame" "TaleMachine$Frame" "beginning" "I",
  .lays "TaleMachine$Frame" "TaleMachine$Frame" "self" "I",
  .lays "TaleMachine$Frame" "TaleMachine$Frame" "found" "I",
  .lays "TaleMachine$Frame" "TaleMachine$Frame" "place" "I",
  .lays "TaleMachine$Frame" "TaleMachine$Frame" "behind" "I",
  .lays "TaleMachine$Frame" "TaleMachine$Frame" "base" "I",
  .lays "TaleMachine$Frame" "TaleMachine$Frame" "floor" "I",
  .laysFinal "TaleMachine$History" "TaleMachine$History" "pointed" "[LTaleMachine$State;",
  .laysFinal "TaleMachine$History" "TaleMachine$History" "saved" "[LTaleMachine$State;",
  .laysFinal "TaleMachine$History" "TaleMachine$History" "isSaved" "[Z",
  .lays "TaleMachine$History" "TaleMachine$History" "points" "I",
  .laysFinal "TaleMachine$Script" "TaleMachine$Script" "bytes" "[I",
  .lays "TaleMachine$Script" "TaleMachine$Script" "length" "I",
  .laysFinal "TaleMachine$State" "TaleMachine$State" "kinds" "[I",
  .laysFinal "TaleMachine$State" "TaleMachine$State" "ints" "[I",
  .laysFinal "TaleMachine$State" "TaleMachine$State" "parents" "[I",
  .laysFinal "TaleMachine$Teller" "TaleMachine$Teller" "script" "LTaleMachine$Script;",
  .laysFinal "TaleMachine$Teller" "TaleMachine$Teller" "world" "LTaleMachine$World;",
  .laysFinal "TaleMachine$Teller" "TaleMachine$Teller" "history" "LTaleMachine$History;",
  .laysFinal "TaleMachine$Teller" "TaleMachine$Teller" "frames" "[LTaleMachine$Frame;",
  .laysFinal "TaleMachine$Teller" "TaleMachine$Teller" "values" "LTaleMachine$Values;",
  .laysFinal "TaleMachine$Teller" "TaleMachine$Teller" "sayings" "LTaleMachine$Values;",
  .laysFinal "TaleMachine$Teller" "TaleMachine$Teller" "result" "LTaleMachine$Values;",
  .lays "TaleMachine$Teller" "TaleMachine$Teller" "depth" "I",
  .lays "TaleMachine$Teller" "TaleMachine$Teller" "outcome" "I",
  .laysFinal "TaleMachine$Values" "TaleMachine$Values" "kinds" "[I",
  .laysFinal "TaleMachine$Values" "TaleMachine$Values" "ints" "[I",
  .lays "TaleMachine$Values" "TaleMachine$Values" "count" "I",
  .laysFinal "TaleMachine$World" "TaleMachine$World" "now" "LTaleMachine$State;",
  .lays "TaleMachine$World" "TaleMachine$World" "fixed" "I",
  .laysFinal "TaleMachine$World" "TaleMachine$World" "fixedLines" "[I",
  .laysFinal "TaleMachine$World" "TaleMachine$World" "fixedLengths" "[I",
  .laysFinal "TaleMachine$World" "TaleMachine$World" "line" "[I",
  .lays "TaleMachine$World" "TaleMachine$World" "length" "I",
  .laysFinal "TaleMachine$World" "TaleMachine$World" "reached" "[I",
  .lays "TaleMachine$World" "TaleMachine$World" "reachedCount" "I",
  .lays "TaleMachine$World" "TaleMachine$World" "reachedBits" "I",
  .laysFinal "TaleMachine" "TaleMachine" "script" "LTaleMachine$Script;",
  .laysFinal "TaleMachine" "TaleMachine" "world" "LTaleMachine$World;",
  .laysFinal "TaleMachine" "TaleMachine" "history" "LTaleMachine$History;",
  .laysFinal "TaleMachine" "TaleMachine" "teller" "LTaleMachine$Teller;",
  .lays "TaleMachineModel" "TaleMachineModel" "code" "I",
  .laysFinal "TaleMachineModel" "TaleMachineModel" "bytes" "[I",
  .lays "TaleMachineModel" "TaleMachineModel" "size" "I",
  .laysFinal "TaleMachineModel" "TaleMachineModel" "w" "[I",
  .lays "TaleMachineModel" "TaleMachineModel" "fixed" "I",
  .lays "TaleMachineModel" "TaleMachineModel" "points" "I",
  .laysFinal "TaleMachineModel" "TaleMachineModel" "saved" "[Z",
  .lays "TaleMachineModel" "TaleMachineModel" "length" "I",
  .laysFinal "TaleMachineModel" "TaleMachineModel" "line" "[I",
  .laysFinal "TaleMachineModel" "TaleMachineModel" "met" "[Z",
  .laysFinal "TaleMachineModel" "TaleMachineModel" "waiting" "[I",
  .laysFinal "TaleMachineModel" "TaleMachineModel" "nextParent" "[I"]
def AW_1 : List Cond := [.lays "TaleMachineModel" "TaleMachineModel" "height" "I",
  .laysFinal "TaleMachineModel" "TaleMachineModel" "kind" "[I",
  .laysFinal "TaleMachineModel" "TaleMachineModel" "number" "[I",
  .lays "TaleMachineModel" "TaleMachineModel" "depth" "I",
  .laysFinal "TaleMachineModel" "TaleMachineModel" "begin" "[I",
  .laysFinal "TaleMachineModel" "TaleMachineModel" "table" "[I",
  .laysFinal "TaleMachineModel" "TaleMachineModel" "handlers" "[I",
  .laysFinal "TaleMachineModel" "TaleMachineModel" "base" "[I",
  .laysFinal "TaleMachineModel" "TaleMachineModel" "locals" "[I",
  .laysFinal "TaleMachineModel" "TaleMachineModel" "self" "[I",
  .laysFinal "TaleMachineModel" "TaleMachineModel" "found" "[I",
  .laysFinal "TaleMachineModel" "TaleMachineModel" "place" "[I",
  .laysFinal "TaleMachineModel" "TaleMachineModel" "next" "[I",
  .lays "TaleMachineModel" "TaleMachineModel" "said" "I",
  .laysFinal "TaleMachineModel" "TaleMachineModel" "saidKind" "[I",
  .laysFinal "TaleMachineModel" "TaleMachineModel" "saidNumber" "[I",
  .lays "TaleMachineModel" "TaleMachineModel" "resultKind" "I",
  .lays "TaleMachineModel" "TaleMachineModel" "resultNumber" "I",
  .lays "TaleMachineModel" "TaleMachineModel" "ended" "I"]
def AW : List Cond := AW_0 ++ (AW_1)
theorem k_0 : (.fieldLink "TaleMachineModel" 75 "TaleMachineModel" "code" "I" : Cond) ∈ AW := List.mem_of_getElem? (i := 0) rfl
theorem k_1 : (.methodLink "TaleMachine$Script" 3 objectInit : Cond) ∈ AW := List.mem_of_getElem? (i := 1) rfl
theorem k_2 : (.instanceMethod objectInit : Cond) ∈ AW := List.mem_of_getElem? (i := 2) rfl
theorem k_3 : (.code objectInit object_method_1_code 1 none : Cond) ∈ AW := List.mem_of_getElem? (i := 3) rfl
theorem k_4 : (.arrayClass .int : Cond) ∈ AW := List.mem_of_getElem? (i := 4) rfl
theorem k_5 : (.fieldLink "TaleMachine$Script" 9 "TaleMachine$Script" "bytes" "[I" : Cond) ∈ AW := List.mem_of_getElem? (i := 5) rfl
theorem k_6 : (.lays "TaleMachine$Frame" "TaleMachine$Frame" "method" "I" : Cond) ∈ AW := List.mem_of_getElem? (i := 6) rfl
theorem k_7 : (.lays "TaleMachine$Frame" "TaleMachine$Frame" "beginning" "I" : Cond) ∈ AW := List.mem_of_getElem? (i := 7) rfl
theorem k_8 : (.lays "TaleMachine$Frame" "TaleMachine$Frame" "self" "I" : Cond) ∈ AW := List.mem_of_getElem? (i := 8) rfl
theorem k_9 : (.lays "TaleMachine$Frame" "TaleMachine$Frame" "found" "I" : Cond) ∈ AW := List.mem_of_getElem? (i := 9) rfl
theorem k_10 : (.lays "TaleMachine$Frame" "TaleMachine$Frame" "place" "I" : Cond) ∈ AW := List.mem_of_getElem? (i := 10) rfl
theorem k_11 : (.lays "TaleMachine$Frame" "TaleMachine$Frame" "behind" "I" : Cond) ∈ AW := List.mem_of_getElem? (i := 11) rfl
theorem k_12 : (.lays "TaleMachine$Frame" "TaleMachine$Frame" "base" "I" : Cond) ∈ AW := List.mem_of_getElem? (i := 12) rfl
theorem k_13 : (.lays "TaleMachine$Frame" "TaleMachine$Frame" "floor" "I" : Cond) ∈ AW := List.mem_of_getElem? (i := 13) rfl
theorem k_14 : (.laysFinal "TaleMachine$History" "TaleMachine$History" "pointed" "[LTaleMachine$State;" : Cond) ∈ AW := List.mem_of_getElem? (i := 14) rfl
theorem k_15 : (.laysFinal "TaleMachine$History" "TaleMachine$History" "saved" "[LTaleMachine$State;" : Cond) ∈ AW := List.mem_of_getElem? (i := 15) rfl
theorem k_16 : (.laysFinal "TaleMachine$History" "TaleMachine$History" "isSaved" "[Z" : Cond) ∈ AW := List.mem_of_getElem? (i := 16) rfl
theorem k_17 : (.lays "TaleMachine$History" "TaleMachine$History" "points" "I" : Cond) ∈ AW := List.mem_of_getElem? (i := 17) rfl
theorem k_18 : (.laysFinal "TaleMachine$Script" "TaleMachine$Script" "bytes" "[I" : Cond) ∈ AW := List.mem_of_getElem? (i := 18) rfl
theorem k_19 : (.lays "TaleMachine$Script" "TaleMachine$Script" "length" "I" : Cond) ∈ AW := List.mem_of_getElem? (i := 19) rfl
theorem k_20 : (.laysFinal "TaleMachine$State" "TaleMachine$State" "kinds" "[I" : Cond) ∈ AW := List.mem_of_getElem? (i := 20) rfl
theorem k_21 : (.laysFinal "TaleMachine$State" "TaleMachine$State" "ints" "[I" : Cond) ∈ AW := List.mem_of_getElem? (i := 21) rfl
theorem k_22 : (.laysFinal "TaleMachine$State" "TaleMachine$State" "parents" "[I" : Cond) ∈ AW := List.mem_of_getElem? (i := 22) rfl
theorem k_23 : (.laysFinal "TaleMachine$Teller" "TaleMachine$Teller" "script" "LTaleMachine$Script;" : Cond) ∈ AW := List.mem_of_getElem? (i := 23) rfl
theorem k_24 : (.laysFinal "TaleMachine$Teller" "TaleMachine$Teller" "world" "LTaleMachine$World;" : Cond) ∈ AW := List.mem_of_getElem? (i := 24) rfl
theorem k_25 : (.laysFinal "TaleMachine$Teller" "TaleMachine$Teller" "history" "LTaleMachine$History;" : Cond) ∈ AW := List.mem_of_getElem? (i := 25) rfl
theorem k_26 : (.laysFinal "TaleMachine$Teller" "TaleMachine$Teller" "frames" "[LTaleMachine$Frame;" : Cond) ∈ AW := List.mem_of_getElem? (i := 26) rfl
theorem k_27 : (.laysFinal "TaleMachine$Teller" "TaleMachine$Teller" "values" "LTaleMachine$Values;" : Cond) ∈ AW := List.mem_of_getElem? (i := 27) rfl
theorem k_28 : (.laysFinal "TaleMachine$Teller" "TaleMachine$Teller" "sayings" "LTaleMachine$Values;" : Cond) ∈ AW := List.mem_of_getElem? (i := 28) rfl
theorem k_29 : (.laysFinal "TaleMachine$Teller" "TaleMachine$Teller" "result" "LTaleMachine$Values;" : Cond) ∈ AW := List.mem_of_getElem? (i := 29) rfl
theorem k_30 : (.lays "TaleMachine$Teller" "TaleMachine$Teller" "depth" "I" : Cond) ∈ AW := List.mem_of_getElem? (i := 30) rfl
theorem k_31 : (.lays "TaleMachine$Teller" "TaleMachine$Teller" "outcome" "I" : Cond) ∈ AW := List.mem_of_getElem? (i := 31) rfl
theorem k_32 : (.laysFinal "TaleMachine$Values" "TaleMachine$Values" "kinds" "[I" : Cond) ∈ AW := List.mem_of_getElem? (i := 32) rfl
theorem k_33 : (.laysFinal "TaleMachine$Values" "TaleMachine$Values" "ints" "[I" : Cond) ∈ AW := List.mem_of_getElem? (i := 33) rfl
theorem k_34 : (.lays "TaleMachine$Values" "TaleMachine$Values" "count" "I" : Cond) ∈ AW := List.mem_of_getElem? (i := 34) rfl
theorem k_35 : (.laysFinal "TaleMachine$World" "TaleMachine$World" "now" "LTaleMachine$State;" : Cond) ∈ AW := List.mem_of_getElem? (i := 35) rfl
theorem k_36 : (.lays "TaleMachine$World" "TaleMachine$World" "fixed" "I" : Cond) ∈ AW := List.mem_of_getElem? (i := 36) rfl
theorem k_37 : (.laysFinal "TaleMachine$World" "TaleMachine$World" "fixedLines" "[I" : Cond) ∈ AW := List.mem_of_getElem? (i := 37) rfl
theorem k_38 : (.laysFinal "TaleMachine$World" "TaleMachine$World" "fixedLengths" "[I" : Cond) ∈ AW := List.mem_of_getElem? (i := 38) rfl
theorem k_39 : (.laysFinal "TaleMachine$World" "TaleMachine$World" "line" "[I" : Cond) ∈ AW := List.mem_of_getElem? (i := 39) rfl
theorem k_40 : (.lays "TaleMachine$World" "TaleMachine$World" "length" "I" : Cond) ∈ AW := List.mem_of_getElem? (i := 40) rfl
theorem k_41 : (.laysFinal "TaleMachine$World" "TaleMachine$World" "reached" "[I" : Cond) ∈ AW := List.mem_of_getElem? (i := 41) rfl
theorem k_42 : (.lays "TaleMachine$World" "TaleMachine$World" "reachedCount" "I" : Cond) ∈ AW := List.mem_of_getElem? (i := 42) rfl
theorem k_43 : (.lays "TaleMachine$World" "TaleMachine$World" "reachedBits" "I" : Cond) ∈ AW := List.mem_of_getElem? (i := 43) rfl
theorem k_44 : (.laysFinal "TaleMachine" "TaleMachine" "script" "LTaleMachine$Script;" : Cond) ∈ AW := List.mem_of_getElem? (i := 44) rfl
theorem k_45 : (.laysFinal "TaleMachine" "TaleMachine" "world" "LTaleMachine$World;" : Cond) ∈ AW := List.mem_of_getElem? (i := 45) rfl
theorem k_46 : (.laysFinal "TaleMachine" "TaleMachine" "history" "LTaleMachine$History;" : Cond) ∈ AW := List.mem_of_getElem? (i := 46) rfl
theorem k_47 : (.laysFinal "TaleMachine" "TaleMachine" "teller" "LTaleMachine$Teller;" : Cond) ∈ AW := List.mem_of_getElem? (i := 47) rfl
theorem k_48 : (.lays "TaleMachineModel" "TaleMachineModel" "code" "I" : Cond) ∈ AW := List.mem_of_getElem? (i := 48) rfl
theorem k_49 : (.laysFinal "TaleMachineModel" "TaleMachineModel" "bytes" "[I" : Cond) ∈ AW := List.mem_of_getElem? (i := 49) rfl
theorem k_50 : (.lays "TaleMachineModel" "TaleMachineModel" "size" "I" : Cond) ∈ AW := List.mem_of_getElem? (i := 50) rfl
theorem k_51 : (.laysFinal "TaleMachineModel" "TaleMachineModel" "w" "[I" : Cond) ∈ AW := List.mem_of_getElem? (i := 51) rfl
theorem k_52 : (.lays "TaleMachineModel" "TaleMachineModel" "fixed" "I" : Cond) ∈ AW := List.mem_of_getElem? (i := 52) rfl
theorem k_53 : (.lays "TaleMachineModel" "TaleMachineModel" "points" "I" : Cond) ∈ AW := List.mem_of_getElem? (i := 53) rfl
theorem k_54 : (.laysFinal "TaleMachineModel" "TaleMachineModel" "saved" "[Z" : Cond) ∈ AW := List.mem_of_getElem? (i := 54) rfl
theorem k_55 : (.lays "TaleMachineModel" "TaleMachineModel" "length" "I" : Cond) ∈ AW := List.mem_of_getElem? (i := 55) rfl
theorem k_56 : (.laysFinal "TaleMachineModel" "TaleMachineModel" "line" "[I" : Cond) ∈ AW := List.mem_of_getElem? (i := 56) rfl
theorem k_57 : (.laysFinal "TaleMachineModel" "TaleMachineModel" "met" "[Z" : Cond) ∈ AW := List.mem_of_getElem? (i := 57) rfl
theorem k_58 : (.laysFinal "TaleMachineModel" "TaleMachineModel" "waiting" "[I" : Cond) ∈ AW := List.mem_of_getElem? (i := 58) rfl
theorem k_59 : (.laysFinal "TaleMachineModel" "TaleMachineModel" "nextParent" "[I" : Cond) ∈ AW := List.mem_of_getElem? (i := 59) rfl
theorem k_60 : (.lays "TaleMachineModel" "TaleMachineModel" "height" "I" : Cond) ∈ AW := List.mem_of_getElem? (i := 60) rfl
theorem k_61 : (.laysFinal "TaleMachineModel" "TaleMachineModel" "kind" "[I" : Cond) ∈ AW := List.mem_of_getElem? (i := 61) rfl
theorem k_62 : (.laysFinal "TaleMachineModel" "TaleMachineModel" "number" "[I" : Cond) ∈ AW := List.mem_of_getElem? (i := 62) rfl
theorem k_63 : (.lays "TaleMachineModel" "TaleMachineModel" "depth" "I" : Cond) ∈ AW := List.mem_of_getElem? (i := 63) rfl
theorem k_64 : (.laysFinal "TaleMachineModel" "TaleMachineModel" "begin" "[I" : Cond) ∈ AW := List.mem_of_getElem? (i := 64) rfl
theorem k_65 : (.laysFinal "TaleMachineModel" "TaleMachineModel" "table" "[I" : Cond) ∈ AW := List.mem_of_getElem? (i := 65) rfl
theorem k_66 : (.laysFinal "TaleMachineModel" "TaleMachineModel" "handlers" "[I" : Cond) ∈ AW := List.mem_of_getElem? (i := 66) rfl
theorem k_67 : (.laysFinal "TaleMachineModel" "TaleMachineModel" "base" "[I" : Cond) ∈ AW := List.mem_of_getElem? (i := 67) rfl
theorem k_68 : (.laysFinal "TaleMachineModel" "TaleMachineModel" "locals" "[I" : Cond) ∈ AW := List.mem_of_getElem? (i := 68) rfl
theorem k_69 : (.laysFinal "TaleMachineModel" "TaleMachineModel" "self" "[I" : Cond) ∈ AW := List.mem_of_getElem? (i := 69) rfl
theorem k_70 : (.laysFinal "TaleMachineModel" "TaleMachineModel" "found" "[I" : Cond) ∈ AW := List.mem_of_getElem? (i := 70) rfl
theorem k_71 : (.laysFinal "TaleMachineModel" "TaleMachineModel" "place" "[I" : Cond) ∈ AW := List.mem_of_getElem? (i := 71) rfl
theorem k_72 : (.laysFinal "TaleMachineModel" "TaleMachineModel" "next" "[I" : Cond) ∈ AW := List.mem_of_getElem? (i := 72) rfl
theorem k_73 : (.lays "TaleMachineModel" "TaleMachineModel" "said" "I" : Cond) ∈ AW := List.mem_of_getElem? (i := 73) rfl
theorem k_74 : (.laysFinal "TaleMachineModel" "TaleMachineModel" "saidKind" "[I" : Cond) ∈ AW := List.mem_of_getElem? (i := 74) rfl
theorem k_75 : (.laysFinal "TaleMachineModel" "TaleMachineModel" "saidNumber" "[I" : Cond) ∈ AW := List.mem_of_getElem? (i := 75) rfl
theorem k_76 : (.lays "TaleMachineModel" "TaleMachineModel" "resultKind" "I" : Cond) ∈ AW := List.mem_of_getElem? (i := 76) rfl
theorem k_77 : (.lays "TaleMachineModel" "TaleMachineModel" "resultNumber" "I" : Cond) ∈ AW := List.mem_of_getElem? (i := 77) rfl
theorem k_78 : (.lays "TaleMachineModel" "TaleMachineModel" "ended" "I" : Cond) ∈ AW := List.mem_of_getElem? (i := 78) rfl
theorem AW_all : AW.all goodWord = true := by decide +kernel
theorem in_Frame : ∀ w ∈ u_ws "TaleMachine$Frame" F_Frame 8, w ∈ AW := by
  show ∀ w ∈ ([.lays "TaleMachine$Frame" "TaleMachine$Frame" "method" "I", .lays "TaleMachine$Frame" "TaleMachine$Frame" "beginning" "I", .lays "TaleMachine$Frame" "TaleMachine$Frame" "self" "I", .lays "TaleMachine$Frame" "TaleMachine$Frame" "found" "I", .lays "TaleMachine$Frame" "TaleMachine$Frame" "place" "I", .lays "TaleMachine$Frame" "TaleMachine$Frame" "behind" "I", .lays "TaleMachine$Frame" "TaleMachine$Frame" "base" "I", .lays "TaleMachine$Frame" "TaleMachine$Frame" "floor" "I"] : List Cond), w ∈ AW
  exact List.forall_mem_cons.mpr ⟨k_6, List.forall_mem_cons.mpr ⟨k_7, List.forall_mem_cons.mpr ⟨k_8, List.forall_mem_cons.mpr ⟨k_9, List.forall_mem_cons.mpr ⟨k_10, List.forall_mem_cons.mpr ⟨k_11, List.forall_mem_cons.mpr ⟨k_12, List.forall_mem_cons.mpr ⟨k_13, fun _ h => absurd h List.not_mem_nil⟩⟩⟩⟩⟩⟩⟩⟩
theorem in_History : ∀ w ∈ u_ws "TaleMachine$History" F_History 4, w ∈ AW := by
  show ∀ w ∈ ([.laysFinal "TaleMachine$History" "TaleMachine$History" "pointed" "[LTaleMachine$State;", .laysFinal "TaleMachine$History" "TaleMachine$History" "saved" "[LTaleMachine$State;", .laysFinal "TaleMachine$History" "TaleMachine$History" "isSaved" "[Z", .lays "TaleMachine$History" "TaleMachine$History" "points" "I"] : List Cond), w ∈ AW
  exact List.forall_mem_cons.mpr ⟨k_14, List.forall_mem_cons.mpr ⟨k_15, List.forall_mem_cons.mpr ⟨k_16, List.forall_mem_cons.mpr ⟨k_17, fun _ h => absurd h List.not_mem_nil⟩⟩⟩⟩
theorem in_Script : ∀ w ∈ u_ws "TaleMachine$Script" F_Script 2, w ∈ AW := by
  show ∀ w ∈ ([.laysFinal "TaleMachine$Script" "TaleMachine$Script" "bytes" "[I", .lays "TaleMachine$Script" "TaleMachine$Script" "length" "I"] : List Cond), w ∈ AW
  exact List.forall_mem_cons.mpr ⟨k_18, List.forall_mem_cons.mpr ⟨k_19, fun _ h => absurd h List.not_mem_nil⟩⟩
theorem in_State : ∀ w ∈ u_ws "TaleMachine$State" F_State 3, w ∈ AW := by
  show ∀ w ∈ ([.laysFinal "TaleMachine$State" "TaleMachine$State" "kinds" "[I", .laysFinal "TaleMachine$State" "TaleMachine$State" "ints" "[I", .laysFinal "TaleMachine$State" "TaleMachine$State" "parents" "[I"] : List Cond), w ∈ AW
  exact List.forall_mem_cons.mpr ⟨k_20, List.forall_mem_cons.mpr ⟨k_21, List.forall_mem_cons.mpr ⟨k_22, fun _ h => absurd h List.not_mem_nil⟩⟩⟩
theorem in_Teller : ∀ w ∈ u_ws "TaleMachine$Teller" F_Teller 9, w ∈ AW := by
  show ∀ w ∈ ([.laysFinal "TaleMachine$Teller" "TaleMachine$Teller" "script" "LTaleMachine$Script;", .laysFinal "TaleMachine$Teller" "TaleMachine$Teller" "world" "LTaleMachine$World;", .laysFinal "TaleMachine$Teller" "TaleMachine$Teller" "history" "LTaleMachine$History;", .laysFinal "TaleMachine$Teller" "TaleMachine$Teller" "frames" "[LTaleMachine$Frame;", .laysFinal "TaleMachine$Teller" "TaleMachine$Teller" "values" "LTaleMachine$Values;", .laysFinal "TaleMachine$Teller" "TaleMachine$Teller" "sayings" "LTaleMachine$Values;", .laysFinal "TaleMachine$Teller" "TaleMachine$Teller" "result" "LTaleMachine$Values;", .lays "TaleMachine$Teller" "TaleMachine$Teller" "depth" "I", .lays "TaleMachine$Teller" "TaleMachine$Teller" "outcome" "I"] : List Cond), w ∈ AW
  exact List.forall_mem_cons.mpr ⟨k_23, List.forall_mem_cons.mpr ⟨k_24, List.forall_mem_cons.mpr ⟨k_25, List.forall_mem_cons.mpr ⟨k_26, List.forall_mem_cons.mpr ⟨k_27, List.forall_mem_cons.mpr ⟨k_28, List.forall_mem_cons.mpr ⟨k_29, List.forall_mem_cons.mpr ⟨k_30, List.forall_mem_cons.mpr ⟨k_31, fun _ h => absurd h List.not_mem_nil⟩⟩⟩⟩⟩⟩⟩⟩⟩
theorem in_Values : ∀ w ∈ u_ws "TaleMachine$Values" F_Values 3, w ∈ AW := by
  show ∀ w ∈ ([.laysFinal "TaleMachine$Values" "TaleMachine$Values" "kinds" "[I", .laysFinal "TaleMachine$Values" "TaleMachine$Values" "ints" "[I", .lays "TaleMachine$Values" "TaleMachine$Values" "count" "I"] : List Cond), w ∈ AW
  exact List.forall_mem_cons.mpr ⟨k_32, List.forall_mem_cons.mpr ⟨k_33, List.forall_mem_cons.mpr ⟨k_34, fun _ h => absurd h List.not_mem_nil⟩⟩⟩
theorem in_World : ∀ w ∈ u_ws "TaleMachine$World" F_World 9, w ∈ AW := by
  show ∀ w ∈ ([.laysFinal "TaleMachine$World" "TaleMachine$World" "now" "LTaleMachine$State;", .lays "TaleMachine$World" "TaleMachine$World" "fixed" "I", .laysFinal "TaleMachine$World" "TaleMachine$World" "fixedLines" "[I", .laysFinal "TaleMachine$World" "TaleMachine$World" "fixedLengths" "[I", .laysFinal "TaleMachine$World" "TaleMachine$World" "line" "[I", .lays "TaleMachine$World" "TaleMachine$World" "length" "I", .laysFinal "TaleMachine$World" "TaleMachine$World" "reached" "[I", .lays "TaleMachine$World" "TaleMachine$World" "reachedCount" "I", .lays "TaleMachine$World" "TaleMachine$World" "reachedBits" "I"] : List Cond), w ∈ AW
  exact List.forall_mem_cons.mpr ⟨k_35, List.forall_mem_cons.mpr ⟨k_36, List.forall_mem_cons.mpr ⟨k_37, List.forall_mem_cons.mpr ⟨k_38, List.forall_mem_cons.mpr ⟨k_39, List.forall_mem_cons.mpr ⟨k_40, List.forall_mem_cons.mpr ⟨k_41, List.forall_mem_cons.mpr ⟨k_42, List.forall_mem_cons.mpr ⟨k_43, fun _ h => absurd h List.not_mem_nil⟩⟩⟩⟩⟩⟩⟩⟩⟩
theorem in_TM : ∀ w ∈ u_ws "TaleMachine" F_TM 4, w ∈ AW := by
  show ∀ w ∈ ([.laysFinal "TaleMachine" "TaleMachine" "script" "LTaleMachine$Script;", .laysFinal "TaleMachine" "TaleMachine" "world" "LTaleMachine$World;", .laysFinal "TaleMachine" "TaleMachine" "history" "LTaleMachine$History;", .laysFinal "TaleMachine" "TaleMachine" "teller" "LTaleMachine$Teller;"] : List Cond), w ∈ AW
  exact List.forall_mem_cons.mpr ⟨k_44, List.forall_mem_cons.mpr ⟨k_45, List.forall_mem_cons.mpr ⟨k_46, List.forall_mem_cons.mpr ⟨k_47, fun _ h => absurd h List.not_mem_nil⟩⟩⟩⟩
theorem in_Model : ∀ w ∈ u_ws "TaleMachineModel" F_Model 31, w ∈ AW := by
  show ∀ w ∈ ([.lays "TaleMachineModel" "TaleMachineModel" "code" "I", .laysFinal "TaleMachineModel" "TaleMachineModel" "bytes" "[I", .lays "TaleMachineModel" "TaleMachineModel" "size" "I", .laysFinal "TaleMachineModel" "TaleMachineModel" "w" "[I", .lays "TaleMachineModel" "TaleMachineModel" "fixed" "I", .lays "TaleMachineModel" "TaleMachineModel" "points" "I", .laysFinal "TaleMachineModel" "TaleMachineModel" "saved" "[Z", .lays "TaleMachineModel" "TaleMachineModel" "length" "I", .laysFinal "TaleMachineModel" "TaleMachineModel" "line" "[I", .laysFinal "TaleMachineModel" "TaleMachineModel" "met" "[Z", .laysFinal "TaleMachineModel" "TaleMachineModel" "waiting" "[I", .laysFinal "TaleMachineModel" "TaleMachineModel" "nextParent" "[I", .lays "TaleMachineModel" "TaleMachineModel" "height" "I", .laysFinal "TaleMachineModel" "TaleMachineModel" "kind" "[I", .laysFinal "TaleMachineModel" "TaleMachineModel" "number" "[I", .lays "TaleMachineModel" "TaleMachineModel" "depth" "I", .laysFinal "TaleMachineModel" "TaleMachineModel" "begin" "[I", .laysFinal "TaleMachineModel" "TaleMachineModel" "table" "[I", .laysFinal "TaleMachineModel" "TaleMachineModel" "handlers" "[I", .laysFinal "TaleMachineModel" "TaleMachineModel" "base" "[I", .laysFinal "TaleMachineModel" "TaleMachineModel" "locals" "[I", .laysFinal "TaleMachineModel" "TaleMachineModel" "self" "[I", .laysFinal "TaleMachineModel" "TaleMachineModel" "found" "[I", .laysFinal "TaleMachineModel" "TaleMachineModel" "place" "[I", .laysFinal "TaleMachineModel" "TaleMachineModel" "next" "[I", .lays "TaleMachineModel" "TaleMachineModel" "said" "I", .laysFinal "TaleMachineModel" "TaleMachineModel" "saidKind" "[I", .laysFinal "TaleMachineModel" "TaleMachineModel" "saidNumber" "[I", .lays "TaleMachineModel" "TaleMachineModel" "resultKind" "I", .lays "TaleMachineModel" "TaleMachineModel" "resultNumber" "I", .lays "TaleMachineModel" "TaleMachineModel" "ended" "I"] : List Cond), w ∈ AW
  exact List.forall_mem_cons.mpr ⟨k_48, List.forall_mem_cons.mpr ⟨k_49, List.forall_mem_cons.mpr ⟨k_50, List.forall_mem_cons.mpr ⟨k_51, List.forall_mem_cons.mpr ⟨k_52, List.forall_mem_cons.mpr ⟨k_53, List.forall_mem_cons.mpr ⟨k_54, List.forall_mem_cons.mpr ⟨k_55, List.forall_mem_cons.mpr ⟨k_56, List.forall_mem_cons.mpr ⟨k_57, List.forall_mem_cons.mpr ⟨k_58, List.forall_mem_cons.mpr ⟨k_59, List.forall_mem_cons.mpr ⟨k_60, List.forall_mem_cons.mpr ⟨k_61, List.forall_mem_cons.mpr ⟨k_62, List.forall_mem_cons.mpr ⟨k_63, List.forall_mem_cons.mpr ⟨k_64, List.forall_mem_cons.mpr ⟨k_65, List.forall_mem_cons.mpr ⟨k_66, List.forall_mem_cons.mpr ⟨k_67, List.forall_mem_cons.mpr ⟨k_68, List.forall_mem_cons.mpr ⟨k_69, List.forall_mem_cons.mpr ⟨k_70, List.forall_mem_cons.mpr ⟨k_71, List.forall_mem_cons.mpr ⟨k_72, List.forall_mem_cons.mpr ⟨k_73, List.forall_mem_cons.mpr ⟨k_74, List.forall_mem_cons.mpr ⟨k_75, List.forall_mem_cons.mpr ⟨k_76, List.forall_mem_cons.mpr ⟨k_77, List.forall_mem_cons.mpr ⟨k_78, fun _ h => absurd h List.not_mem_nil⟩⟩⟩⟩⟩⟩⟩⟩⟩⟩⟩⟩⟩⟩⟩⟩⟩⟩⟩⟩⟩⟩⟩⟩⟩⟩⟩⟩⟩⟩⟩
set_option maxRecDepth 100000 in
set_option maxHeartbeats 4000000 in
theorem AW_tbl {args : Array Value} {s : State} (hts : ∀ w ∈ lw_tbl, w.before args s = true) : ∀ w ∈ AW, w.before args s = true := by
  have h0 : ∀ w ∈ AW_0, w.before args s = true := by
    refine List.forall_mem_cons.mpr ⟨hts _ (List.mem_append_right _ (List.mem_of_getElem? (i := 755) rfl)), List.forall_mem_cons.mpr ⟨hts _ (List.mem_append_right _ (List.mem_of_getElem? (i := 32) rfl)), List.forall_mem_cons.mpr ⟨hts _ (List.mem_append_right _ (List.mem_of_getElem? (i := 25) rfl)), List.forall_mem_cons.mpr ⟨hts _ (List.mem_append_right _ (List.mem_of_getElem? (i := 26) rfl)), List.forall_mem_cons.mpr ⟨hts _ (List.mem_append_right _ (List.mem_of_getElem? (i := 40) rfl)), List.forall_mem_cons.mpr ⟨hts _ (List.mem_append_right _ (List.mem_of_getElem? (i := 33) rfl)), List.forall_mem_cons.mpr ⟨hts _ (List.mem_append_right _ (List.mem_of_getElem? (i := 168) rfl)), List.forall_mem_cons.mpr ⟨hts _ (List.mem_append_right _ (List.mem_of_getElem? (i := 170) rfl)), List.forall_mem_cons.mpr ⟨hts _ (List.mem_append_right _ (List.mem_of_getElem? (i := 172) rfl)), List.forall_mem_cons.mpr ⟨hts _ (List.mem_append_right _ (List.mem_of_getElem? (i := 174) rfl)), List.forall_mem_cons.mpr ⟨hts _ (List.mem_append_right _ (List.mem_of_getElem? (i := 176) rfl)), List.forall_mem_cons.mpr ⟨hts _ (List.mem_append_right _ (List.mem_of_getElem? (i := 178) rfl)), List.forall_mem_cons.mpr ⟨hts _ (List.mem_append_right _ (List.mem_of_getElem? (i := 180) rfl)), List.forall_mem_cons.mpr ⟨hts _ (List.mem_append_right _ (List.mem_of_getElem? (i := 182) rfl)), List.forall_mem_cons.mpr ⟨hts _ (List.mem_append_right _ (List.mem_of_getElem? (i := 113) rfl)), List.forall_mem_cons.mpr ⟨hts _ (List.mem_append_right _ (List.mem_of_getElem? (i := 115) rfl)), List.forall_mem_cons.mpr ⟨hts _ (List.mem_append_right _ (List.mem_of_getElem? (i := 117) rfl)), List.forall_mem_cons.mpr ⟨hts _ (List.mem_append_right _ (List.mem_of_getElem? (i := 119) rfl)), List.forall_mem_cons.mpr ⟨hts _ (List.mem_append_right _ (List.mem_of_getElem? (i := 35) rfl)), List.forall_mem_cons.mpr ⟨hts _ (List.mem_append_right _ (List.mem_of_getElem? (i := 37) rfl)), List.forall_mem_cons.mpr ⟨hts _ (List.mem_append_right _ (List.mem_of_getElem? (i := 62) rfl)), List.forall_mem_cons.mpr ⟨hts _ (List.mem_append_right _ (List.mem_of_getElem? (i := 64) rfl)), List.forall_mem_cons.mpr ⟨hts _ (List.mem_append_right _ (List.mem_of_getElem? (i := 66) rfl)), List.forall_mem_cons.mpr ⟨hts _ (List.mem_append_right _ (List.mem_of_getElem? (i := 199) rfl)), List.forall_mem_cons.mpr ⟨hts _ (List.mem_append_right _ (List.mem_of_getElem? (i := 201) rfl)), List.forall_mem_cons.mpr ⟨hts _ (List.mem_append_right _ (List.mem_of_getElem? (i := 203) rfl)), List.forall_mem_cons.mpr ⟨hts _ (List.mem_append_right _ (List.mem_of_getElem? (i := 205) rfl)), List.forall_mem_cons.mpr ⟨hts _ (List.mem_append_right _ (List.mem_of_getElem? (i := 207) rfl)), List.forall_mem_cons.mpr ⟨hts _ (List.mem_append_right _ (List.mem_of_getElem? (i := 209) rfl)), List.forall_mem_cons.mpr ⟨hts _ (List.mem_append_right _ (List.mem_of_getElem? (i := 211) rfl)), List.forall_mem_cons.mpr ⟨hts _ (List.mem_append_right _ (List.mem_of_getElem? (i := 213) rfl)), List.forall_mem_cons.mpr ⟨hts _ (List.mem_append_right _ (List.mem_of_getElem? (i := 215) rfl)), List.forall_mem_cons.mpr ⟨hts _ (List.mem_append_right _ (List.mem_of_getElem? (i := 146) rfl)), List.forall_mem_cons.mpr ⟨hts _ (List.mem_append_right _ (List.mem_of_getElem? (i := 148) rfl)), List.forall_mem_cons.mpr ⟨hts _ (List.mem_append_right _ (List.mem_of_getElem? (i := 150) rfl)), List.forall_mem_cons.mpr ⟨hts _ (List.mem_append_right _ (List.mem_of_getElem? (i := 80) rfl)), List.forall_mem_cons.mpr ⟨hts _ (List.mem_append_right _ (List.mem_of_getElem? (i := 82) rfl)), List.forall_mem_cons.mpr ⟨hts _ (List.mem_append_right _ (List.mem_of_getElem? (i := 84) rfl)), List.forall_mem_cons.mpr ⟨hts _ (List.mem_append_right _ (List.mem_of_getElem? (i := 86) rfl)), List.forall_mem_cons.mpr ⟨hts _ (List.mem_append_right _ (List.mem_of_getElem? (i := 88) rfl)), List.forall_mem_cons.mpr ⟨hts _ (List.mem_append_right _ (List.mem_of_getElem? (i := 90) rfl)), List.forall_mem_cons.mpr ⟨hts _ (List.mem_append_right _ (List.mem_of_getElem? (i := 92) rfl)), List.forall_mem_cons.mpr ⟨hts _ (List.mem_append_right _ (List.mem_of_getElem? (i := 94) rfl)), List.forall_mem_cons.mpr ⟨hts _ (List.mem_append_right _ (List.mem_of_getElem? (i := 96) rfl)), List.forall_mem_cons.mpr ⟨hts _ (List.mem_append_right _ (List.mem_of_getElem? (i := 222) rfl)), List.forall_mem_cons.mpr ⟨hts _ (List.mem_append_right _ (List.mem_of_getElem? (i := 224) rfl)), List.forall_mem_cons.mpr ⟨hts _ (List.mem_append_right _ (List.mem_of_getElem? (i := 226) rfl)), List.forall_mem_cons.mpr ⟨hts _ (List.mem_append_right _ (List.mem_of_getElem? (i := 228) rfl)), List.forall_mem_cons.mpr ⟨hts _ (List.mem_append_right _ (List.mem_of_getElem? (i := 786) rfl)), List.forall_mem_cons.mpr ⟨hts _ (List.mem_append_right _ (List.mem_of_getElem? (i := 788) rfl)), List.forall_mem_cons.mpr ⟨hts _ (List.mem_append_right _ (List.mem_of_getElem? (i := 790) rfl)), List.forall_mem_cons.mpr ⟨hts _ (List.mem_append_right _ (List.mem_of_getElem? (i := 792) rfl)), List.forall_mem_cons.mpr ⟨hts _ (List.mem_append_right _ (List.mem_of_getElem? (i := 794) rfl)), List.forall_mem_cons.mpr ⟨hts _ (List.mem_append_right _ (List.mem_of_getElem? (i := 796) rfl)), List.forall_mem_cons.mpr ⟨hts _ (List.mem_append_right _ (List.mem_of_getElem? (i := 798) rfl)), List.forall_mem_cons.mpr ⟨hts _ (List.mem_append_right _ (List.mem_of_getElem? (i := 800) rfl)), List.forall_mem_cons.mpr ⟨hts _ (List.mem_append_right _ (List.mem_of_getElem? (i := 802) rfl)), List.forall_mem_cons.mpr ⟨hts _ (List.mem_append_right _ (List.mem_of_getElem? (i := 804) rfl)), List.forall_mem_cons.mpr ⟨hts _ (List.mem_append_right _ (List.mem_of_getElem? (i := 806) rfl)), List.forall_mem_cons.mpr ⟨hts _ (List.mem_append_right _ (List.mem_of_getElem? (i := 808) rfl)), fun _ h => absurd h List.not_mem_nil⟩⟩⟩⟩⟩⟩⟩⟩⟩⟩⟩⟩⟩⟩⟩⟩⟩⟩⟩⟩⟩⟩⟩⟩⟩⟩⟩⟩⟩⟩⟩⟩⟩⟩⟩⟩⟩⟩⟩⟩⟩⟩⟩⟩⟩⟩⟩⟩⟩⟩⟩⟩⟩⟩⟩⟩⟩⟩⟩⟩
  have h1 : ∀ w ∈ AW_1, w.before args s = true := by
    refine List.forall_mem_cons.mpr ⟨hts _ (List.mem_append_right _ (List.mem_of_getElem? (i := 810) rfl)), List.forall_mem_cons.mpr ⟨hts _ (List.mem_append_right _ (List.mem_of_getElem? (i := 812) rfl)), List.forall_mem_cons.mpr ⟨hts _ (List.mem_append_right _ (List.mem_of_getElem? (i := 814) rfl)), List.forall_mem_cons.mpr ⟨hts _ (List.mem_append_right _ (List.mem_of_getElem? (i := 816) rfl)), List.forall_mem_cons.mpr ⟨hts _ (List.mem_append_right _ (List.mem_of_getElem? (i := 818) rfl)), List.forall_mem_cons.mpr ⟨hts _ (List.mem_append_right _ (List.mem_of_getElem? (i := 820) rfl)), List.forall_mem_cons.mpr ⟨hts _ (List.mem_append_right _ (List.mem_of_getElem? (i := 822) rfl)), List.forall_mem_cons.mpr ⟨hts _ (List.mem_append_right _ (List.mem_of_getElem? (i := 824) rfl)), List.forall_mem_cons.mpr ⟨hts _ (List.mem_append_right _ (List.mem_of_getElem? (i := 826) rfl)), List.forall_mem_cons.mpr ⟨hts _ (List.mem_append_right _ (List.mem_of_getElem? (i := 828) rfl)), List.forall_mem_cons.mpr ⟨hts _ (List.mem_append_right _ (List.mem_of_getElem? (i := 830) rfl)), List.forall_mem_cons.mpr ⟨hts _ (List.mem_append_right _ (List.mem_of_getElem? (i := 832) rfl)), List.forall_mem_cons.mpr ⟨hts _ (List.mem_append_right _ (List.mem_of_getElem? (i := 834) rfl)), List.forall_mem_cons.mpr ⟨hts _ (List.mem_append_right _ (List.mem_of_getElem? (i := 836) rfl)), List.forall_mem_cons.mpr ⟨hts _ (List.mem_append_right _ (List.mem_of_getElem? (i := 838) rfl)), List.forall_mem_cons.mpr ⟨hts _ (List.mem_append_right _ (List.mem_of_getElem? (i := 840) rfl)), List.forall_mem_cons.mpr ⟨hts _ (List.mem_append_right _ (List.mem_of_getElem? (i := 842) rfl)), List.forall_mem_cons.mpr ⟨hts _ (List.mem_append_right _ (List.mem_of_getElem? (i := 844) rfl)), List.forall_mem_cons.mpr ⟨hts _ (List.mem_append_right _ (List.mem_of_getElem? (i := 846) rfl)), fun _ h => absurd h List.not_mem_nil⟩⟩⟩⟩⟩⟩⟩⟩⟩⟩⟩⟩⟩⟩⟩⟩⟩⟩⟩
  exact List.forall_mem_append.mpr ⟨h0, h1⟩
end
section
/-! What all contracts of this claim use: the words, a contract's start and end, a call as one row. -/
def NSE : String := "java/util/NoSuchElementException"
def vs_up : List String := ["java/lang/RuntimeException", "java/lang/Exception"]
/-- the words of the tables that an exception's making asks, at each of the places where one is thrown -/
def NJ : List Cond := vt_own "TaleMachine" 51 "java/lang/IllegalArgumentException" vs_up ++ vt_own "TaleMachine" 80 "java/util/NoSuchElementException" vs_up ++ [.castable "java/util/NoSuchElementException" "java/util/NoSuchElementException", .castable "java/lang/IllegalArgumentException" "java/lang/IllegalArgumentException"]
theorem NJ_ok : NJ.all (fun w => w.onTables && w.keepsFace) = true := by decide +kernel
theorem NJ_A : (Bundle.ownAtoms "TaleMachine" 51 "java/lang/IllegalArgumentException" vs_up).all (fun w => w.onTables || decide (w ∈ vt_four)) = true := by decide +kernel
theorem NJ_N : (Bundle.ownAtoms "TaleMachine" 80 "java/util/NoSuchElementException" vs_up).all (fun w => w.onTables || decide (w ∈ vt_four)) = true := by decide +kernel
def vs_texts : List (Nat × String) := [(49, "a parent is no fixed object that is there"), (78, "no such object"), (182, "no such value"), (145, "no frame"), (172, "nothing of that kind to show"), (177, "nothing that it has")]
def vs_str (U : State) : Prop := ∀ z ∈ vs_texts, ∃ a : Nat, vk_R "TaleMachine" z.1 z.2 a U
abbrev vs_n1 : Cond := .methodLinkNest "TaleMachine" 11 y_Script_init "TaleMachine"
abbrev vs_n2 : Cond := .methodLinkNest "TaleMachine" 18 y_World_init "TaleMachine"
abbrev vs_n3 : Cond := .methodLinkNest "TaleMachine$Teller" 48 y_Frame_init "TaleMachine"
def Tb (U : State) : Prop := vt_J NJ U ∧ (va_Nw vs_n1 U ∧ va_Nw vs_n2 U ∧ va_Nw vs_n3 U) ∧ (va_AO "TaleMachine$State" U ∧ va_AO "TaleMachine$Frame" U) ∧ vs_str U
theorem Tb.warm {s U : State} (hW : s.WarmedH U.vm) (h : Tb s) : Tb U :=
  ⟨vt_J.warm NJ_ok hW h.1, ⟨va_Nw.warmM hW h.2.1.1, va_Nw.warmM hW h.2.1.2.1, va_Nw.warmM hW h.2.1.2.2⟩, ⟨h.2.2.1.1.moved hW.alike, h.2.2.1.2.moved hW.alike⟩, fun z hz => by
    obtain ⟨a, ha⟩ := h.2.2.2 z hz
    exact ⟨a, vk_R.warm hW ha⟩⟩
theorem Tb_nest_Script {U : State} (h : Tb U) : va_Nw vs_n1 U := h.2.1.1
theorem Tb_nest_World {U : State} (h : Tb U) : va_Nw vs_n2 U := h.2.1.2.1
theorem Tb_nest_Frame {U : State} (h : Tb U) : va_Nw vs_n3 U := h.2.1.2.2
theorem Tb_ao_State {U : State} (h : Tb U) : va_AO "TaleMachine$State" U := h.2.2.1.1
theorem Tb_ao_Frame {U : State} (h : Tb U) : va_AO "TaleMachine$Frame" U := h.2.2.1.2
theorem Tb_cast_N {U : State} {a : Array Value} (h : Tb U) : (Cond.castable "java/util/NoSuchElementException" "java/util/NoSuchElementException").before a U = true := va_Nw.use rfl (h.1 _ (List.mem_append_right _ (List.mem_of_getElem? (i := 0) rfl)))
theorem Tb_cast_A {U : State} {a : Array Value} (h : Tb U) : (Cond.castable "java/lang/IllegalArgumentException" "java/lang/IllegalArgumentException").before a U = true := va_Nw.use rfl (h.1 _ (List.mem_append_right _ (List.mem_of_getElem? (i := 1) rfl)))
theorem Tb_A {A : Nat → Prop} {U : State} {args : Array Value} (h : Tb U) (hZ : vt_ZZ A U U.heap) : ∀ w ∈ Bundle.ownAtoms "TaleMachine" 51 "java/lang/IllegalArgumentException" vs_up, w.before args U = true := vt_atoms NJ_A (fun w hw => h.1 w (List.mem_append_left _ (List.mem_append_left _ hw))) hZ
theorem Tb_N {A : Nat → Prop} {U : State} {args : Array Value} (h : Tb U) (hZ : vt_ZZ A U U.heap) : ∀ w ∈ Bundle.ownAtoms "TaleMachine" 80 "java/util/NoSuchElementException" vs_up, w.before args U = true := vt_atoms NJ_N (fun w hw => h.1 w (List.mem_append_left _ (List.mem_append_right _ hw))) hZ
/-- a contract's start and end -/
def pre_ (D : va_G) (wc : va_W) (tc : List (ClassId × FieldType)) (sz : Nat) (U : State) : Prop := U.heap.size = sz ∧ va_P D cL wc U.heap ∧ va_K D cL tc U ∧ va_D (fun _ => True) wc ∧ Tb U
def preT_ (D : va_G) (wc : va_W) (tc : List (ClassId × FieldType)) (sz : Nat) (U : State) : Prop := pre_ D wc tc sz U ∧ vt_ZZ (va_A wc sz) U U.heap
def post_ (D : va_G) (A : Nat → Prop) (wn : va_W) (t : State) : Prop := va_P D cL wn t.heap ∧ va_D A wn
theorem pre_call {D : va_G} {wc : va_W} {tc : List (ClassId × FieldType)} {sz : Nat} {U : State} (g : JFrame) (mk : MethodId) (a : Array Value) (h : pre_ D wc tc sz U) : pre_ D wc tc sz (U.calling g mk a) :=
  ⟨h.1, h.2.1, va_K.moved (u := U) (U := U.calling g mk a) (Vm.Alike.refl U.vm) h.2.2.1, h.2.2.2.1, Tb.warm (s := U) (U := U.calling g mk a) (State.WarmedH.refl U) h.2.2.2.2⟩
theorem pre_at {D : va_G} {wc : va_W} {tc : List (ClassId × FieldType)} {s U : State} {H : Heap} {A : Nat → Prop} (hP : va_P D cL wc H) (hK : va_K D cL tc s) (hD : va_D A wc) (hT : Tb s) (hU : U.heap = H) (hW : s.WarmedH U.vm) : pre_ D wc tc H.size U :=
  ⟨by rw [hU], by rw [hU]; exact hP, va_K.moved hW.alike hK, hD.weaken (fun _ _ _ _ => trivial), Tb.warm hW hT⟩
theorem pre_S {av : List Value} {D : va_G} {wc : va_W} {tc : List (ClassId × FieldType)} {s : State} {H : Heap} {A : Nat → Prop} (hP : va_P D cL wc H) (hK : va_K D cL tc s) (hD : va_D A wc) (hT : Tb s) : PreS s H (va_Pc av (pre_ D wc tc H.size)) av :=
  ⟨fun a U g mk q => ⟨q.1, pre_call g mk a q.2⟩, fun U hU hW => ⟨rfl, pre_at hP hK hD hT hU hW⟩⟩
theorem pre_V {av : List Value} {D : va_G} {wc : va_W} {tc : List (ClassId × FieldType)} {s : State} {H : Heap} {A : Nat → Prop} {C : String} {b : Nat} (hv : ∃ cell : Cell, H[b]? = some cell ∧ cell.vm.isStatics = false ∧ s.vm.findClass C = some cell.cls) (hP : va_P D cL wc H) (hK : va_K D cL tc s) (hD : va_D A wc) (hT : Tb s) : PreV s H C b (va_Pc (.ref b :: av) (pre_ D wc tc H.size)) av :=
  ⟨fun a U g mk q => ⟨q.1, pre_call g mk a q.2⟩, hv, fun U hU hW => ⟨rfl, pre_at hP hK hD hT hU hW⟩⟩
theorem vt_ZZ.at {A : Nat → Prop} {s : State} {H : Heap} {locs : List Loc} {wc : va_W} (h : vt_ZZ A s s.heap) (hS : va_S A s.heap H locs) (hF : ∀ q, va_A wc H.size q → A q) : vt_ZZ (va_A wc H.size) s H := (h.kept hS.2.1).narrow (fun q _ hq => hF q hq)
theorem preT_call {D : va_G} {wc : va_W} {tc : List (ClassId × FieldType)} {sz : Nat} {U : State} (g : JFrame) (mk : MethodId) (a : Array Value) (h : preT_ D wc tc sz U) : preT_ D wc tc sz (U.calling g mk a) :=
  ⟨pre_call g mk a h.1, vt_ZZ.moved (u := U) (U := U.calling g mk a) (Vm.Alike.refl U.vm) h.2⟩
theorem preT_S {av : List Value} {D : va_G} {wc : va_W} {tc : List (ClassId × FieldType)} {s : State} {H : Heap} {A : Nat → Prop} (hP : va_P D cL wc H) (hK : va_K D cL tc s) (hD : va_D A wc) (hT : Tb s) (hZ : vt_ZZ (va_A wc H.size) s H) : PreS s H (va_Pc av (preT_ D wc tc H.size)) av :=
  ⟨fun a U g mk q => ⟨q.1, preT_call g mk a q.2⟩, fun U hU hW => ⟨rfl, pre_at hP hK hD hT hU hW, by rw [hU]; exact hZ.moved hW.alike⟩⟩
theorem preT_V {av : List Value} {D : va_G} {wc : va_W} {tc : List (ClassId × FieldType)} {s : State} {H : Heap} {A : Nat → Prop} {C : String} {b : Nat} (hv : ∃ cell : Cell, H[b]? = some cell ∧ cell.vm.isStatics = false ∧ s.vm.findClass C = some cell.cls) (hP : va_P D cL wc H) (hK : va_K D cL tc s) (hD : va_D A wc) (hT : Tb s) (hZ : vt_ZZ (va_A wc H.size) s H) : PreV s H C b (va_Pc (.ref b :: av) (preT_ D wc tc H.size)) av :=
  ⟨fun a U g mk q => ⟨q.1, preT_call g mk a q.2⟩, hv, fun U hU hW => ⟨rfl, pre_at hP hK hD hT hU hW, by rw [hU]; exact hZ.moved hW.alike⟩⟩
/-- words of calls -/
theorem gw {w : Cond} (h : w ∈ AW) : (w.onTables && w.keeps) = true ∨ ∃ ty, w = .arrayClass ty := good_of_word (List.all_eq_true.mp AW_all w h)
theorem gIn {w0 : Cond} (h : w0 ∈ AW) : GoodIn AW (w0 :: AW) := fun w hw => by
  rcases List.mem_cons.mp hw with rfl | hw
  · exact ⟨h, gw h⟩
  · exact ⟨hw, gw hw⟩
theorem gInV {own C : String} {i : Nat} {y : MethodName} {w0 : Cond} (h1 : Cond.methodLink own i y ∈ AW) (h2 : Cond.instanceMethod y ∈ AW) (h3 : Cond.selects C y y ∈ AW) (h4 : Cond.initialized C ∈ AW) (h5 : w0 ∈ AW) : GoodIn AW (wsV own i C y (w0 :: AW)) := fun w hw => by
  unfold wsV at hw
  rcases List.mem_append.mp hw with hw | hw
  · simp only [List.mem_cons, List.not_mem_nil, or_false] at hw
    rcases hw with rfl | rfl | rfl | rfl
    · exact ⟨h1, gw h1⟩
    · exact ⟨h2, gw h2⟩
    · exact ⟨h3, gw h3⟩
    · exact ⟨h4, gw h4⟩
  · exact gIn h5 w hw
theorem gInS {own : String} {i : Nat} {y : MethodName} {w0 : Cond} (h1 : Cond.methodLink own i y ∈ AW) (h2 : Cond.static y ∈ AW) (h4 : Cond.initialized y.cls ∈ AW) (h5 : w0 ∈ AW) : GoodIn AW (va_wsS own i y (w0 :: AW)) := fun w hw => by
  unfold va_wsS at hw
  rcases List.mem_append.mp hw with hw | hw
  · simp only [List.mem_cons, List.not_mem_nil, or_false] at hw
    rcases hw with rfl | rfl | rfl
    · exact ⟨h1, gw h1⟩
    · exact ⟨h2, gw h2⟩
    · exact ⟨h4, gw h4⟩
  · exact gIn h5 w hw
section VS
variable {p : Program} {l : Launch} {e : Env} {R : Room} {s : State} {m : MethodId} {args : Array Value} {below : List Frame} {meth : Method} {c : Code} {H : Heap} {locs : List Loc} {cells slots : Nat} {Q : State → Prop}
variable {pc : Nat} {ls : Array Slot} {rest st0 : List Value} {a : Array Value} {A : Nat → Prop} {H0 : Heap} {mc ms : Nat} {D : va_G} {ws wc wr : va_W} {cc : ByteArray}
theorem mv_v {S : Type} {post : S → Prop} {B : S → State → Prop} (hr : va_Run p l e R s m args below meth c H locs cells slots mc ms (F0 m pc ls st0) rest (va_Qv post B (va_A wc H.size) a) (va_A wc H.size))
    (hP : va_P D cL ws H) (hD : va_D A ws) (hS : va_S A H0 H locs) (hA : ∀ q, H0.size ≤ q → A q) (isC isR : List Nat) (hC : isC.map (fun i => ws[i]?) = wc.map some) (hR : isR.map (fun i => ws[i]?) = wr.map some) (hn : va_nd isR = true) (hdis : ∀ i ∈ isR, i ∉ isC)
    {wn : S → va_W} (hB : ∀ u t, B u t → post_ D (va_A wc H.size) (wn u) t)
    (kk : ∀ (u : S) (H1 : Heap) (locs1 : List Loc), post u → va_P D cL (wr ++ wn u) H1 → va_D A (wr ++ wn u) → va_S A H0 H1 locs1 → W p l e R s m args below meth c H1 locs1 (cells + mc) (slots + ms) Q (F0 m (pc + 3) ls rest)) : W p l e R s m args below meth c H locs cells slots Q (F0 m pc ls st0) := by
  have hFc := va_free (wc := wc) hD hS hA isC hC
  refine va_callv hr hS (fun q _ h => hFc q h) hFc (fun u t H1 locs1 ht hvm hp hb hz hk hS1 => ?_)
  obtain ⟨hP1, hD1⟩ := hB u t hb
  rw [ht] at hP1
  obtain ⟨hP', hD'⟩ := va_join (wr := wr) (w1 := wn u) hP hD isC isR hC hR hn hdis hk hFc hP1 hD1
  exact kk u H1 locs1 hp hP' hD' hS1
theorem mv_i {S : Type} {post : Int32 → S → Prop} {B : S → State → Prop} (hr : va_Run p l e R s m args below meth c H locs cells slots mc ms (F0 m pc ls st0) rest (va_Qi post B (va_A wc H.size) a) (va_A wc H.size))
    (hP : va_P D cL ws H) (hD : va_D A ws) (hS : va_S A H0 H locs) (hA : ∀ q, H0.size ≤ q → A q) (isC isR : List Nat) (hC : isC.map (fun i => ws[i]?) = wc.map some) (hR : isR.map (fun i => ws[i]?) = wr.map some) (hn : va_nd isR = true) (hdis : ∀ i ∈ isR, i ∉ isC)
    {wn : S → va_W} (hB : ∀ u t, B u t → post_ D (va_A wc H.size) (wn u) t)
    (kk : ∀ (r : Int32) (u : S) (H1 : Heap) (locs1 : List Loc), post r u → va_P D cL (wr ++ wn u) H1 → va_D A (wr ++ wn u) → va_S A H0 H1 locs1 → W p l e R s m args below meth c H1 locs1 (cells + mc) (slots + ms) Q (F0 m (pc + 3) ls (.int r :: rest))) : W p l e R s m args below meth c H locs cells slots Q (F0 m pc ls st0) := by
  have hFc := va_free (wc := wc) hD hS hA isC hC
  refine va_calli hr hS (fun q _ h => hFc q h) hFc (fun r u t H1 locs1 ht hvm hp hb hz hk hS1 => ?_)
  obtain ⟨hP1, hD1⟩ := hB u t hb
  rw [ht] at hP1
  obtain ⟨hP', hD'⟩ := va_join (wr := wr) (w1 := wn u) hP hD isC isR hC hR hn hdis hk hFc hP1 hD1
  exact kk r u H1 locs1 hp hP' hD' hS1
theorem end_i {S : Type} {post : Int32 → S → Prop} {B : S → State → Prop} (hx : p.tables.exec = Jvm.exec) (hb : c.code = cc) (hr : meth.sig.returnType = some .int) (hlocks : meth.locks = false) (hS : va_S A s.heap H locs) {u : S} {r : Int32} (hB : ∀ t : State, t.heap = H → B u t) (hp : post r u) (h1 : cells ≤ mc) (h2 : slots ≤ ms) (hdg : decode cc pc = .ok (.ireturn, 1)) :
    W p l e R s m args below meth c H locs cells slots (MQ below (va_Qi post B A) args s mc ms A) (F0 m pc ls [.int r]) :=
  W.widen (k := mc) (n := ms) h1 h2 (W.iret hx hb hr (fun t ht _ => ⟨⟨r, u, rfl, hp, hB t ht⟩, hS.F ht⟩) hS.2.2 hdg hlocks)
theorem end_z {S : Type} {post : Int32 → S → Prop} {B : S → State → Prop} (hx : p.tables.exec = Jvm.exec) (hb : c.code = cc) (hr : meth.sig.returnType = some .boolean) (hlocks : meth.locks = false) (hS : va_S A s.heap H locs) {u : S} {r : Int32} (hB : ∀ t : State, t.heap = H → B u t) (hp : post r u) (hz : r = 0 ∨ r = 1) (h1 : cells ≤ mc) (h2 : slots ≤ ms) (hdg : decode cc pc = .ok (.ireturn, 1)) :
    W p l e R s m args below meth c H locs cells slots (MQ below (va_Qi post B A) args s mc ms A) (F0 m pc ls [.int r]) :=
  W.widen (k := mc) (n := ms) h1 h2 (W.zret hx hb hr (by rcases hz with rfl | rfl <;> decide) (fun t ht _ => ⟨⟨r, u, rfl, hp, hB t ht⟩, hS.F ht⟩) hS.2.2 hdg hlocks)
theorem end_v {S : Type} {post : S → Prop} {B : S → State → Prop} (hx : p.tables.exec = Jvm.exec) (hb : c.code = cc) (hr : meth.sig.returnType = none) (hlocks : meth.locks = false) (hS : va_S A s.heap H locs) {u : S} (hB : ∀ t : State, t.heap = H → B u t) (hp : post u) (h1 : cells ≤ mc) (h2 : slots ≤ ms) (hdg : decode cc pc = .ok (.return_, 1)) :
    W p l e R s m args below meth c H locs cells slots (MQ below (va_Qv post B A) args s mc ms A) (F0 m pc ls []) :=
  W.widen (k := mc) (n := ms) h1 h2 (W.vret hx hb hr (fun t ht _ => ⟨⟨u, rfl, hp, hB t ht⟩, hS.F ht⟩) hS.2.2 hdg hlocks)
theorem at_end {wn : va_W} (hP : va_P D cL wn H) (hD : va_D A wn) : ∀ t : State, t.heap = H → post_ D A wn t := fun t ht => ⟨by rw [ht]; exact hP, hD⟩
/-- a new array of a kind whose class is known already -/
theorem nw_i (hexec : p.tables.exec = Jvm.exec) (hb : c.code = cc) (harr : (Cond.arrayClass .int).before args s = true) {tys : List (ClassId × FieldType)} (hK : va_K D cL tys s) (t0 : Nat) {cI : ClassId} (ht0 : tys[t0]? = some (cI, .int)) (hP : va_P D cL ws H) (hD : va_D A ws) (hS : va_S A H0 H locs) (hA : ∀ q, H0.size ≤ q → A q)
    {n : Int32} {N' : Nat} (hn : ¬ n < 0) (hN : n.toNatClampNeg = N') (hbytes : N' * 4 ≤ 536870912) (hcells : cells + 1 ≤ R.cells) (hslots : slots + N' ≤ R.slots) (hdg : decode cc pc = .ok (.newarray .int, 2))
    (kk : ∀ (q : Nat) (H1 : Heap), va_P D cL (ws ++ [(q, .inl (cI, N', .inl (fun _ => 0)))]) H1 → va_D A (ws ++ [(q, .inl (cI, N', .inl (fun _ => 0)))]) → va_S A H0 H1 locs → W p l e R s m args below meth c H1 locs (cells + 1) (slots + N') Q (F0 m (pc + 2) ls (.ref q :: rest))) : W p l e R s m args below meth c H locs cells slots Q (F0 m pc ls (.int n :: rest)) := by
  refine va_newa hexec hb (atype := .int) harr (ty := .int) rfl hK hP hD hS hA (a0 := (N', .inl (fun _ => 0))) (fun _ => rfl) hn hN hbytes hcells hslots hdg (fun q cA H1 hK1 hP1 hD1 hS1 => ?_)
  have e1 : s.vm.findClass ("[" ++ FieldType.int.toString) = some cI := (hK.2 t0 _ ht0).2
  have e2 : s.vm.findClass ("[" ++ FieldType.int.toString) = some cA := (hK1.2 tys.length (cA, .int) (by rw [List.getElem?_append_right (Nat.le_refl _), Nat.sub_self]; rfl)).2
  obtain rfl : cI = cA := Option.some.inj (e1.symm.trans e2)
  exact kk q H1 hP1 hD1 hS1
theorem nw_z (hexec : p.tables.exec = Jvm.exec) (hb : c.code = cc) (harr : (Cond.arrayClass .boolean).before args s = true) {tys : List (ClassId × FieldType)} (hK : va_K D cL tys s) (t0 : Nat) {cI : ClassId} (ht0 : tys[t0]? = some (cI, .boolean)) (hP : va_P D cL ws H) (hD : va_D A ws) (hS : va_S A H0 H locs) (hA : ∀ q, H0.size ≤ q → A q)
    {n : Int32} {N' : Nat} (hn : ¬ n < 0) (hN : n.toNatClampNeg = N') (hbytes : N' * 4 ≤ 536870912) (hcells : cells + 1 ≤ R.cells) (hslots : slots + N' ≤ R.slots) (hdg : decode cc pc = .ok (.newarray .boolean, 2))
    (kk : ∀ (q : Nat) (H1 : Heap), va_P D cL (ws ++ [(q, .inl (cI, N', .inl (fun _ => 0)))]) H1 → va_D A (ws ++ [(q, .inl (cI, N', .inl (fun _ => 0)))]) → va_S A H0 H1 locs → W p l e R s m args below meth c H1 locs (cells + 1) (slots + N') Q (F0 m (pc + 2) ls (.ref q :: rest))) : W p l e R s m args below meth c H locs cells slots Q (F0 m pc ls (.int n :: rest)) := by
  refine va_newa hexec hb (atype := .boolean) harr (ty := .boolean) rfl hK hP hD hS hA (a0 := (N', .inl (fun _ => 0))) (fun _ => rfl) hn hN (Nat.le_trans (Nat.mul_le_mul_left _ (by decide)) hbytes) hcells hslots hdg (fun q cA H1 hK1 hP1 hD1 hS1 => ?_)
  have e1 : s.vm.findClass ("[" ++ FieldType.boolean.toString) = some cI := (hK.2 t0 _ ht0).2
  have e2 : s.vm.findClass ("[" ++ FieldType.boolean.toString) = some cA := (hK1.2 tys.length (cA, .boolean) (by rw [List.getElem?_append_right (Nat.le_refl _), Nat.sub_self]; rfl)).2
  obtain rfl : cI = cA := Option.some.inj (e1.symm.trans e2)
  exact kk q H1 hP1 hD1 hS1
theorem nw_l (hexec : p.tables.exec = Jvm.exec) (hb : c.code = cc) (harr : (Cond.arrayClass .long).before args s = true) {tys : List (ClassId × FieldType)} (hK : va_K D cL tys s) (t0 : Nat) {cI : ClassId} (ht0 : tys[t0]? = some (cI, .long)) (hP : va_P D cL ws H) (hD : va_D A ws) (hS : va_S A H0 H locs) (hA : ∀ q, H0.size ≤ q → A q)
    {n : Int32} {N' : Nat} (hn : ¬ n < 0) (hN : n.toNatClampNeg = N') (hbytes : N' * 8 ≤ 536870912) (hcells : cells + 1 ≤ R.cells) (hslots : slots + N' ≤ R.slots) (hdg : decode cc pc = .ok (.newarray .long, 2))
    (kk : ∀ (q : Nat) (H1 : Heap), va_P D cL (ws ++ [(q, .inl (cI, N', .inr (.inl (fun _ => 0))))]) H1 → va_D A (ws ++ [(q, .inl (cI, N', .inr (.inl (fun _ => 0))))]) → va_S A H0 H1 locs → W p l e R s m args below meth c H1 locs (cells + 1) (slots + N') Q (F0 m (pc + 2) ls (.ref q :: rest))) : W p l e R s m args below meth c H locs cells slots Q (F0 m pc ls (.int n :: rest)) := by
  refine va_newa hexec hb (atype := .long) harr (ty := .long) rfl hK hP hD hS hA (a0 := (N', .inr (.inl (fun _ => 0)))) (fun _ => rfl) hn hN hbytes hcells hslots hdg (fun q cA H1 hK1 hP1 hD1 hS1 => ?_)
  have e1 : s.vm.findClass ("[" ++ FieldType.long.toString) = some cI := (hK.2 t0 _ ht0).2
  have e2 : s.vm.findClass ("[" ++ FieldType.long.toString) = some cA := (hK1.2 tys.length (cA, .long) (by rw [List.getElem?_append_right (Nat.le_refl _), Nat.sub_self]; rfl)).2
  obtain rfl : cI = cA := Option.some.inj (e1.symm.trans e2)
  exact kk q H1 hP1 hD1 hS1
/-- new X; dup; ldc; X.<init>(String); athrow -/
theorem th_go (hexec : p.tables.exec = Jvm.exec) (hb : c.code = cc) (hl : l.stackTraces = false) {cls : String} {ic ix it : Nat} {tx : String} (hown : s.vm.findClass "TaleMachine" = some m.cls) (hcls : Bundle.fit cls = true)
    (h : ∀ w ∈ Bundle.ownAtoms "TaleMachine" ic cls vs_up, w.before args s = true) (hcl : (Cond.classLink "TaleMachine" ix cls).before args s = true) (hini : (Cond.initialized cls).before args s = true) (hT : Tb s) (htx : (it, tx) ∈ vs_texts)
    (hS : va_S A s.heap H locs) (hns : ∀ q, A q → ∀ cell : Cell, s.heap[q]? = some cell → cell.vm.isStatics = false)
    (hne : c.exceptionTable.isEmpty = true) (hsz : ls.size = c.maxLocals) (hlocks : meth.locks = false) (d0 : decode cc pc = .ok (.new ix, 3)) (d3 : decode cc (pc + 3) = .ok (.dup, 1)) (d4 : decode cc (pc + 4) = .ok (.ldc it, 2)) (d6 : decode cc (pc + 6) = .ok (.invokespecial ic, 3)) (d9 : decode cc (pc + 9) = .ok (.athrow, 1))
    (hRf : 5 < R.frames) (hRl : 100 ≤ R.locals) (hRc : cells + 1 ≤ R.cells) (hRs : slots + 6 ≤ R.slots) (h1 : cells + 1 ≤ mc) (h2 : slots + 6 ≤ ms) :
    W p l e R s m args below meth c H locs cells slots (vt_MQ below (vt_Q cls A) args s mc ms A) (F0 m pc ls []) := by
  refine W.newc hexec hb hown hcl (n := 6) (h _ (by simp [Bundle.ownAtoms])) hini (g := F0 m pc ls []) rfl d0 hRc hRs (fun cC kC e1 e2 e3 e4 => ?_)
  refine W.eq (g2 := F0 m (pc + 3) ls [.ref H.size]) rfl ?_
  refine lv_dup hexec hb d3 rfl ?_
  obtain ⟨qm, hqm⟩ := hT.2.2.2 _ htx
  refine va_ldcS hexec hb hown hqm d4 ?_
  refine W.widen (k := mc) (n := ms) h1 h2 ?_
  refine vt_throwS (q := H.size) (qm := qm) (cX := cC) (kX := kC) hexec hb hl hown hcls (names := vs_up) (by decide) h (H := H.push { cls := cC, slots := kC.instanceTypes.map defaultValue, vm := .none }) (locs := locs) ⟨by rw [Array.size_push]; exact Nat.le_trans hS.1 (Nat.le_succ _), fun z hz hzA => ?_, hS.2.2⟩ hns e1 e2 (by simp) hS.1 hne hsz hlocks d6 d9 hRf ?_
  · rw [Array.getElem?_push, if_neg (by have := hS.1; omega)]
    exact hS.2.1 z hz hzA
  · show 2 * 0 + (1 + 0) + (13 * (2 + 1) + 42) ≤ R.locals
    omega
end VS
/-- the table of a method with handlers, by its word -/
theorem vt_table {y : MethodName} {bytes : ByteArray} {maxL : Nat} {ret : Option FieldType} {hh : List (Nat × Nat × Nat × Nat)} {args : Array Value} {s : State} {m : MethodId} {meth : Method} {c : Code} (hn : s.methodNamed? y = some m) (hm : s.vm.method? m = some meth) (hc : meth.code = some c) (h : (Cond.codeWith y bytes maxL ret hh).before args s = true) :
    c.exceptionTable.toList.map (fun h => (h.startPc, h.endPc, h.handlerPc, h.catchType)) = hh := by
  obtain ⟨m', meth', c', h1, h2, h3, -, -, h6, -⟩ := Cond.codeWith_spec h
  cases hn.symm.trans h1
  cases hm.symm.trans h2
  cases hc.symm.trans h3
  exact h6
end
section
theorem d_Model_outside_0 : decode prog_10_method_4_code 0 = .ok (.iload_n 0, 1) := by decide +kernel
theorem d_Model_outside_1 : decode prog_10_method_4_code 1 = .ok (.iload_n 1, 1) := by decide +kernel
theorem d_Model_outside_2 : decode prog_10_method_4_code 2 = .ok (.if_icmp .lt 8, 3) := by decide +kernel
theorem d_Model_outside_10 : decode prog_10_method_4_code 10 = .ok (.iconst 1, 1) := by decide +kernel
theorem d_Model_outside_11 : decode prog_10_method_4_code 11 = .ok (.goto 4, 3) := by decide +kernel
theorem d_Model_outside_15 : decode prog_10_method_4_code 15 = .ok (.ireturn, 1) := by decide +kernel
theorem d_Model_outside_5 : decode prog_10_method_4_code 5 = .ok (.iload_n 0, 1) := by decide +kernel
theorem d_Model_outside_6 : decode prog_10_method_4_code 6 = .ok (.iload_n 2, 1) := by decide +kernel
theorem d_Model_outside_7 : decode prog_10_method_4_code 7 = .ok (.if_icmp .le 7, 3) := by decide +kernel
theorem d_Model_outside_14 : decode prog_10_method_4_code 14 = .ok (.iconst 0, 1) := by decide +kernel
theorem d_Model_thrown_0 : decode prog_10_method_2_code 0 = .ok (.aload_n 0, 1) := by decide +kernel
theorem d_Model_thrown_1 : decode prog_10_method_2_code 1 = .ok (.getfield 75, 3) := by decide +kernel
theorem d_Model_thrown_4 : decode prog_10_method_2_code 4 = .ok (.ireturn, 1) := by decide +kernel
theorem d_Model_refuse_0 : decode prog_10_method_3_code 0 = .ok (.aload_n 0, 1) := by decide +kernel
theorem d_Model_refuse_1 : decode prog_10_method_3_code 1 = .ok (.iload_n 1, 1) := by decide +kernel
theorem d_Model_refuse_2 : decode prog_10_method_3_code 2 = .ok (.putfield 75, 3) := by decide +kernel
theorem d_Model_refuse_5 : decode prog_10_method_3_code 5 = .ok (.iconst 0, 1) := by decide +kernel
theorem d_Model_refuse_6 : decode prog_10_method_3_code 6 = .ok (.ireturn, 1) := by decide +kernel
theorem d_Script_init_0 : decode prog_4_method_1_code 0 = .ok (.aload_n 0, 1) := by decide +kernel
theorem d_Script_init_1 : decode prog_4_method_1_code 1 = .ok (.invokespecial 3, 3) := by decide +kernel
theorem d_Script_init_4 : decode prog_4_method_1_code 4 = .ok (.aload_n 0, 1) := by decide +kernel
theorem d_Script_init_5 : decode prog_4_method_1_code 5 = .ok (.sipush 300, 3) := by decide +kernel
theorem d_Script_init_8 : decode prog_4_method_1_code 8 = .ok (.newarray .int, 2) := by decide +kernel
theorem d_Script_init_10 : decode prog_4_method_1_code 10 = .ok (.putfield 9, 3) := by decide +kernel
theorem d_Script_init_13 : decode prog_4_method_1_code 13 = .ok (.return_, 1) := by decide +kernel
end
section
set_option maxHeartbeats 4000000 in
set_option maxRecDepth 100000 in
theorem c_Model_outside (l : Launch) (D : va_G) (cI cZ cJ : ClassId) (v lo hi : Int32) (sz : Nat)  : Met l y_Model_outside (.code y_Model_outside prog_10_method_4_code 3 (some .boolean) :: AW) ({ frames := 0, cells := 0, slots := 0, locals := 0 }) (va_Pc [.int v, .int lo, .int hi] (pre_ D [] [(cI, .int), (cZ, .boolean), (cJ, .long)] sz)) (va_Qi (fun (r : Int32) (u : Unit) => (r = 0 ∨ r = 1) ∧ (r = 1 ↔ v < lo ∨ hi < v)) (fun _ t => post_ D (va_A [] sz) [] t) (va_A [] sz)) 0 0 (va_A [] sz) := by
  refine Met.ofW (cc := prog_10_method_4_code) (maxL := 3) (ret := (some .boolean)) (by decide) rfl ?_
  intro p e s m args below meth c s₁ B hml hv
  obtain ⟨rfl, rfl, hP, hK, hD0, hT⟩ := hv
  have hx := B.exec
  have hb := B.bytes
  have hr := B.returns
  have hts0 := atoms_spec (ws := .code y_Model_outside prog_10_method_4_code 3 (some .boolean) :: AW) B.pre
  have hts : ∀ w ∈ AW, w.before [.int v, .int lo, .int hi].toArray s = true := fun w h => hts0 w (List.mem_cons_of_mem _ h)
  have hown : s.vm.findClass "TaleMachineModel" = some m.cls := findClass_of_methodNamed B.named
  have hlocks := B.notSynchronized
  have hD := hD0.self (sz := s.heap.size)
  generalize hAe : va_A [] s.heap.size = A at hD ⊢
  have hA : ∀ q : Nat, s.heap.size ≤ q → A q := fun q h => by rw [← hAe]; exact Or.inr h
  have hS : va_S A s.heap s.heap [] := va_S.rf
  have hl := lv_entry ([.int v, .int lo, .int hi]) (n := 3) (Nat.le_of_ble_eq_true rfl)
  rw [lg_entry_eq]
  generalize (lg_sl ([.int v, .int lo, .int hi]) ++ List.replicate (3 - (lg_sl ([.int v, .int lo, .int hi])).length) Slot.unset).toArray = ls at hl ⊢
  have hl : lv_has ls 3 [(0, .int v), (1, .int lo), (2, .int hi)] := hl
  refine lv_iload_n hx hb d_Model_outside_0 rfl (lv_at hl 0 rfl) ?_
  refine lv_iload_n hx hb d_Model_outside_1 rfl (lv_at hl 1 rfl) ?_
  refine lv_icmp_lt hx hb d_Model_outside_2 (tgt := 10) (by decide) (fun hc1 => ?_) (fun hc1 => ?_)
  · refine lv_iconst (v := 1) hx hb d_Model_outside_10 (by decide) ?_
    refine lv_goto hx hb d_Model_outside_11 (tgt := 15) (by decide) ?_
    exact end_z hx hb hr hlocks hS (u := ()) (r := 1) (at_end (hP.sub (ws' := []) [] rfl) (hD.sub (ws' := []) [] (by decide) rfl)) (⟨Or.inr rfl, ⟨fun _ => Or.inl hc1, fun _ => rfl⟩⟩) (by decide) (Nat.le_of_ble_eq_true rfl) (Nat.le_of_ble_eq_true rfl) d_Model_outside_15
  · refine lv_iload_n hx hb d_Model_outside_5 rfl (lv_at hl 0 rfl) ?_
    refine lv_iload_n hx hb d_Model_outside_6 rfl (lv_at hl 2 rfl) ?_
    refine lv_icmp_le hx hb d_Model_outside_7 (tgt := 14) (by decide) (fun hc2 => ?_) (fun hc2 => ?_)
    · refine lv_iconst (v := 0) hx hb d_Model_outside_14 (by decide) ?_
      exact end_z hx hb hr hlocks hS (u := ()) (r := 0) (at_end (hP.sub (ws' := []) [] rfl) (hD.sub (ws' := []) [] (by decide) rfl)) (⟨Or.inl rfl, ⟨fun h => absurd h (by decide), fun h => by rcases h with h | h; exact absurd h hc1; exact absurd h (by have h2 := hc2; simp only [Int32.lt_iff_toInt_lt, Int32.le_iff_toInt_le] at h2 ⊢; omega)⟩⟩) (by decide) (Nat.le_of_ble_eq_true rfl) (Nat.le_of_ble_eq_true rfl) d_Model_outside_15
    · refine lv_iconst (v := 1) hx hb d_Model_outside_10 (by decide) ?_
      refine lv_goto hx hb d_Model_outside_11 (tgt := 15) (by decide) ?_
      exact end_z hx hb hr hlocks hS (u := ()) (r := 1) (at_end (hP.sub (ws' := []) [] rfl) (hD.sub (ws' := []) [] (by decide) rfl)) (⟨Or.inr rfl, ⟨fun _ => Or.inr (by have h := hc2; simp only [Int32.lt_iff_toInt_lt, Int32.le_iff_toInt_le] at h ⊢; omega), fun _ => rfl⟩⟩) (by decide) (Nat.le_of_ble_eq_true rfl) (Nat.le_of_ble_eq_true rfl) d_Model_outside_15

set_option maxHeartbeats 4000000 in
set_option maxRecDepth 100000 in
theorem c_Model_thrown (l : Launch) (D : va_G) (cI cZ cJ : ClassId) (h m_bytes m_w m_saved m_line m_met m_waiting m_nextParent m_kind m_number m_begin m_table m_handlers m_base m_locals m_self m_found m_place m_next m_saidKind m_saidNumber : Nat) (k : Int32) (sz : Nat)  : Met l y_Model_thrown (.code y_Model_thrown prog_10_method_2_code 1 (some .int) :: AW) ({ frames := 0, cells := 0, slots := 0, locals := 0 }) (va_Pc [.ref h] (pre_ D [(h, .inr (8, [.int k, .ref m_bytes, .int 0, .ref m_w, .int 0, .int 0, .ref m_saved, .int 0, .ref m_line, .ref m_met, .ref m_waiting, .ref m_nextParent, .int 0, .ref m_kind, .ref m_number, .int 0, .ref m_begin, .ref m_table, .ref m_handlers, .ref m_base, .ref m_locals, .ref m_self, .ref m_found, .ref m_place, .ref m_next, .int 0, .ref m_saidKind, .ref m_saidNumber, .int 0, .int 0, .int (-1)]))] [(cI, .int), (cZ, .boolean), (cJ, .long)] sz)) (va_Qi (fun (r : Int32) (u : Unit) => r = k) (fun _ t => post_ D (va_A [(h, .inr (8, [.int k, .ref m_bytes, .int 0, .ref m_w, .int 0, .int 0, .ref m_saved, .int 0, .ref m_line, .ref m_met, .ref m_waiting, .ref m_nextParent, .int 0, .ref m_kind, .ref m_number, .int 0, .ref m_begin, .ref m_table, .ref m_handlers, .ref m_base, .ref m_locals, .ref m_self, .ref m_found, .ref m_place, .ref m_next, .int 0, .ref m_saidKind, .ref m_saidNumber, .int 0, .int 0, .int (-1)]))] sz) [] t) (va_A [(h, .inr (8, [.int k, .ref m_bytes, .int 0, .ref m_w, .int 0, .int 0, .ref m_saved, .int 0, .ref m_line, .ref m_met, .ref m_waiting, .ref m_nextParent, .int 0, .ref m_kind, .ref m_number, .int 0, .ref m_begin, .ref m_table, .ref m_handlers, .ref m_base, .ref m_locals, .ref m_self, .ref m_found, .ref m_place, .ref m_next, .int 0, .ref m_saidKind, .ref m_saidNumber, .int 0, .int 0, .int (-1)]))] sz)) 0 0 (va_A [(h, .inr (8, [.int k, .ref m_bytes, .int 0, .ref m_w, .int 0, .int 0, .ref m_saved, .int 0, .ref m_line, .ref m_met, .ref m_waiting, .ref m_nextParent, .int 0, .ref m_kind, .ref m_number, .int 0, .ref m_begin, .ref m_table, .ref m_handlers, .ref m_base, .ref m_locals, .ref m_self, .ref m_found, .ref m_place, .ref m_next, .int 0, .ref m_saidKind, .ref m_saidNumber, .int 0, .int 0, .int (-1)]))] sz) := by
  refine Met.ofW (cc := prog_10_method_2_code) (maxL := 1) (ret := (some .int)) (by decide) rfl ?_
  intro p e s m args below meth c s₁ B hml hv
  obtain ⟨rfl, rfl, hP, hK, hD0, hT⟩ := hv
  have hx := B.exec
  have hb := B.bytes
  have hr := B.returns
  have hts0 := atoms_spec (ws := .code y_Model_thrown prog_10_method_2_code 1 (some .int) :: AW) B.pre
  have hts : ∀ w ∈ AW, w.before [.ref h].toArray s = true := fun w h => hts0 w (List.mem_cons_of_mem _ h)
  have hown : s.vm.findClass "TaleMachineModel" = some m.cls := findClass_of_methodNamed B.named
  have hlocks := B.notSynchronized
  have hD := hD0.self (sz := s.heap.size)
  generalize hAe : va_A [(h, .inr (8, [.int k, .ref m_bytes, .int 0, .ref m_w, .int 0, .int 0, .ref m_saved, .int 0, .ref m_line, .ref m_met, .ref m_waiting, .ref m_nextParent, .int 0, .ref m_kind, .ref m_number, .int 0, .ref m_begin, .ref m_table, .ref m_handlers, .ref m_base, .ref m_locals, .ref m_self, .ref m_found, .ref m_place, .ref m_next, .int 0, .ref m_saidKind, .ref m_saidNumber, .int 0, .int 0, .int (-1)]))] s.heap.size = A at hD ⊢
  have hA : ∀ q : Nat, s.heap.size ≤ q → A q := fun q h => by rw [← hAe]; exact Or.inr h
  have hS : va_S A s.heap s.heap [] := va_S.rf
  have hl := lv_entry ([.ref h]) (n := 1) (Nat.le_of_ble_eq_true rfl)
  rw [lg_entry_eq]
  generalize (lg_sl ([.ref h]) ++ List.replicate (1 - (lg_sl ([.ref h])).length) Slot.unset).toArray = ls at hl ⊢
  have hl : lv_has ls 1 [(0, .ref h)] := hl
  refine lv_aload_n hx hb d_Model_thrown_0 rfl (lv_at hl 0 rfl) ?_
  refine va_get (D := D) (ci := 8) (v := .int k) (C := "TaleMachineModel") (T := F_Model) (N := 31) hx hb hts in_Model hown hK hP 0 rfl rfl 0 (by decide) (hts _ k_0) (fun _ h9 => h9) rfl d_Model_thrown_1 ?_
  exact end_i hx hb hr hlocks hS (u := ()) (r := k) (at_end (hP.sub (ws' := []) [] rfl) (hD.sub (ws' := []) [] (by decide) rfl)) (rfl) (Nat.le_of_ble_eq_true rfl) (Nat.le_of_ble_eq_true rfl) d_Model_thrown_4

set_option maxHeartbeats 4000000 in
set_option maxRecDepth 100000 in
theorem c_Model_refuse (l : Launch) (D : va_G) (cI cZ cJ : ClassId) (h m_bytes m_w m_saved m_line m_met m_waiting m_nextParent m_kind m_number m_begin m_table m_handlers m_base m_locals m_self m_found m_place m_next m_saidKind m_saidNumber : Nat) (k : Int32) (sz : Nat)  : Met l y_Model_refuse (.code y_Model_refuse prog_10_method_3_code 2 (some .int) :: AW) ({ frames := 0, cells := 0, slots := 0, locals := 0 }) (va_Pc [.ref h, .int k] (pre_ D [(h, .inr (8, [.int 0, .ref m_bytes, .int 0, .ref m_w, .int 0, .int 0, .ref m_saved, .int 0, .ref m_line, .ref m_met, .ref m_waiting, .ref m_nextParent, .int 0, .ref m_kind, .ref m_number, .int 0, .ref m_begin, .ref m_table, .ref m_handlers, .ref m_base, .ref m_locals, .ref m_self, .ref m_found, .ref m_place, .ref m_next, .int 0, .ref m_saidKind, .ref m_saidNumber, .int 0, .int 0, .int (-1)]))] [(cI, .int), (cZ, .boolean), (cJ, .long)] sz)) (va_Qi (fun (r : Int32) (u : Unit) => r = 0) (fun _ t => post_ D (va_A [(h, .inr (8, [.int 0, .ref m_bytes, .int 0, .ref m_w, .int 0, .int 0, .ref m_saved, .int 0, .ref m_line, .ref m_met, .ref m_waiting, .ref m_nextParent, .int 0, .ref m_kind, .ref m_number, .int 0, .ref m_begin, .ref m_table, .ref m_handlers, .ref m_base, .ref m_locals, .ref m_self, .ref m_found, .ref m_place, .ref m_next, .int 0, .ref m_saidKind, .ref m_saidNumber, .int 0, .int 0, .int (-1)]))] sz) [(h, .inr (8, [.int k, .ref m_bytes, .int 0, .ref m_w, .int 0, .int 0, .ref m_saved, .int 0, .ref m_line, .ref m_met, .ref m_waiting, .ref m_nextParent, .int 0, .ref m_kind, .ref m_number, .int 0, .ref m_begin, .ref m_table, .ref m_handlers, .ref m_base, .ref m_locals, .ref m_self, .ref m_found, .ref m_place, .ref m_next, .int 0, .ref m_saidKind, .ref m_saidNumber, .int 0, .int 0, .int (-1)]))] t) (va_A [(h, .inr (8, [.int 0, .ref m_bytes, .int 0, .ref m_w, .int 0, .int 0, .ref m_saved, .int 0, .ref m_line, .ref m_met, .ref m_waiting, .ref m_nextParent, .int 0, .ref m_kind, .ref m_number, .int 0, .ref m_begin, .ref m_table, .ref m_handlers, .ref m_base, .ref m_locals, .ref m_self, .ref m_found, .ref m_place, .ref m_next, .int 0, .ref m_saidKind, .ref m_saidNumber, .int 0, .int 0, .int (-1)]))] sz)) 0 0 (va_A [(h, .inr (8, [.int 0, .ref m_bytes, .int 0, .ref m_w, .int 0, .int 0, .ref m_saved, .int 0, .ref m_line, .ref m_met, .ref m_waiting, .ref m_nextParent, .int 0, .ref m_kind, .ref m_number, .int 0, .ref m_begin, .ref m_table, .ref m_handlers, .ref m_base, .ref m_locals, .ref m_self, .ref m_found, .ref m_place, .ref m_next, .int 0, .ref m_saidKind, .ref m_saidNumber, .int 0, .int 0, .int (-1)]))] sz) := by
  refine Met.ofW (cc := prog_10_method_3_code) (maxL := 2) (ret := (some .int)) (by decide) rfl ?_
  intro p e s m args below meth c s₁ B hml hv
  obtain ⟨rfl, rfl, hP, hK, hD0, hT⟩ := hv
  have hx := B.exec
  have hb := B.bytes
  have hr := B.returns
  have hts0 := atoms_spec (ws := .code y_Model_refuse prog_10_method_3_code 2 (some .int) :: AW) B.pre
  have hts : ∀ w ∈ AW, w.before [.ref h, .int k].toArray s = true := fun w h => hts0 w (List.mem_cons_of_mem _ h)
  have hown : s.vm.findClass "TaleMachineModel" = some m.cls := findClass_of_methodNamed B.named
  have hlocks := B.notSynchronized
  have hD := hD0.self (sz := s.heap.size)
  generalize hAe : va_A [(h, .inr (8, [.int 0, .ref m_bytes, .int 0, .ref m_w, .int 0, .int 0, .ref m_saved, .int 0, .ref m_line, .ref m_met, .ref m_waiting, .ref m_nextParent, .int 0, .ref m_kind, .ref m_number, .int 0, .ref m_begin, .ref m_table, .ref m_handlers, .ref m_base, .ref m_locals, .ref m_self, .ref m_found, .ref m_place, .ref m_next, .int 0, .ref m_saidKind, .ref m_saidNumber, .int 0, .int 0, .int (-1)]))] s.heap.size = A at hD ⊢
  have hA : ∀ q : Nat, s.heap.size ≤ q → A q := fun q h => by rw [← hAe]; exact Or.inr h
  have hS : va_S A s.heap s.heap [] := va_S.rf
  have hl := lv_entry ([.ref h, .int k]) (n := 2) (Nat.le_of_ble_eq_true rfl)
  rw [lg_entry_eq]
  generalize (lg_sl ([.ref h, .int k]) ++ List.replicate (2 - (lg_sl ([.ref h, .int k])).length) Slot.unset).toArray = ls at hl ⊢
  have hl : lv_has ls 2 [(0, .ref h), (1, .int k)] := hl
  refine lv_aload_n hx hb d_Model_refuse_0 rfl (lv_at hl 0 rfl) ?_
  refine lv_iload_n hx hb d_Model_refuse_1 rfl (lv_at hl 1 rfl) ?_
  refine va_put (D := D) (ci := 8) (v := .int k) (ty := .int) (C := "TaleMachineModel") (T := F_Model) (N := 31) hx hb hts in_Model t_Model t_Model_ok n_Model hown hK hP hD hS 0 rfl rfl 0 (by decide) (hts _ k_0) (fun _ h9 => h9) rfl (by decide +kernel) rfl rfl (Nat.le_of_ble_eq_true rfl) d_Model_refuse_2 (fun H locs hP hD hS => ?_)
  have hP : va_P D cL [(h, .inr (8, [.int k, .ref m_bytes, .int 0, .ref m_w, .int 0, .int 0, .ref m_saved, .int 0, .ref m_line, .ref m_met, .ref m_waiting, .ref m_nextParent, .int 0, .ref m_kind, .ref m_number, .int 0, .ref m_begin, .ref m_table, .ref m_handlers, .ref m_base, .ref m_locals, .ref m_self, .ref m_found, .ref m_place, .ref m_next, .int 0, .ref m_saidKind, .ref m_saidNumber, .int 0, .int 0, .int (-1)]))] H := hP
  have hD : va_D A [(h, .inr (8, [.int k, .ref m_bytes, .int 0, .ref m_w, .int 0, .int 0, .ref m_saved, .int 0, .ref m_line, .ref m_met, .ref m_waiting, .ref m_nextParent, .int 0, .ref m_kind, .ref m_number, .int 0, .ref m_begin, .ref m_table, .ref m_handlers, .ref m_base, .ref m_locals, .ref m_self, .ref m_found, .ref m_place, .ref m_next, .int 0, .ref m_saidKind, .ref m_saidNumber, .int 0, .int 0, .int (-1)]))] := hD
  refine lv_iconst (v := 0) hx hb d_Model_refuse_5 (by decide) ?_
  exact end_i hx hb hr hlocks hS (u := ()) (r := 0) (at_end (hP.sub (ws' := [(h, .inr (8, [.int k, .ref m_bytes, .int 0, .ref m_w, .int 0, .int 0, .ref m_saved, .int 0, .ref m_line, .ref m_met, .ref m_waiting, .ref m_nextParent, .int 0, .ref m_kind, .ref m_number, .int 0, .ref m_begin, .ref m_table, .ref m_handlers, .ref m_base, .ref m_locals, .ref m_self, .ref m_found, .ref m_place, .ref m_next, .int 0, .ref m_saidKind, .ref m_saidNumber, .int 0, .int 0, .int (-1)]))]) [0] rfl) (hD.sub (ws' := [(h, .inr (8, [.int k, .ref m_bytes, .int 0, .ref m_w, .int 0, .int 0, .ref m_saved, .int 0, .ref m_line, .ref m_met, .ref m_waiting, .ref m_nextParent, .int 0, .ref m_kind, .ref m_number, .int 0, .ref m_begin, .ref m_table, .ref m_handlers, .ref m_base, .ref m_locals, .ref m_self, .ref m_found, .ref m_place, .ref m_next, .int 0, .ref m_saidKind, .ref m_saidNumber, .int 0, .int 0, .int (-1)]))]) [0] (by decide) rfl)) (rfl) (Nat.le_of_ble_eq_true rfl) (Nat.le_of_ble_eq_true rfl) d_Model_refuse_6
end
section
set_option maxHeartbeats 4000000 in
set_option maxRecDepth 100000 in
theorem c_Script_init (l : Launch) (D : va_G) (cI cZ cJ : ClassId) (h : Nat) (sz : Nat)  : Met l y_Script_init (.code y_Script_init prog_4_method_1_code 1 none :: AW) ({ frames := 1, cells := 1, slots := 300, locals := 14 }) (va_Pc [.ref h] (pre_ D [(h, .inr (2, [.null, .int 0]))] [(cI, .int), (cZ, .boolean), (cJ, .long)] sz)) (va_Qv (fun (u : Nat) => True) (fun u t => match u with | b => post_ D (va_A [(h, .inr (2, [.null, .int 0]))] sz) [(h, .inr (2, [.ref b, .int 0])), (b, .inl (cI, 300, .inl (fun _ => 0)))] t) (va_A [(h, .inr (2, [.null, .int 0]))] sz)) 1 300 (va_A [(h, .inr (2, [.null, .int 0]))] sz) := by
  refine Met.ofW (cc := prog_4_method_1_code) (maxL := 1) (ret := none) (by decide) rfl ?_
  intro p e s m args below meth c s₁ B hml hv
  obtain ⟨rfl, rfl, hP, hK, hD0, hT⟩ := hv
  have hx := B.exec
  have hb := B.bytes
  have hr := B.returns
  have hts0 := atoms_spec (ws := .code y_Script_init prog_4_method_1_code 1 none :: AW) B.pre
  have hts : ∀ w ∈ AW, w.before [.ref h].toArray s = true := fun w h => hts0 w (List.mem_cons_of_mem _ h)
  have hown : s.vm.findClass "TaleMachine$Script" = some m.cls := findClass_of_methodNamed B.named
  have hlocks := B.notSynchronized
  have hin : meth.name = "<init>" := (name_of_methodNamed B.named B.method).1
  have hD := hD0.self (sz := s.heap.size)
  generalize hAe : va_A [(h, .inr (2, [.null, .int 0]))] s.heap.size = A at hD ⊢
  have hA : ∀ q : Nat, s.heap.size ≤ q → A q := fun q h => by rw [← hAe]; exact Or.inr h
  have hS : va_S A s.heap s.heap [] := va_S.rf
  have hl := lv_entry ([.ref h]) (n := 1) (Nat.le_of_ble_eq_true rfl)
  rw [lg_entry_eq]
  generalize (lg_sl ([.ref h]) ++ List.replicate (1 - (lg_sl ([.ref h])).length) Slot.unset).toArray = ls at hl ⊢
  have hl : lv_has ls 1 [(0, .ref h)] := hl
  refine lv_aload_n hx hb d_Script_init_0 rfl (lv_at hl 0 rfl) ?_
  refine W.objInit hx hb hown (hts _ k_1) (hts _ k_2) (hts _ k_3) rfl (by rw [hml]; exact hl.1) rfl d_Script_init_1 (Nat.le_of_ble_eq_true rfl) (Nat.le_of_ble_eq_true rfl) ?_
  refine W.eq (g2 := F0 m 4 ls []) rfl ?_
  refine lv_aload_n hx hb d_Script_init_4 rfl (lv_at hl 0 rfl) ?_
  refine lv_sipush (v := 300) hx hb d_Script_init_5 (by decide) ?_
  refine nw_i hx hb (hts _ k_4) hK 0 rfl hP hD hS hA (n := 300) (N' := 300) (by decide) (by decide) (by decide) (Nat.le_of_ble_eq_true rfl) (Nat.le_of_ble_eq_true rfl) d_Script_init_8 (fun q1 H hP hD hS => ?_)
  have hP : va_P D cL [(h, .inr (2, [.null, .int 0])), (q1, .inl (cI, 300, .inl (fun _ => 0)))] H := hP
  have hD : va_D A [(h, .inr (2, [.null, .int 0])), (q1, .inl (cI, 300, .inl (fun _ => 0)))] := hD
  refine W.widen (k := 1) (n := 300) (Nat.le_of_ble_eq_true rfl) (Nat.le_of_ble_eq_true rfl) ?_
  refine va_putF (D := D) (ci := 2) (v := .ref q1) (ty := .array .int) (C := "TaleMachine$Script") (T := F_Script) (N := 2) hx hb hts in_Script t_Script t_Script_ok n_Script hown hK hP hD hS 0 rfl rfl 0 (by decide) (hts _ k_5) (fun _ h9 => h9) rfl hin rfl (by decide +kernel) rfl rfl (Nat.le_of_ble_eq_true rfl) d_Script_init_10 (fun H locs hP hD hS => ?_)
  have hP : va_P D cL [(h, .inr (2, [.ref q1, .int 0])), (q1, .inl (cI, 300, .inl (fun _ => 0)))] H := hP
  have hD : va_D A [(h, .inr (2, [.ref q1, .int 0])), (q1, .inl (cI, 300, .inl (fun _ => 0)))] := hD
  exact end_v hx hb hr hlocks hS (u := q1) (at_end (hP.sub (ws' := [(h, .inr (2, [.ref q1, .int 0])), (q1, .inl (cI, 300, .inl (fun _ => 0)))]) [0, 1] rfl) (hD.sub (ws' := [(h, .inr (2, [.ref q1, .int 0])), (q1, .inl (cI, 300, .inl (fun _ => 0)))]) [0, 1] (by decide) rfl)) (trivial) (Nat.le_of_ble_eq_true rfl) (Nat.le_of_ble_eq_true rfl) d_Script_init_13
end
section
theorem i_vc : Claimed_1_1 ∧ Claimed_1_2 := sorry
end
