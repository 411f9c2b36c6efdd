section
-- ===== PART A: goes FIRST, ahead of the names: the tables' words, and 'selects' of the private methods out of them =====
/-- a private method of a class that the tables say can be made, by its rows of tables_1 -/
def lw_okq (q : MethodName × Nat) : Prop := (q.1.cls ≠ "java/lang/invoke/MethodHandle" ∧ q.1.cls ≠ "java/lang/invoke/VarHandle") ∧ Cond.instantiable q.1.cls q.2 ∈ tables_1 ∧ Cond.privateMethod q.1 ∈ tables_1 ∧ Cond.instanceMethod q.1 ∈ tables_1
theorem lw_p0 : lw_okq (⟨"java/lang/Throwable", "fillInStackTrace", "(I)Ljava/lang/Throwable;"⟩, 6) := ⟨⟨by decide +kernel, by decide +kernel⟩, List.mem_of_getElem? (i := 391) (by decide +kernel), List.mem_of_getElem? (i := 389) (by decide +kernel), List.mem_of_getElem? (i := 390) (by decide +kernel)⟩
theorem lw_p1 : lw_okq (⟨"TurnHall$Floor", "end", "(LTurnHall$Worker;I)V"⟩, 10) := ⟨⟨by decide +kernel, by decide +kernel⟩, List.mem_of_getElem? (i := 29) (by decide +kernel), List.mem_of_getElem? (i := 577) (by decide +kernel), List.mem_of_getElem? (i := 578) (by decide +kernel)⟩
theorem lw_p2 : lw_okq (⟨"TurnHall", "nextWorker", "()LTurnHall$Worker;"⟩, 12) := ⟨⟨by decide +kernel, by decide +kernel⟩, List.mem_of_getElem? (i := 21) (by decide +kernel), List.mem_of_getElem? (i := 609) (by decide +kernel), List.mem_of_getElem? (i := 610) (by decide +kernel)⟩
theorem lw_p3 : lw_okq (⟨"TurnHall", "beginTurn", "()V"⟩, 12) := ⟨⟨by decide +kernel, by decide +kernel⟩, List.mem_of_getElem? (i := 21) (by decide +kernel), List.mem_of_getElem? (i := 613) (by decide +kernel), List.mem_of_getElem? (i := 614) (by decide +kernel)⟩
theorem lw_p4 : lw_okq (⟨"TurnHall", "passOver", "()V"⟩, 12) := ⟨⟨by decide +kernel, by decide +kernel⟩, List.mem_of_getElem? (i := 21) (by decide +kernel), List.mem_of_getElem? (i := 617) (by decide +kernel), List.mem_of_getElem? (i := 618) (by decide +kernel)⟩
theorem lw_p5 : lw_okq (⟨"TurnHall", "nextReady", "()I"⟩, 12) := ⟨⟨by decide +kernel, by decide +kernel⟩, List.mem_of_getElem? (i := 21) (by decide +kernel), List.mem_of_getElem? (i := 633) (by decide +kernel), List.mem_of_getElem? (i := 634) (by decide +kernel)⟩
theorem lw_p6 : lw_okq (⟨"TurnHall", "perform", "(LTurnHall$Worker;)I"⟩, 12) := ⟨⟨by decide +kernel, by decide +kernel⟩, List.mem_of_getElem? (i := 21) (by decide +kernel), List.mem_of_getElem? (i := 637) (by decide +kernel), List.mem_of_getElem? (i := 638) (by decide +kernel)⟩
theorem lw_p7 : lw_okq (⟨"TurnHall", "registerStep", "(LTurnHall$Worker;IIJ)I"⟩, 12) := ⟨⟨by decide +kernel, by decide +kernel⟩, List.mem_of_getElem? (i := 21) (by decide +kernel), List.mem_of_getElem? (i := 647) (by decide +kernel), List.mem_of_getElem? (i := 648) (by decide +kernel)⟩
theorem lw_p8 : lw_okq (⟨"TurnHall", "flowStep", "(LTurnHall$Worker;IJJ)I"⟩, 12) := ⟨⟨by decide +kernel, by decide +kernel⟩, List.mem_of_getElem? (i := 21) (by decide +kernel), List.mem_of_getElem? (i := 659) (by decide +kernel), List.mem_of_getElem? (i := 660) (by decide +kernel)⟩
theorem lw_p9 : lw_okq (⟨"TurnHall", "monitorStep", "(LTurnHall$Worker;ILTurnHall$Monitor;I)I"⟩, 12) := ⟨⟨by decide +kernel, by decide +kernel⟩, List.mem_of_getElem? (i := 21) (by decide +kernel), List.mem_of_getElem? (i := 668) (by decide +kernel), List.mem_of_getElem? (i := 669) (by decide +kernel)⟩
theorem lw_p10 : lw_okq (⟨"TurnHall$Line", "cut", "(LTurnHall$Worker;LTurnHall$Worker;)V"⟩, 3) := ⟨⟨by decide +kernel, by decide +kernel⟩, List.mem_of_getElem? (i := 161) (by decide +kernel), List.mem_of_getElem? (i := 697) (by decide +kernel), List.mem_of_getElem? (i := 698) (by decide +kernel)⟩
theorem lw_p11 : lw_okq (⟨"TurnHall$Monitor", "passTo", "(LTurnHall$Worker;)V"⟩, 6) := ⟨⟨by decide +kernel, by decide +kernel⟩, List.mem_of_getElem? (i := 155) (by decide +kernel), List.mem_of_getElem? (i := 701) (by decide +kernel), List.mem_of_getElem? (i := 702) (by decide +kernel)⟩
theorem lw_p12 : lw_okq (⟨"TurnHall", "await", "(LTurnHall$Monitor;LTurnHall$Worker;J)I"⟩, 12) := ⟨⟨by decide +kernel, by decide +kernel⟩, List.mem_of_getElem? (i := 21) (by decide +kernel), List.mem_of_getElem? (i := 715) (by decide +kernel), List.mem_of_getElem? (i := 716) (by decide +kernel)⟩
theorem lw_p13 : lw_okq (⟨"TurnHall", "threadStep", "(LTurnHall$Worker;III)I"⟩, 12) := ⟨⟨by decide +kernel, by decide +kernel⟩, List.mem_of_getElem? (i := 21) (by decide +kernel), List.mem_of_getElem? (i := 731) (by decide +kernel), List.mem_of_getElem? (i := 732) (by decide +kernel)⟩
theorem lw_p14 : lw_okq (⟨"TurnHall", "sleep", "(LTurnHall$Worker;J)I"⟩, 12) := ⟨⟨by decide +kernel, by decide +kernel⟩, List.mem_of_getElem? (i := 21) (by decide +kernel), List.mem_of_getElem? (i := 735) (by decide +kernel), List.mem_of_getElem? (i := 736) (by decide +kernel)⟩
theorem lw_p15 : lw_okq (⟨"TurnHall", "start", "(LTurnHall$Worker;II)I"⟩, 12) := ⟨⟨by decide +kernel, by decide +kernel⟩, List.mem_of_getElem? (i := 21) (by decide +kernel), List.mem_of_getElem? (i := 741) (by decide +kernel), List.mem_of_getElem? (i := 742) (by decide +kernel)⟩
def lw_privs_1 : List (MethodName × Nat) := [(⟨"java/lang/Throwable", "fillInStackTrace", "(I)Ljava/lang/Throwable;"⟩, 6), (⟨"TurnHall$Floor", "end", "(LTurnHall$Worker;I)V"⟩, 10), (⟨"TurnHall", "nextWorker", "()LTurnHall$Worker;"⟩, 12), (⟨"TurnHall", "beginTurn", "()V"⟩, 12), (⟨"TurnHall", "passOver", "()V"⟩, 12), (⟨"TurnHall", "nextReady", "()I"⟩, 12), (⟨"TurnHall", "perform", "(LTurnHall$Worker;)I"⟩, 12), (⟨"TurnHall", "registerStep", "(LTurnHall$Worker;IIJ)I"⟩, 12), (⟨"TurnHall", "flowStep", "(LTurnHall$Worker;IJJ)I"⟩, 12), (⟨"TurnHall", "monitorStep", "(LTurnHall$Worker;ILTurnHall$Monitor;I)I"⟩, 12), (⟨"TurnHall$Line", "cut", "(LTurnHall$Worker;LTurnHall$Worker;)V"⟩, 3), (⟨"TurnHall$Monitor", "passTo", "(LTurnHall$Worker;)V"⟩, 6), (⟨"TurnHall", "await", "(LTurnHall$Monitor;LTurnHall$Worker;J)I"⟩, 12), (⟨"TurnHall", "threadStep", "(LTurnHall$Worker;III)I"⟩, 12), (⟨"TurnHall", "sleep", "(LTurnHall$Worker;J)I"⟩, 12), (⟨"TurnHall", "start", "(LTurnHall$Worker;II)I"⟩, 12)]
theorem lw_r1 : ∀ q ∈ lw_privs_1, lw_okq q := List.forall_mem_cons.mpr ⟨lw_p0, List.forall_mem_cons.mpr ⟨lw_p1, List.forall_mem_cons.mpr ⟨lw_p2, List.forall_mem_cons.mpr ⟨lw_p3, List.forall_mem_cons.mpr ⟨lw_p4, List.forall_mem_cons.mpr ⟨lw_p5, List.forall_mem_cons.mpr ⟨lw_p6, List.forall_mem_cons.mpr ⟨lw_p7, List.forall_mem_cons.mpr ⟨lw_p8, List.forall_mem_cons.mpr ⟨lw_p9, List.forall_mem_cons.mpr ⟨lw_p10, List.forall_mem_cons.mpr ⟨lw_p11, List.forall_mem_cons.mpr ⟨lw_p12, List.forall_mem_cons.mpr ⟨lw_p13, List.forall_mem_cons.mpr ⟨lw_p14, List.forall_mem_cons.mpr ⟨lw_p15, fun _ h => absurd h List.not_mem_nil⟩⟩⟩⟩⟩⟩⟩⟩⟩⟩⟩⟩⟩⟩⟩⟩
theorem lw_p16 : lw_okq (⟨"TurnHall", "join", "(LTurnHall$Worker;JJ)I"⟩, 12) := ⟨⟨by decide +kernel, by decide +kernel⟩, List.mem_of_getElem? (i := 21) (by decide +kernel), List.mem_of_getElem? (i := 748) (by decide +kernel), List.mem_of_getElem? (i := 749) (by decide +kernel)⟩
theorem lw_p17 : lw_okq (⟨"TurnHall", "park", "(LTurnHall$Worker;J)I"⟩, 12) := ⟨⟨by decide +kernel, by decide +kernel⟩, List.mem_of_getElem? (i := 21) (by decide +kernel), List.mem_of_getElem? (i := 753) (by decide +kernel), List.mem_of_getElem? (i := 754) (by decide +kernel)⟩
theorem lw_p18 : lw_okq (⟨"TurnHall", "unpark", "(J)I"⟩, 12) := ⟨⟨by decide +kernel, by decide +kernel⟩, List.mem_of_getElem? (i := 21) (by decide +kernel), List.mem_of_getElem? (i := 757) (by decide +kernel), List.mem_of_getElem? (i := 758) (by decide +kernel)⟩
theorem lw_p19 : lw_okq (⟨"TurnHall", "stir", "(J)I"⟩, 12) := ⟨⟨by decide +kernel, by decide +kernel⟩, List.mem_of_getElem? (i := 21) (by decide +kernel), List.mem_of_getElem? (i := 762) (by decide +kernel), List.mem_of_getElem? (i := 763) (by decide +kernel)⟩
theorem lw_p20 : lw_okq (⟨"TurnHall$Semaphore", "serve", "()V"⟩, 4) := ⟨⟨by decide +kernel, by decide +kernel⟩, List.mem_of_getElem? (i := 236) (by decide +kernel), List.mem_of_getElem? (i := 781) (by decide +kernel), List.mem_of_getElem? (i := 782) (by decide +kernel)⟩
theorem lw_p21 : lw_okq (⟨"TurnHall", "lockStep", "(LTurnHall$Worker;ILTurnHall$Lock;)I"⟩, 12) := ⟨⟨by decide +kernel, by decide +kernel⟩, List.mem_of_getElem? (i := 21) (by decide +kernel), List.mem_of_getElem? (i := 802) (by decide +kernel), List.mem_of_getElem? (i := 803) (by decide +kernel)⟩
theorem lw_p22 : lw_okq (⟨"TurnHall$Lock", "addRead", "(LTurnHall$Worker;)V"⟩, 6) := ⟨⟨by decide +kernel, by decide +kernel⟩, List.mem_of_getElem? (i := 206) (by decide +kernel), List.mem_of_getElem? (i := 810) (by decide +kernel), List.mem_of_getElem? (i := 811) (by decide +kernel)⟩
theorem lw_p23 : lw_okq (⟨"TurnHall$Lock", "lineUp", "(LTurnHall$Worker;Z)V"⟩, 6) := ⟨⟨by decide +kernel, by decide +kernel⟩, List.mem_of_getElem? (i := 206) (by decide +kernel), List.mem_of_getElem? (i := 814) (by decide +kernel), List.mem_of_getElem? (i := 815) (by decide +kernel)⟩
theorem lw_p24 : lw_okq (⟨"TurnHall$Lock", "addWrite", "(LTurnHall$Worker;)V"⟩, 6) := ⟨⟨by decide +kernel, by decide +kernel⟩, List.mem_of_getElem? (i := 206) (by decide +kernel), List.mem_of_getElem? (i := 825) (by decide +kernel), List.mem_of_getElem? (i := 826) (by decide +kernel)⟩
theorem lw_p25 : lw_okq (⟨"TurnHall$Lock", "serve", "()V"⟩, 6) := ⟨⟨by decide +kernel, by decide +kernel⟩, List.mem_of_getElem? (i := 206) (by decide +kernel), List.mem_of_getElem? (i := 833) (by decide +kernel), List.mem_of_getElem? (i := 834) (by decide +kernel)⟩
theorem lw_p26 : lw_okq (⟨"TurnHall$Lock", "isFreeForFirst", "()Z"⟩, 6) := ⟨⟨by decide +kernel, by decide +kernel⟩, List.mem_of_getElem? (i := 206) (by decide +kernel), List.mem_of_getElem? (i := 837) (by decide +kernel), List.mem_of_getElem? (i := 838) (by decide +kernel)⟩
theorem lw_p27 : lw_okq (⟨"TurnHall", "semaphoreStep", "(LTurnHall$Worker;ILTurnHall$Semaphore;I)I"⟩, 12) := ⟨⟨by decide +kernel, by decide +kernel⟩, List.mem_of_getElem? (i := 21) (by decide +kernel), List.mem_of_getElem? (i := 847) (by decide +kernel), List.mem_of_getElem? (i := 848) (by decide +kernel)⟩
theorem lw_p28 : lw_okq (⟨"TurnHall", "comeTo", "(LTurnHall$Barrier;LTurnHall$Worker;J)I"⟩, 12) := ⟨⟨by decide +kernel, by decide +kernel⟩, List.mem_of_getElem? (i := 21) (by decide +kernel), List.mem_of_getElem? (i := 863) (by decide +kernel), List.mem_of_getElem? (i := 864) (by decide +kernel)⟩
theorem lw_p29 : lw_okq (⟨"TurnHall", "closeStep", "(LTurnHall$Worker;I)V"⟩, 12) := ⟨⟨by decide +kernel, by decide +kernel⟩, List.mem_of_getElem? (i := 21) (by decide +kernel), List.mem_of_getElem? (i := 879) (by decide +kernel), List.mem_of_getElem? (i := 880) (by decide +kernel)⟩
theorem lw_p30 : lw_okq (⟨"TurnHall", "endWait", "(LTurnHall$Worker;)V"⟩, 12) := ⟨⟨by decide +kernel, by decide +kernel⟩, List.mem_of_getElem? (i := 21) (by decide +kernel), List.mem_of_getElem? (i := 899) (by decide +kernel), List.mem_of_getElem? (i := 900) (by decide +kernel)⟩
theorem lw_p31 : lw_okq (⟨"TurnHall", "awaitedBy", "(LTurnHall$Worker;)I"⟩, 12) := ⟨⟨by decide +kernel, by decide +kernel⟩, List.mem_of_getElem? (i := 21) (by decide +kernel), List.mem_of_getElem? (i := 1003) (by decide +kernel), List.mem_of_getElem? (i := 1004) (by decide +kernel)⟩
def lw_privs_2 : List (MethodName × Nat) := [(⟨"TurnHall", "join", "(LTurnHall$Worker;JJ)I"⟩, 12), (⟨"TurnHall", "park", "(LTurnHall$Worker;J)I"⟩, 12), (⟨"TurnHall", "unpark", "(J)I"⟩, 12), (⟨"TurnHall", "stir", "(J)I"⟩, 12), (⟨"TurnHall$Semaphore", "serve", "()V"⟩, 4), (⟨"TurnHall", "lockStep", "(LTurnHall$Worker;ILTurnHall$Lock;)I"⟩, 12), (⟨"TurnHall$Lock", "addRead", "(LTurnHall$Worker;)V"⟩, 6), (⟨"TurnHall$Lock", "lineUp", "(LTurnHall$Worker;Z)V"⟩, 6), (⟨"TurnHall$Lock", "addWrite", "(LTurnHall$Worker;)V"⟩, 6), (⟨"TurnHall$Lock", "serve", "()V"⟩, 6), (⟨"TurnHall$Lock", "isFreeForFirst", "()Z"⟩, 6), (⟨"TurnHall", "semaphoreStep", "(LTurnHall$Worker;ILTurnHall$Semaphore;I)I"⟩, 12), (⟨"TurnHall", "comeTo", "(LTurnHall$Barrier;LTurnHall$Worker;J)I"⟩, 12), (⟨"TurnHall", "closeStep", "(LTurnHall$Worker;I)V"⟩, 12), (⟨"TurnHall", "endWait", "(LTurnHall$Worker;)V"⟩, 12), (⟨"TurnHall", "awaitedBy", "(LTurnHall$Worker;)I"⟩, 12)]
theorem lw_r2 : ∀ q ∈ lw_privs_2, lw_okq q := List.forall_mem_cons.mpr ⟨lw_p16, List.forall_mem_cons.mpr ⟨lw_p17, List.forall_mem_cons.mpr ⟨lw_p18, List.forall_mem_cons.mpr ⟨lw_p19, List.forall_mem_cons.mpr ⟨lw_p20, List.forall_mem_cons.mpr ⟨lw_p21, List.forall_mem_cons.mpr ⟨lw_p22, List.forall_mem_cons.mpr ⟨lw_p23, List.forall_mem_cons.mpr ⟨lw_p24, List.forall_mem_cons.mpr ⟨lw_p25, List.forall_mem_cons.mpr ⟨lw_p26, List.forall_mem_cons.mpr ⟨lw_p27, List.forall_mem_cons.mpr ⟨lw_p28, List.forall_mem_cons.mpr ⟨lw_p29, List.forall_mem_cons.mpr ⟨lw_p30, List.forall_mem_cons.mpr ⟨lw_p31, fun _ h => absurd h List.not_mem_nil⟩⟩⟩⟩⟩⟩⟩⟩⟩⟩⟩⟩⟩⟩⟩⟩
theorem lw_p32 : lw_okq (⟨"TurnHallModel", "bad", "()I"⟩, 48) := ⟨⟨by decide +kernel, by decide +kernel⟩, List.mem_of_getElem? (i := 1018) (by decide +kernel), List.mem_of_getElem? (i := 1178) (by decide +kernel), List.mem_of_getElem? (i := 1179) (by decide +kernel)⟩
theorem lw_p33 : lw_okq (⟨"TurnHallModel", "not", "()I"⟩, 48) := ⟨⟨by decide +kernel, by decide +kernel⟩, List.mem_of_getElem? (i := 1018) (by decide +kernel), List.mem_of_getElem? (i := 1182) (by decide +kernel), List.mem_of_getElem? (i := 1183) (by decide +kernel)⟩
theorem lw_p34 : lw_okq (⟨"TurnHallModel", "make", "(I)V"⟩, 48) := ⟨⟨by decide +kernel, by decide +kernel⟩, List.mem_of_getElem? (i := 1018) (by decide +kernel), List.mem_of_getElem? (i := 1194) (by decide +kernel), List.mem_of_getElem? (i := 1195) (by decide +kernel)⟩
theorem lw_p35 : lw_okq (⟨"TurnHallModel", "settle", "(I)V"⟩, 48) := ⟨⟨by decide +kernel, by decide +kernel⟩, List.mem_of_getElem? (i := 1018) (by decide +kernel), List.mem_of_getElem? (i := 1198) (by decide +kernel), List.mem_of_getElem? (i := 1199) (by decide +kernel)⟩
theorem lw_p36 : lw_okq (⟨"TurnHallModel", "top", "(I)I"⟩, 48) := ⟨⟨by decide +kernel, by decide +kernel⟩, List.mem_of_getElem? (i := 1018) (by decide +kernel), List.mem_of_getElem? (i := 1202) (by decide +kernel), List.mem_of_getElem? (i := 1203) (by decide +kernel)⟩
theorem lw_p37 : lw_okq (⟨"TurnHallModel", "ends", "(II)V"⟩, 48) := ⟨⟨by decide +kernel, by decide +kernel⟩, List.mem_of_getElem? (i := 1018) (by decide +kernel), List.mem_of_getElem? (i := 1206) (by decide +kernel), List.mem_of_getElem? (i := 1207) (by decide +kernel)⟩
theorem lw_p38 : lw_okq (⟨"TurnHallModel", "first", "(II)I"⟩, 48) := ⟨⟨by decide +kernel, by decide +kernel⟩, List.mem_of_getElem? (i := 1018) (by decide +kernel), List.mem_of_getElem? (i := 1210) (by decide +kernel), List.mem_of_getElem? (i := 1211) (by decide +kernel)⟩
theorem lw_p39 : lw_okq (⟨"TurnHallModel", "wakes", "(I)V"⟩, 48) := ⟨⟨by decide +kernel, by decide +kernel⟩, List.mem_of_getElem? (i := 1018) (by decide +kernel), List.mem_of_getElem? (i := 1214) (by decide +kernel), List.mem_of_getElem? (i := 1215) (by decide +kernel)⟩
theorem lw_p40 : lw_okq (⟨"TurnHallModel", "none", "(I)Z"⟩, 48) := ⟨⟨by decide +kernel, by decide +kernel⟩, List.mem_of_getElem? (i := 1018) (by decide +kernel), List.mem_of_getElem? (i := 1222) (by decide +kernel), List.mem_of_getElem? (i := 1223) (by decide +kernel)⟩
theorem lw_p41 : lw_okq (⟨"TurnHallModel", "passOver", "()V"⟩, 48) := ⟨⟨by decide +kernel, by decide +kernel⟩, List.mem_of_getElem? (i := 1018) (by decide +kernel), List.mem_of_getElem? (i := 1230) (by decide +kernel), List.mem_of_getElem? (i := 1231) (by decide +kernel)⟩
theorem lw_p42 : lw_okq (⟨"TurnHallModel", "shift", "()V"⟩, 48) := ⟨⟨by decide +kernel, by decide +kernel⟩, List.mem_of_getElem? (i := 1018) (by decide +kernel), List.mem_of_getElem? (i := 1234) (by decide +kernel), List.mem_of_getElem? (i := 1235) (by decide +kernel)⟩
theorem lw_p43 : lw_okq (⟨"TurnHallModel", "takes", "()Z"⟩, 48) := ⟨⟨by decide +kernel, by decide +kernel⟩, List.mem_of_getElem? (i := 1018) (by decide +kernel), List.mem_of_getElem? (i := 1238) (by decide +kernel), List.mem_of_getElem? (i := 1239) (by decide +kernel)⟩
theorem lw_p44 : lw_okq (⟨"TurnHallModel", "step", "(I)V"⟩, 48) := ⟨⟨by decide +kernel, by decide +kernel⟩, List.mem_of_getElem? (i := 1018) (by decide +kernel), List.mem_of_getElem? (i := 1242) (by decide +kernel), List.mem_of_getElem? (i := 1243) (by decide +kernel)⟩
theorem lw_p45 : lw_okq (⟨"TurnHallModel", "raise", "(IJ)V"⟩, 48) := ⟨⟨by decide +kernel, by decide +kernel⟩, List.mem_of_getElem? (i := 1018) (by decide +kernel), List.mem_of_getElem? (i := 1249) (by decide +kernel), List.mem_of_getElem? (i := 1250) (by decide +kernel)⟩
theorem lw_p46 : lw_okq (⟨"TurnHallModel", "plain", "(IIIJJII)J"⟩, 48) := ⟨⟨by decide +kernel, by decide +kernel⟩, List.mem_of_getElem? (i := 1018) (by decide +kernel), List.mem_of_getElem? (i := 1253) (by decide +kernel), List.mem_of_getElem? (i := 1254) (by decide +kernel)⟩
theorem lw_p47 : lw_okq (⟨"TurnHallModel", "monitors", "(IIII)J"⟩, 48) := ⟨⟨by decide +kernel, by decide +kernel⟩, List.mem_of_getElem? (i := 1018) (by decide +kernel), List.mem_of_getElem? (i := 1262) (by decide +kernel), List.mem_of_getElem? (i := 1263) (by decide +kernel)⟩
def lw_privs_3 : List (MethodName × Nat) := [(⟨"TurnHallModel", "bad", "()I"⟩, 48), (⟨"TurnHallModel", "not", "()I"⟩, 48), (⟨"TurnHallModel", "make", "(I)V"⟩, 48), (⟨"TurnHallModel", "settle", "(I)V"⟩, 48), (⟨"TurnHallModel", "top", "(I)I"⟩, 48), (⟨"TurnHallModel", "ends", "(II)V"⟩, 48), (⟨"TurnHallModel", "first", "(II)I"⟩, 48), (⟨"TurnHallModel", "wakes", "(I)V"⟩, 48), (⟨"TurnHallModel", "none", "(I)Z"⟩, 48), (⟨"TurnHallModel", "passOver", "()V"⟩, 48), (⟨"TurnHallModel", "shift", "()V"⟩, 48), (⟨"TurnHallModel", "takes", "()Z"⟩, 48), (⟨"TurnHallModel", "step", "(I)V"⟩, 48), (⟨"TurnHallModel", "raise", "(IJ)V"⟩, 48), (⟨"TurnHallModel", "plain", "(IIIJJII)J"⟩, 48), (⟨"TurnHallModel", "monitors", "(IIII)J"⟩, 48)]
theorem lw_r3 : ∀ q ∈ lw_privs_3, lw_okq q := List.forall_mem_cons.mpr ⟨lw_p32, List.forall_mem_cons.mpr ⟨lw_p33, List.forall_mem_cons.mpr ⟨lw_p34, List.forall_mem_cons.mpr ⟨lw_p35, List.forall_mem_cons.mpr ⟨lw_p36, List.forall_mem_cons.mpr ⟨lw_p37, List.forall_mem_cons.mpr ⟨lw_p38, List.forall_mem_cons.mpr ⟨lw_p39, List.forall_mem_cons.mpr ⟨lw_p40, List.forall_mem_cons.mpr ⟨lw_p41, List.forall_mem_cons.mpr ⟨lw_p42, List.forall_mem_cons.mpr ⟨lw_p43, List.forall_mem_cons.mpr ⟨lw_p44, List.forall_mem_cons.mpr ⟨lw_p45, List.forall_mem_cons.mpr ⟨lw_p46, List.forall_mem_cons.mpr ⟨lw_p47, fun _ h => absurd h List.not_mem_nil⟩⟩⟩⟩⟩⟩⟩⟩⟩⟩⟩⟩⟩⟩⟩⟩
theorem lw_p48 : lw_okq (⟨"TurnHallModel", "waits", "(IIIJ)V"⟩, 48) := ⟨⟨by decide +kernel, by decide +kernel⟩, List.mem_of_getElem? (i := 1018) (by decide +kernel), List.mem_of_getElem? (i := 1266) (by decide +kernel), List.mem_of_getElem? (i := 1267) (by decide +kernel)⟩
theorem lw_p49 : lw_okq (⟨"TurnHallModel", "grant", "(I)V"⟩, 48) := ⟨⟨by decide +kernel, by decide +kernel⟩, List.mem_of_getElem? (i := 1018) (by decide +kernel), List.mem_of_getElem? (i := 1271) (by decide +kernel), List.mem_of_getElem? (i := 1272) (by decide +kernel)⟩
theorem lw_p50 : lw_okq (⟨"TurnHallModel", "has", "(II)V"⟩, 48) := ⟨⟨by decide +kernel, by decide +kernel⟩, List.mem_of_getElem? (i := 1018) (by decide +kernel), List.mem_of_getElem? (i := 1275) (by decide +kernel), List.mem_of_getElem? (i := 1276) (by decide +kernel)⟩
theorem lw_p51 : lw_okq (⟨"TurnHallModel", "asks", "(IZ)V"⟩, 48) := ⟨⟨by decide +kernel, by decide +kernel⟩, List.mem_of_getElem? (i := 1018) (by decide +kernel), List.mem_of_getElem? (i := 1280) (by decide +kernel), List.mem_of_getElem? (i := 1281) (by decide +kernel)⟩
theorem lw_p52 : lw_okq (⟨"TurnHallModel", "others", "(IIJII)J"⟩, 48) := ⟨⟨by decide +kernel, by decide +kernel⟩, List.mem_of_getElem? (i := 1018) (by decide +kernel), List.mem_of_getElem? (i := 1284) (by decide +kernel), List.mem_of_getElem? (i := 1285) (by decide +kernel)⟩
theorem lw_p53 : lw_okq (⟨"TurnHallModel", "interrupts", "(I)V"⟩, 48) := ⟨⟨by decide +kernel, by decide +kernel⟩, List.mem_of_getElem? (i := 1018) (by decide +kernel), List.mem_of_getElem? (i := 1289) (by decide +kernel), List.mem_of_getElem? (i := 1290) (by decide +kernel)⟩
theorem lw_p54 : lw_okq (⟨"TurnHallModel", "serves", "(I)V"⟩, 48) := ⟨⟨by decide +kernel, by decide +kernel⟩, List.mem_of_getElem? (i := 1018) (by decide +kernel), List.mem_of_getElem? (i := 1293) (by decide +kernel), List.mem_of_getElem? (i := 1294) (by decide +kernel)⟩
theorem lw_p55 : lw_okq (⟨"TurnHallModel", "breaks", "(I)V"⟩, 48) := ⟨⟨by decide +kernel, by decide +kernel⟩, List.mem_of_getElem? (i := 1018) (by decide +kernel), List.mem_of_getElem? (i := 1297) (by decide +kernel), List.mem_of_getElem? (i := 1298) (by decide +kernel)⟩
theorem lw_p56 : lw_okq (⟨"TurnHallModel", "locks", "(III)J"⟩, 48) := ⟨⟨by decide +kernel, by decide +kernel⟩, List.mem_of_getElem? (i := 1018) (by decide +kernel), List.mem_of_getElem? (i := 1301) (by decide +kernel), List.mem_of_getElem? (i := 1302) (by decide +kernel)⟩
theorem lw_p57 : lw_okq (⟨"TurnHallModel", "passes", "(I)V"⟩, 48) := ⟨⟨by decide +kernel, by decide +kernel⟩, List.mem_of_getElem? (i := 1018) (by decide +kernel), List.mem_of_getElem? (i := 1305) (by decide +kernel), List.mem_of_getElem? (i := 1306) (by decide +kernel)⟩
theorem lw_p58 : lw_okq (⟨"TurnHallModel", "meetings", "(IIIII)J"⟩, 48) := ⟨⟨by decide +kernel, by decide +kernel⟩, List.mem_of_getElem? (i := 1018) (by decide +kernel), List.mem_of_getElem? (i := 1309) (by decide +kernel), List.mem_of_getElem? (i := 1310) (by decide +kernel)⟩
theorem lw_p59 : lw_okq (⟨"TurnHallModel", "gives", "(IJ)V"⟩, 48) := ⟨⟨by decide +kernel, by decide +kernel⟩, List.mem_of_getElem? (i := 1018) (by decide +kernel), List.mem_of_getElem? (i := 1313) (by decide +kernel), List.mem_of_getElem? (i := 1314) (by decide +kernel)⟩
theorem lw_p60 : lw_okq (⟨"TurnHallModel", "many", "(II)I"⟩, 48) := ⟨⟨by decide +kernel, by decide +kernel⟩, List.mem_of_getElem? (i := 1018) (by decide +kernel), List.mem_of_getElem? (i := 1317) (by decide +kernel), List.mem_of_getElem? (i := 1318) (by decide +kernel)⟩
theorem lw_p61 : lw_okq (⟨"TurnHallModel", "waiting", "(I)Z"⟩, 48) := ⟨⟨by decide +kernel, by decide +kernel⟩, List.mem_of_getElem? (i := 1018) (by decide +kernel), List.mem_of_getElem? (i := 1326) (by decide +kernel), List.mem_of_getElem? (i := 1327) (by decide +kernel)⟩
def lw_privs_4 : List (MethodName × Nat) := [(⟨"TurnHallModel", "waits", "(IIIJ)V"⟩, 48), (⟨"TurnHallModel", "grant", "(I)V"⟩, 48), (⟨"TurnHallModel", "has", "(II)V"⟩, 48), (⟨"TurnHallModel", "asks", "(IZ)V"⟩, 48), (⟨"TurnHallModel", "others", "(IIJII)J"⟩, 48), (⟨"TurnHallModel", "interrupts", "(I)V"⟩, 48), (⟨"TurnHallModel", "serves", "(I)V"⟩, 48), (⟨"TurnHallModel", "breaks", "(I)V"⟩, 48), (⟨"TurnHallModel", "locks", "(III)J"⟩, 48), (⟨"TurnHallModel", "passes", "(I)V"⟩, 48), (⟨"TurnHallModel", "meetings", "(IIIII)J"⟩, 48), (⟨"TurnHallModel", "gives", "(IJ)V"⟩, 48), (⟨"TurnHallModel", "many", "(II)I"⟩, 48), (⟨"TurnHallModel", "waiting", "(I)Z"⟩, 48)]
theorem lw_r4 : ∀ q ∈ lw_privs_4, lw_okq q := List.forall_mem_cons.mpr ⟨lw_p48, List.forall_mem_cons.mpr ⟨lw_p49, List.forall_mem_cons.mpr ⟨lw_p50, List.forall_mem_cons.mpr ⟨lw_p51, List.forall_mem_cons.mpr ⟨lw_p52, List.forall_mem_cons.mpr ⟨lw_p53, List.forall_mem_cons.mpr ⟨lw_p54, List.forall_mem_cons.mpr ⟨lw_p55, List.forall_mem_cons.mpr ⟨lw_p56, List.forall_mem_cons.mpr ⟨lw_p57, List.forall_mem_cons.mpr ⟨lw_p58, List.forall_mem_cons.mpr ⟨lw_p59, List.forall_mem_cons.mpr ⟨lw_p60, List.forall_mem_cons.mpr ⟨lw_p61, fun _ h => absurd h List.not_mem_nil⟩⟩⟩⟩⟩⟩⟩⟩⟩⟩⟩⟩⟩⟩
def lw_privs : List (MethodName × Nat) := lw_privs_1 ++ (lw_privs_2 ++ (lw_privs_3 ++ (lw_privs_4)))
def lw_tbl : List Cond := k2_sels lw_privs ++ tables_1
theorem lw_privs_ok : ∀ q ∈ lw_privs, lw_okq q := by
  show ∀ q ∈ lw_privs_1 ++ (lw_privs_2 ++ (lw_privs_3 ++ (lw_privs_4))), lw_okq q
  exact List.forall_mem_append.mpr ⟨lw_r1, List.forall_mem_append.mpr ⟨lw_r2, List.forall_mem_append.mpr ⟨lw_r3, lw_r4⟩⟩⟩
end
section
/-! ===== BEGIN words of one list among another's, by their places ===== -/
theorem goodIn_r {big : List Cond} (ws : List Cond) (ps : List Nat) (hp : ws = ps.filterMap (fun i => big[i]?)) (h : ws.all goodWord = true) : GoodIn big ws := by
  intro w hw
  have h1 := List.all_eq_true.mp h w hw
  rw [hp] at hw
  obtain ⟨i, -, hi⟩ := List.mem_filterMap.mp hw
  have hm : w ∈ big := by first | exact List.mem_of_getElem? hi | exact List.getElem?_mem hi
  exact ⟨hm, good_of_word h1⟩
theorem goodIn_app {big a b : List Cond} (ha : GoodIn big a) (hb : GoodIn big b) : GoodIn big (a ++ b) := fun w h => (List.mem_append.mp h).elim (ha w) (hb w)
theorem goodIn_ca {big a b : List Cond} {c : Cond} (ha : GoodIn big (c :: a)) (hb : GoodIn big b) : GoodIn big (c :: (a ++ b)) := fun w h => (List.mem_cons.mp h).elim (fun e => ha w (List.mem_cons.mpr (Or.inl e))) (fun h => (List.mem_append.mp h).elim (fun h => ha w (List.mem_cons.mpr (Or.inr h))) (hb w))
theorem goodIn_sub {big ws : List Cond} (hm : ∀ w ∈ ws, w ∈ big) (h : ws.all goodWord = true) : GoodIn big ws := fun w hw => ⟨hm w hw, good_of_word (List.all_eq_true.mp h w hw)⟩
/-! ===== END ===== -/

/-! ===== BEGIN exceptions that leave a method, and their catching by the caller (launches without stack traces) ===== -/
section VXA
/-! The laws vx_back, vx_callV, vx_callS, vx_callSW, vx_throw0, vx_throwS follow proofs of the library, with one case more: JvmDerived/Free/Laws.lean (Back.of_free), Shelf42/LK1.lean (callV, callS), Shelf/KitTraced.lean (throwNew0V, throwNewS). -/
/-- where a method has thrown q: the class by its name, the cell, what was written, the world -/
def vx_T (XC : String → State → State → Prop) (st : State) (q : Addr) (t : State) (mc ms : Nat) (free : Addr → Prop) : Prop :=
  ∃ (E : String) (ce : Cell) (L : List Loc), XC E st t ∧ t.heap[q]? = some ce ∧ ce.vm = .none ∧ st.vm.findClass E = some ce.cls ∧ st.WarmedH t.vm ∧ st.sameButNew ({ t with vm := st.vm } : State) L mc ms ∧ ∀ z ∈ L, free z.base
def vx_Q (Qc : Array Value → State → Outcome → State → Prop) (XC : String → State → State → Prop) (mc ms : Nat) (free : Addr → Prop) : Array Value → State → Outcome → State → Prop := fun a st o t =>
  (Qc a st o t ∧ ∃ L, FrameEnd st o t L mc ms ∧ ∀ q ∈ L, free q.base) ∨ ∃ q, o = .threw q ∧ vx_T XC st q t mc ms free
/-- a callee that returns or throws -/
def vx_Met (l : Launch) (y : MethodName) (ws : List Cond) (rm : Room) (Pc : Array Value → State → Prop) (Qc : Array Value → State → Outcome → State → Prop) (XC : String → State → State → Prop) (mc ms : Nat) (free : Addr → Prop) : Prop :=
  MetFree l y (headSpec ws rm) Pc (fun _ _ _ _ _ => True) (vx_Q Qc XC mc ms free)
def vx_Post (XC : String → State → State → Prop) (mc ms : Nat) (free : Addr → Prop) : Pt → Array Value → Addr → Pt → Prop := fun A a q B =>
  ∃ (g : JFrame) (mk : MethodId) (t : State) (L : List Loc) (E : String) (ce : Cell), B.U.heap = t.heap ∧ B.U.vm = t.vm ∧ XC E (A.U.calling g mk a) t ∧ t.heap[q]? = some ce ∧ ce.vm = .none ∧ A.U.vm.findClass E = some ce.cls ∧ B.locs = A.locs ++ L ∧ (∀ z ∈ L, free z.base) ∧ B.cells = A.cells + mc ∧ B.slots = A.slots + ms
def vx_Back (l : Launch) (R : Room) (p : Program) (e : Env) (below : List Frame) (s : State) (sargs : Array Value) (y : MethodName) (len W9 : Nat)
    (Pre : Pt → Array Value → Prop) (Post : Pt → Array Value → Option Value → Pt → Prop) (PostX : Pt → Array Value → Addr → Pt → Prop) : Prop :=
  ∀ (m : MethodId) (meth : Method) (c : Code) (A : Pt) (g : JFrame) (ig : Instr) (mk : MethodId) (a : Array Value),
    Stand p l e R s m sargs below meth c A.U A.locs A.cells A.slots → g.method = m → g.locals.size = c.maxLocals → decode c.code g.pc = .ok (ig, len) →
    2 * g.monitorRoom + (g.stack.map fun v => v.category).sum ≤ W9 → A.U.methodNamed? y = some mk → Pre A a →
    (∃ (v : Option Value) (B : Pt), Stand p l e R s m sargs below meth c B.U B.locs B.cells B.slots ∧ Post A a v B ∧
      Steps p.tables e below (doInvoke e (A.U.setTop g) [] mk a).1 (B.U.setTop { g with pc := g.pc + len, stack := v.toList ++ g.stack })) ∨
    (∃ (q : Addr) (B : Pt), Stand p l e R s m sargs below meth c B.U B.locs B.cells B.slots ∧ PostX A a q B ∧
      Steps p.tables e below (doInvoke e (A.U.setTop g) [] mk a).1 ((B.U.setTop g).pushFrame (.throwing q)))
section Payer
variable {l : Launch} {R : Room} {p : Program} {e : Env} {below : List Frame} {s : State} {sargs : Array Value} {y : MethodName} {len W9 : Nat}
theorem vx_back {ws : List Cond} {rm : Room} {Pc : Array Value → State → Prop} {Qc : Array Value → State → Outcome → State → Prop} {XC : String → State → State → Prop} {mc ms : Nat} {free : Addr → Prop} {bytes : ByteArray} {maxL : Nat} {ret : Option FieldType}
    (hM : vx_Met l y ws rm Pc Qc XC mc ms free) (hblind : FrameBlind Pc) (hrc : rm.cells = mc) (hrs : rm.slots = ms)
    (hframes : rm.frames + 1 ≤ R.frames) (hlocals : W9 + (maxL + 11) + rm.locals ≤ R.locals)
    (hws : ∀ w ∈ ws, ∀ a' U, s.WarmedH U.vm → w.before a' U = true) (hcode : Cond.code y bytes maxL ret ∈ ws) (hinit : ∀ a' U, s.WarmedH U.vm → (Cond.initialized y.cls).before a' U = true) :
    vx_Back l R p e below s sargs y len W9 (PreOf R mc ms Pc) (PostOf Qc mc ms free) (vx_Post XC mc ms free) := by
  intro m meth c A g ig mk a X hg hsize hdg hW hn hp
  have h1 : (headSpec ws rm).pre.before a A.U = true := atoms_intro fun w hw => hws w hw _ _ X.warmed
  have h2 : (Cond.code y bytes maxL ret).before a A.U = true := hws _ hcode _ _ X.warmed
  have h3 : (Cond.initialized y.cls).before a A.U = true := hinit _ _ X.warmed
  have h4 : A.cells + (headSpec ws rm).room.cells ≤ R.cells := by rw [show (headSpec ws rm).room.cells = mc from hrc]; exact hp.1
  have h5 : A.slots + (headSpec ws rm).room.slots ≤ R.slots := by rw [show (headSpec ws rm).room.slots = ms from hrs]; exact hp.2.1
  have hPc : Pc a (A.U.calling g mk a) := hblind _ _ _ _ hp.2.2
  obtain ⟨U, Ls, c0, s0⟩ := A
  dsimp only [Pt.U, Pt.locs, Pt.cells, Pt.slots] at h1 h2 h3 h4 h5 X hn hPc ⊢
  obtain ⟨methY, cY, hmY, hcY, -, hlY, -, -, -, -⟩ := Cond.code_spec hn h2
  obtain ⟨kY, hkY, -⟩ := className_of_methodNamed hn
  have hinitY : kY.init = .initialized := Cond.initialized_spec (findClass_of_methodNamed hn) hkY h3
  have h : At U g.method c below := by rw [hg]; exact X.here
  have hlocals9 : W9 + (maxL + 11) + (headSpec ws rm).room.locals ≤ R.locals := hlocals
  have happ : (headSpec ws rm).appliesLoose y e.platform (U.calling g mk a) = true :=
    Spec.appliesLoose_calling (g := g) h hdg hn hkY hinitY
      (X.room_calling (g := g) (R' := (headSpec ws rm).room) hsize hmY hcY hframes (by rw [hlY]; omega) h4 h5) h1
  obtain ⟨mid, hmid⟩ := h.above
  have hfr : (U.setTop g).frames = (.java g :: mid) ++ below := by rw [State.frames_setTop' g h.top, hmid]; rfl
  obtain ⟨o, s₂, hsteps, -, hend, hq⟩ := Steps.callFree hM p X.admits X.cas X.clock (acts := []) hfr happ hPc trivial
  have hq' : vx_Q Qc XC mc ms free a (U.calling g mk a) o s₂ := hq
  rw [State.frames_setTop' g h.top] at hend
  obtain ⟨g₀, hg0⟩ := Option.isSome_iff_exists.mp h.top
  obtain ⟨r, hr⟩ := State.topJava?_eq_some.mp hg0
  have hr' : (({ U with heap := s₂.heap, slotsUsed := s₂.slotsUsed } : State).setVm s₂.vm).frames = .java g₀ :: r := hr
  rcases hq' with ⟨hqc, L, hfe, hL⟩ | ⟨q, rfl, E, ce, L, hx, hce, hcv, hcl, hW₂, hsm, hL⟩
  · obtain ⟨⟨v, rfl⟩, hW₂, e2, q2, q3, q4, q5, q6⟩ := id hfe
    have e3 : s₂ = ({ (U.calling g mk a).setFrames s₂.frames with heap := s₂.heap, slotsUsed := s₂.slotsUsed } : State).setVm s₂.vm := by
      have : s₂ = ({ s₂ with vm := (U.calling g mk a).vm } : State).setVm s₂.vm := rfl
      rw [e2] at this
      exact this
    obtain ⟨c₂, i₂, len₂, hc₂, hd₂, hf₂⟩ := hend
    have hW' : U.WarmedH s₂.vm := hW₂
    have hcc : c₂ = c := by
      have h1 : s₂.code? g.method = U.code? g.method := by
        rw [State.code?_eq, State.code?_eq, hW'.alike.method?]
      exact Option.some.inj (hc₂.symm.trans (h1.trans h.code))
    subst hcc
    have hlen : len₂ = len := by rw [hdg] at hd₂; cases hd₂; rfl
    subst hlen
    have hs₂ : s₂ = (({ U with heap := s₂.heap, slotsUsed := s₂.slotsUsed } : State).setVm s₂.vm).setTop { g with pc := g.pc + len₂, stack := v.toList ++ g.stack } := by
      refine e3.trans ?_
      rw [hf₂, State.calling_eq h.top, State.setFrames_setFrames, State.setTop_of_frames _ hr', hr]
      rfl
    have hsame : U.sameButNew ({ U with heap := s₂.heap, slotsUsed := s₂.slotsUsed } : State) L mc ms := by
      refine ⟨?_, q2, q3, q4, q5, q6⟩
      obtain ⟨t, ht, -⟩ := State.frames_cons hr
      show ({ U with heap := s₂.heap, slotsUsed := s₂.slotsUsed } : State) = { U.setFrames U.frames with heap := s₂.heap, slotsUsed := s₂.slotsUsed }
      rw [State.setFrames_self ht]
    subst hg
    refine Or.inl ⟨v, ⟨(({ U with heap := s₂.heap, slotsUsed := s₂.slotsUsed } : State).setVm s₂.vm), Ls ++ L, c0 + mc, s0 + ms⟩,
      ⟨X.admits, X.cas, X.clock, X.frames, X.room, X.hears, X.method, X.code, (X.here.setHeapUsed s₂.heap s₂.slotsUsed).setVm hW'.alike, X.tail, State.WarmedH.trans X.warmed hW', X.limits, X.bytes, X.same.trans (hsame.setVm s.vm)⟩,
      ⟨g, mk, s₂, L, rfl, rfl, hqc, rfl, hL, rfl, rfl⟩, ?_⟩
    show Steps p.tables e below _ ((({ U with heap := s₂.heap, slotsUsed := s₂.slotsUsed } : State).setVm s₂.vm).setTop { g with pc := g.pc + len₂, stack := v.toList ++ g.stack })
    rw [← hs₂]
    exact hsteps
  · obtain ⟨e2, q2, q3, q4, q5, q6⟩ := id hsm
    have e3 : s₂ = ({ (U.calling g mk a).setFrames s₂.frames with heap := s₂.heap, slotsUsed := s₂.slotsUsed } : State).setVm s₂.vm := by
      have : s₂ = ({ s₂ with vm := (U.calling g mk a).vm } : State).setVm s₂.vm := rfl
      rw [e2] at this
      exact this
    have hf₂ : s₂.frames = .throwing q :: .java g :: U.frames.tail := hend
    have hW' : U.WarmedH s₂.vm := hW₂
    have hs₂ : s₂ = ((({ U with heap := s₂.heap, slotsUsed := s₂.slotsUsed } : State).setVm s₂.vm).setTop g).pushFrame (.throwing q) := by
      refine e3.trans ?_
      rw [hf₂, State.calling_eq h.top, State.setFrames_setFrames, State.pushFrame, State.frames_setTop _ hr', State.setTop_of_frames _ hr', State.setFrames_setFrames, hr]
      rfl
    have hsame : U.sameButNew ({ U with heap := s₂.heap, slotsUsed := s₂.slotsUsed } : State) L mc ms := by
      refine ⟨?_, q2, q3, q4, q5, q6⟩
      obtain ⟨t, ht, -⟩ := State.frames_cons hr
      show ({ U with heap := s₂.heap, slotsUsed := s₂.slotsUsed } : State) = { U.setFrames U.frames with heap := s₂.heap, slotsUsed := s₂.slotsUsed }
      rw [State.setFrames_self ht]
    subst hg
    refine Or.inr ⟨q, ⟨(({ U with heap := s₂.heap, slotsUsed := s₂.slotsUsed } : State).setVm s₂.vm), Ls ++ L, c0 + mc, s0 + ms⟩,
      ⟨X.admits, X.cas, X.clock, X.frames, X.room, X.hears, X.method, X.code, (X.here.setHeapUsed s₂.heap s₂.slotsUsed).setVm hW'.alike, X.tail, State.WarmedH.trans X.warmed hW', X.limits, X.bytes, X.same.trans (hsame.setVm s.vm)⟩,
      ⟨g, mk, s₂, L, E, ce, rfl, rfl, hx, hce, hcv, hcl, rfl, hL, rfl, rfl⟩, ?_⟩
    show Steps p.tables e below _ (((({ U with heap := s₂.heap, slotsUsed := s₂.slotsUsed } : State).setVm s₂.vm).setTop g).pushFrame (.throwing q))
    rw [← hs₂]
    exact hsteps
end Payer
section Calls
variable {p : Program} {l : Launch} {e : Env} {R : Room} {s : State} {m : MethodId} {args : Array Value} {below : List Frame} {meth : Method} {c : Code} {T : State} {locs : List Loc} {cells slots : Nat}
theorem vx_callV (X : Stand p l e R s m args below meth c T locs cells slots) (hexec : p.tables.exec = Jvm.exec) {own C : String} {index : Nat} {y : MethodName} {bytes : ByteArray} {maxL : Nat} {ret : Option FieldType}
    (hown : s.vm.findClass own = some m.cls) (hlink : (Cond.methodLink own index y).before args s = true) (hinst : (Cond.instanceMethod y).before args s = true) (hsel : (Cond.selects C y y).before args s = true)
    (hcode : (Cond.code y bytes maxL ret).before args s = true) (hy : y.cls ≠ "java/lang/invoke/MethodHandle" ∧ y.cls ≠ "java/lang/invoke/VarHandle")
    {W9 : Nat} {Pre : Pt → Array Value → Prop} {Post : Pt → Array Value → Option Value → Pt → Prop} {PostX : Pt → Array Value → Addr → Pt → Prop} (hK : vx_Back l R p e below s args y 3 W9 Pre Post PostX)
    {b : Addr} {cellB : Cell} (hcell : T.heap[b]? = some cellB) (hobj : cellB.vm.isStatics = false) (hcls : s.vm.findClass C = some cellB.cls)
    {g : JFrame} (hg : g.method = m) (hsize : g.locals.size = c.maxLocals) {argsL rest : List Value} (hlen : ∀ sig, parseMethodDescriptor y.desc = some sig → argsL.length = sig.parameters.length)
    (hstack : g.stack = argsL.reverse ++ .ref b :: rest) (hW : 2 * g.monitorRoom + (rest.map fun v => v.category).sum ≤ W9) (hdg : decode c.code g.pc = .ok (.invokevirtual index, 3))
    (hpre : ∀ vm₁, s.WarmedH vm₁ → Pre ⟨T.setVm vm₁, locs, cells, slots⟩ (Value.ref b :: argsL).toArray) :
    (∃ (v : Option Value) (vm₁ : Vm) (B : Pt), s.WarmedH vm₁ ∧ Stand p l e R s m args below meth c B.U B.locs B.cells B.slots ∧ Post ⟨T.setVm vm₁, locs, cells, slots⟩ (Value.ref b :: argsL).toArray v B ∧
      ∀ target, Steps p.tables e below (B.U.setTop { g with pc := g.pc + 3, stack := v.toList ++ rest }) target → Steps p.tables e below (T.setTop g) target) ∨
    (∃ (q : Addr) (vm₁ : Vm) (B : Pt), s.WarmedH vm₁ ∧ Stand p l e R s m args below meth c B.U B.locs B.cells B.slots ∧ PostX ⟨T.setVm vm₁, locs, cells, slots⟩ (Value.ref b :: argsL).toArray q B ∧
      Steps p.tables e below (T.setTop g) ((B.U.setTop { g with stack := rest }).pushFrame (.throwing q))) := by
  obtain ⟨mk, methM, hnamed, hmethM, hstM, habM⟩ := Cond.instanceMethod_spec hinst
  obtain ⟨methM', cM, hmethM', -, -, -, -, -, -, hsigM⟩ := Cond.code_spec hnamed hcode
  cases hmethM.symm.trans hmethM'
  obtain ⟨c2, r2, m2, q1, q2, q3, q4, kP, hkP, hkPi⟩ := Cond.selects_spec hsel
  cases hcls.symm.trans q1
  cases (State.methodFound?_of_named hnamed hy).symm.trans q2
  cases hnamed.symm.trans q3
  have hselP : selectMethod e.platform s.vm cellB.cls mk = .method mk := by rw [Launch.admits_selectMethod X.admits]; exact q4
  obtain ⟨vm₁, X₁, hstep₁⟩ := X.invokevirtual hexec hown hlink hnamed hmethM hstM hkP hkPi hy (a := b) (cell := cellB) hcell
    (fun z h => by rw [h] at hobj; cases hobj) hselP hmethM habM hkP hkPi (g := g) hg (argsL := argsL) (rest := rest) (hlen _ hsigM) hstack hdg
  rcases hK m meth c ⟨T.setVm vm₁, locs, cells, slots⟩ { g with stack := rest } (.invokevirtual index) mk (Value.ref b :: argsL).toArray X₁ hg hsize hdg hW (X₁.named hnamed) (hpre vm₁ X₁.warmed) with ⟨v, B, X', hpost, hsteps⟩ | ⟨q, B, X', hpost, hsteps⟩
  · exact Or.inl ⟨v, vm₁, B, X₁.warmed, X', hpost, fun target h => hstep₁ _ fun acts => by rw [doInvoke_state]; exact hsteps.trans h⟩
  · exact Or.inr ⟨q, vm₁, B, X₁.warmed, X', hpost, hstep₁ _ fun acts => by rw [doInvoke_state]; exact hsteps⟩
theorem vx_callS (X : Stand p l e R s m args below meth c T locs cells slots) (hexec : p.tables.exec = Jvm.exec) {own : String} {index : Nat} {y : MethodName} {bytes : ByteArray} {maxL : Nat} {ret : Option FieldType}
    (hown : s.vm.findClass own = some m.cls) (hlink : (Cond.methodLink own index y).before args s = true) (hstat : (Cond.static y).before args s = true) (hinit : (Cond.initialized y.cls).before args s = true)
    (hcode : (Cond.code y bytes maxL ret).before args s = true) (hy : y.cls ≠ "java/lang/invoke/MethodHandle" ∧ y.cls ≠ "java/lang/invoke/VarHandle")
    {W9 : Nat} {Pre : Pt → Array Value → Prop} {Post : Pt → Array Value → Option Value → Pt → Prop} {PostX : Pt → Array Value → Addr → Pt → Prop} (hK : vx_Back l R p e below s args y 3 W9 Pre Post PostX)
    {g : JFrame} (hg : g.method = m) (hsize : g.locals.size = c.maxLocals) {argsL rest : List Value} (hlen : ∀ sig, parseMethodDescriptor y.desc = some sig → argsL.length = sig.parameters.length)
    (hstack : g.stack = argsL.reverse ++ rest) (hW : 2 * g.monitorRoom + (rest.map fun v => v.category).sum ≤ W9) (hdg : decode c.code g.pc = .ok (.invokestatic index, 3))
    (hpre : ∀ vm₁, s.WarmedH vm₁ → Pre ⟨T.setVm vm₁, locs, cells, slots⟩ argsL.toArray) :
    (∃ (v : Option Value) (vm₁ : Vm) (B : Pt), s.WarmedH vm₁ ∧ Stand p l e R s m args below meth c B.U B.locs B.cells B.slots ∧ Post ⟨T.setVm vm₁, locs, cells, slots⟩ argsL.toArray v B ∧
      ∀ target, Steps p.tables e below (B.U.setTop { g with pc := g.pc + 3, stack := v.toList ++ rest }) target → Steps p.tables e below (T.setTop g) target) ∨
    (∃ (q : Addr) (vm₁ : Vm) (B : Pt), s.WarmedH vm₁ ∧ Stand p l e R s m args below meth c B.U B.locs B.cells B.slots ∧ PostX ⟨T.setVm vm₁, locs, cells, slots⟩ argsL.toArray q B ∧
      Steps p.tables e below (T.setTop g) ((B.U.setTop { g with stack := rest }).pushFrame (.throwing q))) := by
  obtain ⟨mk, hnamed⟩ := Cond.code_named hcode
  obtain ⟨methM, cM, hmethM, -, -, -, -, -, -, hsigM⟩ := Cond.code_spec hnamed hcode
  have hstatic : methM.isStatic = true := Cond.static_spec hnamed hmethM hstat
  obtain ⟨kP, hkP, -⟩ := className_of_methodNamed hnamed
  have hinitP : kP.init = .initialized := Cond.initialized_spec (findClass_of_methodNamed hnamed) hkP hinit
  obtain ⟨vm₁, X₁, hstep₁⟩ := X.invokestatic hexec hown hlink hnamed hmethM hstatic hkP hinitP hy (g := g) hg (argsL := argsL) (rest := rest) (hlen _ hsigM) hstack hdg
  rcases hK m meth c ⟨T.setVm vm₁, locs, cells, slots⟩ { g with stack := rest } (.invokestatic index) mk argsL.toArray X₁ hg hsize hdg hW (X₁.named hnamed) (hpre vm₁ X₁.warmed) with ⟨v, B, X', hpost, hsteps⟩ | ⟨q, B, X', hpost, hsteps⟩
  · exact Or.inl ⟨v, vm₁, B, X₁.warmed, X', hpost, fun target h => hstep₁ _ fun acts => by rw [doInvoke_state]; exact hsteps.trans h⟩
  · exact Or.inr ⟨q, vm₁, B, X₁.warmed, X', hpost, hstep₁ _ fun acts => by rw [doInvoke_state]; exact hsteps⟩
end Calls
theorem vx_cls {s : State} {T : State} {vm₁ : Vm} {E : String} {k : ClassId} (hW : s.WarmedH vm₁) (h : (T.setVm vm₁).vm.findClass E = some k) : s.vm.findClass E = some k := by
  have h1 : vm₁.findClass E = some k := h
  rw [hW.alike.findClass] at h1
  exact h1
/-- the method's frame g, with q thrown over it -/
def vx_W (p : Program) (l : Launch) (e : Env) (R : Room) (s : State) (m : MethodId) (args : Array Value) (below : List Frame) (meth : Method) (c : Code) (H : Heap) (locs : List Loc) (cells slots : Nat) (Q : State → Prop) (g : JFrame) (q : Addr) : Prop :=
  ∀ T : State, T.heap = H → Stand p l e R s m args below meth c T locs cells slots → ∃ t, Steps p.tables e below ((T.setTop g).pushFrame (.throwing q)) t ∧ Q t
def vx_Run (p : Program) (l : Launch) (e : Env) (R : Room) (s : State) (m : MethodId) (args : Array Value) (below : List Frame) (meth : Method) (c : Code) (H : Heap) (locs : List Loc) (cells slots mc ms : Nat) (g : JFrame) (rest : List Value) (Qa : State → Outcome → State → Prop) (XC : String → State → State → Prop) (free : Addr → Prop) : Prop :=
  ∀ T : State, T.heap = H → Stand p l e R s m args below meth c T locs cells slots →
    (∃ (v : Option Value) (st₀ t T' : State) (L : List Loc), st₀.heap = H ∧ Stand p l e R s m args below meth c T' (locs ++ L) (cells + mc) (slots + ms) ∧ (∀ q ∈ L, free q.base) ∧ T'.heap = t.heap ∧ T'.vm = t.vm ∧ Qa st₀ (.returned v) t ∧
      Goes p e below T g T' { g with pc := g.pc + 3, stack := v.toList ++ rest }) ∨
    (∃ (q : Addr) (st₀ t T' : State) (L : List Loc) (E : String) (ce : Cell), st₀.heap = H ∧ Stand p l e R s m args below meth c T' (locs ++ L) (cells + mc) (slots + ms) ∧ (∀ z ∈ L, free z.base) ∧ T'.heap = t.heap ∧ T'.vm = t.vm ∧ XC E st₀ t ∧ t.heap[q]? = some ce ∧ ce.vm = .none ∧ s.vm.findClass E = some ce.cls ∧
      Steps p.tables e below (T.setTop g) ((T'.setTop { g with stack := rest }).pushFrame (.throwing q)))
def vx_X {S : Type} (px : S → Prop) (B : String → S → State → Prop) (A : Nat → Prop) : String → State → State → Prop := fun E st t => ∃ u : S, px u ∧ B E u t ∧ va_F A st t
section Runs
variable {p : Program} {l : Launch} {e : Env} {R : Room} {s : State} {m : MethodId} {args : Array Value} {below : List Frame} {meth : Method} {c : Code} {H : Heap} {locs : List Loc} {cells slots : Nat}
variable {y : MethodName} {bytes cc : ByteArray} {maxL nL mc ms n index : Nat} {ret : Option FieldType} {ws : List Cond} {rm : Room} {Pc : Array Value → State → Prop} {Qc : Array Value → State → Outcome → State → Prop} {XC : String → State → State → Prop} {free : Addr → Prop} {Ts : List Cond} {own C : String} {b : Addr} {As rest : List Value} {g : JFrame}
theorem vx_callBack (cb : CallB R s args own index y bytes maxL ret ws rm mc ms n) (hM : vx_Met l y ws rm Pc Qc XC mc ms free) (hbl : FrameBlind Pc) : vx_Back l R p e below s args y 3 8 (PreOf R mc ms Pc) (PostOf Qc mc ms free) (vx_Post XC mc ms free) := by
  obtain ⟨hrc, hrs, hfr, hlo, hws, hcw, -, hini, -⟩ := cb
  exact vx_back (bytes := bytes) (maxL := maxL) (ret := ret) hM hbl hrc hrs hfr hlo hws hcw (fun a' U hW => word_at hW (Or.inl (by first | rfl | simp [Cond.onTables, Cond.keeps, Cond.steady])) hini)
theorem vx_runV (S : CallFix p m c cc nL s args Ts own) (hM : vx_Met l y ws rm Pc Qc XC mc ms free) (cw : CallW R s args own C index y bytes maxL ret ws rm mc ms n) (hp : PreV s H C b Pc As)
    (hg : g.method = m) (hn : As.length = n) (hsize : g.locals.size = nL) (hstack : g.stack = As.reverse ++ .ref b :: rest) (hW : 2 * g.monitorRoom + (rest.map fun v => v.category).sum ≤ 8) (hdg : decode cc g.pc = .ok (.invokevirtual index, 3)) (hf : cells + mc ≤ R.cells ∧ slots + ms ≤ R.slots) :
    vx_Run p l e R s m args below meth c H locs cells slots mc ms g rest (Qc (Value.ref b :: As).toArray) XC free := by
  have hK : vx_Back l R p e below s args y 3 8 (PreOf R mc ms Pc) (PostOf Qc mc ms free) (vx_Post XC mc ms free) := vx_callBack cw.1 hM hp.1
  obtain ⟨⟨-, -, -, -, -, -, hcode, -, hy, hlen, hl⟩, hin, hse⟩ := cw
  obtain ⟨hx, hb, hml, ho, -⟩ := S
  obtain ⟨-, ⟨cellB, hcB, hoB, hclB⟩, hPc⟩ := hp
  intro T hT X
  rcases vx_callV X hx (C := C) (bytes := bytes) (maxL := maxL) (ret := ret) ho hl hin hse hcode hy hK (by rw [hT]; exact hcB) hoB hclB hg (hsize.trans hml.symm) (argsL := As) (rest := rest) (fun sig h => hn.trans (hlen sig h)) hstack hW (by rw [hb]; exact hdg)
    (fun vm₁ hW₁ => ⟨hf.1, hf.2, hPc (T.setVm vm₁) hT hW₁⟩) with ⟨v, vm₁, ⟨U', l2, c2, s2⟩, hW₁, X', ⟨g', mk, t, L, e1, e2, hq, h1, hL, h2, h3⟩, st⟩ | ⟨q, vm₁, ⟨U', l2, c2, s2⟩, hW₁, X', ⟨g', mk, t, L, E, ce, e1, e2, hq, hce, hcv, hcl, h1, hL, h2, h3⟩, st⟩
  · dsimp only [Pt.U, Pt.locs, Pt.cells, Pt.slots] at X' e1 e2 h1 h2 h3 st
    subst h1; subst h2; subst h3
    exact Or.inl ⟨v, (T.setVm vm₁).calling g' mk (Value.ref b :: As).toArray, t, U', L, hT, X', hL, e1, e2, hq, st⟩
  · dsimp only [Pt.U, Pt.locs, Pt.cells, Pt.slots] at X' e1 e2 h1 h2 h3 st hcl
    subst h1; subst h2; subst h3
    exact Or.inr ⟨q, (T.setVm vm₁).calling g' mk (Value.ref b :: As).toArray, t, U', L, E, ce, hT, X', hL, e1, e2, hq, hce, hcv, vx_cls hW₁ hcl, st⟩
theorem vx_runS (S : CallFix p m c cc nL s args Ts own) (hM : vx_Met l y ws rm Pc Qc XC mc ms free) (cw : CallB R s args own index y bytes maxL ret ws rm mc ms n ∧ (Cond.static y).before args s = true) (hp : PreS s H Pc As)
    (hg : g.method = m) (hn : As.length = n) (hsize : g.locals.size = nL) (hstack : g.stack = As.reverse ++ rest) (hW : 2 * g.monitorRoom + (rest.map fun v => v.category).sum ≤ 8) (hdg : decode cc g.pc = .ok (.invokestatic index, 3)) (hf : cells + mc ≤ R.cells ∧ slots + ms ≤ R.slots) :
    vx_Run p l e R s m args below meth c H locs cells slots mc ms g rest (Qc As.toArray) XC free := by
  have hK : vx_Back l R p e below s args y 3 8 (PreOf R mc ms Pc) (PostOf Qc mc ms free) (vx_Post XC mc ms free) := vx_callBack cw.1 hM hp.1
  obtain ⟨⟨-, -, -, -, -, -, hcode, hini, hy, hlen, hl⟩, hstt⟩ := cw
  obtain ⟨hx, hb, hml, ho, -⟩ := S
  intro T hT X
  rcases vx_callS X hx (bytes := bytes) (maxL := maxL) (ret := ret) ho hl hstt hini hcode hy hK hg (hsize.trans hml.symm) (argsL := As) (rest := rest) (fun sig h => hn.trans (hlen sig h)) hstack hW (by rw [hb]; exact hdg)
    (fun vm₁ hW₁ => ⟨hf.1, hf.2, hp.2 (T.setVm vm₁) hT hW₁⟩) with ⟨v, vm₁, ⟨U', l2, c2, s2⟩, hW₁, X', ⟨g', mk, t, L, e1, e2, hq, h1, hL, h2, h3⟩, st⟩ | ⟨q, vm₁, ⟨U', l2, c2, s2⟩, hW₁, X', ⟨g', mk, t, L, E, ce, e1, e2, hq, hce, hcv, hcl, h1, hL, h2, h3⟩, st⟩
  · dsimp only [Pt.U, Pt.locs, Pt.cells, Pt.slots] at X' e1 e2 h1 h2 h3 st
    subst h1; subst h2; subst h3
    exact Or.inl ⟨v, (T.setVm vm₁).calling g' mk As.toArray, t, U', L, hT, X', hL, e1, e2, hq, st⟩
  · dsimp only [Pt.U, Pt.locs, Pt.cells, Pt.slots] at X' e1 e2 h1 h2 h3 st hcl
    subst h1; subst h2; subst h3
    exact Or.inr ⟨q, (T.setVm vm₁).calling g' mk As.toArray, t, U', L, E, ce, hT, X', hL, e1, e2, hq, hce, hcv, vx_cls hW₁ hcl, st⟩
end Runs
section Rows
variable {p : Program} {l : Launch} {e : Env} {R : Room} {s : State} {m : MethodId} {args : Array Value} {below : List Frame} {meth : Method} {c : Code} {H : Heap} {locs : List Loc} {cells slots : Nat} {Q : State → Prop}
variable {mc ms : Nat} {free : Addr → Prop} {A0 A1 : Nat → Prop} {H0 : Heap} {a : Array Value} {pc : Nat} {ls : Array Slot} {st0 rest : List Value}
theorem vx_keep {st₀ t T' : State} {L : List Loc} (h0 : st₀.heap = H) (e1 : T'.heap = t.heap) (hS : va_S A0 H0 H locs) (hA : ∀ q, q < H.size → A1 q → A0 q) (hf : ∀ q, free q → A0 q) (hL : ∀ q ∈ L, free q.base) (hF : va_F A1 st₀ t) :
    H.size ≤ T'.heap.size ∧ (∀ q : Nat, q < H.size → ¬ A1 q → T'.heap[q]? = H[q]?) ∧ va_S A0 H0 T'.heap (locs ++ L) := by
  obtain ⟨hz, hk⟩ := hF
  rw [h0] at hz hk
  exact ⟨by rw [e1]; exact hz, fun q h1 h2 => by rw [e1]; exact hk q h1 h2,
    ⟨Nat.le_trans hS.1 (by rw [e1]; exact hz), fun q h1 h2 => by rw [e1, hk q (Nat.lt_of_lt_of_le h1 hS.1) (fun z => h2 (hA q (Nat.lt_of_lt_of_le h1 hS.1) z))]; exact hS.2.1 q h1 h2, fun q hq => by
      rcases List.mem_append.mp hq with h | h
      · exact hS.2.2 q h
      · exact hf _ (hL q h)⟩⟩
theorem vx_calli {S SX : Type} {post : Int32 → S → Prop} {px : SX → Prop} {B : S → State → Prop} {BX : String → SX → State → Prop} {AX : Nat → Prop} (hr : vx_Run p l e R s m args below meth c H locs cells slots mc ms (F0 m pc ls st0) rest (va_Qi post B A1 a) (vx_X px BX AX) free) (hS : va_S A0 H0 H locs) (hA : ∀ q, q < H.size → A1 q → A0 q) (hf : ∀ q, free q → A0 q) (hAX : ∀ q, q < H.size → AX q → A0 q)
    (kx : ∀ (E : String) (ce : Cell) (q9 : Addr) (u : SX) (t : State) (H1 : Heap) (locs1 : List Loc), t.heap = H1 → s.vm.Alike t.vm → px u → BX E u t → H.size ≤ H1.size → (∀ q : Nat, q < H.size → ¬ AX q → H1[q]? = H[q]?) → va_S A0 H0 H1 locs1 → H1[q9]? = some ce → ce.vm = .none → s.vm.findClass E = some ce.cls → vx_W p l e R s m args below meth c H1 locs1 (cells + mc) (slots + ms) Q (F0 m pc ls rest) q9)
    (kk : ∀ (r : Int32) (u : S) (t : State) (H1 : Heap) (locs1 : List Loc), t.heap = H1 → s.vm.Alike t.vm → post r u → B u t → H.size ≤ H1.size → (∀ q : Nat, q < H.size → ¬ A1 q → H1[q]? = H[q]?) → va_S A0 H0 H1 locs1 → W p l e R s m args below meth c H1 locs1 (cells + mc) (slots + ms) Q (F0 m (pc + 3) ls (.int r :: rest))) : W p l e R s m args below meth c H locs cells slots Q (F0 m pc ls st0) := by
  intro T hT X
  rcases hr T hT X with ⟨v, st₀, t, T', L, h0, X', hL, e1, e2, ⟨⟨r, u, hv, hp, hb⟩, hF⟩, st⟩ | ⟨q, st₀, t, T', L, E, ce, h0, X', hL, e1, e2, ⟨u, hp, hb, hF⟩, hce, hcv, hcl, st⟩
  · cases hv
    obtain ⟨k1, k2, k3⟩ := vx_keep h0 e1 hS hA hf hL hF
    obtain ⟨t2, a1, b1⟩ := kk r u t T'.heap (locs ++ L) e1.symm (by rw [← e2]; exact X'.warmed.alike) hp hb k1 k2 k3 T' rfl X'
    exact ⟨t2, st t2 a1, b1⟩
  · obtain ⟨k1, k2, k3⟩ := vx_keep h0 e1 hS hAX hf hL hF
    obtain ⟨t2, a1, b1⟩ := kx E ce q u t T'.heap (locs ++ L) e1.symm (by rw [← e2]; exact X'.warmed.alike) hp hb k1 k2 k3 (by rw [e1]; exact hce) hcv hcl T' rfl X'
    exact ⟨t2, st.trans a1, b1⟩
theorem vx_calll {S SX : Type} {post : Int64 → S → Prop} {px : SX → Prop} {B : S → State → Prop} {BX : String → SX → State → Prop} {AX : Nat → Prop} (hr : vx_Run p l e R s m args below meth c H locs cells slots mc ms (F0 m pc ls st0) rest (va_Ql post B A1 a) (vx_X px BX AX) free) (hS : va_S A0 H0 H locs) (hA : ∀ q, q < H.size → A1 q → A0 q) (hf : ∀ q, free q → A0 q) (hAX : ∀ q, q < H.size → AX q → A0 q)
    (kx : ∀ (E : String) (ce : Cell) (q9 : Addr) (u : SX) (t : State) (H1 : Heap) (locs1 : List Loc), t.heap = H1 → s.vm.Alike t.vm → px u → BX E u t → H.size ≤ H1.size → (∀ q : Nat, q < H.size → ¬ AX q → H1[q]? = H[q]?) → va_S A0 H0 H1 locs1 → H1[q9]? = some ce → ce.vm = .none → s.vm.findClass E = some ce.cls → vx_W p l e R s m args below meth c H1 locs1 (cells + mc) (slots + ms) Q (F0 m pc ls rest) q9)
    (kk : ∀ (r : Int64) (u : S) (t : State) (H1 : Heap) (locs1 : List Loc), t.heap = H1 → s.vm.Alike t.vm → post r u → B u t → H.size ≤ H1.size → (∀ q : Nat, q < H.size → ¬ A1 q → H1[q]? = H[q]?) → va_S A0 H0 H1 locs1 → W p l e R s m args below meth c H1 locs1 (cells + mc) (slots + ms) Q (F0 m (pc + 3) ls (.long r :: rest))) : W p l e R s m args below meth c H locs cells slots Q (F0 m pc ls st0) := by
  intro T hT X
  rcases hr T hT X with ⟨v, st₀, t, T', L, h0, X', hL, e1, e2, ⟨⟨r, u, hv, hp, hb⟩, hF⟩, st⟩ | ⟨q, st₀, t, T', L, E, ce, h0, X', hL, e1, e2, ⟨u, hp, hb, hF⟩, hce, hcv, hcl, st⟩
  · cases hv
    obtain ⟨k1, k2, k3⟩ := vx_keep h0 e1 hS hA hf hL hF
    obtain ⟨t2, a1, b1⟩ := kk r u t T'.heap (locs ++ L) e1.symm (by rw [← e2]; exact X'.warmed.alike) hp hb k1 k2 k3 T' rfl X'
    exact ⟨t2, st t2 a1, b1⟩
  · obtain ⟨k1, k2, k3⟩ := vx_keep h0 e1 hS hAX hf hL hF
    obtain ⟨t2, a1, b1⟩ := kx E ce q u t T'.heap (locs ++ L) e1.symm (by rw [← e2]; exact X'.warmed.alike) hp hb k1 k2 k3 (by rw [e1]; exact hce) hcv hcl T' rfl X'
    exact ⟨t2, st.trans a1, b1⟩
theorem vx_callf {S SX : Type} {post : UInt32 → S → Prop} {px : SX → Prop} {B : S → State → Prop} {BX : String → SX → State → Prop} {AX : Nat → Prop} (hr : vx_Run p l e R s m args below meth c H locs cells slots mc ms (F0 m pc ls st0) rest (va_Qf post B A1 a) (vx_X px BX AX) free) (hS : va_S A0 H0 H locs) (hA : ∀ q, q < H.size → A1 q → A0 q) (hf : ∀ q, free q → A0 q) (hAX : ∀ q, q < H.size → AX q → A0 q)
    (kx : ∀ (E : String) (ce : Cell) (q9 : Addr) (u : SX) (t : State) (H1 : Heap) (locs1 : List Loc), t.heap = H1 → s.vm.Alike t.vm → px u → BX E u t → H.size ≤ H1.size → (∀ q : Nat, q < H.size → ¬ AX q → H1[q]? = H[q]?) → va_S A0 H0 H1 locs1 → H1[q9]? = some ce → ce.vm = .none → s.vm.findClass E = some ce.cls → vx_W p l e R s m args below meth c H1 locs1 (cells + mc) (slots + ms) Q (F0 m pc ls rest) q9)
    (kk : ∀ (r : UInt32) (u : S) (t : State) (H1 : Heap) (locs1 : List Loc), t.heap = H1 → s.vm.Alike t.vm → post r u → B u t → H.size ≤ H1.size → (∀ q : Nat, q < H.size → ¬ A1 q → H1[q]? = H[q]?) → va_S A0 H0 H1 locs1 → W p l e R s m args below meth c H1 locs1 (cells + mc) (slots + ms) Q (F0 m (pc + 3) ls (.float r :: rest))) : W p l e R s m args below meth c H locs cells slots Q (F0 m pc ls st0) := by
  intro T hT X
  rcases hr T hT X with ⟨v, st₀, t, T', L, h0, X', hL, e1, e2, ⟨⟨r, u, hv, hp, hb⟩, hF⟩, st⟩ | ⟨q, st₀, t, T', L, E, ce, h0, X', hL, e1, e2, ⟨u, hp, hb, hF⟩, hce, hcv, hcl, st⟩
  · cases hv
    obtain ⟨k1, k2, k3⟩ := vx_keep h0 e1 hS hA hf hL hF
    obtain ⟨t2, a1, b1⟩ := kk r u t T'.heap (locs ++ L) e1.symm (by rw [← e2]; exact X'.warmed.alike) hp hb k1 k2 k3 T' rfl X'
    exact ⟨t2, st t2 a1, b1⟩
  · obtain ⟨k1, k2, k3⟩ := vx_keep h0 e1 hS hAX hf hL hF
    obtain ⟨t2, a1, b1⟩ := kx E ce q u t T'.heap (locs ++ L) e1.symm (by rw [← e2]; exact X'.warmed.alike) hp hb k1 k2 k3 (by rw [e1]; exact hce) hcv hcl T' rfl X'
    exact ⟨t2, st.trans a1, b1⟩
theorem vx_calld {S SX : Type} {post : UInt64 → S → Prop} {px : SX → Prop} {B : S → State → Prop} {BX : String → SX → State → Prop} {AX : Nat → Prop} (hr : vx_Run p l e R s m args below meth c H locs cells slots mc ms (F0 m pc ls st0) rest (va_Qd post B A1 a) (vx_X px BX AX) free) (hS : va_S A0 H0 H locs) (hA : ∀ q, q < H.size → A1 q → A0 q) (hf : ∀ q, free q → A0 q) (hAX : ∀ q, q < H.size → AX q → A0 q)
    (kx : ∀ (E : String) (ce : Cell) (q9 : Addr) (u : SX) (t : State) (H1 : Heap) (locs1 : List Loc), t.heap = H1 → s.vm.Alike t.vm → px u → BX E u t → H.size ≤ H1.size → (∀ q : Nat, q < H.size → ¬ AX q → H1[q]? = H[q]?) → va_S A0 H0 H1 locs1 → H1[q9]? = some ce → ce.vm = .none → s.vm.findClass E = some ce.cls → vx_W p l e R s m args below meth c H1 locs1 (cells + mc) (slots + ms) Q (F0 m pc ls rest) q9)
    (kk : ∀ (r : UInt64) (u : S) (t : State) (H1 : Heap) (locs1 : List Loc), t.heap = H1 → s.vm.Alike t.vm → post r u → B u t → H.size ≤ H1.size → (∀ q : Nat, q < H.size → ¬ A1 q → H1[q]? = H[q]?) → va_S A0 H0 H1 locs1 → W p l e R s m args below meth c H1 locs1 (cells + mc) (slots + ms) Q (F0 m (pc + 3) ls (.double r :: rest))) : W p l e R s m args below meth c H locs cells slots Q (F0 m pc ls st0) := by
  intro T hT X
  rcases hr T hT X with ⟨v, st₀, t, T', L, h0, X', hL, e1, e2, ⟨⟨r, u, hv, hp, hb⟩, hF⟩, st⟩ | ⟨q, st₀, t, T', L, E, ce, h0, X', hL, e1, e2, ⟨u, hp, hb, hF⟩, hce, hcv, hcl, st⟩
  · cases hv
    obtain ⟨k1, k2, k3⟩ := vx_keep h0 e1 hS hA hf hL hF
    obtain ⟨t2, a1, b1⟩ := kk r u t T'.heap (locs ++ L) e1.symm (by rw [← e2]; exact X'.warmed.alike) hp hb k1 k2 k3 T' rfl X'
    exact ⟨t2, st t2 a1, b1⟩
  · obtain ⟨k1, k2, k3⟩ := vx_keep h0 e1 hS hAX hf hL hF
    obtain ⟨t2, a1, b1⟩ := kx E ce q u t T'.heap (locs ++ L) e1.symm (by rw [← e2]; exact X'.warmed.alike) hp hb k1 k2 k3 (by rw [e1]; exact hce) hcv hcl T' rfl X'
    exact ⟨t2, st.trans a1, b1⟩
theorem vx_callv {S SX : Type} {post : S → Prop} {px : SX → Prop} {B : S → State → Prop} {BX : String → SX → State → Prop} {AX : Nat → Prop} (hr : vx_Run p l e R s m args below meth c H locs cells slots mc ms (F0 m pc ls st0) rest (va_Qv post B A1 a) (vx_X px BX AX) free) (hS : va_S A0 H0 H locs) (hA : ∀ q, q < H.size → A1 q → A0 q) (hf : ∀ q, free q → A0 q) (hAX : ∀ q, q < H.size → AX q → A0 q)
    (kx : ∀ (E : String) (ce : Cell) (q9 : Addr) (u : SX) (t : State) (H1 : Heap) (locs1 : List Loc), t.heap = H1 → s.vm.Alike t.vm → px u → BX E u t → H.size ≤ H1.size → (∀ q : Nat, q < H.size → ¬ AX q → H1[q]? = H[q]?) → va_S A0 H0 H1 locs1 → H1[q9]? = some ce → ce.vm = .none → s.vm.findClass E = some ce.cls → vx_W p l e R s m args below meth c H1 locs1 (cells + mc) (slots + ms) Q (F0 m pc ls rest) q9)
    (kk : ∀ (u : S) (t : State) (H1 : Heap) (locs1 : List Loc), t.heap = H1 → s.vm.Alike t.vm → post u → B u t → H.size ≤ H1.size → (∀ q : Nat, q < H.size → ¬ A1 q → H1[q]? = H[q]?) → va_S A0 H0 H1 locs1 → W p l e R s m args below meth c H1 locs1 (cells + mc) (slots + ms) Q (F0 m (pc + 3) ls (rest))) : W p l e R s m args below meth c H locs cells slots Q (F0 m pc ls st0) := by
  intro T hT X
  rcases hr T hT X with ⟨v, st₀, t, T', L, h0, X', hL, e1, e2, ⟨⟨u, hv, hp, hb⟩, hF⟩, st⟩ | ⟨q, st₀, t, T', L, E, ce, h0, X', hL, e1, e2, ⟨u, hp, hb, hF⟩, hce, hcv, hcl, st⟩
  · cases hv
    obtain ⟨k1, k2, k3⟩ := vx_keep h0 e1 hS hA hf hL hF
    obtain ⟨t2, a1, b1⟩ := kk u t T'.heap (locs ++ L) e1.symm (by rw [← e2]; exact X'.warmed.alike) hp hb k1 k2 k3 T' rfl X'
    exact ⟨t2, st t2 a1, b1⟩
  · obtain ⟨k1, k2, k3⟩ := vx_keep h0 e1 hS hAX hf hL hF
    obtain ⟨t2, a1, b1⟩ := kx E ce q u t T'.heap (locs ++ L) e1.symm (by rw [← e2]; exact X'.warmed.alike) hp hb k1 k2 k3 (by rw [e1]; exact hce) hcv hcl T' rfl X'
    exact ⟨t2, st.trans a1, b1⟩
end Rows
section Ends
variable {p : Program} {l : Launch} {e : Env} {R : Room} {s : State} {m : MethodId} {args : Array Value} {below : List Frame} {meth : Method} {c : Code} {H : Heap} {locs : List Loc} {cells slots : Nat} {Q : State → Prop}
variable {mc ms : Nat} {free : Addr → Prop} {A0 A1 : Nat → Prop} {H0 : Heap} {a : Array Value} {ls : Array Slot} {st0 rest : List Value}
variable {Qc : Array Value → State → Outcome → State → Prop} {XC : String → State → State → Prop}
/-- what a body that may throw owes at its end -/
def vx_MQ (below : List Frame) (Qc : Array Value → State → Outcome → State → Prop) (XC : String → State → State → Prop) (a : Array Value) (s : State) (mc ms : Nat) (free : Addr → Prop) : State → Prop := fun t =>
  ∃ o, t.status = .running ∧ Ended t below o ∧ vx_Q Qc XC mc ms free a s o t
theorem vx_ret {g : JFrame} {mc ms : Nat} (k : W p l e R s m args below meth c H locs cells slots (MQ below Qc args s mc ms free) g) : W p l e R s m args below meth c H locs cells slots (vx_MQ below Qc XC args s mc ms free) g := by
  intro T hT X
  obtain ⟨t, a1, o, b1, b2, b3, b4⟩ := k T hT X
  exact ⟨t, a1, o, b1, b2, Or.inl ⟨b3, b4⟩⟩
/-- not caught here: it goes on to the caller -/
theorem vx_widen {g : JFrame} {q : Addr} {k n : Nat} (h1 : cells ≤ k) (h2 : slots ≤ n) (kk : vx_W p l e R s m args below meth c H locs k n Q g q) : vx_W p l e R s m args below meth c H locs cells slots Q g q := fun T hT X => kk T hT (stand_widen X h1 h2)
theorem vx_out {pc : Nat} {E : String} {ce : Cell} {q : Addr} {mc ms : Nat} (hout : ∀ x ∈ c.exceptionTable.toList, covers x pc = false) (hlocks : meth.locks = false) (hcell : H[q]? = some ce) (hv : ce.vm = .none) (hcl : s.vm.findClass E = some ce.cls)
    (hx : ∀ t : State, t.heap = H → s.vm.Alike t.vm → XC E s t) (hf : ∀ z ∈ locs, free z.base) (hc : cells ≤ mc) (hs : slots ≤ ms) :
    vx_W p l e R s m args below meth c H locs cells slots (vx_MQ below Qc XC args s mc ms free) (F0 m pc ls rest) q := by
  intro T hT X
  obtain ⟨st1, hrun, hend, hW, hsm⟩ := X.leaveThrown q (g := F0 m pc ls rest) rfl rfl rfl hout hlocks
  have hcell9 : (T.setFrames (.throwing q :: below)).heap[q]? = some ce := by
    show T.heap[q]? = some ce
    rw [hT]; exact hcell
  exact ⟨_, st1, .threw q, hrun, hend, Or.inr ⟨q, rfl, E, ce, locs, hx _ hT hW.alike, hcell9, hv, hcl, hW, hsm.mono hc hs, hf⟩⟩
theorem vx_frame {U : State} {k n : Nat} (h : s.sameButNew ({ U with vm := s.vm } : State) locs k n) : s.heap.size ≤ U.heap.size ∧ ∀ q : Nat, q < s.heap.size → (∀ z ∈ locs, z.base ≠ q) → U.heap[q]? = s.heap[q]? := by
  obtain ⟨-, h2, -, -, -, h6⟩ := h
  refine ⟨h2, fun q hq hz => ?_⟩
  obtain ⟨c9, e1, e2, e3, e4⟩ := h6 q _ (Array.getElem?_eq_getElem hq)
  have hs : c9.slots = (s.heap[q]).slots := Array.ext_getElem? fun i => e4 i fun hm => hz _ hm rfl
  have h9 : c9 = s.heap[q] := by
    rw [hs] at e2
    exact e2
  have e5 : U.heap[q]? = some c9 := e1
  rw [e5, h9, Array.getElem?_eq_getElem hq]
/-- the words of a throw but the four that speak of the heap -/
def vx_no (w : Cond) : Bool := decide (w ≠ .isRef (.static Bundle.tN "UNASSIGNED_STACK" Bundle.steD)) && decide (w ≠ .isRef (.static Bundle.tN "SUPPRESSED_SENTINEL" Bundle.listD)) && decide (w ≠ .laysStatic Bundle.tN "UNASSIGNED_STACK" Bundle.steD) && decide (w ≠ .laysStatic Bundle.tN "SUPPRESSED_SENTINEL" Bundle.listD)
def vx_at0 (own : String) (ic : Nat) (X : String) (names : List String) : List Cond := (Bundle.ownAtoms0 own ic X names).filter vx_no
def vx_atS (own : String) (ic : Nat) (X : String) (names : List String) : List Cond := (Bundle.ownAtoms own ic X names).filter vx_no
/-- a word that the tables alone decide, or a good one -/
def vx_ot (w : Cond) : Bool := w.onTables || goodWord w
theorem vx_ot_at {args a' : Array Value} {s U : State} {w : Cond} (hW : s.WarmedH U.vm) (hvm : s.vm = U.vm) (hg : vx_ot w = true) (h : w.before args s = true) : w.before a' U = true := by
  simp only [vx_ot, Bool.or_eq_true] at hg
  rcases hg with hg | hg
  · exact va_tabs hg hvm h
  · exact word_at hW (good_of_word hg) h
/-- a list's words: the good ones out of the method's own list, the others by premises of their own -/
theorem vx_hat {args : Array Value} {s : State} {L B : List Cond} (h1 : ∀ w ∈ L.filter goodWord, w.before args s = true) (h2 : ∀ w ∈ L.filter (fun w => !goodWord w), w ∈ B) (h3 : ∀ w ∈ B, w.before args s = true) : ∀ w ∈ L, w.before args s = true := by
  intro w hw
  by_cases g : goodWord w = true
  · exact h1 w (List.mem_filter.mpr ⟨hw, g⟩)
  · refine h3 w (h2 w (List.mem_filter.mpr ⟨hw, ?_⟩))
    show (!goodWord w) = true
    cases hgw : goodWord w
    · rfl
    · exact absurd hgw g
theorem vx_c {args : Array Value} {s : State} {w : Cond} {B : List Cond} (h : w.before args s = true) (t : ∀ w ∈ B, w.before args s = true) : ∀ w' ∈ w :: B, w'.before args s = true := fun w' h' => (List.mem_cons.mp h').elim (fun e => by rw [e]; exact h) (t w')
theorem vx_n {args : Array Value} {s : State} : ∀ w ∈ ([] : List Cond), w.before args s = true := fun _ h => nomatch h
theorem vx_own {args : Array Value} {s : State} {L : List Cond} (h1 : ∀ w ∈ L.filter vx_no, w.before args s = true)
    (hU : (Cond.isRef (.static Bundle.tN "UNASSIGNED_STACK" Bundle.steD)).before args s = true) (hN : (Cond.isRef (.static Bundle.tN "SUPPRESSED_SENTINEL" Bundle.listD)).before args s = true)
    (lU : (Cond.laysStatic Bundle.tN "UNASSIGNED_STACK" Bundle.steD).before args s = true) (lN : (Cond.laysStatic Bundle.tN "SUPPRESSED_SENTINEL" Bundle.listD).before args s = true) : ∀ w ∈ L, w.before args s = true := by
  intro w hw
  by_cases e1 : w = .isRef (.static Bundle.tN "UNASSIGNED_STACK" Bundle.steD)
  · rw [e1]; exact hU
  · by_cases e2 : w = .isRef (.static Bundle.tN "SUPPRESSED_SENTINEL" Bundle.listD)
    · rw [e2]; exact hN
    · by_cases e3 : w = .laysStatic Bundle.tN "UNASSIGNED_STACK" Bundle.steD
      · rw [e3]; exact lU
      · by_cases e4 : w = .laysStatic Bundle.tN "SUPPRESSED_SENTINEL" Bundle.listD
        · rw [e4]; exact lN
        · exact h1 w (List.mem_filter.mpr ⟨hw, by unfold vx_no; rw [decide_eq_true e1, decide_eq_true e2, decide_eq_true e3, decide_eq_true e4]; rfl⟩)
/-- where a static field lies, its class's statics cell in H -/
def vx_L (C n d : String) (A : Nat → Prop) (U : State) (H : Heap) : Prop := ∃ (c : ClassId) (k : Class) (i : Nat) (f : Field) (a : Nat) (cell : Cell), U.vm.findClass C = some c ∧ U.fieldFound? C n d = some (c, k, i, f) ∧ f.isStatic = true ∧ k.statics = some a ∧ H[a]? = some cell ∧ cell.vm.isStatics = true ∧ cell.cls = c ∧ f.slot < cell.slots.size ∧ k.staticTypes[f.slot]? = some f.type ∧ ¬ A a
theorem vx_L.moved {C n d : String} {A : Nat → Prop} {u U : State} {H : Heap} (hvm : u.vm.Alike U.vm) (h : vx_L C n d A u H) : vx_L C n d A U H := by
  obtain ⟨c, k, i, f, a, cell, h1, h2, h3, h4, h5, h6, h7, h8, h9, h10⟩ := h
  obtain ⟨k', hi', he⟩ := State.fieldFound?_setVm hvm h2
  exact ⟨c, k', i, f, a, cell, by rw [hvm.findClass]; exact h1, hi', h3, by rw [he]; exact h4, h5, h6, h7, h8, by rw [he]; exact h9, h10⟩
theorem vx_L.kept {C n d : String} {A : Nat → Prop} {U : State} {H H1 : Heap} (h : vx_L C n d A U H) (hq : ∀ a : Nat, a < H.size → ¬ A a → H1[a]? = H[a]?) : vx_L C n d A U H1 := by
  obtain ⟨c, k, i, f, a, cell, h1, h2, h3, h4, h5, h6, h7, h8, h9, h10⟩ := h
  exact ⟨c, k, i, f, a, cell, h1, h2, h3, h4, by rw [hq a (Array.getElem?_eq_some_iff.mp h5).1 h10]; exact h5, h6, h7, h8, h9, h10⟩
theorem vx_L.narrow {C n d : String} {A B : Nat → Prop} {U : State} {H : Heap} (h : vx_L C n d A U H) (hAB : ∀ q, B q → A q) : vx_L C n d B U H := by
  obtain ⟨c, k, i, f, a, cell, h1, h2, h3, h4, h5, h6, h7, h8, h9, h10⟩ := h
  exact ⟨c, k, i, f, a, cell, h1, h2, h3, h4, h5, h6, h7, h8, h9, fun z => h10 (hAB _ z)⟩
theorem vx_L.word {C n d : String} {A : Nat → Prop} {s : State} {args : Array Value} (h : vx_L C n d A s s.heap) : (Cond.laysStatic C n d).before args s = true := by
  obtain ⟨c, k, i, f, a, cell, h1, h2, h3, h4, h5, h6, h7, h8, h9, -⟩ := h
  show (Cond.laysStatic C n d).holds args s none s [] = true
  exact Cond.laysStatic_of h1 h2 h3 h4 h5 h6 h7 h8 h9
/-- .. and what it holds: null or some reference -/
def vx_Zq (C n d : String) (A : Nat → Prop) (U : State) (H : Heap) : Prop := va_Zq C n d A U H ∧ vx_L C n d A U H
theorem vx_Zq.moved {C n d : String} {A : Nat → Prop} {u U : State} {H : Heap} (hvm : u.vm.Alike U.vm) (h : vx_Zq C n d A u H) : vx_Zq C n d A U H := ⟨va_Zq.moved hvm h.1, vx_L.moved hvm h.2⟩
theorem vx_Zq.kept {C n d : String} {A : Nat → Prop} {U : State} {H H1 : Heap} (h : vx_Zq C n d A U H) (hq : ∀ a : Nat, a < H.size → ¬ A a → H1[a]? = H[a]?) : vx_Zq C n d A U H1 := ⟨va_Zq.kept h.1 hq, vx_L.kept h.2 hq⟩
theorem vx_Zq.narrow {C n d : String} {A B : Nat → Prop} {U : State} {H : Heap} (h : vx_Zq C n d A U H) (hAB : ∀ q, B q → A q) : vx_Zq C n d B U H := ⟨va_Zq.narrow h.1 hAB, vx_L.narrow h.2 hAB⟩
theorem vx_Zqof {args : Array Value} {s : State} {C n d : String} {A : Nat → Prop} (hl : (Cond.laysStatic C n d).before args s = true) (hini : (Cond.initialized C).before args s = true) (h : (Cond.isRef (.static C n d)).before args s = true) (hA : ∀ a : Nat, a < s.heap.size → ¬ A a) : vx_Zq C n d A s s.heap := by
  refine ⟨va_Zqof hl hini h hA, ?_⟩
  obtain ⟨c, k, i, f, a, cell, h1, h2, h3, h4, h5, h6, h7, h8, h9⟩ := Cond.laysStatic_spec hl
  exact ⟨c, k, i, f, a, cell, h1, h2, h3, h4, h5, h6, h7, h8, h9, hA a (Array.getElem?_eq_some_iff.mp h5).1⟩
theorem vx_isRef {C n d : String} {v : Value} {A : Nat → Prop} {s : State} {args : Array Value} (h : va_Z C n d v A s s.heap) (hv : v.isRef = true) : (Cond.isRef (.static C n d)).before args s = true := by
  obtain ⟨cf, kf, fi, f, a, cell, h1, h2, h3, h4, h5, h6, h7, -⟩ := h
  have he : (Term.static C n d).eval args s none [] s = some v := by
    simp [Term.eval, State.fieldNamed?, h1, h2, h4, h5, h6, h7]
  simp only [Cond.before, Cond.holds, Cond.value, he]
  cases v <;> simp_all [Value.isRef]
theorem vx_isRefq {C n d : String} {A : Nat → Prop} {s : State} {args : Array Value} (h : va_Zq C n d A s s.heap) : (Cond.isRef (.static C n d)).before args s = true := by
  rcases h with h | ⟨t, h⟩
  · exact vx_isRef h rfl
  · exact vx_isRef h rfl
/-- the same frame, seen from here: as if the method were called anew in this heap -/
theorem vx_rebase {T : State} (X : Stand p l e R s m args below meth c T locs cells slots) {R' : Room} (hf : R'.frames ≤ R.frames) (hl : R'.locals ≤ R.locals) (hc : cells + R'.cells ≤ R.cells) (hs : slots + R'.slots ≤ R.slots) :
    Stand p l e R' ((T.setVm s.vm).setFrames (.invoking m args :: below)) m args below meth c T [] 0 0 := by
  have htop : (T.setVm s.vm).topJava?.isSome := X.here.top
  have hF : ((T.setVm s.vm).setFrames (.invoking m args :: below)).frames = .invoking m args :: below := State.frames_setFrames _ (State.cur_lt_of_top htop)
  obtain ⟨g₀, hg0⟩ := Option.isSome_iff_exists.mp htop
  obtain ⟨r, hr⟩ := State.topJava?_eq_some.mp hg0
  have hl9 : e.platform.stackLimits (T.setVm s.vm).me = e.platform.stackLimits s.me := X.limits
  have hb9 : (T.setVm s.vm).me.stackBytes = s.me.stackBytes := X.bytes
  refine ⟨X.admits, X.cas, X.clock, hF, ?_, X.hears, X.method, X.code, X.here, X.tail, X.warmed, ?_, ?_, ?_⟩
  · have h := X.room
    have hU : ((T.setVm s.vm).setFrames (.invoking m args :: below)).localsInUse = s.localsInUse := by
      rw [State.localsInUse_invoking hF (meth := meth) (c := c) X.method X.code, State.localsInUse_invoking X.frames X.method X.code]
    simp only [State.hasRoom, Bool.and_eq_true, decide_eq_true_eq] at h ⊢
    obtain ⟨⟨⟨⟨h1, h2, h3, h4, h5, h6⟩, h7⟩, h8⟩, h9⟩ := h
    rw [X.frames, List.length_cons] at h2 h3
    have q1 := X.heapSize
    have q2 := X.used
    simp only [hF, hU, List.length_cons, State.stackLimits_setFrames, State.stackBytes_setFrames, hl9, hb9]
    refine ⟨⟨⟨⟨by omega, by omega, by omega, by omega, by omega, h6⟩, ?_⟩, ?_⟩, X.book⟩
    · show T.heap.size + R'.cells ≤ e.platform.maxCells
      omega
    · show T.slotsUsed + R'.slots ≤ e.platform.maxSlots
      omega
  · rw [State.stackLimits_setFrames]; rfl
  · rw [State.stackBytes_setFrames]; rfl
  · refine ⟨?_, Nat.le_refl _, Nat.le_refl _, ?_, ?_, fun a c9 h9 => ⟨c9, h9, rfl, rfl, fun _ _ => rfl⟩⟩
    · obtain ⟨t, ht, -⟩ := State.frames_cons hr
      show T.setVm s.vm = { ((T.setVm s.vm).setFrames (.invoking m args :: below)).setFrames (T.setVm s.vm).frames with heap := T.heap, slotsUsed := T.slotsUsed }
      rw [State.setFrames_setFrames, State.setFrames_self ht]
      rfl
    · show T.slotsUsed = T.slotsUsed + ((T.heap.toList.drop T.heap.size).map (·.slots.size)).sum
      rw [List.drop_eq_nil_of_le (Nat.le_of_eq Array.length_toList)]
      rfl
    · show ((T.heap.toList.drop T.heap.size).map (·.slots.size)).sum ≤ 0
      rw [List.drop_eq_nil_of_le (Nat.le_of_eq Array.length_toList)]
      exact Nat.le_refl _
/-- 'throw new E()': new; dup; invokespecial; athrow -/
theorem vx_throw0 {cc : ByteArray} {pc : Nat} (hexec : p.tables.exec = Jvm.exec) (hb : c.code = cc) (hl : l.stackTraces = false) {own cls : String} {names : List String} {ik ic mc ms : Nat} {A : Nat → Prop}
    (hown : s.vm.findClass own = some m.cls) (hcls : Bundle.fit cls = true) (hnames : ∀ n ∈ names, Bundle.fit n = true)
    (hk : (Cond.classLink own ik cls).before args s = true) (hini : (Cond.initialized cls).before args s = true) (hat : ∀ w ∈ vx_at0 own ic cls names, w.before args s = true)
    (hgood : ∀ w ∈ Cond.classLink own ik cls :: Cond.initialized cls :: vx_at0 own ic cls names, vx_ot w = true)
    (hU : vx_Zq Bundle.tN "UNASSIGNED_STACK" Bundle.steD A s s.heap) (hN : vx_Zq Bundle.tN "SUPPRESSED_SENTINEL" Bundle.listD A s s.heap) (hS : va_S A s.heap H locs) (hsize : ls.size = c.maxLocals)
    (d0 : decode cc pc = .ok (.new ik, 3)) (d3 : decode cc (pc + 3) = .ok (.dup, 1)) (d4 : decode cc (pc + 4) = .ok (.invokespecial ic, 3)) (d7 : decode cc (pc + 7) = .ok (.athrow, 1))
    (hout : ∀ x ∈ c.exceptionTable.toList, covers x (pc + 7) = false)
    (hRframes : names.length + 3 < R.frames) (hRlocals : (rest.map fun v => v.category).sum + (13 * (names.length + 1) + 42) ≤ R.locals) (hRcells : cells + 1 ≤ R.cells) (hRslots : slots + 6 ≤ R.slots) (hlocks : meth.locks = false)
    (hx : ∀ t : State, s.vm.Alike t.vm → H.size ≤ t.heap.size → (∀ q : Nat, q < H.size → t.heap[q]? = H[q]?) → XC cls s t)
    (hf : ∀ z ∈ locs, free z.base) (hc : cells + 1 ≤ mc) (hs : slots + 6 ≤ ms) :
    W p l e R s m args below meth c H locs cells slots (vx_MQ below Qc XC args s mc ms free) (F0 m pc ls rest) := by
  intro T hT X
  have htr : e.platform.stackTraces = false := (show e.platform.stackTraces = l.stackTraces by rw [X.admits.platform]).trans hl
  have Y := vx_rebase X (R' := { frames := R.frames, locals := R.locals, cells := 1, slots := 6 }) (Nat.le_refl _) (Nat.le_refl _) hRcells hRslots
  obtain ⟨s', hA⟩ : ∃ z, z = (T.setVm s.vm).setFrames (.invoking m args :: below) := ⟨_, rfl⟩
  rw [← hA] at Y
  have hvm : s'.vm = s.vm := by rw [hA]; rfl
  have hhp : s'.heap = H := by rw [hA]; exact hT
  have hW0 : s.WarmedH s'.vm := by rw [hvm]; exact State.WarmedH.refl s
  have hat' : ∀ w ∈ vx_at0 own ic cls names, w.before args s' = true := fun w hw => vx_ot_at hW0 hvm.symm (hgood w (List.mem_cons_of_mem _ (List.mem_cons_of_mem _ hw))) (hat w hw)
  have hk' : (Cond.classLink own ik cls).before args s' = true := vx_ot_at hW0 hvm.symm (hgood _ List.mem_cons_self) hk
  have hini' : (Cond.initialized cls).before args s' = true := vx_ot_at hW0 hvm.symm (hgood _ (List.mem_cons_of_mem _ List.mem_cons_self)) hini
  have hU' : vx_Zq Bundle.tN "UNASSIGNED_STACK" Bundle.steD A s' s'.heap := by rw [hhp]; exact vx_Zq.moved hW0.alike (hU.kept hS.2.1)
  have hN' : vx_Zq Bundle.tN "SUPPRESSED_SENTINEL" Bundle.listD A s' s'.heap := by rw [hhp]; exact vx_Zq.moved hW0.alike (hN.kept hS.2.1)
  have h : ∀ w ∈ Bundle.ownAtoms0 own ic cls names, w.before args s' = true := vx_own hat' (vx_isRefq hU'.1) (vx_isRefq hN'.1) hU'.2.word hN'.2.word
  have hown' : s'.vm.findClass own = some m.cls := by rw [hvm]; exact hown
  have hins : (Cond.instantiable cls 6).before args s' = true := h _ (by simp [Bundle.ownAtoms0])
  obtain ⟨vm₁, cX, kX, hfX, hkX, -, -, X₁, st1⟩ := Y.newCold hexec (own := own) (C := cls) (index := ik) (n := 6) hown' hk' hins hini'
    (g := F0 m pc ls rest) rfl (by rw [hb]; exact d0) (Nat.le_refl _) (Nat.le_refl _)
  generalize hT1 : (T.setVm vm₁).pushCell { cls := cX, slots := kX.instanceTypes.map defaultValue, vm := .none } = T1 at X₁ st1
  have hcat : (Value.ref T.heap.size).category = 1 := rfl
  have hcellA : T1.heap[T.heap.size]? = some (freshCell cX kX) := by rw [← hT1]; exact State.heap_pushCell_size _ _
  have d3' : decode c.code (pc + 3) = .ok (.dup, 1) := by rw [hb]; exact d3
  obtain ⟨U, hsteps, hrun, hend, hW, hsame, ce, hce, hO⟩ := X₁.ctorThrow0 hexec htr (own := own) (cls := cls) (names := names) (ic := ic) hown' hcls hnames h (fun x hx => nomatch hx) hfX hkX hcellA (by rw [hhp, hT]; exact Nat.le_refl _)
    (g := { method := m, pc := pc + 4, locals := ls, stack := .ref T.heap.size :: .ref T.heap.size :: rest, locked := none }) rfl hsize rfl rfl (rest := rest) rfl
    (by rw [hb]; exact d4) (by rw [hb]; exact d7) hout hRframes (by simp only [List.map_cons, List.sum_cons, hcat]; omega) hlocks
  obtain ⟨f1, f2⟩ := vx_frame hsame
  rw [hhp] at f1 f2
  have hWs : s.WarmedH U.vm := State.WarmedH.trans hW0 hW
  have hcl : s.vm.findClass cls = some ce.cls := by
    have h9 := hO.cls
    rw [hvm] at h9
    exact h9
  have hall : s.sameButNew ({ U with vm := s.vm } : State) locs mc ms := by
    subst hA
    obtain ⟨e1, e2⟩ := hsame
    rw [State.setFrames_setFrames] at e1
    have h2 : (T.setVm s.vm).sameButNew ({ U with vm := s.vm } : State) [] (0 + 1) (0 + 6) := ⟨e1, e2⟩
    have h3 := X.same.trans h2
    rw [List.append_nil] at h3
    exact h3.mono hc hs
  refine ⟨U, ?_, .threw T.heap.size, hrun, hend, Or.inr ⟨T.heap.size, rfl, cls, ce, locs, hx U hWs.alike f1 (fun q hq => f2 q hq (fun z hz => nomatch hz)), hce, hO.vm, hcl, hWs, hall, hf⟩⟩
  refine st1 _ ?_
  show Steps p.tables e below (T1.setTop { method := m, pc := pc + 3, locals := ls, stack := .ref T.heap.size :: rest, locked := none }) _
  jvm_step X₁.here [X₁.here.top, hexec, d3', Value.category]
  exact hsteps
/-- 'throw new E("text")': new; dup; ldc; invokespecial; athrow -/
theorem vx_throwS {cc : ByteArray} {pc : Nat} (hexec : p.tables.exec = Jvm.exec) (hb : c.code = cc) (hl : l.stackTraces = false) {own cls text : String} {names : List String} {ik is ic mc ms sa : Nat} {A : Nat → Prop}
    (hown : s.vm.findClass own = some m.cls) (hcls : Bundle.fit cls = true) (hnames : ∀ n ∈ names, Bundle.fit n = true)
    (hk : (Cond.classLink own ik cls).before args s = true) (hini : (Cond.initialized cls).before args s = true) (hstr : vk_R own is text sa s) (hat : ∀ w ∈ vx_atS own ic cls names, w.before args s = true)
    (hgood : ∀ w ∈ Cond.classLink own ik cls :: Cond.initialized cls :: vx_atS own ic cls names, vx_ot w = true)
    (hU : vx_Zq Bundle.tN "UNASSIGNED_STACK" Bundle.steD A s s.heap) (hN : vx_Zq Bundle.tN "SUPPRESSED_SENTINEL" Bundle.listD A s s.heap) (hS : va_S A s.heap H locs) (hsize : ls.size = c.maxLocals)
    (d0 : decode cc pc = .ok (.new ik, 3)) (d3 : decode cc (pc + 3) = .ok (.dup, 1)) (d4 : decode cc (pc + 4) = .ok (.ldc is, 2)) (d6 : decode cc (pc + 6) = .ok (.invokespecial ic, 3)) (d9 : decode cc (pc + 9) = .ok (.athrow, 1))
    (hout : ∀ x ∈ c.exceptionTable.toList, covers x (pc + 9) = false)
    (hRframes : names.length + 3 < R.frames) (hRlocals : (rest.map fun v => v.category).sum + (13 * (names.length + 1) + 43) ≤ R.locals) (hRcells : cells + 1 ≤ R.cells) (hRslots : slots + 6 ≤ R.slots) (hlocks : meth.locks = false)
    (hx : ∀ t : State, s.vm.Alike t.vm → H.size ≤ t.heap.size → (∀ q : Nat, q < H.size → t.heap[q]? = H[q]?) → XC cls s t)
    (hf : ∀ z ∈ locs, free z.base) (hc : cells + 1 ≤ mc) (hs : slots + 6 ≤ ms) :
    W p l e R s m args below meth c H locs cells slots (vx_MQ below Qc XC args s mc ms free) (F0 m pc ls rest) := by
  intro T hT X
  have htr : e.platform.stackTraces = false := (show e.platform.stackTraces = l.stackTraces by rw [X.admits.platform]).trans hl
  have Y := vx_rebase X (R' := { frames := R.frames, locals := R.locals, cells := 1, slots := 6 }) (Nat.le_refl _) (Nat.le_refl _) hRcells hRslots
  obtain ⟨s', hA⟩ : ∃ z, z = (T.setVm s.vm).setFrames (.invoking m args :: below) := ⟨_, rfl⟩
  rw [← hA] at Y
  have hvm : s'.vm = s.vm := by rw [hA]; rfl
  have hhp : s'.heap = H := by rw [hA]; exact hT
  have hW0 : s.WarmedH s'.vm := by rw [hvm]; exact State.WarmedH.refl s
  have hat' : ∀ w ∈ vx_atS own ic cls names, w.before args s' = true := fun w hw => vx_ot_at hW0 hvm.symm (hgood w (List.mem_cons_of_mem _ (List.mem_cons_of_mem _ hw))) (hat w hw)
  have hk' : (Cond.classLink own ik cls).before args s' = true := vx_ot_at hW0 hvm.symm (hgood _ List.mem_cons_self) hk
  have hini' : (Cond.initialized cls).before args s' = true := vx_ot_at hW0 hvm.symm (hgood _ (List.mem_cons_of_mem _ List.mem_cons_self)) hini
  have hU' : vx_Zq Bundle.tN "UNASSIGNED_STACK" Bundle.steD A s' s'.heap := by rw [hhp]; exact vx_Zq.moved hW0.alike (hU.kept hS.2.1)
  have hN' : vx_Zq Bundle.tN "SUPPRESSED_SENTINEL" Bundle.listD A s' s'.heap := by rw [hhp]; exact vx_Zq.moved hW0.alike (hN.kept hS.2.1)
  have h : ∀ w ∈ Bundle.ownAtoms own ic cls names, w.before args s' = true := vx_own hat' (vx_isRefq hU'.1) (vx_isRefq hN'.1) hU'.2.word hN'.2.word
  have hown' : s'.vm.findClass own = some m.cls := by rw [hvm]; exact hown
  have hins : (Cond.instantiable cls 6).before args s' = true := h _ (by simp [Bundle.ownAtoms])
  obtain ⟨vm₁, cX, kX, hfX, hkX, -, -, X₁, st1⟩ := Y.newCold hexec (own := own) (C := cls) (index := ik) (n := 6) hown' hk' hins hini'
    (g := F0 m pc ls rest) rfl (by rw [hb]; exact d0) (Nat.le_refl _) (Nat.le_refl _)
  generalize hT1 : (T.setVm vm₁).pushCell { cls := cX, slots := kX.instanceTypes.map defaultValue, vm := .none } = T1 at X₁ st1
  have hcat : (Value.ref T.heap.size).category = 1 := rfl
  have hcellA : T1.heap[T.heap.size]? = some (freshCell cX kX) := by rw [← hT1]; exact State.heap_pushCell_size _ _
  have d3' : decode c.code (pc + 3) = .ok (.dup, 1) := by rw [hb]; exact d3
  have d4' : decode c.code (pc + 4) = .ok (.ldc is, 2) := by rw [hb]; exact d4
  have hstr' : vk_R own is text sa s' := vk_R.warm hW0 hstr
  obtain ⟨U, hsteps, hrun, hend, hW, hsame, ce, hce, hO⟩ := X₁.ctorThrowS hexec htr (own := own) (cls := cls) (names := names) (ic := ic) hown' hcls hnames h (fun x hx => nomatch hx) hfX hkX hcellA (by rw [hhp, hT]; exact Nat.le_refl _) (msg := .ref sa) rfl
    (g := { method := m, pc := pc + 6, locals := ls, stack := .ref sa :: .ref T.heap.size :: .ref T.heap.size :: rest, locked := none }) rfl hsize rfl rfl (rest := rest) rfl
    (by rw [hb]; exact d6) (by rw [hb]; exact d9) hout hRframes (by simp only [List.map_cons, List.sum_cons, hcat]; omega) hlocks
  obtain ⟨f1, f2⟩ := vx_frame hsame
  rw [hhp] at f1 f2
  have hWs : s.WarmedH U.vm := State.WarmedH.trans hW0 hW
  have hcl : s.vm.findClass cls = some ce.cls := by
    have h9 := hO.cls
    rw [hvm] at h9
    exact h9
  have hall : s.sameButNew ({ U with vm := s.vm } : State) locs mc ms := by
    subst hA
    obtain ⟨e1, e2⟩ := hsame
    rw [State.setFrames_setFrames] at e1
    have h2 : (T.setVm s.vm).sameButNew ({ U with vm := s.vm } : State) [] (0 + 1) (0 + 6) := ⟨e1, e2⟩
    have h3 := X.same.trans h2
    rw [List.append_nil] at h3
    exact h3.mono hc hs
  refine ⟨U, ?_, .threw T.heap.size, hrun, hend, Or.inr ⟨T.heap.size, rfl, cls, ce, locs, hx U hWs.alike f1 (fun q hq => f2 q hq (fun z hz => nomatch hz)), hce, hO.vm, hcl, hWs, hall, hf⟩⟩
  refine st1 _ ?_
  show Steps p.tables e below (T1.setTop { method := m, pc := pc + 3, locals := ls, stack := .ref T.heap.size :: rest, locked := none }) _
  jvm_step X₁.here [X₁.here.top, hexec, d3', Value.category]
  exact X₁.ldcString hexec (own := own) (text := text) (index := is) (a := sa) hown' hstr'.1 hstr'.2
    (g := { method := m, pc := pc + 4, locals := ls, stack := .ref T.heap.size :: .ref T.heap.size :: rest, locked := none }) rfl d4' _ hsteps
/-- 'throw new E("text")', the text by a wide index -/
theorem vx_throwSW {cc : ByteArray} {pc : Nat} (hexec : p.tables.exec = Jvm.exec) (hb : c.code = cc) (hl : l.stackTraces = false) {own cls text : String} {names : List String} {ik is ic mc ms sa : Nat} {A : Nat → Prop}
    (hown : s.vm.findClass own = some m.cls) (hcls : Bundle.fit cls = true) (hnames : ∀ n ∈ names, Bundle.fit n = true)
    (hk : (Cond.classLink own ik cls).before args s = true) (hini : (Cond.initialized cls).before args s = true) (hstr : vk_R own is text sa s) (hat : ∀ w ∈ vx_atS own ic cls names, w.before args s = true)
    (hgood : ∀ w ∈ Cond.classLink own ik cls :: Cond.initialized cls :: vx_atS own ic cls names, vx_ot w = true)
    (hU : vx_Zq Bundle.tN "UNASSIGNED_STACK" Bundle.steD A s s.heap) (hN : vx_Zq Bundle.tN "SUPPRESSED_SENTINEL" Bundle.listD A s s.heap) (hS : va_S A s.heap H locs) (hsize : ls.size = c.maxLocals)
    (d0 : decode cc pc = .ok (.new ik, 3)) (d3 : decode cc (pc + 3) = .ok (.dup, 1)) (d4 : decode cc (pc + 4) = .ok (.ldc_w is, 3)) (d7 : decode cc (pc + 7) = .ok (.invokespecial ic, 3)) (d10 : decode cc (pc + 10) = .ok (.athrow, 1))
    (hout : ∀ x ∈ c.exceptionTable.toList, covers x (pc + 10) = false)
    (hRframes : names.length + 3 < R.frames) (hRlocals : (rest.map fun v => v.category).sum + (13 * (names.length + 1) + 43) ≤ R.locals) (hRcells : cells + 1 ≤ R.cells) (hRslots : slots + 6 ≤ R.slots) (hlocks : meth.locks = false)
    (hx : ∀ t : State, s.vm.Alike t.vm → H.size ≤ t.heap.size → (∀ q : Nat, q < H.size → t.heap[q]? = H[q]?) → XC cls s t)
    (hf : ∀ z ∈ locs, free z.base) (hc : cells + 1 ≤ mc) (hs : slots + 6 ≤ ms) :
    W p l e R s m args below meth c H locs cells slots (vx_MQ below Qc XC args s mc ms free) (F0 m pc ls rest) := by
  intro T hT X
  have htr : e.platform.stackTraces = false := (show e.platform.stackTraces = l.stackTraces by rw [X.admits.platform]).trans hl
  have Y := vx_rebase X (R' := { frames := R.frames, locals := R.locals, cells := 1, slots := 6 }) (Nat.le_refl _) (Nat.le_refl _) hRcells hRslots
  obtain ⟨s', hA⟩ : ∃ z, z = (T.setVm s.vm).setFrames (.invoking m args :: below) := ⟨_, rfl⟩
  rw [← hA] at Y
  have hvm : s'.vm = s.vm := by rw [hA]; rfl
  have hhp : s'.heap = H := by rw [hA]; exact hT
  have hW0 : s.WarmedH s'.vm := by rw [hvm]; exact State.WarmedH.refl s
  have hat' : ∀ w ∈ vx_atS own ic cls names, w.before args s' = true := fun w hw => vx_ot_at hW0 hvm.symm (hgood w (List.mem_cons_of_mem _ (List.mem_cons_of_mem _ hw))) (hat w hw)
  have hk' : (Cond.classLink own ik cls).before args s' = true := vx_ot_at hW0 hvm.symm (hgood _ List.mem_cons_self) hk
  have hini' : (Cond.initialized cls).before args s' = true := vx_ot_at hW0 hvm.symm (hgood _ (List.mem_cons_of_mem _ List.mem_cons_self)) hini
  have hU' : vx_Zq Bundle.tN "UNASSIGNED_STACK" Bundle.steD A s' s'.heap := by rw [hhp]; exact vx_Zq.moved hW0.alike (hU.kept hS.2.1)
  have hN' : vx_Zq Bundle.tN "SUPPRESSED_SENTINEL" Bundle.listD A s' s'.heap := by rw [hhp]; exact vx_Zq.moved hW0.alike (hN.kept hS.2.1)
  have h : ∀ w ∈ Bundle.ownAtoms own ic cls names, w.before args s' = true := vx_own hat' (vx_isRefq hU'.1) (vx_isRefq hN'.1) hU'.2.word hN'.2.word
  have hown' : s'.vm.findClass own = some m.cls := by rw [hvm]; exact hown
  have hins : (Cond.instantiable cls 6).before args s' = true := h _ (by simp [Bundle.ownAtoms])
  obtain ⟨vm₁, cX, kX, hfX, hkX, -, -, X₁, st1⟩ := Y.newCold hexec (own := own) (C := cls) (index := ik) (n := 6) hown' hk' hins hini'
    (g := F0 m pc ls rest) rfl (by rw [hb]; exact d0) (Nat.le_refl _) (Nat.le_refl _)
  generalize hT1 : (T.setVm vm₁).pushCell { cls := cX, slots := kX.instanceTypes.map defaultValue, vm := .none } = T1 at X₁ st1
  have hcat : (Value.ref T.heap.size).category = 1 := rfl
  have hcellA : T1.heap[T.heap.size]? = some (freshCell cX kX) := by rw [← hT1]; exact State.heap_pushCell_size _ _
  have d3' : decode c.code (pc + 3) = .ok (.dup, 1) := by rw [hb]; exact d3
  have d4' : decode c.code (pc + 4) = .ok (.ldc_w is, 3) := by rw [hb]; exact d4
  have hstr' : vk_R own is text sa s' := vk_R.warm hW0 hstr
  obtain ⟨U, hsteps, hrun, hend, hW, hsame, ce, hce, hO⟩ := X₁.ctorThrowS hexec htr (own := own) (cls := cls) (names := names) (ic := ic) hown' hcls hnames h (fun x hx => nomatch hx) hfX hkX hcellA (by rw [hhp, hT]; exact Nat.le_refl _) (msg := .ref sa) rfl
    (g := { method := m, pc := pc + 7, locals := ls, stack := .ref sa :: .ref T.heap.size :: .ref T.heap.size :: rest, locked := none }) rfl hsize rfl rfl (rest := rest) rfl
    (by rw [hb]; exact d7) (by rw [hb]; exact d10) hout hRframes (by simp only [List.map_cons, List.sum_cons, hcat]; omega) hlocks
  obtain ⟨f1, f2⟩ := vx_frame hsame
  rw [hhp] at f1 f2
  have hWs : s.WarmedH U.vm := State.WarmedH.trans hW0 hW
  have hcl : s.vm.findClass cls = some ce.cls := by
    have h9 := hO.cls
    rw [hvm] at h9
    exact h9
  have hall : s.sameButNew ({ U with vm := s.vm } : State) locs mc ms := by
    subst hA
    obtain ⟨e1, e2⟩ := hsame
    rw [State.setFrames_setFrames] at e1
    have h2 : (T.setVm s.vm).sameButNew ({ U with vm := s.vm } : State) [] (0 + 1) (0 + 6) := ⟨e1, e2⟩
    have h3 := X.same.trans h2
    rw [List.append_nil] at h3
    exact h3.mono hc hs
  refine ⟨U, ?_, .threw T.heap.size, hrun, hend, Or.inr ⟨T.heap.size, rfl, cls, ce, locs, hx U hWs.alike f1 (fun q hq => f2 q hq (fun z hz => nomatch hz)), hce, hO.vm, hcl, hWs, hall, hf⟩⟩
  refine st1 _ ?_
  show Steps p.tables e below (T1.setTop { method := m, pc := pc + 3, locals := ls, stack := .ref T.heap.size :: rest, locked := none }) _
  jvm_step X₁.here [X₁.here.top, hexec, d3', Value.category]
  exact X₁.ldcStringW hexec (own := own) (text := text) (index := is) (a := sa) hown' hstr'.1 hstr'.2
    (g := { method := m, pc := pc + 4, locals := ls, stack := .ref T.heap.size :: .ref T.heap.size :: rest, locked := none }) rfl d4' _ hsteps
end Ends
section Bodies
variable {l : Launch}
theorem vx_ofW {y : MethodName} {ws ws' : List Cond} {rm : Room} {Pc : Array Value → State → Prop} {Qc : Array Value → State → Outcome → State → Prop} {XC : String → State → State → Prop} {mc ms : Nat} {free : Addr → Prop} {cc : ByteArray} {maxL : Nat} {ret : Option FieldType}
    (hy : plainName y.cls = true) (hw : ws = Cond.code y cc maxL ret :: ws')
    (body : ∀ p e s m args below meth c s₁, BodyLoose p l y (headSpec ws rm) cc maxL ret e s m args below meth c s₁ → c.maxLocals = maxL → (∀ x ∈ c.exceptionTable.toList, False) → Pc args s →
      W p l e (headSpec ws rm).room s m args below meth c s.heap [] 0 0 (vx_MQ below Qc XC args s mc ms free) (entryFrame m args maxL)) : vx_Met l y ws rm Pc Qc XC mc ms free := by
  refine MetFree.of_bodyS (code := cc) (maxLocals := maxL) (ret := ret) hy ?_ ?_
  · intro args s m h hn
    obtain ⟨meth, c, h1, h2, h3, h4, h5, h6, -, -⟩ := Cond.code_spec hn (atoms_spec (ws := ws) h _ (by rw [hw]; exact List.mem_cons_self))
    exact ⟨meth, c, h1, h2, h3, h4, h5, h6⟩
  · intro p e s m args below meth c s₁ B hml hP _
    have hh0 : s₁.heap = s.heap := by rw [B.state]; rfl
    have ht : ∀ x ∈ c.exceptionTable.toList, False := by
      obtain ⟨meth9, c9, h1, h2, -, -, -, -, h7, -⟩ := Cond.code_spec B.named (atoms_spec (ws := ws) B.pre _ (by rw [hw]; exact List.mem_cons_self))
      cases Option.some.inj (h1.symm.trans B.method)
      cases Option.some.inj (h2.symm.trans (Stand.of_body B).code)
      intro x hx
      rw [Array.isEmpty_iff.mp h7] at hx
      cases hx
    obtain ⟨t, a1, o, b1, b2, b3⟩ := body p e s m args below meth c s₁ B hml ht hP s₁ hh0 (Stand.of_body B)
    exact ⟨t, o, a1, b1, b2, b3⟩
/-- the table of a body with handlers -/
theorem vx_table {p : Program} {x y : MethodName} {S : Spec} {cc bytes : ByteArray} {maxL maxL' : Nat} {ret ret' : Option FieldType} {e : Env} {s s₁ : State} {m : MethodId} {args : Array Value} {below : List Frame} {meth : Method} {c : Code} {hh : List (Nat × Nat × Nat × Nat)}
    (B : BodyLoose p l y S cc maxL ret e s m args below meth c s₁) (h : (Cond.codeWith y bytes maxL' ret' hh).before args s = true) : c.exceptionTable.toList = tableOf hh := by
  obtain ⟨m9, meth9, c9, hn9, h1, h2, -, -, h6, -⟩ := Cond.codeWith_spec h
  cases Option.some.inj (hn9.symm.trans B.named)
  cases Option.some.inj (h1.symm.trans B.method)
  cases Option.some.inj (h2.symm.trans (Stand.of_body B).code)
  rw [← h6, table_eq]
end Bodies
end VXA
/-! ===== END ===== -/
/-! ===== BEGIN a static call of a method with an exception table ===== -/
section VXS
variable {p : Program} {l : Launch} {e : Env} {R : Room} {s : State} {m : MethodId} {args : Array Value} {below : List Frame} {meth : Method} {c : Code} {T : State} {H : Heap} {locs : List Loc} {cells slots : Nat}
abbrev vx_CSW (R : Room) (s : State) (args : Array Value) (own : String) (index : Nat) (y : MethodName) (bytes : ByteArray) (maxL : Nat) (ret : Option FieldType) (hh : List (Nat × Nat × Nat × Nat)) (ws : List Cond) (rm : Room) (mc ms n : Nat) : Prop :=
  (rm.cells = mc ∧ rm.slots = ms ∧ rm.frames + 1 ≤ R.frames ∧ 8 + (maxL + 11) + rm.locals ≤ R.locals ∧ (∀ w ∈ ws, ∀ (a' : Array Value) (U : State), s.WarmedH U.vm → w.before a' U = true) ∧ Cond.codeWith y bytes maxL ret hh ∈ ws) ∧
  (Cond.codeWith y bytes maxL ret hh).before args s = true ∧ (Cond.initialized y.cls).before args s = true ∧ (y.cls ≠ "java/lang/invoke/MethodHandle" ∧ y.cls ≠ "java/lang/invoke/VarHandle") ∧
  (∀ sig, parseMethodDescriptor y.desc = some sig → n = sig.parameters.length) ∧ (Cond.methodLink own index y).before args s = true ∧ (Cond.static y).before args s = true
theorem vx_cwSW {own : String} {index maxL mc ms : Nat} {y : MethodName} {bytes : ByteArray} {ret : Option FieldType} {hh : List (Nat × Nat × Nat × Nat)} {Ts ws ws' : List Cond} {rm : Room} (n : Nat) (ht : ∀ w ∈ Ts, w.before args s = true) (hT : GoodIn Ts (va_wsS own index y ws)) (hw : ws = Cond.codeWith y bytes maxL ret hh :: ws') (hrc : rm.cells = mc) (hrs : rm.slots = ms)
    (hd : y.cls ≠ "java/lang/invoke/MethodHandle" ∧ y.cls ≠ "java/lang/invoke/VarHandle" ∧ (parseMethodDescriptor y.desc).map (fun d => d.parameters.length) = some n) (hR : rm.frames + 1 ≤ R.frames ∧ 8 + (maxL + 11) + rm.locals ≤ R.locals) :
    vx_CSW R s args own index y bytes maxL ret hh ws rm mc ms n := by
  have ok : ∀ w ∈ va_wsS own index y ws, w.before args s = true := fun w h => ht w (hT w h).1
  have hG : GoodIn Ts ws := fun w h => hT w (by unfold va_wsS; exact List.mem_append_right _ h)
  have hc : Cond.codeWith y bytes maxL ret hh ∈ ws := by rw [hw]; exact List.mem_cons_self
  refine ⟨⟨hrc, hrs, hR.1, hR.2, pay_in ht hG, hc⟩, ht _ (hG _ hc).1, ok _ (by simp [va_wsS]), ⟨hd.1, hd.2.1⟩, fun sig h => ?_, ok _ (by simp [va_wsS]), ok _ (by simp [va_wsS])⟩
  have h2 := hd.2.2
  rw [h] at h2
  exact (Option.some.inj h2).symm
theorem vx_callSW (X : Stand p l e R s m args below meth c T locs cells slots) (hexec : p.tables.exec = Jvm.exec) {own : String} {index : Nat} {y : MethodName} {bytes : ByteArray} {maxL : Nat} {ret : Option FieldType} {hh : List (Nat × Nat × Nat × Nat)}
    (hown : s.vm.findClass own = some m.cls) (hlink : (Cond.methodLink own index y).before args s = true) (hstat : (Cond.static y).before args s = true) (hinit : (Cond.initialized y.cls).before args s = true)
    (hcode : (Cond.codeWith y bytes maxL ret hh).before args s = true) (hy : y.cls ≠ "java/lang/invoke/MethodHandle" ∧ y.cls ≠ "java/lang/invoke/VarHandle")
    {W9 : Nat} {Pre : Pt → Array Value → Prop} {Post : Pt → Array Value → Option Value → Pt → Prop} (hK : Back l R p e below s args y 3 W9 Pre Post)
    {g : JFrame} (hg : g.method = m) (hsize : g.locals.size = c.maxLocals) {argsL rest : List Value} (hlen : ∀ sig, parseMethodDescriptor y.desc = some sig → argsL.length = sig.parameters.length)
    (hstack : g.stack = argsL.reverse ++ rest) (hW : 2 * g.monitorRoom + (rest.map fun v => v.category).sum ≤ W9) (hdg : decode c.code g.pc = .ok (.invokestatic index, 3))
    (hpre : ∀ vm₁, s.WarmedH vm₁ → Pre ⟨T.setVm vm₁, locs, cells, slots⟩ argsL.toArray) :
    ∃ (v : Option Value) (vm₁ : Vm) (B : Pt), s.WarmedH vm₁ ∧ Stand p l e R s m args below meth c B.U B.locs B.cells B.slots ∧ Post ⟨T.setVm vm₁, locs, cells, slots⟩ argsL.toArray v B ∧
      ∀ target, Steps p.tables e below (B.U.setTop { g with pc := g.pc + 3, stack := v.toList ++ rest }) target → Steps p.tables e below (T.setTop g) target := by
  obtain ⟨mk, methM, cM, hnamed, hmethM, -, -, -, -, -, -, hsigM⟩ := Cond.codeWith_spec hcode
  have hstatic : methM.isStatic = true := Cond.static_spec hnamed hmethM hstat
  obtain ⟨kP, hkP, -⟩ := className_of_methodNamed hnamed
  have hinitP : kP.init = .initialized := Cond.initialized_spec (findClass_of_methodNamed hnamed) hkP hinit
  obtain ⟨vm₁, X₁, hstep₁⟩ := X.invokestatic hexec hown hlink hnamed hmethM hstatic hkP hinitP hy (g := g) hg (argsL := argsL) (rest := rest) (hlen _ hsigM) hstack hdg
  obtain ⟨v, B, X', hpost, hsteps⟩ := hK m meth c ⟨T.setVm vm₁, locs, cells, slots⟩ { g with stack := rest } (.invokestatic index) mk argsL.toArray X₁ hg hsize hdg hW (X₁.named hnamed) (hpre vm₁ X₁.warmed)
  exact ⟨v, vm₁, B, X₁.warmed, X', hpost, fun target h => hstep₁ _ fun acts => by rw [doInvoke_state]; exact hsteps.trans h⟩
theorem vx_runSW {y : MethodName} {bytes cc : ByteArray} {maxL nL mc ms n index : Nat} {ret : Option FieldType} {hh : List (Nat × Nat × Nat × Nat)} {ws : List Cond} {rm : Room} {Pc : Array Value → State → Prop} {Qc : Array Value → State → Outcome → State → Prop} {free : Addr → Prop} {Ts : List Cond} {own : String} {As rest : List Value} {g : JFrame}
    (S : CallFix p m c cc nL s args Ts own) (hM : Met l y ws rm Pc Qc mc ms free) (cw : vx_CSW R s args own index y bytes maxL ret hh ws rm mc ms n) (hp : PreS s H Pc As)
    (hg : g.method = m) (hn : As.length = n) (hsize : g.locals.size = nL) (hstack : g.stack = As.reverse ++ rest) (hW : 2 * g.monitorRoom + (rest.map fun v => v.category).sum ≤ 8) (hdg : decode cc g.pc = .ok (.invokestatic index, 3)) (hf : cells + mc ≤ R.cells ∧ slots + ms ≤ R.slots) :
    va_Run p l e R s m args below meth c H locs cells slots mc ms g rest (Qc As.toArray) (free) := by
  obtain ⟨⟨hrc, hrs, hfr, hlo, hws, hcw⟩, hcode, hini, hy, hlen, hl, hstt⟩ := cw
  have hK : Back l R p e below s args y 3 8 (PreOf R mc ms Pc) (PostOf Qc mc ms free) := va_backW (hh := hh) (bytes := bytes) (maxL := maxL) (ret := ret) hM hp.1 hrc hrs hfr hlo hws hcw (fun a' U hW => word_at hW (Or.inl (by first | rfl | simp [Cond.onTables, Cond.keeps, Cond.steady])) hini)
  obtain ⟨hx, hb, hml, ho, -⟩ := S
  intro T hT X
  obtain ⟨v, vm₁, ⟨U', l2, c2, s2⟩, hW₁, X', ⟨g', mk, t, L, e1, e2, hq, h1, hL, h2, h3⟩, st⟩ := vx_callSW X hx (hh := hh) (bytes := bytes) (maxL := maxL) (ret := ret) ho hl hstt hini hcode hy hK hg (hsize.trans hml.symm) (argsL := As) (rest := rest) (fun sig h => hn.trans (hlen sig h)) hstack hW (by rw [hb]; exact hdg)
    (fun vm₁ hW₁ => ⟨hf.1, hf.2, hp.2 (T.setVm vm₁) hT hW₁⟩)
  dsimp only [Pt.U, Pt.locs, Pt.cells, Pt.slots] at X' e1 e2 h1 h2 h3 st
  subst h1; subst h2; subst h3
  exact ⟨v, (T.setVm vm₁).calling g' mk As.toArray, t, U', L, hT, X', hL, e1, e2, hq, st⟩
/-- a thing of a world lies in the heap -/
theorem vx_lt {D : va_G} {cl : List vw_C} {ws : va_W} {H1 : Heap} (h : va_P D cl ws H1) {k : Nat} {q : Nat × va_E} (hk : ws[k]? = some q) : q.1 < H1.size := (h k q hk).lt
end VXS
/-! ===== END ===== -/
/-! ===== BEGIN methods with a table of their own: called by a name, returning or throwing ===== -/
section VXH
/-! vx_backW, vx_callVX, vx_callSX, vx_callVW, vx_runVW, vx_runVX, vx_runSX, vx_ofWH follow the same proofs as their sisters above (Free/Laws.lean, Shelf42/LK1.lean); vx_outP calls Shelf42/NT130.lean (outThrough). -/
section
variable {l : Launch} {R : Room} {p : Program} {e : Env} {below : List Frame} {s : State} {sargs : Array Value} {y : MethodName} {len W9 : Nat}
theorem vx_backW {ws : List Cond} {rm : Room} {Pc : Array Value → State → Prop} {Qc : Array Value → State → Outcome → State → Prop} {XC : String → State → State → Prop} {mc ms : Nat} {free : Addr → Prop} {bytes : ByteArray} {maxL : Nat} {ret : Option FieldType} {hh : List (Nat × Nat × Nat × Nat)}
    (hM : vx_Met l y ws rm Pc Qc XC mc ms free) (hblind : FrameBlind Pc) (hrc : rm.cells = mc) (hrs : rm.slots = ms)
    (hframes : rm.frames + 1 ≤ R.frames) (hlocals : W9 + (maxL + 11) + rm.locals ≤ R.locals)
    (hws : ∀ w ∈ ws, ∀ a' U, s.WarmedH U.vm → w.before a' U = true) (hcode : Cond.codeWith y bytes maxL ret hh ∈ ws) (hinit : ∀ a' U, s.WarmedH U.vm → (Cond.initialized y.cls).before a' U = true) :
    vx_Back l R p e below s sargs y len W9 (PreOf R mc ms Pc) (PostOf Qc mc ms free) (vx_Post XC mc ms free) := by
  intro m meth c A g ig mk a X hg hsize hdg hW hn hp
  have h1 : (headSpec ws rm).pre.before a A.U = true := atoms_intro fun w hw => hws w hw _ _ X.warmed
  have h2 : (Cond.codeWith y bytes maxL ret hh).before a A.U = true := hws _ hcode _ _ X.warmed
  have h3 : (Cond.initialized y.cls).before a A.U = true := hinit _ _ X.warmed
  have h4 : A.cells + (headSpec ws rm).room.cells ≤ R.cells := by rw [show (headSpec ws rm).room.cells = mc from hrc]; exact hp.1
  have h5 : A.slots + (headSpec ws rm).room.slots ≤ R.slots := by rw [show (headSpec ws rm).room.slots = ms from hrs]; exact hp.2.1
  have hPc : Pc a (A.U.calling g mk a) := hblind _ _ _ _ hp.2.2
  obtain ⟨U, Ls, c0, s0⟩ := A
  dsimp only [Pt.U, Pt.locs, Pt.cells, Pt.slots] at h1 h2 h3 h4 h5 X hn hPc ⊢
  obtain ⟨m9, methY, cY, hn9, hmY, hcY, -, hlY, -⟩ := Cond.codeWith_spec h2
  cases Option.some.inj (hn9.symm.trans hn)
  obtain ⟨kY, hkY, -⟩ := className_of_methodNamed hn
  have hinitY : kY.init = .initialized := Cond.initialized_spec (findClass_of_methodNamed hn) hkY h3
  have h : At U g.method c below := by rw [hg]; exact X.here
  have hlocals9 : W9 + (maxL + 11) + (headSpec ws rm).room.locals ≤ R.locals := hlocals
  have happ : (headSpec ws rm).appliesLoose y e.platform (U.calling g mk a) = true :=
    Spec.appliesLoose_calling (g := g) h hdg hn hkY hinitY
      (X.room_calling (g := g) (R' := (headSpec ws rm).room) hsize hmY hcY hframes (by rw [hlY]; omega) h4 h5) h1
  obtain ⟨mid, hmid⟩ := h.above
  have hfr : (U.setTop g).frames = (.java g :: mid) ++ below := by rw [State.frames_setTop' g h.top, hmid]; rfl
  obtain ⟨o, s₂, hsteps, -, hend, hq⟩ := Steps.callFree hM p X.admits X.cas X.clock (acts := []) hfr happ hPc trivial
  have hq' : vx_Q Qc XC mc ms free a (U.calling g mk a) o s₂ := hq
  rw [State.frames_setTop' g h.top] at hend
  obtain ⟨g₀, hg0⟩ := Option.isSome_iff_exists.mp h.top
  obtain ⟨r, hr⟩ := State.topJava?_eq_some.mp hg0
  have hr' : (({ U with heap := s₂.heap, slotsUsed := s₂.slotsUsed } : State).setVm s₂.vm).frames = .java g₀ :: r := hr
  rcases hq' with ⟨hqc, L, hfe, hL⟩ | ⟨q, rfl, E, ce, L, hx, hce, hcv, hcl, hW₂, hsm, hL⟩
  · obtain ⟨⟨v, rfl⟩, hW₂, e2, q2, q3, q4, q5, q6⟩ := id hfe
    have e3 : s₂ = ({ (U.calling g mk a).setFrames s₂.frames with heap := s₂.heap, slotsUsed := s₂.slotsUsed } : State).setVm s₂.vm := by
      have : s₂ = ({ s₂ with vm := (U.calling g mk a).vm } : State).setVm s₂.vm := rfl
      rw [e2] at this
      exact this
    obtain ⟨c₂, i₂, len₂, hc₂, hd₂, hf₂⟩ := hend
    have hW' : U.WarmedH s₂.vm := hW₂
    have hcc : c₂ = c := by
      have h1 : s₂.code? g.method = U.code? g.method := by
        rw [State.code?_eq, State.code?_eq, hW'.alike.method?]
      exact Option.some.inj (hc₂.symm.trans (h1.trans h.code))
    subst hcc
    have hlen : len₂ = len := by rw [hdg] at hd₂; cases hd₂; rfl
    subst hlen
    have hs₂ : s₂ = (({ U with heap := s₂.heap, slotsUsed := s₂.slotsUsed } : State).setVm s₂.vm).setTop { g with pc := g.pc + len₂, stack := v.toList ++ g.stack } := by
      refine e3.trans ?_
      rw [hf₂, State.calling_eq h.top, State.setFrames_setFrames, State.setTop_of_frames _ hr', hr]
      rfl
    have hsame : U.sameButNew ({ U with heap := s₂.heap, slotsUsed := s₂.slotsUsed } : State) L mc ms := by
      refine ⟨?_, q2, q3, q4, q5, q6⟩
      obtain ⟨t, ht, -⟩ := State.frames_cons hr
      show ({ U with heap := s₂.heap, slotsUsed := s₂.slotsUsed } : State) = { U.setFrames U.frames with heap := s₂.heap, slotsUsed := s₂.slotsUsed }
      rw [State.setFrames_self ht]
    subst hg
    refine Or.inl ⟨v, ⟨(({ U with heap := s₂.heap, slotsUsed := s₂.slotsUsed } : State).setVm s₂.vm), Ls ++ L, c0 + mc, s0 + ms⟩,
      ⟨X.admits, X.cas, X.clock, X.frames, X.room, X.hears, X.method, X.code, (X.here.setHeapUsed s₂.heap s₂.slotsUsed).setVm hW'.alike, X.tail, State.WarmedH.trans X.warmed hW', X.limits, X.bytes, X.same.trans (hsame.setVm s.vm)⟩,
      ⟨g, mk, s₂, L, rfl, rfl, hqc, rfl, hL, rfl, rfl⟩, ?_⟩
    show Steps p.tables e below _ ((({ U with heap := s₂.heap, slotsUsed := s₂.slotsUsed } : State).setVm s₂.vm).setTop { g with pc := g.pc + len₂, stack := v.toList ++ g.stack })
    rw [← hs₂]
    exact hsteps
  · obtain ⟨e2, q2, q3, q4, q5, q6⟩ := id hsm
    have e3 : s₂ = ({ (U.calling g mk a).setFrames s₂.frames with heap := s₂.heap, slotsUsed := s₂.slotsUsed } : State).setVm s₂.vm := by
      have : s₂ = ({ s₂ with vm := (U.calling g mk a).vm } : State).setVm s₂.vm := rfl
      rw [e2] at this
      exact this
    have hf₂ : s₂.frames = .throwing q :: .java g :: U.frames.tail := hend
    have hW' : U.WarmedH s₂.vm := hW₂
    have hs₂ : s₂ = ((({ U with heap := s₂.heap, slotsUsed := s₂.slotsUsed } : State).setVm s₂.vm).setTop g).pushFrame (.throwing q) := by
      refine e3.trans ?_
      rw [hf₂, State.calling_eq h.top, State.setFrames_setFrames, State.pushFrame, State.frames_setTop _ hr', State.setTop_of_frames _ hr', State.setFrames_setFrames, hr]
      rfl
    have hsame : U.sameButNew ({ U with heap := s₂.heap, slotsUsed := s₂.slotsUsed } : State) L mc ms := by
      refine ⟨?_, q2, q3, q4, q5, q6⟩
      obtain ⟨t, ht, -⟩ := State.frames_cons hr
      show ({ U with heap := s₂.heap, slotsUsed := s₂.slotsUsed } : State) = { U.setFrames U.frames with heap := s₂.heap, slotsUsed := s₂.slotsUsed }
      rw [State.setFrames_self ht]
    subst hg
    refine Or.inr ⟨q, ⟨(({ U with heap := s₂.heap, slotsUsed := s₂.slotsUsed } : State).setVm s₂.vm), Ls ++ L, c0 + mc, s0 + ms⟩,
      ⟨X.admits, X.cas, X.clock, X.frames, X.room, X.hears, X.method, X.code, (X.here.setHeapUsed s₂.heap s₂.slotsUsed).setVm hW'.alike, X.tail, State.WarmedH.trans X.warmed hW', X.limits, X.bytes, X.same.trans (hsame.setVm s.vm)⟩,
      ⟨g, mk, s₂, L, E, ce, rfl, rfl, hx, hce, hcv, hcl, rfl, hL, rfl, rfl⟩, ?_⟩
    show Steps p.tables e below _ (((({ U with heap := s₂.heap, slotsUsed := s₂.slotsUsed } : State).setVm s₂.vm).setTop g).pushFrame (.throwing q))
    rw [← hs₂]
    exact hsteps
end
variable {p : Program} {l : Launch} {e : Env} {R : Room} {s : State} {m : MethodId} {args : Array Value} {below : List Frame} {meth : Method} {c : Code} {T : State} {H : Heap} {locs : List Loc} {cells slots : Nat}
theorem vx_callVX (X : Stand p l e R s m args below meth c T locs cells slots) (hexec : p.tables.exec = Jvm.exec) {own C : String} {index : Nat} {y : MethodName} {bytes : ByteArray} {maxL : Nat} {ret : Option FieldType} {hh : List (Nat × Nat × Nat × Nat)}
    (hown : s.vm.findClass own = some m.cls) (hlink : (Cond.methodLink own index y).before args s = true) (hinst : (Cond.instanceMethod y).before args s = true) (hsel : (Cond.selects C y y).before args s = true)
    (hcode : (Cond.codeWith y bytes maxL ret hh).before args s = true) (hy : y.cls ≠ "java/lang/invoke/MethodHandle" ∧ y.cls ≠ "java/lang/invoke/VarHandle")
    {W9 : Nat} {Pre : Pt → Array Value → Prop} {Post : Pt → Array Value → Option Value → Pt → Prop} {PostX : Pt → Array Value → Addr → Pt → Prop} (hK : vx_Back l R p e below s args y 3 W9 Pre Post PostX)
    {b : Addr} {cellB : Cell} (hcell : T.heap[b]? = some cellB) (hobj : cellB.vm.isStatics = false) (hcls : s.vm.findClass C = some cellB.cls)
    {g : JFrame} (hg : g.method = m) (hsize : g.locals.size = c.maxLocals) {argsL rest : List Value} (hlen : ∀ sig, parseMethodDescriptor y.desc = some sig → argsL.length = sig.parameters.length)
    (hstack : g.stack = argsL.reverse ++ .ref b :: rest) (hW : 2 * g.monitorRoom + (rest.map fun v => v.category).sum ≤ W9) (hdg : decode c.code g.pc = .ok (.invokevirtual index, 3))
    (hpre : ∀ vm₁, s.WarmedH vm₁ → Pre ⟨T.setVm vm₁, locs, cells, slots⟩ (Value.ref b :: argsL).toArray) :
    (∃ (v : Option Value) (vm₁ : Vm) (B : Pt), s.WarmedH vm₁ ∧ Stand p l e R s m args below meth c B.U B.locs B.cells B.slots ∧ Post ⟨T.setVm vm₁, locs, cells, slots⟩ (Value.ref b :: argsL).toArray v B ∧
      ∀ target, Steps p.tables e below (B.U.setTop { g with pc := g.pc + 3, stack := v.toList ++ rest }) target → Steps p.tables e below (T.setTop g) target) ∨
    (∃ (q : Addr) (vm₁ : Vm) (B : Pt), s.WarmedH vm₁ ∧ Stand p l e R s m args below meth c B.U B.locs B.cells B.slots ∧ PostX ⟨T.setVm vm₁, locs, cells, slots⟩ (Value.ref b :: argsL).toArray q B ∧
      Steps p.tables e below (T.setTop g) ((B.U.setTop { g with stack := rest }).pushFrame (.throwing q))) := by
  obtain ⟨mk, methM, hnamed, hmethM, hstM, habM⟩ := Cond.instanceMethod_spec hinst
  obtain ⟨m8, methM', cM, hn8, hmethM', -, -, -, -, -, -, hsigM⟩ := Cond.codeWith_spec hcode
  cases Option.some.inj (hn8.symm.trans hnamed)
  cases hmethM.symm.trans hmethM'
  obtain ⟨c2, r2, m2, q1, q2, q3, q4, kP, hkP, hkPi⟩ := Cond.selects_spec hsel
  cases hcls.symm.trans q1
  cases (State.methodFound?_of_named hnamed hy).symm.trans q2
  cases hnamed.symm.trans q3
  have hselP : selectMethod e.platform s.vm cellB.cls mk = .method mk := by rw [Launch.admits_selectMethod X.admits]; exact q4
  obtain ⟨vm₁, X₁, hstep₁⟩ := X.invokevirtual hexec hown hlink hnamed hmethM hstM hkP hkPi hy (a := b) (cell := cellB) hcell
    (fun z h => by rw [h] at hobj; cases hobj) hselP hmethM habM hkP hkPi (g := g) hg (argsL := argsL) (rest := rest) (hlen _ hsigM) hstack hdg
  rcases hK m meth c ⟨T.setVm vm₁, locs, cells, slots⟩ { g with stack := rest } (.invokevirtual index) mk (Value.ref b :: argsL).toArray X₁ hg hsize hdg hW (X₁.named hnamed) (hpre vm₁ X₁.warmed) with ⟨v, B, X', hpost, hsteps⟩ | ⟨q, B, X', hpost, hsteps⟩
  · exact Or.inl ⟨v, vm₁, B, X₁.warmed, X', hpost, fun target h => hstep₁ _ fun acts => by rw [doInvoke_state]; exact hsteps.trans h⟩
  · exact Or.inr ⟨q, vm₁, B, X₁.warmed, X', hpost, hstep₁ _ fun acts => by rw [doInvoke_state]; exact hsteps⟩
theorem vx_callSX (X : Stand p l e R s m args below meth c T locs cells slots) (hexec : p.tables.exec = Jvm.exec) {own : String} {index : Nat} {y : MethodName} {bytes : ByteArray} {maxL : Nat} {ret : Option FieldType} {hh : List (Nat × Nat × Nat × Nat)}
    (hown : s.vm.findClass own = some m.cls) (hlink : (Cond.methodLink own index y).before args s = true) (hstat : (Cond.static y).before args s = true) (hinit : (Cond.initialized y.cls).before args s = true)
    (hcode : (Cond.codeWith y bytes maxL ret hh).before args s = true) (hy : y.cls ≠ "java/lang/invoke/MethodHandle" ∧ y.cls ≠ "java/lang/invoke/VarHandle")
    {W9 : Nat} {Pre : Pt → Array Value → Prop} {Post : Pt → Array Value → Option Value → Pt → Prop} {PostX : Pt → Array Value → Addr → Pt → Prop} (hK : vx_Back l R p e below s args y 3 W9 Pre Post PostX)
    {g : JFrame} (hg : g.method = m) (hsize : g.locals.size = c.maxLocals) {argsL rest : List Value} (hlen : ∀ sig, parseMethodDescriptor y.desc = some sig → argsL.length = sig.parameters.length)
    (hstack : g.stack = argsL.reverse ++ rest) (hW : 2 * g.monitorRoom + (rest.map fun v => v.category).sum ≤ W9) (hdg : decode c.code g.pc = .ok (.invokestatic index, 3))
    (hpre : ∀ vm₁, s.WarmedH vm₁ → Pre ⟨T.setVm vm₁, locs, cells, slots⟩ argsL.toArray) :
    (∃ (v : Option Value) (vm₁ : Vm) (B : Pt), s.WarmedH vm₁ ∧ Stand p l e R s m args below meth c B.U B.locs B.cells B.slots ∧ Post ⟨T.setVm vm₁, locs, cells, slots⟩ argsL.toArray v B ∧
      ∀ target, Steps p.tables e below (B.U.setTop { g with pc := g.pc + 3, stack := v.toList ++ rest }) target → Steps p.tables e below (T.setTop g) target) ∨
    (∃ (q : Addr) (vm₁ : Vm) (B : Pt), s.WarmedH vm₁ ∧ Stand p l e R s m args below meth c B.U B.locs B.cells B.slots ∧ PostX ⟨T.setVm vm₁, locs, cells, slots⟩ argsL.toArray q B ∧
      Steps p.tables e below (T.setTop g) ((B.U.setTop { g with stack := rest }).pushFrame (.throwing q))) := by
  obtain ⟨mk, methM, cM, hnamed, hmethM, -, -, -, -, -, -, hsigM⟩ := Cond.codeWith_spec hcode
  have hstatic : methM.isStatic = true := Cond.static_spec hnamed hmethM hstat
  obtain ⟨kP, hkP, -⟩ := className_of_methodNamed hnamed
  have hinitP : kP.init = .initialized := Cond.initialized_spec (findClass_of_methodNamed hnamed) hkP hinit
  obtain ⟨vm₁, X₁, hstep₁⟩ := X.invokestatic hexec hown hlink hnamed hmethM hstatic hkP hinitP hy (g := g) hg (argsL := argsL) (rest := rest) (hlen _ hsigM) hstack hdg
  rcases hK m meth c ⟨T.setVm vm₁, locs, cells, slots⟩ { g with stack := rest } (.invokestatic index) mk argsL.toArray X₁ hg hsize hdg hW (X₁.named hnamed) (hpre vm₁ X₁.warmed) with ⟨v, B, X', hpost, hsteps⟩ | ⟨q, B, X', hpost, hsteps⟩
  · exact Or.inl ⟨v, vm₁, B, X₁.warmed, X', hpost, fun target h => hstep₁ _ fun acts => by rw [doInvoke_state]; exact hsteps.trans h⟩
  · exact Or.inr ⟨q, vm₁, B, X₁.warmed, X', hpost, hstep₁ _ fun acts => by rw [doInvoke_state]; exact hsteps⟩
theorem vx_callVW (X : Stand p l e R s m args below meth c T locs cells slots) (hexec : p.tables.exec = Jvm.exec) {own C : String} {index : Nat} {y : MethodName} {bytes : ByteArray} {maxL : Nat} {ret : Option FieldType} {hh : List (Nat × Nat × Nat × Nat)}
    (hown : s.vm.findClass own = some m.cls) (hlink : (Cond.methodLink own index y).before args s = true) (hinst : (Cond.instanceMethod y).before args s = true) (hsel : (Cond.selects C y y).before args s = true)
    (hcode : (Cond.codeWith y bytes maxL ret hh).before args s = true) (hy : y.cls ≠ "java/lang/invoke/MethodHandle" ∧ y.cls ≠ "java/lang/invoke/VarHandle")
    {W9 : Nat} {Pre : Pt → Array Value → Prop} {Post : Pt → Array Value → Option Value → Pt → Prop} (hK : Back l R p e below s args y 3 W9 Pre Post)
    {b : Addr} {cellB : Cell} (hcell : T.heap[b]? = some cellB) (hobj : cellB.vm.isStatics = false) (hcls : s.vm.findClass C = some cellB.cls)
    {g : JFrame} (hg : g.method = m) (hsize : g.locals.size = c.maxLocals) {argsL rest : List Value} (hlen : ∀ sig, parseMethodDescriptor y.desc = some sig → argsL.length = sig.parameters.length)
    (hstack : g.stack = argsL.reverse ++ .ref b :: rest) (hW : 2 * g.monitorRoom + (rest.map fun v => v.category).sum ≤ W9) (hdg : decode c.code g.pc = .ok (.invokevirtual index, 3))
    (hpre : ∀ vm₁, s.WarmedH vm₁ → Pre ⟨T.setVm vm₁, locs, cells, slots⟩ (Value.ref b :: argsL).toArray) :
    ∃ (v : Option Value) (vm₁ : Vm) (B : Pt), s.WarmedH vm₁ ∧ Stand p l e R s m args below meth c B.U B.locs B.cells B.slots ∧ Post ⟨T.setVm vm₁, locs, cells, slots⟩ (Value.ref b :: argsL).toArray v B ∧
      ∀ target, Steps p.tables e below (B.U.setTop { g with pc := g.pc + 3, stack := v.toList ++ rest }) target → Steps p.tables e below (T.setTop g) target := by
  obtain ⟨mk, methM, hnamed, hmethM, hstM, habM⟩ := Cond.instanceMethod_spec hinst
  obtain ⟨m8, methM', cM, hn8, hmethM', -, -, -, -, -, -, hsigM⟩ := Cond.codeWith_spec hcode
  cases Option.some.inj (hn8.symm.trans hnamed)
  cases hmethM.symm.trans hmethM'
  obtain ⟨c2, r2, m2, q1, q2, q3, q4, kP, hkP, hkPi⟩ := Cond.selects_spec hsel
  cases hcls.symm.trans q1
  cases (State.methodFound?_of_named hnamed hy).symm.trans q2
  cases hnamed.symm.trans q3
  have hselP : selectMethod e.platform s.vm cellB.cls mk = .method mk := by rw [Launch.admits_selectMethod X.admits]; exact q4
  obtain ⟨vm₁, X₁, hstep₁⟩ := X.invokevirtual hexec hown hlink hnamed hmethM hstM hkP hkPi hy (a := b) (cell := cellB) hcell
    (fun z h => by rw [h] at hobj; cases hobj) hselP hmethM habM hkP hkPi (g := g) hg (argsL := argsL) (rest := rest) (hlen _ hsigM) hstack hdg
  obtain ⟨v, B, X', hpost, hsteps⟩ := hK m meth c ⟨T.setVm vm₁, locs, cells, slots⟩ { g with stack := rest } (.invokevirtual index) mk (Value.ref b :: argsL).toArray X₁ hg hsize hdg hW (X₁.named hnamed) (hpre vm₁ X₁.warmed)
  exact ⟨v, vm₁, B, X₁.warmed, X', hpost, fun target h => hstep₁ _ fun acts => by rw [doInvoke_state]; exact hsteps.trans h⟩
abbrev vx_CVW (R : Room) (s : State) (args : Array Value) (own C : String) (index : Nat) (y : MethodName) (bytes : ByteArray) (maxL : Nat) (ret : Option FieldType) (hh : List (Nat × Nat × Nat × Nat)) (ws : List Cond) (rm : Room) (mc ms n : Nat) : Prop :=
  (rm.cells = mc ∧ rm.slots = ms ∧ rm.frames + 1 ≤ R.frames ∧ 8 + (maxL + 11) + rm.locals ≤ R.locals ∧ (∀ w ∈ ws, ∀ (a' : Array Value) (U : State), s.WarmedH U.vm → w.before a' U = true) ∧ Cond.codeWith y bytes maxL ret hh ∈ ws) ∧
  (Cond.codeWith y bytes maxL ret hh).before args s = true ∧ (Cond.initialized y.cls).before args s = true ∧ (y.cls ≠ "java/lang/invoke/MethodHandle" ∧ y.cls ≠ "java/lang/invoke/VarHandle") ∧
  (∀ sig, parseMethodDescriptor y.desc = some sig → n = sig.parameters.length) ∧ (Cond.methodLink own index y).before args s = true ∧ (Cond.instanceMethod y).before args s = true ∧ (Cond.selects C y y).before args s = true
theorem vx_cwVW {own C : String} {index maxL mc ms : Nat} {y : MethodName} {bytes : ByteArray} {ret : Option FieldType} {hh : List (Nat × Nat × Nat × Nat)} {Ts ws ws' : List Cond} {rm : Room} (n : Nat) (ht : ∀ w ∈ Ts, w.before args s = true) (hT : GoodIn Ts (wsV own index C y ws)) (hw : ws = Cond.codeWith y bytes maxL ret hh :: ws') (hrc : rm.cells = mc) (hrs : rm.slots = ms)
    (hd : y.cls = C ∧ y.cls ≠ "java/lang/invoke/MethodHandle" ∧ y.cls ≠ "java/lang/invoke/VarHandle" ∧ (parseMethodDescriptor y.desc).map (fun d => d.parameters.length) = some n) (hR : rm.frames + 1 ≤ R.frames ∧ 8 + (maxL + 11) + rm.locals ≤ R.locals) :
    vx_CVW R s args own C index y bytes maxL ret hh ws rm mc ms n := by
  obtain ⟨hC, hd⟩ := hd
  subst hC
  have ok : ∀ w ∈ wsV own index y.cls y ws, w.before args s = true := fun w h => ht w (hT w h).1
  have hG : GoodIn Ts ws := fun w h => hT w (by unfold wsV; exact List.mem_append_right _ h)
  have hc : Cond.codeWith y bytes maxL ret hh ∈ ws := by rw [hw]; exact List.mem_cons_self
  refine ⟨⟨hrc, hrs, hR.1, hR.2, pay_in ht hG, hc⟩, ht _ (hG _ hc).1, ok _ (by simp [wsV]), ⟨hd.1, hd.2.1⟩, fun sig h => ?_, ok _ (by simp [wsV]), ok _ (by simp [wsV]), ok _ (by simp [wsV])⟩
  have h2 := hd.2.2
  rw [h] at h2
  exact (Option.some.inj h2).symm
theorem vx_runVW {y : MethodName} {bytes cc : ByteArray} {maxL nL mc ms n index : Nat} {ret : Option FieldType} {hh : List (Nat × Nat × Nat × Nat)} {ws : List Cond} {rm : Room} {Pc : Array Value → State → Prop} {Qc : Array Value → State → Outcome → State → Prop} {free : Addr → Prop} {Ts : List Cond} {own C : String} {b : Addr} {As rest : List Value} {g : JFrame}
    (S : CallFix p m c cc nL s args Ts own) (hM : Met l y ws rm Pc Qc mc ms free) (cw : vx_CVW R s args own C index y bytes maxL ret hh ws rm mc ms n) (hp : PreV s H C b Pc As)
    (hg : g.method = m) (hn : As.length = n) (hsize : g.locals.size = nL) (hstack : g.stack = As.reverse ++ .ref b :: rest) (hW : 2 * g.monitorRoom + (rest.map fun v => v.category).sum ≤ 8) (hdg : decode cc g.pc = .ok (.invokevirtual index, 3)) (hf : cells + mc ≤ R.cells ∧ slots + ms ≤ R.slots) :
    va_Run p l e R s m args below meth c H locs cells slots mc ms g rest (Qc (Value.ref b :: As).toArray) free := by
  obtain ⟨⟨hrc, hrs, hfr, hlo, hws, hcw⟩, hcode, hini, hy, hlen, hl, hin, hse⟩ := cw
  have hK : Back l R p e below s args y 3 8 (PreOf R mc ms Pc) (PostOf Qc mc ms free) := va_backW (hh := hh) (bytes := bytes) (maxL := maxL) (ret := ret) hM hp.1 hrc hrs hfr hlo hws hcw (fun a' U hW => word_at hW (Or.inl (by first | rfl | simp [Cond.onTables, Cond.keeps, Cond.steady])) hini)
  obtain ⟨hx, hb, hml, ho, -⟩ := S
  obtain ⟨-, ⟨cellB, hcB, hoB, hclB⟩, hPc⟩ := hp
  intro T hT X
  obtain ⟨v, vm₁, ⟨U', l2, c2, s2⟩, hW₁, X', ⟨g', mk, t, L, e1, e2, hq, h1, hL, h2, h3⟩, st⟩ := vx_callVW X hx (C := C) (hh := hh) (bytes := bytes) (maxL := maxL) (ret := ret) ho hl hin hse hcode hy hK (by rw [hT]; exact hcB) hoB hclB hg (hsize.trans hml.symm) (argsL := As) (rest := rest) (fun sig h => hn.trans (hlen sig h)) hstack hW (by rw [hb]; exact hdg)
    (fun vm₁ hW₁ => ⟨hf.1, hf.2, hPc (T.setVm vm₁) hT hW₁⟩)
  dsimp only [Pt.U, Pt.locs, Pt.cells, Pt.slots] at X' e1 e2 h1 h2 h3 st
  subst h1; subst h2; subst h3
  exact ⟨v, (T.setVm vm₁).calling g' mk (Value.ref b :: As).toArray, t, U', L, hT, X', hL, e1, e2, hq, st⟩
section
variable {y : MethodName} {bytes cc : ByteArray} {maxL nL mc ms n index : Nat} {ret : Option FieldType} {ws : List Cond} {rm : Room} {Pc : Array Value → State → Prop} {Qc : Array Value → State → Outcome → State → Prop} {XC : String → State → State → Prop} {free : Addr → Prop} {Ts : List Cond} {own C : String} {b : Addr} {As rest : List Value} {g : JFrame}
theorem vx_runVX {hh : List (Nat × Nat × Nat × Nat)} (S : CallFix p m c cc nL s args Ts own) (hM : vx_Met l y ws rm Pc Qc XC mc ms free) (cw : vx_CVW R s args own C index y bytes maxL ret hh ws rm mc ms n) (hp : PreV s H C b Pc As)
    (hg : g.method = m) (hn : As.length = n) (hsize : g.locals.size = nL) (hstack : g.stack = As.reverse ++ .ref b :: rest) (hW : 2 * g.monitorRoom + (rest.map fun v => v.category).sum ≤ 8) (hdg : decode cc g.pc = .ok (.invokevirtual index, 3)) (hf : cells + mc ≤ R.cells ∧ slots + ms ≤ R.slots) :
    vx_Run p l e R s m args below meth c H locs cells slots mc ms g rest (Qc (Value.ref b :: As).toArray) XC free := by
  obtain ⟨⟨hrc, hrs, hfr, hlo, hws, hcw⟩, hcode, hini, hy, hlen, hl, hin, hse⟩ := cw
  have hK : vx_Back l R p e below s args y 3 8 (PreOf R mc ms Pc) (PostOf Qc mc ms free) (vx_Post XC mc ms free) := vx_backW (hh := hh) (bytes := bytes) (maxL := maxL) (ret := ret) hM hp.1 hrc hrs hfr hlo hws hcw (fun a' U hW => word_at hW (Or.inl (by first | rfl | simp [Cond.onTables, Cond.keeps, Cond.steady])) hini)
  obtain ⟨hx, hb, hml, ho, -⟩ := S
  obtain ⟨-, ⟨cellB, hcB, hoB, hclB⟩, hPc⟩ := hp
  intro T hT X
  rcases vx_callVX X hx (C := C) (hh := hh) (bytes := bytes) (maxL := maxL) (ret := ret) ho hl hin hse hcode hy hK (by rw [hT]; exact hcB) hoB hclB hg (hsize.trans hml.symm) (argsL := As) (rest := rest) (fun sig h => hn.trans (hlen sig h)) hstack hW (by rw [hb]; exact hdg)
    (fun vm₁ hW₁ => ⟨hf.1, hf.2, hPc (T.setVm vm₁) hT hW₁⟩) with ⟨v, vm₁, ⟨U', l2, c2, s2⟩, hW₁, X', ⟨g', mk, t, L, e1, e2, hq, h1, hL, h2, h3⟩, st⟩ | ⟨q, vm₁, ⟨U', l2, c2, s2⟩, hW₁, X', ⟨g', mk, t, L, E, ce, e1, e2, hq, hce, hcv, hcl, h1, hL, h2, h3⟩, st⟩
  · dsimp only [Pt.U, Pt.locs, Pt.cells, Pt.slots] at X' e1 e2 h1 h2 h3 st
    subst h1; subst h2; subst h3
    exact Or.inl ⟨v, (T.setVm vm₁).calling g' mk (Value.ref b :: As).toArray, t, U', L, hT, X', hL, e1, e2, hq, st⟩
  · dsimp only [Pt.U, Pt.locs, Pt.cells, Pt.slots] at X' e1 e2 h1 h2 h3 st hcl
    subst h1; subst h2; subst h3
    exact Or.inr ⟨q, (T.setVm vm₁).calling g' mk (Value.ref b :: As).toArray, t, U', L, E, ce, hT, X', hL, e1, e2, hq, hce, hcv, vx_cls hW₁ hcl, st⟩
theorem vx_runSX {hh : List (Nat × Nat × Nat × Nat)} (S : CallFix p m c cc nL s args Ts own) (hM : vx_Met l y ws rm Pc Qc XC mc ms free) (cw : vx_CSW R s args own index y bytes maxL ret hh ws rm mc ms n) (hp : PreS s H Pc As)
    (hg : g.method = m) (hn : As.length = n) (hsize : g.locals.size = nL) (hstack : g.stack = As.reverse ++ rest) (hW : 2 * g.monitorRoom + (rest.map fun v => v.category).sum ≤ 8) (hdg : decode cc g.pc = .ok (.invokestatic index, 3)) (hf : cells + mc ≤ R.cells ∧ slots + ms ≤ R.slots) :
    vx_Run p l e R s m args below meth c H locs cells slots mc ms g rest (Qc As.toArray) XC free := by
  obtain ⟨⟨hrc, hrs, hfr, hlo, hws, hcw⟩, hcode, hini, hy, hlen, hl, hstt⟩ := cw
  have hK : vx_Back l R p e below s args y 3 8 (PreOf R mc ms Pc) (PostOf Qc mc ms free) (vx_Post XC mc ms free) := vx_backW (hh := hh) (bytes := bytes) (maxL := maxL) (ret := ret) hM hp.1 hrc hrs hfr hlo hws hcw (fun a' U hW => word_at hW (Or.inl (by first | rfl | simp [Cond.onTables, Cond.keeps, Cond.steady])) hini)
  obtain ⟨hx, hb, hml, ho, -⟩ := S
  intro T hT X
  rcases vx_callSX X hx (hh := hh) (bytes := bytes) (maxL := maxL) (ret := ret) ho hl hstt hini hcode hy hK hg (hsize.trans hml.symm) (argsL := As) (rest := rest) (fun sig h => hn.trans (hlen sig h)) hstack hW (by rw [hb]; exact hdg)
    (fun vm₁ hW₁ => ⟨hf.1, hf.2, hp.2 (T.setVm vm₁) hT hW₁⟩) with ⟨v, vm₁, ⟨U', l2, c2, s2⟩, hW₁, X', ⟨g', mk, t, L, e1, e2, hq, h1, hL, h2, h3⟩, st⟩ | ⟨q, vm₁, ⟨U', l2, c2, s2⟩, hW₁, X', ⟨g', mk, t, L, E, ce, e1, e2, hq, hce, hcv, hcl, h1, hL, h2, h3⟩, st⟩
  · dsimp only [Pt.U, Pt.locs, Pt.cells, Pt.slots] at X' e1 e2 h1 h2 h3 st
    subst h1; subst h2; subst h3
    exact Or.inl ⟨v, (T.setVm vm₁).calling g' mk As.toArray, t, U', L, hT, X', hL, e1, e2, hq, st⟩
  · dsimp only [Pt.U, Pt.locs, Pt.cells, Pt.slots] at X' e1 e2 h1 h2 h3 st hcl
    subst h1; subst h2; subst h3
    exact Or.inr ⟨q, (T.setVm vm₁).calling g' mk As.toArray, t, U', L, E, ce, hT, X', hL, e1, e2, hq, hce, hcv, vx_cls hW₁ hcl, st⟩
end
end VXH
theorem vx_ofWH {l : Launch} {y : MethodName} {ws ws' : List Cond} {rm : Room} {Pc : Array Value → State → Prop} {Qc : Array Value → State → Outcome → State → Prop} {XC : String → State → State → Prop} {mc ms : Nat} {free : Addr → Prop} {cc : ByteArray} {maxL : Nat} {ret : Option FieldType} {hh : List (Nat × Nat × Nat × Nat)}
    (hy : plainName y.cls = true) (hw : ws = Cond.codeWith y cc maxL ret hh :: ws')
    (body : ∀ p e s m args below meth c s₁, BodyLoose p l y (headSpec ws rm) cc maxL ret e s m args below meth c s₁ → c.maxLocals = maxL → Pc args s →
      W p l e (headSpec ws rm).room s m args below meth c s.heap [] 0 0 (vx_MQ below Qc XC args s mc ms free) (entryFrame m args maxL)) : vx_Met l y ws rm Pc Qc XC mc ms free := by
  refine MetFree.of_bodyS (code := cc) (maxLocals := maxL) (ret := ret) hy ?_ ?_
  · intro args s m h hn
    obtain ⟨m9, meth, c, hn9, h1, h2, h3, h4, -, h5, h6, -⟩ := Cond.codeWith_spec (atoms_spec (ws := ws) h _ (by rw [hw]; exact List.mem_cons_self))
    cases hn.symm.trans hn9
    exact ⟨meth, c, h1, h2, h3, h4, h5, h6⟩
  · intro p e s m args below meth c s₁ B hml hP _
    have hh0 : s₁.heap = s.heap := by rw [B.state]; rfl
    obtain ⟨t, a1, o, b1, b2, b3⟩ := body p e s m args below meth c s₁ B hml hP s₁ hh0 (Stand.of_body B)
    exact ⟨t, o, a1, b1, b2, b3⟩
/-! ===== END ===== -/

/-! ===== BEGIN printed: names, fields, word lists, decode rows ===== -/
def RX0 : String := "TurnHall$Barrier"
def TX0 : u_T := fun k => match k with
  | 0 => ("TurnHall$Barrier", "index", "I", true)
  | 1 => ("TurnHall$Barrier", "floor", "LTurnHall$Floor;", true)
  | 2 => ("TurnHall$Barrier", "line", "LTurnHall$Line;", true)
  | 3 => ("TurnHall$Barrier", "parties", "I", false)
  | 4 => ("TurnHall$Barrier", "passes", "I", false)
  | _ => ("TurnHall$Barrier", "broken", "Z", false)
def tyX0 : Nat → FieldType := fun k => match k with
  | 0 => .int
  | 1 => .object "TurnHall$Floor"
  | 2 => .object "TurnHall$Line"
  | 3 => .int
  | 4 => .int
  | _ => .boolean
abbrev wsX00 : List Cond := u_ws RX0 TX0 6
theorem nmX0 : ∀ a, a < 6 → ∀ b, b < 6 → a ≠ b → (TX0 a).2.1 ≠ (TX0 b).2.1 := by decide +kernel
theorem tyX0_ok : ∀ k, k < 6 → parseFieldDescriptor (TX0 k).2.2.1 = some (tyX0 k) := by decide +kernel
abbrev cX0_init : ByteArray := prog_2_method_1_code
def yX0_init : MethodName := ⟨RX0, "<init>", "(ILTurnHall$Floor;)V"⟩
abbrev cX0_keep : ByteArray := prog_2_method_2_code
def yX0_keep : MethodName := ⟨RX0, "keep", "(LTurnHall$Worker;J)V"⟩
abbrev cX0_letPass : ByteArray := prog_2_method_3_code
def yX0_letPass : MethodName := ⟨RX0, "letPass", "(LTurnHall$Worker;)V"⟩
abbrev cX0_breakUp : ByteArray := prog_2_method_4_code
def yX0_breakUp : MethodName := ⟨RX0, "breakUp", "()V"⟩
abbrev cX0_breakBy : ByteArray := prog_2_method_5_code
def yX0_breakBy : MethodName := ⟨RX0, "breakBy", "(LTurnHall$Worker;I)V"⟩
def RX1 : String := "TurnHall$Floor"
def TX1 : u_T := fun k => match k with
  | 0 => ("TurnHall$Floor", "programs", "[LTurnHall$Program;", true)
  | 1 => ("TurnHall$Floor", "workers", "[LTurnHall$Worker;", true)
  | 2 => ("TurnHall$Floor", "size", "I", false)
  | 3 => ("TurnHall$Floor", "ready", "I", false)
  | 4 => ("TurnHall$Floor", "ended", "I", false)
  | 5 => ("TurnHall$Floor", "steps", "I", false)
  | 6 => ("TurnHall$Floor", "faults", "I", false)
  | 7 => ("TurnHall$Floor", "waits", "I", false)
  | 8 => ("TurnHall$Floor", "clock", "J", false)
  | _ => ("TurnHall$Floor", "moved", "Z", false)
def tyX1 : Nat → FieldType := fun k => match k with
  | 0 => .array (.object "TurnHall$Program")
  | 1 => .array (.object "TurnHall$Worker")
  | 2 => .int
  | 3 => .int
  | 4 => .int
  | 5 => .int
  | 6 => .int
  | 7 => .int
  | 8 => .long
  | _ => .boolean
abbrev wsX10 : List Cond := u_ws RX1 TX1 10
theorem nmX1 : ∀ a, a < 10 → ∀ b, b < 10 → a ≠ b → (TX1 a).2.1 ≠ (TX1 b).2.1 := by decide +kernel
theorem tyX1_ok : ∀ k, k < 10 → parseFieldDescriptor (TX1 k).2.2.1 = some (tyX1 k) := by decide +kernel
abbrev cX1_init : ByteArray := prog_3_method_1_code
def yX1_init : MethodName := ⟨RX1, "<init>", "()V"⟩
abbrev cX1_newWorker : ByteArray := prog_3_method_2_code
def yX1_newWorker : MethodName := ⟨RX1, "newWorker", "(I)LTurnHall$Worker;"⟩
abbrev cX1_isCalled : ByteArray := prog_3_method_3_code
def yX1_isCalled : MethodName := ⟨RX1, "isCalled", "(I)Z"⟩
abbrev cX1_timeBehind : ByteArray := prog_3_method_4_code
def yX1_timeBehind : MethodName := ⟨RX1, "timeBehind", "(J)J"⟩
abbrev cX1_endOf : ByteArray := prog_3_method_5_code
def yX1_endOf : MethodName := ⟨RX1, "endOf", "(J)J"⟩
abbrev cX1_beginWait : ByteArray := prog_3_method_6_code
def yX1_beginWait : MethodName := ⟨RX1, "beginWait", "(LTurnHall$Worker;IIJ)V"⟩
abbrev cX1_goOn : ByteArray := prog_3_method_7_code
def yX1_goOn : MethodName := ⟨RX1, "goOn", "(LTurnHall$Worker;)V"⟩
abbrev cX1_raise : ByteArray := prog_3_method_8_code
def yX1_raise : MethodName := ⟨RX1, "raise", "(LTurnHall$Worker;I)V"⟩
abbrev cX1_end : ByteArray := prog_3_method_9_code
def yX1_end : MethodName := ⟨RX1, "end", "(LTurnHall$Worker;I)V"⟩
abbrev cX1_isAtStep : ByteArray := prog_3_method_10_code
def yX1_isAtStep : MethodName := ⟨RX1, "isAtStep", "(LTurnHall$Worker;)Z"⟩
abbrev cX1_returnCalls : ByteArray := prog_3_method_11_code
def yX1_returnCalls : MethodName := ⟨RX1, "returnCalls", "(LTurnHall$Worker;)V"⟩
abbrev cX1_settle : ByteArray := prog_3_method_12_code
def yX1_settle : MethodName := ⟨RX1, "settle", "()V"⟩
abbrev cX1_firstDue : ByteArray := prog_3_method_13_code
def yX1_firstDue : MethodName := ⟨RX1, "firstDue", "()LTurnHall$Worker;"⟩
abbrev cX1_isEarlier : ByteArray := prog_3_method_14_code
def yX1_isEarlier : MethodName := ⟨RX1, "isEarlier", "(LTurnHall$Worker;LTurnHall$Worker;)Z"⟩
def RX2 : String := "TurnHall$Line"
def TX2 : u_T := fun k => match k with
  | 0 => ("TurnHall$Line", "first", "LTurnHall$Worker;", false)
  | 1 => ("TurnHall$Line", "last", "LTurnHall$Worker;", false)
  | _ => ("TurnHall$Line", "size", "I", false)
def tyX2 : Nat → FieldType := fun k => match k with
  | 0 => .object "TurnHall$Worker"
  | 1 => .object "TurnHall$Worker"
  | _ => .int
abbrev wsX20 : List Cond := u_ws RX2 TX2 3
theorem nmX2 : ∀ a, a < 3 → ∀ b, b < 3 → a ≠ b → (TX2 a).2.1 ≠ (TX2 b).2.1 := by decide +kernel
theorem tyX2_ok : ∀ k, k < 3 → parseFieldDescriptor (TX2 k).2.2.1 = some (tyX2 k) := by decide +kernel
abbrev cX2_init : ByteArray := prog_4_method_1_code
def yX2_init : MethodName := ⟨RX2, "<init>", "()V"⟩
abbrev cX2_firstNumber : ByteArray := prog_4_method_2_code
def yX2_firstNumber : MethodName := ⟨RX2, "firstNumber", "()I"⟩
abbrev cX2_append : ByteArray := prog_4_method_3_code
def yX2_append : MethodName := ⟨RX2, "append", "(LTurnHall$Worker;)V"⟩
abbrev cX2_takeFirst : ByteArray := prog_4_method_4_code
def yX2_takeFirst : MethodName := ⟨RX2, "takeFirst", "()LTurnHall$Worker;"⟩
abbrev cX2_remove : ByteArray := prog_4_method_5_code
def yX2_remove : MethodName := ⟨RX2, "remove", "(LTurnHall$Worker;)V"⟩
abbrev cX2_cut : ByteArray := prog_4_method_6_code
def yX2_cut : MethodName := ⟨RX2, "cut", "(LTurnHall$Worker;LTurnHall$Worker;)V"⟩
def RX3 : String := "TurnHall$Lock"
def TX3 : u_T := fun k => match k with
  | 0 => ("TurnHall$Lock", "index", "I", true)
  | 1 => ("TurnHall$Lock", "floor", "LTurnHall$Floor;", true)
  | 2 => ("TurnHall$Lock", "line", "LTurnHall$Line;", true)
  | 3 => ("TurnHall$Lock", "writer", "I", false)
  | 4 => ("TurnHall$Lock", "writes", "I", false)
  | _ => ("TurnHall$Lock", "reads", "I", false)
def tyX3 : Nat → FieldType := fun k => match k with
  | 0 => .int
  | 1 => .object "TurnHall$Floor"
  | 2 => .object "TurnHall$Line"
  | 3 => .int
  | 4 => .int
  | _ => .int
abbrev wsX30 : List Cond := u_ws RX3 TX3 6
theorem nmX3 : ∀ a, a < 6 → ∀ b, b < 6 → a ≠ b → (TX3 a).2.1 ≠ (TX3 b).2.1 := by decide +kernel
theorem tyX3_ok : ∀ k, k < 6 → parseFieldDescriptor (TX3 k).2.2.1 = some (tyX3 k) := by decide +kernel
abbrev cX3_init : ByteArray := prog_5_method_1_code
def yX3_init : MethodName := ⟨RX3, "<init>", "(ILTurnHall$Floor;)V"⟩
abbrev cX3_read : ByteArray := prog_5_method_2_code
def yX3_read : MethodName := ⟨RX3, "read", "(LTurnHall$Worker;)V"⟩
abbrev cX3_write : ByteArray := prog_5_method_3_code
def yX3_write : MethodName := ⟨RX3, "write", "(LTurnHall$Worker;)V"⟩
abbrev cX3_addRead : ByteArray := prog_5_method_4_code
def yX3_addRead : MethodName := ⟨RX3, "addRead", "(LTurnHall$Worker;)V"⟩
abbrev cX3_addWrite : ByteArray := prog_5_method_5_code
def yX3_addWrite : MethodName := ⟨RX3, "addWrite", "(LTurnHall$Worker;)V"⟩
abbrev cX3_lineUp : ByteArray := prog_5_method_6_code
def yX3_lineUp : MethodName := ⟨RX3, "lineUp", "(LTurnHall$Worker;Z)V"⟩
abbrev cX3_tryReadLess : ByteArray := prog_5_method_7_code
def yX3_tryReadLess : MethodName := ⟨RX3, "tryReadLess", "(LTurnHall$Worker;)Z"⟩
abbrev cX3_tryWriteLess : ByteArray := prog_5_method_8_code
def yX3_tryWriteLess : MethodName := ⟨RX3, "tryWriteLess", "(LTurnHall$Worker;)Z"⟩
abbrev cX3_serve : ByteArray := prog_5_method_9_code
def yX3_serve : MethodName := ⟨RX3, "serve", "()V"⟩
abbrev cX3_isFreeForFirst : ByteArray := prog_5_method_10_code
def yX3_isFreeForFirst : MethodName := ⟨RX3, "isFreeForFirst", "()Z"⟩
def RX4 : String := "TurnHall$Monitor"
def TX4 : u_T := fun k => match k with
  | 0 => ("TurnHall$Monitor", "index", "I", true)
  | 1 => ("TurnHall$Monitor", "floor", "LTurnHall$Floor;", true)
  | 2 => ("TurnHall$Monitor", "entering", "LTurnHall$Line;", true)
  | 3 => ("TurnHall$Monitor", "waiting", "LTurnHall$Line;", true)
  | 4 => ("TurnHall$Monitor", "owner", "I", false)
  | _ => ("TurnHall$Monitor", "times", "I", false)
def tyX4 : Nat → FieldType := fun k => match k with
  | 0 => .int
  | 1 => .object "TurnHall$Floor"
  | 2 => .object "TurnHall$Line"
  | 3 => .object "TurnHall$Line"
  | 4 => .int
  | _ => .int
abbrev wsX40 : List Cond := u_ws RX4 TX4 6
theorem nmX4 : ∀ a, a < 6 → ∀ b, b < 6 → a ≠ b → (TX4 a).2.1 ≠ (TX4 b).2.1 := by decide +kernel
theorem tyX4_ok : ∀ k, k < 6 → parseFieldDescriptor (TX4 k).2.2.1 = some (tyX4 k) := by decide +kernel
abbrev cX4_init : ByteArray := prog_6_method_1_code
def yX4_init : MethodName := ⟨RX4, "<init>", "(ILTurnHall$Floor;)V"⟩
abbrev cX4_tryEnter : ByteArray := prog_6_method_2_code
def yX4_tryEnter : MethodName := ⟨RX4, "tryEnter", "(LTurnHall$Worker;)Z"⟩
abbrev cX4_askFor : ByteArray := prog_6_method_3_code
def yX4_askFor : MethodName := ⟨RX4, "askFor", "(LTurnHall$Worker;I)V"⟩
abbrev cX4_exit : ByteArray := prog_6_method_4_code
def yX4_exit : MethodName := ⟨RX4, "exit", "()V"⟩
abbrev cX4_passTo : ByteArray := prog_6_method_5_code
def yX4_passTo : MethodName := ⟨RX4, "passTo", "(LTurnHall$Worker;)V"⟩
abbrev cX4_giveUp : ByteArray := prog_6_method_6_code
def yX4_giveUp : MethodName := ⟨RX4, "giveUp", "(LTurnHall$Worker;J)V"⟩
abbrev cX4_notice : ByteArray := prog_6_method_7_code
def yX4_notice : MethodName := ⟨RX4, "notice", "(I)V"⟩
abbrev cX4_callBack : ByteArray := prog_6_method_8_code
def yX4_callBack : MethodName := ⟨RX4, "callBack", "(LTurnHall$Worker;I)V"⟩
def RX5 : String := "TurnHall$Notes"
def TX5 : u_T := fun k => match k with
  | 0 => ("TurnHall$Notes", "threads", "[I", false)
  | 1 => ("TurnHall$Notes", "numbers", "[J", false)
  | _ => ("TurnHall$Notes", "ever", "I", false)
def tyX5 : Nat → FieldType := fun k => match k with
  | 0 => .array .int
  | 1 => .array .long
  | _ => .int
abbrev wsX50 : List Cond := u_ws RX5 TX5 3
theorem nmX5 : ∀ a, a < 3 → ∀ b, b < 3 → a ≠ b → (TX5 a).2.1 ≠ (TX5 b).2.1 := by decide +kernel
theorem tyX5_ok : ∀ k, k < 3 → parseFieldDescriptor (TX5 k).2.2.1 = some (tyX5 k) := by decide +kernel
abbrev cX5_init : ByteArray := prog_7_method_1_code
def yX5_init : MethodName := ⟨RX5, "<init>", "()V"⟩
abbrev cX5_kept : ByteArray := prog_7_method_2_code
def yX5_kept : MethodName := ⟨RX5, "kept", "()I"⟩
abbrev cX5_append : ByteArray := prog_7_method_3_code
def yX5_append : MethodName := ⟨RX5, "append", "(IJ)V"⟩
def RX6 : String := "TurnHall$Program"
def TX6 : u_T := fun k => match k with
  | 0 => ("TurnHall$Program", "length", "I", false)
  | 1 => ("TurnHall$Program", "operations", "[I", false)
  | 2 => ("TurnHall$Program", "as", "[J", false)
  | _ => ("TurnHall$Program", "bs", "[J", false)
def tyX6 : Nat → FieldType := fun k => match k with
  | 0 => .int
  | 1 => .array .int
  | 2 => .array .long
  | _ => .array .long
abbrev wsX60 : List Cond := u_ws RX6 TX6 4
theorem nmX6 : ∀ a, a < 4 → ∀ b, b < 4 → a ≠ b → (TX6 a).2.1 ≠ (TX6 b).2.1 := by decide +kernel
theorem tyX6_ok : ∀ k, k < 4 → parseFieldDescriptor (TX6 k).2.2.1 = some (tyX6 k) := by decide +kernel
abbrev cX6_init : ByteArray := prog_8_method_1_code
def yX6_init : MethodName := ⟨RX6, "<init>", "()V"⟩
abbrev cX6_append : ByteArray := prog_8_method_2_code
def yX6_append : MethodName := ⟨RX6, "append", "(IJJ)V"⟩
def RX7 : String := "TurnHall$Schedule"
def TX7 : u_T := fun k => match k with
  | 0 => ("TurnHall$Schedule", "threads", "[I", true)
  | 1 => ("TurnHall$Schedule", "steps", "[I", true)
  | 2 => ("TurnHall$Schedule", "front", "I", false)
  | _ => ("TurnHall$Schedule", "size", "I", false)
def tyX7 : Nat → FieldType := fun k => match k with
  | 0 => .array .int
  | 1 => .array .int
  | 2 => .int
  | _ => .int
abbrev wsX70 : List Cond := u_ws RX7 TX7 4
theorem nmX7 : ∀ a, a < 4 → ∀ b, b < 4 → a ≠ b → (TX7 a).2.1 ≠ (TX7 b).2.1 := by decide +kernel
theorem tyX7_ok : ∀ k, k < 4 → parseFieldDescriptor (TX7 k).2.2.1 = some (tyX7 k) := by decide +kernel
abbrev cX7_init : ByteArray := prog_9_method_1_code
def yX7_init : MethodName := ⟨RX7, "<init>", "()V"⟩
abbrev cX7_append : ByteArray := prog_9_method_2_code
def yX7_append : MethodName := ⟨RX7, "append", "(II)V"⟩
abbrev cX7_frontThread : ByteArray := prog_9_method_3_code
def yX7_frontThread : MethodName := ⟨RX7, "frontThread", "()I"⟩
abbrev cX7_frontSteps : ByteArray := prog_9_method_4_code
def yX7_frontSteps : MethodName := ⟨RX7, "frontSteps", "()I"⟩
abbrev cX7_removeFront : ByteArray := prog_9_method_5_code
def yX7_removeFront : MethodName := ⟨RX7, "removeFront", "()V"⟩
def RX8 : String := "TurnHall$Semaphore"
def TX8 : u_T := fun k => match k with
  | 0 => ("TurnHall$Semaphore", "index", "I", true)
  | 1 => ("TurnHall$Semaphore", "floor", "LTurnHall$Floor;", true)
  | 2 => ("TurnHall$Semaphore", "line", "LTurnHall$Line;", true)
  | _ => ("TurnHall$Semaphore", "has", "J", false)
def tyX8 : Nat → FieldType := fun k => match k with
  | 0 => .int
  | 1 => .object "TurnHall$Floor"
  | 2 => .object "TurnHall$Line"
  | _ => .long
abbrev wsX80 : List Cond := u_ws RX8 TX8 4
theorem nmX8 : ∀ a, a < 4 → ∀ b, b < 4 → a ≠ b → (TX8 a).2.1 ≠ (TX8 b).2.1 := by decide +kernel
theorem tyX8_ok : ∀ k, k < 4 → parseFieldDescriptor (TX8 k).2.2.1 = some (tyX8 k) := by decide +kernel
abbrev cX8_init : ByteArray := prog_10_method_1_code
def yX8_init : MethodName := ⟨RX8, "<init>", "(ILTurnHall$Floor;)V"⟩
abbrev cX8_tryTake : ByteArray := prog_10_method_2_code
def yX8_tryTake : MethodName := ⟨RX8, "tryTake", "(J)Z"⟩
abbrev cX8_take : ByteArray := prog_10_method_3_code
def yX8_take : MethodName := ⟨RX8, "take", "(LTurnHall$Worker;J)V"⟩
abbrev cX8_give : ByteArray := prog_10_method_4_code
def yX8_give : MethodName := ⟨RX8, "give", "(J)V"⟩
abbrev cX8_sendAway : ByteArray := prog_10_method_5_code
def yX8_sendAway : MethodName := ⟨RX8, "sendAway", "(LTurnHall$Worker;I)V"⟩
abbrev cX8_serve : ByteArray := prog_10_method_6_code
def yX8_serve : MethodName := ⟨RX8, "serve", "()V"⟩
def RX9 : String := "TurnHall$Worker"
def TX9 : u_T := fun k => match k with
  | 0 => ("TurnHall$Worker", "number", "I", true)
  | 1 => ("TurnHall$Worker", "registers", "[J", true)
  | 2 => ("TurnHall$Worker", "programs", "[I", true)
  | 3 => ("TurnHall$Worker", "places", "[I", true)
  | 4 => ("TurnHall$Worker", "handlers", "[I", true)
  | 5 => ("TurnHall$Worker", "reads", "[I", true)
  | 6 => ("TurnHall$Worker", "calls", "I", false)
  | 7 => ("TurnHall$Worker", "state", "I", false)
  | 8 => ("TurnHall$Worker", "marked", "Z", false)
  | 9 => ("TurnHall$Worker", "permitted", "Z", false)
  | 10 => ("TurnHall$Worker", "endFault", "I", false)
  | 11 => ("TurnHall$Worker", "steps", "I", false)
  | 12 => ("TurnHall$Worker", "where", "I", false)
  | 13 => ("TurnHall$Worker", "until", "J", false)
  | 14 => ("TurnHall$Worker", "rank", "I", false)
  | 15 => ("TurnHall$Worker", "asked", "J", false)
  | 16 => ("TurnHall$Worker", "asksToWrite", "Z", false)
  | 17 => ("TurnHall$Worker", "faultDue", "I", false)
  | _ => ("TurnHall$Worker", "next", "LTurnHall$Worker;", false)
def tyX9 : Nat → FieldType := fun k => match k with
  | 0 => .int
  | 1 => .array .long
  | 2 => .array .int
  | 3 => .array .int
  | 4 => .array .int
  | 5 => .array .int
  | 6 => .int
  | 7 => .int
  | 8 => .boolean
  | 9 => .boolean
  | 10 => .int
  | 11 => .int
  | 12 => .int
  | 13 => .long
  | 14 => .int
  | 15 => .long
  | 16 => .boolean
  | 17 => .int
  | _ => .object "TurnHall$Worker"
abbrev wsX90 : List Cond := u_ws RX9 TX9 19
theorem nmX9 : ∀ a, a < 19 → ∀ b, b < 19 → a ≠ b → (TX9 a).2.1 ≠ (TX9 b).2.1 := by decide +kernel
theorem tyX9_ok : ∀ k, k < 19 → parseFieldDescriptor (TX9 k).2.2.1 = some (tyX9 k) := by decide +kernel
abbrev cX9_init : ByteArray := prog_11_method_1_code
def yX9_init : MethodName := ⟨RX9, "<init>", "(I)V"⟩
abbrev cX9_hasEnded : ByteArray := prog_11_method_2_code
def yX9_hasEnded : MethodName := ⟨RX9, "hasEnded", "()Z"⟩
abbrev cX9_takeMark : ByteArray := prog_11_method_3_code
def yX9_takeMark : MethodName := ⟨RX9, "takeMark", "()Z"⟩
abbrev cX9_open : ByteArray := prog_11_method_4_code
def yX9_open : MethodName := ⟨RX9, "open", "(I)V"⟩
def RX10 : String := "TurnHall"
def TX10 : u_T := fun k => match k with
  | 0 => ("TurnHall", "quantum", "I", true)
  | 1 => ("TurnHall", "floor", "LTurnHall$Floor;", true)
  | 2 => ("TurnHall", "cells", "[J", true)
  | 3 => ("TurnHall", "monitors", "[LTurnHall$Monitor;", true)
  | 4 => ("TurnHall", "locks", "[LTurnHall$Lock;", true)
  | 5 => ("TurnHall", "semaphores", "[LTurnHall$Semaphore;", true)
  | 6 => ("TurnHall", "barriers", "[LTurnHall$Barrier;", true)
  | 7 => ("TurnHall", "schedule", "LTurnHall$Schedule;", true)
  | 8 => ("TurnHall", "notes", "LTurnHall$Notes;", true)
  | 9 => ("TurnHall", "turn", "I", false)
  | 10 => ("TurnHall", "turnLeft", "I", false)
  | _ => ("TurnHall", "lastThread", "I", false)
def tyX10 : Nat → FieldType := fun k => match k with
  | 0 => .int
  | 1 => .object "TurnHall$Floor"
  | 2 => .array .long
  | 3 => .array (.object "TurnHall$Monitor")
  | 4 => .array (.object "TurnHall$Lock")
  | 5 => .array (.object "TurnHall$Semaphore")
  | 6 => .array (.object "TurnHall$Barrier")
  | 7 => .object "TurnHall$Schedule"
  | 8 => .object "TurnHall$Notes"
  | 9 => .int
  | 10 => .int
  | _ => .int
abbrev wsX100 : List Cond := u_ws RX10 TX10 12
theorem nmX10 : ∀ a, a < 12 → ∀ b, b < 12 → a ≠ b → (TX10 a).2.1 ≠ (TX10 b).2.1 := by decide +kernel
theorem tyX10_ok : ∀ k, k < 12 → parseFieldDescriptor (TX10 k).2.2.1 = some (tyX10 k) := by decide +kernel
abbrev cX10_init : ByteArray := prog_1_method_1_code
def yX10_init : MethodName := ⟨RX10, "<init>", "(I)V"⟩
abbrev cX10_put : ByteArray := prog_1_method_2_code
def yX10_put : MethodName := ⟨RX10, "put", "(IIJJ)I"⟩
abbrev cX10_drop : ByteArray := prog_1_method_3_code
def yX10_drop : MethodName := ⟨RX10, "drop", "(I)I"⟩
abbrev cX10_begin : ByteArray := prog_1_method_4_code
def yX10_begin : MethodName := ⟨RX10, "begin", "(IJ)I"⟩
abbrev cX10_schedule : ByteArray := prog_1_method_5_code
def yX10_schedule : MethodName := ⟨RX10, "schedule", "(II)I"⟩
abbrev cX10_go : ByteArray := prog_1_method_6_code
def yX10_go : MethodName := ⟨RX10, "go", "(I)I"⟩
abbrev cX10_tick : ByteArray := prog_1_method_7_code
def yX10_tick : MethodName := ⟨RX10, "tick", "(I)I"⟩
abbrev cX10_interrupt : ByteArray := prog_1_method_8_code
def yX10_interrupt : MethodName := ⟨RX10, "interrupt", "(I)I"⟩
abbrev cX10_supply : ByteArray := prog_1_method_9_code
def yX10_supply : MethodName := ⟨RX10, "supply", "(II)J"⟩
abbrev cX10_parties : ByteArray := prog_1_method_10_code
def yX10_parties : MethodName := ⟨RX10, "parties", "(II)I"⟩
abbrev cX10_set : ByteArray := prog_1_method_11_code
def yX10_set : MethodName := ⟨RX10, "set", "(IJ)J"⟩
abbrev cX10_cell : ByteArray := prog_1_method_12_code
def yX10_cell : MethodName := ⟨RX10, "cell", "(I)J"⟩
abbrev cX10_state : ByteArray := prog_1_method_13_code
def yX10_state : MethodName := ⟨RX10, "state", "(I)I"⟩
abbrev cX10_thread : ByteArray := prog_1_method_14_code
def yX10_thread : MethodName := ⟨RX10, "thread", "(II)I"⟩
abbrev cX10_register : ByteArray := prog_1_method_15_code
def yX10_register : MethodName := ⟨RX10, "register", "(II)J"⟩
abbrev cX10_monitor : ByteArray := prog_1_method_16_code
def yX10_monitor : MethodName := ⟨RX10, "monitor", "(II)I"⟩
abbrev cX10_lock : ByteArray := prog_1_method_17_code
def yX10_lock : MethodName := ⟨RX10, "lock", "(II)I"⟩
abbrev cX10_semaphore : ByteArray := prog_1_method_18_code
def yX10_semaphore : MethodName := ⟨RX10, "semaphore", "(II)I"⟩
abbrev cX10_barrier : ByteArray := prog_1_method_19_code
def yX10_barrier : MethodName := ⟨RX10, "barrier", "(II)I"⟩
abbrev cX10_note : ByteArray := prog_1_method_20_code
def yX10_note : MethodName := ⟨RX10, "note", "(IZ)J"⟩
abbrev cX10_ring : ByteArray := prog_1_method_21_code
def yX10_ring : MethodName := ⟨RX10, "ring", "(I)I"⟩
abbrev cX10_count : ByteArray := prog_1_method_22_code
def yX10_count : MethodName := ⟨RX10, "count", "(I)I"⟩
abbrev cX10_demand : ByteArray := prog_1_method_23_code
def yX10_demand : MethodName := ⟨RX10, "demand", "(Z)V"⟩
abbrev cX10_isWithin : ByteArray := prog_1_method_24_code
def yX10_isWithin : MethodName := ⟨RX10, "isWithin", "(JI)Z"⟩
abbrev cX10_awaitedBy : ByteArray := prog_1_method_25_code
def yX10_awaitedBy : MethodName := ⟨RX10, "awaitedBy", "(LTurnHall$Worker;)I"⟩
abbrev cX10_passOver : ByteArray := prog_1_method_26_code
def yX10_passOver : MethodName := ⟨RX10, "passOver", "()V"⟩
abbrev cX10_beginTurn : ByteArray := prog_1_method_27_code
def yX10_beginTurn : MethodName := ⟨RX10, "beginTurn", "()V"⟩
abbrev cX10_nextReady : ByteArray := prog_1_method_28_code
def yX10_nextReady : MethodName := ⟨RX10, "nextReady", "()I"⟩
abbrev cX10_nextWorker : ByteArray := prog_1_method_29_code
def yX10_nextWorker : MethodName := ⟨RX10, "nextWorker", "()LTurnHall$Worker;"⟩
abbrev cX10_closeStep : ByteArray := prog_1_method_30_code
def yX10_closeStep : MethodName := ⟨RX10, "closeStep", "(LTurnHall$Worker;I)V"⟩
abbrev cX10_perform : ByteArray := prog_1_method_31_code
def yX10_perform : MethodName := ⟨RX10, "perform", "(LTurnHall$Worker;)I"⟩
abbrev cX10_areNamesThere : ByteArray := prog_1_method_32_code
def yX10_areNamesThere : MethodName := ⟨RX10, "areNamesThere", "(IJJ)Z"⟩
abbrev cX10_registerStep : ByteArray := prog_1_method_33_code
def yX10_registerStep : MethodName := ⟨RX10, "registerStep", "(LTurnHall$Worker;IIJ)I"⟩
abbrev cX10_flowStep : ByteArray := prog_1_method_34_code
def yX10_flowStep : MethodName := ⟨RX10, "flowStep", "(LTurnHall$Worker;IJJ)I"⟩
abbrev cX10_jump : ByteArray := prog_1_method_35_code
def yX10_jump : MethodName := ⟨RX10, "jump", "(LTurnHall$Worker;JI)I"⟩
abbrev cX10_monitorStep : ByteArray := prog_1_method_36_code
def yX10_monitorStep : MethodName := ⟨RX10, "monitorStep", "(LTurnHall$Worker;ILTurnHall$Monitor;I)I"⟩
abbrev cX10_await : ByteArray := prog_1_method_37_code
def yX10_await : MethodName := ⟨RX10, "await", "(LTurnHall$Monitor;LTurnHall$Worker;J)I"⟩
abbrev cX10_threadStep : ByteArray := prog_1_method_38_code
def yX10_threadStep : MethodName := ⟨RX10, "threadStep", "(LTurnHall$Worker;III)I"⟩
abbrev cX10_sleep : ByteArray := prog_1_method_39_code
def yX10_sleep : MethodName := ⟨RX10, "sleep", "(LTurnHall$Worker;J)I"⟩
abbrev cX10_start : ByteArray := prog_1_method_40_code
def yX10_start : MethodName := ⟨RX10, "start", "(LTurnHall$Worker;II)I"⟩
abbrev cX10_join : ByteArray := prog_1_method_41_code
def yX10_join : MethodName := ⟨RX10, "join", "(LTurnHall$Worker;JJ)I"⟩
abbrev cX10_park : ByteArray := prog_1_method_42_code
def yX10_park : MethodName := ⟨RX10, "park", "(LTurnHall$Worker;J)I"⟩
abbrev cX10_unpark : ByteArray := prog_1_method_43_code
def yX10_unpark : MethodName := ⟨RX10, "unpark", "(J)I"⟩
abbrev cX10_lockStep : ByteArray := prog_1_method_44_code
def yX10_lockStep : MethodName := ⟨RX10, "lockStep", "(LTurnHall$Worker;ILTurnHall$Lock;)I"⟩
abbrev cX10_semaphoreStep : ByteArray := prog_1_method_45_code
def yX10_semaphoreStep : MethodName := ⟨RX10, "semaphoreStep", "(LTurnHall$Worker;ILTurnHall$Semaphore;I)I"⟩
abbrev cX10_comeTo : ByteArray := prog_1_method_46_code
def yX10_comeTo : MethodName := ⟨RX10, "comeTo", "(LTurnHall$Barrier;LTurnHall$Worker;J)I"⟩
abbrev cX10_stir : ByteArray := prog_1_method_47_code
def yX10_stir : MethodName := ⟨RX10, "stir", "(J)I"⟩
abbrev cX10_endWait : ByteArray := prog_1_method_48_code
def yX10_endWait : MethodName := ⟨RX10, "endWait", "(LTurnHall$Worker;)V"⟩
def RX11 : String := "TurnHallModel"
def TX11 : u_T := fun k => match k with
  | 0 => ("TurnHallModel", "thrown", "I", false)
  | 1 => ("TurnHallModel", "quantum", "I", true)
  | 2 => ("TurnHallModel", "size", "[I", true)
  | 3 => ("TurnHallModel", "ops", "[I", true)
  | 4 => ("TurnHallModel", "as", "[J", true)
  | 5 => ("TurnHallModel", "bs", "[J", true)
  | 6 => ("TurnHallModel", "threads", "I", false)
  | 7 => ("TurnHallModel", "state", "[I", true)
  | 8 => ("TurnHallModel", "calls", "[I", true)
  | 9 => ("TurnHallModel", "prog", "[I", true)
  | 10 => ("TurnHallModel", "place", "[I", true)
  | 11 => ("TurnHallModel", "handler", "[I", true)
  | 12 => ("TurnHallModel", "fault", "[I", true)
  | 13 => ("TurnHallModel", "did", "[I", true)
  | 14 => ("TurnHallModel", "reg", "[J", true)
  | 15 => ("TurnHallModel", "until", "[J", true)
  | 16 => ("TurnHallModel", "since", "[J", true)
  | 17 => ("TurnHallModel", "want", "[J", true)
  | 18 => ("TurnHallModel", "on", "[I", true)
  | 19 => ("TurnHallModel", "mark", "[Z", true)
  | 20 => ("TurnHallModel", "permit", "[Z", true)
  | 21 => ("TurnHallModel", "later", "[Z", true)
  | 22 => ("TurnHallModel", "writes", "[Z", true)
  | 23 => ("TurnHallModel", "cell", "[J", true)
  | 24 => ("TurnHallModel", "owner", "[I", true)
  | 25 => ("TurnHallModel", "count", "[I", true)
  | 26 => ("TurnHallModel", "writer", "[I", true)
  | 27 => ("TurnHallModel", "written", "[I", true)
  | 28 => ("TurnHallModel", "reads", "[I", true)
  | 29 => ("TurnHallModel", "read", "[I", true)
  | 30 => ("TurnHallModel", "has", "[J", true)
  | 31 => ("TurnHallModel", "party", "[I", true)
  | 32 => ("TurnHallModel", "went", "[I", true)
  | 33 => ("TurnHallModel", "broken", "[Z", true)
  | 34 => ("TurnHallModel", "planT", "[I", true)
  | 35 => ("TurnHallModel", "planN", "[I", true)
  | 36 => ("TurnHallModel", "planned", "I", false)
  | 37 => ("TurnHallModel", "current", "I", false)
  | 38 => ("TurnHallModel", "left", "I", false)
  | 39 => ("TurnHallModel", "last", "I", false)
  | 40 => ("TurnHallModel", "clock", "J", false)
  | 41 => ("TurnHallModel", "order", "J", false)
  | 42 => ("TurnHallModel", "steps", "J", false)
  | 43 => ("TurnHallModel", "notes", "I", false)
  | 44 => ("TurnHallModel", "faults", "I", false)
  | 45 => ("TurnHallModel", "noteT", "[I", true)
  | 46 => ("TurnHallModel", "noteN", "[J", true)
  | _ => ("TurnHallModel", "yielded", "Z", false)
def tyX11 : Nat → FieldType := fun k => match k with
  | 0 => .int
  | 1 => .int
  | 2 => .array .int
  | 3 => .array .int
  | 4 => .array .long
  | 5 => .array .long
  | 6 => .int
  | 7 => .array .int
  | 8 => .array .int
  | 9 => .array .int
  | 10 => .array .int
  | 11 => .array .int
  | 12 => .array .int
  | 13 => .array .int
  | 14 => .array .long
  | 15 => .array .long
  | 16 => .array .long
  | 17 => .array .long
  | 18 => .array .int
  | 19 => .array .boolean
  | 20 => .array .boolean
  | 21 => .array .boolean
  | 22 => .array .boolean
  | 23 => .array .long
  | 24 => .array .int
  | 25 => .array .int
  | 26 => .array .int
  | 27 => .array .int
  | 28 => .array .int
  | 29 => .array .int
  | 30 => .array .long
  | 31 => .array .int
  | 32 => .array .int
  | 33 => .array .boolean
  | 34 => .array .int
  | 35 => .array .int
  | 36 => .int
  | 37 => .int
  | 38 => .int
  | 39 => .int
  | 40 => .long
  | 41 => .long
  | 42 => .long
  | 43 => .int
  | 44 => .int
  | 45 => .array .int
  | 46 => .array .long
  | _ => .boolean
abbrev wsX110 : List Cond := u_ws RX11 TX11 48
theorem nmX11 : ∀ a, a < 48 → ∀ b, b < 48 → a ≠ b → (TX11 a).2.1 ≠ (TX11 b).2.1 := by decide +kernel
theorem tyX11_ok : ∀ k, k < 48 → parseFieldDescriptor (TX11 k).2.2.1 = some (tyX11 k) := by decide +kernel
abbrev cX11_thrown : ByteArray := prog_13_method_1_code
def yX11_thrown : MethodName := ⟨RX11, "thrown", "()I"⟩
abbrev cX11_init : ByteArray := prog_13_method_2_code
def yX11_init : MethodName := ⟨RX11, "<init>", "(I)V"⟩
abbrev cX11_bad : ByteArray := prog_13_method_3_code
def yX11_bad : MethodName := ⟨RX11, "bad", "()I"⟩
abbrev cX11_not : ByteArray := prog_13_method_4_code
def yX11_not : MethodName := ⟨RX11, "not", "()I"⟩
abbrev cX11_in : ByteArray := prog_13_method_5_code
def yX11_in : MethodName := ⟨RX11, "in", "(JJ)Z"⟩
abbrev cX11_none : ByteArray := prog_13_method_6_code
def yX11_none : MethodName := ⟨RX11, "none", "(I)Z"⟩
abbrev cX11_top : ByteArray := prog_13_method_7_code
def yX11_top : MethodName := ⟨RX11, "top", "(I)I"⟩
abbrev cX11_settle : ByteArray := prog_13_method_8_code
def yX11_settle : MethodName := ⟨RX11, "settle", "(I)V"⟩
abbrev cX11_ends : ByteArray := prog_13_method_9_code
def yX11_ends : MethodName := ⟨RX11, "ends", "(II)V"⟩
abbrev cX11_raise : ByteArray := prog_13_method_10_code
def yX11_raise : MethodName := ⟨RX11, "raise", "(IJ)V"⟩
abbrev cX11_waiting : ByteArray := prog_13_method_11_code
def yX11_waiting : MethodName := ⟨RX11, "waiting", "(I)Z"⟩
abbrev cX11_waits : ByteArray := prog_13_method_12_code
def yX11_waits : MethodName := ⟨RX11, "waits", "(IIIJ)V"⟩
abbrev cX11_wakes : ByteArray := prog_13_method_13_code
def yX11_wakes : MethodName := ⟨RX11, "wakes", "(I)V"⟩
abbrev cX11_first : ByteArray := prog_13_method_14_code
def yX11_first : MethodName := ⟨RX11, "first", "(II)I"⟩
abbrev cX11_many : ByteArray := prog_13_method_15_code
def yX11_many : MethodName := ⟨RX11, "many", "(II)I"⟩
abbrev cX11_grant : ByteArray := prog_13_method_16_code
def yX11_grant : MethodName := ⟨RX11, "grant", "(I)V"⟩
abbrev cX11_has : ByteArray := prog_13_method_17_code
def yX11_has : MethodName := ⟨RX11, "has", "(II)V"⟩
abbrev cX11_asks : ByteArray := prog_13_method_18_code
def yX11_asks : MethodName := ⟨RX11, "asks", "(IZ)V"⟩
abbrev cX11_passes : ByteArray := prog_13_method_19_code
def yX11_passes : MethodName := ⟨RX11, "passes", "(I)V"⟩
abbrev cX11_serves : ByteArray := prog_13_method_20_code
def yX11_serves : MethodName := ⟨RX11, "serves", "(I)V"⟩
abbrev cX11_gives : ByteArray := prog_13_method_21_code
def yX11_gives : MethodName := ⟨RX11, "gives", "(IJ)V"⟩
abbrev cX11_breaks : ByteArray := prog_13_method_22_code
def yX11_breaks : MethodName := ⟨RX11, "breaks", "(I)V"⟩
abbrev cX11_interrupts : ByteArray := prog_13_method_23_code
def yX11_interrupts : MethodName := ⟨RX11, "interrupts", "(I)V"⟩
abbrev cX11_step : ByteArray := prog_13_method_24_code
def yX11_step : MethodName := ⟨RX11, "step", "(I)V"⟩
abbrev cX11_plain : ByteArray := prog_13_method_25_code
def yX11_plain : MethodName := ⟨RX11, "plain", "(IIIJJII)J"⟩
abbrev cX11_monitors : ByteArray := prog_13_method_26_code
def yX11_monitors : MethodName := ⟨RX11, "monitors", "(IIII)J"⟩
abbrev cX11_others : ByteArray := prog_13_method_27_code
def yX11_others : MethodName := ⟨RX11, "others", "(IIJII)J"⟩
abbrev cX11_locks : ByteArray := prog_13_method_28_code
def yX11_locks : MethodName := ⟨RX11, "locks", "(III)J"⟩
abbrev cX11_meetings : ByteArray := prog_13_method_29_code
def yX11_meetings : MethodName := ⟨RX11, "meetings", "(IIIII)J"⟩
abbrev cX11_make : ByteArray := prog_13_method_30_code
def yX11_make : MethodName := ⟨RX11, "make", "(I)V"⟩
abbrev cX11_put : ByteArray := prog_13_method_31_code
def yX11_put : MethodName := ⟨RX11, "put", "(IIJJ)I"⟩
abbrev cX11_drop : ByteArray := prog_13_method_32_code
def yX11_drop : MethodName := ⟨RX11, "drop", "(I)I"⟩
abbrev cX11_begin : ByteArray := prog_13_method_33_code
def yX11_begin : MethodName := ⟨RX11, "begin", "(IJ)I"⟩
abbrev cX11_schedule : ByteArray := prog_13_method_34_code
def yX11_schedule : MethodName := ⟨RX11, "schedule", "(II)I"⟩
abbrev cX11_passOver : ByteArray := prog_13_method_35_code
def yX11_passOver : MethodName := ⟨RX11, "passOver", "()V"⟩
abbrev cX11_shift : ByteArray := prog_13_method_36_code
def yX11_shift : MethodName := ⟨RX11, "shift", "()V"⟩
abbrev cX11_go : ByteArray := prog_13_method_37_code
def yX11_go : MethodName := ⟨RX11, "go", "(I)I"⟩
abbrev cX11_takes : ByteArray := prog_13_method_38_code
def yX11_takes : MethodName := ⟨RX11, "takes", "()Z"⟩
abbrev cX11_tick : ByteArray := prog_13_method_39_code
def yX11_tick : MethodName := ⟨RX11, "tick", "(I)I"⟩
abbrev cX11_interrupt : ByteArray := prog_13_method_40_code
def yX11_interrupt : MethodName := ⟨RX11, "interrupt", "(I)I"⟩
abbrev cX11_supply : ByteArray := prog_13_method_41_code
def yX11_supply : MethodName := ⟨RX11, "supply", "(II)J"⟩
abbrev cX11_parties : ByteArray := prog_13_method_42_code
def yX11_parties : MethodName := ⟨RX11, "parties", "(II)I"⟩
abbrev cX11_set : ByteArray := prog_13_method_43_code
def yX11_set : MethodName := ⟨RX11, "set", "(IJ)J"⟩
abbrev cX11_cell : ByteArray := prog_13_method_44_code
def yX11_cell : MethodName := ⟨RX11, "cell", "(I)J"⟩
abbrev cX11_state : ByteArray := prog_13_method_45_code
def yX11_state : MethodName := ⟨RX11, "state", "(I)I"⟩
abbrev cX11_thread : ByteArray := prog_13_method_46_code
def yX11_thread : MethodName := ⟨RX11, "thread", "(II)I"⟩
abbrev cX11_register : ByteArray := prog_13_method_47_code
def yX11_register : MethodName := ⟨RX11, "register", "(II)J"⟩
abbrev cX11_monitor : ByteArray := prog_13_method_48_code
def yX11_monitor : MethodName := ⟨RX11, "monitor", "(II)I"⟩
abbrev cX11_lock : ByteArray := prog_13_method_49_code
def yX11_lock : MethodName := ⟨RX11, "lock", "(II)I"⟩
abbrev cX11_semaphore : ByteArray := prog_13_method_50_code
def yX11_semaphore : MethodName := ⟨RX11, "semaphore", "(II)I"⟩
abbrev cX11_barrier : ByteArray := prog_13_method_51_code
def yX11_barrier : MethodName := ⟨RX11, "barrier", "(II)I"⟩
abbrev cX11_note : ByteArray := prog_13_method_52_code
def yX11_note : MethodName := ⟨RX11, "note", "(IZ)J"⟩
abbrev cX11_ring : ByteArray := prog_13_method_53_code
def yX11_ring : MethodName := ⟨RX11, "ring", "(I)I"⟩
abbrev cX11_count : ByteArray := prog_13_method_54_code
def yX11_count : MethodName := ⟨RX11, "count", "(I)I"⟩
def RJ9 : String := "java/lang/Math"
def TJ9 : u_T := fun k => match k with
  | _ => ("", "", "", false)
def tyJ9 : Nat → FieldType := fun k => match k with
  | _ => .int
abbrev wsJ90 : List Cond := u_ws RJ9 TJ9 0
theorem nmJ9 : ∀ a, a < 0 → ∀ b, b < 0 → a ≠ b → (TJ9 a).2.1 ≠ (TJ9 b).2.1 := by decide +kernel
theorem tyJ9_ok : ∀ k, k < 0 → parseFieldDescriptor (TJ9 k).2.2.1 = some (tyJ9 k) := by decide +kernel
abbrev cJ9_max_7cf53 : ByteArray := prog_17_method_65_code
def yJ9_max_7cf53 : MethodName := ⟨RJ9, "max", "(II)I"⟩
abbrev cJ9_min_7cf53 : ByteArray := prog_17_method_69_code
def yJ9_min_7cf53 : MethodName := ⟨RJ9, "min", "(II)I"⟩
abbrev cJ9_min_f86c9 : ByteArray := prog_17_method_70_code
def yJ9_min_f86c9 : MethodName := ⟨RJ9, "min", "(JJ)J"⟩
def RJ0 : String := "java/lang/String"
def TJ0 : u_T := fun k => match k with
  | _ => ("", "", "", false)
def tyJ0 : Nat → FieldType := fun k => match k with
  | _ => .int
abbrev wsJ00 : List Cond := u_ws RJ0 TJ0 0
theorem nmJ0 : ∀ a, a < 0 → ∀ b, b < 0 → a ≠ b → (TJ0 a).2.1 ≠ (TJ0 b).2.1 := by decide +kernel
theorem tyJ0_ok : ∀ k, k < 0 → parseFieldDescriptor (TJ0 k).2.2.1 = some (tyJ0 k) := by decide +kernel
def RJ10 : String := "java/lang/System"
def TJ10 : u_T := fun k => match k with
  | _ => ("", "", "", false)
def tyJ10 : Nat → FieldType := fun k => match k with
  | _ => .int
abbrev wsJ100 : List Cond := u_ws RJ10 TJ10 0
theorem nmJ10 : ∀ a, a < 0 → ∀ b, b < 0 → a ≠ b → (TJ10 a).2.1 ≠ (TJ10 b).2.1 := by decide +kernel
theorem tyJ10_ok : ∀ k, k < 0 → parseFieldDescriptor (TJ10 k).2.2.1 = some (tyJ10 k) := by decide +kernel
def RL : String := "TurnHallLaw"
abbrev cL_cell : ByteArray := method_2_code
def yL_cell : MethodName := ⟨RL, "cell", "([II)I"⟩
abbrev cL_put : ByteArray := method_3_code
def yL_put : MethodName := ⟨RL, "put", "(LTurnHall;IIJJ[J)I"⟩
abbrev cL_drop : ByteArray := method_4_code
def yL_drop : MethodName := ⟨RL, "drop", "(LTurnHall;I[J)I"⟩
abbrev cL_begin : ByteArray := method_5_code
def yL_begin : MethodName := ⟨RL, "begin", "(LTurnHall;IJ[J)I"⟩
abbrev cL_schedule : ByteArray := method_6_code
def yL_schedule : MethodName := ⟨RL, "schedule", "(LTurnHall;II[J)I"⟩
abbrev cL_go : ByteArray := method_7_code
def yL_go : MethodName := ⟨RL, "go", "(LTurnHall;I[J)I"⟩
abbrev cL_tick : ByteArray := method_8_code
def yL_tick : MethodName := ⟨RL, "tick", "(LTurnHall;I[J)I"⟩
abbrev cL_interrupt : ByteArray := method_9_code
def yL_interrupt : MethodName := ⟨RL, "interrupt", "(LTurnHall;I[J)I"⟩
abbrev cL_supply : ByteArray := method_10_code
def yL_supply : MethodName := ⟨RL, "supply", "(LTurnHall;II[J)I"⟩
abbrev cL_parties : ByteArray := method_11_code
def yL_parties : MethodName := ⟨RL, "parties", "(LTurnHall;II[J)I"⟩
abbrev cL_set : ByteArray := method_12_code
def yL_set : MethodName := ⟨RL, "set", "(LTurnHall;IJ[J)I"⟩
abbrev cL_cell_ : ByteArray := method_13_code
def yL_cell_ : MethodName := ⟨RL, "cell", "(LTurnHall;I[J)I"⟩
abbrev cL_state : ByteArray := method_14_code
def yL_state : MethodName := ⟨RL, "state", "(LTurnHall;I[J)I"⟩
abbrev cL_thread : ByteArray := method_15_code
def yL_thread : MethodName := ⟨RL, "thread", "(LTurnHall;II[J)I"⟩
abbrev cL_register : ByteArray := method_16_code
def yL_register : MethodName := ⟨RL, "register", "(LTurnHall;II[J)I"⟩
abbrev cL_monitor : ByteArray := method_17_code
def yL_monitor : MethodName := ⟨RL, "monitor", "(LTurnHall;II[J)I"⟩
abbrev cL_lock : ByteArray := method_18_code
def yL_lock : MethodName := ⟨RL, "lock", "(LTurnHall;II[J)I"⟩
abbrev cL_semaphore : ByteArray := method_19_code
def yL_semaphore : MethodName := ⟨RL, "semaphore", "(LTurnHall;II[J)I"⟩
abbrev cL_barrier : ByteArray := method_20_code
def yL_barrier : MethodName := ⟨RL, "barrier", "(LTurnHall;II[J)I"⟩
abbrev cL_ring : ByteArray := method_21_code
def yL_ring : MethodName := ⟨RL, "ring", "(LTurnHall;I[J)I"⟩
abbrev cL_count : ByteArray := method_22_code
def yL_count : MethodName := ⟨RL, "count", "(LTurnHall;I[J)I"⟩
abbrev cL_law : ByteArray := code
def yL_law : MethodName := ⟨RL, "law", "([I)Z"⟩
abbrev vwCl : List vw_C := [(RX0, TX0, 6), (RX1, TX1, 10), (RX2, TX2, 3), (RX3, TX3, 6), (RX4, TX4, 6), (RX5, TX5, 3), (RX6, TX6, 4), (RX7, TX7, 4), (RX8, TX8, 4), (RX9, TX9, 19), (RX10, TX10, 12), (RX11, TX11, 48)]
end
section
/-! A call whose callee may come back with a value or with a throw: one contract form for both ends. -/
def rz_FE (first t : State) (L : List Loc) (k n : Nat) : Prop := first.WarmedH t.vm ∧ first.sameButNew ({ t with vm := first.vm } : State) L k n
def rz_MQ (below : List Frame) (Qc : Outcome → State → Prop) (s : State) (mc ms : Nat) (free : Addr → Prop) : State → Prop := fun t =>
  ∃ o, t.status = .running ∧ Ended t below o ∧ Qc o t ∧ ∃ L, rz_FE s t L mc ms ∧ ∀ q ∈ L, free q.base
def rz_Met (l : Launch) (y : MethodName) (ws : List Cond) (rm : Room) (Pc : Array Value → State → Prop) (Qc : Outcome → State → Prop) (mc ms : Nat) (free : Addr → Prop) : Prop :=
  MetFree l y (headSpec ws rm) Pc (fun _ _ _ _ _ => True) (fun _ st o t => Qc o t ∧ ∃ L, rz_FE st t L mc ms ∧ ∀ q ∈ L, free q.base)
/-- where the call has come to: behind the instruction, or the throw lies over the caller's frame -/
def rz_To (T' : State) (g : JFrame) (len : Nat) : Outcome → State
  | .returned v => T'.setTop { g with pc := g.pc + len, stack := v.toList ++ g.stack }
  | .threw x => (T'.setTop g).pushFrame (.throwing x)
section
variable {l : Launch} {R : Room} {p : Program} {e : Env} {below : List Frame} {s : State} {sargs : Array Value} {y : MethodName} {len W : Nat}
theorem rz_call {m : MethodId} {meth : Method} {c : Code} {U : State} {Ls : List Loc} {c0 s0 : Nat} {ws : List Cond} {rm : Room} {Pc : Array Value → State → Prop} {Qc : Outcome → State → Prop} {mc ms : Nat} {free : Addr → Prop} {maxL : Nat}
    (X : Stand p l e R s m sargs below meth c U Ls c0 s0) (hM : rz_Met l y ws rm Pc Qc mc ms free)
    (hframes : rm.frames + 1 ≤ R.frames) (hlocals : W + (maxL + 11) + rm.locals ≤ R.locals)
    (hc : c0 + rm.cells ≤ R.cells) (hs : s0 + rm.slots ≤ R.slots)
    {g : JFrame} {ig : Instr} {mk : MethodId} {a : Array Value} (hg : g.method = m) (hsize : g.locals.size = c.maxLocals) (hdg : decode c.code g.pc = .ok (ig, len))
    (hW : 2 * g.monitorRoom + (g.stack.map fun v => v.category).sum ≤ W) (hn : U.methodNamed? y = some mk)
    (hcode : ∃ methY cY, U.vm.method? mk = some methY ∧ methY.code = some cY ∧ cY.maxLocals = maxL)
    (hpre : (allAtoms ws).before a U = true) (hini : (Cond.initialized y.cls).before a U = true) (hP : ∀ (g : JFrame) mk, Pc a (U.calling g mk a)) :
    ∃ (o : Outcome) (t : State) (L : List Loc), Stand p l e R s m sargs below meth c (({ U with heap := t.heap, slotsUsed := t.slotsUsed } : State).setVm t.vm) (Ls ++ L) (c0 + mc) (s0 + ms) ∧ U.WarmedH t.vm ∧ Qc o t ∧ (∀ q ∈ L, free q.base) ∧
      Steps p.tables e below (doInvoke e (U.setTop g) [] mk a).1 (rz_To (({ U with heap := t.heap, slotsUsed := t.slotsUsed } : State).setVm t.vm) g len o) := by
  obtain ⟨methY, cY, hmY, hcY, hlY⟩ := hcode
  obtain ⟨kY, hkY, -⟩ := className_of_methodNamed hn
  have hinitY : kY.init = .initialized := Cond.initialized_spec (findClass_of_methodNamed hn) hkY hini
  have h : At U g.method c below := by rw [hg]; exact X.here
  have happ : (headSpec ws rm).appliesLoose y e.platform (U.calling g mk a) = true :=
    Spec.appliesLoose_calling (g := g) h hdg hn hkY hinitY (X.room_calling (g := g) (R' := rm) hsize hmY hcY hframes (by rw [hlY]; omega) hc hs) hpre
  obtain ⟨mid, hmid⟩ := h.above
  have hfr : (U.setTop g).frames = (.java g :: mid) ++ below := by rw [State.frames_setTop' g h.top, hmid]; rfl
  obtain ⟨o, s₂, hsteps, -, hend, hq⟩ := Steps.callFree hM p X.admits X.cas X.clock (acts := []) hfr happ (hP g mk) trivial
  have hq' : Qc o s₂ ∧ ∃ L, rz_FE (U.calling g mk a) s₂ L mc ms ∧ ∀ q ∈ L, free q.base := hq
  rw [State.frames_setTop' g h.top] at hend
  obtain ⟨hqc, L, ⟨hW₂, e2, q2, q3, q4, q5, q6⟩, hL⟩ := hq'
  have e3 : s₂ = ({ (U.calling g mk a).setFrames s₂.frames with heap := s₂.heap, slotsUsed := s₂.slotsUsed } : State).setVm s₂.vm := by
    have : s₂ = ({ s₂ with vm := (U.calling g mk a).vm } : State).setVm s₂.vm := rfl
    rw [e2] at this
    exact this
  have hW' : U.WarmedH s₂.vm := hW₂
  obtain ⟨g₀, hg0⟩ := Option.isSome_iff_exists.mp h.top
  obtain ⟨r, hr⟩ := State.topJava?_eq_some.mp hg0
  have hr' : (({ U with heap := s₂.heap, slotsUsed := s₂.slotsUsed } : State).setVm s₂.vm).frames = .java g₀ :: r := hr
  have hs₂ : s₂ = rz_To (({ U with heap := s₂.heap, slotsUsed := s₂.slotsUsed } : State).setVm s₂.vm) g len o := by
    cases o with
    | returned v =>
      obtain ⟨c₂, i₂, len₂, hc₂, hd₂, hf₂⟩ := hend
      have hcc : c₂ = c := by
        have h1 : s₂.code? g.method = U.code? g.method := by
          rw [State.code?_eq, State.code?_eq, hW'.alike.method?]
        exact Option.some.inj (hc₂.symm.trans (h1.trans h.code))
      subst hcc
      have hlen : len₂ = len := by rw [hdg] at hd₂; cases hd₂; rfl
      subst hlen
      refine e3.trans ?_
      rw [hf₂, State.calling_eq h.top, State.setFrames_setFrames]
      show _ = (({ U with heap := s₂.heap, slotsUsed := s₂.slotsUsed } : State).setVm s₂.vm).setTop { g with pc := g.pc + len₂, stack := v.toList ++ g.stack }
      rw [State.setTop_of_frames _ hr', hr]
      rfl
    | threw v =>
      have hf₂ : s₂.frames = .throwing v :: .java g :: U.frames.tail := hend
      refine e3.trans ?_
      rw [hf₂, State.calling_eq h.top, State.setFrames_setFrames]
      show _ = ((({ U with heap := s₂.heap, slotsUsed := s₂.slotsUsed } : State).setVm s₂.vm).setTop g).pushFrame (.throwing v)
      rw [State.pushFrame, State.frames_setTop _ hr', State.setTop_of_frames _ hr', State.setFrames_setFrames, hr]
      rfl
  have hsame : U.sameButNew ({ U with heap := s₂.heap, slotsUsed := s₂.slotsUsed } : State) L mc ms := by
    refine ⟨?_, q2, q3, q4, q5, q6⟩
    obtain ⟨t, ht, -⟩ := State.frames_cons hr
    show ({ U with heap := s₂.heap, slotsUsed := s₂.slotsUsed } : State) = { U.setFrames U.frames with heap := s₂.heap, slotsUsed := s₂.slotsUsed }
    rw [State.setFrames_self ht]
  subst hg
  refine ⟨o, s₂, L, ⟨X.admits, X.cas, X.clock, X.frames, X.room, X.hears, X.method, X.code, (X.here.setHeapUsed s₂.heap s₂.slotsUsed).setVm hW'.alike, X.tail, State.WarmedH.trans X.warmed hW', X.limits, X.bytes, X.same.trans (hsame.setVm s.vm)⟩, hW', hqc, hL, ?_⟩
  rw [← hs₂]
  exact hsteps
end
/-! The catch whose class may not be resolved yet. -/
theorem rz_find {Q : Handler → Pre} {E : CtlPost} {e : Env} {d : Bool} {acts : List Action} {s : State} {f : JFrame} {a : Addr} {x : ExceptionTableEntry} {t : List ExceptionTableEntry} {c : ClassId} {vm' : Vm} {cell : Cell}
    (hx : covers x f.pc = true) (h0 : x.catchType ≠ 0) (hg : (Jvm.resolveClass f.method.cls x.catchType).Gives e.toSetting s.vm (.ok c) vm') (hsz : vm'.classes.size ≤ s.vm.classes.size)
    (hcell : s.heap[a]? = some cell) (hobj : ∀ k, cell.vm ≠ .statics k) (hk : ∃ k, vm'.classes[cell.cls]? = some k) (hc : ∃ k, vm'.classes[c]? = some k) (hfit : vm'.assignable cell.cls c = true) :
    wp (findHandler.go f a (x :: t)) Q E e d acts s ↔ Q (.found x.handlerPc) d acts (s.setVm vm') := by
  obtain ⟨ha, ht⟩ := hg.op (op := VmOp.resolveClass f.method.cls x.catchType) rfl
  simp only [covers] at hx
  simp [findHandler.go, hx, h0, ha, ht, hsz, hcell, hobj, hk, hc, hfit, VmOp.dirties, VmOp.acts]
end
section
/-! A small machine of my own: values that are known, or an int of the script, or any; cells by their places behind the start's heap; a box says between which bounds the script's ints lie. It is run by the kernel; part 05 and on say that the real machine goes where it goes. -/
abbrev rz_V : Type := Nat × Int
abbrev rz_E : Type := Nat × Nat × List rz_V × List (Nat × rz_V)
abbrev rz_F : Type := Nat × List (Nat × rz_V) × List rz_V × List rz_E × Nat × Nat
abbrev rz_R : Type := (Nat × rz_V) × List rz_E × Nat × Nat
abbrev rz_B : Type := List (Int × Int)
abbrev rz_I : Type := Instr × Nat × Int
abbrev rz_X : Type := Option (rz_F ⊕ rz_R)
def rz_nth {α : Type} : List α → Nat → Option α
  | [], _ => none
  | x :: _, 0 => some x
  | _ :: l, n + 1 => rz_nth l n
def rz_set {α : Type} : List α → Nat → α → List α
  | [], _, _ => []
  | _ :: l, 0, y => y :: l
  | x :: l, n + 1, y => x :: rz_set l n y
def rz_lk : List (Nat × rz_V) → Nat → Option rz_V
  | [], _ => none
  | q :: l, i => bif Nat.beq q.1 i then some q.2 else rz_lk l i
def rz_isI (v : rz_V) : Bool := Nat.beq v.1 0 || (Nat.beq v.1 1 || Nat.beq v.1 6)
def rz_isL (v : rz_V) : Bool := Nat.beq v.1 2 || (Nat.beq v.1 3 || Nat.beq v.1 7)
def rz_isA (v : rz_V) : Bool := Nat.beq v.1 4 || (Nat.beq v.1 5 || Nat.beq v.1 8)
def rz_cat (v : rz_V) : Nat := bif rz_isL v then 2 else 1
def rz_cats : List rz_V → Nat
  | [] => 0
  | v :: l => rz_cat v + rz_cats l
def rz_itv (B : rz_B) (v : rz_V) : Option (Int × Int) := bif Nat.beq v.1 0 then some (v.2, v.2) else bif Nat.beq v.1 1 then rz_nth B v.2.toNat else none
def rz_ltv (B : rz_B) (v : rz_V) : Option (Int × Int) := bif Nat.beq v.1 2 then some (v.2, v.2) else bif Nat.beq v.1 3 then rz_nth B v.2.toNat else none
def rz_nm (B : rz_B) (k : Nat) : rz_V := match rz_nth B k with
  | some (lo, hi) => bif decide (lo = hi) then (0, lo) else (1, (k : Int))
  | none => (6, 0)
def rz_r32 (n : Int) : Bool := decide (-2147483648 ≤ n) && decide (n ≤ 2147483647)
def rz_r64 (n : Int) : Bool := decide (-9223372036854775808 ≤ n) && decide (n ≤ 9223372036854775807)
def rz_lt (B : rz_B) (a b : rz_V) : Option Bool := match rz_itv B a, rz_itv B b with
  | some (l1, h1), some (l2, h2) => bif decide (h1 < l2) then some true else bif decide (h2 ≤ l1) then some false else none
  | _, _ => none
def rz_eq (B : rz_B) (a b : rz_V) : Option Bool := match rz_itv B a, rz_itv B b with
  | some (l1, h1), some (l2, h2) => bif decide (h1 < l2) || decide (h2 < l1) then some false else bif decide (l1 = h1) && (decide (l2 = h2) && decide (l1 = l2)) then some true else none
  | _, _ => none
def rz_no (r : Option Bool) : Option Bool := match r with
  | some b => some (!b)
  | none => none
def rz_cmp (c : ClassFile.Cond) (B : rz_B) (a b : rz_V) : Option Bool := match c with
  | .eq => rz_eq B a b
  | .ne => rz_no (rz_eq B a b)
  | .lt => rz_lt B a b
  | .ge => rz_no (rz_lt B a b)
  | .gt => rz_lt B b a
  | .le => rz_no (rz_lt B b a)
def rz_jp (pc : Nat) (off : Int) : Option Nat := bif decide (0 ≤ (pc : Int) + off) then some ((pc : Int) + off).toNat else none
def rz_k (v : rz_V) : Bool := Nat.beq v.1 0
def rz_lk2 (v : rz_V) : Bool := Nat.beq v.1 2
def rz_ii (r : Int) : rz_V := bif rz_r32 r then (0, r) else (6, 0)
def rz_li (r : Int) : rz_V := bif rz_r64 r then (2, r) else (7, 0)
def rz_add (a b : rz_V) : rz_V := bif rz_k a && rz_k b then rz_ii (a.2 + b.2) else (6, 0)
def rz_sub (a b : rz_V) : rz_V := bif rz_k a && rz_k b then rz_ii (a.2 - b.2) else (6, 0)
def rz_mul (a b : rz_V) : rz_V := bif rz_k a && rz_k b then rz_ii (a.2 * b.2) else (6, 0)
def rz_and (B : rz_B) (a b : rz_V) : rz_V := bif decide (a = (1, 1)) && decide (b = (0, 31)) then rz_nm B 9 else (6, 0)
def rz_ladd (a b : rz_V) : rz_V := bif decide (a = (2, 0)) then b else bif decide (b = (2, 0)) then a else bif rz_lk2 a && rz_lk2 b then rz_li (a.2 + b.2) else (7, 0)
def rz_lsub (a b : rz_V) : rz_V := bif rz_lk2 a && rz_lk2 b then rz_li (a.2 - b.2) else (7, 0)
def rz_land (a b : rz_V) : rz_V := bif decide (a = (2, 0)) || decide (b = (2, 0)) then (2, 0) else (7, 0)
def rz_i2l (a : rz_V) : rz_V := bif rz_k a then (2, a.2) else bif Nat.beq a.1 1 then (3, a.2) else (7, 0)
def rz_l2i (a : rz_V) : rz_V := bif rz_lk2 a && rz_r32 a.2 then (0, a.2) else (6, 0)
def rz_lcmp (B : rz_B) (a b : rz_V) : Option rz_V := bif Nat.beq a.1 3 && decide (a = b) then some (0, 0) else match rz_ltv B a, rz_ltv B b with
  | some (l1, h1), some (l2, h2) => bif decide (h1 < l2) then some (0, -1) else bif decide (h2 < l1) then some (0, 1) else bif decide (l1 = h1) && (decide (l2 = h2) && decide (l1 = l2)) then some (0, 0) else none
  | _, _ => none
def rz_dv (kind : Nat) : rz_V := bif Nat.beq kind 1 || Nat.beq kind 3 then (0, 0) else bif Nat.beq kind 2 then (2, 0) else (5, 0)
def rz_ael (e : rz_E) (j : Nat) : rz_V := match rz_lk e.2.2.2 j with
  | some v => v
  | none => rz_dv e.1
/-- the cell that a reference names -/
def rz_cell (h : List rz_E) (a : rz_V) : Option rz_E := bif Nat.beq a.1 4 then rz_nth h a.2.toNat else none
def rz_ld (h : List rz_E) (kind : Nat → Bool) (i a : rz_V) : Option rz_V := match rz_cell h a with
  | some e => bif kind e.1 && (rz_k i && (decide (0 ≤ i.2) && Nat.blt i.2.toNat e.2.1)) then some (rz_ael e i.2.toNat) else none
  | none => none
def rz_as (h : List rz_E) (kind : Nat → Bool) (v i a : rz_V) : Option (List rz_E) := match rz_cell h a with
  | some e => bif kind e.1 && (rz_k i && (decide (0 ≤ i.2) && Nat.blt i.2.toNat e.2.1)) then some (rz_set h a.2.toNat (e.1, e.2.1, e.2.2.1, (i.2.toNat, v) :: e.2.2.2)) else none
  | none => none
def rz_is (n k : Nat) : Bool := Nat.beq k n
def rz_isR (k : Nat) : Bool := Nat.blt 3 k && (Nat.blt k 16 && (Nat.beq k 10 || (Nat.beq k 13 || (Nat.beq k 8 || (Nat.beq k 7 || (Nat.beq k 12 || Nat.beq k 4))))))
def rz_b01 (v : rz_V) : Bool := decide (v = (0, 0)) || decide (v = (0, 1))
def rz_fit (ty : FieldType) (v : rz_V) : Bool := match ty with
  | .int => rz_isI v
  | .long => rz_isL v
  | .boolean => rz_b01 v
  | .object _ => rz_isA v
  | .array _ => rz_isA v
  | _ => false
def rz_dt (ty : FieldType) : rz_V := match ty with
  | .long => (2, 0)
  | .int => (0, 0)
  | .boolean => (0, 0)
  | _ => (5, 0)
def rz_tk : Nat → List rz_V → List rz_V → Option (List rz_V × List rz_V)
  | 0, acc, S => some (acc, S)
  | n + 1, acc, v :: S => rz_tk n (v :: acc) S
  | _ + 1, _, [] => none
def rz_hd : List (Nat × Nat × Nat × Nat) → Nat → Option (Nat × Nat)
  | [], _ => none
  | q :: l, pc => bif Nat.ble q.1 pc && Nat.blt pc q.2.1 then some q.2.2 else rz_hd l pc
def rz_st1 (L : List (Nat × rz_V)) (i : Nat) (v : rz_V) : List (Nat × rz_V) := (i, v) :: L.filter (fun q => !(q.1 == i) && !(q.1 + 1 == i && rz_cat q.2 == 2))
def rz_st2 (L : List (Nat × rz_V)) (i : Nat) (v : rz_V) : List (Nat × rz_V) := (i, v) :: L.filter (fun q => !(q.1 == i) && (!(q.1 == i + 1) && !(q.1 + 1 == i && rz_cat q.2 == 2)))
def rz_ar : Nat → List rz_V → List (Nat × rz_V)
  | _, [] => []
  | k, v :: l => (k, v) :: rz_ar (k + rz_cat v) l
abbrev rz_go (pc : Nat) (L : List (Nat × rz_V)) (S : List rz_V) (h : List rz_E) (k z : Nat) : rz_X := some (.inl (pc, L, S, h, k, z))
/-- one instruction; 'call' evaluates a callee; K and Z bound the cells and slots -/
def rz_step (call : Nat → List rz_V → List rz_E → Nat → Nat → Option rz_R) (np : Nat → Nat) (mo : Nat → Nat) (N : Nat → Nat) (df : Nat → List rz_V) (fty : Nat → Nat → FieldType) (hh : List (Nat × Nat × Nat × Nat)) (rb : Bool) (B : rz_B) (K Z nL : Nat) (q : rz_I) (pc : Nat) (L : List (Nat × rz_V)) (S : List rz_V) (h : List rz_E) (k z : Nat) : rz_X :=
  match q with
  | (ins, a, b) =>
  match ins with
  | .iconst n => bif rz_r32 n then rz_go (pc + 1) L ((0, n) :: S) h k z else none
  | .bipush n => bif decide (-128 ≤ n) && decide (n ≤ 127) then rz_go (pc + 2) L ((0, n) :: S) h k z else none
  | .sipush n => bif decide (-32768 ≤ n) && decide (n ≤ 32767) then rz_go (pc + 3) L ((0, n) :: S) h k z else none
  | .lconst n => rz_go (pc + 1) L ((2, (n.val : Int)) :: S) h k z
  | .aconst_null => rz_go (pc + 1) L ((5, 0) :: S) h k z
  | .ldc _ => rz_go (pc + 2) L ((0, b) :: S) h k z
  | .ldc_w _ => rz_go (pc + 3) L ((0, b) :: S) h k z
  | .ldc2_w _ => rz_go (pc + 3) L ((2, b) :: S) h k z
  | .iload_n j => match rz_lk L j.val with
    | some v => bif rz_isI v then rz_go (pc + 1) L (v :: S) h k z else none
    | none => none
  | .iload j => match rz_lk L j with
    | some v => bif rz_isI v then rz_go (pc + 2) L (v :: S) h k z else none
    | none => none
  | .lload_n j => match rz_lk L j.val with
    | some v => bif rz_isL v then rz_go (pc + 1) L (v :: S) h k z else none
    | none => none
  | .lload j => match rz_lk L j with
    | some v => bif rz_isL v then rz_go (pc + 2) L (v :: S) h k z else none
    | none => none
  | .aload_n j => match rz_lk L j.val with
    | some v => bif rz_isA v then rz_go (pc + 1) L (v :: S) h k z else none
    | none => none
  | .aload j => match rz_lk L j with
    | some v => bif rz_isA v then rz_go (pc + 2) L (v :: S) h k z else none
    | none => none
  | .istore_n j => match S with
    | v :: S => bif rz_isI v && Nat.blt j.val nL then rz_go (pc + 1) (rz_st1 L j.val v) S h k z else none
    | [] => none
  | .istore j => match S with
    | v :: S => bif rz_isI v && Nat.blt j nL then rz_go (pc + 2) (rz_st1 L j v) S h k z else none
    | [] => none
  | .astore_n j => match S with
    | v :: S => bif rz_isA v && Nat.blt j.val nL then rz_go (pc + 1) (rz_st1 L j.val v) S h k z else none
    | [] => none
  | .astore j => match S with
    | v :: S => bif rz_isA v && Nat.blt j nL then rz_go (pc + 2) (rz_st1 L j v) S h k z else none
    | [] => none
  | .lstore j => match S with
    | v :: S => bif rz_isL v && Nat.blt (j + 1) nL then rz_go (pc + 2) (rz_st2 L j v) S h k z else none
    | [] => none
  | .iinc j n => match rz_lk L j with
    | some v => bif rz_k v && (rz_r32 n && (rz_r32 (v.2 + n) && Nat.blt j nL)) then rz_go (pc + 3) (rz_st1 L j (0, v.2 + n)) S h k z else none
    | none => none
  | .dup => match S with
    | v :: S => bif Nat.beq (rz_cat v) 1 then rz_go (pc + 1) L (v :: v :: S) h k z else none
    | _ => none
  | .dup_x1 => match S with
    | v :: w :: S => bif Nat.beq (rz_cat v) 1 && Nat.beq (rz_cat w) 1 then rz_go (pc + 1) L (v :: w :: v :: S) h k z else none
    | _ => none
  | .dup_x2 => match S with
    | v :: w :: u :: S => bif Nat.beq (rz_cat v) 1 && (Nat.beq (rz_cat w) 1 && Nat.beq (rz_cat u) 1) then rz_go (pc + 1) L (v :: w :: u :: v :: S) h k z else none
    | _ => none
  | .dup2 => match S with
    | v :: S => bif Nat.beq (rz_cat v) 2 then rz_go (pc + 1) L (v :: v :: S) h k z else match S with
      | w :: S => bif Nat.beq (rz_cat v) 1 && Nat.beq (rz_cat w) 1 then rz_go (pc + 1) L (v :: w :: v :: w :: S) h k z else none
      | [] => none
    | [] => none
  | .iadd => match S with
    | y :: x :: S => bif rz_isI y && rz_isI x then rz_go (pc + 1) L (rz_add x y :: S) h k z else none
    | _ => none
  | .isub => match S with
    | y :: x :: S => bif rz_isI y && rz_isI x then rz_go (pc + 1) L (rz_sub x y :: S) h k z else none
    | _ => none
  | .imul => match S with
    | y :: x :: S => bif rz_isI y && rz_isI x then rz_go (pc + 1) L (rz_mul x y :: S) h k z else none
    | _ => none
  | .iand => match S with
    | y :: x :: S => bif rz_isI y && rz_isI x then rz_go (pc + 1) L (rz_and B x y :: S) h k z else none
    | _ => none
  | .ladd => match S with
    | y :: x :: S => bif rz_isL y && rz_isL x then rz_go (pc + 1) L (rz_ladd x y :: S) h k z else none
    | _ => none
  | .lsub => match S with
    | y :: x :: S => bif rz_isL y && rz_isL x then rz_go (pc + 1) L (rz_lsub x y :: S) h k z else none
    | _ => none
  | .land => match S with
    | y :: x :: S => bif rz_isL y && rz_isL x then rz_go (pc + 1) L (rz_land x y :: S) h k z else none
    | _ => none
  | .lor => match S with
    | y :: x :: S => bif rz_isL y && rz_isL x then rz_go (pc + 1) L ((7, 0) :: S) h k z else none
    | _ => none
  | .lshl => match S with
    | y :: x :: S => bif rz_isI y && rz_isL x then rz_go (pc + 1) L ((7, 0) :: S) h k z else none
    | _ => none
  | .lcmp => match S with
    | y :: x :: S => match rz_lcmp B x y with
      | some v => rz_go (pc + 1) L (v :: S) h k z
      | none => none
    | _ => none
  | .i2l => match S with
    | x :: S => bif rz_isI x then rz_go (pc + 1) L (rz_i2l x :: S) h k z else none
    | _ => none
  | .l2i => match S with
    | x :: S => bif rz_isL x then rz_go (pc + 1) L (rz_l2i x :: S) h k z else none
    | _ => none
  | .goto off => match rz_jp pc off with
    | some t => rz_go t L S h k z
    | none => none
  | .ifCond c off => match S with
    | x :: S => match rz_jp pc off with
      | some t => match rz_cmp c B x (0, 0) with
        | some true => rz_go t L S h k z
        | some false => rz_go (pc + 3) L S h k z
        | none => none
      | none => none
    | _ => none
  | .if_icmp c off => match S with
    | y :: x :: S => match rz_jp pc off with
      | some t => match rz_cmp c B x y with
        | some true => rz_go t L S h k z
        | some false => rz_go (pc + 3) L S h k z
        | none => none
      | none => none
    | _ => none
  | .ifnull off => match S with
    | x :: S => bif Nat.beq x.1 5 then match rz_jp pc off with
        | some t => rz_go t L S h k z
        | none => none
      else bif Nat.beq x.1 4 then rz_go (pc + 3) L S h k z else none
    | _ => none
  | .ifnonnull off => match S with
    | x :: S => bif Nat.beq x.1 4 then match rz_jp pc off with
        | some t => rz_go t L S h k z
        | none => none
      else bif Nat.beq x.1 5 then rz_go (pc + 3) L S h k z else none
    | _ => none
  | .tableswitch d lo hi offs => match S with
    | x :: S => match rz_itv B x with
      | some (l, u) => bif decide (hi < l) || decide (u < lo) then match rz_jp pc d with
          | some t => rz_go t L S h k z
          | none => none
        else bif decide (l = u) && (decide (lo ≤ l) && decide (l ≤ hi)) then match rz_nth offs.toList (l - lo).toNat with
          | some off => match rz_jp pc off with
            | some t => rz_go t L S h k z
            | none => none
          | none => none
        else none
      | none => none
    | _ => none
  | .arraylength => match S with
    | x :: S => bif Nat.beq x.1 8 then rz_go (pc + 1) L (rz_nm B 8 :: S) h k z else match rz_cell h x with
      | some e => bif (Nat.beq e.1 1 || (Nat.beq e.1 2 || (Nat.beq e.1 3 || rz_isR e.1))) && decide ((e.2.1 : Int) ≤ 100000) then rz_go (pc + 1) L ((0, (e.2.1 : Int)) :: S) h k z else none
      | none => none
    | _ => none
  | .iaload => match S with
    | i :: x :: S => bif Nat.beq x.1 8 then bif rz_k i && decide (0 ≤ i.2) then match rz_nth B 8 with
          | some (lo, _) => bif decide (i.2 < lo) then rz_go (pc + 1) L (rz_nm B i.2.toNat :: S) h k z else none
          | none => none
        else none
      else match rz_ld h (rz_is 1) i x with
        | some v => rz_go (pc + 1) L (v :: S) h k z
        | none => none
    | _ => none
  | .laload => match S with
    | i :: x :: S => match rz_ld h (rz_is 2) i x with
        | some v => rz_go (pc + 1) L (v :: S) h k z
        | none => none
    | _ => none
  | .baload => match S with
    | i :: x :: S => match rz_ld h (rz_is 3) i x with
        | some v => rz_go (pc + 1) L (v :: S) h k z
        | none => none
    | _ => none
  | .aaload => match S with
    | i :: x :: S => match rz_ld h rz_isR i x with
        | some v => rz_go (pc + 1) L (v :: S) h k z
        | none => none
    | _ => none
  | .iastore => match S with
    | v :: i :: x :: S => bif rz_isI v then match rz_as h (rz_is 1) v i x with
        | some h => rz_go (pc + 1) L S h k z
        | none => none
      else none
    | _ => none
  | .lastore => match S with
    | v :: i :: x :: S => bif rz_isL v then match rz_as h (rz_is 2) v i x with
        | some h => rz_go (pc + 1) L S h k z
        | none => none
      else none
    | _ => none
  | .bastore => match S with
    | v :: i :: x :: S => bif rz_b01 v then match rz_as h (rz_is 3) v i x with
        | some h => rz_go (pc + 1) L S h k z
        | none => none
      else none
    | _ => none
  | .aastore => match S with
    | v :: i :: x :: S => match rz_cell h v with
      | some e => bif Nat.beq e.1 0 && rz_isR (e.2.1 + 4) then match rz_as h (rz_is (e.2.1 + 4)) v i x with
          | some h => rz_go (pc + 1) L S h k z
          | none => none
        else none
      | none => none
    | _ => none
  | .getfield _ => match S with
    | x :: S => match rz_cell h x with
      | some e => bif Nat.beq e.1 0 && Nat.beq e.2.1 a then match rz_nth e.2.2.1 b.toNat with
          | some v => rz_go (pc + 3) L (v :: S) h k z
          | none => none
        else none
      | none => none
    | _ => none
  | .putfield _ => match S with
    | v :: x :: S => match rz_cell h x with
      | some e => bif Nat.beq e.1 0 && (Nat.beq e.2.1 a && (Nat.blt b.toNat e.2.2.1.length && (Nat.ble e.2.2.1.length (N a) && rz_fit (fty a b.toNat) v))) then
          rz_go (pc + 3) L S (rz_set h x.2.toNat (0, a, rz_set e.2.2.1 b.toNat v, e.2.2.2)) k z
        else none
      | none => none
    | _ => none
  | .new _ => bif Nat.ble (k + 1) K && Nat.ble (z + N a) Z then rz_go (pc + 3) L ((4, (h.length : Int)) :: S) (h ++ [(0, a, df a, [])]) (k + 1) (z + N a) else none
  | .newarray t => match S with
    | n :: S => bif rz_k n && (decide (0 ≤ n.2) && (decide (n.2 ≤ 100000) && (Nat.ble (k + 1) K && Nat.ble (z + n.2.toNat) Z))) then match t with
        | .int => rz_go (pc + 2) L ((4, (h.length : Int)) :: S) (h ++ [(1, n.2.toNat, [], [])]) (k + 1) (z + n.2.toNat)
        | .long => rz_go (pc + 2) L ((4, (h.length : Int)) :: S) (h ++ [(2, n.2.toNat, [], [])]) (k + 1) (z + n.2.toNat)
        | .boolean => rz_go (pc + 2) L ((4, (h.length : Int)) :: S) (h ++ [(3, n.2.toNat, [], [])]) (k + 1) (z + n.2.toNat)
        | _ => none
      else none
    | _ => none
  | .anewarray _ => match S with
    | n :: S => bif rz_k n && (decide (0 ≤ n.2) && (decide (n.2 ≤ 100000) && (Nat.ble (k + 1) K && Nat.ble (z + n.2.toNat) Z))) then
        rz_go (pc + 3) L ((4, (h.length : Int)) :: S) (h ++ [(a + 4, n.2.toNat, [], [])]) (k + 1) (z + n.2.toNat)
      else none
    | _ => none
  | .ireturn => match S with
    | [v] => bif rz_isI v && (!rb || rz_b01 v) then some (.inr ((1, v), h, k, z)) else none
    | _ => none
  | .lreturn => match S with
    | [v] => bif rz_isL v then some (.inr ((1, v), h, k, z)) else none
    | _ => none
  | .areturn => match S with
    | [v] => bif rz_isA v then some (.inr ((1, v), h, k, z)) else none
    | _ => none
  | .return_ => match S with
    | [] => some (.inr ((0, (0, 0)), h, k, z))
    | _ => none
  | .invokespecial _ => bif decide (b = 1) then match S with
      | x :: S => bif Nat.beq x.1 4 && Nat.ble (rz_cats S) 8 then rz_go (pc + 3) L S h k z else none
      | [] => none
    else match rz_tk (np a) [] S with
      | some (x :: as, S) => bif Nat.beq x.1 4 && (Nat.ble (rz_cats S) 8 && (Nat.ble k K && Nat.ble z Z)) then match call a (x :: as) h (K - k) (Z - z) with
          | some ((0, _), h', k', z') => rz_go (pc + 3) L S h' (k + k') (z + z')
          | _ => none
        else none
      | _ => none
  | .invokevirtual _ => match rz_tk (np a) [] S with
      | some (x :: as, S) => match rz_cell h x with
        | some e => bif Nat.beq e.1 0 && (Nat.beq e.2.1 (mo a) && (Nat.ble (rz_cats S) 8 && (Nat.ble k K && Nat.ble z Z))) then match call a (x :: as) h (K - k) (Z - z) with
            | some ((0, _), h', k', z') => rz_go (pc + 3) L S h' (k + k') (z + z')
            | some ((1, v), h', k', z') => rz_go (pc + 3) L (v :: S) h' (k + k') (z + z')
            | some ((_, v), h', k', z') => match rz_hd hh pc with
              | some (t, ct) => bif Nat.beq ct 13 then rz_go t L [v] h' (k + k') (z + z') else none
              | none => some (.inr ((2, v), h', k + k', z + z'))
            | none => none
          else none
        | none => none
      | _ => none
  | .invokestatic _ => match rz_tk (np a) [] S with
      | some (as, S) => bif Nat.ble (rz_cats S) 8 && (Nat.ble k K && Nat.ble z Z) then match call a as h (K - k) (Z - z) with
          | some ((0, _), h', k', z') => rz_go (pc + 3) L S h' (k + k') (z + z')
          | some ((1, v), h', k', z') => rz_go (pc + 3) L (v :: S) h' (k + k') (z + z')
          | some ((_, v), h', k', z') => match rz_hd hh pc with
            | some (t, ct) => bif Nat.beq ct 13 then rz_go t L [v] h' (k + k') (z + z') else none
            | none => some (.inr ((2, v), h', k + k', z + z'))
          | none => none
        else none
      | _ => none
  | _ => none
end
section
/-! Tables, laid by a program (wip/p1/tools/gen.py): the instructions that the runs meet, with what their entries name; the methods. -/
def rz_c0 (pc : Nat) : Option rz_I := bif Nat.blt pc 837 then (bif Nat.blt pc 426 then (bif Nat.blt pc 251 then (bif Nat.blt pc 177 then (bif Nat.blt pc 46 then (bif Nat.blt pc 25 then (bif Nat.blt pc 12 then (bif Nat.blt pc 5 then (bif Nat.blt pc 3 then (bif Nat.beq pc 0 then some (.new 8, 10, 0) else none) else (bif Nat.blt pc 4 then (bif Nat.beq pc 3 then some (.dup, 0, 0) else none) else (bif Nat.beq pc 4 then some (.aload_n 0, 0, 0) else none))) else (bif Nat.blt pc 6 then (bif Nat.beq pc 5 then some (.iconst 0, 0, 0) else none) else (bif Nat.blt pc 9 then (bif Nat.beq pc 6 then some (.invokestatic 80, 6, 0) else none) else (bif Nat.beq pc 9 then some (.invokespecial 85, 33, 0) else none)))) else (bif Nat.blt pc 17 then (bif Nat.blt pc 13 then (bif Nat.beq pc 12 then some (.astore_n 1, 0, 0) else none) else (bif Nat.blt pc 16 then (bif Nat.beq pc 13 then some (.new 88, 11, 0) else none) else (bif Nat.beq pc 16 then some (.dup, 0, 0) else none))) else (bif Nat.blt pc 19 then (bif Nat.blt pc 18 then (bif Nat.beq pc 17 then some (.aload_n 0, 0, 0) else none) else (bif Nat.beq pc 18 then some (.iconst 0, 0, 0) else none)) else (bif Nat.blt pc 22 then (bif Nat.beq pc 19 then some (.invokestatic 80, 6, 0) else none) else (bif Nat.beq pc 22 then some (.invokespecial 90, 62, 0) else none))))) else (bif Nat.blt pc 35 then (bif Nat.blt pc 29 then (bif Nat.blt pc 26 then (bif Nat.beq pc 25 then some (.astore_n 2, 0, 0) else none) else (bif Nat.blt pc 27 then (bif Nat.beq pc 26 then some (.iconst 1, 0, 0) else none) else (bif Nat.beq pc 27 then some (.newarray .long, 0, 0) else none))) else (bif Nat.blt pc 31 then (bif Nat.blt pc 30 then (bif Nat.beq pc 29 then some (.astore_n 3, 0, 0) else none) else (bif Nat.beq pc 30 then some (.iconst 1, 0, 0) else none)) else (bif Nat.blt pc 33 then (bif Nat.beq pc 31 then some (.istore 4, 0, 0) else none) else (bif Nat.beq pc 33 then some (.iload 4, 0, 0) else none)))) else (bif Nat.blt pc 39 then (bif Nat.blt pc 36 then (bif Nat.beq pc 35 then some (.aload_n 0, 0, 0) else none) else (bif Nat.blt pc 37 then (bif Nat.beq pc 36 then some (.arraylength, 0, 0) else none) else (bif Nat.beq pc 37 then some (.bipush 7, 0, 0) else none))) else (bif Nat.blt pc 43 then (bif Nat.blt pc 40 then (bif Nat.beq pc 39 then some (.isub, 0, 0) else none) else (bif Nat.beq pc 40 then some (.if_icmp .gt 1582, 0, 0) else none)) else (bif Nat.blt pc 44 then (bif Nat.beq pc 43 then some (.aload_n 0, 0, 0) else none) else (bif Nat.beq pc 44 then some (.iload 4, 0, 0) else none)))))) else (bif Nat.blt pc 160 then (bif Nat.blt pc 152 then (bif Nat.blt pc 50 then (bif Nat.blt pc 47 then (bif Nat.beq pc 46 then some (.iaload, 0, 0) else none) else (bif Nat.blt pc 49 then (bif Nat.beq pc 47 then some (.bipush 31, 0, 0) else none) else (bif Nat.beq pc 49 then some (.iand, 0, 0) else none))) else (bif Nat.blt pc 149 then (bif Nat.blt pc 148 then (bif Nat.beq pc 50 then some (.tableswitch 1566 0 20 #[98, 256, 312, 412, 480, 536, 592, 648, 715, 783, 882, 937, 993, 1061, 1128, 1196, 1264, 1332, 1400, 1454, 1510], 0, 0) else none) else (bif Nat.beq pc 148 then some (.aload_n 1, 0, 0) else none)) else (bif Nat.blt pc 150 then (bif Nat.beq pc 149 then some (.aload_n 0, 0, 0) else none) else (bif Nat.beq pc 150 then some (.iload 4, 0, 0) else none)))) else (bif Nat.blt pc 155 then (bif Nat.blt pc 153 then (bif Nat.beq pc 152 then some (.iconst 1, 0, 0) else none) else (bif Nat.blt pc 154 then (bif Nat.beq pc 153 then some (.iadd, 0, 0) else none) else (bif Nat.beq pc 154 then some (.iaload, 0, 0) else none))) else (bif Nat.blt pc 158 then (bif Nat.blt pc 156 then (bif Nat.beq pc 155 then some (.aload_n 0, 0, 0) else none) else (bif Nat.beq pc 156 then some (.iload 4, 0, 0) else none)) else (bif Nat.blt pc 159 then (bif Nat.beq pc 158 then some (.iconst 2, 0, 0) else none) else (bif Nat.beq pc 159 then some (.iadd, 0, 0) else none))))) else (bif Nat.blt pc 168 then (bif Nat.blt pc 164 then (bif Nat.blt pc 161 then (bif Nat.beq pc 160 then some (.iaload, 0, 0) else none) else (bif Nat.blt pc 162 then (bif Nat.beq pc 161 then some (.aload_n 0, 0, 0) else none) else (bif Nat.beq pc 162 then some (.iload 4, 0, 0) else none))) else (bif Nat.blt pc 166 then (bif Nat.blt pc 165 then (bif Nat.beq pc 164 then some (.iconst 3, 0, 0) else none) else (bif Nat.beq pc 165 then some (.iadd, 0, 0) else none)) else (bif Nat.blt pc 167 then (bif Nat.beq pc 166 then some (.iaload, 0, 0) else none) else (bif Nat.beq pc 167 then some (.i2l, 0, 0) else none)))) else (bif Nat.blt pc 172 then (bif Nat.blt pc 170 then (bif Nat.beq pc 168 then some (.bipush 32, 0, 0) else none) else (bif Nat.blt pc 171 then (bif Nat.beq pc 170 then some (.lshl, 0, 0) else none) else (bif Nat.beq pc 171 then some (.aload_n 0, 0, 0) else none))) else (bif Nat.blt pc 175 then (bif Nat.blt pc 174 then (bif Nat.beq pc 172 then some (.iload 4, 0, 0) else none) else (bif Nat.beq pc 174 then some (.iconst 4, 0, 0) else none)) else (bif Nat.blt pc 176 then (bif Nat.beq pc 175 then some (.iadd, 0, 0) else none) else (bif Nat.beq pc 176 then some (.iaload, 0, 0) else none))))))) else (bif Nat.blt pc 216 then (bif Nat.blt pc 194 then (bif Nat.blt pc 186 then (bif Nat.blt pc 182 then (bif Nat.blt pc 178 then (bif Nat.beq pc 177 then some (.i2l, 0, 0) else none) else (bif Nat.blt pc 181 then (bif Nat.beq pc 178 then some (.ldc2_w 91, 0, 4294967295) else none) else (bif Nat.beq pc 181 then some (.land, 0, 0) else none))) else (bif Nat.blt pc 183 then (bif Nat.beq pc 182 then some (.lor, 0, 0) else none) else (bif Nat.blt pc 184 then (bif Nat.beq pc 183 then some (.aload_n 0, 0, 0) else none) else (bif Nat.beq pc 184 then some (.iload 4, 0, 0) else none)))) else (bif Nat.blt pc 189 then (bif Nat.blt pc 187 then (bif Nat.beq pc 186 then some (.iconst 5, 0, 0) else none) else (bif Nat.blt pc 188 then (bif Nat.beq pc 187 then some (.iadd, 0, 0) else none) else (bif Nat.beq pc 188 then some (.iaload, 0, 0) else none))) else (bif Nat.blt pc 192 then (bif Nat.blt pc 190 then (bif Nat.beq pc 189 then some (.i2l, 0, 0) else none) else (bif Nat.beq pc 190 then some (.bipush 32, 0, 0) else none)) else (bif Nat.blt pc 193 then (bif Nat.beq pc 192 then some (.lshl, 0, 0) else none) else (bif Nat.beq pc 193 then some (.aload_n 0, 0, 0) else none))))) else (bif Nat.blt pc 205 then (bif Nat.blt pc 199 then (bif Nat.blt pc 196 then (bif Nat.beq pc 194 then some (.iload 4, 0, 0) else none) else (bif Nat.blt pc 198 then (bif Nat.beq pc 196 then some (.bipush 6, 0, 0) else none) else (bif Nat.beq pc 198 then some (.iadd, 0, 0) else none))) else (bif Nat.blt pc 201 then (bif Nat.blt pc 200 then (bif Nat.beq pc 199 then some (.iaload, 0, 0) else none) else (bif Nat.beq pc 200 then some (.i2l, 0, 0) else none)) else (bif Nat.blt pc 204 then (bif Nat.beq pc 201 then some (.ldc2_w 91, 0, 4294967295) else none) else (bif Nat.beq pc 204 then some (.land, 0, 0) else none)))) else (bif Nat.blt pc 210 then (bif Nat.blt pc 206 then (bif Nat.beq pc 205 then some (.lor, 0, 0) else none) else (bif Nat.blt pc 207 then (bif Nat.beq pc 206 then some (.aload_n 3, 0, 0) else none) else (bif Nat.beq pc 207 then some (.invokestatic 93, 15, 0) else none))) else (bif Nat.blt pc 213 then (bif Nat.blt pc 212 then (bif Nat.beq pc 210 then some (.istore 5, 0, 0) else none) else (bif Nat.beq pc 212 then some (.aload_n 2, 0, 0) else none)) else (bif Nat.blt pc 214 then (bif Nat.beq pc 213 then some (.aload_n 0, 0, 0) else none) else (bif Nat.beq pc 214 then some (.iload 4, 0, 0) else none)))))) else (bif Nat.blt pc 232 then (bif Nat.blt pc 224 then (bif Nat.blt pc 219 then (bif Nat.blt pc 217 then (bif Nat.beq pc 216 then some (.iconst 1, 0, 0) else none) else (bif Nat.blt pc 218 then (bif Nat.beq pc 217 then some (.iadd, 0, 0) else none) else (bif Nat.beq pc 218 then some (.iaload, 0, 0) else none))) else (bif Nat.blt pc 222 then (bif Nat.blt pc 220 then (bif Nat.beq pc 219 then some (.aload_n 0, 0, 0) else none) else (bif Nat.beq pc 220 then some (.iload 4, 0, 0) else none)) else (bif Nat.blt pc 223 then (bif Nat.beq pc 222 then some (.iconst 2, 0, 0) else none) else (bif Nat.beq pc 223 then some (.iadd, 0, 0) else none)))) else (bif Nat.blt pc 228 then (bif Nat.blt pc 225 then (bif Nat.beq pc 224 then some (.iaload, 0, 0) else none) else (bif Nat.blt pc 226 then (bif Nat.beq pc 225 then some (.aload_n 0, 0, 0) else none) else (bif Nat.beq pc 226 then some (.iload 4, 0, 0) else none))) else (bif Nat.blt pc 230 then (bif Nat.blt pc 229 then (bif Nat.beq pc 228 then some (.iconst 3, 0, 0) else none) else (bif Nat.beq pc 229 then some (.iadd, 0, 0) else none)) else (bif Nat.blt pc 231 then (bif Nat.beq pc 230 then some (.iaload, 0, 0) else none) else (bif Nat.beq pc 231 then some (.i2l, 0, 0) else none))))) else (bif Nat.blt pc 241 then (bif Nat.blt pc 236 then (bif Nat.blt pc 234 then (bif Nat.beq pc 232 then some (.bipush 32, 0, 0) else none) else (bif Nat.blt pc 235 then (bif Nat.beq pc 234 then some (.lshl, 0, 0) else none) else (bif Nat.beq pc 235 then some (.aload_n 0, 0, 0) else none))) else (bif Nat.blt pc 239 then (bif Nat.blt pc 238 then (bif Nat.beq pc 236 then some (.iload 4, 0, 0) else none) else (bif Nat.beq pc 238 then some (.iconst 4, 0, 0) else none)) else (bif Nat.blt pc 240 then (bif Nat.beq pc 239 then some (.iadd, 0, 0) else none) else (bif Nat.beq pc 240 then some (.iaload, 0, 0) else none)))) else (bif Nat.blt pc 246 then (bif Nat.blt pc 242 then (bif Nat.beq pc 241 then some (.i2l, 0, 0) else none) else (bif Nat.blt pc 245 then (bif Nat.beq pc 242 then some (.ldc2_w 91, 0, 4294967295) else none) else (bif Nat.beq pc 245 then some (.land, 0, 0) else none))) else (bif Nat.blt pc 248 then (bif Nat.blt pc 247 then (bif Nat.beq pc 246 then some (.lor, 0, 0) else none) else (bif Nat.beq pc 247 then some (.aload_n 0, 0, 0) else none)) else (bif Nat.blt pc 250 then (bif Nat.beq pc 248 then some (.iload 4, 0, 0) else none) else (bif Nat.beq pc 250 then some (.iconst 5, 0, 0) else none)))))))) else (bif Nat.blt pc 349 then (bif Nat.blt pc 297 then (bif Nat.blt pc 269 then (bif Nat.blt pc 258 then (bif Nat.blt pc 254 then (bif Nat.blt pc 252 then (bif Nat.beq pc 251 then some (.iadd, 0, 0) else none) else (bif Nat.blt pc 253 then (bif Nat.beq pc 252 then some (.iaload, 0, 0) else none) else (bif Nat.beq pc 253 then some (.i2l, 0, 0) else none))) else (bif Nat.blt pc 256 then (bif Nat.beq pc 254 then some (.bipush 32, 0, 0) else none) else (bif Nat.blt pc 257 then (bif Nat.beq pc 256 then some (.lshl, 0, 0) else none) else (bif Nat.beq pc 257 then some (.aload_n 0, 0, 0) else none)))) else (bif Nat.blt pc 263 then (bif Nat.blt pc 260 then (bif Nat.beq pc 258 then some (.iload 4, 0, 0) else none) else (bif Nat.blt pc 262 then (bif Nat.beq pc 260 then some (.bipush 6, 0, 0) else none) else (bif Nat.beq pc 262 then some (.iadd, 0, 0) else none))) else (bif Nat.blt pc 265 then (bif Nat.blt pc 264 then (bif Nat.beq pc 263 then some (.iaload, 0, 0) else none) else (bif Nat.beq pc 264 then some (.i2l, 0, 0) else none)) else (bif Nat.blt pc 268 then (bif Nat.beq pc 265 then some (.ldc2_w 91, 0, 4294967295) else none) else (bif Nat.beq pc 268 then some (.land, 0, 0) else none))))) else (bif Nat.blt pc 286 then (bif Nat.blt pc 275 then (bif Nat.blt pc 270 then (bif Nat.beq pc 269 then some (.lor, 0, 0) else none) else (bif Nat.blt pc 273 then (bif Nat.beq pc 270 then some (.invokevirtual 96, 72, 0) else none) else (bif Nat.beq pc 273 then some (.istore 6, 0, 0) else none))) else (bif Nat.blt pc 279 then (bif Nat.blt pc 276 then (bif Nat.beq pc 275 then some (.aload_n 2, 0, 0) else none) else (bif Nat.beq pc 276 then some (.invokevirtual 97, 83, 0) else none)) else (bif Nat.blt pc 281 then (bif Nat.beq pc 279 then some (.iload 5, 0, 0) else none) else (bif Nat.beq pc 281 then some (.if_icmp .eq 5, 0, 0) else none)))) else (bif Nat.blt pc 292 then (bif Nat.blt pc 288 then (bif Nat.beq pc 286 then some (.iload 5, 0, 0) else none) else (bif Nat.blt pc 291 then (bif Nat.beq pc 288 then some (.ifCond .ne 15, 0, 0) else none) else (bif Nat.beq pc 291 then some (.aload_n 3, 0, 0) else none))) else (bif Nat.blt pc 294 then (bif Nat.blt pc 293 then (bif Nat.beq pc 292 then some (.iconst 0, 0, 0) else none) else (bif Nat.beq pc 293 then some (.laload, 0, 0) else none)) else (bif Nat.blt pc 296 then (bif Nat.beq pc 294 then some (.iload 6, 0, 0) else none) else (bif Nat.beq pc 296 then some (.i2l, 0, 0) else none)))))) else (bif Nat.blt pc 321 then (bif Nat.blt pc 311 then (bif Nat.blt pc 306 then (bif Nat.blt pc 298 then (bif Nat.beq pc 297 then some (.lcmp, 0, 0) else none) else (bif Nat.blt pc 303 then (bif Nat.beq pc 298 then some (.ifCond .eq 5, 0, 0) else none) else (bif Nat.beq pc 303 then some (.goto 1313, 0, 0) else none))) else (bif Nat.blt pc 308 then (bif Nat.blt pc 307 then (bif Nat.beq pc 306 then some (.aload_n 1, 0, 0) else none) else (bif Nat.beq pc 307 then some (.aload_n 0, 0, 0) else none)) else (bif Nat.blt pc 310 then (bif Nat.beq pc 308 then some (.iload 4, 0, 0) else none) else (bif Nat.beq pc 310 then some (.iconst 1, 0, 0) else none)))) else (bif Nat.blt pc 314 then (bif Nat.blt pc 312 then (bif Nat.beq pc 311 then some (.iadd, 0, 0) else none) else (bif Nat.blt pc 313 then (bif Nat.beq pc 312 then some (.iaload, 0, 0) else none) else (bif Nat.beq pc 313 then some (.aload_n 3, 0, 0) else none))) else (bif Nat.blt pc 319 then (bif Nat.blt pc 317 then (bif Nat.beq pc 314 then some (.invokestatic 101, 9, 0) else none) else (bif Nat.beq pc 317 then some (.istore 5, 0, 0) else none)) else (bif Nat.blt pc 320 then (bif Nat.beq pc 319 then some (.aload_n 2, 0, 0) else none) else (bif Nat.beq pc 320 then some (.aload_n 0, 0, 0) else none))))) else (bif Nat.blt pc 332 then (bif Nat.blt pc 325 then (bif Nat.blt pc 323 then (bif Nat.beq pc 321 then some (.iload 4, 0, 0) else none) else (bif Nat.blt pc 324 then (bif Nat.beq pc 323 then some (.iconst 1, 0, 0) else none) else (bif Nat.beq pc 324 then some (.iadd, 0, 0) else none))) else (bif Nat.blt pc 329 then (bif Nat.blt pc 326 then (bif Nat.beq pc 325 then some (.iaload, 0, 0) else none) else (bif Nat.beq pc 326 then some (.invokevirtual 104, 56, 0) else none)) else (bif Nat.blt pc 331 then (bif Nat.beq pc 329 then some (.istore 6, 0, 0) else none) else (bif Nat.beq pc 331 then some (.aload_n 2, 0, 0) else none)))) else (bif Nat.blt pc 342 then (bif Nat.blt pc 335 then (bif Nat.beq pc 332 then some (.invokevirtual 97, 83, 0) else none) else (bif Nat.blt pc 337 then (bif Nat.beq pc 335 then some (.iload 5, 0, 0) else none) else (bif Nat.beq pc 337 then some (.if_icmp .eq 5, 0, 0) else none))) else (bif Nat.blt pc 347 then (bif Nat.blt pc 344 then (bif Nat.beq pc 342 then some (.iload 5, 0, 0) else none) else (bif Nat.beq pc 344 then some (.ifCond .ne 15, 0, 0) else none)) else (bif Nat.blt pc 348 then (bif Nat.beq pc 347 then some (.aload_n 3, 0, 0) else none) else (bif Nat.beq pc 348 then some (.iconst 0, 0, 0) else none))))))) else (bif Nat.blt pc 389 then (bif Nat.blt pc 370 then (bif Nat.blt pc 362 then (bif Nat.blt pc 353 then (bif Nat.blt pc 350 then (bif Nat.beq pc 349 then some (.laload, 0, 0) else none) else (bif Nat.blt pc 352 then (bif Nat.beq pc 350 then some (.iload 6, 0, 0) else none) else (bif Nat.beq pc 352 then some (.i2l, 0, 0) else none))) else (bif Nat.blt pc 354 then (bif Nat.beq pc 353 then some (.lcmp, 0, 0) else none) else (bif Nat.blt pc 359 then (bif Nat.beq pc 354 then some (.ifCond .eq 5, 0, 0) else none) else (bif Nat.beq pc 359 then some (.goto 1257, 0, 0) else none)))) else (bif Nat.blt pc 366 then (bif Nat.blt pc 363 then (bif Nat.beq pc 362 then some (.aload_n 1, 0, 0) else none) else (bif Nat.blt pc 364 then (bif Nat.beq pc 363 then some (.aload_n 0, 0, 0) else none) else (bif Nat.beq pc 364 then some (.iload 4, 0, 0) else none))) else (bif Nat.blt pc 368 then (bif Nat.blt pc 367 then (bif Nat.beq pc 366 then some (.iconst 1, 0, 0) else none) else (bif Nat.beq pc 367 then some (.iadd, 0, 0) else none)) else (bif Nat.blt pc 369 then (bif Nat.beq pc 368 then some (.iaload, 0, 0) else none) else (bif Nat.beq pc 369 then some (.aload_n 0, 0, 0) else none))))) else (bif Nat.blt pc 379 then (bif Nat.blt pc 374 then (bif Nat.blt pc 372 then (bif Nat.beq pc 370 then some (.iload 4, 0, 0) else none) else (bif Nat.blt pc 373 then (bif Nat.beq pc 372 then some (.iconst 2, 0, 0) else none) else (bif Nat.beq pc 373 then some (.iadd, 0, 0) else none))) else (bif Nat.blt pc 376 then (bif Nat.blt pc 375 then (bif Nat.beq pc 374 then some (.iaload, 0, 0) else none) else (bif Nat.beq pc 375 then some (.i2l, 0, 0) else none)) else (bif Nat.blt pc 378 then (bif Nat.beq pc 376 then some (.bipush 32, 0, 0) else none) else (bif Nat.beq pc 378 then some (.lshl, 0, 0) else none)))) else (bif Nat.blt pc 383 then (bif Nat.blt pc 380 then (bif Nat.beq pc 379 then some (.aload_n 0, 0, 0) else none) else (bif Nat.blt pc 382 then (bif Nat.beq pc 380 then some (.iload 4, 0, 0) else none) else (bif Nat.beq pc 382 then some (.iconst 3, 0, 0) else none))) else (bif Nat.blt pc 385 then (bif Nat.blt pc 384 then (bif Nat.beq pc 383 then some (.iadd, 0, 0) else none) else (bif Nat.beq pc 384 then some (.iaload, 0, 0) else none)) else (bif Nat.blt pc 386 then (bif Nat.beq pc 385 then some (.i2l, 0, 0) else none) else (bif Nat.beq pc 386 then some (.ldc2_w 91, 0, 4294967295) else none)))))) else (bif Nat.blt pc 408 then (bif Nat.blt pc 399 then (bif Nat.blt pc 392 then (bif Nat.blt pc 390 then (bif Nat.beq pc 389 then some (.land, 0, 0) else none) else (bif Nat.blt pc 391 then (bif Nat.beq pc 390 then some (.lor, 0, 0) else none) else (bif Nat.beq pc 391 then some (.aload_n 3, 0, 0) else none))) else (bif Nat.blt pc 397 then (bif Nat.blt pc 395 then (bif Nat.beq pc 392 then some (.invokestatic 105, 5, 0) else none) else (bif Nat.beq pc 395 then some (.istore 5, 0, 0) else none)) else (bif Nat.blt pc 398 then (bif Nat.beq pc 397 then some (.aload_n 2, 0, 0) else none) else (bif Nat.beq pc 398 then some (.aload_n 0, 0, 0) else none)))) else (bif Nat.blt pc 403 then (bif Nat.blt pc 401 then (bif Nat.beq pc 399 then some (.iload 4, 0, 0) else none) else (bif Nat.blt pc 402 then (bif Nat.beq pc 401 then some (.iconst 1, 0, 0) else none) else (bif Nat.beq pc 402 then some (.iadd, 0, 0) else none))) else (bif Nat.blt pc 405 then (bif Nat.blt pc 404 then (bif Nat.beq pc 403 then some (.iaload, 0, 0) else none) else (bif Nat.beq pc 404 then some (.aload_n 0, 0, 0) else none)) else (bif Nat.blt pc 407 then (bif Nat.beq pc 405 then some (.iload 4, 0, 0) else none) else (bif Nat.beq pc 407 then some (.iconst 2, 0, 0) else none))))) else (bif Nat.blt pc 417 then (bif Nat.blt pc 411 then (bif Nat.blt pc 409 then (bif Nat.beq pc 408 then some (.iadd, 0, 0) else none) else (bif Nat.blt pc 410 then (bif Nat.beq pc 409 then some (.iaload, 0, 0) else none) else (bif Nat.beq pc 410 then some (.i2l, 0, 0) else none))) else (bif Nat.blt pc 414 then (bif Nat.blt pc 413 then (bif Nat.beq pc 411 then some (.bipush 32, 0, 0) else none) else (bif Nat.beq pc 413 then some (.lshl, 0, 0) else none)) else (bif Nat.blt pc 415 then (bif Nat.beq pc 414 then some (.aload_n 0, 0, 0) else none) else (bif Nat.beq pc 415 then some (.iload 4, 0, 0) else none)))) else (bif Nat.blt pc 420 then (bif Nat.blt pc 418 then (bif Nat.beq pc 417 then some (.iconst 3, 0, 0) else none) else (bif Nat.blt pc 419 then (bif Nat.beq pc 418 then some (.iadd, 0, 0) else none) else (bif Nat.beq pc 419 then some (.iaload, 0, 0) else none))) else (bif Nat.blt pc 424 then (bif Nat.blt pc 421 then (bif Nat.beq pc 420 then some (.i2l, 0, 0) else none) else (bif Nat.beq pc 421 then some (.ldc2_w 91, 0, 4294967295) else none)) else (bif Nat.blt pc 425 then (bif Nat.beq pc 424 then some (.land, 0, 0) else none) else (bif Nat.beq pc 425 then some (.lor, 0, 0) else none))))))))) else (bif Nat.blt pc 634 then (bif Nat.blt pc 536 then (bif Nat.blt pc 475 then (bif Nat.blt pc 453 then (bif Nat.blt pc 442 then (bif Nat.blt pc 432 then (bif Nat.blt pc 429 then (bif Nat.beq pc 426 then some (.invokevirtual 108, 53, 0) else none) else (bif Nat.blt pc 431 then (bif Nat.beq pc 429 then some (.istore 6, 0, 0) else none) else (bif Nat.beq pc 431 then some (.aload_n 2, 0, 0) else none))) else (bif Nat.blt pc 435 then (bif Nat.beq pc 432 then some (.invokevirtual 97, 83, 0) else none) else (bif Nat.blt pc 437 then (bif Nat.beq pc 435 then some (.iload 5, 0, 0) else none) else (bif Nat.beq pc 437 then some (.if_icmp .eq 5, 0, 0) else none)))) else (bif Nat.blt pc 448 then (bif Nat.blt pc 444 then (bif Nat.beq pc 442 then some (.iload 5, 0, 0) else none) else (bif Nat.blt pc 447 then (bif Nat.beq pc 444 then some (.ifCond .ne 15, 0, 0) else none) else (bif Nat.beq pc 447 then some (.aload_n 3, 0, 0) else none))) else (bif Nat.blt pc 450 then (bif Nat.blt pc 449 then (bif Nat.beq pc 448 then some (.iconst 0, 0, 0) else none) else (bif Nat.beq pc 449 then some (.laload, 0, 0) else none)) else (bif Nat.blt pc 452 then (bif Nat.beq pc 450 then some (.iload 6, 0, 0) else none) else (bif Nat.beq pc 452 then some (.i2l, 0, 0) else none))))) else (bif Nat.blt pc 467 then (bif Nat.blt pc 462 then (bif Nat.blt pc 454 then (bif Nat.beq pc 453 then some (.lcmp, 0, 0) else none) else (bif Nat.blt pc 459 then (bif Nat.beq pc 454 then some (.ifCond .eq 5, 0, 0) else none) else (bif Nat.beq pc 459 then some (.goto 1157, 0, 0) else none))) else (bif Nat.blt pc 464 then (bif Nat.blt pc 463 then (bif Nat.beq pc 462 then some (.aload_n 1, 0, 0) else none) else (bif Nat.beq pc 463 then some (.aload_n 0, 0, 0) else none)) else (bif Nat.blt pc 466 then (bif Nat.beq pc 464 then some (.iload 4, 0, 0) else none) else (bif Nat.beq pc 466 then some (.iconst 1, 0, 0) else none)))) else (bif Nat.blt pc 470 then (bif Nat.blt pc 468 then (bif Nat.beq pc 467 then some (.iadd, 0, 0) else none) else (bif Nat.blt pc 469 then (bif Nat.beq pc 468 then some (.iaload, 0, 0) else none) else (bif Nat.beq pc 469 then some (.aload_n 0, 0, 0) else none))) else (bif Nat.blt pc 473 then (bif Nat.blt pc 472 then (bif Nat.beq pc 470 then some (.iload 4, 0, 0) else none) else (bif Nat.beq pc 472 then some (.iconst 2, 0, 0) else none)) else (bif Nat.blt pc 474 then (bif Nat.beq pc 473 then some (.iadd, 0, 0) else none) else (bif Nat.beq pc 474 then some (.iaload, 0, 0) else none)))))) else (bif Nat.blt pc 494 then (bif Nat.blt pc 486 then (bif Nat.blt pc 481 then (bif Nat.blt pc 476 then (bif Nat.beq pc 475 then some (.aload_n 3, 0, 0) else none) else (bif Nat.blt pc 479 then (bif Nat.beq pc 476 then some (.invokestatic 109, 18, 0) else none) else (bif Nat.beq pc 479 then some (.istore 5, 0, 0) else none))) else (bif Nat.blt pc 483 then (bif Nat.blt pc 482 then (bif Nat.beq pc 481 then some (.aload_n 2, 0, 0) else none) else (bif Nat.beq pc 482 then some (.aload_n 0, 0, 0) else none)) else (bif Nat.blt pc 485 then (bif Nat.beq pc 483 then some (.iload 4, 0, 0) else none) else (bif Nat.beq pc 485 then some (.iconst 1, 0, 0) else none)))) else (bif Nat.blt pc 489 then (bif Nat.blt pc 487 then (bif Nat.beq pc 486 then some (.iadd, 0, 0) else none) else (bif Nat.blt pc 488 then (bif Nat.beq pc 487 then some (.iaload, 0, 0) else none) else (bif Nat.beq pc 488 then some (.aload_n 0, 0, 0) else none))) else (bif Nat.blt pc 492 then (bif Nat.blt pc 491 then (bif Nat.beq pc 489 then some (.iload 4, 0, 0) else none) else (bif Nat.beq pc 491 then some (.iconst 2, 0, 0) else none)) else (bif Nat.blt pc 493 then (bif Nat.beq pc 492 then some (.iadd, 0, 0) else none) else (bif Nat.beq pc 493 then some (.iaload, 0, 0) else none))))) else (bif Nat.blt pc 512 then (bif Nat.blt pc 500 then (bif Nat.blt pc 497 then (bif Nat.beq pc 494 then some (.invokevirtual 112, 75, 0) else none) else (bif Nat.blt pc 499 then (bif Nat.beq pc 497 then some (.istore 6, 0, 0) else none) else (bif Nat.beq pc 499 then some (.aload_n 2, 0, 0) else none))) else (bif Nat.blt pc 505 then (bif Nat.blt pc 503 then (bif Nat.beq pc 500 then some (.invokevirtual 97, 83, 0) else none) else (bif Nat.beq pc 503 then some (.iload 5, 0, 0) else none)) else (bif Nat.blt pc 510 then (bif Nat.beq pc 505 then some (.if_icmp .eq 5, 0, 0) else none) else (bif Nat.beq pc 510 then some (.iload 5, 0, 0) else none)))) else (bif Nat.blt pc 531 then (bif Nat.blt pc 527 then (bif Nat.beq pc 512 then some (.ifCond .ne 15, 0, 0) else none) else (bif Nat.blt pc 530 then (bif Nat.beq pc 527 then some (.goto 1089, 0, 0) else none) else (bif Nat.beq pc 530 then some (.aload_n 1, 0, 0) else none))) else (bif Nat.blt pc 534 then (bif Nat.blt pc 532 then (bif Nat.beq pc 531 then some (.aload_n 0, 0, 0) else none) else (bif Nat.beq pc 532 then some (.iload 4, 0, 0) else none)) else (bif Nat.blt pc 535 then (bif Nat.beq pc 534 then some (.iconst 1, 0, 0) else none) else (bif Nat.beq pc 535 then some (.iadd, 0, 0) else none))))))) else (bif Nat.blt pc 587 then (bif Nat.blt pc 556 then (bif Nat.blt pc 545 then (bif Nat.blt pc 541 then (bif Nat.blt pc 537 then (bif Nat.beq pc 536 then some (.iaload, 0, 0) else none) else (bif Nat.blt pc 538 then (bif Nat.beq pc 537 then some (.aload_n 3, 0, 0) else none) else (bif Nat.beq pc 538 then some (.invokestatic 113, 10, 0) else none))) else (bif Nat.blt pc 543 then (bif Nat.beq pc 541 then some (.istore 5, 0, 0) else none) else (bif Nat.blt pc 544 then (bif Nat.beq pc 543 then some (.aload_n 2, 0, 0) else none) else (bif Nat.beq pc 544 then some (.aload_n 0, 0, 0) else none)))) else (bif Nat.blt pc 549 then (bif Nat.blt pc 547 then (bif Nat.beq pc 545 then some (.iload 4, 0, 0) else none) else (bif Nat.blt pc 548 then (bif Nat.beq pc 547 then some (.iconst 1, 0, 0) else none) else (bif Nat.beq pc 548 then some (.iadd, 0, 0) else none))) else (bif Nat.blt pc 553 then (bif Nat.blt pc 550 then (bif Nat.beq pc 549 then some (.iaload, 0, 0) else none) else (bif Nat.beq pc 550 then some (.invokevirtual 115, 60, 0) else none)) else (bif Nat.blt pc 555 then (bif Nat.beq pc 553 then some (.istore 6, 0, 0) else none) else (bif Nat.beq pc 555 then some (.aload_n 2, 0, 0) else none))))) else (bif Nat.blt pc 573 then (bif Nat.blt pc 566 then (bif Nat.blt pc 559 then (bif Nat.beq pc 556 then some (.invokevirtual 97, 83, 0) else none) else (bif Nat.blt pc 561 then (bif Nat.beq pc 559 then some (.iload 5, 0, 0) else none) else (bif Nat.beq pc 561 then some (.if_icmp .eq 5, 0, 0) else none))) else (bif Nat.blt pc 571 then (bif Nat.blt pc 568 then (bif Nat.beq pc 566 then some (.iload 5, 0, 0) else none) else (bif Nat.beq pc 568 then some (.ifCond .ne 15, 0, 0) else none)) else (bif Nat.blt pc 572 then (bif Nat.beq pc 571 then some (.aload_n 3, 0, 0) else none) else (bif Nat.beq pc 572 then some (.iconst 0, 0, 0) else none)))) else (bif Nat.blt pc 577 then (bif Nat.blt pc 574 then (bif Nat.beq pc 573 then some (.laload, 0, 0) else none) else (bif Nat.blt pc 576 then (bif Nat.beq pc 574 then some (.iload 6, 0, 0) else none) else (bif Nat.beq pc 576 then some (.i2l, 0, 0) else none))) else (bif Nat.blt pc 583 then (bif Nat.blt pc 578 then (bif Nat.beq pc 577 then some (.lcmp, 0, 0) else none) else (bif Nat.beq pc 578 then some (.ifCond .eq 5, 0, 0) else none)) else (bif Nat.blt pc 586 then (bif Nat.beq pc 583 then some (.goto 1033, 0, 0) else none) else (bif Nat.beq pc 586 then some (.aload_n 1, 0, 0) else none)))))) else (bif Nat.blt pc 606 then (bif Nat.blt pc 597 then (bif Nat.blt pc 591 then (bif Nat.blt pc 588 then (bif Nat.beq pc 587 then some (.aload_n 0, 0, 0) else none) else (bif Nat.blt pc 590 then (bif Nat.beq pc 588 then some (.iload 4, 0, 0) else none) else (bif Nat.beq pc 590 then some (.iconst 1, 0, 0) else none))) else (bif Nat.blt pc 593 then (bif Nat.blt pc 592 then (bif Nat.beq pc 591 then some (.iadd, 0, 0) else none) else (bif Nat.beq pc 592 then some (.iaload, 0, 0) else none)) else (bif Nat.blt pc 594 then (bif Nat.beq pc 593 then some (.aload_n 3, 0, 0) else none) else (bif Nat.beq pc 594 then some (.invokestatic 116, 24, 0) else none)))) else (bif Nat.blt pc 601 then (bif Nat.blt pc 599 then (bif Nat.beq pc 597 then some (.istore 5, 0, 0) else none) else (bif Nat.blt pc 600 then (bif Nat.beq pc 599 then some (.aload_n 2, 0, 0) else none) else (bif Nat.beq pc 600 then some (.aload_n 0, 0, 0) else none))) else (bif Nat.blt pc 604 then (bif Nat.blt pc 603 then (bif Nat.beq pc 601 then some (.iload 4, 0, 0) else none) else (bif Nat.beq pc 603 then some (.iconst 1, 0, 0) else none)) else (bif Nat.blt pc 605 then (bif Nat.beq pc 604 then some (.iadd, 0, 0) else none) else (bif Nat.beq pc 605 then some (.iaload, 0, 0) else none))))) else (bif Nat.blt pc 624 then (bif Nat.blt pc 612 then (bif Nat.blt pc 609 then (bif Nat.beq pc 606 then some (.invokevirtual 118, 84, 0) else none) else (bif Nat.blt pc 611 then (bif Nat.beq pc 609 then some (.istore 6, 0, 0) else none) else (bif Nat.beq pc 611 then some (.aload_n 2, 0, 0) else none))) else (bif Nat.blt pc 617 then (bif Nat.blt pc 615 then (bif Nat.beq pc 612 then some (.invokevirtual 97, 83, 0) else none) else (bif Nat.beq pc 615 then some (.iload 5, 0, 0) else none)) else (bif Nat.blt pc 622 then (bif Nat.beq pc 617 then some (.if_icmp .eq 5, 0, 0) else none) else (bif Nat.beq pc 622 then some (.iload 5, 0, 0) else none)))) else (bif Nat.blt pc 629 then (bif Nat.blt pc 627 then (bif Nat.beq pc 624 then some (.ifCond .ne 15, 0, 0) else none) else (bif Nat.blt pc 628 then (bif Nat.beq pc 627 then some (.aload_n 3, 0, 0) else none) else (bif Nat.beq pc 628 then some (.iconst 0, 0, 0) else none))) else (bif Nat.blt pc 632 then (bif Nat.blt pc 630 then (bif Nat.beq pc 629 then some (.laload, 0, 0) else none) else (bif Nat.beq pc 630 then some (.iload 6, 0, 0) else none)) else (bif Nat.blt pc 633 then (bif Nat.beq pc 632 then some (.i2l, 0, 0) else none) else (bif Nat.beq pc 633 then some (.lcmp, 0, 0) else none)))))))) else (bif Nat.blt pc 739 then (bif Nat.blt pc 699 then (bif Nat.blt pc 657 then (bif Nat.blt pc 647 then (bif Nat.blt pc 643 then (bif Nat.blt pc 639 then (bif Nat.beq pc 634 then some (.ifCond .eq 5, 0, 0) else none) else (bif Nat.blt pc 642 then (bif Nat.beq pc 639 then some (.goto 977, 0, 0) else none) else (bif Nat.beq pc 642 then some (.aload_n 1, 0, 0) else none))) else (bif Nat.blt pc 644 then (bif Nat.beq pc 643 then some (.aload_n 0, 0, 0) else none) else (bif Nat.blt pc 646 then (bif Nat.beq pc 644 then some (.iload 4, 0, 0) else none) else (bif Nat.beq pc 646 then some (.iconst 1, 0, 0) else none)))) else (bif Nat.blt pc 650 then (bif Nat.blt pc 648 then (bif Nat.beq pc 647 then some (.iadd, 0, 0) else none) else (bif Nat.blt pc 649 then (bif Nat.beq pc 648 then some (.iaload, 0, 0) else none) else (bif Nat.beq pc 649 then some (.aload_n 3, 0, 0) else none))) else (bif Nat.blt pc 655 then (bif Nat.blt pc 653 then (bif Nat.beq pc 650 then some (.invokestatic 119, 11, 0) else none) else (bif Nat.beq pc 653 then some (.istore 5, 0, 0) else none)) else (bif Nat.blt pc 656 then (bif Nat.beq pc 655 then some (.aload_n 2, 0, 0) else none) else (bif Nat.beq pc 656 then some (.aload_n 0, 0, 0) else none))))) else (bif Nat.blt pc 668 then (bif Nat.blt pc 661 then (bif Nat.blt pc 659 then (bif Nat.beq pc 657 then some (.iload 4, 0, 0) else none) else (bif Nat.blt pc 660 then (bif Nat.beq pc 659 then some (.iconst 1, 0, 0) else none) else (bif Nat.beq pc 660 then some (.iadd, 0, 0) else none))) else (bif Nat.blt pc 665 then (bif Nat.blt pc 662 then (bif Nat.beq pc 661 then some (.iaload, 0, 0) else none) else (bif Nat.beq pc 662 then some (.invokevirtual 121, 63, 0) else none)) else (bif Nat.blt pc 667 then (bif Nat.beq pc 665 then some (.istore 6, 0, 0) else none) else (bif Nat.beq pc 667 then some (.aload_n 2, 0, 0) else none)))) else (bif Nat.blt pc 678 then (bif Nat.blt pc 671 then (bif Nat.beq pc 668 then some (.invokevirtual 97, 83, 0) else none) else (bif Nat.blt pc 673 then (bif Nat.beq pc 671 then some (.iload 5, 0, 0) else none) else (bif Nat.beq pc 673 then some (.if_icmp .eq 5, 0, 0) else none))) else (bif Nat.blt pc 695 then (bif Nat.blt pc 680 then (bif Nat.beq pc 678 then some (.iload 5, 0, 0) else none) else (bif Nat.beq pc 680 then some (.ifCond .ne 15, 0, 0) else none)) else (bif Nat.blt pc 698 then (bif Nat.beq pc 695 then some (.goto 921, 0, 0) else none) else (bif Nat.beq pc 698 then some (.aload_n 1, 0, 0) else none)))))) else (bif Nat.blt pc 718 then (bif Nat.blt pc 708 then (bif Nat.blt pc 703 then (bif Nat.blt pc 700 then (bif Nat.beq pc 699 then some (.aload_n 0, 0, 0) else none) else (bif Nat.blt pc 702 then (bif Nat.beq pc 700 then some (.iload 4, 0, 0) else none) else (bif Nat.beq pc 702 then some (.iconst 1, 0, 0) else none))) else (bif Nat.blt pc 705 then (bif Nat.blt pc 704 then (bif Nat.beq pc 703 then some (.iadd, 0, 0) else none) else (bif Nat.beq pc 704 then some (.iaload, 0, 0) else none)) else (bif Nat.blt pc 706 then (bif Nat.beq pc 705 then some (.aload_n 0, 0, 0) else none) else (bif Nat.beq pc 706 then some (.iload 4, 0, 0) else none)))) else (bif Nat.blt pc 711 then (bif Nat.blt pc 709 then (bif Nat.beq pc 708 then some (.iconst 2, 0, 0) else none) else (bif Nat.blt pc 710 then (bif Nat.beq pc 709 then some (.iadd, 0, 0) else none) else (bif Nat.beq pc 710 then some (.iaload, 0, 0) else none))) else (bif Nat.blt pc 715 then (bif Nat.blt pc 712 then (bif Nat.beq pc 711 then some (.aload_n 3, 0, 0) else none) else (bif Nat.beq pc 712 then some (.invokestatic 122, 22, 0) else none)) else (bif Nat.blt pc 717 then (bif Nat.beq pc 715 then some (.istore 5, 0, 0) else none) else (bif Nat.beq pc 717 then some (.aload_n 2, 0, 0) else none))))) else (bif Nat.blt pc 727 then (bif Nat.blt pc 722 then (bif Nat.blt pc 719 then (bif Nat.beq pc 718 then some (.aload_n 0, 0, 0) else none) else (bif Nat.blt pc 721 then (bif Nat.beq pc 719 then some (.iload 4, 0, 0) else none) else (bif Nat.beq pc 721 then some (.iconst 1, 0, 0) else none))) else (bif Nat.blt pc 724 then (bif Nat.blt pc 723 then (bif Nat.beq pc 722 then some (.iadd, 0, 0) else none) else (bif Nat.beq pc 723 then some (.iaload, 0, 0) else none)) else (bif Nat.blt pc 725 then (bif Nat.beq pc 724 then some (.aload_n 0, 0, 0) else none) else (bif Nat.beq pc 725 then some (.iload 4, 0, 0) else none)))) else (bif Nat.blt pc 730 then (bif Nat.blt pc 728 then (bif Nat.beq pc 727 then some (.iconst 2, 0, 0) else none) else (bif Nat.blt pc 729 then (bif Nat.beq pc 728 then some (.iadd, 0, 0) else none) else (bif Nat.beq pc 729 then some (.iaload, 0, 0) else none))) else (bif Nat.blt pc 735 then (bif Nat.blt pc 733 then (bif Nat.beq pc 730 then some (.invokevirtual 124, 81, 0) else none) else (bif Nat.beq pc 733 then some (.lstore 6, 0, 0) else none)) else (bif Nat.blt pc 736 then (bif Nat.beq pc 735 then some (.aload_n 2, 0, 0) else none) else (bif Nat.beq pc 736 then some (.invokevirtual 97, 83, 0) else none))))))) else (bif Nat.blt pc 786 then (bif Nat.blt pc 767 then (bif Nat.blt pc 753 then (bif Nat.blt pc 748 then (bif Nat.blt pc 741 then (bif Nat.beq pc 739 then some (.iload 5, 0, 0) else none) else (bif Nat.blt pc 746 then (bif Nat.beq pc 741 then some (.if_icmp .eq 5, 0, 0) else none) else (bif Nat.beq pc 746 then some (.iload 5, 0, 0) else none))) else (bif Nat.blt pc 751 then (bif Nat.beq pc 748 then some (.ifCond .ne 14, 0, 0) else none) else (bif Nat.blt pc 752 then (bif Nat.beq pc 751 then some (.aload_n 3, 0, 0) else none) else (bif Nat.beq pc 752 then some (.iconst 0, 0, 0) else none)))) else (bif Nat.blt pc 757 then (bif Nat.blt pc 754 then (bif Nat.beq pc 753 then some (.laload, 0, 0) else none) else (bif Nat.blt pc 756 then (bif Nat.beq pc 754 then some (.lload 6, 0, 0) else none) else (bif Nat.beq pc 756 then some (.lcmp, 0, 0) else none))) else (bif Nat.blt pc 765 then (bif Nat.blt pc 762 then (bif Nat.beq pc 757 then some (.ifCond .eq 5, 0, 0) else none) else (bif Nat.beq pc 762 then some (.goto 854, 0, 0) else none)) else (bif Nat.blt pc 766 then (bif Nat.beq pc 765 then some (.aload_n 1, 0, 0) else none) else (bif Nat.beq pc 766 then some (.aload_n 0, 0, 0) else none))))) else (bif Nat.blt pc 776 then (bif Nat.blt pc 771 then (bif Nat.blt pc 769 then (bif Nat.beq pc 767 then some (.iload 4, 0, 0) else none) else (bif Nat.blt pc 770 then (bif Nat.beq pc 769 then some (.iconst 1, 0, 0) else none) else (bif Nat.beq pc 770 then some (.iadd, 0, 0) else none))) else (bif Nat.blt pc 773 then (bif Nat.blt pc 772 then (bif Nat.beq pc 771 then some (.iaload, 0, 0) else none) else (bif Nat.beq pc 772 then some (.aload_n 0, 0, 0) else none)) else (bif Nat.blt pc 775 then (bif Nat.beq pc 773 then some (.iload 4, 0, 0) else none) else (bif Nat.beq pc 775 then some (.iconst 2, 0, 0) else none)))) else (bif Nat.blt pc 779 then (bif Nat.blt pc 777 then (bif Nat.beq pc 776 then some (.iadd, 0, 0) else none) else (bif Nat.blt pc 778 then (bif Nat.beq pc 777 then some (.iaload, 0, 0) else none) else (bif Nat.beq pc 778 then some (.aload_n 3, 0, 0) else none))) else (bif Nat.blt pc 784 then (bif Nat.blt pc 782 then (bif Nat.beq pc 779 then some (.invokestatic 125, 14, 0) else none) else (bif Nat.beq pc 782 then some (.istore 5, 0, 0) else none)) else (bif Nat.blt pc 785 then (bif Nat.beq pc 784 then some (.aload_n 2, 0, 0) else none) else (bif Nat.beq pc 785 then some (.aload_n 0, 0, 0) else none)))))) else (bif Nat.blt pc 808 then (bif Nat.blt pc 795 then (bif Nat.blt pc 790 then (bif Nat.blt pc 788 then (bif Nat.beq pc 786 then some (.iload 4, 0, 0) else none) else (bif Nat.blt pc 789 then (bif Nat.beq pc 788 then some (.iconst 1, 0, 0) else none) else (bif Nat.beq pc 789 then some (.iadd, 0, 0) else none))) else (bif Nat.blt pc 792 then (bif Nat.blt pc 791 then (bif Nat.beq pc 790 then some (.iaload, 0, 0) else none) else (bif Nat.beq pc 791 then some (.aload_n 0, 0, 0) else none)) else (bif Nat.blt pc 794 then (bif Nat.beq pc 792 then some (.iload 4, 0, 0) else none) else (bif Nat.beq pc 794 then some (.iconst 2, 0, 0) else none)))) else (bif Nat.blt pc 800 then (bif Nat.blt pc 796 then (bif Nat.beq pc 795 then some (.iadd, 0, 0) else none) else (bif Nat.blt pc 797 then (bif Nat.beq pc 796 then some (.iaload, 0, 0) else none) else (bif Nat.beq pc 797 then some (.invokevirtual 127, 70, 0) else none))) else (bif Nat.blt pc 803 then (bif Nat.blt pc 802 then (bif Nat.beq pc 800 then some (.istore 6, 0, 0) else none) else (bif Nat.beq pc 802 then some (.aload_n 2, 0, 0) else none)) else (bif Nat.blt pc 806 then (bif Nat.beq pc 803 then some (.invokevirtual 97, 83, 0) else none) else (bif Nat.beq pc 806 then some (.iload 5, 0, 0) else none))))) else (bif Nat.blt pc 823 then (bif Nat.blt pc 818 then (bif Nat.blt pc 813 then (bif Nat.beq pc 808 then some (.if_icmp .eq 5, 0, 0) else none) else (bif Nat.blt pc 815 then (bif Nat.beq pc 813 then some (.iload 5, 0, 0) else none) else (bif Nat.beq pc 815 then some (.ifCond .ne 15, 0, 0) else none))) else (bif Nat.blt pc 820 then (bif Nat.blt pc 819 then (bif Nat.beq pc 818 then some (.aload_n 3, 0, 0) else none) else (bif Nat.beq pc 819 then some (.iconst 0, 0, 0) else none)) else (bif Nat.blt pc 821 then (bif Nat.beq pc 820 then some (.laload, 0, 0) else none) else (bif Nat.beq pc 821 then some (.iload 6, 0, 0) else none)))) else (bif Nat.blt pc 830 then (bif Nat.blt pc 824 then (bif Nat.beq pc 823 then some (.i2l, 0, 0) else none) else (bif Nat.blt pc 825 then (bif Nat.beq pc 824 then some (.lcmp, 0, 0) else none) else (bif Nat.beq pc 825 then some (.ifCond .eq 5, 0, 0) else none))) else (bif Nat.blt pc 834 then (bif Nat.blt pc 833 then (bif Nat.beq pc 830 then some (.goto 786, 0, 0) else none) else (bif Nat.beq pc 833 then some (.aload_n 1, 0, 0) else none)) else (bif Nat.blt pc 835 then (bif Nat.beq pc 834 then some (.aload_n 0, 0, 0) else none) else (bif Nat.beq pc 835 then some (.iload 4, 0, 0) else none)))))))))) else (bif Nat.blt pc 1236 then (bif Nat.blt pc 1016 then (bif Nat.blt pc 919 then (bif Nat.blt pc 873 then (bif Nat.blt pc 853 then (bif Nat.blt pc 844 then (bif Nat.blt pc 840 then (bif Nat.blt pc 838 then (bif Nat.beq pc 837 then some (.iconst 1, 0, 0) else none) else (bif Nat.blt pc 839 then (bif Nat.beq pc 838 then some (.iadd, 0, 0) else none) else (bif Nat.beq pc 839 then some (.iaload, 0, 0) else none))) else (bif Nat.blt pc 841 then (bif Nat.beq pc 840 then some (.aload_n 0, 0, 0) else none) else (bif Nat.blt pc 843 then (bif Nat.beq pc 841 then some (.iload 4, 0, 0) else none) else (bif Nat.beq pc 843 then some (.iconst 2, 0, 0) else none)))) else (bif Nat.blt pc 847 then (bif Nat.blt pc 845 then (bif Nat.beq pc 844 then some (.iadd, 0, 0) else none) else (bif Nat.blt pc 846 then (bif Nat.beq pc 845 then some (.iaload, 0, 0) else none) else (bif Nat.beq pc 846 then some (.i2l, 0, 0) else none))) else (bif Nat.blt pc 850 then (bif Nat.blt pc 849 then (bif Nat.beq pc 847 then some (.bipush 32, 0, 0) else none) else (bif Nat.beq pc 849 then some (.lshl, 0, 0) else none)) else (bif Nat.blt pc 851 then (bif Nat.beq pc 850 then some (.aload_n 0, 0, 0) else none) else (bif Nat.beq pc 851 then some (.iload 4, 0, 0) else none))))) else (bif Nat.blt pc 862 then (bif Nat.blt pc 856 then (bif Nat.blt pc 854 then (bif Nat.beq pc 853 then some (.iconst 3, 0, 0) else none) else (bif Nat.blt pc 855 then (bif Nat.beq pc 854 then some (.iadd, 0, 0) else none) else (bif Nat.beq pc 855 then some (.iaload, 0, 0) else none))) else (bif Nat.blt pc 860 then (bif Nat.blt pc 857 then (bif Nat.beq pc 856 then some (.i2l, 0, 0) else none) else (bif Nat.beq pc 857 then some (.ldc2_w 91, 0, 4294967295) else none)) else (bif Nat.blt pc 861 then (bif Nat.beq pc 860 then some (.land, 0, 0) else none) else (bif Nat.beq pc 861 then some (.lor, 0, 0) else none)))) else (bif Nat.blt pc 868 then (bif Nat.blt pc 863 then (bif Nat.beq pc 862 then some (.aload_n 3, 0, 0) else none) else (bif Nat.blt pc 866 then (bif Nat.beq pc 863 then some (.invokestatic 128, 20, 0) else none) else (bif Nat.beq pc 866 then some (.istore 5, 0, 0) else none))) else (bif Nat.blt pc 870 then (bif Nat.blt pc 869 then (bif Nat.beq pc 868 then some (.aload_n 2, 0, 0) else none) else (bif Nat.beq pc 869 then some (.aload_n 0, 0, 0) else none)) else (bif Nat.blt pc 872 then (bif Nat.beq pc 870 then some (.iload 4, 0, 0) else none) else (bif Nat.beq pc 872 then some (.iconst 1, 0, 0) else none)))))) else (bif Nat.blt pc 890 then (bif Nat.blt pc 881 then (bif Nat.blt pc 876 then (bif Nat.blt pc 874 then (bif Nat.beq pc 873 then some (.iadd, 0, 0) else none) else (bif Nat.blt pc 875 then (bif Nat.beq pc 874 then some (.iaload, 0, 0) else none) else (bif Nat.beq pc 875 then some (.aload_n 0, 0, 0) else none))) else (bif Nat.blt pc 879 then (bif Nat.blt pc 878 then (bif Nat.beq pc 876 then some (.iload 4, 0, 0) else none) else (bif Nat.beq pc 878 then some (.iconst 2, 0, 0) else none)) else (bif Nat.blt pc 880 then (bif Nat.beq pc 879 then some (.iadd, 0, 0) else none) else (bif Nat.beq pc 880 then some (.iaload, 0, 0) else none)))) else (bif Nat.blt pc 885 then (bif Nat.blt pc 882 then (bif Nat.beq pc 881 then some (.i2l, 0, 0) else none) else (bif Nat.blt pc 884 then (bif Nat.beq pc 882 then some (.bipush 32, 0, 0) else none) else (bif Nat.beq pc 884 then some (.lshl, 0, 0) else none))) else (bif Nat.blt pc 888 then (bif Nat.blt pc 886 then (bif Nat.beq pc 885 then some (.aload_n 0, 0, 0) else none) else (bif Nat.beq pc 886 then some (.iload 4, 0, 0) else none)) else (bif Nat.blt pc 889 then (bif Nat.beq pc 888 then some (.iconst 3, 0, 0) else none) else (bif Nat.beq pc 889 then some (.iadd, 0, 0) else none))))) else (bif Nat.blt pc 902 then (bif Nat.blt pc 895 then (bif Nat.blt pc 891 then (bif Nat.beq pc 890 then some (.iaload, 0, 0) else none) else (bif Nat.blt pc 892 then (bif Nat.beq pc 891 then some (.i2l, 0, 0) else none) else (bif Nat.beq pc 892 then some (.ldc2_w 91, 0, 4294967295) else none))) else (bif Nat.blt pc 897 then (bif Nat.blt pc 896 then (bif Nat.beq pc 895 then some (.land, 0, 0) else none) else (bif Nat.beq pc 896 then some (.lor, 0, 0) else none)) else (bif Nat.blt pc 900 then (bif Nat.beq pc 897 then some (.invokevirtual 130, 78, 0) else none) else (bif Nat.beq pc 900 then some (.lstore 6, 0, 0) else none)))) else (bif Nat.blt pc 908 then (bif Nat.blt pc 903 then (bif Nat.beq pc 902 then some (.aload_n 2, 0, 0) else none) else (bif Nat.blt pc 906 then (bif Nat.beq pc 903 then some (.invokevirtual 97, 83, 0) else none) else (bif Nat.beq pc 906 then some (.iload 5, 0, 0) else none))) else (bif Nat.blt pc 915 then (bif Nat.blt pc 913 then (bif Nat.beq pc 908 then some (.if_icmp .eq 5, 0, 0) else none) else (bif Nat.beq pc 913 then some (.iload 5, 0, 0) else none)) else (bif Nat.blt pc 918 then (bif Nat.beq pc 915 then some (.ifCond .ne 14, 0, 0) else none) else (bif Nat.beq pc 918 then some (.aload_n 3, 0, 0) else none))))))) else (bif Nat.blt pc 968 then (bif Nat.blt pc 940 then (bif Nat.blt pc 932 then (bif Nat.blt pc 923 then (bif Nat.blt pc 920 then (bif Nat.beq pc 919 then some (.iconst 0, 0, 0) else none) else (bif Nat.blt pc 921 then (bif Nat.beq pc 920 then some (.laload, 0, 0) else none) else (bif Nat.beq pc 921 then some (.lload 6, 0, 0) else none))) else (bif Nat.blt pc 924 then (bif Nat.beq pc 923 then some (.lcmp, 0, 0) else none) else (bif Nat.blt pc 929 then (bif Nat.beq pc 924 then some (.ifCond .eq 5, 0, 0) else none) else (bif Nat.beq pc 929 then some (.goto 687, 0, 0) else none)))) else (bif Nat.blt pc 936 then (bif Nat.blt pc 933 then (bif Nat.beq pc 932 then some (.aload_n 1, 0, 0) else none) else (bif Nat.blt pc 934 then (bif Nat.beq pc 933 then some (.aload_n 0, 0, 0) else none) else (bif Nat.beq pc 934 then some (.iload 4, 0, 0) else none))) else (bif Nat.blt pc 938 then (bif Nat.blt pc 937 then (bif Nat.beq pc 936 then some (.iconst 1, 0, 0) else none) else (bif Nat.beq pc 937 then some (.iadd, 0, 0) else none)) else (bif Nat.blt pc 939 then (bif Nat.beq pc 938 then some (.iaload, 0, 0) else none) else (bif Nat.beq pc 939 then some (.aload_n 3, 0, 0) else none))))) else (bif Nat.blt pc 951 then (bif Nat.blt pc 946 then (bif Nat.blt pc 943 then (bif Nat.beq pc 940 then some (.invokestatic 131, 7, 0) else none) else (bif Nat.blt pc 945 then (bif Nat.beq pc 943 then some (.istore 5, 0, 0) else none) else (bif Nat.beq pc 945 then some (.aload_n 2, 0, 0) else none))) else (bif Nat.blt pc 949 then (bif Nat.blt pc 947 then (bif Nat.beq pc 946 then some (.aload_n 0, 0, 0) else none) else (bif Nat.beq pc 947 then some (.iload 4, 0, 0) else none)) else (bif Nat.blt pc 950 then (bif Nat.beq pc 949 then some (.iconst 1, 0, 0) else none) else (bif Nat.beq pc 950 then some (.iadd, 0, 0) else none)))) else (bif Nat.blt pc 957 then (bif Nat.blt pc 952 then (bif Nat.beq pc 951 then some (.iaload, 0, 0) else none) else (bif Nat.blt pc 955 then (bif Nat.beq pc 952 then some (.invokevirtual 133, 54, 0) else none) else (bif Nat.beq pc 955 then some (.lstore 6, 0, 0) else none))) else (bif Nat.blt pc 961 then (bif Nat.blt pc 958 then (bif Nat.beq pc 957 then some (.aload_n 2, 0, 0) else none) else (bif Nat.beq pc 958 then some (.invokevirtual 97, 83, 0) else none)) else (bif Nat.blt pc 963 then (bif Nat.beq pc 961 then some (.iload 5, 0, 0) else none) else (bif Nat.beq pc 963 then some (.if_icmp .eq 5, 0, 0) else none)))))) else (bif Nat.blt pc 993 then (bif Nat.blt pc 979 then (bif Nat.blt pc 974 then (bif Nat.blt pc 970 then (bif Nat.beq pc 968 then some (.iload 5, 0, 0) else none) else (bif Nat.blt pc 973 then (bif Nat.beq pc 970 then some (.ifCond .ne 14, 0, 0) else none) else (bif Nat.beq pc 973 then some (.aload_n 3, 0, 0) else none))) else (bif Nat.blt pc 976 then (bif Nat.blt pc 975 then (bif Nat.beq pc 974 then some (.iconst 0, 0, 0) else none) else (bif Nat.beq pc 975 then some (.laload, 0, 0) else none)) else (bif Nat.blt pc 978 then (bif Nat.beq pc 976 then some (.lload 6, 0, 0) else none) else (bif Nat.beq pc 978 then some (.lcmp, 0, 0) else none)))) else (bif Nat.blt pc 988 then (bif Nat.blt pc 984 then (bif Nat.beq pc 979 then some (.ifCond .eq 5, 0, 0) else none) else (bif Nat.blt pc 987 then (bif Nat.beq pc 984 then some (.goto 632, 0, 0) else none) else (bif Nat.beq pc 987 then some (.aload_n 1, 0, 0) else none))) else (bif Nat.blt pc 991 then (bif Nat.blt pc 989 then (bif Nat.beq pc 988 then some (.aload_n 0, 0, 0) else none) else (bif Nat.beq pc 989 then some (.iload 4, 0, 0) else none)) else (bif Nat.blt pc 992 then (bif Nat.beq pc 991 then some (.iconst 1, 0, 0) else none) else (bif Nat.beq pc 992 then some (.iadd, 0, 0) else none))))) else (bif Nat.blt pc 1004 then (bif Nat.blt pc 998 then (bif Nat.blt pc 994 then (bif Nat.beq pc 993 then some (.iaload, 0, 0) else none) else (bif Nat.blt pc 995 then (bif Nat.beq pc 994 then some (.aload_n 3, 0, 0) else none) else (bif Nat.beq pc 995 then some (.invokestatic 134, 21, 0) else none))) else (bif Nat.blt pc 1001 then (bif Nat.blt pc 1000 then (bif Nat.beq pc 998 then some (.istore 5, 0, 0) else none) else (bif Nat.beq pc 1000 then some (.aload_n 2, 0, 0) else none)) else (bif Nat.blt pc 1002 then (bif Nat.beq pc 1001 then some (.aload_n 0, 0, 0) else none) else (bif Nat.beq pc 1002 then some (.iload 4, 0, 0) else none)))) else (bif Nat.blt pc 1007 then (bif Nat.blt pc 1005 then (bif Nat.beq pc 1004 then some (.iconst 1, 0, 0) else none) else (bif Nat.blt pc 1006 then (bif Nat.beq pc 1005 then some (.iadd, 0, 0) else none) else (bif Nat.beq pc 1006 then some (.iaload, 0, 0) else none))) else (bif Nat.blt pc 1012 then (bif Nat.blt pc 1010 then (bif Nat.beq pc 1007 then some (.invokevirtual 136, 80, 0) else none) else (bif Nat.beq pc 1010 then some (.istore 6, 0, 0) else none)) else (bif Nat.blt pc 1013 then (bif Nat.beq pc 1012 then some (.aload_n 2, 0, 0) else none) else (bif Nat.beq pc 1013 then some (.invokevirtual 97, 83, 0) else none)))))))) else (bif Nat.blt pc 1132 then (bif Nat.blt pc 1072 then (bif Nat.blt pc 1053 then (bif Nat.blt pc 1044 then (bif Nat.blt pc 1025 then (bif Nat.blt pc 1018 then (bif Nat.beq pc 1016 then some (.iload 5, 0, 0) else none) else (bif Nat.blt pc 1023 then (bif Nat.beq pc 1018 then some (.if_icmp .eq 5, 0, 0) else none) else (bif Nat.beq pc 1023 then some (.iload 5, 0, 0) else none))) else (bif Nat.blt pc 1040 then (bif Nat.beq pc 1025 then some (.ifCond .ne 15, 0, 0) else none) else (bif Nat.blt pc 1043 then (bif Nat.beq pc 1040 then some (.goto 576, 0, 0) else none) else (bif Nat.beq pc 1043 then some (.aload_n 1, 0, 0) else none)))) else (bif Nat.blt pc 1048 then (bif Nat.blt pc 1045 then (bif Nat.beq pc 1044 then some (.aload_n 0, 0, 0) else none) else (bif Nat.blt pc 1047 then (bif Nat.beq pc 1045 then some (.iload 4, 0, 0) else none) else (bif Nat.beq pc 1047 then some (.iconst 1, 0, 0) else none))) else (bif Nat.blt pc 1050 then (bif Nat.blt pc 1049 then (bif Nat.beq pc 1048 then some (.iadd, 0, 0) else none) else (bif Nat.beq pc 1049 then some (.iaload, 0, 0) else none)) else (bif Nat.blt pc 1051 then (bif Nat.beq pc 1050 then some (.aload_n 0, 0, 0) else none) else (bif Nat.beq pc 1051 then some (.iload 4, 0, 0) else none))))) else (bif Nat.blt pc 1063 then (bif Nat.blt pc 1056 then (bif Nat.blt pc 1054 then (bif Nat.beq pc 1053 then some (.iconst 2, 0, 0) else none) else (bif Nat.blt pc 1055 then (bif Nat.beq pc 1054 then some (.iadd, 0, 0) else none) else (bif Nat.beq pc 1055 then some (.iaload, 0, 0) else none))) else (bif Nat.blt pc 1060 then (bif Nat.blt pc 1057 then (bif Nat.beq pc 1056 then some (.aload_n 3, 0, 0) else none) else (bif Nat.beq pc 1057 then some (.invokestatic 137, 23, 0) else none)) else (bif Nat.blt pc 1062 then (bif Nat.beq pc 1060 then some (.istore 5, 0, 0) else none) else (bif Nat.beq pc 1062 then some (.aload_n 2, 0, 0) else none)))) else (bif Nat.blt pc 1067 then (bif Nat.blt pc 1064 then (bif Nat.beq pc 1063 then some (.aload_n 0, 0, 0) else none) else (bif Nat.blt pc 1066 then (bif Nat.beq pc 1064 then some (.iload 4, 0, 0) else none) else (bif Nat.beq pc 1066 then some (.iconst 1, 0, 0) else none))) else (bif Nat.blt pc 1069 then (bif Nat.blt pc 1068 then (bif Nat.beq pc 1067 then some (.iadd, 0, 0) else none) else (bif Nat.beq pc 1068 then some (.iaload, 0, 0) else none)) else (bif Nat.blt pc 1070 then (bif Nat.beq pc 1069 then some (.aload_n 0, 0, 0) else none) else (bif Nat.beq pc 1070 then some (.iload 4, 0, 0) else none)))))) else (bif Nat.blt pc 1113 then (bif Nat.blt pc 1084 then (bif Nat.blt pc 1075 then (bif Nat.blt pc 1073 then (bif Nat.beq pc 1072 then some (.iconst 2, 0, 0) else none) else (bif Nat.blt pc 1074 then (bif Nat.beq pc 1073 then some (.iadd, 0, 0) else none) else (bif Nat.beq pc 1074 then some (.iaload, 0, 0) else none))) else (bif Nat.blt pc 1080 then (bif Nat.blt pc 1078 then (bif Nat.beq pc 1075 then some (.invokevirtual 139, 82, 0) else none) else (bif Nat.beq pc 1078 then some (.istore 6, 0, 0) else none)) else (bif Nat.blt pc 1081 then (bif Nat.beq pc 1080 then some (.aload_n 2, 0, 0) else none) else (bif Nat.beq pc 1081 then some (.invokevirtual 97, 83, 0) else none)))) else (bif Nat.blt pc 1093 then (bif Nat.blt pc 1086 then (bif Nat.beq pc 1084 then some (.iload 5, 0, 0) else none) else (bif Nat.blt pc 1091 then (bif Nat.beq pc 1086 then some (.if_icmp .eq 5, 0, 0) else none) else (bif Nat.beq pc 1091 then some (.iload 5, 0, 0) else none))) else (bif Nat.blt pc 1111 then (bif Nat.blt pc 1108 then (bif Nat.beq pc 1093 then some (.ifCond .ne 15, 0, 0) else none) else (bif Nat.beq pc 1108 then some (.goto 508, 0, 0) else none)) else (bif Nat.blt pc 1112 then (bif Nat.beq pc 1111 then some (.aload_n 1, 0, 0) else none) else (bif Nat.beq pc 1112 then some (.aload_n 0, 0, 0) else none))))) else (bif Nat.blt pc 1122 then (bif Nat.blt pc 1117 then (bif Nat.blt pc 1115 then (bif Nat.beq pc 1113 then some (.iload 4, 0, 0) else none) else (bif Nat.blt pc 1116 then (bif Nat.beq pc 1115 then some (.iconst 1, 0, 0) else none) else (bif Nat.beq pc 1116 then some (.iadd, 0, 0) else none))) else (bif Nat.blt pc 1119 then (bif Nat.blt pc 1118 then (bif Nat.beq pc 1117 then some (.iaload, 0, 0) else none) else (bif Nat.beq pc 1118 then some (.aload_n 0, 0, 0) else none)) else (bif Nat.blt pc 1121 then (bif Nat.beq pc 1119 then some (.iload 4, 0, 0) else none) else (bif Nat.beq pc 1121 then some (.iconst 2, 0, 0) else none)))) else (bif Nat.blt pc 1125 then (bif Nat.blt pc 1123 then (bif Nat.beq pc 1122 then some (.iadd, 0, 0) else none) else (bif Nat.blt pc 1124 then (bif Nat.beq pc 1123 then some (.iaload, 0, 0) else none) else (bif Nat.beq pc 1124 then some (.aload_n 3, 0, 0) else none))) else (bif Nat.blt pc 1130 then (bif Nat.blt pc 1128 then (bif Nat.beq pc 1125 then some (.invokestatic 140, 16, 0) else none) else (bif Nat.beq pc 1128 then some (.istore 5, 0, 0) else none)) else (bif Nat.blt pc 1131 then (bif Nat.beq pc 1130 then some (.aload_n 2, 0, 0) else none) else (bif Nat.beq pc 1131 then some (.aload_n 0, 0, 0) else none))))))) else (bif Nat.blt pc 1189 then (bif Nat.blt pc 1152 then (bif Nat.blt pc 1140 then (bif Nat.blt pc 1136 then (bif Nat.blt pc 1134 then (bif Nat.beq pc 1132 then some (.iload 4, 0, 0) else none) else (bif Nat.blt pc 1135 then (bif Nat.beq pc 1134 then some (.iconst 1, 0, 0) else none) else (bif Nat.beq pc 1135 then some (.iadd, 0, 0) else none))) else (bif Nat.blt pc 1137 then (bif Nat.beq pc 1136 then some (.iaload, 0, 0) else none) else (bif Nat.blt pc 1138 then (bif Nat.beq pc 1137 then some (.aload_n 0, 0, 0) else none) else (bif Nat.beq pc 1138 then some (.iload 4, 0, 0) else none)))) else (bif Nat.blt pc 1143 then (bif Nat.blt pc 1141 then (bif Nat.beq pc 1140 then some (.iconst 2, 0, 0) else none) else (bif Nat.blt pc 1142 then (bif Nat.beq pc 1141 then some (.iadd, 0, 0) else none) else (bif Nat.beq pc 1142 then some (.iaload, 0, 0) else none))) else (bif Nat.blt pc 1148 then (bif Nat.blt pc 1146 then (bif Nat.beq pc 1143 then some (.invokevirtual 142, 73, 0) else none) else (bif Nat.beq pc 1146 then some (.lstore 6, 0, 0) else none)) else (bif Nat.blt pc 1149 then (bif Nat.beq pc 1148 then some (.aload_n 2, 0, 0) else none) else (bif Nat.beq pc 1149 then some (.invokevirtual 97, 83, 0) else none))))) else (bif Nat.blt pc 1180 then (bif Nat.blt pc 1161 then (bif Nat.blt pc 1154 then (bif Nat.beq pc 1152 then some (.iload 5, 0, 0) else none) else (bif Nat.blt pc 1159 then (bif Nat.beq pc 1154 then some (.if_icmp .eq 5, 0, 0) else none) else (bif Nat.beq pc 1159 then some (.iload 5, 0, 0) else none))) else (bif Nat.blt pc 1178 then (bif Nat.blt pc 1175 then (bif Nat.beq pc 1161 then some (.ifCond .ne 14, 0, 0) else none) else (bif Nat.beq pc 1175 then some (.goto 441, 0, 0) else none)) else (bif Nat.blt pc 1179 then (bif Nat.beq pc 1178 then some (.aload_n 1, 0, 0) else none) else (bif Nat.beq pc 1179 then some (.aload_n 0, 0, 0) else none)))) else (bif Nat.blt pc 1184 then (bif Nat.blt pc 1182 then (bif Nat.beq pc 1180 then some (.iload 4, 0, 0) else none) else (bif Nat.blt pc 1183 then (bif Nat.beq pc 1182 then some (.iconst 1, 0, 0) else none) else (bif Nat.beq pc 1183 then some (.iadd, 0, 0) else none))) else (bif Nat.blt pc 1186 then (bif Nat.blt pc 1185 then (bif Nat.beq pc 1184 then some (.iaload, 0, 0) else none) else (bif Nat.beq pc 1185 then some (.aload_n 0, 0, 0) else none)) else (bif Nat.blt pc 1188 then (bif Nat.beq pc 1186 then some (.iload 4, 0, 0) else none) else (bif Nat.beq pc 1188 then some (.iconst 2, 0, 0) else none)))))) else (bif Nat.blt pc 1208 then (bif Nat.blt pc 1199 then (bif Nat.blt pc 1192 then (bif Nat.blt pc 1190 then (bif Nat.beq pc 1189 then some (.iadd, 0, 0) else none) else (bif Nat.blt pc 1191 then (bif Nat.beq pc 1190 then some (.iaload, 0, 0) else none) else (bif Nat.beq pc 1191 then some (.aload_n 3, 0, 0) else none))) else (bif Nat.blt pc 1197 then (bif Nat.blt pc 1195 then (bif Nat.beq pc 1192 then some (.invokestatic 143, 13, 0) else none) else (bif Nat.beq pc 1195 then some (.istore 5, 0, 0) else none)) else (bif Nat.blt pc 1198 then (bif Nat.beq pc 1197 then some (.aload_n 2, 0, 0) else none) else (bif Nat.beq pc 1198 then some (.aload_n 0, 0, 0) else none)))) else (bif Nat.blt pc 1203 then (bif Nat.blt pc 1201 then (bif Nat.beq pc 1199 then some (.iload 4, 0, 0) else none) else (bif Nat.blt pc 1202 then (bif Nat.beq pc 1201 then some (.iconst 1, 0, 0) else none) else (bif Nat.beq pc 1202 then some (.iadd, 0, 0) else none))) else (bif Nat.blt pc 1205 then (bif Nat.blt pc 1204 then (bif Nat.beq pc 1203 then some (.iaload, 0, 0) else none) else (bif Nat.beq pc 1204 then some (.aload_n 0, 0, 0) else none)) else (bif Nat.blt pc 1207 then (bif Nat.beq pc 1205 then some (.iload 4, 0, 0) else none) else (bif Nat.beq pc 1207 then some (.iconst 2, 0, 0) else none))))) else (bif Nat.blt pc 1221 then (bif Nat.blt pc 1213 then (bif Nat.blt pc 1209 then (bif Nat.beq pc 1208 then some (.iadd, 0, 0) else none) else (bif Nat.blt pc 1210 then (bif Nat.beq pc 1209 then some (.iaload, 0, 0) else none) else (bif Nat.beq pc 1210 then some (.invokevirtual 145, 67, 0) else none))) else (bif Nat.blt pc 1216 then (bif Nat.blt pc 1215 then (bif Nat.beq pc 1213 then some (.istore 6, 0, 0) else none) else (bif Nat.beq pc 1215 then some (.aload_n 2, 0, 0) else none)) else (bif Nat.blt pc 1219 then (bif Nat.beq pc 1216 then some (.invokevirtual 97, 83, 0) else none) else (bif Nat.beq pc 1219 then some (.iload 5, 0, 0) else none)))) else (bif Nat.blt pc 1231 then (bif Nat.blt pc 1226 then (bif Nat.beq pc 1221 then some (.if_icmp .eq 5, 0, 0) else none) else (bif Nat.blt pc 1228 then (bif Nat.beq pc 1226 then some (.iload 5, 0, 0) else none) else (bif Nat.beq pc 1228 then some (.ifCond .ne 15, 0, 0) else none))) else (bif Nat.blt pc 1233 then (bif Nat.blt pc 1232 then (bif Nat.beq pc 1231 then some (.aload_n 3, 0, 0) else none) else (bif Nat.beq pc 1232 then some (.iconst 0, 0, 0) else none)) else (bif Nat.blt pc 1234 then (bif Nat.beq pc 1233 then some (.laload, 0, 0) else none) else (bif Nat.beq pc 1234 then some (.iload 6, 0, 0) else none))))))))) else (bif Nat.blt pc 1413 then (bif Nat.blt pc 1326 then (bif Nat.blt pc 1276 then (bif Nat.blt pc 1257 then (bif Nat.blt pc 1248 then (bif Nat.blt pc 1243 then (bif Nat.blt pc 1237 then (bif Nat.beq pc 1236 then some (.i2l, 0, 0) else none) else (bif Nat.blt pc 1238 then (bif Nat.beq pc 1237 then some (.lcmp, 0, 0) else none) else (bif Nat.beq pc 1238 then some (.ifCond .eq 5, 0, 0) else none))) else (bif Nat.blt pc 1246 then (bif Nat.beq pc 1243 then some (.goto 373, 0, 0) else none) else (bif Nat.blt pc 1247 then (bif Nat.beq pc 1246 then some (.aload_n 1, 0, 0) else none) else (bif Nat.beq pc 1247 then some (.aload_n 0, 0, 0) else none)))) else (bif Nat.blt pc 1252 then (bif Nat.blt pc 1250 then (bif Nat.beq pc 1248 then some (.iload 4, 0, 0) else none) else (bif Nat.blt pc 1251 then (bif Nat.beq pc 1250 then some (.iconst 1, 0, 0) else none) else (bif Nat.beq pc 1251 then some (.iadd, 0, 0) else none))) else (bif Nat.blt pc 1254 then (bif Nat.blt pc 1253 then (bif Nat.beq pc 1252 then some (.iaload, 0, 0) else none) else (bif Nat.beq pc 1253 then some (.aload_n 0, 0, 0) else none)) else (bif Nat.blt pc 1256 then (bif Nat.beq pc 1254 then some (.iload 4, 0, 0) else none) else (bif Nat.beq pc 1256 then some (.iconst 2, 0, 0) else none))))) else (bif Nat.blt pc 1267 then (bif Nat.blt pc 1260 then (bif Nat.blt pc 1258 then (bif Nat.beq pc 1257 then some (.iadd, 0, 0) else none) else (bif Nat.blt pc 1259 then (bif Nat.beq pc 1258 then some (.iaload, 0, 0) else none) else (bif Nat.beq pc 1259 then some (.aload_n 3, 0, 0) else none))) else (bif Nat.blt pc 1265 then (bif Nat.blt pc 1263 then (bif Nat.beq pc 1260 then some (.invokestatic 146, 12, 0) else none) else (bif Nat.beq pc 1263 then some (.istore 5, 0, 0) else none)) else (bif Nat.blt pc 1266 then (bif Nat.beq pc 1265 then some (.aload_n 2, 0, 0) else none) else (bif Nat.beq pc 1266 then some (.aload_n 0, 0, 0) else none)))) else (bif Nat.blt pc 1271 then (bif Nat.blt pc 1269 then (bif Nat.beq pc 1267 then some (.iload 4, 0, 0) else none) else (bif Nat.blt pc 1270 then (bif Nat.beq pc 1269 then some (.iconst 1, 0, 0) else none) else (bif Nat.beq pc 1270 then some (.iadd, 0, 0) else none))) else (bif Nat.blt pc 1273 then (bif Nat.blt pc 1272 then (bif Nat.beq pc 1271 then some (.iaload, 0, 0) else none) else (bif Nat.beq pc 1272 then some (.aload_n 0, 0, 0) else none)) else (bif Nat.blt pc 1275 then (bif Nat.beq pc 1273 then some (.iload 4, 0, 0) else none) else (bif Nat.beq pc 1275 then some (.iconst 2, 0, 0) else none)))))) else (bif Nat.blt pc 1304 then (bif Nat.blt pc 1289 then (bif Nat.blt pc 1281 then (bif Nat.blt pc 1277 then (bif Nat.beq pc 1276 then some (.iadd, 0, 0) else none) else (bif Nat.blt pc 1278 then (bif Nat.beq pc 1277 then some (.iaload, 0, 0) else none) else (bif Nat.beq pc 1278 then some (.invokevirtual 148, 64, 0) else none))) else (bif Nat.blt pc 1284 then (bif Nat.blt pc 1283 then (bif Nat.beq pc 1281 then some (.istore 6, 0, 0) else none) else (bif Nat.beq pc 1283 then some (.aload_n 2, 0, 0) else none)) else (bif Nat.blt pc 1287 then (bif Nat.beq pc 1284 then some (.invokevirtual 97, 83, 0) else none) else (bif Nat.beq pc 1287 then some (.iload 5, 0, 0) else none)))) else (bif Nat.blt pc 1299 then (bif Nat.blt pc 1294 then (bif Nat.beq pc 1289 then some (.if_icmp .eq 5, 0, 0) else none) else (bif Nat.blt pc 1296 then (bif Nat.beq pc 1294 then some (.iload 5, 0, 0) else none) else (bif Nat.beq pc 1296 then some (.ifCond .ne 15, 0, 0) else none))) else (bif Nat.blt pc 1301 then (bif Nat.blt pc 1300 then (bif Nat.beq pc 1299 then some (.aload_n 3, 0, 0) else none) else (bif Nat.beq pc 1300 then some (.iconst 0, 0, 0) else none)) else (bif Nat.blt pc 1302 then (bif Nat.beq pc 1301 then some (.laload, 0, 0) else none) else (bif Nat.beq pc 1302 then some (.iload 6, 0, 0) else none))))) else (bif Nat.blt pc 1318 then (bif Nat.blt pc 1311 then (bif Nat.blt pc 1305 then (bif Nat.beq pc 1304 then some (.i2l, 0, 0) else none) else (bif Nat.blt pc 1306 then (bif Nat.beq pc 1305 then some (.lcmp, 0, 0) else none) else (bif Nat.beq pc 1306 then some (.ifCond .eq 5, 0, 0) else none))) else (bif Nat.blt pc 1315 then (bif Nat.blt pc 1314 then (bif Nat.beq pc 1311 then some (.goto 305, 0, 0) else none) else (bif Nat.beq pc 1314 then some (.aload_n 1, 0, 0) else none)) else (bif Nat.blt pc 1316 then (bif Nat.beq pc 1315 then some (.aload_n 0, 0, 0) else none) else (bif Nat.beq pc 1316 then some (.iload 4, 0, 0) else none)))) else (bif Nat.blt pc 1321 then (bif Nat.blt pc 1319 then (bif Nat.beq pc 1318 then some (.iconst 1, 0, 0) else none) else (bif Nat.blt pc 1320 then (bif Nat.beq pc 1319 then some (.iadd, 0, 0) else none) else (bif Nat.beq pc 1320 then some (.iaload, 0, 0) else none))) else (bif Nat.blt pc 1324 then (bif Nat.blt pc 1322 then (bif Nat.beq pc 1321 then some (.aload_n 0, 0, 0) else none) else (bif Nat.beq pc 1322 then some (.iload 4, 0, 0) else none)) else (bif Nat.blt pc 1325 then (bif Nat.beq pc 1324 then some (.iconst 2, 0, 0) else none) else (bif Nat.beq pc 1325 then some (.iadd, 0, 0) else none))))))) else (bif Nat.blt pc 1372 then (bif Nat.blt pc 1344 then (bif Nat.blt pc 1335 then (bif Nat.blt pc 1331 then (bif Nat.blt pc 1327 then (bif Nat.beq pc 1326 then some (.iaload, 0, 0) else none) else (bif Nat.blt pc 1328 then (bif Nat.beq pc 1327 then some (.aload_n 3, 0, 0) else none) else (bif Nat.beq pc 1328 then some (.invokestatic 149, 19, 0) else none))) else (bif Nat.blt pc 1333 then (bif Nat.beq pc 1331 then some (.istore 5, 0, 0) else none) else (bif Nat.blt pc 1334 then (bif Nat.beq pc 1333 then some (.aload_n 2, 0, 0) else none) else (bif Nat.beq pc 1334 then some (.aload_n 0, 0, 0) else none)))) else (bif Nat.blt pc 1339 then (bif Nat.blt pc 1337 then (bif Nat.beq pc 1335 then some (.iload 4, 0, 0) else none) else (bif Nat.blt pc 1338 then (bif Nat.beq pc 1337 then some (.iconst 1, 0, 0) else none) else (bif Nat.beq pc 1338 then some (.iadd, 0, 0) else none))) else (bif Nat.blt pc 1341 then (bif Nat.blt pc 1340 then (bif Nat.beq pc 1339 then some (.iaload, 0, 0) else none) else (bif Nat.beq pc 1340 then some (.aload_n 0, 0, 0) else none)) else (bif Nat.blt pc 1343 then (bif Nat.beq pc 1341 then some (.iload 4, 0, 0) else none) else (bif Nat.beq pc 1343 then some (.iconst 2, 0, 0) else none))))) else (bif Nat.blt pc 1357 then (bif Nat.blt pc 1349 then (bif Nat.blt pc 1345 then (bif Nat.beq pc 1344 then some (.iadd, 0, 0) else none) else (bif Nat.blt pc 1346 then (bif Nat.beq pc 1345 then some (.iaload, 0, 0) else none) else (bif Nat.beq pc 1346 then some (.invokevirtual 151, 76, 0) else none))) else (bif Nat.blt pc 1352 then (bif Nat.blt pc 1351 then (bif Nat.beq pc 1349 then some (.istore 6, 0, 0) else none) else (bif Nat.beq pc 1351 then some (.aload_n 2, 0, 0) else none)) else (bif Nat.blt pc 1355 then (bif Nat.beq pc 1352 then some (.invokevirtual 97, 83, 0) else none) else (bif Nat.beq pc 1355 then some (.iload 5, 0, 0) else none)))) else (bif Nat.blt pc 1367 then (bif Nat.blt pc 1362 then (bif Nat.beq pc 1357 then some (.if_icmp .eq 5, 0, 0) else none) else (bif Nat.blt pc 1364 then (bif Nat.beq pc 1362 then some (.iload 5, 0, 0) else none) else (bif Nat.beq pc 1364 then some (.ifCond .ne 15, 0, 0) else none))) else (bif Nat.blt pc 1369 then (bif Nat.blt pc 1368 then (bif Nat.beq pc 1367 then some (.aload_n 3, 0, 0) else none) else (bif Nat.beq pc 1368 then some (.iconst 0, 0, 0) else none)) else (bif Nat.blt pc 1370 then (bif Nat.beq pc 1369 then some (.laload, 0, 0) else none) else (bif Nat.beq pc 1370 then some (.iload 6, 0, 0) else none)))))) else (bif Nat.blt pc 1394 then (bif Nat.blt pc 1386 then (bif Nat.blt pc 1379 then (bif Nat.blt pc 1373 then (bif Nat.beq pc 1372 then some (.i2l, 0, 0) else none) else (bif Nat.blt pc 1374 then (bif Nat.beq pc 1373 then some (.lcmp, 0, 0) else none) else (bif Nat.beq pc 1374 then some (.ifCond .eq 5, 0, 0) else none))) else (bif Nat.blt pc 1383 then (bif Nat.blt pc 1382 then (bif Nat.beq pc 1379 then some (.goto 237, 0, 0) else none) else (bif Nat.beq pc 1382 then some (.aload_n 1, 0, 0) else none)) else (bif Nat.blt pc 1384 then (bif Nat.beq pc 1383 then some (.aload_n 0, 0, 0) else none) else (bif Nat.beq pc 1384 then some (.iload 4, 0, 0) else none)))) else (bif Nat.blt pc 1389 then (bif Nat.blt pc 1387 then (bif Nat.beq pc 1386 then some (.iconst 1, 0, 0) else none) else (bif Nat.blt pc 1388 then (bif Nat.beq pc 1387 then some (.iadd, 0, 0) else none) else (bif Nat.beq pc 1388 then some (.iaload, 0, 0) else none))) else (bif Nat.blt pc 1392 then (bif Nat.blt pc 1390 then (bif Nat.beq pc 1389 then some (.aload_n 0, 0, 0) else none) else (bif Nat.beq pc 1390 then some (.iload 4, 0, 0) else none)) else (bif Nat.blt pc 1393 then (bif Nat.beq pc 1392 then some (.iconst 2, 0, 0) else none) else (bif Nat.beq pc 1393 then some (.iadd, 0, 0) else none))))) else (bif Nat.blt pc 1405 then (bif Nat.blt pc 1399 then (bif Nat.blt pc 1395 then (bif Nat.beq pc 1394 then some (.iaload, 0, 0) else none) else (bif Nat.blt pc 1396 then (bif Nat.beq pc 1395 then some (.aload_n 3, 0, 0) else none) else (bif Nat.beq pc 1396 then some (.invokestatic 152, 4, 0) else none))) else (bif Nat.blt pc 1402 then (bif Nat.blt pc 1401 then (bif Nat.beq pc 1399 then some (.istore 5, 0, 0) else none) else (bif Nat.beq pc 1401 then some (.aload_n 2, 0, 0) else none)) else (bif Nat.blt pc 1403 then (bif Nat.beq pc 1402 then some (.aload_n 0, 0, 0) else none) else (bif Nat.beq pc 1403 then some (.iload 4, 0, 0) else none)))) else (bif Nat.blt pc 1408 then (bif Nat.blt pc 1406 then (bif Nat.beq pc 1405 then some (.iconst 1, 0, 0) else none) else (bif Nat.blt pc 1407 then (bif Nat.beq pc 1406 then some (.iadd, 0, 0) else none) else (bif Nat.beq pc 1407 then some (.iaload, 0, 0) else none))) else (bif Nat.blt pc 1411 then (bif Nat.blt pc 1409 then (bif Nat.beq pc 1408 then some (.aload_n 0, 0, 0) else none) else (bif Nat.beq pc 1409 then some (.iload 4, 0, 0) else none)) else (bif Nat.blt pc 1412 then (bif Nat.beq pc 1411 then some (.iconst 2, 0, 0) else none) else (bif Nat.beq pc 1412 then some (.iadd, 0, 0) else none)))))))) else (bif Nat.blt pc 1509 then (bif Nat.blt pc 1462 then (bif Nat.blt pc 1440 then (bif Nat.blt pc 1425 then (bif Nat.blt pc 1419 then (bif Nat.blt pc 1414 then (bif Nat.beq pc 1413 then some (.iaload, 0, 0) else none) else (bif Nat.blt pc 1417 then (bif Nat.beq pc 1414 then some (.invokevirtual 154, 52, 0) else none) else (bif Nat.beq pc 1417 then some (.istore 6, 0, 0) else none))) else (bif Nat.blt pc 1420 then (bif Nat.beq pc 1419 then some (.aload_n 2, 0, 0) else none) else (bif Nat.blt pc 1423 then (bif Nat.beq pc 1420 then some (.invokevirtual 97, 83, 0) else none) else (bif Nat.beq pc 1423 then some (.iload 5, 0, 0) else none)))) else (bif Nat.blt pc 1435 then (bif Nat.blt pc 1430 then (bif Nat.beq pc 1425 then some (.if_icmp .eq 5, 0, 0) else none) else (bif Nat.blt pc 1432 then (bif Nat.beq pc 1430 then some (.iload 5, 0, 0) else none) else (bif Nat.beq pc 1432 then some (.ifCond .ne 15, 0, 0) else none))) else (bif Nat.blt pc 1437 then (bif Nat.blt pc 1436 then (bif Nat.beq pc 1435 then some (.aload_n 3, 0, 0) else none) else (bif Nat.beq pc 1436 then some (.iconst 0, 0, 0) else none)) else (bif Nat.blt pc 1438 then (bif Nat.beq pc 1437 then some (.laload, 0, 0) else none) else (bif Nat.beq pc 1438 then some (.iload 6, 0, 0) else none))))) else (bif Nat.blt pc 1454 then (bif Nat.blt pc 1447 then (bif Nat.blt pc 1441 then (bif Nat.beq pc 1440 then some (.i2l, 0, 0) else none) else (bif Nat.blt pc 1442 then (bif Nat.beq pc 1441 then some (.lcmp, 0, 0) else none) else (bif Nat.beq pc 1442 then some (.ifCond .eq 5, 0, 0) else none))) else (bif Nat.blt pc 1451 then (bif Nat.blt pc 1450 then (bif Nat.beq pc 1447 then some (.goto 169, 0, 0) else none) else (bif Nat.beq pc 1450 then some (.aload_n 1, 0, 0) else none)) else (bif Nat.blt pc 1452 then (bif Nat.beq pc 1451 then some (.aload_n 0, 0, 0) else none) else (bif Nat.beq pc 1452 then some (.iload 4, 0, 0) else none)))) else (bif Nat.blt pc 1457 then (bif Nat.blt pc 1455 then (bif Nat.beq pc 1454 then some (.iconst 1, 0, 0) else none) else (bif Nat.blt pc 1456 then (bif Nat.beq pc 1455 then some (.iadd, 0, 0) else none) else (bif Nat.beq pc 1456 then some (.iaload, 0, 0) else none))) else (bif Nat.blt pc 1460 then (bif Nat.blt pc 1458 then (bif Nat.beq pc 1457 then some (.aload_n 0, 0, 0) else none) else (bif Nat.beq pc 1458 then some (.iload 4, 0, 0) else none)) else (bif Nat.blt pc 1461 then (bif Nat.beq pc 1460 then some (.iconst 2, 0, 0) else none) else (bif Nat.beq pc 1461 then some (.iadd, 0, 0) else none)))))) else (bif Nat.blt pc 1484 then (bif Nat.blt pc 1475 then (bif Nat.blt pc 1467 then (bif Nat.blt pc 1463 then (bif Nat.beq pc 1462 then some (.iaload, 0, 0) else none) else (bif Nat.blt pc 1466 then (bif Nat.beq pc 1463 then some (.ifCond .eq 7, 0, 0) else none) else (bif Nat.beq pc 1466 then some (.iconst 1, 0, 0) else none))) else (bif Nat.blt pc 1471 then (bif Nat.blt pc 1470 then (bif Nat.beq pc 1467 then some (.goto 4, 0, 0) else none) else (bif Nat.beq pc 1470 then some (.iconst 0, 0, 0) else none)) else (bif Nat.blt pc 1474 then (bif Nat.beq pc 1471 then some (.invokevirtual 155, 38, 0) else none) else (bif Nat.beq pc 1474 then some (.aload_n 2, 0, 0) else none)))) else (bif Nat.blt pc 1479 then (bif Nat.blt pc 1476 then (bif Nat.beq pc 1475 then some (.aload_n 0, 0, 0) else none) else (bif Nat.blt pc 1478 then (bif Nat.beq pc 1476 then some (.iload 4, 0, 0) else none) else (bif Nat.beq pc 1478 then some (.iconst 1, 0, 0) else none))) else (bif Nat.blt pc 1481 then (bif Nat.blt pc 1480 then (bif Nat.beq pc 1479 then some (.iadd, 0, 0) else none) else (bif Nat.beq pc 1480 then some (.iaload, 0, 0) else none)) else (bif Nat.blt pc 1482 then (bif Nat.beq pc 1481 then some (.aload_n 0, 0, 0) else none) else (bif Nat.beq pc 1482 then some (.iload 4, 0, 0) else none))))) else (bif Nat.blt pc 1495 then (bif Nat.blt pc 1487 then (bif Nat.blt pc 1485 then (bif Nat.beq pc 1484 then some (.iconst 2, 0, 0) else none) else (bif Nat.blt pc 1486 then (bif Nat.beq pc 1485 then some (.iadd, 0, 0) else none) else (bif Nat.beq pc 1486 then some (.iaload, 0, 0) else none))) else (bif Nat.blt pc 1491 then (bif Nat.blt pc 1490 then (bif Nat.beq pc 1487 then some (.ifCond .eq 7, 0, 0) else none) else (bif Nat.beq pc 1490 then some (.iconst 1, 0, 0) else none)) else (bif Nat.blt pc 1494 then (bif Nat.beq pc 1491 then some (.goto 4, 0, 0) else none) else (bif Nat.beq pc 1494 then some (.iconst 0, 0, 0) else none)))) else (bif Nat.blt pc 1504 then (bif Nat.blt pc 1498 then (bif Nat.beq pc 1495 then some (.invokevirtual 159, 69, 0) else none) else (bif Nat.blt pc 1499 then (bif Nat.beq pc 1498 then some (.lcmp, 0, 0) else none) else (bif Nat.beq pc 1499 then some (.ifCond .eq 117, 0, 0) else none))) else (bif Nat.blt pc 1506 then (bif Nat.blt pc 1505 then (bif Nat.beq pc 1504 then some (.aload_n 1, 0, 0) else none) else (bif Nat.beq pc 1505 then some (.aload_n 0, 0, 0) else none)) else (bif Nat.blt pc 1508 then (bif Nat.beq pc 1506 then some (.iload 4, 0, 0) else none) else (bif Nat.beq pc 1508 then some (.iconst 1, 0, 0) else none))))))) else (bif Nat.blt pc 1568 then (bif Nat.blt pc 1529 then (bif Nat.blt pc 1518 then (bif Nat.blt pc 1512 then (bif Nat.blt pc 1510 then (bif Nat.beq pc 1509 then some (.iadd, 0, 0) else none) else (bif Nat.blt pc 1511 then (bif Nat.beq pc 1510 then some (.iaload, 0, 0) else none) else (bif Nat.beq pc 1511 then some (.aload_n 3, 0, 0) else none))) else (bif Nat.blt pc 1515 then (bif Nat.beq pc 1512 then some (.invokestatic 160, 17, 0) else none) else (bif Nat.blt pc 1517 then (bif Nat.beq pc 1515 then some (.istore 5, 0, 0) else none) else (bif Nat.beq pc 1517 then some (.aload_n 2, 0, 0) else none)))) else (bif Nat.blt pc 1522 then (bif Nat.blt pc 1519 then (bif Nat.beq pc 1518 then some (.aload_n 0, 0, 0) else none) else (bif Nat.blt pc 1521 then (bif Nat.beq pc 1519 then some (.iload 4, 0, 0) else none) else (bif Nat.beq pc 1521 then some (.iconst 1, 0, 0) else none))) else (bif Nat.blt pc 1524 then (bif Nat.blt pc 1523 then (bif Nat.beq pc 1522 then some (.iadd, 0, 0) else none) else (bif Nat.beq pc 1523 then some (.iaload, 0, 0) else none)) else (bif Nat.blt pc 1527 then (bif Nat.beq pc 1524 then some (.invokevirtual 162, 74, 0) else none) else (bif Nat.beq pc 1527 then some (.istore 6, 0, 0) else none))))) else (bif Nat.blt pc 1560 then (bif Nat.blt pc 1535 then (bif Nat.blt pc 1530 then (bif Nat.beq pc 1529 then some (.aload_n 2, 0, 0) else none) else (bif Nat.blt pc 1533 then (bif Nat.beq pc 1530 then some (.invokevirtual 97, 83, 0) else none) else (bif Nat.beq pc 1533 then some (.iload 5, 0, 0) else none))) else (bif Nat.blt pc 1542 then (bif Nat.blt pc 1540 then (bif Nat.beq pc 1535 then some (.if_icmp .eq 5, 0, 0) else none) else (bif Nat.beq pc 1540 then some (.iload 5, 0, 0) else none)) else (bif Nat.blt pc 1557 then (bif Nat.beq pc 1542 then some (.ifCond .ne 15, 0, 0) else none) else (bif Nat.beq pc 1557 then some (.goto 59, 0, 0) else none)))) else (bif Nat.blt pc 1564 then (bif Nat.blt pc 1561 then (bif Nat.beq pc 1560 then some (.aload_n 1, 0, 0) else none) else (bif Nat.blt pc 1562 then (bif Nat.beq pc 1561 then some (.aload_n 0, 0, 0) else none) else (bif Nat.beq pc 1562 then some (.iload 4, 0, 0) else none))) else (bif Nat.blt pc 1566 then (bif Nat.blt pc 1565 then (bif Nat.beq pc 1564 then some (.iconst 1, 0, 0) else none) else (bif Nat.beq pc 1565 then some (.iadd, 0, 0) else none)) else (bif Nat.blt pc 1567 then (bif Nat.beq pc 1566 then some (.iaload, 0, 0) else none) else (bif Nat.beq pc 1567 then some (.aload_n 3, 0, 0) else none)))))) else (bif Nat.blt pc 1596 then (bif Nat.blt pc 1579 then (bif Nat.blt pc 1574 then (bif Nat.blt pc 1571 then (bif Nat.beq pc 1568 then some (.invokestatic 163, 8, 0) else none) else (bif Nat.blt pc 1573 then (bif Nat.beq pc 1571 then some (.istore 5, 0, 0) else none) else (bif Nat.beq pc 1573 then some (.aload_n 2, 0, 0) else none))) else (bif Nat.blt pc 1577 then (bif Nat.blt pc 1575 then (bif Nat.beq pc 1574 then some (.aload_n 0, 0, 0) else none) else (bif Nat.beq pc 1575 then some (.iload 4, 0, 0) else none)) else (bif Nat.blt pc 1578 then (bif Nat.beq pc 1577 then some (.iconst 1, 0, 0) else none) else (bif Nat.beq pc 1578 then some (.iadd, 0, 0) else none)))) else (bif Nat.blt pc 1585 then (bif Nat.blt pc 1580 then (bif Nat.beq pc 1579 then some (.iaload, 0, 0) else none) else (bif Nat.blt pc 1583 then (bif Nat.beq pc 1580 then some (.invokevirtual 165, 55, 0) else none) else (bif Nat.beq pc 1583 then some (.istore 6, 0, 0) else none))) else (bif Nat.blt pc 1589 then (bif Nat.blt pc 1586 then (bif Nat.beq pc 1585 then some (.aload_n 2, 0, 0) else none) else (bif Nat.beq pc 1586 then some (.invokevirtual 97, 83, 0) else none)) else (bif Nat.blt pc 1591 then (bif Nat.beq pc 1589 then some (.iload 5, 0, 0) else none) else (bif Nat.beq pc 1591 then some (.if_icmp .eq 5, 0, 0) else none))))) else (bif Nat.blt pc 1607 then (bif Nat.blt pc 1602 then (bif Nat.blt pc 1598 then (bif Nat.beq pc 1596 then some (.iload 5, 0, 0) else none) else (bif Nat.blt pc 1601 then (bif Nat.beq pc 1598 then some (.ifCond .ne 15, 0, 0) else none) else (bif Nat.beq pc 1601 then some (.aload_n 3, 0, 0) else none))) else (bif Nat.blt pc 1604 then (bif Nat.blt pc 1603 then (bif Nat.beq pc 1602 then some (.iconst 0, 0, 0) else none) else (bif Nat.beq pc 1603 then some (.laload, 0, 0) else none)) else (bif Nat.blt pc 1606 then (bif Nat.beq pc 1604 then some (.iload 6, 0, 0) else none) else (bif Nat.beq pc 1606 then some (.i2l, 0, 0) else none)))) else (bif Nat.blt pc 1616 then (bif Nat.blt pc 1608 then (bif Nat.beq pc 1607 then some (.lcmp, 0, 0) else none) else (bif Nat.blt pc 1613 then (bif Nat.beq pc 1608 then some (.ifCond .eq 5, 0, 0) else none) else (bif Nat.beq pc 1613 then some (.goto 3, 0, 0) else none))) else (bif Nat.blt pc 1622 then (bif Nat.blt pc 1619 then (bif Nat.beq pc 1616 then some (.iinc 4 7, 0, 0) else none) else (bif Nat.beq pc 1619 then some (.goto (-1586), 0, 0) else none)) else (bif Nat.blt pc 1623 then (bif Nat.beq pc 1622 then some (.iconst 1, 0, 0) else none) else (bif Nat.beq pc 1623 then some (.ireturn, 0, 0) else none))))))))))
def rz_c1 (pc : Nat) : Option rz_I := bif Nat.blt pc 5 then (bif Nat.blt pc 1 then (bif Nat.beq pc 0 then some (.iload_n 0, 0, 0) else none) else (bif Nat.blt pc 2 then (bif Nat.beq pc 1 then some (.iload_n 1, 0, 0) else none) else (bif Nat.beq pc 2 then some (.if_icmp .lt 7, 0, 0) else none))) else (bif Nat.blt pc 9 then (bif Nat.blt pc 6 then (bif Nat.beq pc 5 then some (.iload_n 0, 0, 0) else none) else (bif Nat.beq pc 6 then some (.goto 4, 0, 0) else none)) else (bif Nat.blt pc 10 then (bif Nat.beq pc 9 then some (.iload_n 1, 0, 0) else none) else (bif Nat.beq pc 10 then some (.ireturn, 0, 0) else none)))
def rz_c2 (pc : Nat) : Option rz_I := bif Nat.blt pc 5 then (bif Nat.blt pc 1 then (bif Nat.beq pc 0 then some (.iload_n 0, 0, 0) else none) else (bif Nat.blt pc 2 then (bif Nat.beq pc 1 then some (.iload_n 1, 0, 0) else none) else (bif Nat.beq pc 2 then some (.if_icmp .gt 7, 0, 0) else none))) else (bif Nat.blt pc 9 then (bif Nat.blt pc 6 then (bif Nat.beq pc 5 then some (.iload_n 0, 0, 0) else none) else (bif Nat.beq pc 6 then some (.goto 4, 0, 0) else none)) else (bif Nat.blt pc 10 then (bif Nat.beq pc 9 then some (.iload_n 1, 0, 0) else none) else (bif Nat.beq pc 10 then some (.ireturn, 0, 0) else none)))
def rz_c3 (pc : Nat) : Option rz_I := bif Nat.blt pc 3 then (bif Nat.blt pc 1 then (bif Nat.beq pc 0 then some (.lload_n 0, 0, 0) else none) else (bif Nat.blt pc 2 then (bif Nat.beq pc 1 then some (.lload_n 2, 0, 0) else none) else (bif Nat.beq pc 2 then some (.lcmp, 0, 0) else none))) else (bif Nat.blt pc 7 then (bif Nat.blt pc 6 then (bif Nat.beq pc 3 then some (.ifCond .gt 7, 0, 0) else none) else (bif Nat.beq pc 6 then some (.lload_n 0, 0, 0) else none)) else (bif Nat.blt pc 11 then (bif Nat.beq pc 7 then some (.goto 4, 0, 0) else none) else (bif Nat.beq pc 11 then some (.lreturn, 0, 0) else none)))
def rz_c4 (pc : Nat) : Option rz_I := bif Nat.blt pc 9 then (bif Nat.blt pc 3 then (bif Nat.blt pc 1 then (bif Nat.beq pc 0 then some (.aload_n 3, 0, 0) else none) else (bif Nat.blt pc 2 then (bif Nat.beq pc 1 then some (.iconst 0, 0, 0) else none) else (bif Nat.beq pc 2 then some (.aload_n 0, 0, 0) else none))) else (bif Nat.blt pc 5 then (bif Nat.blt pc 4 then (bif Nat.beq pc 3 then some (.iload_n 1, 0, 0) else none) else (bif Nat.beq pc 4 then some (.iload_n 2, 0, 0) else none)) else (bif Nat.blt pc 8 then (bif Nat.beq pc 5 then some (.invokevirtual 71, 26, 0) else none) else (bif Nat.beq pc 8 then some (.i2l, 0, 0) else none)))) else (bif Nat.blt pc 15 then (bif Nat.blt pc 10 then (bif Nat.beq pc 9 then some (.lastore, 0, 0) else none) else (bif Nat.blt pc 13 then (bif Nat.beq pc 10 then some (.goto 7, 0, 0) else none) else (bif Nat.beq pc 13 then some (.astore 4, 0, 0) else none))) else (bif Nat.blt pc 17 then (bif Nat.blt pc 16 then (bif Nat.beq pc 15 then some (.iconst 1, 0, 0) else none) else (bif Nat.beq pc 16 then some (.ireturn, 0, 0) else none)) else (bif Nat.blt pc 18 then (bif Nat.beq pc 17 then some (.iconst 0, 0, 0) else none) else (bif Nat.beq pc 18 then some (.ireturn, 0, 0) else none))))
def rz_c5 (pc : Nat) : Option rz_I := bif Nat.blt pc 10 then (bif Nat.blt pc 4 then (bif Nat.blt pc 2 then (bif Nat.beq pc 0 then some (.aload 4, 0, 0) else none) else (bif Nat.blt pc 3 then (bif Nat.beq pc 2 then some (.iconst 0, 0, 0) else none) else (bif Nat.beq pc 3 then some (.aload_n 0, 0, 0) else none))) else (bif Nat.blt pc 6 then (bif Nat.blt pc 5 then (bif Nat.beq pc 4 then some (.iload_n 1, 0, 0) else none) else (bif Nat.beq pc 5 then some (.lload_n 2, 0, 0) else none)) else (bif Nat.blt pc 9 then (bif Nat.beq pc 6 then some (.invokevirtual 21, 27, 0) else none) else (bif Nat.beq pc 9 then some (.i2l, 0, 0) else none)))) else (bif Nat.blt pc 16 then (bif Nat.blt pc 11 then (bif Nat.beq pc 10 then some (.lastore, 0, 0) else none) else (bif Nat.blt pc 14 then (bif Nat.beq pc 11 then some (.goto 11, 0, 0) else none) else (bif Nat.beq pc 14 then some (.astore 5, 0, 0) else none))) else (bif Nat.blt pc 22 then (bif Nat.blt pc 17 then (bif Nat.beq pc 16 then some (.iconst 1, 0, 0) else none) else (bif Nat.beq pc 17 then some (.ireturn, 0, 0) else none)) else (bif Nat.blt pc 23 then (bif Nat.beq pc 22 then some (.iconst 0, 0, 0) else none) else (bif Nat.beq pc 23 then some (.ireturn, 0, 0) else none))))
def rz_c6 (pc : Nat) : Option rz_I := bif Nat.blt pc 7 then (bif Nat.blt pc 2 then (bif Nat.blt pc 1 then (bif Nat.beq pc 0 then some (.iload_n 1, 0, 0) else none) else (bif Nat.beq pc 1 then some (.aload_n 0, 0, 0) else none)) else (bif Nat.blt pc 3 then (bif Nat.beq pc 2 then some (.arraylength, 0, 0) else none) else (bif Nat.blt pc 6 then (bif Nat.beq pc 3 then some (.if_icmp .ge 9, 0, 0) else none) else (bif Nat.beq pc 6 then some (.aload_n 0, 0, 0) else none)))) else (bif Nat.blt pc 9 then (bif Nat.blt pc 8 then (bif Nat.beq pc 7 then some (.iload_n 1, 0, 0) else none) else (bif Nat.beq pc 8 then some (.iaload, 0, 0) else none)) else (bif Nat.blt pc 12 then (bif Nat.beq pc 9 then some (.goto 4, 0, 0) else none) else (bif Nat.blt pc 13 then (bif Nat.beq pc 12 then some (.iconst 0, 0, 0) else none) else (bif Nat.beq pc 13 then some (.ireturn, 0, 0) else none))))
def rz_c7 (pc : Nat) : Option rz_I := bif Nat.blt pc 8 then (bif Nat.blt pc 3 then (bif Nat.blt pc 1 then (bif Nat.beq pc 0 then some (.aload_n 2, 0, 0) else none) else (bif Nat.blt pc 2 then (bif Nat.beq pc 1 then some (.iconst 0, 0, 0) else none) else (bif Nat.beq pc 2 then some (.aload_n 0, 0, 0) else none))) else (bif Nat.blt pc 4 then (bif Nat.beq pc 3 then some (.iload_n 1, 0, 0) else none) else (bif Nat.blt pc 7 then (bif Nat.beq pc 4 then some (.invokevirtual 49, 28, 0) else none) else (bif Nat.beq pc 7 then some (.lastore, 0, 0) else none)))) else (bif Nat.blt pc 13 then (bif Nat.blt pc 11 then (bif Nat.beq pc 8 then some (.goto 6, 0, 0) else none) else (bif Nat.blt pc 12 then (bif Nat.beq pc 11 then some (.astore_n 3, 0, 0) else none) else (bif Nat.beq pc 12 then some (.iconst 1, 0, 0) else none))) else (bif Nat.blt pc 14 then (bif Nat.beq pc 13 then some (.ireturn, 0, 0) else none) else (bif Nat.blt pc 15 then (bif Nat.beq pc 14 then some (.iconst 0, 0, 0) else none) else (bif Nat.beq pc 15 then some (.ireturn, 0, 0) else none))))
def rz_c8 (pc : Nat) : Option rz_I := bif Nat.blt pc 8 then (bif Nat.blt pc 3 then (bif Nat.blt pc 1 then (bif Nat.beq pc 0 then some (.aload_n 2, 0, 0) else none) else (bif Nat.blt pc 2 then (bif Nat.beq pc 1 then some (.iconst 0, 0, 0) else none) else (bif Nat.beq pc 2 then some (.aload_n 0, 0, 0) else none))) else (bif Nat.blt pc 4 then (bif Nat.beq pc 3 then some (.iload_n 1, 0, 0) else none) else (bif Nat.blt pc 7 then (bif Nat.beq pc 4 then some (.invokevirtual 77, 29, 0) else none) else (bif Nat.beq pc 7 then some (.i2l, 0, 0) else none)))) else (bif Nat.blt pc 13 then (bif Nat.blt pc 9 then (bif Nat.beq pc 8 then some (.lastore, 0, 0) else none) else (bif Nat.blt pc 12 then (bif Nat.beq pc 9 then some (.goto 6, 0, 0) else none) else (bif Nat.beq pc 12 then some (.astore_n 3, 0, 0) else none))) else (bif Nat.blt pc 15 then (bif Nat.blt pc 14 then (bif Nat.beq pc 13 then some (.iconst 1, 0, 0) else none) else (bif Nat.beq pc 14 then some (.ireturn, 0, 0) else none)) else (bif Nat.blt pc 16 then (bif Nat.beq pc 15 then some (.iconst 0, 0, 0) else none) else (bif Nat.beq pc 16 then some (.ireturn, 0, 0) else none))))
def rz_c9 (pc : Nat) : Option rz_I := bif Nat.blt pc 8 then (bif Nat.blt pc 3 then (bif Nat.blt pc 1 then (bif Nat.beq pc 0 then some (.aload_n 2, 0, 0) else none) else (bif Nat.blt pc 2 then (bif Nat.beq pc 1 then some (.iconst 0, 0, 0) else none) else (bif Nat.beq pc 2 then some (.aload_n 0, 0, 0) else none))) else (bif Nat.blt pc 4 then (bif Nat.beq pc 3 then some (.iload_n 1, 0, 0) else none) else (bif Nat.blt pc 7 then (bif Nat.beq pc 4 then some (.invokevirtual 17, 31, 0) else none) else (bif Nat.beq pc 7 then some (.i2l, 0, 0) else none)))) else (bif Nat.blt pc 13 then (bif Nat.blt pc 9 then (bif Nat.beq pc 8 then some (.lastore, 0, 0) else none) else (bif Nat.blt pc 12 then (bif Nat.beq pc 9 then some (.goto 9, 0, 0) else none) else (bif Nat.beq pc 12 then some (.astore_n 3, 0, 0) else none))) else (bif Nat.blt pc 18 then (bif Nat.blt pc 14 then (bif Nat.beq pc 13 then some (.iconst 1, 0, 0) else none) else (bif Nat.beq pc 14 then some (.ireturn, 0, 0) else none)) else (bif Nat.blt pc 19 then (bif Nat.beq pc 18 then some (.iconst 0, 0, 0) else none) else (bif Nat.beq pc 19 then some (.ireturn, 0, 0) else none))))
def rz_c10 (pc : Nat) : Option rz_I := bif Nat.blt pc 8 then (bif Nat.blt pc 3 then (bif Nat.blt pc 1 then (bif Nat.beq pc 0 then some (.aload_n 2, 0, 0) else none) else (bif Nat.blt pc 2 then (bif Nat.beq pc 1 then some (.iconst 0, 0, 0) else none) else (bif Nat.beq pc 2 then some (.aload_n 0, 0, 0) else none))) else (bif Nat.blt pc 4 then (bif Nat.beq pc 3 then some (.iload_n 1, 0, 0) else none) else (bif Nat.blt pc 7 then (bif Nat.beq pc 4 then some (.invokevirtual 29, 32, 0) else none) else (bif Nat.beq pc 7 then some (.i2l, 0, 0) else none)))) else (bif Nat.blt pc 13 then (bif Nat.blt pc 9 then (bif Nat.beq pc 8 then some (.lastore, 0, 0) else none) else (bif Nat.blt pc 12 then (bif Nat.beq pc 9 then some (.goto 6, 0, 0) else none) else (bif Nat.beq pc 12 then some (.astore_n 3, 0, 0) else none))) else (bif Nat.blt pc 15 then (bif Nat.blt pc 14 then (bif Nat.beq pc 13 then some (.iconst 1, 0, 0) else none) else (bif Nat.beq pc 14 then some (.ireturn, 0, 0) else none)) else (bif Nat.blt pc 16 then (bif Nat.beq pc 15 then some (.iconst 0, 0, 0) else none) else (bif Nat.beq pc 16 then some (.ireturn, 0, 0) else none))))
def rz_c11 (pc : Nat) : Option rz_I := bif Nat.blt pc 4 then (bif Nat.blt pc 2 then (bif Nat.blt pc 1 then (bif Nat.beq pc 0 then some (.aload_n 2, 0, 0) else none) else (bif Nat.beq pc 1 then some (.iconst 0, 0, 0) else none)) else (bif Nat.blt pc 3 then (bif Nat.beq pc 2 then some (.aload_n 0, 0, 0) else none) else (bif Nat.beq pc 3 then some (.iload_n 1, 0, 0) else none))) else (bif Nat.blt pc 13 then (bif Nat.blt pc 12 then (bif Nat.beq pc 4 then some (.invokevirtual 35, 34, 0) else none) else (bif Nat.beq pc 12 then some (.astore_n 3, 0, 0) else none)) else (bif Nat.blt pc 14 then (bif Nat.beq pc 13 then some (.iconst 1, 0, 0) else none) else (bif Nat.beq pc 14 then some (.ireturn, 0, 0) else none)))
def rz_c12 (pc : Nat) : Option rz_I := bif Nat.blt pc 9 then (bif Nat.blt pc 3 then (bif Nat.blt pc 1 then (bif Nat.beq pc 0 then some (.aload_n 3, 0, 0) else none) else (bif Nat.blt pc 2 then (bif Nat.beq pc 1 then some (.iconst 0, 0, 0) else none) else (bif Nat.beq pc 2 then some (.aload_n 0, 0, 0) else none))) else (bif Nat.blt pc 5 then (bif Nat.blt pc 4 then (bif Nat.beq pc 3 then some (.iload_n 1, 0, 0) else none) else (bif Nat.beq pc 4 then some (.iload_n 2, 0, 0) else none)) else (bif Nat.blt pc 8 then (bif Nat.beq pc 5 then some (.invokevirtual 65, 36, 0) else none) else (bif Nat.beq pc 8 then some (.i2l, 0, 0) else none)))) else (bif Nat.blt pc 15 then (bif Nat.blt pc 10 then (bif Nat.beq pc 9 then some (.lastore, 0, 0) else none) else (bif Nat.blt pc 13 then (bif Nat.beq pc 10 then some (.goto 7, 0, 0) else none) else (bif Nat.beq pc 13 then some (.astore 4, 0, 0) else none))) else (bif Nat.blt pc 17 then (bif Nat.blt pc 16 then (bif Nat.beq pc 15 then some (.iconst 1, 0, 0) else none) else (bif Nat.beq pc 16 then some (.ireturn, 0, 0) else none)) else (bif Nat.blt pc 18 then (bif Nat.beq pc 17 then some (.iconst 0, 0, 0) else none) else (bif Nat.beq pc 18 then some (.ireturn, 0, 0) else none))))
def rz_c13 (pc : Nat) : Option rz_I := bif Nat.blt pc 9 then (bif Nat.blt pc 3 then (bif Nat.blt pc 1 then (bif Nat.beq pc 0 then some (.aload_n 3, 0, 0) else none) else (bif Nat.blt pc 2 then (bif Nat.beq pc 1 then some (.iconst 0, 0, 0) else none) else (bif Nat.beq pc 2 then some (.aload_n 0, 0, 0) else none))) else (bif Nat.blt pc 5 then (bif Nat.blt pc 4 then (bif Nat.beq pc 3 then some (.iload_n 1, 0, 0) else none) else (bif Nat.beq pc 4 then some (.iload_n 2, 0, 0) else none)) else (bif Nat.blt pc 8 then (bif Nat.beq pc 5 then some (.invokevirtual 62, 37, 0) else none) else (bif Nat.beq pc 8 then some (.i2l, 0, 0) else none)))) else (bif Nat.blt pc 15 then (bif Nat.blt pc 10 then (bif Nat.beq pc 9 then some (.lastore, 0, 0) else none) else (bif Nat.blt pc 13 then (bif Nat.beq pc 10 then some (.goto 7, 0, 0) else none) else (bif Nat.beq pc 13 then some (.astore 4, 0, 0) else none))) else (bif Nat.blt pc 17 then (bif Nat.blt pc 16 then (bif Nat.beq pc 15 then some (.iconst 1, 0, 0) else none) else (bif Nat.beq pc 16 then some (.ireturn, 0, 0) else none)) else (bif Nat.blt pc 18 then (bif Nat.beq pc 17 then some (.iconst 0, 0, 0) else none) else (bif Nat.beq pc 18 then some (.ireturn, 0, 0) else none))))
def rz_c14 (pc : Nat) : Option rz_I := bif Nat.blt pc 9 then (bif Nat.blt pc 3 then (bif Nat.blt pc 1 then (bif Nat.beq pc 0 then some (.aload_n 3, 0, 0) else none) else (bif Nat.blt pc 2 then (bif Nat.beq pc 1 then some (.iconst 0, 0, 0) else none) else (bif Nat.beq pc 2 then some (.aload_n 0, 0, 0) else none))) else (bif Nat.blt pc 5 then (bif Nat.blt pc 4 then (bif Nat.beq pc 3 then some (.iload_n 1, 0, 0) else none) else (bif Nat.beq pc 4 then some (.iload_n 2, 0, 0) else none)) else (bif Nat.blt pc 8 then (bif Nat.beq pc 5 then some (.invokevirtual 42, 39, 0) else none) else (bif Nat.beq pc 8 then some (.i2l, 0, 0) else none)))) else (bif Nat.blt pc 15 then (bif Nat.blt pc 10 then (bif Nat.beq pc 9 then some (.lastore, 0, 0) else none) else (bif Nat.blt pc 13 then (bif Nat.beq pc 10 then some (.goto 11, 0, 0) else none) else (bif Nat.beq pc 13 then some (.astore 4, 0, 0) else none))) else (bif Nat.blt pc 21 then (bif Nat.blt pc 16 then (bif Nat.beq pc 15 then some (.iconst 1, 0, 0) else none) else (bif Nat.beq pc 16 then some (.ireturn, 0, 0) else none)) else (bif Nat.blt pc 22 then (bif Nat.beq pc 21 then some (.iconst 0, 0, 0) else none) else (bif Nat.beq pc 22 then some (.ireturn, 0, 0) else none))))
def rz_c15 (pc : Nat) : Option rz_I := bif Nat.blt pc 12 then (bif Nat.blt pc 5 then (bif Nat.blt pc 3 then (bif Nat.blt pc 2 then (bif Nat.beq pc 0 then some (.aload 7, 0, 0) else none) else (bif Nat.beq pc 2 then some (.iconst 0, 0, 0) else none)) else (bif Nat.blt pc 4 then (bif Nat.beq pc 3 then some (.aload_n 0, 0, 0) else none) else (bif Nat.beq pc 4 then some (.iload_n 1, 0, 0) else none))) else (bif Nat.blt pc 7 then (bif Nat.blt pc 6 then (bif Nat.beq pc 5 then some (.iload_n 2, 0, 0) else none) else (bif Nat.beq pc 6 then some (.lload_n 3, 0, 0) else none)) else (bif Nat.blt pc 9 then (bif Nat.beq pc 7 then some (.lload 5, 0, 0) else none) else (bif Nat.beq pc 9 then some (.invokevirtual 7, 41, 0) else none)))) else (bif Nat.blt pc 19 then (bif Nat.blt pc 14 then (bif Nat.blt pc 13 then (bif Nat.beq pc 12 then some (.i2l, 0, 0) else none) else (bif Nat.beq pc 13 then some (.lastore, 0, 0) else none)) else (bif Nat.blt pc 17 then (bif Nat.beq pc 14 then some (.goto 11, 0, 0) else none) else (bif Nat.beq pc 17 then some (.astore 8, 0, 0) else none))) else (bif Nat.blt pc 25 then (bif Nat.blt pc 20 then (bif Nat.beq pc 19 then some (.iconst 1, 0, 0) else none) else (bif Nat.beq pc 20 then some (.ireturn, 0, 0) else none)) else (bif Nat.blt pc 26 then (bif Nat.beq pc 25 then some (.iconst 0, 0, 0) else none) else (bif Nat.beq pc 26 then some (.ireturn, 0, 0) else none))))
def rz_c16 (pc : Nat) : Option rz_I := bif Nat.blt pc 4 then (bif Nat.blt pc 2 then (bif Nat.blt pc 1 then (bif Nat.beq pc 0 then some (.aload_n 3, 0, 0) else none) else (bif Nat.beq pc 1 then some (.iconst 0, 0, 0) else none)) else (bif Nat.blt pc 3 then (bif Nat.beq pc 2 then some (.aload_n 0, 0, 0) else none) else (bif Nat.beq pc 3 then some (.iload_n 1, 0, 0) else none))) else (bif Nat.blt pc 12 then (bif Nat.blt pc 5 then (bif Nat.beq pc 4 then some (.iload_n 2, 0, 0) else none) else (bif Nat.beq pc 5 then some (.invokevirtual 59, 42, 0) else none)) else (bif Nat.blt pc 14 then (bif Nat.beq pc 12 then some (.astore 4, 0, 0) else none) else (bif Nat.blt pc 15 then (bif Nat.beq pc 14 then some (.iconst 1, 0, 0) else none) else (bif Nat.beq pc 15 then some (.ireturn, 0, 0) else none))))
def rz_c17 (pc : Nat) : Option rz_I := bif Nat.blt pc 4 then (bif Nat.blt pc 2 then (bif Nat.blt pc 1 then (bif Nat.beq pc 0 then some (.aload_n 2, 0, 0) else none) else (bif Nat.beq pc 1 then some (.iconst 0, 0, 0) else none)) else (bif Nat.blt pc 3 then (bif Nat.beq pc 2 then some (.aload_n 0, 0, 0) else none) else (bif Nat.beq pc 3 then some (.iload_n 1, 0, 0) else none))) else (bif Nat.blt pc 13 then (bif Nat.blt pc 12 then (bif Nat.beq pc 4 then some (.invokevirtual 74, 43, 0) else none) else (bif Nat.beq pc 12 then some (.astore_n 3, 0, 0) else none)) else (bif Nat.blt pc 14 then (bif Nat.beq pc 13 then some (.iconst 1, 0, 0) else none) else (bif Nat.beq pc 14 then some (.ireturn, 0, 0) else none)))
def rz_c18 (pc : Nat) : Option rz_I := bif Nat.blt pc 4 then (bif Nat.blt pc 2 then (bif Nat.blt pc 1 then (bif Nat.beq pc 0 then some (.aload_n 3, 0, 0) else none) else (bif Nat.beq pc 1 then some (.iconst 0, 0, 0) else none)) else (bif Nat.blt pc 3 then (bif Nat.beq pc 2 then some (.aload_n 0, 0, 0) else none) else (bif Nat.beq pc 3 then some (.iload_n 1, 0, 0) else none))) else (bif Nat.blt pc 13 then (bif Nat.blt pc 5 then (bif Nat.beq pc 4 then some (.iload_n 2, 0, 0) else none) else (bif Nat.beq pc 5 then some (.invokevirtual 25, 44, 0) else none)) else (bif Nat.blt pc 15 then (bif Nat.beq pc 13 then some (.astore 4, 0, 0) else none) else (bif Nat.blt pc 16 then (bif Nat.beq pc 15 then some (.iconst 1, 0, 0) else none) else (bif Nat.beq pc 16 then some (.ireturn, 0, 0) else none))))
def rz_c19 (pc : Nat) : Option rz_I := bif Nat.blt pc 9 then (bif Nat.blt pc 3 then (bif Nat.blt pc 1 then (bif Nat.beq pc 0 then some (.aload_n 3, 0, 0) else none) else (bif Nat.blt pc 2 then (bif Nat.beq pc 1 then some (.iconst 0, 0, 0) else none) else (bif Nat.beq pc 2 then some (.aload_n 0, 0, 0) else none))) else (bif Nat.blt pc 5 then (bif Nat.blt pc 4 then (bif Nat.beq pc 3 then some (.iload_n 1, 0, 0) else none) else (bif Nat.beq pc 4 then some (.iload_n 2, 0, 0) else none)) else (bif Nat.blt pc 8 then (bif Nat.beq pc 5 then some (.invokevirtual 68, 45, 0) else none) else (bif Nat.beq pc 8 then some (.i2l, 0, 0) else none)))) else (bif Nat.blt pc 15 then (bif Nat.blt pc 10 then (bif Nat.beq pc 9 then some (.lastore, 0, 0) else none) else (bif Nat.blt pc 13 then (bif Nat.beq pc 10 then some (.goto 7, 0, 0) else none) else (bif Nat.beq pc 13 then some (.astore 4, 0, 0) else none))) else (bif Nat.blt pc 17 then (bif Nat.blt pc 16 then (bif Nat.beq pc 15 then some (.iconst 1, 0, 0) else none) else (bif Nat.beq pc 16 then some (.ireturn, 0, 0) else none)) else (bif Nat.blt pc 18 then (bif Nat.beq pc 17 then some (.iconst 0, 0, 0) else none) else (bif Nat.beq pc 18 then some (.ireturn, 0, 0) else none))))
def rz_c20 (pc : Nat) : Option rz_I := bif Nat.blt pc 9 then (bif Nat.blt pc 4 then (bif Nat.blt pc 2 then (bif Nat.beq pc 0 then some (.aload 4, 0, 0) else none) else (bif Nat.blt pc 3 then (bif Nat.beq pc 2 then some (.iconst 0, 0, 0) else none) else (bif Nat.beq pc 3 then some (.aload_n 0, 0, 0) else none))) else (bif Nat.blt pc 5 then (bif Nat.beq pc 4 then some (.iload_n 1, 0, 0) else none) else (bif Nat.blt pc 6 then (bif Nat.beq pc 5 then some (.lload_n 2, 0, 0) else none) else (bif Nat.beq pc 6 then some (.invokevirtual 45, 46, 0) else none)))) else (bif Nat.blt pc 15 then (bif Nat.blt pc 10 then (bif Nat.beq pc 9 then some (.lastore, 0, 0) else none) else (bif Nat.blt pc 13 then (bif Nat.beq pc 10 then some (.goto 7, 0, 0) else none) else (bif Nat.beq pc 13 then some (.astore 5, 0, 0) else none))) else (bif Nat.blt pc 17 then (bif Nat.blt pc 16 then (bif Nat.beq pc 15 then some (.iconst 1, 0, 0) else none) else (bif Nat.beq pc 16 then some (.ireturn, 0, 0) else none)) else (bif Nat.blt pc 18 then (bif Nat.beq pc 17 then some (.iconst 0, 0, 0) else none) else (bif Nat.beq pc 18 then some (.ireturn, 0, 0) else none))))
def rz_c21 (pc : Nat) : Option rz_I := bif Nat.blt pc 4 then (bif Nat.blt pc 2 then (bif Nat.blt pc 1 then (bif Nat.beq pc 0 then some (.aload_n 2, 0, 0) else none) else (bif Nat.beq pc 1 then some (.iconst 0, 0, 0) else none)) else (bif Nat.blt pc 3 then (bif Nat.beq pc 2 then some (.aload_n 0, 0, 0) else none) else (bif Nat.beq pc 3 then some (.iload_n 1, 0, 0) else none))) else (bif Nat.blt pc 13 then (bif Nat.blt pc 12 then (bif Nat.beq pc 4 then some (.invokevirtual 53, 47, 0) else none) else (bif Nat.beq pc 12 then some (.astore_n 3, 0, 0) else none)) else (bif Nat.blt pc 14 then (bif Nat.beq pc 13 then some (.iconst 1, 0, 0) else none) else (bif Nat.beq pc 14 then some (.ireturn, 0, 0) else none)))
def rz_c22 (pc : Nat) : Option rz_I := bif Nat.blt pc 8 then (bif Nat.blt pc 3 then (bif Nat.blt pc 1 then (bif Nat.beq pc 0 then some (.aload_n 3, 0, 0) else none) else (bif Nat.blt pc 2 then (bif Nat.beq pc 1 then some (.iconst 0, 0, 0) else none) else (bif Nat.beq pc 2 then some (.aload_n 0, 0, 0) else none))) else (bif Nat.blt pc 4 then (bif Nat.beq pc 3 then some (.iload_n 1, 0, 0) else none) else (bif Nat.blt pc 5 then (bif Nat.beq pc 4 then some (.iload_n 2, 0, 0) else none) else (bif Nat.beq pc 5 then some (.invokevirtual 38, 48, 0) else none)))) else (bif Nat.blt pc 14 then (bif Nat.blt pc 9 then (bif Nat.beq pc 8 then some (.lastore, 0, 0) else none) else (bif Nat.blt pc 12 then (bif Nat.beq pc 9 then some (.goto 7, 0, 0) else none) else (bif Nat.beq pc 12 then some (.astore 4, 0, 0) else none))) else (bif Nat.blt pc 16 then (bif Nat.blt pc 15 then (bif Nat.beq pc 14 then some (.iconst 1, 0, 0) else none) else (bif Nat.beq pc 15 then some (.ireturn, 0, 0) else none)) else (bif Nat.blt pc 17 then (bif Nat.beq pc 16 then some (.iconst 0, 0, 0) else none) else (bif Nat.beq pc 17 then some (.ireturn, 0, 0) else none))))
def rz_c23 (pc : Nat) : Option rz_I := bif Nat.blt pc 4 then (bif Nat.blt pc 2 then (bif Nat.blt pc 1 then (bif Nat.beq pc 0 then some (.aload_n 3, 0, 0) else none) else (bif Nat.beq pc 1 then some (.iconst 0, 0, 0) else none)) else (bif Nat.blt pc 3 then (bif Nat.beq pc 2 then some (.aload_n 0, 0, 0) else none) else (bif Nat.beq pc 3 then some (.iload_n 1, 0, 0) else none))) else (bif Nat.blt pc 13 then (bif Nat.blt pc 5 then (bif Nat.beq pc 4 then some (.iload_n 2, 0, 0) else none) else (bif Nat.beq pc 5 then some (.invokevirtual 56, 49, 0) else none)) else (bif Nat.blt pc 15 then (bif Nat.beq pc 13 then some (.astore 4, 0, 0) else none) else (bif Nat.blt pc 16 then (bif Nat.beq pc 15 then some (.iconst 1, 0, 0) else none) else (bif Nat.beq pc 16 then some (.ireturn, 0, 0) else none))))
def rz_c24 (pc : Nat) : Option rz_I := bif Nat.blt pc 8 then (bif Nat.blt pc 3 then (bif Nat.blt pc 1 then (bif Nat.beq pc 0 then some (.aload_n 2, 0, 0) else none) else (bif Nat.blt pc 2 then (bif Nat.beq pc 1 then some (.iconst 0, 0, 0) else none) else (bif Nat.beq pc 2 then some (.aload_n 0, 0, 0) else none))) else (bif Nat.blt pc 4 then (bif Nat.beq pc 3 then some (.iload_n 1, 0, 0) else none) else (bif Nat.blt pc 7 then (bif Nat.beq pc 4 then some (.invokevirtual 32, 50, 0) else none) else (bif Nat.beq pc 7 then some (.i2l, 0, 0) else none)))) else (bif Nat.blt pc 13 then (bif Nat.blt pc 9 then (bif Nat.beq pc 8 then some (.lastore, 0, 0) else none) else (bif Nat.blt pc 12 then (bif Nat.beq pc 9 then some (.goto 6, 0, 0) else none) else (bif Nat.beq pc 12 then some (.astore_n 3, 0, 0) else none))) else (bif Nat.blt pc 15 then (bif Nat.blt pc 14 then (bif Nat.beq pc 13 then some (.iconst 1, 0, 0) else none) else (bif Nat.beq pc 14 then some (.ireturn, 0, 0) else none)) else (bif Nat.blt pc 16 then (bif Nat.beq pc 15 then some (.iconst 0, 0, 0) else none) else (bif Nat.beq pc 16 then some (.ireturn, 0, 0) else none))))
def rz_c25 (pc : Nat) : Option rz_I := bif Nat.blt pc 21 then (bif Nat.blt pc 9 then (bif Nat.blt pc 4 then (bif Nat.blt pc 1 then (bif Nat.beq pc 0 then some (.aload_n 0, 0, 0) else none) else (bif Nat.beq pc 1 then some (.invokespecial 3, 0, 1) else none)) else (bif Nat.blt pc 5 then (bif Nat.beq pc 4 then some (.aload_n 0, 0, 0) else none) else (bif Nat.blt pc 8 then (bif Nat.beq pc 5 then some (.new 9, 2, 0) else none) else (bif Nat.beq pc 8 then some (.dup, 0, 0) else none)))) else (bif Nat.blt pc 16 then (bif Nat.blt pc 12 then (bif Nat.beq pc 9 then some (.invokespecial 11, 95, 0) else none) else (bif Nat.blt pc 15 then (bif Nat.beq pc 12 then some (.putfield 12, 0, 2) else none) else (bif Nat.beq pc 15 then some (.aload_n 0, 0, 0) else none))) else (bif Nat.blt pc 17 then (bif Nat.beq pc 16 then some (.iconst 1, 0, 0) else none) else (bif Nat.blt pc 20 then (bif Nat.beq pc 17 then some (.putfield 18, 0, 3) else none) else (bif Nat.beq pc 20 then some (.aload_n 0, 0, 0) else none))))) else (bif Nat.blt pc 31 then (bif Nat.blt pc 26 then (bif Nat.blt pc 22 then (bif Nat.beq pc 21 then some (.iconst 0, 0, 0) else none) else (bif Nat.blt pc 25 then (bif Nat.beq pc 22 then some (.putfield 22, 0, 4) else none) else (bif Nat.beq pc 25 then some (.aload_n 0, 0, 0) else none))) else (bif Nat.blt pc 27 then (bif Nat.beq pc 26 then some (.iconst 0, 0, 0) else none) else (bif Nat.blt pc 30 then (bif Nat.beq pc 27 then some (.putfield 25, 0, 5) else none) else (bif Nat.beq pc 30 then some (.aload_n 0, 0, 0) else none)))) else (bif Nat.blt pc 36 then (bif Nat.blt pc 32 then (bif Nat.beq pc 31 then some (.iload_n 1, 0, 0) else none) else (bif Nat.blt pc 35 then (bif Nat.beq pc 32 then some (.putfield 29, 0, 0) else none) else (bif Nat.beq pc 35 then some (.aload_n 0, 0, 0) else none))) else (bif Nat.blt pc 37 then (bif Nat.beq pc 36 then some (.aload_n 2, 0, 0) else none) else (bif Nat.blt pc 40 then (bif Nat.beq pc 37 then some (.putfield 32, 0, 1) else none) else (bif Nat.beq pc 40 then some (.return_, 0, 0) else none)))))
def rz_c26 (pc : Nat) : Option rz_I := bif Nat.blt pc 33 then (bif Nat.blt pc 16 then (bif Nat.blt pc 7 then (bif Nat.blt pc 2 then (bif Nat.blt pc 1 then (bif Nat.beq pc 0 then some (.iload_n 1, 0, 0) else none) else (bif Nat.beq pc 1 then some (.i2l, 0, 0) else none)) else (bif Nat.blt pc 4 then (bif Nat.beq pc 2 then some (.bipush 8, 0, 0) else none) else (bif Nat.beq pc 4 then some (.invokestatic 86, 35, 0) else none))) else (bif Nat.blt pc 11 then (bif Nat.blt pc 10 then (bif Nat.beq pc 7 then some (.ifCond .eq 16, 0, 0) else none) else (bif Nat.beq pc 10 then some (.iload_n 2, 0, 0) else none)) else (bif Nat.blt pc 12 then (bif Nat.beq pc 11 then some (.i2l, 0, 0) else none) else (bif Nat.blt pc 13 then (bif Nat.beq pc 12 then some (.iconst 4, 0, 0) else none) else (bif Nat.beq pc 13 then some (.invokestatic 86, 35, 0) else none))))) else (bif Nat.blt pc 24 then (bif Nat.blt pc 20 then (bif Nat.blt pc 19 then (bif Nat.beq pc 16 then some (.ifCond .eq 7, 0, 0) else none) else (bif Nat.beq pc 19 then some (.iconst 1, 0, 0) else none)) else (bif Nat.blt pc 23 then (bif Nat.beq pc 20 then some (.goto 4, 0, 0) else none) else (bif Nat.beq pc 23 then some (.iconst 0, 0, 0) else none))) else (bif Nat.blt pc 28 then (bif Nat.blt pc 27 then (bif Nat.beq pc 24 then some (.invokestatic 90, 30, 0) else none) else (bif Nat.beq pc 27 then some (.aload_n 0, 0, 0) else none)) else (bif Nat.blt pc 31 then (bif Nat.beq pc 28 then some (.getfield 40, 10, 6) else none) else (bif Nat.blt pc 32 then (bif Nat.beq pc 31 then some (.iload_n 1, 0, 0) else none) else (bif Nat.beq pc 32 then some (.aaload, 0, 0) else none)))))) else (bif Nat.blt pc 72 then (bif Nat.blt pc 61 then (bif Nat.blt pc 35 then (bif Nat.blt pc 34 then (bif Nat.beq pc 33 then some (.astore_n 3, 0, 0) else none) else (bif Nat.beq pc 34 then some (.iload_n 2, 0, 0) else none)) else (bif Nat.blt pc 60 then (bif Nat.beq pc 35 then some (.tableswitch 51 0 2 #[25, 30, 38], 0, 0) else none) else (bif Nat.beq pc 60 then some (.aload_n 3, 0, 0) else none))) else (bif Nat.blt pc 65 then (bif Nat.blt pc 64 then (bif Nat.beq pc 61 then some (.getfield 206, 0, 3) else none) else (bif Nat.beq pc 64 then some (.ireturn, 0, 0) else none)) else (bif Nat.blt pc 66 then (bif Nat.beq pc 65 then some (.aload_n 3, 0, 0) else none) else (bif Nat.blt pc 69 then (bif Nat.beq pc 66 then some (.getfield 197, 0, 2) else none) else (bif Nat.beq pc 69 then some (.getfield 201, 2, 2) else none))))) else (bif Nat.blt pc 84 then (bif Nat.blt pc 74 then (bif Nat.blt pc 73 then (bif Nat.beq pc 72 then some (.ireturn, 0, 0) else none) else (bif Nat.beq pc 73 then some (.aload_n 3, 0, 0) else none)) else (bif Nat.blt pc 77 then (bif Nat.beq pc 74 then some (.getfield 266, 0, 5) else none) else (bif Nat.beq pc 77 then some (.ifCond .eq 7, 0, 0) else none))) else (bif Nat.blt pc 86 then (bif Nat.blt pc 85 then (bif Nat.beq pc 84 then some (.iconst 0, 0, 0) else none) else (bif Nat.beq pc 85 then some (.ireturn, 0, 0) else none)) else (bif Nat.blt pc 87 then (bif Nat.beq pc 86 then some (.aload_n 3, 0, 0) else none) else (bif Nat.blt pc 90 then (bif Nat.beq pc 87 then some (.getfield 269, 0, 4) else none) else (bif Nat.beq pc 90 then some (.ireturn, 0, 0) else none))))))
def rz_c27 (pc : Nat) : Option rz_I := bif Nat.blt pc 37 then (bif Nat.blt pc 11 then (bif Nat.blt pc 4 then (bif Nat.blt pc 1 then (bif Nat.beq pc 0 then some (.iload_n 1, 0, 0) else none) else (bif Nat.blt pc 2 then (bif Nat.beq pc 1 then some (.i2l, 0, 0) else none) else (bif Nat.beq pc 2 then some (.bipush 16, 0, 0) else none))) else (bif Nat.blt pc 7 then (bif Nat.beq pc 4 then some (.invokestatic 86, 35, 0) else none) else (bif Nat.blt pc 10 then (bif Nat.beq pc 7 then some (.invokestatic 90, 30, 0) else none) else (bif Nat.beq pc 10 then some (.aload_n 0, 0, 0) else none)))) else (bif Nat.blt pc 19 then (bif Nat.blt pc 14 then (bif Nat.beq pc 11 then some (.getfield 12, 10, 1) else none) else (bif Nat.blt pc 17 then (bif Nat.beq pc 14 then some (.getfield 120, 1, 2) else none) else (bif Nat.beq pc 17 then some (.bipush 64, 0, 0) else none))) else (bif Nat.blt pc 33 then (bif Nat.blt pc 32 then (bif Nat.beq pc 19 then some (.if_icmp .lt 13, 0, 0) else none) else (bif Nat.beq pc 32 then some (.aload_n 0, 0, 0) else none)) else (bif Nat.blt pc 36 then (bif Nat.beq pc 33 then some (.getfield 12, 10, 1) else none) else (bif Nat.beq pc 36 then some (.iload_n 1, 0, 0) else none))))) else (bif Nat.blt pc 49 then (bif Nat.blt pc 44 then (bif Nat.blt pc 40 then (bif Nat.beq pc 37 then some (.invokevirtual 125, 91, 0) else none) else (bif Nat.blt pc 42 then (bif Nat.beq pc 40 then some (.astore 4, 0, 0) else none) else (bif Nat.beq pc 42 then some (.aload 4, 0, 0) else none))) else (bif Nat.blt pc 47 then (bif Nat.beq pc 44 then some (.getfield 129, 9, 1) else none) else (bif Nat.blt pc 48 then (bif Nat.beq pc 47 then some (.iconst 0, 0, 0) else none) else (bif Nat.beq pc 48 then some (.lload_n 2, 0, 0) else none)))) else (bif Nat.blt pc 54 then (bif Nat.blt pc 50 then (bif Nat.beq pc 49 then some (.lastore, 0, 0) else none) else (bif Nat.blt pc 51 then (bif Nat.beq pc 50 then some (.aload_n 0, 0, 0) else none) else (bif Nat.beq pc 51 then some (.getfield 12, 10, 1) else none))) else (bif Nat.blt pc 59 then (bif Nat.blt pc 57 then (bif Nat.beq pc 54 then some (.invokevirtual 134, 93, 0) else none) else (bif Nat.beq pc 57 then some (.aload 4, 0, 0) else none)) else (bif Nat.blt pc 62 then (bif Nat.beq pc 59 then some (.getfield 137, 9, 0) else none) else (bif Nat.beq pc 62 then some (.ireturn, 0, 0) else none)))))
def rz_c28 (pc : Nat) : Option rz_I := bif Nat.blt pc 10 then (bif Nat.blt pc 2 then (bif Nat.blt pc 1 then (bif Nat.beq pc 0 then some (.iload_n 1, 0, 0) else none) else (bif Nat.beq pc 1 then some (.i2l, 0, 0) else none)) else (bif Nat.blt pc 4 then (bif Nat.beq pc 2 then some (.bipush 32, 0, 0) else none) else (bif Nat.blt pc 7 then (bif Nat.beq pc 4 then some (.invokestatic 86, 35, 0) else none) else (bif Nat.beq pc 7 then some (.invokestatic 90, 30, 0) else none)))) else (bif Nat.blt pc 14 then (bif Nat.blt pc 11 then (bif Nat.beq pc 10 then some (.aload_n 0, 0, 0) else none) else (bif Nat.beq pc 11 then some (.getfield 16, 10, 2) else none)) else (bif Nat.blt pc 15 then (bif Nat.beq pc 14 then some (.iload_n 1, 0, 0) else none) else (bif Nat.blt pc 16 then (bif Nat.beq pc 15 then some (.laload, 0, 0) else none) else (bif Nat.beq pc 16 then some (.lreturn, 0, 0) else none))))
def rz_c29 (pc : Nat) : Option rz_I := bif Nat.blt pc 80 then (bif Nat.blt pc 59 then (bif Nat.blt pc 10 then (bif Nat.blt pc 2 then (bif Nat.blt pc 1 then (bif Nat.beq pc 0 then some (.iload_n 1, 0, 0) else none) else (bif Nat.beq pc 1 then some (.i2l, 0, 0) else none)) else (bif Nat.blt pc 4 then (bif Nat.beq pc 2 then some (.bipush 8, 0, 0) else none) else (bif Nat.blt pc 7 then (bif Nat.beq pc 4 then some (.invokestatic 86, 35, 0) else none) else (bif Nat.beq pc 7 then some (.invokestatic 90, 30, 0) else none)))) else (bif Nat.blt pc 52 then (bif Nat.blt pc 11 then (bif Nat.beq pc 10 then some (.iload_n 1, 0, 0) else none) else (bif Nat.beq pc 11 then some (.tableswitch 97 0 6 #[41, 49, 57, 65, 73, 81, 89], 0, 0) else none)) else (bif Nat.blt pc 53 then (bif Nat.beq pc 52 then some (.aload_n 0, 0, 0) else none) else (bif Nat.blt pc 56 then (bif Nat.beq pc 53 then some (.getfield 12, 10, 1) else none) else (bif Nat.beq pc 56 then some (.getfield 120, 1, 2) else none))))) else (bif Nat.blt pc 68 then (bif Nat.blt pc 61 then (bif Nat.blt pc 60 then (bif Nat.beq pc 59 then some (.ireturn, 0, 0) else none) else (bif Nat.beq pc 60 then some (.aload_n 0, 0, 0) else none)) else (bif Nat.blt pc 64 then (bif Nat.beq pc 61 then some (.getfield 12, 10, 1) else none) else (bif Nat.blt pc 67 then (bif Nat.beq pc 64 then some (.getfield 146, 1, 3) else none) else (bif Nat.beq pc 67 then some (.ireturn, 0, 0) else none)))) else (bif Nat.blt pc 75 then (bif Nat.blt pc 69 then (bif Nat.beq pc 68 then some (.aload_n 0, 0, 0) else none) else (bif Nat.blt pc 72 then (bif Nat.beq pc 69 then some (.getfield 12, 10, 1) else none) else (bif Nat.beq pc 72 then some (.getfield 161, 1, 4) else none))) else (bif Nat.blt pc 76 then (bif Nat.beq pc 75 then some (.ireturn, 0, 0) else none) else (bif Nat.blt pc 77 then (bif Nat.beq pc 76 then some (.aload_n 0, 0, 0) else none) else (bif Nat.beq pc 77 then some (.getfield 12, 10, 1) else none)))))) else (bif Nat.blt pc 100 then (bif Nat.blt pc 91 then (bif Nat.blt pc 84 then (bif Nat.blt pc 83 then (bif Nat.beq pc 80 then some (.getfield 286, 1, 5) else none) else (bif Nat.beq pc 83 then some (.ireturn, 0, 0) else none)) else (bif Nat.blt pc 85 then (bif Nat.beq pc 84 then some (.aload_n 0, 0, 0) else none) else (bif Nat.blt pc 88 then (bif Nat.beq pc 85 then some (.getfield 54, 10, 8) else none) else (bif Nat.beq pc 88 then some (.getfield 287, 5, 2) else none)))) else (bif Nat.blt pc 93 then (bif Nat.blt pc 92 then (bif Nat.beq pc 91 then some (.ireturn, 0, 0) else none) else (bif Nat.beq pc 92 then some (.aload_n 0, 0, 0) else none)) else (bif Nat.blt pc 96 then (bif Nat.beq pc 93 then some (.getfield 47, 10, 7) else none) else (bif Nat.blt pc 99 then (bif Nat.beq pc 96 then some (.getfield 140, 7, 3) else none) else (bif Nat.beq pc 99 then some (.ireturn, 0, 0) else none))))) else (bif Nat.blt pc 109 then (bif Nat.blt pc 104 then (bif Nat.blt pc 101 then (bif Nat.beq pc 100 then some (.aload_n 0, 0, 0) else none) else (bif Nat.beq pc 101 then some (.getfield 12, 10, 1) else none)) else (bif Nat.blt pc 107 then (bif Nat.beq pc 104 then some (.getfield 290, 1, 6) else none) else (bif Nat.blt pc 108 then (bif Nat.beq pc 107 then some (.ireturn, 0, 0) else none) else (bif Nat.beq pc 108 then some (.aload_n 0, 0, 0) else none)))) else (bif Nat.blt pc 118 then (bif Nat.blt pc 112 then (bif Nat.beq pc 109 then some (.getfield 12, 10, 1) else none) else (bif Nat.blt pc 115 then (bif Nat.beq pc 112 then some (.getfield 168, 1, 8) else none) else (bif Nat.beq pc 115 then some (.ldc2_w 260, 0, 2147483647) else none))) else (bif Nat.blt pc 119 then (bif Nat.beq pc 118 then some (.land, 0, 0) else none) else (bif Nat.blt pc 120 then (bif Nat.beq pc 119 then some (.l2i, 0, 0) else none) else (bif Nat.beq pc 120 then some (.ireturn, 0, 0) else none))))))
def rz_c30 (pc : Nat) : Option rz_I := bif Nat.blt pc 1 then (bif Nat.beq pc 0 then some (.iload_n 0, 0, 0) else none) else (bif Nat.blt pc 15 then (bif Nat.beq pc 1 then some (.ifCond .ne 14, 0, 0) else none) else (bif Nat.beq pc 15 then some (.return_, 0, 0) else none))
def rz_c31 (pc : Nat) : Option rz_I := bif Nat.blt pc 35 then (bif Nat.blt pc 11 then (bif Nat.blt pc 4 then (bif Nat.blt pc 1 then (bif Nat.beq pc 0 then some (.iload_n 1, 0, 0) else none) else (bif Nat.blt pc 2 then (bif Nat.beq pc 1 then some (.i2l, 0, 0) else none) else (bif Nat.beq pc 2 then some (.bipush 16, 0, 0) else none))) else (bif Nat.blt pc 7 then (bif Nat.beq pc 4 then some (.invokestatic 86, 35, 0) else none) else (bif Nat.blt pc 10 then (bif Nat.beq pc 7 then some (.invokestatic 90, 30, 0) else none) else (bif Nat.beq pc 10 then some (.aload_n 0, 0, 0) else none)))) else (bif Nat.blt pc 18 then (bif Nat.blt pc 14 then (bif Nat.beq pc 11 then some (.getfield 12, 10, 1) else none) else (bif Nat.blt pc 15 then (bif Nat.beq pc 14 then some (.iload_n 1, 0, 0) else none) else (bif Nat.beq pc 15 then some (.invokevirtual 114, 90, 0) else none))) else (bif Nat.blt pc 31 then (bif Nat.beq pc 18 then some (.ifCond .eq 13, 0, 0) else none) else (bif Nat.blt pc 32 then (bif Nat.beq pc 31 then some (.aload_n 0, 0, 0) else none) else (bif Nat.beq pc 32 then some (.getfield 12, 10, 1) else none))))) else (bif Nat.blt pc 45 then (bif Nat.blt pc 40 then (bif Nat.blt pc 38 then (bif Nat.beq pc 35 then some (.getfield 94, 1, 0) else none) else (bif Nat.blt pc 39 then (bif Nat.beq pc 38 then some (.iload_n 1, 0, 0) else none) else (bif Nat.beq pc 39 then some (.aaload, 0, 0) else none))) else (bif Nat.blt pc 41 then (bif Nat.beq pc 40 then some (.astore_n 2, 0, 0) else none) else (bif Nat.blt pc 42 then (bif Nat.beq pc 41 then some (.aload_n 2, 0, 0) else none) else (bif Nat.beq pc 42 then some (.getfield 98, 6, 0) else none)))) else (bif Nat.blt pc 48 then (bif Nat.blt pc 46 then (bif Nat.beq pc 45 then some (.istore_n 3, 0, 0) else none) else (bif Nat.blt pc 47 then (bif Nat.beq pc 46 then some (.aload_n 2, 0, 0) else none) else (bif Nat.beq pc 47 then some (.iconst 0, 0, 0) else none))) else (bif Nat.blt pc 51 then (bif Nat.beq pc 48 then some (.putfield 98, 6, 0) else none) else (bif Nat.blt pc 52 then (bif Nat.beq pc 51 then some (.iload_n 3, 0, 0) else none) else (bif Nat.beq pc 52 then some (.ireturn, 0, 0) else none)))))
def rz_c32 (pc : Nat) : Option rz_I := bif Nat.blt pc 58 then (bif Nat.blt pc 17 then (bif Nat.blt pc 6 then (bif Nat.blt pc 2 then (bif Nat.blt pc 1 then (bif Nat.beq pc 0 then some (.iload_n 1, 0, 0) else none) else (bif Nat.beq pc 1 then some (.iconst 1, 0, 0) else none)) else (bif Nat.blt pc 5 then (bif Nat.beq pc 2 then some (.if_icmp .lt 14, 0, 0) else none) else (bif Nat.beq pc 5 then some (.iload_n 1, 0, 0) else none))) else (bif Nat.blt pc 12 then (bif Nat.blt pc 9 then (bif Nat.beq pc 6 then some (.sipush 20000, 0, 0) else none) else (bif Nat.beq pc 9 then some (.if_icmp .gt 7, 0, 0) else none)) else (bif Nat.blt pc 13 then (bif Nat.beq pc 12 then some (.iconst 1, 0, 0) else none) else (bif Nat.blt pc 16 then (bif Nat.beq pc 13 then some (.goto 4, 0, 0) else none) else (bif Nat.beq pc 16 then some (.iconst 0, 0, 0) else none))))) else (bif Nat.blt pc 24 then (bif Nat.blt pc 21 then (bif Nat.blt pc 20 then (bif Nat.beq pc 17 then some (.invokestatic 90, 30, 0) else none) else (bif Nat.beq pc 20 then some (.iconst 0, 0, 0) else none)) else (bif Nat.blt pc 22 then (bif Nat.beq pc 21 then some (.istore_n 2, 0, 0) else none) else (bif Nat.blt pc 23 then (bif Nat.beq pc 22 then some (.iload_n 2, 0, 0) else none) else (bif Nat.beq pc 23 then some (.iload_n 1, 0, 0) else none)))) else (bif Nat.blt pc 28 then (bif Nat.blt pc 27 then (bif Nat.beq pc 24 then some (.if_icmp .ge 34, 0, 0) else none) else (bif Nat.beq pc 27 then some (.aload_n 0, 0, 0) else none)) else (bif Nat.blt pc 31 then (bif Nat.beq pc 28 then some (.getfield 12, 10, 1) else none) else (bif Nat.blt pc 34 then (bif Nat.beq pc 31 then some (.getfield 146, 1, 3) else none) else (bif Nat.beq pc 34 then some (.ifCond .le 24, 0, 0) else none)))))) else (bif Nat.blt pc 80 then (bif Nat.blt pc 66 then (bif Nat.blt pc 62 then (bif Nat.blt pc 59 then (bif Nat.beq pc 58 then some (.aload_n 0, 0, 0) else none) else (bif Nat.beq pc 59 then some (.getfield 12, 10, 1) else none)) else (bif Nat.blt pc 65 then (bif Nat.beq pc 62 then some (.getfield 161, 1, 4) else none) else (bif Nat.beq pc 65 then some (.aload_n 0, 0, 0) else none))) else (bif Nat.blt pc 72 then (bif Nat.blt pc 69 then (bif Nat.beq pc 66 then some (.getfield 12, 10, 1) else none) else (bif Nat.beq pc 69 then some (.getfield 120, 1, 2) else none)) else (bif Nat.blt pc 75 then (bif Nat.beq pc 72 then some (.if_icmp .ne 7, 0, 0) else none) else (bif Nat.blt pc 76 then (bif Nat.beq pc 75 then some (.iconst 1, 0, 0) else none) else (bif Nat.beq pc 76 then some (.goto 4, 0, 0) else none))))) else (bif Nat.blt pc 96 then (bif Nat.blt pc 82 then (bif Nat.blt pc 81 then (bif Nat.beq pc 80 then some (.istore_n 3, 0, 0) else none) else (bif Nat.beq pc 81 then some (.iload_n 3, 0, 0) else none)) else (bif Nat.blt pc 92 then (bif Nat.beq pc 82 then some (.ifCond .ne 10, 0, 0) else none) else (bif Nat.blt pc 93 then (bif Nat.beq pc 92 then some (.aload_n 0, 0, 0) else none) else (bif Nat.beq pc 93 then some (.invokevirtual 164, 40, 0) else none)))) else (bif Nat.blt pc 100 then (bif Nat.blt pc 97 then (bif Nat.beq pc 96 then some (.iload_n 3, 0, 0) else none) else (bif Nat.beq pc 97 then some (.ifCond .eq 7, 0, 0) else none)) else (bif Nat.blt pc 101 then (bif Nat.beq pc 100 then some (.iconst 1, 0, 0) else none) else (bif Nat.blt pc 105 then (bif Nat.beq pc 101 then some (.goto 4, 0, 0) else none) else (bif Nat.beq pc 105 then some (.ireturn, 0, 0) else none))))))
def rz_c33 (pc : Nat) : Option rz_I := bif Nat.blt pc 102 then (bif Nat.blt pc 53 then (bif Nat.blt pc 24 then (bif Nat.blt pc 12 then (bif Nat.blt pc 5 then (bif Nat.blt pc 1 then (bif Nat.beq pc 0 then some (.aload_n 0, 0, 0) else none) else (bif Nat.blt pc 4 then (bif Nat.beq pc 1 then some (.invokespecial 3, 0, 1) else none) else (bif Nat.beq pc 4 then some (.aload_n 0, 0, 0) else none))) else (bif Nat.blt pc 8 then (bif Nat.beq pc 5 then some (.new 9, 1, 0) else none) else (bif Nat.blt pc 9 then (bif Nat.beq pc 8 then some (.dup, 0, 0) else none) else (bif Nat.beq pc 9 then some (.invokespecial 11, 88, 0) else none)))) else (bif Nat.blt pc 18 then (bif Nat.blt pc 15 then (bif Nat.beq pc 12 then some (.putfield 12, 10, 1) else none) else (bif Nat.blt pc 16 then (bif Nat.beq pc 15 then some (.aload_n 0, 0, 0) else none) else (bif Nat.beq pc 16 then some (.bipush 32, 0, 0) else none))) else (bif Nat.blt pc 20 then (bif Nat.beq pc 18 then some (.newarray .long, 0, 0) else none) else (bif Nat.blt pc 23 then (bif Nat.beq pc 20 then some (.putfield 16, 10, 2) else none) else (bif Nat.beq pc 23 then some (.aload_n 0, 0, 0) else none))))) else (bif Nat.blt pc 38 then (bif Nat.blt pc 32 then (bif Nat.blt pc 26 then (bif Nat.beq pc 24 then some (.bipush 8, 0, 0) else none) else (bif Nat.blt pc 29 then (bif Nat.beq pc 26 then some (.anewarray 20, 4, 0) else none) else (bif Nat.beq pc 29 then some (.putfield 22, 10, 3) else none))) else (bif Nat.blt pc 33 then (bif Nat.beq pc 32 then some (.aload_n 0, 0, 0) else none) else (bif Nat.blt pc 35 then (bif Nat.beq pc 33 then some (.bipush 8, 0, 0) else none) else (bif Nat.beq pc 35 then some (.anewarray 26, 3, 0) else none)))) else (bif Nat.blt pc 44 then (bif Nat.blt pc 41 then (bif Nat.beq pc 38 then some (.putfield 28, 10, 4) else none) else (bif Nat.blt pc 42 then (bif Nat.beq pc 41 then some (.aload_n 0, 0, 0) else none) else (bif Nat.beq pc 42 then some (.bipush 8, 0, 0) else none))) else (bif Nat.blt pc 50 then (bif Nat.blt pc 47 then (bif Nat.beq pc 44 then some (.anewarray 32, 8, 0) else none) else (bif Nat.beq pc 47 then some (.putfield 34, 10, 5) else none)) else (bif Nat.blt pc 51 then (bif Nat.beq pc 50 then some (.aload_n 0, 0, 0) else none) else (bif Nat.beq pc 51 then some (.bipush 8, 0, 0) else none)))))) else (bif Nat.blt pc 81 then (bif Nat.blt pc 67 then (bif Nat.blt pc 60 then (bif Nat.blt pc 56 then (bif Nat.beq pc 53 then some (.anewarray 38, 0, 0) else none) else (bif Nat.blt pc 59 then (bif Nat.beq pc 56 then some (.putfield 40, 10, 6) else none) else (bif Nat.beq pc 59 then some (.aload_n 0, 0, 0) else none))) else (bif Nat.blt pc 63 then (bif Nat.beq pc 60 then some (.new 44, 7, 0) else none) else (bif Nat.blt pc 64 then (bif Nat.beq pc 63 then some (.dup, 0, 0) else none) else (bif Nat.beq pc 64 then some (.invokespecial 46, 102, 0) else none)))) else (bif Nat.blt pc 74 then (bif Nat.blt pc 70 then (bif Nat.beq pc 67 then some (.putfield 47, 10, 7) else none) else (bif Nat.blt pc 71 then (bif Nat.beq pc 70 then some (.aload_n 0, 0, 0) else none) else (bif Nat.beq pc 71 then some (.new 51, 5, 0) else none))) else (bif Nat.blt pc 75 then (bif Nat.beq pc 74 then some (.dup, 0, 0) else none) else (bif Nat.blt pc 78 then (bif Nat.beq pc 75 then some (.invokespecial 53, 98, 0) else none) else (bif Nat.beq pc 78 then some (.putfield 54, 10, 8) else none))))) else (bif Nat.blt pc 91 then (bif Nat.blt pc 86 then (bif Nat.blt pc 82 then (bif Nat.beq pc 81 then some (.aload_n 0, 0, 0) else none) else (bif Nat.blt pc 83 then (bif Nat.beq pc 82 then some (.iconst 0, 0, 0) else none) else (bif Nat.beq pc 83 then some (.putfield 58, 10, 9) else none))) else (bif Nat.blt pc 87 then (bif Nat.beq pc 86 then some (.aload_n 0, 0, 0) else none) else (bif Nat.blt pc 88 then (bif Nat.beq pc 87 then some (.iconst 0, 0, 0) else none) else (bif Nat.beq pc 88 then some (.putfield 62, 10, 10) else none)))) else (bif Nat.blt pc 96 then (bif Nat.blt pc 92 then (bif Nat.beq pc 91 then some (.aload_n 0, 0, 0) else none) else (bif Nat.blt pc 93 then (bif Nat.beq pc 92 then some (.iconst (-1), 0, 0) else none) else (bif Nat.beq pc 93 then some (.putfield 65, 10, 11) else none))) else (bif Nat.blt pc 98 then (bif Nat.blt pc 97 then (bif Nat.beq pc 96 then some (.aload_n 0, 0, 0) else none) else (bif Nat.beq pc 97 then some (.iconst 1, 0, 0) else none)) else (bif Nat.blt pc 101 then (bif Nat.beq pc 98 then some (.sipush 1000, 0, 0) else none) else (bif Nat.beq pc 101 then some (.iload_n 1, 0, 0) else none))))))) else (bif Nat.blt pc 148 then (bif Nat.blt pc 127 then (bif Nat.blt pc 114 then (bif Nat.blt pc 111 then (bif Nat.blt pc 105 then (bif Nat.beq pc 102 then some (.invokestatic 68, 2, 0) else none) else (bif Nat.blt pc 108 then (bif Nat.beq pc 105 then some (.invokestatic 74, 1, 0) else none) else (bif Nat.beq pc 108 then some (.putfield 77, 10, 0) else none))) else (bif Nat.blt pc 112 then (bif Nat.beq pc 111 then some (.iconst 0, 0, 0) else none) else (bif Nat.blt pc 113 then (bif Nat.beq pc 112 then some (.istore_n 2, 0, 0) else none) else (bif Nat.beq pc 113 then some (.iload_n 2, 0, 0) else none)))) else (bif Nat.blt pc 120 then (bif Nat.blt pc 116 then (bif Nat.beq pc 114 then some (.bipush 8, 0, 0) else none) else (bif Nat.blt pc 119 then (bif Nat.beq pc 116 then some (.if_icmp .ge 81, 0, 0) else none) else (bif Nat.beq pc 119 then some (.aload_n 0, 0, 0) else none))) else (bif Nat.blt pc 123 then (bif Nat.beq pc 120 then some (.getfield 22, 10, 3) else none) else (bif Nat.blt pc 124 then (bif Nat.beq pc 123 then some (.iload_n 2, 0, 0) else none) else (bif Nat.beq pc 124 then some (.new 20, 4, 0) else none))))) else (bif Nat.blt pc 137 then (bif Nat.blt pc 130 then (bif Nat.blt pc 128 then (bif Nat.beq pc 127 then some (.dup, 0, 0) else none) else (bif Nat.blt pc 129 then (bif Nat.beq pc 128 then some (.iload_n 2, 0, 0) else none) else (bif Nat.beq pc 129 then some (.aload_n 0, 0, 0) else none))) else (bif Nat.blt pc 133 then (bif Nat.beq pc 130 then some (.getfield 12, 10, 1) else none) else (bif Nat.blt pc 136 then (bif Nat.beq pc 133 then some (.invokespecial 80, 97, 0) else none) else (bif Nat.beq pc 136 then some (.aastore, 0, 0) else none)))) else (bif Nat.blt pc 142 then (bif Nat.blt pc 138 then (bif Nat.beq pc 137 then some (.aload_n 0, 0, 0) else none) else (bif Nat.blt pc 141 then (bif Nat.beq pc 138 then some (.getfield 28, 10, 4) else none) else (bif Nat.beq pc 141 then some (.iload_n 2, 0, 0) else none))) else (bif Nat.blt pc 146 then (bif Nat.blt pc 145 then (bif Nat.beq pc 142 then some (.new 26, 3, 0) else none) else (bif Nat.beq pc 145 then some (.dup, 0, 0) else none)) else (bif Nat.blt pc 147 then (bif Nat.beq pc 146 then some (.iload_n 2, 0, 0) else none) else (bif Nat.beq pc 147 then some (.aload_n 0, 0, 0) else none)))))) else (bif Nat.blt pc 173 then (bif Nat.blt pc 160 then (bif Nat.blt pc 155 then (bif Nat.blt pc 151 then (bif Nat.beq pc 148 then some (.getfield 12, 10, 1) else none) else (bif Nat.blt pc 154 then (bif Nat.beq pc 151 then some (.invokespecial 83, 96, 0) else none) else (bif Nat.beq pc 154 then some (.aastore, 0, 0) else none))) else (bif Nat.blt pc 156 then (bif Nat.beq pc 155 then some (.aload_n 0, 0, 0) else none) else (bif Nat.blt pc 159 then (bif Nat.beq pc 156 then some (.getfield 34, 10, 5) else none) else (bif Nat.beq pc 159 then some (.iload_n 2, 0, 0) else none)))) else (bif Nat.blt pc 165 then (bif Nat.blt pc 163 then (bif Nat.beq pc 160 then some (.new 32, 8, 0) else none) else (bif Nat.blt pc 164 then (bif Nat.beq pc 163 then some (.dup, 0, 0) else none) else (bif Nat.beq pc 164 then some (.iload_n 2, 0, 0) else none))) else (bif Nat.blt pc 169 then (bif Nat.blt pc 166 then (bif Nat.beq pc 165 then some (.aload_n 0, 0, 0) else none) else (bif Nat.beq pc 166 then some (.getfield 12, 10, 1) else none)) else (bif Nat.blt pc 172 then (bif Nat.beq pc 169 then some (.invokespecial 84, 104, 0) else none) else (bif Nat.beq pc 172 then some (.aastore, 0, 0) else none))))) else (bif Nat.blt pc 183 then (bif Nat.blt pc 178 then (bif Nat.blt pc 174 then (bif Nat.beq pc 173 then some (.aload_n 0, 0, 0) else none) else (bif Nat.blt pc 177 then (bif Nat.beq pc 174 then some (.getfield 40, 10, 6) else none) else (bif Nat.beq pc 177 then some (.iload_n 2, 0, 0) else none))) else (bif Nat.blt pc 181 then (bif Nat.beq pc 178 then some (.new 38, 0, 0) else none) else (bif Nat.blt pc 182 then (bif Nat.beq pc 181 then some (.dup, 0, 0) else none) else (bif Nat.beq pc 182 then some (.iload_n 2, 0, 0) else none)))) else (bif Nat.blt pc 190 then (bif Nat.blt pc 184 then (bif Nat.beq pc 183 then some (.aload_n 0, 0, 0) else none) else (bif Nat.blt pc 187 then (bif Nat.beq pc 184 then some (.getfield 12, 10, 1) else none) else (bif Nat.beq pc 187 then some (.invokespecial 85, 25, 0) else none))) else (bif Nat.blt pc 194 then (bif Nat.blt pc 191 then (bif Nat.beq pc 190 then some (.aastore, 0, 0) else none) else (bif Nat.beq pc 191 then some (.iinc 2 1, 0, 0) else none)) else (bif Nat.blt pc 197 then (bif Nat.beq pc 194 then some (.goto (-81), 0, 0) else none) else (bif Nat.beq pc 197 then some (.return_, 0, 0) else none)))))))
def rz_c34 (pc : Nat) : Option rz_I := bif Nat.blt pc 3 then (bif Nat.blt pc 1 then (bif Nat.beq pc 0 then some (.iload_n 1, 0, 0) else none) else (bif Nat.blt pc 2 then (bif Nat.beq pc 1 then some (.i2l, 0, 0) else none) else (bif Nat.beq pc 2 then some (.aload_n 0, 0, 0) else none))) else (bif Nat.blt pc 9 then (bif Nat.blt pc 6 then (bif Nat.beq pc 3 then some (.getfield 12, 10, 1) else none) else (bif Nat.beq pc 6 then some (.getfield 120, 1, 2) else none)) else (bif Nat.blt pc 12 then (bif Nat.beq pc 9 then some (.invokestatic 86, 35, 0) else none) else (bif Nat.beq pc 12 then some (.invokestatic 90, 30, 0) else none)))
def rz_c35 (pc : Nat) : Option rz_I := bif Nat.blt pc 8 then (bif Nat.blt pc 3 then (bif Nat.blt pc 1 then (bif Nat.beq pc 0 then some (.lload_n 0, 0, 0) else none) else (bif Nat.blt pc 2 then (bif Nat.beq pc 1 then some (.lconst 0, 0, 0) else none) else (bif Nat.beq pc 2 then some (.lcmp, 0, 0) else none))) else (bif Nat.blt pc 6 then (bif Nat.beq pc 3 then some (.ifCond .lt 14, 0, 0) else none) else (bif Nat.blt pc 7 then (bif Nat.beq pc 6 then some (.lload_n 0, 0, 0) else none) else (bif Nat.beq pc 7 then some (.iload_n 2, 0, 0) else none)))) else (bif Nat.blt pc 13 then (bif Nat.blt pc 9 then (bif Nat.beq pc 8 then some (.i2l, 0, 0) else none) else (bif Nat.blt pc 10 then (bif Nat.beq pc 9 then some (.lcmp, 0, 0) else none) else (bif Nat.beq pc 10 then some (.ifCond .ge 7, 0, 0) else none))) else (bif Nat.blt pc 17 then (bif Nat.blt pc 14 then (bif Nat.beq pc 13 then some (.iconst 1, 0, 0) else none) else (bif Nat.beq pc 14 then some (.goto 4, 0, 0) else none)) else (bif Nat.blt pc 18 then (bif Nat.beq pc 17 then some (.iconst 0, 0, 0) else none) else (bif Nat.beq pc 18 then some (.ireturn, 0, 0) else none))))
def rz_c36 (pc : Nat) : Option rz_I := bif Nat.blt pc 34 then (bif Nat.blt pc 16 then (bif Nat.blt pc 7 then (bif Nat.blt pc 2 then (bif Nat.blt pc 1 then (bif Nat.beq pc 0 then some (.iload_n 1, 0, 0) else none) else (bif Nat.beq pc 1 then some (.i2l, 0, 0) else none)) else (bif Nat.blt pc 4 then (bif Nat.beq pc 2 then some (.bipush 8, 0, 0) else none) else (bif Nat.beq pc 4 then some (.invokestatic 86, 35, 0) else none))) else (bif Nat.blt pc 11 then (bif Nat.blt pc 10 then (bif Nat.beq pc 7 then some (.ifCond .eq 16, 0, 0) else none) else (bif Nat.beq pc 10 then some (.iload_n 2, 0, 0) else none)) else (bif Nat.blt pc 12 then (bif Nat.beq pc 11 then some (.i2l, 0, 0) else none) else (bif Nat.blt pc 13 then (bif Nat.beq pc 12 then some (.iconst 5, 0, 0) else none) else (bif Nat.beq pc 13 then some (.invokestatic 86, 35, 0) else none))))) else (bif Nat.blt pc 27 then (bif Nat.blt pc 20 then (bif Nat.blt pc 19 then (bif Nat.beq pc 16 then some (.ifCond .eq 7, 0, 0) else none) else (bif Nat.beq pc 19 then some (.iconst 1, 0, 0) else none)) else (bif Nat.blt pc 23 then (bif Nat.beq pc 20 then some (.goto 4, 0, 0) else none) else (bif Nat.blt pc 24 then (bif Nat.beq pc 23 then some (.iconst 0, 0, 0) else none) else (bif Nat.beq pc 24 then some (.invokestatic 90, 30, 0) else none)))) else (bif Nat.blt pc 31 then (bif Nat.blt pc 28 then (bif Nat.beq pc 27 then some (.aload_n 0, 0, 0) else none) else (bif Nat.beq pc 28 then some (.getfield 28, 10, 4) else none)) else (bif Nat.blt pc 32 then (bif Nat.beq pc 31 then some (.iload_n 1, 0, 0) else none) else (bif Nat.blt pc 33 then (bif Nat.beq pc 32 then some (.aaload, 0, 0) else none) else (bif Nat.beq pc 33 then some (.astore_n 3, 0, 0) else none)))))) else (bif Nat.blt pc 75 then (bif Nat.blt pc 68 then (bif Nat.blt pc 64 then (bif Nat.blt pc 35 then (bif Nat.beq pc 34 then some (.iload_n 2, 0, 0) else none) else (bif Nat.beq pc 35 then some (.tableswitch 52 0 3 #[29, 34, 39, 44], 0, 0) else none)) else (bif Nat.blt pc 65 then (bif Nat.beq pc 64 then some (.aload_n 3, 0, 0) else none) else (bif Nat.beq pc 65 then some (.getfield 250, 3, 3) else none))) else (bif Nat.blt pc 70 then (bif Nat.blt pc 69 then (bif Nat.beq pc 68 then some (.ireturn, 0, 0) else none) else (bif Nat.beq pc 69 then some (.aload_n 3, 0, 0) else none)) else (bif Nat.blt pc 73 then (bif Nat.beq pc 70 then some (.getfield 253, 3, 4) else none) else (bif Nat.blt pc 74 then (bif Nat.beq pc 73 then some (.ireturn, 0, 0) else none) else (bif Nat.beq pc 74 then some (.aload_n 3, 0, 0) else none))))) else (bif Nat.blt pc 86 then (bif Nat.blt pc 79 then (bif Nat.blt pc 78 then (bif Nat.beq pc 75 then some (.getfield 256, 3, 5) else none) else (bif Nat.beq pc 78 then some (.ireturn, 0, 0) else none)) else (bif Nat.blt pc 80 then (bif Nat.beq pc 79 then some (.aload_n 3, 0, 0) else none) else (bif Nat.blt pc 83 then (bif Nat.beq pc 80 then some (.getfield 259, 3, 2) else none) else (bif Nat.beq pc 83 then some (.getfield 201, 2, 2) else none)))) else (bif Nat.blt pc 88 then (bif Nat.blt pc 87 then (bif Nat.beq pc 86 then some (.ireturn, 0, 0) else none) else (bif Nat.beq pc 87 then some (.aload_n 3, 0, 0) else none)) else (bif Nat.blt pc 91 then (bif Nat.beq pc 88 then some (.getfield 259, 3, 2) else none) else (bif Nat.blt pc 94 then (bif Nat.beq pc 91 then some (.invokevirtual 246, 94, 0) else none) else (bif Nat.beq pc 94 then some (.ireturn, 0, 0) else none))))))
def rz_c37 (pc : Nat) : Option rz_I := bif Nat.blt pc 72 then (bif Nat.blt pc 20 then (bif Nat.blt pc 10 then (bif Nat.blt pc 2 then (bif Nat.blt pc 1 then (bif Nat.beq pc 0 then some (.iload_n 1, 0, 0) else none) else (bif Nat.beq pc 1 then some (.i2l, 0, 0) else none)) else (bif Nat.blt pc 4 then (bif Nat.beq pc 2 then some (.bipush 8, 0, 0) else none) else (bif Nat.blt pc 7 then (bif Nat.beq pc 4 then some (.invokestatic 86, 35, 0) else none) else (bif Nat.beq pc 7 then some (.ifCond .eq 17, 0, 0) else none)))) else (bif Nat.blt pc 12 then (bif Nat.blt pc 11 then (bif Nat.beq pc 10 then some (.iload_n 2, 0, 0) else none) else (bif Nat.beq pc 11 then some (.i2l, 0, 0) else none)) else (bif Nat.blt pc 14 then (bif Nat.beq pc 12 then some (.bipush 6, 0, 0) else none) else (bif Nat.blt pc 17 then (bif Nat.beq pc 14 then some (.invokestatic 86, 35, 0) else none) else (bif Nat.beq pc 17 then some (.ifCond .eq 7, 0, 0) else none))))) else (bif Nat.blt pc 29 then (bif Nat.blt pc 24 then (bif Nat.blt pc 21 then (bif Nat.beq pc 20 then some (.iconst 1, 0, 0) else none) else (bif Nat.beq pc 21 then some (.goto 4, 0, 0) else none)) else (bif Nat.blt pc 25 then (bif Nat.beq pc 24 then some (.iconst 0, 0, 0) else none) else (bif Nat.blt pc 28 then (bif Nat.beq pc 25 then some (.invokestatic 90, 30, 0) else none) else (bif Nat.beq pc 28 then some (.aload_n 0, 0, 0) else none)))) else (bif Nat.blt pc 34 then (bif Nat.blt pc 32 then (bif Nat.beq pc 29 then some (.getfield 22, 10, 3) else none) else (bif Nat.blt pc 33 then (bif Nat.beq pc 32 then some (.iload_n 1, 0, 0) else none) else (bif Nat.beq pc 33 then some (.aaload, 0, 0) else none))) else (bif Nat.blt pc 35 then (bif Nat.beq pc 34 then some (.astore_n 3, 0, 0) else none) else (bif Nat.blt pc 36 then (bif Nat.beq pc 35 then some (.iload_n 2, 0, 0) else none) else (bif Nat.beq pc 36 then some (.tableswitch 70 0 4 #[36, 41, 46, 54, 62], 0, 0) else none)))))) else (bif Nat.blt pc 91 then (bif Nat.blt pc 81 then (bif Nat.blt pc 76 then (bif Nat.blt pc 73 then (bif Nat.beq pc 72 then some (.aload_n 3, 0, 0) else none) else (bif Nat.beq pc 73 then some (.getfield 234, 4, 4) else none)) else (bif Nat.blt pc 77 then (bif Nat.beq pc 76 then some (.ireturn, 0, 0) else none) else (bif Nat.blt pc 78 then (bif Nat.beq pc 77 then some (.aload_n 3, 0, 0) else none) else (bif Nat.beq pc 78 then some (.getfield 237, 4, 5) else none)))) else (bif Nat.blt pc 86 then (bif Nat.blt pc 82 then (bif Nat.beq pc 81 then some (.ireturn, 0, 0) else none) else (bif Nat.blt pc 83 then (bif Nat.beq pc 82 then some (.aload_n 3, 0, 0) else none) else (bif Nat.beq pc 83 then some (.getfield 240, 4, 2) else none))) else (bif Nat.blt pc 89 then (bif Nat.beq pc 86 then some (.getfield 201, 2, 2) else none) else (bif Nat.blt pc 90 then (bif Nat.beq pc 89 then some (.ireturn, 0, 0) else none) else (bif Nat.beq pc 90 then some (.aload_n 3, 0, 0) else none))))) else (bif Nat.blt pc 102 then (bif Nat.blt pc 97 then (bif Nat.blt pc 94 then (bif Nat.beq pc 91 then some (.getfield 243, 4, 3) else none) else (bif Nat.beq pc 94 then some (.getfield 201, 2, 2) else none)) else (bif Nat.blt pc 98 then (bif Nat.beq pc 97 then some (.ireturn, 0, 0) else none) else (bif Nat.blt pc 99 then (bif Nat.beq pc 98 then some (.aload_n 3, 0, 0) else none) else (bif Nat.beq pc 99 then some (.getfield 240, 4, 2) else none)))) else (bif Nat.blt pc 107 then (bif Nat.blt pc 105 then (bif Nat.beq pc 102 then some (.invokevirtual 246, 94, 0) else none) else (bif Nat.blt pc 106 then (bif Nat.beq pc 105 then some (.ireturn, 0, 0) else none) else (bif Nat.beq pc 106 then some (.aload_n 3, 0, 0) else none))) else (bif Nat.blt pc 110 then (bif Nat.beq pc 107 then some (.getfield 243, 4, 3) else none) else (bif Nat.blt pc 113 then (bif Nat.beq pc 110 then some (.invokevirtual 246, 94, 0) else none) else (bif Nat.beq pc 113 then some (.ireturn, 0, 0) else none))))))
def rz_c38 (pc : Nat) : Option rz_I := bif Nat.blt pc 6 then (bif Nat.blt pc 2 then (bif Nat.blt pc 1 then (bif Nat.beq pc 0 then some (.iload_n 1, 0, 0) else none) else (bif Nat.beq pc 1 then some (.i2l, 0, 0) else none)) else (bif Nat.blt pc 3 then (bif Nat.beq pc 2 then some (.aload_n 0, 0, 0) else none) else (bif Nat.beq pc 3 then some (.getfield 54, 10, 8) else none))) else (bif Nat.blt pc 12 then (bif Nat.blt pc 9 then (bif Nat.beq pc 6 then some (.invokevirtual 272, 99, 0) else none) else (bif Nat.beq pc 9 then some (.invokestatic 86, 35, 0) else none)) else (bif Nat.blt pc 15 then (bif Nat.beq pc 12 then some (.ifCond .ne 7, 0, 0) else none) else (bif Nat.blt pc 18 then (bif Nat.beq pc 15 then some (.ldc2_w 275, 0, (-1)) else none) else (bif Nat.beq pc 18 then some (.lreturn, 0, 0) else none))))
def rz_c39 (pc : Nat) : Option rz_I := bif Nat.blt pc 29 then (bif Nat.blt pc 12 then (bif Nat.blt pc 4 then (bif Nat.blt pc 1 then (bif Nat.beq pc 0 then some (.iload_n 1, 0, 0) else none) else (bif Nat.blt pc 2 then (bif Nat.beq pc 1 then some (.i2l, 0, 0) else none) else (bif Nat.beq pc 2 then some (.bipush 8, 0, 0) else none))) else (bif Nat.blt pc 10 then (bif Nat.blt pc 7 then (bif Nat.beq pc 4 then some (.invokestatic 86, 35, 0) else none) else (bif Nat.beq pc 7 then some (.ifCond .eq 18, 0, 0) else none)) else (bif Nat.blt pc 11 then (bif Nat.beq pc 10 then some (.iload_n 2, 0, 0) else none) else (bif Nat.beq pc 11 then some (.iconst 1, 0, 0) else none)))) else (bif Nat.blt pc 21 then (bif Nat.blt pc 16 then (bif Nat.blt pc 15 then (bif Nat.beq pc 12 then some (.if_icmp .lt 13, 0, 0) else none) else (bif Nat.beq pc 15 then some (.iload_n 2, 0, 0) else none)) else (bif Nat.blt pc 18 then (bif Nat.beq pc 16 then some (.bipush 64, 0, 0) else none) else (bif Nat.beq pc 18 then some (.if_icmp .gt 7, 0, 0) else none))) else (bif Nat.blt pc 25 then (bif Nat.blt pc 22 then (bif Nat.beq pc 21 then some (.iconst 1, 0, 0) else none) else (bif Nat.beq pc 22 then some (.goto 4, 0, 0) else none)) else (bif Nat.blt pc 26 then (bif Nat.beq pc 25 then some (.iconst 0, 0, 0) else none) else (bif Nat.beq pc 26 then some (.invokestatic 90, 30, 0) else none))))) else (bif Nat.blt pc 54 then (bif Nat.blt pc 34 then (bif Nat.blt pc 30 then (bif Nat.beq pc 29 then some (.aload_n 0, 0, 0) else none) else (bif Nat.blt pc 33 then (bif Nat.beq pc 30 then some (.getfield 40, 10, 6) else none) else (bif Nat.beq pc 33 then some (.iload_n 1, 0, 0) else none))) else (bif Nat.blt pc 38 then (bif Nat.blt pc 35 then (bif Nat.beq pc 34 then some (.aaload, 0, 0) else none) else (bif Nat.beq pc 35 then some (.getfield 197, 0, 2) else none)) else (bif Nat.blt pc 41 then (bif Nat.beq pc 38 then some (.getfield 201, 2, 2) else none) else (bif Nat.beq pc 41 then some (.ifCond .le 13, 0, 0) else none)))) else (bif Nat.blt pc 60 then (bif Nat.blt pc 58 then (bif Nat.blt pc 55 then (bif Nat.beq pc 54 then some (.aload_n 0, 0, 0) else none) else (bif Nat.beq pc 55 then some (.getfield 40, 10, 6) else none)) else (bif Nat.blt pc 59 then (bif Nat.beq pc 58 then some (.iload_n 1, 0, 0) else none) else (bif Nat.beq pc 59 then some (.aaload, 0, 0) else none))) else (bif Nat.blt pc 64 then (bif Nat.blt pc 61 then (bif Nat.beq pc 60 then some (.iload_n 2, 0, 0) else none) else (bif Nat.beq pc 61 then some (.putfield 206, 0, 3) else none)) else (bif Nat.blt pc 65 then (bif Nat.beq pc 64 then some (.iconst 0, 0, 0) else none) else (bif Nat.beq pc 65 then some (.ireturn, 0, 0) else none)))))
def rz_c40 (pc : Nat) : Option rz_I := bif Nat.blt pc 9 then (bif Nat.blt pc 2 then (bif Nat.blt pc 1 then (bif Nat.beq pc 0 then some (.iconst 0, 0, 0) else none) else (bif Nat.beq pc 1 then some (.istore_n 1, 0, 0) else none)) else (bif Nat.blt pc 3 then (bif Nat.beq pc 2 then some (.iload_n 1, 0, 0) else none) else (bif Nat.blt pc 6 then (bif Nat.beq pc 3 then some (.sipush 256, 0, 0) else none) else (bif Nat.beq pc 6 then some (.if_icmp .ge 48, 0, 0) else none)))) else (bif Nat.blt pc 13 then (bif Nat.blt pc 10 then (bif Nat.beq pc 9 then some (.aload_n 0, 0, 0) else none) else (bif Nat.beq pc 10 then some (.getfield 47, 10, 7) else none)) else (bif Nat.blt pc 16 then (bif Nat.beq pc 13 then some (.getfield 140, 7, 3) else none) else (bif Nat.blt pc 54 then (bif Nat.beq pc 16 then some (.ifCond .le 38, 0, 0) else none) else (bif Nat.beq pc 54 then some (.return_, 0, 0) else none))))
def rz_c41 (pc : Nat) : Option rz_I := bif Nat.blt pc 23 then (bif Nat.blt pc 11 then (bif Nat.blt pc 4 then (bif Nat.blt pc 1 then (bif Nat.beq pc 0 then some (.iload_n 1, 0, 0) else none) else (bif Nat.blt pc 2 then (bif Nat.beq pc 1 then some (.i2l, 0, 0) else none) else (bif Nat.beq pc 2 then some (.bipush 16, 0, 0) else none))) else (bif Nat.blt pc 7 then (bif Nat.beq pc 4 then some (.invokestatic 86, 35, 0) else none) else (bif Nat.blt pc 10 then (bif Nat.beq pc 7 then some (.invokestatic 90, 30, 0) else none) else (bif Nat.beq pc 10 then some (.aload_n 0, 0, 0) else none)))) else (bif Nat.blt pc 18 then (bif Nat.blt pc 14 then (bif Nat.beq pc 11 then some (.getfield 12, 10, 1) else none) else (bif Nat.blt pc 17 then (bif Nat.beq pc 14 then some (.getfield 94, 1, 0) else none) else (bif Nat.beq pc 17 then some (.iload_n 1, 0, 0) else none))) else (bif Nat.blt pc 19 then (bif Nat.beq pc 18 then some (.aaload, 0, 0) else none) else (bif Nat.blt pc 21 then (bif Nat.beq pc 19 then some (.astore 7, 0, 0) else none) else (bif Nat.beq pc 21 then some (.aload 7, 0, 0) else none))))) else (bif Nat.blt pc 46 then (bif Nat.blt pc 42 then (bif Nat.blt pc 26 then (bif Nat.beq pc 23 then some (.getfield 98, 6, 0) else none) else (bif Nat.blt pc 29 then (bif Nat.beq pc 26 then some (.sipush 200, 0, 0) else none) else (bif Nat.beq pc 29 then some (.if_icmp .lt 13, 0, 0) else none))) else (bif Nat.blt pc 44 then (bif Nat.beq pc 42 then some (.aload 7, 0, 0) else none) else (bif Nat.blt pc 45 then (bif Nat.beq pc 44 then some (.iload_n 2, 0, 0) else none) else (bif Nat.beq pc 45 then some (.lload_n 3, 0, 0) else none)))) else (bif Nat.blt pc 53 then (bif Nat.blt pc 48 then (bif Nat.beq pc 46 then some (.lload 5, 0, 0) else none) else (bif Nat.blt pc 51 then (bif Nat.beq pc 48 then some (.invokevirtual 110, 100, 0) else none) else (bif Nat.beq pc 51 then some (.aload 7, 0, 0) else none))) else (bif Nat.blt pc 57 then (bif Nat.blt pc 56 then (bif Nat.beq pc 53 then some (.getfield 98, 6, 0) else none) else (bif Nat.beq pc 56 then some (.iconst 1, 0, 0) else none)) else (bif Nat.blt pc 58 then (bif Nat.beq pc 57 then some (.isub, 0, 0) else none) else (bif Nat.beq pc 58 then some (.ireturn, 0, 0) else none)))))
def rz_c42 (pc : Nat) : Option rz_I := bif Nat.blt pc 6 then (bif Nat.blt pc 2 then (bif Nat.blt pc 1 then (bif Nat.beq pc 0 then some (.iload_n 1, 0, 0) else none) else (bif Nat.beq pc 1 then some (.i2l, 0, 0) else none)) else (bif Nat.blt pc 3 then (bif Nat.beq pc 2 then some (.aload_n 0, 0, 0) else none) else (bif Nat.beq pc 3 then some (.getfield 12, 10, 1) else none))) else (bif Nat.blt pc 12 then (bif Nat.blt pc 9 then (bif Nat.beq pc 6 then some (.getfield 120, 1, 2) else none) else (bif Nat.beq pc 9 then some (.invokestatic 86, 35, 0) else none)) else (bif Nat.blt pc 28 then (bif Nat.beq pc 12 then some (.ifCond .eq 16, 0, 0) else none) else (bif Nat.blt pc 29 then (bif Nat.beq pc 28 then some (.iconst 0, 0, 0) else none) else (bif Nat.beq pc 29 then some (.invokestatic 90, 30, 0) else none))))
def rz_c43 (pc : Nat) : Option rz_I := bif Nat.blt pc 3 then (bif Nat.blt pc 1 then (bif Nat.beq pc 0 then some (.iload_n 1, 0, 0) else none) else (bif Nat.blt pc 2 then (bif Nat.beq pc 1 then some (.i2l, 0, 0) else none) else (bif Nat.beq pc 2 then some (.aload_n 0, 0, 0) else none))) else (bif Nat.blt pc 9 then (bif Nat.blt pc 6 then (bif Nat.beq pc 3 then some (.getfield 12, 10, 1) else none) else (bif Nat.beq pc 6 then some (.getfield 120, 1, 2) else none)) else (bif Nat.blt pc 12 then (bif Nat.beq pc 9 then some (.invokestatic 86, 35, 0) else none) else (bif Nat.beq pc 12 then some (.invokestatic 90, 30, 0) else none)))
def rz_c44 (pc : Nat) : Option rz_I := bif Nat.blt pc 6 then (bif Nat.blt pc 2 then (bif Nat.blt pc 1 then (bif Nat.beq pc 0 then some (.iload_n 1, 0, 0) else none) else (bif Nat.beq pc 1 then some (.i2l, 0, 0) else none)) else (bif Nat.blt pc 3 then (bif Nat.beq pc 2 then some (.aload_n 0, 0, 0) else none) else (bif Nat.beq pc 3 then some (.getfield 12, 10, 1) else none))) else (bif Nat.blt pc 12 then (bif Nat.blt pc 9 then (bif Nat.beq pc 6 then some (.getfield 120, 1, 2) else none) else (bif Nat.beq pc 9 then some (.invokestatic 86, 35, 0) else none)) else (bif Nat.blt pc 31 then (bif Nat.beq pc 12 then some (.ifCond .eq 19, 0, 0) else none) else (bif Nat.blt pc 32 then (bif Nat.beq pc 31 then some (.iconst 0, 0, 0) else none) else (bif Nat.beq pc 32 then some (.invokestatic 90, 30, 0) else none))))
def rz_c45 (pc : Nat) : Option rz_I := bif Nat.blt pc 28 then (bif Nat.blt pc 12 then (bif Nat.blt pc 4 then (bif Nat.blt pc 1 then (bif Nat.beq pc 0 then some (.iload_n 1, 0, 0) else none) else (bif Nat.blt pc 2 then (bif Nat.beq pc 1 then some (.i2l, 0, 0) else none) else (bif Nat.beq pc 2 then some (.bipush 8, 0, 0) else none))) else (bif Nat.blt pc 10 then (bif Nat.blt pc 7 then (bif Nat.beq pc 4 then some (.invokestatic 86, 35, 0) else none) else (bif Nat.beq pc 7 then some (.ifCond .eq 16, 0, 0) else none)) else (bif Nat.blt pc 11 then (bif Nat.beq pc 10 then some (.iload_n 2, 0, 0) else none) else (bif Nat.beq pc 11 then some (.i2l, 0, 0) else none)))) else (bif Nat.blt pc 20 then (bif Nat.blt pc 16 then (bif Nat.blt pc 13 then (bif Nat.beq pc 12 then some (.iconst 2, 0, 0) else none) else (bif Nat.beq pc 13 then some (.invokestatic 86, 35, 0) else none)) else (bif Nat.blt pc 19 then (bif Nat.beq pc 16 then some (.ifCond .eq 7, 0, 0) else none) else (bif Nat.beq pc 19 then some (.iconst 1, 0, 0) else none))) else (bif Nat.blt pc 24 then (bif Nat.blt pc 23 then (bif Nat.beq pc 20 then some (.goto 4, 0, 0) else none) else (bif Nat.beq pc 23 then some (.iconst 0, 0, 0) else none)) else (bif Nat.blt pc 27 then (bif Nat.beq pc 24 then some (.invokestatic 90, 30, 0) else none) else (bif Nat.beq pc 27 then some (.aload_n 0, 0, 0) else none))))) else (bif Nat.blt pc 42 then (bif Nat.blt pc 34 then (bif Nat.blt pc 32 then (bif Nat.blt pc 31 then (bif Nat.beq pc 28 then some (.getfield 34, 10, 5) else none) else (bif Nat.beq pc 31 then some (.iload_n 1, 0, 0) else none)) else (bif Nat.blt pc 33 then (bif Nat.beq pc 32 then some (.aaload, 0, 0) else none) else (bif Nat.beq pc 33 then some (.astore_n 3, 0, 0) else none))) else (bif Nat.blt pc 38 then (bif Nat.blt pc 35 then (bif Nat.beq pc 34 then some (.iload_n 2, 0, 0) else none) else (bif Nat.beq pc 35 then some (.ifCond .ne 17, 0, 0) else none)) else (bif Nat.blt pc 39 then (bif Nat.beq pc 38 then some (.aload_n 3, 0, 0) else none) else (bif Nat.beq pc 39 then some (.getfield 194, 8, 3) else none)))) else (bif Nat.blt pc 52 then (bif Nat.blt pc 48 then (bif Nat.blt pc 45 then (bif Nat.beq pc 42 then some (.ldc2_w 260, 0, 2147483647) else none) else (bif Nat.beq pc 45 then some (.invokestatic 262, 3, 0) else none)) else (bif Nat.blt pc 49 then (bif Nat.beq pc 48 then some (.l2i, 0, 0) else none) else (bif Nat.beq pc 49 then some (.goto 10, 0, 0) else none))) else (bif Nat.blt pc 56 then (bif Nat.blt pc 53 then (bif Nat.beq pc 52 then some (.aload_n 3, 0, 0) else none) else (bif Nat.beq pc 53 then some (.getfield 265, 8, 2) else none)) else (bif Nat.blt pc 59 then (bif Nat.beq pc 56 then some (.getfield 201, 2, 2) else none) else (bif Nat.beq pc 59 then some (.ireturn, 0, 0) else none)))))
def rz_c46 (pc : Nat) : Option rz_I := bif Nat.blt pc 15 then (bif Nat.blt pc 7 then (bif Nat.blt pc 2 then (bif Nat.blt pc 1 then (bif Nat.beq pc 0 then some (.iload_n 1, 0, 0) else none) else (bif Nat.beq pc 1 then some (.i2l, 0, 0) else none)) else (bif Nat.blt pc 4 then (bif Nat.beq pc 2 then some (.bipush 32, 0, 0) else none) else (bif Nat.beq pc 4 then some (.invokestatic 86, 35, 0) else none))) else (bif Nat.blt pc 11 then (bif Nat.blt pc 10 then (bif Nat.beq pc 7 then some (.invokestatic 90, 30, 0) else none) else (bif Nat.beq pc 10 then some (.aload_n 0, 0, 0) else none)) else (bif Nat.blt pc 14 then (bif Nat.beq pc 11 then some (.getfield 16, 10, 2) else none) else (bif Nat.beq pc 14 then some (.iload_n 1, 0, 0) else none)))) else (bif Nat.blt pc 22 then (bif Nat.blt pc 18 then (bif Nat.blt pc 16 then (bif Nat.beq pc 15 then some (.laload, 0, 0) else none) else (bif Nat.beq pc 16 then some (.lstore 4, 0, 0) else none)) else (bif Nat.blt pc 19 then (bif Nat.beq pc 18 then some (.aload_n 0, 0, 0) else none) else (bif Nat.beq pc 19 then some (.getfield 16, 10, 2) else none))) else (bif Nat.blt pc 24 then (bif Nat.blt pc 23 then (bif Nat.beq pc 22 then some (.iload_n 1, 0, 0) else none) else (bif Nat.beq pc 23 then some (.lload_n 2, 0, 0) else none)) else (bif Nat.blt pc 25 then (bif Nat.beq pc 24 then some (.lastore, 0, 0) else none) else (bif Nat.blt pc 27 then (bif Nat.beq pc 25 then some (.lload 4, 0, 0) else none) else (bif Nat.beq pc 27 then some (.lreturn, 0, 0) else none)))))
def rz_c47 (pc : Nat) : Option rz_I := bif Nat.blt pc 3 then (bif Nat.blt pc 1 then (bif Nat.beq pc 0 then some (.iload_n 1, 0, 0) else none) else (bif Nat.blt pc 2 then (bif Nat.beq pc 1 then some (.i2l, 0, 0) else none) else (bif Nat.beq pc 2 then some (.aload_n 0, 0, 0) else none))) else (bif Nat.blt pc 9 then (bif Nat.blt pc 6 then (bif Nat.beq pc 3 then some (.getfield 12, 10, 1) else none) else (bif Nat.beq pc 6 then some (.getfield 120, 1, 2) else none)) else (bif Nat.blt pc 12 then (bif Nat.beq pc 9 then some (.invokestatic 86, 35, 0) else none) else (bif Nat.beq pc 12 then some (.invokestatic 90, 30, 0) else none)))
def rz_c48 (pc : Nat) : Option rz_I := bif Nat.blt pc 29 then (bif Nat.blt pc 14 then (bif Nat.blt pc 4 then (bif Nat.blt pc 1 then (bif Nat.beq pc 0 then some (.iload_n 1, 0, 0) else none) else (bif Nat.blt pc 2 then (bif Nat.beq pc 1 then some (.i2l, 0, 0) else none) else (bif Nat.beq pc 2 then some (.bipush 8, 0, 0) else none))) else (bif Nat.blt pc 10 then (bif Nat.blt pc 7 then (bif Nat.beq pc 4 then some (.invokestatic 86, 35, 0) else none) else (bif Nat.beq pc 7 then some (.ifCond .eq 17, 0, 0) else none)) else (bif Nat.blt pc 11 then (bif Nat.beq pc 10 then some (.iload_n 2, 0, 0) else none) else (bif Nat.beq pc 11 then some (.ifCond .lt 13, 0, 0) else none)))) else (bif Nat.blt pc 21 then (bif Nat.blt pc 17 then (bif Nat.blt pc 15 then (bif Nat.beq pc 14 then some (.iload_n 2, 0, 0) else none) else (bif Nat.beq pc 15 then some (.ldc 167, 0, 1000000) else none)) else (bif Nat.blt pc 20 then (bif Nat.beq pc 17 then some (.if_icmp .gt 7, 0, 0) else none) else (bif Nat.beq pc 20 then some (.iconst 1, 0, 0) else none))) else (bif Nat.blt pc 25 then (bif Nat.blt pc 24 then (bif Nat.beq pc 21 then some (.goto 4, 0, 0) else none) else (bif Nat.beq pc 24 then some (.iconst 0, 0, 0) else none)) else (bif Nat.blt pc 28 then (bif Nat.beq pc 25 then some (.invokestatic 90, 30, 0) else none) else (bif Nat.beq pc 28 then some (.aload_n 0, 0, 0) else none))))) else (bif Nat.blt pc 40 then (bif Nat.blt pc 34 then (bif Nat.blt pc 32 then (bif Nat.beq pc 29 then some (.getfield 34, 10, 5) else none) else (bif Nat.blt pc 33 then (bif Nat.beq pc 32 then some (.iload_n 1, 0, 0) else none) else (bif Nat.beq pc 33 then some (.aaload, 0, 0) else none))) else (bif Nat.blt pc 36 then (bif Nat.blt pc 35 then (bif Nat.beq pc 34 then some (.iload_n 2, 0, 0) else none) else (bif Nat.beq pc 35 then some (.i2l, 0, 0) else none)) else (bif Nat.blt pc 39 then (bif Nat.beq pc 36 then some (.invokevirtual 190, 103, 0) else none) else (bif Nat.beq pc 39 then some (.aload_n 0, 0, 0) else none)))) else (bif Nat.blt pc 50 then (bif Nat.blt pc 46 then (bif Nat.blt pc 43 then (bif Nat.beq pc 40 then some (.getfield 12, 10, 1) else none) else (bif Nat.beq pc 43 then some (.invokevirtual 134, 93, 0) else none)) else (bif Nat.blt pc 47 then (bif Nat.beq pc 46 then some (.aload_n 0, 0, 0) else none) else (bif Nat.beq pc 47 then some (.getfield 34, 10, 5) else none))) else (bif Nat.blt pc 52 then (bif Nat.blt pc 51 then (bif Nat.beq pc 50 then some (.iload_n 1, 0, 0) else none) else (bif Nat.beq pc 51 then some (.aaload, 0, 0) else none)) else (bif Nat.blt pc 55 then (bif Nat.beq pc 52 then some (.getfield 194, 8, 3) else none) else (bif Nat.beq pc 55 then some (.lreturn, 0, 0) else none)))))
def rz_c49 (pc : Nat) : Option rz_I := bif Nat.blt pc 6 then (bif Nat.blt pc 2 then (bif Nat.blt pc 1 then (bif Nat.beq pc 0 then some (.iload_n 1, 0, 0) else none) else (bif Nat.beq pc 1 then some (.i2l, 0, 0) else none)) else (bif Nat.blt pc 3 then (bif Nat.beq pc 2 then some (.aload_n 0, 0, 0) else none) else (bif Nat.beq pc 3 then some (.getfield 12, 10, 1) else none))) else (bif Nat.blt pc 12 then (bif Nat.blt pc 9 then (bif Nat.beq pc 6 then some (.getfield 120, 1, 2) else none) else (bif Nat.beq pc 9 then some (.invokestatic 86, 35, 0) else none)) else (bif Nat.blt pc 29 then (bif Nat.beq pc 12 then some (.ifCond .eq 17, 0, 0) else none) else (bif Nat.blt pc 30 then (bif Nat.beq pc 29 then some (.iconst 0, 0, 0) else none) else (bif Nat.beq pc 30 then some (.invokestatic 90, 30, 0) else none))))
def rz_c50 (pc : Nat) : Option rz_I := bif Nat.blt pc 27 then (bif Nat.blt pc 12 then (bif Nat.blt pc 5 then (bif Nat.blt pc 1 then (bif Nat.beq pc 0 then some (.iload_n 1, 0, 0) else none) else (bif Nat.blt pc 2 then (bif Nat.beq pc 1 then some (.iconst 1, 0, 0) else none) else (bif Nat.beq pc 2 then some (.if_icmp .lt 13, 0, 0) else none))) else (bif Nat.blt pc 8 then (bif Nat.blt pc 6 then (bif Nat.beq pc 5 then some (.iload_n 1, 0, 0) else none) else (bif Nat.beq pc 6 then some (.ldc 167, 0, 1000000) else none)) else (bif Nat.blt pc 11 then (bif Nat.beq pc 8 then some (.if_icmp .gt 7, 0, 0) else none) else (bif Nat.beq pc 11 then some (.iconst 1, 0, 0) else none)))) else (bif Nat.blt pc 19 then (bif Nat.blt pc 15 then (bif Nat.beq pc 12 then some (.goto 4, 0, 0) else none) else (bif Nat.blt pc 16 then (bif Nat.beq pc 15 then some (.iconst 0, 0, 0) else none) else (bif Nat.beq pc 16 then some (.invokestatic 90, 30, 0) else none))) else (bif Nat.blt pc 23 then (bif Nat.blt pc 20 then (bif Nat.beq pc 19 then some (.aload_n 0, 0, 0) else none) else (bif Nat.beq pc 20 then some (.getfield 12, 10, 1) else none)) else (bif Nat.blt pc 24 then (bif Nat.beq pc 23 then some (.dup, 0, 0) else none) else (bif Nat.beq pc 24 then some (.getfield 168, 1, 8) else none))))) else (bif Nat.blt pc 36 then (bif Nat.blt pc 30 then (bif Nat.blt pc 28 then (bif Nat.beq pc 27 then some (.iload_n 1, 0, 0) else none) else (bif Nat.blt pc 29 then (bif Nat.beq pc 28 then some (.i2l, 0, 0) else none) else (bif Nat.beq pc 29 then some (.ladd, 0, 0) else none))) else (bif Nat.blt pc 34 then (bif Nat.blt pc 33 then (bif Nat.beq pc 30 then some (.putfield 168, 1, 8) else none) else (bif Nat.beq pc 33 then some (.iconst 0, 0, 0) else none)) else (bif Nat.blt pc 35 then (bif Nat.beq pc 34 then some (.istore_n 2, 0, 0) else none) else (bif Nat.beq pc 35 then some (.aload_n 0, 0, 0) else none)))) else (bif Nat.blt pc 43 then (bif Nat.blt pc 39 then (bif Nat.beq pc 36 then some (.getfield 12, 10, 1) else none) else (bif Nat.blt pc 42 then (bif Nat.beq pc 39 then some (.invokevirtual 172, 87, 0) else none) else (bif Nat.beq pc 42 then some (.astore_n 3, 0, 0) else none))) else (bif Nat.blt pc 79 then (bif Nat.blt pc 44 then (bif Nat.beq pc 43 then some (.aload_n 3, 0, 0) else none) else (bif Nat.beq pc 44 then some (.ifnull 35, 0, 0) else none)) else (bif Nat.blt pc 80 then (bif Nat.beq pc 79 then some (.iload_n 2, 0, 0) else none) else (bif Nat.beq pc 80 then some (.ireturn, 0, 0) else none)))))
def rz_c51 (pc : Nat) : Option rz_I := bif Nat.blt pc 2 then (bif Nat.blt pc 1 then (bif Nat.beq pc 0 then some (.aload_n 0, 0, 0) else none) else (bif Nat.beq pc 1 then some (.iconst 1, 0, 0) else none)) else (bif Nat.blt pc 5 then (bif Nat.beq pc 2 then some (.putfield 1, 11, 0) else none) else (bif Nat.blt pc 6 then (bif Nat.beq pc 5 then some (.iconst 0, 0, 0) else none) else (bif Nat.beq pc 6 then some (.ireturn, 0, 0) else none)))
def rz_c52 (pc : Nat) : Option rz_I := bif Nat.blt pc 45 then (bif Nat.blt pc 21 then (bif Nat.blt pc 7 then (bif Nat.blt pc 2 then (bif Nat.blt pc 1 then (bif Nat.beq pc 0 then some (.aload_n 0, 0, 0) else none) else (bif Nat.beq pc 1 then some (.iconst 0, 0, 0) else none)) else (bif Nat.blt pc 5 then (bif Nat.beq pc 2 then some (.putfield 1, 11, 0) else none) else (bif Nat.blt pc 6 then (bif Nat.beq pc 5 then some (.iload_n 1, 0, 0) else none) else (bif Nat.beq pc 6 then some (.i2l, 0, 0) else none)))) else (bif Nat.blt pc 16 then (bif Nat.blt pc 10 then (bif Nat.beq pc 7 then some (.ldc2_w 203, 0, 8) else none) else (bif Nat.blt pc 13 then (bif Nat.beq pc 10 then some (.invokestatic 199, 61, 0) else none) else (bif Nat.beq pc 13 then some (.ifCond .eq 14, 0, 0) else none))) else (bif Nat.blt pc 17 then (bif Nat.beq pc 16 then some (.iload_n 2, 0, 0) else none) else (bif Nat.blt pc 18 then (bif Nat.beq pc 17 then some (.i2l, 0, 0) else none) else (bif Nat.beq pc 18 then some (.ldc2_w 183, 0, 4) else none))))) else (bif Nat.blt pc 33 then (bif Nat.blt pc 28 then (bif Nat.blt pc 24 then (bif Nat.beq pc 21 then some (.invokestatic 199, 61, 0) else none) else (bif Nat.blt pc 27 then (bif Nat.beq pc 24 then some (.ifCond .ne 8, 0, 0) else none) else (bif Nat.beq pc 27 then some (.aload_n 0, 0, 0) else none))) else (bif Nat.blt pc 31 then (bif Nat.beq pc 28 then some (.invokevirtual 260, 51, 0) else none) else (bif Nat.blt pc 32 then (bif Nat.beq pc 31 then some (.ireturn, 0, 0) else none) else (bif Nat.beq pc 32 then some (.iload_n 2, 0, 0) else none)))) else (bif Nat.blt pc 40 then (bif Nat.blt pc 36 then (bif Nat.beq pc 33 then some (.ifCond .ne 12, 0, 0) else none) else (bif Nat.blt pc 37 then (bif Nat.beq pc 36 then some (.aload_n 0, 0, 0) else none) else (bif Nat.beq pc 37 then some (.getfield 100, 11, 31) else none))) else (bif Nat.blt pc 41 then (bif Nat.beq pc 40 then some (.iload_n 1, 0, 0) else none) else (bif Nat.blt pc 42 then (bif Nat.beq pc 41 then some (.iaload, 0, 0) else none) else (bif Nat.beq pc 42 then some (.goto 46, 0, 0) else none)))))) else (bif Nat.blt pc 65 then (bif Nat.blt pc 53 then (bif Nat.blt pc 47 then (bif Nat.blt pc 46 then (bif Nat.beq pc 45 then some (.iload_n 2, 0, 0) else none) else (bif Nat.beq pc 46 then some (.iconst 1, 0, 0) else none)) else (bif Nat.blt pc 50 then (bif Nat.beq pc 47 then some (.if_icmp .ne 13, 0, 0) else none) else (bif Nat.blt pc 51 then (bif Nat.beq pc 50 then some (.aload_n 0, 0, 0) else none) else (bif Nat.beq pc 51 then some (.bipush 7, 0, 0) else none)))) else (bif Nat.blt pc 60 then (bif Nat.blt pc 54 then (bif Nat.beq pc 53 then some (.iload_n 1, 0, 0) else none) else (bif Nat.blt pc 57 then (bif Nat.beq pc 54 then some (.invokevirtual 257, 66, 0) else none) else (bif Nat.beq pc 57 then some (.goto 31, 0, 0) else none))) else (bif Nat.blt pc 61 then (bif Nat.beq pc 60 then some (.iload_n 2, 0, 0) else none) else (bif Nat.blt pc 62 then (bif Nat.beq pc 61 then some (.iconst 2, 0, 0) else none) else (bif Nat.beq pc 62 then some (.if_icmp .ne 20, 0, 0) else none))))) else (bif Nat.blt pc 79 then (bif Nat.blt pc 70 then (bif Nat.blt pc 66 then (bif Nat.beq pc 65 then some (.aload_n 0, 0, 0) else none) else (bif Nat.blt pc 69 then (bif Nat.beq pc 66 then some (.getfield 106, 11, 33) else none) else (bif Nat.beq pc 69 then some (.iload_n 1, 0, 0) else none))) else (bif Nat.blt pc 71 then (bif Nat.beq pc 70 then some (.baload, 0, 0) else none) else (bif Nat.blt pc 78 then (bif Nat.beq pc 71 then some (.ifCond .eq 7, 0, 0) else none) else (bif Nat.beq pc 78 then some (.iconst 0, 0, 0) else none)))) else (bif Nat.blt pc 86 then (bif Nat.blt pc 82 then (bif Nat.beq pc 79 then some (.goto 9, 0, 0) else none) else (bif Nat.blt pc 83 then (bif Nat.beq pc 82 then some (.aload_n 0, 0, 0) else none) else (bif Nat.beq pc 83 then some (.getfield 103, 11, 32) else none))) else (bif Nat.blt pc 87 then (bif Nat.beq pc 86 then some (.iload_n 1, 0, 0) else none) else (bif Nat.blt pc 88 then (bif Nat.beq pc 87 then some (.iaload, 0, 0) else none) else (bif Nat.beq pc 88 then some (.ireturn, 0, 0) else none))))))
def rz_c53 (pc : Nat) : Option rz_I := bif Nat.blt pc 36 then (bif Nat.blt pc 16 then (bif Nat.blt pc 6 then (bif Nat.blt pc 2 then (bif Nat.blt pc 1 then (bif Nat.beq pc 0 then some (.aload_n 0, 0, 0) else none) else (bif Nat.beq pc 1 then some (.iconst 0, 0, 0) else none)) else (bif Nat.blt pc 5 then (bif Nat.beq pc 2 then some (.putfield 1, 11, 0) else none) else (bif Nat.beq pc 5 then some (.iload_n 1, 0, 0) else none))) else (bif Nat.blt pc 10 then (bif Nat.blt pc 7 then (bif Nat.beq pc 6 then some (.i2l, 0, 0) else none) else (bif Nat.beq pc 7 then some (.ldc2_w 231, 0, 16) else none)) else (bif Nat.blt pc 13 then (bif Nat.beq pc 10 then some (.invokestatic 199, 61, 0) else none) else (bif Nat.beq pc 13 then some (.ifCond .ne 8, 0, 0) else none)))) else (bif Nat.blt pc 22 then (bif Nat.blt pc 20 then (bif Nat.blt pc 17 then (bif Nat.beq pc 16 then some (.aload_n 0, 0, 0) else none) else (bif Nat.beq pc 17 then some (.invokevirtual 260, 51, 0) else none)) else (bif Nat.blt pc 21 then (bif Nat.beq pc 20 then some (.ireturn, 0, 0) else none) else (bif Nat.beq pc 21 then some (.aload_n 0, 0, 0) else none))) else (bif Nat.blt pc 27 then (bif Nat.blt pc 25 then (bif Nat.beq pc 22 then some (.getfield 130, 11, 6) else none) else (bif Nat.beq pc 25 then some (.bipush 64, 0, 0) else none)) else (bif Nat.blt pc 35 then (bif Nat.beq pc 27 then some (.if_icmp .ne 8, 0, 0) else none) else (bif Nat.beq pc 35 then some (.aload_n 0, 0, 0) else none))))) else (bif Nat.blt pc 51 then (bif Nat.blt pc 43 then (bif Nat.blt pc 41 then (bif Nat.blt pc 39 then (bif Nat.beq pc 36 then some (.getfield 130, 11, 6) else none) else (bif Nat.beq pc 39 then some (.istore 4, 0, 0) else none)) else (bif Nat.blt pc 42 then (bif Nat.beq pc 41 then some (.aload_n 0, 0, 0) else none) else (bif Nat.beq pc 42 then some (.iload_n 1, 0, 0) else none))) else (bif Nat.blt pc 47 then (bif Nat.blt pc 46 then (bif Nat.beq pc 43 then some (.invokevirtual 243, 65, 0) else none) else (bif Nat.beq pc 46 then some (.aload_n 0, 0, 0) else none)) else (bif Nat.blt pc 50 then (bif Nat.beq pc 47 then some (.getfield 48, 11, 14) else none) else (bif Nat.beq pc 50 then some (.iconst 4, 0, 0) else none)))) else (bif Nat.blt pc 56 then (bif Nat.blt pc 54 then (bif Nat.blt pc 53 then (bif Nat.beq pc 51 then some (.iload 4, 0, 0) else none) else (bif Nat.beq pc 53 then some (.imul, 0, 0) else none)) else (bif Nat.blt pc 55 then (bif Nat.beq pc 54 then some (.lload_n 2, 0, 0) else none) else (bif Nat.beq pc 55 then some (.lastore, 0, 0) else none))) else (bif Nat.blt pc 59 then (bif Nat.blt pc 57 then (bif Nat.beq pc 56 then some (.aload_n 0, 0, 0) else none) else (bif Nat.beq pc 57 then some (.iload 4, 0, 0) else none)) else (bif Nat.blt pc 62 then (bif Nat.beq pc 59 then some (.invokevirtual 152, 79, 0) else none) else (bif Nat.blt pc 64 then (bif Nat.beq pc 62 then some (.iload 4, 0, 0) else none) else (bif Nat.beq pc 64 then some (.ireturn, 0, 0) else none))))))
def rz_c54 (pc : Nat) : Option rz_I := bif Nat.blt pc 16 then (bif Nat.blt pc 6 then (bif Nat.blt pc 2 then (bif Nat.blt pc 1 then (bif Nat.beq pc 0 then some (.aload_n 0, 0, 0) else none) else (bif Nat.beq pc 1 then some (.iconst 0, 0, 0) else none)) else (bif Nat.blt pc 5 then (bif Nat.beq pc 2 then some (.putfield 1, 11, 0) else none) else (bif Nat.beq pc 5 then some (.iload_n 1, 0, 0) else none))) else (bif Nat.blt pc 10 then (bif Nat.blt pc 7 then (bif Nat.beq pc 6 then some (.i2l, 0, 0) else none) else (bif Nat.beq pc 7 then some (.ldc2_w 227, 0, 32) else none)) else (bif Nat.blt pc 13 then (bif Nat.beq pc 10 then some (.invokestatic 199, 61, 0) else none) else (bif Nat.beq pc 13 then some (.ifCond .eq 12, 0, 0) else none)))) else (bif Nat.blt pc 22 then (bif Nat.blt pc 20 then (bif Nat.blt pc 17 then (bif Nat.beq pc 16 then some (.aload_n 0, 0, 0) else none) else (bif Nat.beq pc 17 then some (.getfield 76, 11, 23) else none)) else (bif Nat.blt pc 21 then (bif Nat.beq pc 20 then some (.iload_n 1, 0, 0) else none) else (bif Nat.beq pc 21 then some (.laload, 0, 0) else none))) else (bif Nat.blt pc 26 then (bif Nat.blt pc 25 then (bif Nat.beq pc 22 then some (.goto 8, 0, 0) else none) else (bif Nat.beq pc 25 then some (.aload_n 0, 0, 0) else none)) else (bif Nat.blt pc 29 then (bif Nat.beq pc 26 then some (.invokevirtual 260, 51, 0) else none) else (bif Nat.blt pc 30 then (bif Nat.beq pc 29 then some (.i2l, 0, 0) else none) else (bif Nat.beq pc 30 then some (.lreturn, 0, 0) else none)))))
def rz_c55 (pc : Nat) : Option rz_I := bif Nat.blt pc 121 then (bif Nat.blt pc 63 then (bif Nat.blt pc 8 then (bif Nat.blt pc 5 then (bif Nat.blt pc 1 then (bif Nat.beq pc 0 then some (.aload_n 0, 0, 0) else none) else (bif Nat.blt pc 2 then (bif Nat.beq pc 1 then some (.iconst 0, 0, 0) else none) else (bif Nat.beq pc 2 then some (.putfield 1, 11, 0) else none))) else (bif Nat.blt pc 6 then (bif Nat.beq pc 5 then some (.iconst 0, 0, 0) else none) else (bif Nat.blt pc 7 then (bif Nat.beq pc 6 then some (.istore_n 2, 0, 0) else none) else (bif Nat.beq pc 7 then some (.iload_n 1, 0, 0) else none)))) else (bif Nat.blt pc 60 then (bif Nat.blt pc 56 then (bif Nat.beq pc 8 then some (.tableswitch 146 0 7 #[48, 53, 83, 115, 121, 126, 131, 136], 0, 0) else none) else (bif Nat.blt pc 57 then (bif Nat.beq pc 56 then some (.aload_n 0, 0, 0) else none) else (bif Nat.beq pc 57 then some (.getfield 130, 11, 6) else none))) else (bif Nat.blt pc 61 then (bif Nat.beq pc 60 then some (.ireturn, 0, 0) else none) else (bif Nat.blt pc 62 then (bif Nat.beq pc 61 then some (.iconst 0, 0, 0) else none) else (bif Nat.beq pc 62 then some (.istore_n 3, 0, 0) else none))))) else (bif Nat.blt pc 91 then (bif Nat.blt pc 68 then (bif Nat.blt pc 64 then (bif Nat.beq pc 63 then some (.iload_n 3, 0, 0) else none) else (bif Nat.blt pc 65 then (bif Nat.beq pc 64 then some (.aload_n 0, 0, 0) else none) else (bif Nat.beq pc 65 then some (.getfield 130, 11, 6) else none))) else (bif Nat.blt pc 89 then (bif Nat.beq pc 68 then some (.if_icmp .ge 21, 0, 0) else none) else (bif Nat.blt pc 90 then (bif Nat.beq pc 89 then some (.iload_n 2, 0, 0) else none) else (bif Nat.beq pc 90 then some (.ireturn, 0, 0) else none)))) else (bif Nat.blt pc 94 then (bif Nat.blt pc 92 then (bif Nat.beq pc 91 then some (.iconst 0, 0, 0) else none) else (bif Nat.blt pc 93 then (bif Nat.beq pc 92 then some (.istore_n 3, 0, 0) else none) else (bif Nat.beq pc 93 then some (.iload_n 3, 0, 0) else none))) else (bif Nat.blt pc 95 then (bif Nat.beq pc 94 then some (.aload_n 0, 0, 0) else none) else (bif Nat.blt pc 98 then (bif Nat.beq pc 95 then some (.getfield 130, 11, 6) else none) else (bif Nat.beq pc 98 then some (.if_icmp .ge 23, 0, 0) else none)))))) else (bif Nat.blt pc 139 then (bif Nat.blt pc 129 then (bif Nat.blt pc 124 then (bif Nat.blt pc 122 then (bif Nat.beq pc 121 then some (.iload_n 2, 0, 0) else none) else (bif Nat.blt pc 123 then (bif Nat.beq pc 122 then some (.ireturn, 0, 0) else none) else (bif Nat.beq pc 123 then some (.aload_n 0, 0, 0) else none))) else (bif Nat.blt pc 127 then (bif Nat.beq pc 124 then some (.getfield 192, 11, 42) else none) else (bif Nat.blt pc 128 then (bif Nat.beq pc 127 then some (.l2i, 0, 0) else none) else (bif Nat.beq pc 128 then some (.ireturn, 0, 0) else none)))) else (bif Nat.blt pc 134 then (bif Nat.blt pc 130 then (bif Nat.beq pc 129 then some (.aload_n 0, 0, 0) else none) else (bif Nat.blt pc 133 then (bif Nat.beq pc 130 then some (.getfield 237, 11, 43) else none) else (bif Nat.beq pc 133 then some (.ireturn, 0, 0) else none))) else (bif Nat.blt pc 135 then (bif Nat.beq pc 134 then some (.aload_n 0, 0, 0) else none) else (bif Nat.blt pc 138 then (bif Nat.beq pc 135 then some (.getfield 271, 11, 36) else none) else (bif Nat.beq pc 138 then some (.ireturn, 0, 0) else none))))) else (bif Nat.blt pc 151 then (bif Nat.blt pc 144 then (bif Nat.blt pc 140 then (bif Nat.beq pc 139 then some (.aload_n 0, 0, 0) else none) else (bif Nat.blt pc 143 then (bif Nat.beq pc 140 then some (.getfield 149, 11, 44) else none) else (bif Nat.beq pc 143 then some (.ireturn, 0, 0) else none))) else (bif Nat.blt pc 145 then (bif Nat.beq pc 144 then some (.aload_n 0, 0, 0) else none) else (bif Nat.blt pc 148 then (bif Nat.beq pc 145 then some (.getfield 161, 11, 40) else none) else (bif Nat.beq pc 148 then some (.ldc2_w 296, 0, 2147483647) else none)))) else (bif Nat.blt pc 154 then (bif Nat.blt pc 152 then (bif Nat.beq pc 151 then some (.land, 0, 0) else none) else (bif Nat.blt pc 153 then (bif Nat.beq pc 152 then some (.l2i, 0, 0) else none) else (bif Nat.beq pc 153 then some (.ireturn, 0, 0) else none))) else (bif Nat.blt pc 155 then (bif Nat.beq pc 154 then some (.aload_n 0, 0, 0) else none) else (bif Nat.blt pc 158 then (bif Nat.beq pc 155 then some (.invokevirtual 260, 51, 0) else none) else (bif Nat.beq pc 158 then some (.ireturn, 0, 0) else none))))))
def rz_c56 (pc : Nat) : Option rz_I := bif Nat.blt pc 24 then (bif Nat.blt pc 13 then (bif Nat.blt pc 5 then (bif Nat.blt pc 1 then (bif Nat.beq pc 0 then some (.aload_n 0, 0, 0) else none) else (bif Nat.blt pc 2 then (bif Nat.beq pc 1 then some (.iconst 0, 0, 0) else none) else (bif Nat.beq pc 2 then some (.putfield 1, 11, 0) else none))) else (bif Nat.blt pc 7 then (bif Nat.blt pc 6 then (bif Nat.beq pc 5 then some (.iload_n 1, 0, 0) else none) else (bif Nat.beq pc 6 then some (.i2l, 0, 0) else none)) else (bif Nat.blt pc 10 then (bif Nat.beq pc 7 then some (.ldc2_w 231, 0, 16) else none) else (bif Nat.beq pc 10 then some (.invokestatic 199, 61, 0) else none)))) else (bif Nat.blt pc 20 then (bif Nat.blt pc 16 then (bif Nat.beq pc 13 then some (.ifCond .ne 8, 0, 0) else none) else (bif Nat.blt pc 17 then (bif Nat.beq pc 16 then some (.aload_n 0, 0, 0) else none) else (bif Nat.beq pc 17 then some (.invokevirtual 260, 51, 0) else none))) else (bif Nat.blt pc 22 then (bif Nat.blt pc 21 then (bif Nat.beq pc 20 then some (.ireturn, 0, 0) else none) else (bif Nat.beq pc 21 then some (.iconst 0, 0, 0) else none)) else (bif Nat.blt pc 23 then (bif Nat.beq pc 22 then some (.istore_n 2, 0, 0) else none) else (bif Nat.beq pc 23 then some (.iload_n 2, 0, 0) else none))))) else (bif Nat.blt pc 81 then (bif Nat.blt pc 75 then (bif Nat.blt pc 25 then (bif Nat.beq pc 24 then some (.aload_n 0, 0, 0) else none) else (bif Nat.blt pc 28 then (bif Nat.beq pc 25 then some (.getfield 130, 11, 6) else none) else (bif Nat.beq pc 28 then some (.if_icmp .ge 47, 0, 0) else none))) else (bif Nat.blt pc 79 then (bif Nat.blt pc 76 then (bif Nat.beq pc 75 then some (.aload_n 0, 0, 0) else none) else (bif Nat.beq pc 76 then some (.getfield 13, 11, 2) else none)) else (bif Nat.blt pc 80 then (bif Nat.beq pc 79 then some (.iload_n 1, 0, 0) else none) else (bif Nat.beq pc 80 then some (.iaload, 0, 0) else none)))) else (bif Nat.blt pc 87 then (bif Nat.blt pc 83 then (bif Nat.blt pc 82 then (bif Nat.beq pc 81 then some (.istore_n 2, 0, 0) else none) else (bif Nat.beq pc 82 then some (.aload_n 0, 0, 0) else none)) else (bif Nat.blt pc 86 then (bif Nat.beq pc 83 then some (.getfield 13, 11, 2) else none) else (bif Nat.beq pc 86 then some (.iload_n 1, 0, 0) else none))) else (bif Nat.blt pc 89 then (bif Nat.blt pc 88 then (bif Nat.beq pc 87 then some (.iconst 0, 0, 0) else none) else (bif Nat.beq pc 88 then some (.iastore, 0, 0) else none)) else (bif Nat.blt pc 90 then (bif Nat.beq pc 89 then some (.iload_n 2, 0, 0) else none) else (bif Nat.beq pc 90 then some (.ireturn, 0, 0) else none)))))
def rz_c57 (pc : Nat) : Option rz_I := bif Nat.blt pc 13 then (bif Nat.blt pc 6 then (bif Nat.blt pc 4 then (bif Nat.blt pc 1 then (bif Nat.beq pc 0 then some (.aload_n 0, 0, 0) else none) else (bif Nat.beq pc 1 then some (.getfield 27, 11, 7) else none)) else (bif Nat.blt pc 5 then (bif Nat.beq pc 4 then some (.iload_n 1, 0, 0) else none) else (bif Nat.beq pc 5 then some (.iload_n 2, 0, 0) else none))) else (bif Nat.blt pc 8 then (bif Nat.blt pc 7 then (bif Nat.beq pc 6 then some (.iastore, 0, 0) else none) else (bif Nat.beq pc 7 then some (.aload_n 0, 0, 0) else none)) else (bif Nat.blt pc 11 then (bif Nat.beq pc 8 then some (.getfield 30, 11, 8) else none) else (bif Nat.blt pc 12 then (bif Nat.beq pc 11 then some (.iload_n 1, 0, 0) else none) else (bif Nat.beq pc 12 then some (.iconst 0, 0, 0) else none))))) else (bif Nat.blt pc 17 then (bif Nat.blt pc 15 then (bif Nat.blt pc 14 then (bif Nat.beq pc 13 then some (.iastore, 0, 0) else none) else (bif Nat.beq pc 14 then some (.aload_n 0, 0, 0) else none)) else (bif Nat.blt pc 16 then (bif Nat.beq pc 15 then some (.iconst 4, 0, 0) else none) else (bif Nat.beq pc 16 then some (.iload_n 1, 0, 0) else none))) else (bif Nat.blt pc 21 then (bif Nat.blt pc 20 then (bif Nat.beq pc 17 then some (.invokevirtual 141, 58, 0) else none) else (bif Nat.beq pc 20 then some (.istore_n 3, 0, 0) else none)) else (bif Nat.blt pc 22 then (bif Nat.beq pc 21 then some (.iload_n 3, 0, 0) else none) else (bif Nat.blt pc 40 then (bif Nat.beq pc 22 then some (.ifCond .lt 18, 0, 0) else none) else (bif Nat.beq pc 40 then some (.return_, 0, 0) else none)))))
def rz_c58 (pc : Nat) : Option rz_I := bif Nat.blt pc 15 then (bif Nat.blt pc 5 then (bif Nat.blt pc 2 then (bif Nat.blt pc 1 then (bif Nat.beq pc 0 then some (.iconst (-1), 0, 0) else none) else (bif Nat.beq pc 1 then some (.istore_n 3, 0, 0) else none)) else (bif Nat.blt pc 3 then (bif Nat.beq pc 2 then some (.iconst 0, 0, 0) else none) else (bif Nat.beq pc 3 then some (.istore 4, 0, 0) else none))) else (bif Nat.blt pc 8 then (bif Nat.blt pc 7 then (bif Nat.beq pc 5 then some (.iload 4, 0, 0) else none) else (bif Nat.beq pc 7 then some (.aload_n 0, 0, 0) else none)) else (bif Nat.blt pc 11 then (bif Nat.beq pc 8 then some (.getfield 130, 11, 6) else none) else (bif Nat.blt pc 14 then (bif Nat.beq pc 11 then some (.if_icmp .ge 55, 0, 0) else none) else (bif Nat.beq pc 14 then some (.aload_n 0, 0, 0) else none))))) else (bif Nat.blt pc 22 then (bif Nat.blt pc 20 then (bif Nat.blt pc 18 then (bif Nat.beq pc 15 then some (.getfield 27, 11, 7) else none) else (bif Nat.beq pc 18 then some (.iload 4, 0, 0) else none)) else (bif Nat.blt pc 21 then (bif Nat.beq pc 20 then some (.iaload, 0, 0) else none) else (bif Nat.beq pc 21 then some (.iload_n 1, 0, 0) else none))) else (bif Nat.blt pc 63 then (bif Nat.blt pc 60 then (bif Nat.beq pc 22 then some (.if_icmp .ne 38, 0, 0) else none) else (bif Nat.beq pc 60 then some (.iinc 4 1, 0, 0) else none)) else (bif Nat.blt pc 66 then (bif Nat.beq pc 63 then some (.goto (-58), 0, 0) else none) else (bif Nat.blt pc 67 then (bif Nat.beq pc 66 then some (.iload_n 3, 0, 0) else none) else (bif Nat.beq pc 67 then some (.ireturn, 0, 0) else none)))))
def rz_c59 (pc : Nat) : Option rz_I := bif Nat.blt pc 17 then (bif Nat.blt pc 9 then (bif Nat.blt pc 4 then (bif Nat.blt pc 1 then (bif Nat.beq pc 0 then some (.aload_n 0, 0, 0) else none) else (bif Nat.beq pc 1 then some (.getfield 97, 11, 30) else none)) else (bif Nat.blt pc 5 then (bif Nat.beq pc 4 then some (.iload_n 1, 0, 0) else none) else (bif Nat.blt pc 6 then (bif Nat.beq pc 5 then some (.lload_n 2, 0, 0) else none) else (bif Nat.beq pc 6 then some (.ldc2_w 159, 0, 9223372036854775807) else none)))) else (bif Nat.blt pc 14 then (bif Nat.blt pc 10 then (bif Nat.beq pc 9 then some (.aload_n 0, 0, 0) else none) else (bif Nat.blt pc 13 then (bif Nat.beq pc 10 then some (.getfield 97, 11, 30) else none) else (bif Nat.beq pc 13 then some (.iload_n 1, 0, 0) else none))) else (bif Nat.blt pc 15 then (bif Nat.beq pc 14 then some (.laload, 0, 0) else none) else (bif Nat.blt pc 16 then (bif Nat.beq pc 15 then some (.lsub, 0, 0) else none) else (bif Nat.beq pc 16 then some (.lcmp, 0, 0) else none))))) else (bif Nat.blt pc 33 then (bif Nat.blt pc 30 then (bif Nat.blt pc 26 then (bif Nat.beq pc 17 then some (.ifCond .le 9, 0, 0) else none) else (bif Nat.blt pc 27 then (bif Nat.beq pc 26 then some (.aload_n 0, 0, 0) else none) else (bif Nat.beq pc 27 then some (.getfield 97, 11, 30) else none))) else (bif Nat.blt pc 31 then (bif Nat.beq pc 30 then some (.iload_n 1, 0, 0) else none) else (bif Nat.blt pc 32 then (bif Nat.beq pc 31 then some (.laload, 0, 0) else none) else (bif Nat.beq pc 32 then some (.lload_n 2, 0, 0) else none)))) else (bif Nat.blt pc 36 then (bif Nat.blt pc 34 then (bif Nat.beq pc 33 then some (.ladd, 0, 0) else none) else (bif Nat.blt pc 35 then (bif Nat.beq pc 34 then some (.lastore, 0, 0) else none) else (bif Nat.beq pc 35 then some (.aload_n 0, 0, 0) else none))) else (bif Nat.blt pc 37 then (bif Nat.beq pc 36 then some (.iload_n 1, 0, 0) else none) else (bif Nat.blt pc 40 then (bif Nat.beq pc 37 then some (.invokevirtual 180, 77, 0) else none) else (bif Nat.beq pc 40 then some (.return_, 0, 0) else none)))))
def rz_c60 (pc : Nat) : Option rz_I := bif Nat.blt pc 24 then (bif Nat.blt pc 11 then (bif Nat.blt pc 5 then (bif Nat.blt pc 1 then (bif Nat.beq pc 0 then some (.aload_n 0, 0, 0) else none) else (bif Nat.blt pc 2 then (bif Nat.beq pc 1 then some (.iconst 0, 0, 0) else none) else (bif Nat.beq pc 2 then some (.putfield 1, 11, 0) else none))) else (bif Nat.blt pc 7 then (bif Nat.blt pc 6 then (bif Nat.beq pc 5 then some (.iload_n 1, 0, 0) else none) else (bif Nat.beq pc 6 then some (.iconst 1, 0, 0) else none)) else (bif Nat.blt pc 10 then (bif Nat.beq pc 7 then some (.if_icmp .lt 10, 0, 0) else none) else (bif Nat.beq pc 10 then some (.iload_n 1, 0, 0) else none)))) else (bif Nat.blt pc 18 then (bif Nat.blt pc 14 then (bif Nat.beq pc 11 then some (.sipush 20000, 0, 0) else none) else (bif Nat.blt pc 17 then (bif Nat.beq pc 14 then some (.if_icmp .le 8, 0, 0) else none) else (bif Nat.beq pc 17 then some (.aload_n 0, 0, 0) else none))) else (bif Nat.blt pc 22 then (bif Nat.blt pc 21 then (bif Nat.beq pc 18 then some (.invokevirtual 260, 51, 0) else none) else (bif Nat.beq pc 21 then some (.ireturn, 0, 0) else none)) else (bif Nat.blt pc 23 then (bif Nat.beq pc 22 then some (.iconst 0, 0, 0) else none) else (bif Nat.beq pc 23 then some (.istore_n 2, 0, 0) else none))))) else (bif Nat.blt pc 35 then (bif Nat.blt pc 27 then (bif Nat.blt pc 25 then (bif Nat.beq pc 24 then some (.iconst 1, 0, 0) else none) else (bif Nat.blt pc 26 then (bif Nat.beq pc 25 then some (.istore_n 3, 0, 0) else none) else (bif Nat.beq pc 26 then some (.iconst 0, 0, 0) else none))) else (bif Nat.blt pc 31 then (bif Nat.blt pc 29 then (bif Nat.beq pc 27 then some (.istore 4, 0, 0) else none) else (bif Nat.beq pc 29 then some (.iload 4, 0, 0) else none)) else (bif Nat.blt pc 32 then (bif Nat.beq pc 31 then some (.aload_n 0, 0, 0) else none) else (bif Nat.beq pc 32 then some (.getfield 130, 11, 6) else none)))) else (bif Nat.blt pc 70 then (bif Nat.blt pc 66 then (bif Nat.beq pc 35 then some (.if_icmp .ge 31, 0, 0) else none) else (bif Nat.blt pc 67 then (bif Nat.beq pc 66 then some (.iload_n 3, 0, 0) else none) else (bif Nat.beq pc 67 then some (.ifCond .eq 9, 0, 0) else none))) else (bif Nat.blt pc 74 then (bif Nat.blt pc 71 then (bif Nat.beq pc 70 then some (.aload_n 0, 0, 0) else none) else (bif Nat.beq pc 71 then some (.invokevirtual 277, 71, 0) else none)) else (bif Nat.blt pc 75 then (bif Nat.beq pc 74 then some (.iconst 1, 0, 0) else none) else (bif Nat.beq pc 75 then some (.ireturn, 0, 0) else none)))))
def rz_c61 (pc : Nat) : Option rz_I := bif Nat.blt pc 8 then (bif Nat.blt pc 3 then (bif Nat.blt pc 1 then (bif Nat.beq pc 0 then some (.lload_n 0, 0, 0) else none) else (bif Nat.blt pc 2 then (bif Nat.beq pc 1 then some (.lconst 0, 0, 0) else none) else (bif Nat.beq pc 2 then some (.lcmp, 0, 0) else none))) else (bif Nat.blt pc 6 then (bif Nat.beq pc 3 then some (.ifCond .lt 13, 0, 0) else none) else (bif Nat.blt pc 7 then (bif Nat.beq pc 6 then some (.lload_n 0, 0, 0) else none) else (bif Nat.beq pc 7 then some (.lload_n 2, 0, 0) else none)))) else (bif Nat.blt pc 13 then (bif Nat.blt pc 9 then (bif Nat.beq pc 8 then some (.lcmp, 0, 0) else none) else (bif Nat.blt pc 12 then (bif Nat.beq pc 9 then some (.ifCond .ge 7, 0, 0) else none) else (bif Nat.beq pc 12 then some (.iconst 1, 0, 0) else none))) else (bif Nat.blt pc 16 then (bif Nat.beq pc 13 then some (.goto 4, 0, 0) else none) else (bif Nat.blt pc 17 then (bif Nat.beq pc 16 then some (.iconst 0, 0, 0) else none) else (bif Nat.beq pc 17 then some (.ireturn, 0, 0) else none))))
def rz_c62 (pc : Nat) : Option rz_I := bif Nat.blt pc 190 then (bif Nat.blt pc 98 then (bif Nat.blt pc 48 then (bif Nat.blt pc 22 then (bif Nat.blt pc 9 then (bif Nat.blt pc 4 then (bif Nat.blt pc 1 then (bif Nat.beq pc 0 then some (.aload_n 0, 0, 0) else none) else (bif Nat.beq pc 1 then some (.invokespecial 7, 0, 1) else none)) else (bif Nat.blt pc 5 then (bif Nat.beq pc 4 then some (.aload_n 0, 0, 0) else none) else (bif Nat.blt pc 7 then (bif Nat.beq pc 5 then some (.bipush 16, 0, 0) else none) else (bif Nat.beq pc 7 then some (.newarray .int, 0, 0) else none)))) else (bif Nat.blt pc 16 then (bif Nat.blt pc 12 then (bif Nat.beq pc 9 then some (.putfield 13, 11, 2) else none) else (bif Nat.blt pc 13 then (bif Nat.beq pc 12 then some (.aload_n 0, 0, 0) else none) else (bif Nat.beq pc 13 then some (.sipush 3200, 0, 0) else none))) else (bif Nat.blt pc 18 then (bif Nat.beq pc 16 then some (.newarray .int, 0, 0) else none) else (bif Nat.blt pc 21 then (bif Nat.beq pc 18 then some (.putfield 17, 11, 3) else none) else (bif Nat.beq pc 21 then some (.aload_n 0, 0, 0) else none))))) else (bif Nat.blt pc 36 then (bif Nat.blt pc 30 then (bif Nat.blt pc 25 then (bif Nat.beq pc 22 then some (.sipush 3200, 0, 0) else none) else (bif Nat.blt pc 27 then (bif Nat.beq pc 25 then some (.newarray .long, 0, 0) else none) else (bif Nat.beq pc 27 then some (.putfield 20, 11, 4) else none))) else (bif Nat.blt pc 31 then (bif Nat.beq pc 30 then some (.aload_n 0, 0, 0) else none) else (bif Nat.blt pc 34 then (bif Nat.beq pc 31 then some (.sipush 3200, 0, 0) else none) else (bif Nat.beq pc 34 then some (.newarray .long, 0, 0) else none)))) else (bif Nat.blt pc 42 then (bif Nat.blt pc 39 then (bif Nat.beq pc 36 then some (.putfield 24, 11, 5) else none) else (bif Nat.blt pc 40 then (bif Nat.beq pc 39 then some (.aload_n 0, 0, 0) else none) else (bif Nat.beq pc 40 then some (.bipush 64, 0, 0) else none))) else (bif Nat.blt pc 44 then (bif Nat.beq pc 42 then some (.newarray .int, 0, 0) else none) else (bif Nat.blt pc 47 then (bif Nat.beq pc 44 then some (.putfield 27, 11, 7) else none) else (bif Nat.beq pc 47 then some (.aload_n 0, 0, 0) else none)))))) else (bif Nat.blt pc 73 then (bif Nat.blt pc 59 then (bif Nat.blt pc 52 then (bif Nat.blt pc 50 then (bif Nat.beq pc 48 then some (.bipush 64, 0, 0) else none) else (bif Nat.beq pc 50 then some (.newarray .int, 0, 0) else none)) else (bif Nat.blt pc 55 then (bif Nat.beq pc 52 then some (.putfield 30, 11, 8) else none) else (bif Nat.blt pc 56 then (bif Nat.beq pc 55 then some (.aload_n 0, 0, 0) else none) else (bif Nat.beq pc 56 then some (.sipush 1280, 0, 0) else none)))) else (bif Nat.blt pc 65 then (bif Nat.blt pc 61 then (bif Nat.beq pc 59 then some (.newarray .int, 0, 0) else none) else (bif Nat.blt pc 64 then (bif Nat.beq pc 61 then some (.putfield 33, 11, 9) else none) else (bif Nat.beq pc 64 then some (.aload_n 0, 0, 0) else none))) else (bif Nat.blt pc 68 then (bif Nat.beq pc 65 then some (.sipush 1280, 0, 0) else none) else (bif Nat.blt pc 70 then (bif Nat.beq pc 68 then some (.newarray .int, 0, 0) else none) else (bif Nat.beq pc 70 then some (.putfield 36, 11, 10) else none))))) else (bif Nat.blt pc 85 then (bif Nat.blt pc 79 then (bif Nat.blt pc 74 then (bif Nat.beq pc 73 then some (.aload_n 0, 0, 0) else none) else (bif Nat.blt pc 77 then (bif Nat.beq pc 74 then some (.sipush 1280, 0, 0) else none) else (bif Nat.beq pc 77 then some (.newarray .int, 0, 0) else none))) else (bif Nat.blt pc 82 then (bif Nat.beq pc 79 then some (.putfield 39, 11, 11) else none) else (bif Nat.blt pc 83 then (bif Nat.beq pc 82 then some (.aload_n 0, 0, 0) else none) else (bif Nat.beq pc 83 then some (.bipush 64, 0, 0) else none)))) else (bif Nat.blt pc 91 then (bif Nat.blt pc 87 then (bif Nat.beq pc 85 then some (.newarray .int, 0, 0) else none) else (bif Nat.blt pc 90 then (bif Nat.beq pc 87 then some (.putfield 42, 11, 12) else none) else (bif Nat.beq pc 90 then some (.aload_n 0, 0, 0) else none))) else (bif Nat.blt pc 93 then (bif Nat.beq pc 91 then some (.bipush 64, 0, 0) else none) else (bif Nat.blt pc 95 then (bif Nat.beq pc 93 then some (.newarray .int, 0, 0) else none) else (bif Nat.beq pc 95 then some (.putfield 45, 11, 13) else none))))))) else (bif Nat.blt pc 144 then (bif Nat.blt pc 120 then (bif Nat.blt pc 108 then (bif Nat.blt pc 102 then (bif Nat.blt pc 99 then (bif Nat.beq pc 98 then some (.aload_n 0, 0, 0) else none) else (bif Nat.beq pc 99 then some (.sipush 256, 0, 0) else none)) else (bif Nat.blt pc 104 then (bif Nat.beq pc 102 then some (.newarray .long, 0, 0) else none) else (bif Nat.blt pc 107 then (bif Nat.beq pc 104 then some (.putfield 48, 11, 14) else none) else (bif Nat.beq pc 107 then some (.aload_n 0, 0, 0) else none)))) else (bif Nat.blt pc 115 then (bif Nat.blt pc 110 then (bif Nat.beq pc 108 then some (.bipush 64, 0, 0) else none) else (bif Nat.blt pc 112 then (bif Nat.beq pc 110 then some (.newarray .long, 0, 0) else none) else (bif Nat.beq pc 112 then some (.putfield 51, 11, 15) else none))) else (bif Nat.blt pc 116 then (bif Nat.beq pc 115 then some (.aload_n 0, 0, 0) else none) else (bif Nat.blt pc 118 then (bif Nat.beq pc 116 then some (.bipush 64, 0, 0) else none) else (bif Nat.beq pc 118 then some (.newarray .long, 0, 0) else none))))) else (bif Nat.blt pc 132 then (bif Nat.blt pc 126 then (bif Nat.blt pc 123 then (bif Nat.beq pc 120 then some (.putfield 54, 11, 16) else none) else (bif Nat.blt pc 124 then (bif Nat.beq pc 123 then some (.aload_n 0, 0, 0) else none) else (bif Nat.beq pc 124 then some (.bipush 64, 0, 0) else none))) else (bif Nat.blt pc 128 then (bif Nat.beq pc 126 then some (.newarray .long, 0, 0) else none) else (bif Nat.blt pc 131 then (bif Nat.beq pc 128 then some (.putfield 57, 11, 17) else none) else (bif Nat.beq pc 131 then some (.aload_n 0, 0, 0) else none)))) else (bif Nat.blt pc 139 then (bif Nat.blt pc 134 then (bif Nat.beq pc 132 then some (.bipush 64, 0, 0) else none) else (bif Nat.blt pc 136 then (bif Nat.beq pc 134 then some (.newarray .int, 0, 0) else none) else (bif Nat.beq pc 136 then some (.putfield 60, 11, 18) else none))) else (bif Nat.blt pc 140 then (bif Nat.beq pc 139 then some (.aload_n 0, 0, 0) else none) else (bif Nat.blt pc 142 then (bif Nat.beq pc 140 then some (.bipush 64, 0, 0) else none) else (bif Nat.beq pc 142 then some (.newarray .boolean, 0, 0) else none)))))) else (bif Nat.blt pc 166 then (bif Nat.blt pc 155 then (bif Nat.blt pc 148 then (bif Nat.blt pc 147 then (bif Nat.beq pc 144 then some (.putfield 63, 11, 19) else none) else (bif Nat.beq pc 147 then some (.aload_n 0, 0, 0) else none)) else (bif Nat.blt pc 150 then (bif Nat.beq pc 148 then some (.bipush 64, 0, 0) else none) else (bif Nat.blt pc 152 then (bif Nat.beq pc 150 then some (.newarray .boolean, 0, 0) else none) else (bif Nat.beq pc 152 then some (.putfield 67, 11, 20) else none)))) else (bif Nat.blt pc 160 then (bif Nat.blt pc 156 then (bif Nat.beq pc 155 then some (.aload_n 0, 0, 0) else none) else (bif Nat.blt pc 158 then (bif Nat.beq pc 156 then some (.bipush 64, 0, 0) else none) else (bif Nat.beq pc 158 then some (.newarray .boolean, 0, 0) else none))) else (bif Nat.blt pc 163 then (bif Nat.beq pc 160 then some (.putfield 70, 11, 21) else none) else (bif Nat.blt pc 164 then (bif Nat.beq pc 163 then some (.aload_n 0, 0, 0) else none) else (bif Nat.beq pc 164 then some (.bipush 64, 0, 0) else none))))) else (bif Nat.blt pc 179 then (bif Nat.blt pc 172 then (bif Nat.blt pc 168 then (bif Nat.beq pc 166 then some (.newarray .boolean, 0, 0) else none) else (bif Nat.blt pc 171 then (bif Nat.beq pc 168 then some (.putfield 73, 11, 22) else none) else (bif Nat.beq pc 171 then some (.aload_n 0, 0, 0) else none))) else (bif Nat.blt pc 174 then (bif Nat.beq pc 172 then some (.bipush 32, 0, 0) else none) else (bif Nat.blt pc 176 then (bif Nat.beq pc 174 then some (.newarray .long, 0, 0) else none) else (bif Nat.beq pc 176 then some (.putfield 76, 11, 23) else none)))) else (bif Nat.blt pc 184 then (bif Nat.blt pc 180 then (bif Nat.beq pc 179 then some (.aload_n 0, 0, 0) else none) else (bif Nat.blt pc 182 then (bif Nat.beq pc 180 then some (.bipush 8, 0, 0) else none) else (bif Nat.beq pc 182 then some (.newarray .int, 0, 0) else none))) else (bif Nat.blt pc 187 then (bif Nat.beq pc 184 then some (.putfield 79, 11, 24) else none) else (bif Nat.blt pc 188 then (bif Nat.beq pc 187 then some (.aload_n 0, 0, 0) else none) else (bif Nat.beq pc 188 then some (.bipush 8, 0, 0) else none)))))))) else (bif Nat.blt pc 284 then (bif Nat.blt pc 237 then (bif Nat.blt pc 212 then (bif Nat.blt pc 200 then (bif Nat.blt pc 195 then (bif Nat.blt pc 192 then (bif Nat.beq pc 190 then some (.newarray .int, 0, 0) else none) else (bif Nat.beq pc 192 then some (.putfield 82, 11, 25) else none)) else (bif Nat.blt pc 196 then (bif Nat.beq pc 195 then some (.aload_n 0, 0, 0) else none) else (bif Nat.blt pc 198 then (bif Nat.beq pc 196 then some (.bipush 8, 0, 0) else none) else (bif Nat.beq pc 198 then some (.newarray .int, 0, 0) else none)))) else (bif Nat.blt pc 206 then (bif Nat.blt pc 203 then (bif Nat.beq pc 200 then some (.putfield 85, 11, 26) else none) else (bif Nat.blt pc 204 then (bif Nat.beq pc 203 then some (.aload_n 0, 0, 0) else none) else (bif Nat.beq pc 204 then some (.bipush 8, 0, 0) else none))) else (bif Nat.blt pc 208 then (bif Nat.beq pc 206 then some (.newarray .int, 0, 0) else none) else (bif Nat.blt pc 211 then (bif Nat.beq pc 208 then some (.putfield 88, 11, 27) else none) else (bif Nat.beq pc 211 then some (.aload_n 0, 0, 0) else none))))) else (bif Nat.blt pc 225 then (bif Nat.blt pc 220 then (bif Nat.blt pc 215 then (bif Nat.beq pc 212 then some (.sipush 512, 0, 0) else none) else (bif Nat.blt pc 217 then (bif Nat.beq pc 215 then some (.newarray .int, 0, 0) else none) else (bif Nat.beq pc 217 then some (.putfield 91, 11, 28) else none))) else (bif Nat.blt pc 221 then (bif Nat.beq pc 220 then some (.aload_n 0, 0, 0) else none) else (bif Nat.blt pc 223 then (bif Nat.beq pc 221 then some (.bipush 8, 0, 0) else none) else (bif Nat.beq pc 223 then some (.newarray .int, 0, 0) else none)))) else (bif Nat.blt pc 231 then (bif Nat.blt pc 228 then (bif Nat.beq pc 225 then some (.putfield 94, 11, 29) else none) else (bif Nat.blt pc 229 then (bif Nat.beq pc 228 then some (.aload_n 0, 0, 0) else none) else (bif Nat.beq pc 229 then some (.bipush 8, 0, 0) else none))) else (bif Nat.blt pc 233 then (bif Nat.beq pc 231 then some (.newarray .long, 0, 0) else none) else (bif Nat.blt pc 236 then (bif Nat.beq pc 233 then some (.putfield 97, 11, 30) else none) else (bif Nat.beq pc 236 then some (.aload_n 0, 0, 0) else none)))))) else (bif Nat.blt pc 260 then (bif Nat.blt pc 247 then (bif Nat.blt pc 241 then (bif Nat.blt pc 239 then (bif Nat.beq pc 237 then some (.bipush 8, 0, 0) else none) else (bif Nat.beq pc 239 then some (.newarray .int, 0, 0) else none)) else (bif Nat.blt pc 244 then (bif Nat.beq pc 241 then some (.putfield 100, 11, 31) else none) else (bif Nat.blt pc 245 then (bif Nat.beq pc 244 then some (.aload_n 0, 0, 0) else none) else (bif Nat.beq pc 245 then some (.bipush 8, 0, 0) else none)))) else (bif Nat.blt pc 253 then (bif Nat.blt pc 249 then (bif Nat.beq pc 247 then some (.newarray .int, 0, 0) else none) else (bif Nat.blt pc 252 then (bif Nat.beq pc 249 then some (.putfield 103, 11, 32) else none) else (bif Nat.beq pc 252 then some (.aload_n 0, 0, 0) else none))) else (bif Nat.blt pc 255 then (bif Nat.beq pc 253 then some (.bipush 8, 0, 0) else none) else (bif Nat.blt pc 257 then (bif Nat.beq pc 255 then some (.newarray .boolean, 0, 0) else none) else (bif Nat.beq pc 257 then some (.putfield 106, 11, 33) else none))))) else (bif Nat.blt pc 273 then (bif Nat.blt pc 266 then (bif Nat.blt pc 261 then (bif Nat.beq pc 260 then some (.aload_n 0, 0, 0) else none) else (bif Nat.blt pc 264 then (bif Nat.beq pc 261 then some (.sipush 256, 0, 0) else none) else (bif Nat.beq pc 264 then some (.newarray .int, 0, 0) else none))) else (bif Nat.blt pc 269 then (bif Nat.beq pc 266 then some (.putfield 109, 11, 34) else none) else (bif Nat.blt pc 270 then (bif Nat.beq pc 269 then some (.aload_n 0, 0, 0) else none) else (bif Nat.beq pc 270 then some (.sipush 256, 0, 0) else none)))) else (bif Nat.blt pc 279 then (bif Nat.blt pc 275 then (bif Nat.beq pc 273 then some (.newarray .int, 0, 0) else none) else (bif Nat.blt pc 278 then (bif Nat.beq pc 275 then some (.putfield 112, 11, 35) else none) else (bif Nat.beq pc 278 then some (.aload_n 0, 0, 0) else none))) else (bif Nat.blt pc 280 then (bif Nat.beq pc 279 then some (.iconst (-1), 0, 0) else none) else (bif Nat.blt pc 283 then (bif Nat.beq pc 280 then some (.putfield 115, 11, 37) else none) else (bif Nat.beq pc 283 then some (.aload_n 0, 0, 0) else none))))))) else (bif Nat.blt pc 333 then (bif Nat.blt pc 307 then (bif Nat.blt pc 294 then (bif Nat.blt pc 288 then (bif Nat.blt pc 285 then (bif Nat.beq pc 284 then some (.iconst (-1), 0, 0) else none) else (bif Nat.beq pc 285 then some (.putfield 118, 11, 39) else none)) else (bif Nat.blt pc 289 then (bif Nat.beq pc 288 then some (.aload_n 0, 0, 0) else none) else (bif Nat.blt pc 292 then (bif Nat.beq pc 289 then some (.sipush 4096, 0, 0) else none) else (bif Nat.beq pc 292 then some (.newarray .int, 0, 0) else none)))) else (bif Nat.blt pc 301 then (bif Nat.blt pc 297 then (bif Nat.beq pc 294 then some (.putfield 121, 11, 45) else none) else (bif Nat.blt pc 298 then (bif Nat.beq pc 297 then some (.aload_n 0, 0, 0) else none) else (bif Nat.beq pc 298 then some (.sipush 4096, 0, 0) else none))) else (bif Nat.blt pc 303 then (bif Nat.beq pc 301 then some (.newarray .long, 0, 0) else none) else (bif Nat.blt pc 306 then (bif Nat.beq pc 303 then some (.putfield 124, 11, 46) else none) else (bif Nat.beq pc 306 then some (.aload_n 0, 0, 0) else none))))) else (bif Nat.blt pc 317 then (bif Nat.blt pc 312 then (bif Nat.blt pc 308 then (bif Nat.beq pc 307 then some (.iload_n 1, 0, 0) else none) else (bif Nat.blt pc 309 then (bif Nat.beq pc 308 then some (.iconst 1, 0, 0) else none) else (bif Nat.beq pc 309 then some (.if_icmp .ge 7, 0, 0) else none))) else (bif Nat.blt pc 313 then (bif Nat.beq pc 312 then some (.iconst 1, 0, 0) else none) else (bif Nat.blt pc 316 then (bif Nat.beq pc 313 then some (.goto 17, 0, 0) else none) else (bif Nat.beq pc 316 then some (.iload_n 1, 0, 0) else none)))) else (bif Nat.blt pc 326 then (bif Nat.blt pc 320 then (bif Nat.beq pc 317 then some (.sipush 1000, 0, 0) else none) else (bif Nat.blt pc 323 then (bif Nat.beq pc 320 then some (.if_icmp .le 9, 0, 0) else none) else (bif Nat.beq pc 323 then some (.sipush 1000, 0, 0) else none))) else (bif Nat.blt pc 329 then (bif Nat.beq pc 326 then some (.goto 4, 0, 0) else none) else (bif Nat.blt pc 330 then (bif Nat.beq pc 329 then some (.iload_n 1, 0, 0) else none) else (bif Nat.beq pc 330 then some (.putfield 127, 11, 1) else none)))))) else (bif Nat.blt pc 349 then (bif Nat.blt pc 341 then (bif Nat.blt pc 335 then (bif Nat.blt pc 334 then (bif Nat.beq pc 333 then some (.iconst 0, 0, 0) else none) else (bif Nat.beq pc 334 then some (.istore_n 2, 0, 0) else none)) else (bif Nat.blt pc 336 then (bif Nat.beq pc 335 then some (.iload_n 2, 0, 0) else none) else (bif Nat.blt pc 338 then (bif Nat.beq pc 336 then some (.bipush 8, 0, 0) else none) else (bif Nat.beq pc 338 then some (.if_icmp .ge 30, 0, 0) else none)))) else (bif Nat.blt pc 346 then (bif Nat.blt pc 342 then (bif Nat.beq pc 341 then some (.aload_n 0, 0, 0) else none) else (bif Nat.blt pc 345 then (bif Nat.beq pc 342 then some (.getfield 79, 11, 24) else none) else (bif Nat.beq pc 345 then some (.iload_n 2, 0, 0) else none))) else (bif Nat.blt pc 347 then (bif Nat.beq pc 346 then some (.iconst (-1), 0, 0) else none) else (bif Nat.blt pc 348 then (bif Nat.beq pc 347 then some (.iastore, 0, 0) else none) else (bif Nat.beq pc 348 then some (.aload_n 0, 0, 0) else none))))) else (bif Nat.blt pc 359 then (bif Nat.blt pc 354 then (bif Nat.blt pc 352 then (bif Nat.beq pc 349 then some (.getfield 85, 11, 26) else none) else (bif Nat.blt pc 353 then (bif Nat.beq pc 352 then some (.iload_n 2, 0, 0) else none) else (bif Nat.beq pc 353 then some (.iconst (-1), 0, 0) else none))) else (bif Nat.blt pc 355 then (bif Nat.beq pc 354 then some (.iastore, 0, 0) else none) else (bif Nat.blt pc 356 then (bif Nat.beq pc 355 then some (.aload_n 0, 0, 0) else none) else (bif Nat.beq pc 356 then some (.getfield 100, 11, 31) else none)))) else (bif Nat.blt pc 362 then (bif Nat.blt pc 360 then (bif Nat.beq pc 359 then some (.iload_n 2, 0, 0) else none) else (bif Nat.blt pc 361 then (bif Nat.beq pc 360 then some (.iconst 1, 0, 0) else none) else (bif Nat.beq pc 361 then some (.iastore, 0, 0) else none))) else (bif Nat.blt pc 365 then (bif Nat.beq pc 362 then some (.iinc 2 1, 0, 0) else none) else (bif Nat.blt pc 368 then (bif Nat.beq pc 365 then some (.goto (-30), 0, 0) else none) else (bif Nat.beq pc 368 then some (.return_, 0, 0) else none))))))))
def rz_c63 (pc : Nat) : Option rz_I := bif Nat.blt pc 7 then (bif Nat.blt pc 2 then (bif Nat.blt pc 1 then (bif Nat.beq pc 0 then some (.aload_n 0, 0, 0) else none) else (bif Nat.beq pc 1 then some (.iconst 0, 0, 0) else none)) else (bif Nat.blt pc 5 then (bif Nat.beq pc 2 then some (.putfield 1, 11, 0) else none) else (bif Nat.blt pc 6 then (bif Nat.beq pc 5 then some (.aload_n 0, 0, 0) else none) else (bif Nat.beq pc 6 then some (.iload_n 1, 0, 0) else none)))) else (bif Nat.blt pc 13 then (bif Nat.blt pc 10 then (bif Nat.beq pc 7 then some (.invokevirtual 267, 68, 0) else none) else (bif Nat.beq pc 10 then some (.ifCond .eq 8, 0, 0) else none)) else (bif Nat.blt pc 14 then (bif Nat.beq pc 13 then some (.aload_n 0, 0, 0) else none) else (bif Nat.blt pc 17 then (bif Nat.beq pc 14 then some (.invokevirtual 260, 51, 0) else none) else (bif Nat.beq pc 17 then some (.ireturn, 0, 0) else none))))
def rz_c64 (pc : Nat) : Option rz_I := bif Nat.blt pc 69 then (bif Nat.blt pc 18 then (bif Nat.blt pc 7 then (bif Nat.blt pc 2 then (bif Nat.blt pc 1 then (bif Nat.beq pc 0 then some (.aload_n 0, 0, 0) else none) else (bif Nat.beq pc 1 then some (.iconst 0, 0, 0) else none)) else (bif Nat.blt pc 5 then (bif Nat.beq pc 2 then some (.putfield 1, 11, 0) else none) else (bif Nat.blt pc 6 then (bif Nat.beq pc 5 then some (.iload_n 1, 0, 0) else none) else (bif Nat.beq pc 6 then some (.i2l, 0, 0) else none)))) else (bif Nat.blt pc 13 then (bif Nat.blt pc 10 then (bif Nat.beq pc 7 then some (.ldc2_w 203, 0, 8) else none) else (bif Nat.beq pc 10 then some (.invokestatic 199, 61, 0) else none)) else (bif Nat.blt pc 16 then (bif Nat.beq pc 13 then some (.ifCond .eq 14, 0, 0) else none) else (bif Nat.blt pc 17 then (bif Nat.beq pc 16 then some (.iload_n 2, 0, 0) else none) else (bif Nat.beq pc 17 then some (.i2l, 0, 0) else none))))) else (bif Nat.blt pc 31 then (bif Nat.blt pc 24 then (bif Nat.blt pc 21 then (bif Nat.beq pc 18 then some (.ldc2_w 233, 0, 5) else none) else (bif Nat.beq pc 21 then some (.invokestatic 199, 61, 0) else none)) else (bif Nat.blt pc 27 then (bif Nat.beq pc 24 then some (.ifCond .ne 8, 0, 0) else none) else (bif Nat.blt pc 28 then (bif Nat.beq pc 27 then some (.aload_n 0, 0, 0) else none) else (bif Nat.beq pc 28 then some (.invokevirtual 260, 51, 0) else none)))) else (bif Nat.blt pc 64 then (bif Nat.blt pc 32 then (bif Nat.beq pc 31 then some (.ireturn, 0, 0) else none) else (bif Nat.blt pc 33 then (bif Nat.beq pc 32 then some (.iload_n 2, 0, 0) else none) else (bif Nat.beq pc 33 then some (.tableswitch 59 0 3 #[31, 38, 45, 52], 0, 0) else none))) else (bif Nat.blt pc 65 then (bif Nat.beq pc 64 then some (.aload_n 0, 0, 0) else none) else (bif Nat.blt pc 68 then (bif Nat.beq pc 65 then some (.getfield 85, 11, 26) else none) else (bif Nat.beq pc 68 then some (.iload_n 1, 0, 0) else none)))))) else (bif Nat.blt pc 84 then (bif Nat.blt pc 76 then (bif Nat.blt pc 71 then (bif Nat.blt pc 70 then (bif Nat.beq pc 69 then some (.iaload, 0, 0) else none) else (bif Nat.beq pc 70 then some (.ireturn, 0, 0) else none)) else (bif Nat.blt pc 72 then (bif Nat.beq pc 71 then some (.aload_n 0, 0, 0) else none) else (bif Nat.blt pc 75 then (bif Nat.beq pc 72 then some (.getfield 88, 11, 27) else none) else (bif Nat.beq pc 75 then some (.iload_n 1, 0, 0) else none)))) else (bif Nat.blt pc 79 then (bif Nat.blt pc 77 then (bif Nat.beq pc 76 then some (.iaload, 0, 0) else none) else (bif Nat.blt pc 78 then (bif Nat.beq pc 77 then some (.ireturn, 0, 0) else none) else (bif Nat.beq pc 78 then some (.aload_n 0, 0, 0) else none))) else (bif Nat.blt pc 82 then (bif Nat.beq pc 79 then some (.getfield 94, 11, 29) else none) else (bif Nat.blt pc 83 then (bif Nat.beq pc 82 then some (.iload_n 1, 0, 0) else none) else (bif Nat.beq pc 83 then some (.iaload, 0, 0) else none))))) else (bif Nat.blt pc 91 then (bif Nat.blt pc 86 then (bif Nat.blt pc 85 then (bif Nat.beq pc 84 then some (.ireturn, 0, 0) else none) else (bif Nat.beq pc 85 then some (.aload_n 0, 0, 0) else none)) else (bif Nat.blt pc 87 then (bif Nat.beq pc 86 then some (.iconst 5, 0, 0) else none) else (bif Nat.blt pc 88 then (bif Nat.beq pc 87 then some (.iload_n 1, 0, 0) else none) else (bif Nat.beq pc 88 then some (.invokevirtual 257, 66, 0) else none)))) else (bif Nat.blt pc 94 then (bif Nat.blt pc 92 then (bif Nat.beq pc 91 then some (.ireturn, 0, 0) else none) else (bif Nat.blt pc 93 then (bif Nat.beq pc 92 then some (.aload_n 0, 0, 0) else none) else (bif Nat.beq pc 93 then some (.iconst 5, 0, 0) else none))) else (bif Nat.blt pc 95 then (bif Nat.beq pc 94 then some (.iload_n 1, 0, 0) else none) else (bif Nat.blt pc 98 then (bif Nat.beq pc 95 then some (.invokevirtual 141, 58, 0) else none) else (bif Nat.beq pc 98 then some (.ireturn, 0, 0) else none))))))
def rz_c65 (pc : Nat) : Option rz_I := bif Nat.blt pc 30 then (bif Nat.blt pc 16 then (bif Nat.blt pc 7 then (bif Nat.blt pc 2 then (bif Nat.blt pc 1 then (bif Nat.beq pc 0 then some (.aload_n 0, 0, 0) else none) else (bif Nat.beq pc 1 then some (.dup, 0, 0) else none)) else (bif Nat.blt pc 5 then (bif Nat.beq pc 2 then some (.getfield 130, 11, 6) else none) else (bif Nat.blt pc 6 then (bif Nat.beq pc 5 then some (.dup_x1, 0, 0) else none) else (bif Nat.beq pc 6 then some (.iconst 1, 0, 0) else none)))) else (bif Nat.blt pc 11 then (bif Nat.blt pc 8 then (bif Nat.beq pc 7 then some (.iadd, 0, 0) else none) else (bif Nat.beq pc 8 then some (.putfield 130, 11, 6) else none)) else (bif Nat.blt pc 12 then (bif Nat.beq pc 11 then some (.istore_n 2, 0, 0) else none) else (bif Nat.blt pc 13 then (bif Nat.beq pc 12 then some (.aload_n 0, 0, 0) else none) else (bif Nat.beq pc 13 then some (.getfield 27, 11, 7) else none))))) else (bif Nat.blt pc 23 then (bif Nat.blt pc 18 then (bif Nat.blt pc 17 then (bif Nat.beq pc 16 then some (.iload_n 2, 0, 0) else none) else (bif Nat.beq pc 17 then some (.iconst 0, 0, 0) else none)) else (bif Nat.blt pc 19 then (bif Nat.beq pc 18 then some (.iastore, 0, 0) else none) else (bif Nat.blt pc 20 then (bif Nat.beq pc 19 then some (.aload_n 0, 0, 0) else none) else (bif Nat.beq pc 20 then some (.getfield 30, 11, 8) else none)))) else (bif Nat.blt pc 25 then (bif Nat.blt pc 24 then (bif Nat.beq pc 23 then some (.iload_n 2, 0, 0) else none) else (bif Nat.beq pc 24 then some (.iconst 1, 0, 0) else none)) else (bif Nat.blt pc 26 then (bif Nat.beq pc 25 then some (.iastore, 0, 0) else none) else (bif Nat.blt pc 27 then (bif Nat.beq pc 26 then some (.aload_n 0, 0, 0) else none) else (bif Nat.beq pc 27 then some (.getfield 33, 11, 9) else none)))))) else (bif Nat.blt pc 44 then (bif Nat.blt pc 36 then (bif Nat.blt pc 33 then (bif Nat.blt pc 32 then (bif Nat.beq pc 30 then some (.bipush 20, 0, 0) else none) else (bif Nat.beq pc 32 then some (.iload_n 2, 0, 0) else none)) else (bif Nat.blt pc 34 then (bif Nat.beq pc 33 then some (.imul, 0, 0) else none) else (bif Nat.blt pc 35 then (bif Nat.beq pc 34 then some (.iload_n 1, 0, 0) else none) else (bif Nat.beq pc 35 then some (.iastore, 0, 0) else none)))) else (bif Nat.blt pc 40 then (bif Nat.blt pc 37 then (bif Nat.beq pc 36 then some (.aload_n 0, 0, 0) else none) else (bif Nat.beq pc 37 then some (.getfield 36, 11, 10) else none)) else (bif Nat.blt pc 42 then (bif Nat.beq pc 40 then some (.bipush 20, 0, 0) else none) else (bif Nat.blt pc 43 then (bif Nat.beq pc 42 then some (.iload_n 2, 0, 0) else none) else (bif Nat.beq pc 43 then some (.imul, 0, 0) else none))))) else (bif Nat.blt pc 52 then (bif Nat.blt pc 46 then (bif Nat.blt pc 45 then (bif Nat.beq pc 44 then some (.iconst 0, 0, 0) else none) else (bif Nat.beq pc 45 then some (.iastore, 0, 0) else none)) else (bif Nat.blt pc 47 then (bif Nat.beq pc 46 then some (.aload_n 0, 0, 0) else none) else (bif Nat.blt pc 50 then (bif Nat.beq pc 47 then some (.getfield 39, 11, 11) else none) else (bif Nat.beq pc 50 then some (.bipush 20, 0, 0) else none)))) else (bif Nat.blt pc 54 then (bif Nat.blt pc 53 then (bif Nat.beq pc 52 then some (.iload_n 2, 0, 0) else none) else (bif Nat.beq pc 53 then some (.imul, 0, 0) else none)) else (bif Nat.blt pc 55 then (bif Nat.beq pc 54 then some (.iconst (-1), 0, 0) else none) else (bif Nat.blt pc 56 then (bif Nat.beq pc 55 then some (.iastore, 0, 0) else none) else (bif Nat.beq pc 56 then some (.return_, 0, 0) else none))))))
def rz_c66 (pc : Nat) : Option rz_I := bif Nat.blt pc 7 then (bif Nat.blt pc 2 then (bif Nat.blt pc 1 then (bif Nat.beq pc 0 then some (.iconst 0, 0, 0) else none) else (bif Nat.beq pc 1 then some (.istore_n 3, 0, 0) else none)) else (bif Nat.blt pc 3 then (bif Nat.beq pc 2 then some (.iconst 0, 0, 0) else none) else (bif Nat.blt pc 5 then (bif Nat.beq pc 3 then some (.istore 4, 0, 0) else none) else (bif Nat.beq pc 5 then some (.iload 4, 0, 0) else none)))) else (bif Nat.blt pc 11 then (bif Nat.blt pc 8 then (bif Nat.beq pc 7 then some (.aload_n 0, 0, 0) else none) else (bif Nat.beq pc 8 then some (.getfield 130, 11, 6) else none)) else (bif Nat.blt pc 45 then (bif Nat.beq pc 11 then some (.if_icmp .ge 34, 0, 0) else none) else (bif Nat.blt pc 46 then (bif Nat.beq pc 45 then some (.iload_n 3, 0, 0) else none) else (bif Nat.beq pc 46 then some (.ireturn, 0, 0) else none))))
def rz_c67 (pc : Nat) : Option rz_I := bif Nat.blt pc 76 then (bif Nat.blt pc 24 then (bif Nat.blt pc 10 then (bif Nat.blt pc 5 then (bif Nat.blt pc 1 then (bif Nat.beq pc 0 then some (.aload_n 0, 0, 0) else none) else (bif Nat.blt pc 2 then (bif Nat.beq pc 1 then some (.iconst 0, 0, 0) else none) else (bif Nat.beq pc 2 then some (.putfield 1, 11, 0) else none))) else (bif Nat.blt pc 6 then (bif Nat.beq pc 5 then some (.iload_n 1, 0, 0) else none) else (bif Nat.blt pc 7 then (bif Nat.beq pc 6 then some (.i2l, 0, 0) else none) else (bif Nat.beq pc 7 then some (.ldc2_w 203, 0, 8) else none)))) else (bif Nat.blt pc 17 then (bif Nat.blt pc 13 then (bif Nat.beq pc 10 then some (.invokestatic 199, 61, 0) else none) else (bif Nat.blt pc 16 then (bif Nat.beq pc 13 then some (.ifCond .eq 14, 0, 0) else none) else (bif Nat.beq pc 16 then some (.iload_n 2, 0, 0) else none))) else (bif Nat.blt pc 18 then (bif Nat.beq pc 17 then some (.i2l, 0, 0) else none) else (bif Nat.blt pc 21 then (bif Nat.beq pc 18 then some (.ldc2_w 246, 0, 6) else none) else (bif Nat.beq pc 21 then some (.invokestatic 199, 61, 0) else none))))) else (bif Nat.blt pc 68 then (bif Nat.blt pc 31 then (bif Nat.blt pc 27 then (bif Nat.beq pc 24 then some (.ifCond .ne 8, 0, 0) else none) else (bif Nat.blt pc 28 then (bif Nat.beq pc 27 then some (.aload_n 0, 0, 0) else none) else (bif Nat.beq pc 28 then some (.invokevirtual 260, 51, 0) else none))) else (bif Nat.blt pc 32 then (bif Nat.beq pc 31 then some (.ireturn, 0, 0) else none) else (bif Nat.blt pc 33 then (bif Nat.beq pc 32 then some (.iload_n 2, 0, 0) else none) else (bif Nat.beq pc 33 then some (.tableswitch 70 0 4 #[35, 42, 49, 56, 63], 0, 0) else none)))) else (bif Nat.blt pc 73 then (bif Nat.blt pc 69 then (bif Nat.beq pc 68 then some (.aload_n 0, 0, 0) else none) else (bif Nat.blt pc 72 then (bif Nat.beq pc 69 then some (.getfield 79, 11, 24) else none) else (bif Nat.beq pc 72 then some (.iload_n 1, 0, 0) else none))) else (bif Nat.blt pc 74 then (bif Nat.beq pc 73 then some (.iaload, 0, 0) else none) else (bif Nat.blt pc 75 then (bif Nat.beq pc 74 then some (.ireturn, 0, 0) else none) else (bif Nat.beq pc 75 then some (.aload_n 0, 0, 0) else none)))))) else (bif Nat.blt pc 92 then (bif Nat.blt pc 84 then (bif Nat.blt pc 81 then (bif Nat.blt pc 79 then (bif Nat.beq pc 76 then some (.getfield 82, 11, 25) else none) else (bif Nat.blt pc 80 then (bif Nat.beq pc 79 then some (.iload_n 1, 0, 0) else none) else (bif Nat.beq pc 80 then some (.iaload, 0, 0) else none))) else (bif Nat.blt pc 82 then (bif Nat.beq pc 81 then some (.ireturn, 0, 0) else none) else (bif Nat.blt pc 83 then (bif Nat.beq pc 82 then some (.aload_n 0, 0, 0) else none) else (bif Nat.beq pc 83 then some (.iconst 1, 0, 0) else none)))) else (bif Nat.blt pc 89 then (bif Nat.blt pc 85 then (bif Nat.beq pc 84 then some (.iload_n 1, 0, 0) else none) else (bif Nat.blt pc 88 then (bif Nat.beq pc 85 then some (.invokevirtual 257, 66, 0) else none) else (bif Nat.beq pc 88 then some (.ireturn, 0, 0) else none))) else (bif Nat.blt pc 90 then (bif Nat.beq pc 89 then some (.aload_n 0, 0, 0) else none) else (bif Nat.blt pc 91 then (bif Nat.beq pc 90 then some (.iconst 2, 0, 0) else none) else (bif Nat.beq pc 91 then some (.iload_n 1, 0, 0) else none))))) else (bif Nat.blt pc 102 then (bif Nat.blt pc 97 then (bif Nat.blt pc 95 then (bif Nat.beq pc 92 then some (.invokevirtual 257, 66, 0) else none) else (bif Nat.blt pc 96 then (bif Nat.beq pc 95 then some (.ireturn, 0, 0) else none) else (bif Nat.beq pc 96 then some (.aload_n 0, 0, 0) else none))) else (bif Nat.blt pc 98 then (bif Nat.beq pc 97 then some (.iconst 1, 0, 0) else none) else (bif Nat.blt pc 99 then (bif Nat.beq pc 98 then some (.iload_n 1, 0, 0) else none) else (bif Nat.beq pc 99 then some (.invokevirtual 141, 58, 0) else none)))) else (bif Nat.blt pc 105 then (bif Nat.blt pc 103 then (bif Nat.beq pc 102 then some (.ireturn, 0, 0) else none) else (bif Nat.blt pc 104 then (bif Nat.beq pc 103 then some (.aload_n 0, 0, 0) else none) else (bif Nat.beq pc 104 then some (.iconst 2, 0, 0) else none))) else (bif Nat.blt pc 106 then (bif Nat.beq pc 105 then some (.iload_n 1, 0, 0) else none) else (bif Nat.blt pc 109 then (bif Nat.beq pc 106 then some (.invokevirtual 141, 58, 0) else none) else (bif Nat.beq pc 109 then some (.ireturn, 0, 0) else none))))))
def rz_c68 (pc : Nat) : Option rz_I := bif Nat.blt pc 6 then (bif Nat.blt pc 4 then (bif Nat.blt pc 1 then (bif Nat.beq pc 0 then some (.iload_n 1, 0, 0) else none) else (bif Nat.beq pc 1 then some (.ifCond .lt 11, 0, 0) else none)) else (bif Nat.blt pc 5 then (bif Nat.beq pc 4 then some (.iload_n 1, 0, 0) else none) else (bif Nat.beq pc 5 then some (.aload_n 0, 0, 0) else none))) else (bif Nat.blt pc 12 then (bif Nat.blt pc 9 then (bif Nat.beq pc 6 then some (.getfield 130, 11, 6) else none) else (bif Nat.beq pc 9 then some (.if_icmp .lt 7, 0, 0) else none)) else (bif Nat.blt pc 13 then (bif Nat.beq pc 12 then some (.iconst 1, 0, 0) else none) else (bif Nat.blt pc 17 then (bif Nat.beq pc 13 then some (.goto 4, 0, 0) else none) else (bif Nat.beq pc 17 then some (.ireturn, 0, 0) else none))))
def rz_c69 (pc : Nat) : Option rz_I := bif Nat.blt pc 9 then (bif Nat.blt pc 2 then (bif Nat.blt pc 1 then (bif Nat.beq pc 0 then some (.aload_n 0, 0, 0) else none) else (bif Nat.beq pc 1 then some (.iconst 0, 0, 0) else none)) else (bif Nat.blt pc 5 then (bif Nat.beq pc 2 then some (.putfield 1, 11, 0) else none) else (bif Nat.blt pc 6 then (bif Nat.beq pc 5 then some (.iload_n 1, 0, 0) else none) else (bif Nat.beq pc 6 then some (.ifCond .lt 18, 0, 0) else none)))) else (bif Nat.blt pc 14 then (bif Nat.blt pc 10 then (bif Nat.beq pc 9 then some (.iload_n 1, 0, 0) else none) else (bif Nat.blt pc 11 then (bif Nat.beq pc 10 then some (.aload_n 0, 0, 0) else none) else (bif Nat.beq pc 11 then some (.getfield 237, 11, 43) else none))) else (bif Nat.blt pc 24 then (bif Nat.beq pc 14 then some (.if_icmp .ge 10, 0, 0) else none) else (bif Nat.blt pc 27 then (bif Nat.beq pc 24 then some (.ldc2_w 155, 0, (-1)) else none) else (bif Nat.beq pc 27 then some (.lreturn, 0, 0) else none))))
def rz_c70 (pc : Nat) : Option rz_I := bif Nat.blt pc 27 then (bif Nat.blt pc 13 then (bif Nat.blt pc 5 then (bif Nat.blt pc 1 then (bif Nat.beq pc 0 then some (.aload_n 0, 0, 0) else none) else (bif Nat.blt pc 2 then (bif Nat.beq pc 1 then some (.iconst 0, 0, 0) else none) else (bif Nat.beq pc 2 then some (.putfield 1, 11, 0) else none))) else (bif Nat.blt pc 7 then (bif Nat.blt pc 6 then (bif Nat.beq pc 5 then some (.iload_n 1, 0, 0) else none) else (bif Nat.beq pc 6 then some (.i2l, 0, 0) else none)) else (bif Nat.blt pc 10 then (bif Nat.beq pc 7 then some (.ldc2_w 203, 0, 8) else none) else (bif Nat.beq pc 10 then some (.invokestatic 199, 61, 0) else none)))) else (bif Nat.blt pc 18 then (bif Nat.blt pc 16 then (bif Nat.beq pc 13 then some (.ifCond .eq 14, 0, 0) else none) else (bif Nat.blt pc 17 then (bif Nat.beq pc 16 then some (.iload_n 2, 0, 0) else none) else (bif Nat.beq pc 17 then some (.iconst 1, 0, 0) else none))) else (bif Nat.blt pc 22 then (bif Nat.blt pc 21 then (bif Nat.beq pc 18 then some (.if_icmp .lt 9, 0, 0) else none) else (bif Nat.beq pc 21 then some (.iload_n 2, 0, 0) else none)) else (bif Nat.blt pc 24 then (bif Nat.beq pc 22 then some (.bipush 64, 0, 0) else none) else (bif Nat.beq pc 24 then some (.if_icmp .le 8, 0, 0) else none))))) else (bif Nat.blt pc 39 then (bif Nat.blt pc 32 then (bif Nat.blt pc 28 then (bif Nat.beq pc 27 then some (.aload_n 0, 0, 0) else none) else (bif Nat.blt pc 31 then (bif Nat.beq pc 28 then some (.invokevirtual 260, 51, 0) else none) else (bif Nat.beq pc 31 then some (.ireturn, 0, 0) else none))) else (bif Nat.blt pc 35 then (bif Nat.blt pc 33 then (bif Nat.beq pc 32 then some (.aload_n 0, 0, 0) else none) else (bif Nat.beq pc 33 then some (.bipush 7, 0, 0) else none)) else (bif Nat.blt pc 36 then (bif Nat.beq pc 35 then some (.iload_n 1, 0, 0) else none) else (bif Nat.beq pc 36 then some (.invokevirtual 141, 58, 0) else none)))) else (bif Nat.blt pc 52 then (bif Nat.blt pc 48 then (bif Nat.blt pc 47 then (bif Nat.beq pc 39 then some (.ifCond .lt 8, 0, 0) else none) else (bif Nat.beq pc 47 then some (.aload_n 0, 0, 0) else none)) else (bif Nat.blt pc 51 then (bif Nat.beq pc 48 then some (.getfield 100, 11, 31) else none) else (bif Nat.beq pc 51 then some (.iload_n 1, 0, 0) else none))) else (bif Nat.blt pc 54 then (bif Nat.blt pc 53 then (bif Nat.beq pc 52 then some (.iload_n 2, 0, 0) else none) else (bif Nat.beq pc 53 then some (.iastore, 0, 0) else none)) else (bif Nat.blt pc 55 then (bif Nat.beq pc 54 then some (.iconst 0, 0, 0) else none) else (bif Nat.beq pc 55 then some (.ireturn, 0, 0) else none)))))
def rz_c71 (pc : Nat) : Option rz_I := bif Nat.blt pc 4 then (bif Nat.blt pc 1 then (bif Nat.beq pc 0 then some (.aload_n 0, 0, 0) else none) else (bif Nat.beq pc 1 then some (.getfield 271, 11, 36) else none)) else (bif Nat.blt pc 28 then (bif Nat.beq pc 4 then some (.ifCond .le 24, 0, 0) else none) else (bif Nat.beq pc 28 then some (.return_, 0, 0) else none))
def rz_c72 (pc : Nat) : Option rz_I := bif Nat.blt pc 50 then (bif Nat.blt pc 22 then (bif Nat.blt pc 10 then (bif Nat.blt pc 5 then (bif Nat.blt pc 1 then (bif Nat.beq pc 0 then some (.aload_n 0, 0, 0) else none) else (bif Nat.blt pc 2 then (bif Nat.beq pc 1 then some (.iconst 0, 0, 0) else none) else (bif Nat.beq pc 2 then some (.putfield 1, 11, 0) else none))) else (bif Nat.blt pc 6 then (bif Nat.beq pc 5 then some (.iload_n 1, 0, 0) else none) else (bif Nat.blt pc 7 then (bif Nat.beq pc 6 then some (.i2l, 0, 0) else none) else (bif Nat.beq pc 7 then some (.ldc2_w 231, 0, 16) else none)))) else (bif Nat.blt pc 17 then (bif Nat.blt pc 13 then (bif Nat.beq pc 10 then some (.invokestatic 199, 61, 0) else none) else (bif Nat.blt pc 16 then (bif Nat.beq pc 13 then some (.ifCond .ne 8, 0, 0) else none) else (bif Nat.beq pc 16 then some (.aload_n 0, 0, 0) else none))) else (bif Nat.blt pc 20 then (bif Nat.beq pc 17 then some (.invokevirtual 260, 51, 0) else none) else (bif Nat.blt pc 21 then (bif Nat.beq pc 20 then some (.ireturn, 0, 0) else none) else (bif Nat.beq pc 21 then some (.aload_n 0, 0, 0) else none))))) else (bif Nat.blt pc 41 then (bif Nat.blt pc 27 then (bif Nat.blt pc 25 then (bif Nat.beq pc 22 then some (.getfield 13, 11, 2) else none) else (bif Nat.blt pc 26 then (bif Nat.beq pc 25 then some (.iload_n 1, 0, 0) else none) else (bif Nat.beq pc 26 then some (.iaload, 0, 0) else none))) else (bif Nat.blt pc 30 then (bif Nat.beq pc 27 then some (.sipush 200, 0, 0) else none) else (bif Nat.blt pc 38 then (bif Nat.beq pc 30 then some (.if_icmp .ne 8, 0, 0) else none) else (bif Nat.beq pc 38 then some (.sipush 200, 0, 0) else none)))) else (bif Nat.blt pc 44 then (bif Nat.blt pc 42 then (bif Nat.beq pc 41 then some (.iload_n 1, 0, 0) else none) else (bif Nat.blt pc 43 then (bif Nat.beq pc 42 then some (.imul, 0, 0) else none) else (bif Nat.beq pc 43 then some (.aload_n 0, 0, 0) else none))) else (bif Nat.blt pc 48 then (bif Nat.blt pc 47 then (bif Nat.beq pc 44 then some (.getfield 13, 11, 2) else none) else (bif Nat.beq pc 47 then some (.iload_n 1, 0, 0) else none)) else (bif Nat.blt pc 49 then (bif Nat.beq pc 48 then some (.iaload, 0, 0) else none) else (bif Nat.beq pc 49 then some (.iadd, 0, 0) else none)))))) else (bif Nat.blt pc 72 then (bif Nat.blt pc 60 then (bif Nat.blt pc 56 then (bif Nat.blt pc 52 then (bif Nat.beq pc 50 then some (.istore 7, 0, 0) else none) else (bif Nat.blt pc 53 then (bif Nat.beq pc 52 then some (.aload_n 0, 0, 0) else none) else (bif Nat.beq pc 53 then some (.getfield 17, 11, 3) else none))) else (bif Nat.blt pc 58 then (bif Nat.beq pc 56 then some (.iload 7, 0, 0) else none) else (bif Nat.blt pc 59 then (bif Nat.beq pc 58 then some (.iload_n 2, 0, 0) else none) else (bif Nat.beq pc 59 then some (.iastore, 0, 0) else none)))) else (bif Nat.blt pc 66 then (bif Nat.blt pc 61 then (bif Nat.beq pc 60 then some (.aload_n 0, 0, 0) else none) else (bif Nat.blt pc 64 then (bif Nat.beq pc 61 then some (.getfield 20, 11, 4) else none) else (bif Nat.beq pc 64 then some (.iload 7, 0, 0) else none))) else (bif Nat.blt pc 68 then (bif Nat.blt pc 67 then (bif Nat.beq pc 66 then some (.lload_n 3, 0, 0) else none) else (bif Nat.beq pc 67 then some (.lastore, 0, 0) else none)) else (bif Nat.blt pc 69 then (bif Nat.beq pc 68 then some (.aload_n 0, 0, 0) else none) else (bif Nat.beq pc 69 then some (.getfield 24, 11, 5) else none))))) else (bif Nat.blt pc 82 then (bif Nat.blt pc 77 then (bif Nat.blt pc 74 then (bif Nat.beq pc 72 then some (.iload 7, 0, 0) else none) else (bif Nat.blt pc 76 then (bif Nat.beq pc 74 then some (.lload 5, 0, 0) else none) else (bif Nat.beq pc 76 then some (.lastore, 0, 0) else none))) else (bif Nat.blt pc 78 then (bif Nat.beq pc 77 then some (.aload_n 0, 0, 0) else none) else (bif Nat.blt pc 81 then (bif Nat.beq pc 78 then some (.getfield 13, 11, 2) else none) else (bif Nat.beq pc 81 then some (.iload_n 1, 0, 0) else none)))) else (bif Nat.blt pc 85 then (bif Nat.blt pc 83 then (bif Nat.beq pc 82 then some (.dup2, 0, 0) else none) else (bif Nat.blt pc 84 then (bif Nat.beq pc 83 then some (.iaload, 0, 0) else none) else (bif Nat.beq pc 84 then some (.dup_x2, 0, 0) else none))) else (bif Nat.blt pc 87 then (bif Nat.blt pc 86 then (bif Nat.beq pc 85 then some (.iconst 1, 0, 0) else none) else (bif Nat.beq pc 86 then some (.iadd, 0, 0) else none)) else (bif Nat.blt pc 88 then (bif Nat.beq pc 87 then some (.iastore, 0, 0) else none) else (bif Nat.beq pc 88 then some (.ireturn, 0, 0) else none))))))
def rz_c73 (pc : Nat) : Option rz_I := bif Nat.blt pc 10 then (bif Nat.blt pc 5 then (bif Nat.blt pc 1 then (bif Nat.beq pc 0 then some (.aload_n 0, 0, 0) else none) else (bif Nat.blt pc 2 then (bif Nat.beq pc 1 then some (.iconst 0, 0, 0) else none) else (bif Nat.beq pc 2 then some (.putfield 1, 11, 0) else none))) else (bif Nat.blt pc 6 then (bif Nat.beq pc 5 then some (.aload_n 0, 0, 0) else none) else (bif Nat.blt pc 7 then (bif Nat.beq pc 6 then some (.iload_n 1, 0, 0) else none) else (bif Nat.beq pc 7 then some (.invokevirtual 267, 68, 0) else none)))) else (bif Nat.blt pc 28 then (bif Nat.blt pc 24 then (bif Nat.beq pc 10 then some (.ifCond .ne 14, 0, 0) else none) else (bif Nat.blt pc 25 then (bif Nat.beq pc 24 then some (.aload_n 0, 0, 0) else none) else (bif Nat.beq pc 25 then some (.invokevirtual 260, 51, 0) else none))) else (bif Nat.blt pc 29 then (bif Nat.beq pc 28 then some (.i2l, 0, 0) else none) else (bif Nat.blt pc 42 then (bif Nat.beq pc 29 then some (.goto 13, 0, 0) else none) else (bif Nat.beq pc 42 then some (.lreturn, 0, 0) else none))))
def rz_c74 (pc : Nat) : Option rz_I := bif Nat.blt pc 7 then (bif Nat.blt pc 2 then (bif Nat.blt pc 1 then (bif Nat.beq pc 0 then some (.aload_n 0, 0, 0) else none) else (bif Nat.beq pc 1 then some (.iconst 0, 0, 0) else none)) else (bif Nat.blt pc 5 then (bif Nat.beq pc 2 then some (.putfield 1, 11, 0) else none) else (bif Nat.blt pc 6 then (bif Nat.beq pc 5 then some (.aload_n 0, 0, 0) else none) else (bif Nat.beq pc 6 then some (.iload_n 1, 0, 0) else none)))) else (bif Nat.blt pc 13 then (bif Nat.blt pc 10 then (bif Nat.beq pc 7 then some (.invokevirtual 267, 68, 0) else none) else (bif Nat.beq pc 10 then some (.ifCond .eq 8, 0, 0) else none)) else (bif Nat.blt pc 14 then (bif Nat.beq pc 13 then some (.aload_n 0, 0, 0) else none) else (bif Nat.blt pc 17 then (bif Nat.beq pc 14 then some (.invokevirtual 260, 51, 0) else none) else (bif Nat.beq pc 17 then some (.ireturn, 0, 0) else none))))
def rz_c75 (pc : Nat) : Option rz_I := bif Nat.blt pc 7 then (bif Nat.blt pc 2 then (bif Nat.blt pc 1 then (bif Nat.beq pc 0 then some (.aload_n 0, 0, 0) else none) else (bif Nat.beq pc 1 then some (.iconst 0, 0, 0) else none)) else (bif Nat.blt pc 5 then (bif Nat.beq pc 2 then some (.putfield 1, 11, 0) else none) else (bif Nat.blt pc 6 then (bif Nat.beq pc 5 then some (.aload_n 0, 0, 0) else none) else (bif Nat.beq pc 6 then some (.iload_n 1, 0, 0) else none)))) else (bif Nat.blt pc 25 then (bif Nat.blt pc 10 then (bif Nat.beq pc 7 then some (.invokevirtual 267, 68, 0) else none) else (bif Nat.beq pc 10 then some (.ifCond .ne 15, 0, 0) else none)) else (bif Nat.blt pc 26 then (bif Nat.beq pc 25 then some (.aload_n 0, 0, 0) else none) else (bif Nat.blt pc 29 then (bif Nat.beq pc 26 then some (.invokevirtual 260, 51, 0) else none) else (bif Nat.beq pc 29 then some (.ireturn, 0, 0) else none))))
def rz_c76 (pc : Nat) : Option rz_I := bif Nat.blt pc 31 then (bif Nat.blt pc 13 then (bif Nat.blt pc 5 then (bif Nat.blt pc 1 then (bif Nat.beq pc 0 then some (.aload_n 0, 0, 0) else none) else (bif Nat.blt pc 2 then (bif Nat.beq pc 1 then some (.iconst 0, 0, 0) else none) else (bif Nat.beq pc 2 then some (.putfield 1, 11, 0) else none))) else (bif Nat.blt pc 7 then (bif Nat.blt pc 6 then (bif Nat.beq pc 5 then some (.iload_n 1, 0, 0) else none) else (bif Nat.beq pc 6 then some (.i2l, 0, 0) else none)) else (bif Nat.blt pc 10 then (bif Nat.beq pc 7 then some (.ldc2_w 203, 0, 8) else none) else (bif Nat.beq pc 10 then some (.invokestatic 199, 61, 0) else none)))) else (bif Nat.blt pc 21 then (bif Nat.blt pc 17 then (bif Nat.blt pc 16 then (bif Nat.beq pc 13 then some (.ifCond .eq 14, 0, 0) else none) else (bif Nat.beq pc 16 then some (.iload_n 2, 0, 0) else none)) else (bif Nat.blt pc 18 then (bif Nat.beq pc 17 then some (.i2l, 0, 0) else none) else (bif Nat.beq pc 18 then some (.ldc2_w 170, 0, 2) else none))) else (bif Nat.blt pc 27 then (bif Nat.blt pc 24 then (bif Nat.beq pc 21 then some (.invokestatic 199, 61, 0) else none) else (bif Nat.beq pc 24 then some (.ifCond .ne 8, 0, 0) else none)) else (bif Nat.blt pc 28 then (bif Nat.beq pc 27 then some (.aload_n 0, 0, 0) else none) else (bif Nat.beq pc 28 then some (.invokevirtual 260, 51, 0) else none))))) else (bif Nat.blt pc 45 then (bif Nat.blt pc 37 then (bif Nat.blt pc 33 then (bif Nat.blt pc 32 then (bif Nat.beq pc 31 then some (.ireturn, 0, 0) else none) else (bif Nat.beq pc 32 then some (.iload_n 2, 0, 0) else none)) else (bif Nat.blt pc 36 then (bif Nat.beq pc 33 then some (.ifCond .ne 19, 0, 0) else none) else (bif Nat.beq pc 36 then some (.aload_n 0, 0, 0) else none))) else (bif Nat.blt pc 41 then (bif Nat.blt pc 40 then (bif Nat.beq pc 37 then some (.getfield 97, 11, 30) else none) else (bif Nat.beq pc 40 then some (.iload_n 1, 0, 0) else none)) else (bif Nat.blt pc 42 then (bif Nat.beq pc 41 then some (.laload, 0, 0) else none) else (bif Nat.beq pc 42 then some (.ldc2_w 296, 0, 2147483647) else none)))) else (bif Nat.blt pc 53 then (bif Nat.blt pc 49 then (bif Nat.blt pc 48 then (bif Nat.beq pc 45 then some (.invokestatic 298, 3, 0) else none) else (bif Nat.beq pc 48 then some (.l2i, 0, 0) else none)) else (bif Nat.blt pc 52 then (bif Nat.beq pc 49 then some (.goto 10, 0, 0) else none) else (bif Nat.beq pc 52 then some (.aload_n 0, 0, 0) else none))) else (bif Nat.blt pc 56 then (bif Nat.blt pc 55 then (bif Nat.beq pc 53 then some (.bipush 6, 0, 0) else none) else (bif Nat.beq pc 55 then some (.iload_n 1, 0, 0) else none)) else (bif Nat.blt pc 59 then (bif Nat.beq pc 56 then some (.invokevirtual 257, 66, 0) else none) else (bif Nat.beq pc 59 then some (.ireturn, 0, 0) else none)))))
def rz_c77 (pc : Nat) : Option rz_I := bif Nat.blt pc 7 then (bif Nat.blt pc 3 then (bif Nat.blt pc 1 then (bif Nat.beq pc 0 then some (.aload_n 0, 0, 0) else none) else (bif Nat.beq pc 1 then some (.bipush 6, 0, 0) else none)) else (bif Nat.blt pc 4 then (bif Nat.beq pc 3 then some (.iload_n 1, 0, 0) else none) else (bif Nat.beq pc 4 then some (.invokevirtual 141, 58, 0) else none))) else (bif Nat.blt pc 9 then (bif Nat.blt pc 8 then (bif Nat.beq pc 7 then some (.istore_n 2, 0, 0) else none) else (bif Nat.beq pc 8 then some (.iload_n 2, 0, 0) else none)) else (bif Nat.blt pc 59 then (bif Nat.beq pc 9 then some (.ifCond .lt 50, 0, 0) else none) else (bif Nat.beq pc 59 then some (.return_, 0, 0) else none)))
def rz_c78 (pc : Nat) : Option rz_I := bif Nat.blt pc 22 then (bif Nat.blt pc 10 then (bif Nat.blt pc 5 then (bif Nat.blt pc 1 then (bif Nat.beq pc 0 then some (.aload_n 0, 0, 0) else none) else (bif Nat.blt pc 2 then (bif Nat.beq pc 1 then some (.iconst 0, 0, 0) else none) else (bif Nat.beq pc 2 then some (.putfield 1, 11, 0) else none))) else (bif Nat.blt pc 6 then (bif Nat.beq pc 5 then some (.iload_n 1, 0, 0) else none) else (bif Nat.blt pc 7 then (bif Nat.beq pc 6 then some (.i2l, 0, 0) else none) else (bif Nat.beq pc 7 then some (.ldc2_w 227, 0, 32) else none)))) else (bif Nat.blt pc 17 then (bif Nat.blt pc 13 then (bif Nat.beq pc 10 then some (.invokestatic 199, 61, 0) else none) else (bif Nat.blt pc 16 then (bif Nat.beq pc 13 then some (.ifCond .ne 9, 0, 0) else none) else (bif Nat.beq pc 16 then some (.aload_n 0, 0, 0) else none))) else (bif Nat.blt pc 20 then (bif Nat.beq pc 17 then some (.invokevirtual 260, 51, 0) else none) else (bif Nat.blt pc 21 then (bif Nat.beq pc 20 then some (.i2l, 0, 0) else none) else (bif Nat.beq pc 21 then some (.lreturn, 0, 0) else none))))) else (bif Nat.blt pc 31 then (bif Nat.blt pc 27 then (bif Nat.blt pc 23 then (bif Nat.beq pc 22 then some (.aload_n 0, 0, 0) else none) else (bif Nat.blt pc 26 then (bif Nat.beq pc 23 then some (.getfield 76, 11, 23) else none) else (bif Nat.beq pc 26 then some (.iload_n 1, 0, 0) else none))) else (bif Nat.blt pc 28 then (bif Nat.beq pc 27 then some (.laload, 0, 0) else none) else (bif Nat.blt pc 30 then (bif Nat.beq pc 28 then some (.lstore 4, 0, 0) else none) else (bif Nat.beq pc 30 then some (.aload_n 0, 0, 0) else none)))) else (bif Nat.blt pc 36 then (bif Nat.blt pc 34 then (bif Nat.beq pc 31 then some (.getfield 76, 11, 23) else none) else (bif Nat.blt pc 35 then (bif Nat.beq pc 34 then some (.iload_n 1, 0, 0) else none) else (bif Nat.beq pc 35 then some (.lload_n 2, 0, 0) else none))) else (bif Nat.blt pc 37 then (bif Nat.beq pc 36 then some (.lastore, 0, 0) else none) else (bif Nat.blt pc 39 then (bif Nat.beq pc 37 then some (.lload 4, 0, 0) else none) else (bif Nat.beq pc 39 then some (.lreturn, 0, 0) else none)))))
def rz_c79 (pc : Nat) : Option rz_I := bif Nat.blt pc 41 then (bif Nat.blt pc 19 then (bif Nat.blt pc 9 then (bif Nat.blt pc 4 then (bif Nat.blt pc 1 then (bif Nat.beq pc 0 then some (.aload_n 0, 0, 0) else none) else (bif Nat.beq pc 1 then some (.getfield 30, 11, 8) else none)) else (bif Nat.blt pc 5 then (bif Nat.beq pc 4 then some (.iload_n 1, 0, 0) else none) else (bif Nat.blt pc 6 then (bif Nat.beq pc 5 then some (.iaload, 0, 0) else none) else (bif Nat.beq pc 6 then some (.ifCond .le 44, 0, 0) else none)))) else (bif Nat.blt pc 14 then (bif Nat.blt pc 10 then (bif Nat.beq pc 9 then some (.aload_n 0, 0, 0) else none) else (bif Nat.blt pc 13 then (bif Nat.beq pc 10 then some (.getfield 36, 11, 10) else none) else (bif Nat.beq pc 13 then some (.aload_n 0, 0, 0) else none))) else (bif Nat.blt pc 15 then (bif Nat.beq pc 14 then some (.iload_n 1, 0, 0) else none) else (bif Nat.blt pc 18 then (bif Nat.beq pc 15 then some (.invokevirtual 133, 85, 0) else none) else (bif Nat.beq pc 18 then some (.iaload, 0, 0) else none))))) else (bif Nat.blt pc 29 then (bif Nat.blt pc 24 then (bif Nat.blt pc 20 then (bif Nat.beq pc 19 then some (.aload_n 0, 0, 0) else none) else (bif Nat.blt pc 23 then (bif Nat.beq pc 20 then some (.getfield 13, 11, 2) else none) else (bif Nat.beq pc 23 then some (.aload_n 0, 0, 0) else none))) else (bif Nat.blt pc 27 then (bif Nat.beq pc 24 then some (.getfield 33, 11, 9) else none) else (bif Nat.blt pc 28 then (bif Nat.beq pc 27 then some (.aload_n 0, 0, 0) else none) else (bif Nat.beq pc 28 then some (.iload_n 1, 0, 0) else none)))) else (bif Nat.blt pc 34 then (bif Nat.blt pc 32 then (bif Nat.beq pc 29 then some (.invokevirtual 133, 85, 0) else none) else (bif Nat.blt pc 33 then (bif Nat.beq pc 32 then some (.iaload, 0, 0) else none) else (bif Nat.beq pc 33 then some (.iaload, 0, 0) else none))) else (bif Nat.blt pc 37 then (bif Nat.beq pc 34 then some (.if_icmp .lt 16, 0, 0) else none) else (bif Nat.blt pc 38 then (bif Nat.beq pc 37 then some (.aload_n 0, 0, 0) else none) else (bif Nat.beq pc 38 then some (.getfield 30, 11, 8) else none)))))) else (bif Nat.blt pc 56 then (bif Nat.blt pc 46 then (bif Nat.blt pc 43 then (bif Nat.blt pc 42 then (bif Nat.beq pc 41 then some (.iload_n 1, 0, 0) else none) else (bif Nat.beq pc 42 then some (.dup2, 0, 0) else none)) else (bif Nat.blt pc 44 then (bif Nat.beq pc 43 then some (.iaload, 0, 0) else none) else (bif Nat.blt pc 45 then (bif Nat.beq pc 44 then some (.iconst 1, 0, 0) else none) else (bif Nat.beq pc 45 then some (.isub, 0, 0) else none)))) else (bif Nat.blt pc 51 then (bif Nat.blt pc 47 then (bif Nat.beq pc 46 then some (.iastore, 0, 0) else none) else (bif Nat.blt pc 50 then (bif Nat.beq pc 47 then some (.goto (-47), 0, 0) else none) else (bif Nat.beq pc 50 then some (.aload_n 0, 0, 0) else none))) else (bif Nat.blt pc 54 then (bif Nat.beq pc 51 then some (.getfield 30, 11, 8) else none) else (bif Nat.blt pc 55 then (bif Nat.beq pc 54 then some (.iload_n 1, 0, 0) else none) else (bif Nat.beq pc 55 then some (.iaload, 0, 0) else none))))) else (bif Nat.blt pc 67 then (bif Nat.blt pc 63 then (bif Nat.blt pc 59 then (bif Nat.beq pc 56 then some (.ifCond .ne 21, 0, 0) else none) else (bif Nat.blt pc 60 then (bif Nat.beq pc 59 then some (.aload_n 0, 0, 0) else none) else (bif Nat.beq pc 60 then some (.getfield 27, 11, 7) else none))) else (bif Nat.blt pc 64 then (bif Nat.beq pc 63 then some (.iload_n 1, 0, 0) else none) else (bif Nat.blt pc 65 then (bif Nat.beq pc 64 then some (.iaload, 0, 0) else none) else (bif Nat.beq pc 65 then some (.bipush 9, 0, 0) else none)))) else (bif Nat.blt pc 72 then (bif Nat.blt pc 70 then (bif Nat.beq pc 67 then some (.if_icmp .ge 10, 0, 0) else none) else (bif Nat.blt pc 71 then (bif Nat.beq pc 70 then some (.aload_n 0, 0, 0) else none) else (bif Nat.beq pc 71 then some (.iload_n 1, 0, 0) else none))) else (bif Nat.blt pc 74 then (bif Nat.beq pc 72 then some (.bipush 9, 0, 0) else none) else (bif Nat.blt pc 77 then (bif Nat.beq pc 74 then some (.invokevirtual 137, 57, 0) else none) else (bif Nat.beq pc 77 then some (.return_, 0, 0) else none))))))
def rz_c80 (pc : Nat) : Option rz_I := bif Nat.blt pc 7 then (bif Nat.blt pc 2 then (bif Nat.blt pc 1 then (bif Nat.beq pc 0 then some (.aload_n 0, 0, 0) else none) else (bif Nat.beq pc 1 then some (.iconst 0, 0, 0) else none)) else (bif Nat.blt pc 5 then (bif Nat.beq pc 2 then some (.putfield 1, 11, 0) else none) else (bif Nat.blt pc 6 then (bif Nat.beq pc 5 then some (.aload_n 0, 0, 0) else none) else (bif Nat.beq pc 6 then some (.iload_n 1, 0, 0) else none)))) else (bif Nat.blt pc 14 then (bif Nat.blt pc 10 then (bif Nat.beq pc 7 then some (.invokevirtual 267, 68, 0) else none) else (bif Nat.blt pc 13 then (bif Nat.beq pc 10 then some (.ifCond .eq 10, 0, 0) else none) else (bif Nat.beq pc 13 then some (.aload_n 0, 0, 0) else none))) else (bif Nat.blt pc 17 then (bif Nat.beq pc 14 then some (.invokevirtual 260, 51, 0) else none) else (bif Nat.blt pc 26 then (bif Nat.beq pc 17 then some (.goto 9, 0, 0) else none) else (bif Nat.beq pc 26 then some (.ireturn, 0, 0) else none))))
def rz_c81 (pc : Nat) : Option rz_I := bif Nat.blt pc 27 then (bif Nat.blt pc 10 then (bif Nat.blt pc 5 then (bif Nat.blt pc 1 then (bif Nat.beq pc 0 then some (.aload_n 0, 0, 0) else none) else (bif Nat.blt pc 2 then (bif Nat.beq pc 1 then some (.iconst 0, 0, 0) else none) else (bif Nat.beq pc 2 then some (.putfield 1, 11, 0) else none))) else (bif Nat.blt pc 6 then (bif Nat.beq pc 5 then some (.iload_n 1, 0, 0) else none) else (bif Nat.blt pc 7 then (bif Nat.beq pc 6 then some (.i2l, 0, 0) else none) else (bif Nat.beq pc 7 then some (.ldc2_w 203, 0, 8) else none)))) else (bif Nat.blt pc 17 then (bif Nat.blt pc 13 then (bif Nat.beq pc 10 then some (.invokestatic 199, 61, 0) else none) else (bif Nat.blt pc 16 then (bif Nat.beq pc 13 then some (.ifCond .eq 14, 0, 0) else none) else (bif Nat.beq pc 16 then some (.iload_n 2, 0, 0) else none))) else (bif Nat.blt pc 21 then (bif Nat.blt pc 20 then (bif Nat.beq pc 17 then some (.ifCond .lt 10, 0, 0) else none) else (bif Nat.beq pc 20 then some (.iload_n 2, 0, 0) else none)) else (bif Nat.blt pc 24 then (bif Nat.beq pc 21 then some (.ldc_w 290, 0, 1000000) else none) else (bif Nat.beq pc 24 then some (.if_icmp .le 9, 0, 0) else none))))) else (bif Nat.blt pc 36 then (bif Nat.blt pc 32 then (bif Nat.blt pc 28 then (bif Nat.beq pc 27 then some (.aload_n 0, 0, 0) else none) else (bif Nat.blt pc 31 then (bif Nat.beq pc 28 then some (.invokevirtual 260, 51, 0) else none) else (bif Nat.beq pc 31 then some (.i2l, 0, 0) else none))) else (bif Nat.blt pc 34 then (bif Nat.blt pc 33 then (bif Nat.beq pc 32 then some (.lreturn, 0, 0) else none) else (bif Nat.beq pc 33 then some (.aload_n 0, 0, 0) else none)) else (bif Nat.blt pc 35 then (bif Nat.beq pc 34 then some (.iload_n 1, 0, 0) else none) else (bif Nat.beq pc 35 then some (.iload_n 2, 0, 0) else none)))) else (bif Nat.blt pc 41 then (bif Nat.blt pc 37 then (bif Nat.beq pc 36 then some (.i2l, 0, 0) else none) else (bif Nat.blt pc 40 then (bif Nat.beq pc 37 then some (.invokevirtual 254, 59, 0) else none) else (bif Nat.beq pc 40 then some (.aload_n 0, 0, 0) else none))) else (bif Nat.blt pc 45 then (bif Nat.blt pc 44 then (bif Nat.beq pc 41 then some (.getfield 97, 11, 30) else none) else (bif Nat.beq pc 44 then some (.iload_n 1, 0, 0) else none)) else (bif Nat.blt pc 46 then (bif Nat.beq pc 45 then some (.laload, 0, 0) else none) else (bif Nat.beq pc 46 then some (.lreturn, 0, 0) else none)))))
def rz_c82 (pc : Nat) : Option rz_I := bif Nat.blt pc 7 then (bif Nat.blt pc 2 then (bif Nat.blt pc 1 then (bif Nat.beq pc 0 then some (.aload_n 0, 0, 0) else none) else (bif Nat.beq pc 1 then some (.iconst 0, 0, 0) else none)) else (bif Nat.blt pc 5 then (bif Nat.beq pc 2 then some (.putfield 1, 11, 0) else none) else (bif Nat.blt pc 6 then (bif Nat.beq pc 5 then some (.aload_n 0, 0, 0) else none) else (bif Nat.beq pc 6 then some (.iload_n 1, 0, 0) else none)))) else (bif Nat.blt pc 23 then (bif Nat.blt pc 10 then (bif Nat.beq pc 7 then some (.invokevirtual 267, 68, 0) else none) else (bif Nat.beq pc 10 then some (.ifCond .ne 13, 0, 0) else none)) else (bif Nat.blt pc 24 then (bif Nat.beq pc 23 then some (.aload_n 0, 0, 0) else none) else (bif Nat.blt pc 27 then (bif Nat.beq pc 24 then some (.invokevirtual 260, 51, 0) else none) else (bif Nat.beq pc 27 then some (.ireturn, 0, 0) else none))))
def rz_c83 (pc : Nat) : Option rz_I := bif Nat.blt pc 1 then (bif Nat.beq pc 0 then some (.aload_n 0, 0, 0) else none) else (bif Nat.blt pc 4 then (bif Nat.beq pc 1 then some (.getfield 1, 11, 0) else none) else (bif Nat.beq pc 4 then some (.ireturn, 0, 0) else none))
def rz_c84 (pc : Nat) : Option rz_I := bif Nat.blt pc 28 then (bif Nat.blt pc 14 then (bif Nat.blt pc 6 then (bif Nat.blt pc 2 then (bif Nat.blt pc 1 then (bif Nat.beq pc 0 then some (.aload_n 0, 0, 0) else none) else (bif Nat.beq pc 1 then some (.iconst 0, 0, 0) else none)) else (bif Nat.blt pc 5 then (bif Nat.beq pc 2 then some (.putfield 1, 11, 0) else none) else (bif Nat.beq pc 5 then some (.iload_n 1, 0, 0) else none))) else (bif Nat.blt pc 10 then (bif Nat.blt pc 7 then (bif Nat.beq pc 6 then some (.iconst 1, 0, 0) else none) else (bif Nat.beq pc 7 then some (.if_icmp .lt 10, 0, 0) else none)) else (bif Nat.blt pc 11 then (bif Nat.beq pc 10 then some (.iload_n 1, 0, 0) else none) else (bif Nat.beq pc 11 then some (.ldc_w 290, 0, 1000000) else none)))) else (bif Nat.blt pc 22 then (bif Nat.blt pc 18 then (bif Nat.blt pc 17 then (bif Nat.beq pc 14 then some (.if_icmp .le 8, 0, 0) else none) else (bif Nat.beq pc 17 then some (.aload_n 0, 0, 0) else none)) else (bif Nat.blt pc 21 then (bif Nat.beq pc 18 then some (.invokevirtual 260, 51, 0) else none) else (bif Nat.beq pc 21 then some (.ireturn, 0, 0) else none))) else (bif Nat.blt pc 24 then (bif Nat.blt pc 23 then (bif Nat.beq pc 22 then some (.aload_n 0, 0, 0) else none) else (bif Nat.beq pc 23 then some (.dup, 0, 0) else none)) else (bif Nat.blt pc 27 then (bif Nat.beq pc 24 then some (.getfield 161, 11, 40) else none) else (bif Nat.beq pc 27 then some (.iload_n 1, 0, 0) else none))))) else (bif Nat.blt pc 38 then (bif Nat.blt pc 34 then (bif Nat.blt pc 30 then (bif Nat.blt pc 29 then (bif Nat.beq pc 28 then some (.i2l, 0, 0) else none) else (bif Nat.beq pc 29 then some (.ladd, 0, 0) else none)) else (bif Nat.blt pc 33 then (bif Nat.beq pc 30 then some (.putfield 161, 11, 40) else none) else (bif Nat.beq pc 33 then some (.iconst 0, 0, 0) else none))) else (bif Nat.blt pc 36 then (bif Nat.blt pc 35 then (bif Nat.beq pc 34 then some (.istore_n 2, 0, 0) else none) else (bif Nat.beq pc 35 then some (.iconst (-1), 0, 0) else none)) else (bif Nat.blt pc 37 then (bif Nat.beq pc 36 then some (.istore_n 3, 0, 0) else none) else (bif Nat.beq pc 37 then some (.iconst 0, 0, 0) else none)))) else (bif Nat.blt pc 46 then (bif Nat.blt pc 42 then (bif Nat.blt pc 40 then (bif Nat.beq pc 38 then some (.istore 4, 0, 0) else none) else (bif Nat.beq pc 40 then some (.iload 4, 0, 0) else none)) else (bif Nat.blt pc 43 then (bif Nat.beq pc 42 then some (.aload_n 0, 0, 0) else none) else (bif Nat.beq pc 43 then some (.getfield 130, 11, 6) else none))) else (bif Nat.blt pc 153 then (bif Nat.blt pc 152 then (bif Nat.beq pc 46 then some (.if_icmp .ge 106, 0, 0) else none) else (bif Nat.beq pc 152 then some (.iload_n 3, 0, 0) else none)) else (bif Nat.blt pc 156 then (bif Nat.beq pc 153 then some (.ifCond .ge 5, 0, 0) else none) else (bif Nat.blt pc 157 then (bif Nat.beq pc 156 then some (.iload_n 2, 0, 0) else none) else (bif Nat.beq pc 157 then some (.ireturn, 0, 0) else none))))))
def rz_c85 (pc : Nat) : Option rz_I := bif Nat.blt pc 8 then (bif Nat.blt pc 3 then (bif Nat.blt pc 2 then (bif Nat.beq pc 0 then some (.bipush 20, 0, 0) else none) else (bif Nat.beq pc 2 then some (.iload_n 1, 0, 0) else none)) else (bif Nat.blt pc 4 then (bif Nat.beq pc 3 then some (.imul, 0, 0) else none) else (bif Nat.blt pc 5 then (bif Nat.beq pc 4 then some (.aload_n 0, 0, 0) else none) else (bif Nat.beq pc 5 then some (.getfield 30, 11, 8) else none)))) else (bif Nat.blt pc 11 then (bif Nat.blt pc 9 then (bif Nat.beq pc 8 then some (.iload_n 1, 0, 0) else none) else (bif Nat.blt pc 10 then (bif Nat.beq pc 9 then some (.iaload, 0, 0) else none) else (bif Nat.beq pc 10 then some (.iadd, 0, 0) else none))) else (bif Nat.blt pc 12 then (bif Nat.beq pc 11 then some (.iconst 1, 0, 0) else none) else (bif Nat.blt pc 13 then (bif Nat.beq pc 12 then some (.isub, 0, 0) else none) else (bif Nat.beq pc 13 then some (.ireturn, 0, 0) else none))))
def rz_c86 (pc : Nat) : Option rz_I := bif Nat.blt pc 29 then (bif Nat.blt pc 14 then (bif Nat.blt pc 8 then (bif Nat.blt pc 4 then (bif Nat.blt pc 1 then (bif Nat.beq pc 0 then some (.aload_n 1, 0, 0) else none) else (bif Nat.beq pc 1 then some (.getfield 69, 9, 7) else none)) else (bif Nat.blt pc 7 then (bif Nat.beq pc 4 then some (.ifCond .ne 13, 0, 0) else none) else (bif Nat.beq pc 7 then some (.aload_n 0, 0, 0) else none))) else (bif Nat.blt pc 12 then (bif Nat.blt pc 9 then (bif Nat.beq pc 8 then some (.dup, 0, 0) else none) else (bif Nat.beq pc 9 then some (.getfield 27, 1, 3) else none)) else (bif Nat.blt pc 13 then (bif Nat.beq pc 12 then some (.iconst 1, 0, 0) else none) else (bif Nat.beq pc 13 then some (.isub, 0, 0) else none)))) else (bif Nat.blt pc 22 then (bif Nat.blt pc 18 then (bif Nat.blt pc 17 then (bif Nat.beq pc 14 then some (.putfield 27, 1, 3) else none) else (bif Nat.beq pc 17 then some (.aload_n 0, 0, 0) else none)) else (bif Nat.blt pc 19 then (bif Nat.beq pc 18 then some (.dup, 0, 0) else none) else (bif Nat.beq pc 19 then some (.getfield 30, 1, 4) else none))) else (bif Nat.blt pc 24 then (bif Nat.blt pc 23 then (bif Nat.beq pc 22 then some (.iconst 1, 0, 0) else none) else (bif Nat.beq pc 23 then some (.iadd, 0, 0) else none)) else (bif Nat.blt pc 27 then (bif Nat.beq pc 24 then some (.putfield 30, 1, 4) else none) else (bif Nat.blt pc 28 then (bif Nat.beq pc 27 then some (.aload_n 1, 0, 0) else none) else (bif Nat.beq pc 28 then some (.iload_n 2, 0, 0) else none)))))) else (bif Nat.blt pc 48 then (bif Nat.blt pc 42 then (bif Nat.blt pc 34 then (bif Nat.blt pc 32 then (bif Nat.beq pc 29 then some (.ifCond .ne 8, 0, 0) else none) else (bif Nat.beq pc 32 then some (.bipush 9, 0, 0) else none)) else (bif Nat.blt pc 39 then (bif Nat.beq pc 34 then some (.goto 5, 0, 0) else none) else (bif Nat.beq pc 39 then some (.putfield 69, 9, 7) else none))) else (bif Nat.blt pc 44 then (bif Nat.blt pc 43 then (bif Nat.beq pc 42 then some (.aload_n 1, 0, 0) else none) else (bif Nat.beq pc 43 then some (.iload_n 2, 0, 0) else none)) else (bif Nat.blt pc 47 then (bif Nat.beq pc 44 then some (.putfield 99, 9, 10) else none) else (bif Nat.beq pc 47 then some (.aload_n 1, 0, 0) else none)))) else (bif Nat.blt pc 56 then (bif Nat.blt pc 52 then (bif Nat.blt pc 49 then (bif Nat.beq pc 48 then some (.iconst 0, 0, 0) else none) else (bif Nat.beq pc 49 then some (.putfield 57, 9, 6) else none)) else (bif Nat.blt pc 53 then (bif Nat.beq pc 52 then some (.aload_n 1, 0, 0) else none) else (bif Nat.beq pc 53 then some (.ldc2_w 63, 0, 9223372036854775807) else none))) else (bif Nat.blt pc 60 then (bif Nat.blt pc 59 then (bif Nat.beq pc 56 then some (.putfield 75, 9, 13) else none) else (bif Nat.beq pc 59 then some (.aload_n 0, 0, 0) else none)) else (bif Nat.blt pc 61 then (bif Nat.beq pc 60 then some (.iconst 1, 0, 0) else none) else (bif Nat.blt pc 64 then (bif Nat.beq pc 61 then some (.putfield 46, 1, 9) else none) else (bif Nat.beq pc 64 then some (.return_, 0, 0) else none))))))
def rz_c87 (pc : Nat) : Option rz_I := bif Nat.blt pc 5 then (bif Nat.blt pc 2 then (bif Nat.blt pc 1 then (bif Nat.beq pc 0 then some (.aconst_null, 0, 0) else none) else (bif Nat.beq pc 1 then some (.astore_n 1, 0, 0) else none)) else (bif Nat.blt pc 3 then (bif Nat.beq pc 2 then some (.iconst 0, 0, 0) else none) else (bif Nat.blt pc 4 then (bif Nat.beq pc 3 then some (.istore_n 2, 0, 0) else none) else (bif Nat.beq pc 4 then some (.iload_n 2, 0, 0) else none)))) else (bif Nat.blt pc 9 then (bif Nat.blt pc 6 then (bif Nat.beq pc 5 then some (.aload_n 0, 0, 0) else none) else (bif Nat.beq pc 6 then some (.getfield 23, 1, 2) else none)) else (bif Nat.blt pc 51 then (bif Nat.beq pc 9 then some (.if_icmp .ge 42, 0, 0) else none) else (bif Nat.blt pc 52 then (bif Nat.beq pc 51 then some (.aload_n 1, 0, 0) else none) else (bif Nat.beq pc 52 then some (.areturn, 0, 0) else none))))
def rz_c88 (pc : Nat) : Option rz_I := bif Nat.blt pc 44 then (bif Nat.blt pc 24 then (bif Nat.blt pc 13 then (bif Nat.blt pc 5 then (bif Nat.blt pc 1 then (bif Nat.beq pc 0 then some (.aload_n 0, 0, 0) else none) else (bif Nat.blt pc 4 then (bif Nat.beq pc 1 then some (.invokespecial 3, 0, 1) else none) else (bif Nat.beq pc 4 then some (.aload_n 0, 0, 0) else none))) else (bif Nat.blt pc 7 then (bif Nat.beq pc 5 then some (.bipush 16, 0, 0) else none) else (bif Nat.blt pc 10 then (bif Nat.beq pc 7 then some (.anewarray 9, 6, 0) else none) else (bif Nat.beq pc 10 then some (.putfield 11, 1, 0) else none)))) else (bif Nat.blt pc 19 then (bif Nat.blt pc 14 then (bif Nat.beq pc 13 then some (.aload_n 0, 0, 0) else none) else (bif Nat.blt pc 16 then (bif Nat.beq pc 14 then some (.bipush 64, 0, 0) else none) else (bif Nat.beq pc 16 then some (.anewarray 17, 9, 0) else none))) else (bif Nat.blt pc 22 then (bif Nat.beq pc 19 then some (.putfield 19, 1, 1) else none) else (bif Nat.blt pc 23 then (bif Nat.beq pc 22 then some (.aload_n 0, 0, 0) else none) else (bif Nat.beq pc 23 then some (.iconst 0, 0, 0) else none))))) else (bif Nat.blt pc 34 then (bif Nat.blt pc 29 then (bif Nat.blt pc 27 then (bif Nat.beq pc 24 then some (.putfield 23, 1, 2) else none) else (bif Nat.blt pc 28 then (bif Nat.beq pc 27 then some (.aload_n 0, 0, 0) else none) else (bif Nat.beq pc 28 then some (.iconst 0, 0, 0) else none))) else (bif Nat.blt pc 32 then (bif Nat.beq pc 29 then some (.putfield 27, 1, 3) else none) else (bif Nat.blt pc 33 then (bif Nat.beq pc 32 then some (.aload_n 0, 0, 0) else none) else (bif Nat.beq pc 33 then some (.iconst 0, 0, 0) else none)))) else (bif Nat.blt pc 39 then (bif Nat.blt pc 37 then (bif Nat.beq pc 34 then some (.putfield 30, 1, 4) else none) else (bif Nat.blt pc 38 then (bif Nat.beq pc 37 then some (.aload_n 0, 0, 0) else none) else (bif Nat.beq pc 38 then some (.iconst 0, 0, 0) else none))) else (bif Nat.blt pc 42 then (bif Nat.beq pc 39 then some (.putfield 33, 1, 5) else none) else (bif Nat.blt pc 43 then (bif Nat.beq pc 42 then some (.aload_n 0, 0, 0) else none) else (bif Nat.beq pc 43 then some (.iconst 0, 0, 0) else none)))))) else (bif Nat.blt pc 64 then (bif Nat.blt pc 54 then (bif Nat.blt pc 49 then (bif Nat.blt pc 47 then (bif Nat.beq pc 44 then some (.putfield 36, 1, 6) else none) else (bif Nat.blt pc 48 then (bif Nat.beq pc 47 then some (.aload_n 0, 0, 0) else none) else (bif Nat.beq pc 48 then some (.iconst 0, 0, 0) else none))) else (bif Nat.blt pc 52 then (bif Nat.beq pc 49 then some (.putfield 39, 1, 7) else none) else (bif Nat.blt pc 53 then (bif Nat.beq pc 52 then some (.aload_n 0, 0, 0) else none) else (bif Nat.beq pc 53 then some (.lconst 0, 0, 0) else none)))) else (bif Nat.blt pc 59 then (bif Nat.blt pc 57 then (bif Nat.beq pc 54 then some (.putfield 42, 1, 8) else none) else (bif Nat.blt pc 58 then (bif Nat.beq pc 57 then some (.aload_n 0, 0, 0) else none) else (bif Nat.beq pc 58 then some (.iconst 0, 0, 0) else none))) else (bif Nat.blt pc 62 then (bif Nat.beq pc 59 then some (.putfield 46, 1, 9) else none) else (bif Nat.blt pc 63 then (bif Nat.beq pc 62 then some (.iconst 0, 0, 0) else none) else (bif Nat.beq pc 63 then some (.istore_n 1, 0, 0) else none))))) else (bif Nat.blt pc 75 then (bif Nat.blt pc 70 then (bif Nat.blt pc 65 then (bif Nat.beq pc 64 then some (.iload_n 1, 0, 0) else none) else (bif Nat.blt pc 67 then (bif Nat.beq pc 65 then some (.bipush 16, 0, 0) else none) else (bif Nat.beq pc 67 then some (.if_icmp .ge 22, 0, 0) else none))) else (bif Nat.blt pc 71 then (bif Nat.beq pc 70 then some (.aload_n 0, 0, 0) else none) else (bif Nat.blt pc 74 then (bif Nat.beq pc 71 then some (.getfield 11, 1, 0) else none) else (bif Nat.beq pc 74 then some (.iload_n 1, 0, 0) else none)))) else (bif Nat.blt pc 82 then (bif Nat.blt pc 78 then (bif Nat.beq pc 75 then some (.new 9, 6, 0) else none) else (bif Nat.blt pc 79 then (bif Nat.beq pc 78 then some (.dup, 0, 0) else none) else (bif Nat.beq pc 79 then some (.invokespecial 50, 101, 0) else none))) else (bif Nat.blt pc 86 then (bif Nat.blt pc 83 then (bif Nat.beq pc 82 then some (.aastore, 0, 0) else none) else (bif Nat.beq pc 83 then some (.iinc 1 1, 0, 0) else none)) else (bif Nat.blt pc 89 then (bif Nat.beq pc 86 then some (.goto (-22), 0, 0) else none) else (bif Nat.beq pc 89 then some (.return_, 0, 0) else none))))))
def rz_c89 (pc : Nat) : Option rz_I := bif Nat.blt pc 17 then (bif Nat.blt pc 7 then (bif Nat.blt pc 4 then (bif Nat.blt pc 1 then (bif Nat.beq pc 0 then some (.aload_n 1, 0, 0) else none) else (bif Nat.beq pc 1 then some (.getfield 57, 9, 6) else none)) else (bif Nat.blt pc 5 then (bif Nat.beq pc 4 then some (.iconst 1, 0, 0) else none) else (bif Nat.blt pc 6 then (bif Nat.beq pc 5 then some (.isub, 0, 0) else none) else (bif Nat.beq pc 6 then some (.istore_n 2, 0, 0) else none)))) else (bif Nat.blt pc 12 then (bif Nat.blt pc 8 then (bif Nat.beq pc 7 then some (.iload_n 2, 0, 0) else none) else (bif Nat.blt pc 11 then (bif Nat.beq pc 8 then some (.ifCond .lt 30, 0, 0) else none) else (bif Nat.beq pc 11 then some (.aload_n 1, 0, 0) else none))) else (bif Nat.blt pc 15 then (bif Nat.beq pc 12 then some (.getfield 88, 9, 3) else none) else (bif Nat.blt pc 16 then (bif Nat.beq pc 15 then some (.iload_n 2, 0, 0) else none) else (bif Nat.beq pc 16 then some (.iaload, 0, 0) else none))))) else (bif Nat.blt pc 26 then (bif Nat.blt pc 21 then (bif Nat.blt pc 18 then (bif Nat.beq pc 17 then some (.aload_n 0, 0, 0) else none) else (bif Nat.beq pc 18 then some (.getfield 11, 1, 0) else none)) else (bif Nat.blt pc 22 then (bif Nat.beq pc 21 then some (.aload_n 1, 0, 0) else none) else (bif Nat.blt pc 25 then (bif Nat.beq pc 22 then some (.getfield 60, 9, 2) else none) else (bif Nat.beq pc 25 then some (.iload_n 2, 0, 0) else none)))) else (bif Nat.blt pc 31 then (bif Nat.blt pc 27 then (bif Nat.beq pc 26 then some (.iaload, 0, 0) else none) else (bif Nat.blt pc 28 then (bif Nat.beq pc 27 then some (.aaload, 0, 0) else none) else (bif Nat.beq pc 28 then some (.getfield 102, 6, 0) else none))) else (bif Nat.blt pc 38 then (bif Nat.beq pc 31 then some (.if_icmp .ge 7, 0, 0) else none) else (bif Nat.blt pc 39 then (bif Nat.beq pc 38 then some (.iconst 0, 0, 0) else none) else (bif Nat.beq pc 39 then some (.ireturn, 0, 0) else none)))))
def rz_c90 (pc : Nat) : Option rz_I := bif Nat.blt pc 4 then (bif Nat.blt pc 2 then (bif Nat.blt pc 1 then (bif Nat.beq pc 0 then some (.iconst 0, 0, 0) else none) else (bif Nat.beq pc 1 then some (.istore_n 2, 0, 0) else none)) else (bif Nat.blt pc 3 then (bif Nat.beq pc 2 then some (.iload_n 2, 0, 0) else none) else (bif Nat.beq pc 3 then some (.aload_n 0, 0, 0) else none))) else (bif Nat.blt pc 54 then (bif Nat.blt pc 7 then (bif Nat.beq pc 4 then some (.getfield 23, 1, 2) else none) else (bif Nat.beq pc 7 then some (.if_icmp .ge 47, 0, 0) else none)) else (bif Nat.blt pc 55 then (bif Nat.beq pc 54 then some (.iconst 0, 0, 0) else none) else (bif Nat.beq pc 55 then some (.ireturn, 0, 0) else none)))
def rz_c91 (pc : Nat) : Option rz_I := bif Nat.blt pc 28 then (bif Nat.blt pc 14 then (bif Nat.blt pc 8 then (bif Nat.blt pc 4 then (bif Nat.blt pc 3 then (bif Nat.beq pc 0 then some (.new 17, 9, 0) else none) else (bif Nat.beq pc 3 then some (.dup, 0, 0) else none)) else (bif Nat.blt pc 5 then (bif Nat.beq pc 4 then some (.aload_n 0, 0, 0) else none) else (bif Nat.beq pc 5 then some (.getfield 23, 1, 2) else none))) else (bif Nat.blt pc 12 then (bif Nat.blt pc 11 then (bif Nat.beq pc 8 then some (.invokespecial 51, 106, 0) else none) else (bif Nat.beq pc 11 then some (.astore_n 2, 0, 0) else none)) else (bif Nat.blt pc 13 then (bif Nat.beq pc 12 then some (.aload_n 2, 0, 0) else none) else (bif Nat.beq pc 13 then some (.iload_n 1, 0, 0) else none)))) else (bif Nat.blt pc 22 then (bif Nat.blt pc 18 then (bif Nat.blt pc 17 then (bif Nat.beq pc 14 then some (.invokevirtual 54, 107, 0) else none) else (bif Nat.beq pc 17 then some (.aload_n 0, 0, 0) else none)) else (bif Nat.blt pc 21 then (bif Nat.beq pc 18 then some (.getfield 19, 1, 1) else none) else (bif Nat.beq pc 21 then some (.aload_n 0, 0, 0) else none))) else (bif Nat.blt pc 26 then (bif Nat.blt pc 25 then (bif Nat.beq pc 22 then some (.getfield 23, 1, 2) else none) else (bif Nat.beq pc 25 then some (.aload_n 2, 0, 0) else none)) else (bif Nat.blt pc 27 then (bif Nat.beq pc 26 then some (.aastore, 0, 0) else none) else (bif Nat.beq pc 27 then some (.aload_n 0, 0, 0) else none))))) else (bif Nat.blt pc 42 then (bif Nat.blt pc 34 then (bif Nat.blt pc 32 then (bif Nat.blt pc 29 then (bif Nat.beq pc 28 then some (.dup, 0, 0) else none) else (bif Nat.beq pc 29 then some (.getfield 23, 1, 2) else none)) else (bif Nat.blt pc 33 then (bif Nat.beq pc 32 then some (.iconst 1, 0, 0) else none) else (bif Nat.beq pc 33 then some (.iadd, 0, 0) else none))) else (bif Nat.blt pc 38 then (bif Nat.blt pc 37 then (bif Nat.beq pc 34 then some (.putfield 23, 1, 2) else none) else (bif Nat.beq pc 37 then some (.aload_n 0, 0, 0) else none)) else (bif Nat.blt pc 39 then (bif Nat.beq pc 38 then some (.dup, 0, 0) else none) else (bif Nat.beq pc 39 then some (.getfield 27, 1, 3) else none)))) else (bif Nat.blt pc 48 then (bif Nat.blt pc 44 then (bif Nat.blt pc 43 then (bif Nat.beq pc 42 then some (.iconst 1, 0, 0) else none) else (bif Nat.beq pc 43 then some (.iadd, 0, 0) else none)) else (bif Nat.blt pc 47 then (bif Nat.beq pc 44 then some (.putfield 27, 1, 3) else none) else (bif Nat.beq pc 47 then some (.aload_n 0, 0, 0) else none))) else (bif Nat.blt pc 52 then (bif Nat.blt pc 49 then (bif Nat.beq pc 48 then some (.iconst 1, 0, 0) else none) else (bif Nat.beq pc 49 then some (.putfield 46, 1, 9) else none)) else (bif Nat.blt pc 53 then (bif Nat.beq pc 52 then some (.aload_n 2, 0, 0) else none) else (bif Nat.beq pc 53 then some (.areturn, 0, 0) else none)))))
def rz_c92 (pc : Nat) : Option rz_I := bif Nat.blt pc 21 then (bif Nat.blt pc 9 then (bif Nat.blt pc 4 then (bif Nat.blt pc 1 then (bif Nat.beq pc 0 then some (.aload_n 1, 0, 0) else none) else (bif Nat.beq pc 1 then some (.getfield 57, 9, 6) else none)) else (bif Nat.blt pc 7 then (bif Nat.beq pc 4 then some (.ifCond .le 24, 0, 0) else none) else (bif Nat.blt pc 8 then (bif Nat.beq pc 7 then some (.aload_n 0, 0, 0) else none) else (bif Nat.beq pc 8 then some (.aload_n 1, 0, 0) else none)))) else (bif Nat.blt pc 16 then (bif Nat.blt pc 12 then (bif Nat.beq pc 9 then some (.invokevirtual 105, 89, 0) else none) else (bif Nat.blt pc 15 then (bif Nat.beq pc 12 then some (.ifCond .ne 16, 0, 0) else none) else (bif Nat.beq pc 15 then some (.aload_n 1, 0, 0) else none))) else (bif Nat.blt pc 17 then (bif Nat.beq pc 16 then some (.dup, 0, 0) else none) else (bif Nat.blt pc 20 then (bif Nat.beq pc 17 then some (.getfield 57, 9, 6) else none) else (bif Nat.beq pc 20 then some (.iconst 1, 0, 0) else none))))) else (bif Nat.blt pc 32 then (bif Nat.blt pc 25 then (bif Nat.blt pc 22 then (bif Nat.beq pc 21 then some (.isub, 0, 0) else none) else (bif Nat.beq pc 22 then some (.putfield 57, 9, 6) else none)) else (bif Nat.blt pc 28 then (bif Nat.beq pc 25 then some (.goto (-25), 0, 0) else none) else (bif Nat.blt pc 29 then (bif Nat.beq pc 28 then some (.aload_n 1, 0, 0) else none) else (bif Nat.beq pc 29 then some (.getfield 57, 9, 6) else none)))) else (bif Nat.blt pc 37 then (bif Nat.blt pc 35 then (bif Nat.beq pc 32 then some (.ifCond .ne 9, 0, 0) else none) else (bif Nat.blt pc 36 then (bif Nat.beq pc 35 then some (.aload_n 0, 0, 0) else none) else (bif Nat.beq pc 36 then some (.aload_n 1, 0, 0) else none))) else (bif Nat.blt pc 38 then (bif Nat.beq pc 37 then some (.iconst 0, 0, 0) else none) else (bif Nat.blt pc 41 then (bif Nat.beq pc 38 then some (.invokevirtual 84, 86, 0) else none) else (bif Nat.beq pc 41 then some (.return_, 0, 0) else none)))))
def rz_c93 (pc : Nat) : Option rz_I := bif Nat.blt pc 35 then (bif Nat.blt pc 17 then (bif Nat.blt pc 6 then (bif Nat.blt pc 2 then (bif Nat.blt pc 1 then (bif Nat.beq pc 0 then some (.iconst 0, 0, 0) else none) else (bif Nat.beq pc 1 then some (.istore_n 1, 0, 0) else none)) else (bif Nat.blt pc 3 then (bif Nat.beq pc 2 then some (.aload_n 0, 0, 0) else none) else (bif Nat.beq pc 3 then some (.getfield 46, 1, 9) else none))) else (bif Nat.blt pc 10 then (bif Nat.blt pc 9 then (bif Nat.beq pc 6 then some (.ifCond .eq 87, 0, 0) else none) else (bif Nat.beq pc 9 then some (.iload_n 1, 0, 0) else none)) else (bif Nat.blt pc 13 then (bif Nat.beq pc 10 then some (.sipush 128, 0, 0) else none) else (bif Nat.blt pc 16 then (bif Nat.beq pc 13 then some (.if_icmp .gt 80, 0, 0) else none) else (bif Nat.beq pc 16 then some (.aload_n 0, 0, 0) else none))))) else (bif Nat.blt pc 24 then (bif Nat.blt pc 21 then (bif Nat.blt pc 18 then (bif Nat.beq pc 17 then some (.iconst 0, 0, 0) else none) else (bif Nat.beq pc 18 then some (.putfield 46, 1, 9) else none)) else (bif Nat.blt pc 22 then (bif Nat.beq pc 21 then some (.iconst 0, 0, 0) else none) else (bif Nat.blt pc 23 then (bif Nat.beq pc 22 then some (.istore_n 2, 0, 0) else none) else (bif Nat.beq pc 23 then some (.iload_n 2, 0, 0) else none)))) else (bif Nat.blt pc 28 then (bif Nat.blt pc 25 then (bif Nat.beq pc 24 then some (.aload_n 0, 0, 0) else none) else (bif Nat.beq pc 25 then some (.getfield 23, 1, 2) else none)) else (bif Nat.blt pc 31 then (bif Nat.beq pc 28 then some (.if_icmp .ge 59, 0, 0) else none) else (bif Nat.blt pc 32 then (bif Nat.beq pc 31 then some (.aload_n 0, 0, 0) else none) else (bif Nat.beq pc 32 then some (.getfield 19, 1, 1) else none)))))) else (bif Nat.blt pc 50 then (bif Nat.blt pc 39 then (bif Nat.blt pc 37 then (bif Nat.blt pc 36 then (bif Nat.beq pc 35 then some (.iload_n 2, 0, 0) else none) else (bif Nat.beq pc 36 then some (.aaload, 0, 0) else none)) else (bif Nat.blt pc 38 then (bif Nat.beq pc 37 then some (.astore_n 3, 0, 0) else none) else (bif Nat.beq pc 38 then some (.aload_n 3, 0, 0) else none))) else (bif Nat.blt pc 45 then (bif Nat.blt pc 42 then (bif Nat.beq pc 39 then some (.getfield 69, 9, 7) else none) else (bif Nat.beq pc 42 then some (.ifCond .ne 11, 0, 0) else none)) else (bif Nat.blt pc 46 then (bif Nat.beq pc 45 then some (.aload_n 0, 0, 0) else none) else (bif Nat.blt pc 47 then (bif Nat.beq pc 46 then some (.aload_n 3, 0, 0) else none) else (bif Nat.beq pc 47 then some (.invokevirtual 109, 92, 0) else none))))) else (bif Nat.blt pc 81 then (bif Nat.blt pc 54 then (bif Nat.blt pc 53 then (bif Nat.beq pc 50 then some (.goto 31, 0, 0) else none) else (bif Nat.beq pc 53 then some (.aload_n 3, 0, 0) else none)) else (bif Nat.blt pc 57 then (bif Nat.beq pc 54 then some (.getfield 69, 9, 7) else none) else (bif Nat.blt pc 58 then (bif Nat.beq pc 57 then some (.iconst 4, 0, 0) else none) else (bif Nat.beq pc 58 then some (.if_icmp .ne 23, 0, 0) else none)))) else (bif Nat.blt pc 87 then (bif Nat.blt pc 84 then (bif Nat.beq pc 81 then some (.iinc 2 1, 0, 0) else none) else (bif Nat.beq pc 84 then some (.goto (-61), 0, 0) else none)) else (bif Nat.blt pc 90 then (bif Nat.beq pc 87 then some (.iinc 1 1, 0, 0) else none) else (bif Nat.blt pc 93 then (bif Nat.beq pc 90 then some (.goto (-88), 0, 0) else none) else (bif Nat.beq pc 93 then some (.return_, 0, 0) else none))))))
def rz_c94 (pc : Nat) : Option rz_I := bif Nat.blt pc 7 then (bif Nat.blt pc 1 then (bif Nat.beq pc 0 then some (.aload_n 0, 0, 0) else none) else (bif Nat.blt pc 4 then (bif Nat.beq pc 1 then some (.getfield 9, 2, 0) else none) else (bif Nat.beq pc 4 then some (.ifnonnull 7, 0, 0) else none))) else (bif Nat.blt pc 8 then (bif Nat.beq pc 7 then some (.iconst (-1), 0, 0) else none) else (bif Nat.blt pc 18 then (bif Nat.beq pc 8 then some (.goto 10, 0, 0) else none) else (bif Nat.beq pc 18 then some (.ireturn, 0, 0) else none)))
def rz_c95 (pc : Nat) : Option rz_I := bif Nat.blt pc 10 then (bif Nat.blt pc 5 then (bif Nat.blt pc 1 then (bif Nat.beq pc 0 then some (.aload_n 0, 0, 0) else none) else (bif Nat.blt pc 4 then (bif Nat.beq pc 1 then some (.invokespecial 3, 0, 1) else none) else (bif Nat.beq pc 4 then some (.aload_n 0, 0, 0) else none))) else (bif Nat.blt pc 6 then (bif Nat.beq pc 5 then some (.aconst_null, 0, 0) else none) else (bif Nat.blt pc 9 then (bif Nat.beq pc 6 then some (.putfield 9, 2, 0) else none) else (bif Nat.beq pc 9 then some (.aload_n 0, 0, 0) else none)))) else (bif Nat.blt pc 15 then (bif Nat.blt pc 11 then (bif Nat.beq pc 10 then some (.aconst_null, 0, 0) else none) else (bif Nat.blt pc 14 then (bif Nat.beq pc 11 then some (.putfield 15, 2, 1) else none) else (bif Nat.beq pc 14 then some (.aload_n 0, 0, 0) else none))) else (bif Nat.blt pc 16 then (bif Nat.beq pc 15 then some (.iconst 0, 0, 0) else none) else (bif Nat.blt pc 19 then (bif Nat.beq pc 16 then some (.putfield 18, 2, 2) else none) else (bif Nat.beq pc 19 then some (.return_, 0, 0) else none))))
def rz_c96 (pc : Nat) : Option rz_I := bif Nat.blt pc 21 then (bif Nat.blt pc 9 then (bif Nat.blt pc 4 then (bif Nat.blt pc 1 then (bif Nat.beq pc 0 then some (.aload_n 0, 0, 0) else none) else (bif Nat.beq pc 1 then some (.invokespecial 3, 0, 1) else none)) else (bif Nat.blt pc 5 then (bif Nat.beq pc 4 then some (.aload_n 0, 0, 0) else none) else (bif Nat.blt pc 8 then (bif Nat.beq pc 5 then some (.new 9, 2, 0) else none) else (bif Nat.beq pc 8 then some (.dup, 0, 0) else none)))) else (bif Nat.blt pc 16 then (bif Nat.blt pc 12 then (bif Nat.beq pc 9 then some (.invokespecial 11, 95, 0) else none) else (bif Nat.blt pc 15 then (bif Nat.beq pc 12 then some (.putfield 12, 3, 2) else none) else (bif Nat.beq pc 15 then some (.aload_n 0, 0, 0) else none))) else (bif Nat.blt pc 17 then (bif Nat.beq pc 16 then some (.iconst (-1), 0, 0) else none) else (bif Nat.blt pc 20 then (bif Nat.beq pc 17 then some (.putfield 18, 3, 3) else none) else (bif Nat.beq pc 20 then some (.aload_n 0, 0, 0) else none))))) else (bif Nat.blt pc 31 then (bif Nat.blt pc 26 then (bif Nat.blt pc 22 then (bif Nat.beq pc 21 then some (.iconst 0, 0, 0) else none) else (bif Nat.blt pc 25 then (bif Nat.beq pc 22 then some (.putfield 22, 3, 4) else none) else (bif Nat.beq pc 25 then some (.aload_n 0, 0, 0) else none))) else (bif Nat.blt pc 27 then (bif Nat.beq pc 26 then some (.iconst 0, 0, 0) else none) else (bif Nat.blt pc 30 then (bif Nat.beq pc 27 then some (.putfield 25, 3, 5) else none) else (bif Nat.beq pc 30 then some (.aload_n 0, 0, 0) else none)))) else (bif Nat.blt pc 36 then (bif Nat.blt pc 32 then (bif Nat.beq pc 31 then some (.iload_n 1, 0, 0) else none) else (bif Nat.blt pc 35 then (bif Nat.beq pc 32 then some (.putfield 28, 3, 0) else none) else (bif Nat.beq pc 35 then some (.aload_n 0, 0, 0) else none))) else (bif Nat.blt pc 37 then (bif Nat.beq pc 36 then some (.aload_n 2, 0, 0) else none) else (bif Nat.blt pc 40 then (bif Nat.beq pc 37 then some (.putfield 31, 3, 1) else none) else (bif Nat.beq pc 40 then some (.return_, 0, 0) else none)))))
def rz_c97 (pc : Nat) : Option rz_I := bif Nat.blt pc 26 then (bif Nat.blt pc 12 then (bif Nat.blt pc 5 then (bif Nat.blt pc 1 then (bif Nat.beq pc 0 then some (.aload_n 0, 0, 0) else none) else (bif Nat.blt pc 4 then (bif Nat.beq pc 1 then some (.invokespecial 3, 0, 1) else none) else (bif Nat.beq pc 4 then some (.aload_n 0, 0, 0) else none))) else (bif Nat.blt pc 8 then (bif Nat.beq pc 5 then some (.new 9, 2, 0) else none) else (bif Nat.blt pc 9 then (bif Nat.beq pc 8 then some (.dup, 0, 0) else none) else (bif Nat.beq pc 9 then some (.invokespecial 11, 95, 0) else none)))) else (bif Nat.blt pc 19 then (bif Nat.blt pc 15 then (bif Nat.beq pc 12 then some (.putfield 12, 4, 2) else none) else (bif Nat.blt pc 16 then (bif Nat.beq pc 15 then some (.aload_n 0, 0, 0) else none) else (bif Nat.beq pc 16 then some (.new 9, 2, 0) else none))) else (bif Nat.blt pc 20 then (bif Nat.beq pc 19 then some (.dup, 0, 0) else none) else (bif Nat.blt pc 23 then (bif Nat.beq pc 20 then some (.invokespecial 11, 95, 0) else none) else (bif Nat.beq pc 23 then some (.putfield 18, 4, 3) else none))))) else (bif Nat.blt pc 36 then (bif Nat.blt pc 31 then (bif Nat.blt pc 27 then (bif Nat.beq pc 26 then some (.aload_n 0, 0, 0) else none) else (bif Nat.blt pc 28 then (bif Nat.beq pc 27 then some (.iconst (-1), 0, 0) else none) else (bif Nat.beq pc 28 then some (.putfield 21, 4, 4) else none))) else (bif Nat.blt pc 32 then (bif Nat.beq pc 31 then some (.aload_n 0, 0, 0) else none) else (bif Nat.blt pc 33 then (bif Nat.beq pc 32 then some (.iconst 0, 0, 0) else none) else (bif Nat.beq pc 33 then some (.putfield 25, 4, 5) else none)))) else (bif Nat.blt pc 41 then (bif Nat.blt pc 37 then (bif Nat.beq pc 36 then some (.aload_n 0, 0, 0) else none) else (bif Nat.blt pc 38 then (bif Nat.beq pc 37 then some (.iload_n 1, 0, 0) else none) else (bif Nat.beq pc 38 then some (.putfield 28, 4, 0) else none))) else (bif Nat.blt pc 43 then (bif Nat.blt pc 42 then (bif Nat.beq pc 41 then some (.aload_n 0, 0, 0) else none) else (bif Nat.beq pc 42 then some (.aload_n 2, 0, 0) else none)) else (bif Nat.blt pc 46 then (bif Nat.beq pc 43 then some (.putfield 31, 4, 1) else none) else (bif Nat.beq pc 46 then some (.return_, 0, 0) else none)))))
def rz_c98 (pc : Nat) : Option rz_I := bif Nat.blt pc 12 then (bif Nat.blt pc 5 then (bif Nat.blt pc 1 then (bif Nat.beq pc 0 then some (.aload_n 0, 0, 0) else none) else (bif Nat.blt pc 4 then (bif Nat.beq pc 1 then some (.invokespecial 3, 0, 1) else none) else (bif Nat.beq pc 4 then some (.aload_n 0, 0, 0) else none))) else (bif Nat.blt pc 8 then (bif Nat.blt pc 6 then (bif Nat.beq pc 5 then some (.iconst 0, 0, 0) else none) else (bif Nat.beq pc 6 then some (.newarray .int, 0, 0) else none)) else (bif Nat.blt pc 11 then (bif Nat.beq pc 8 then some (.putfield 9, 5, 0) else none) else (bif Nat.beq pc 11 then some (.aload_n 0, 0, 0) else none)))) else (bif Nat.blt pc 18 then (bif Nat.blt pc 13 then (bif Nat.beq pc 12 then some (.iconst 0, 0, 0) else none) else (bif Nat.blt pc 15 then (bif Nat.beq pc 13 then some (.newarray .long, 0, 0) else none) else (bif Nat.beq pc 15 then some (.putfield 15, 5, 1) else none))) else (bif Nat.blt pc 20 then (bif Nat.blt pc 19 then (bif Nat.beq pc 18 then some (.aload_n 0, 0, 0) else none) else (bif Nat.beq pc 19 then some (.iconst 0, 0, 0) else none)) else (bif Nat.blt pc 23 then (bif Nat.beq pc 20 then some (.putfield 19, 5, 2) else none) else (bif Nat.beq pc 23 then some (.return_, 0, 0) else none))))
def rz_c99 (pc : Nat) : Option rz_I := bif Nat.blt pc 4 then (bif Nat.blt pc 1 then (bif Nat.beq pc 0 then some (.aload_n 0, 0, 0) else none) else (bif Nat.beq pc 1 then some (.getfield 19, 5, 2) else none)) else (bif Nat.blt pc 7 then (bif Nat.beq pc 4 then some (.sipush 4096, 0, 0) else none) else (bif Nat.blt pc 10 then (bif Nat.beq pc 7 then some (.invokestatic 23, 2, 0) else none) else (bif Nat.beq pc 10 then some (.ireturn, 0, 0) else none)))
def rz_c100 (pc : Nat) : Option rz_I := bif Nat.blt pc 49 then (bif Nat.blt pc 23 then (bif Nat.blt pc 9 then (bif Nat.blt pc 4 then (bif Nat.blt pc 1 then (bif Nat.beq pc 0 then some (.aload_n 0, 0, 0) else none) else (bif Nat.beq pc 1 then some (.getfield 15, 6, 1) else none)) else (bif Nat.blt pc 5 then (bif Nat.beq pc 4 then some (.arraylength, 0, 0) else none) else (bif Nat.blt pc 8 then (bif Nat.beq pc 5 then some (.ifCond .ne 30, 0, 0) else none) else (bif Nat.beq pc 8 then some (.aload_n 0, 0, 0) else none)))) else (bif Nat.blt pc 17 then (bif Nat.blt pc 12 then (bif Nat.beq pc 9 then some (.sipush 200, 0, 0) else none) else (bif Nat.blt pc 14 then (bif Nat.beq pc 12 then some (.newarray .int, 0, 0) else none) else (bif Nat.beq pc 14 then some (.putfield 15, 6, 1) else none))) else (bif Nat.blt pc 18 then (bif Nat.beq pc 17 then some (.aload_n 0, 0, 0) else none) else (bif Nat.blt pc 21 then (bif Nat.beq pc 18 then some (.sipush 200, 0, 0) else none) else (bif Nat.beq pc 21 then some (.newarray .long, 0, 0) else none))))) else (bif Nat.blt pc 36 then (bif Nat.blt pc 30 then (bif Nat.blt pc 26 then (bif Nat.beq pc 23 then some (.putfield 19, 6, 2) else none) else (bif Nat.blt pc 27 then (bif Nat.beq pc 26 then some (.aload_n 0, 0, 0) else none) else (bif Nat.beq pc 27 then some (.sipush 200, 0, 0) else none))) else (bif Nat.blt pc 32 then (bif Nat.beq pc 30 then some (.newarray .long, 0, 0) else none) else (bif Nat.blt pc 35 then (bif Nat.beq pc 32 then some (.putfield 23, 6, 3) else none) else (bif Nat.beq pc 35 then some (.aload_n 0, 0, 0) else none)))) else (bif Nat.blt pc 43 then (bif Nat.blt pc 39 then (bif Nat.beq pc 36 then some (.getfield 9, 6, 0) else none) else (bif Nat.blt pc 40 then (bif Nat.beq pc 39 then some (.aload_n 0, 0, 0) else none) else (bif Nat.beq pc 40 then some (.getfield 15, 6, 1) else none))) else (bif Nat.blt pc 44 then (bif Nat.beq pc 43 then some (.arraylength, 0, 0) else none) else (bif Nat.blt pc 48 then (bif Nat.beq pc 44 then some (.if_icmp .lt 4, 0, 0) else none) else (bif Nat.beq pc 48 then some (.aload_n 0, 0, 0) else none)))))) else (bif Nat.blt pc 69 then (bif Nat.blt pc 59 then (bif Nat.blt pc 56 then (bif Nat.blt pc 52 then (bif Nat.beq pc 49 then some (.getfield 15, 6, 1) else none) else (bif Nat.blt pc 53 then (bif Nat.beq pc 52 then some (.aload_n 0, 0, 0) else none) else (bif Nat.beq pc 53 then some (.getfield 9, 6, 0) else none))) else (bif Nat.blt pc 57 then (bif Nat.beq pc 56 then some (.iload_n 1, 0, 0) else none) else (bif Nat.blt pc 58 then (bif Nat.beq pc 57 then some (.iastore, 0, 0) else none) else (bif Nat.beq pc 58 then some (.aload_n 0, 0, 0) else none)))) else (bif Nat.blt pc 66 then (bif Nat.blt pc 62 then (bif Nat.beq pc 59 then some (.getfield 19, 6, 2) else none) else (bif Nat.blt pc 63 then (bif Nat.beq pc 62 then some (.aload_n 0, 0, 0) else none) else (bif Nat.beq pc 63 then some (.getfield 9, 6, 0) else none))) else (bif Nat.blt pc 67 then (bif Nat.beq pc 66 then some (.lload_n 2, 0, 0) else none) else (bif Nat.blt pc 68 then (bif Nat.beq pc 67 then some (.lastore, 0, 0) else none) else (bif Nat.beq pc 68 then some (.aload_n 0, 0, 0) else none))))) else (bif Nat.blt pc 80 then (bif Nat.blt pc 76 then (bif Nat.blt pc 72 then (bif Nat.beq pc 69 then some (.getfield 23, 6, 3) else none) else (bif Nat.blt pc 73 then (bif Nat.beq pc 72 then some (.aload_n 0, 0, 0) else none) else (bif Nat.beq pc 73 then some (.getfield 9, 6, 0) else none))) else (bif Nat.blt pc 78 then (bif Nat.beq pc 76 then some (.lload 4, 0, 0) else none) else (bif Nat.blt pc 79 then (bif Nat.beq pc 78 then some (.lastore, 0, 0) else none) else (bif Nat.beq pc 79 then some (.aload_n 0, 0, 0) else none)))) else (bif Nat.blt pc 85 then (bif Nat.blt pc 81 then (bif Nat.beq pc 80 then some (.dup, 0, 0) else none) else (bif Nat.blt pc 84 then (bif Nat.beq pc 81 then some (.getfield 9, 6, 0) else none) else (bif Nat.beq pc 84 then some (.iconst 1, 0, 0) else none))) else (bif Nat.blt pc 86 then (bif Nat.beq pc 85 then some (.iadd, 0, 0) else none) else (bif Nat.blt pc 89 then (bif Nat.beq pc 86 then some (.putfield 9, 6, 0) else none) else (bif Nat.beq pc 89 then some (.return_, 0, 0) else none))))))
def rz_c101 (pc : Nat) : Option rz_I := bif Nat.blt pc 16 then (bif Nat.blt pc 6 then (bif Nat.blt pc 4 then (bif Nat.blt pc 1 then (bif Nat.beq pc 0 then some (.aload_n 0, 0, 0) else none) else (bif Nat.beq pc 1 then some (.invokespecial 3, 0, 1) else none)) else (bif Nat.blt pc 5 then (bif Nat.beq pc 4 then some (.aload_n 0, 0, 0) else none) else (bif Nat.beq pc 5 then some (.iconst 0, 0, 0) else none))) else (bif Nat.blt pc 10 then (bif Nat.blt pc 9 then (bif Nat.beq pc 6 then some (.putfield 9, 6, 0) else none) else (bif Nat.beq pc 9 then some (.aload_n 0, 0, 0) else none)) else (bif Nat.blt pc 11 then (bif Nat.beq pc 10 then some (.iconst 0, 0, 0) else none) else (bif Nat.blt pc 13 then (bif Nat.beq pc 11 then some (.newarray .int, 0, 0) else none) else (bif Nat.beq pc 13 then some (.putfield 15, 6, 1) else none))))) else (bif Nat.blt pc 23 then (bif Nat.blt pc 18 then (bif Nat.blt pc 17 then (bif Nat.beq pc 16 then some (.aload_n 0, 0, 0) else none) else (bif Nat.beq pc 17 then some (.iconst 0, 0, 0) else none)) else (bif Nat.blt pc 20 then (bif Nat.beq pc 18 then some (.newarray .long, 0, 0) else none) else (bif Nat.beq pc 20 then some (.putfield 19, 6, 2) else none))) else (bif Nat.blt pc 25 then (bif Nat.blt pc 24 then (bif Nat.beq pc 23 then some (.aload_n 0, 0, 0) else none) else (bif Nat.beq pc 24 then some (.iconst 0, 0, 0) else none)) else (bif Nat.blt pc 27 then (bif Nat.beq pc 25 then some (.newarray .long, 0, 0) else none) else (bif Nat.blt pc 30 then (bif Nat.beq pc 27 then some (.putfield 23, 6, 3) else none) else (bif Nat.beq pc 30 then some (.return_, 0, 0) else none)))))
def rz_c102 (pc : Nat) : Option rz_I := bif Nat.blt pc 17 then (bif Nat.blt pc 8 then (bif Nat.blt pc 4 then (bif Nat.blt pc 1 then (bif Nat.beq pc 0 then some (.aload_n 0, 0, 0) else none) else (bif Nat.beq pc 1 then some (.invokespecial 3, 0, 1) else none)) else (bif Nat.blt pc 5 then (bif Nat.beq pc 4 then some (.aload_n 0, 0, 0) else none) else (bif Nat.beq pc 5 then some (.sipush 256, 0, 0) else none))) else (bif Nat.blt pc 13 then (bif Nat.blt pc 10 then (bif Nat.beq pc 8 then some (.newarray .int, 0, 0) else none) else (bif Nat.beq pc 10 then some (.putfield 9, 7, 0) else none)) else (bif Nat.blt pc 14 then (bif Nat.beq pc 13 then some (.aload_n 0, 0, 0) else none) else (bif Nat.beq pc 14 then some (.sipush 256, 0, 0) else none)))) else (bif Nat.blt pc 24 then (bif Nat.blt pc 22 then (bif Nat.blt pc 19 then (bif Nat.beq pc 17 then some (.newarray .int, 0, 0) else none) else (bif Nat.beq pc 19 then some (.putfield 15, 7, 1) else none)) else (bif Nat.blt pc 23 then (bif Nat.beq pc 22 then some (.aload_n 0, 0, 0) else none) else (bif Nat.beq pc 23 then some (.iconst 0, 0, 0) else none))) else (bif Nat.blt pc 28 then (bif Nat.blt pc 27 then (bif Nat.beq pc 24 then some (.putfield 18, 7, 2) else none) else (bif Nat.beq pc 27 then some (.aload_n 0, 0, 0) else none)) else (bif Nat.blt pc 29 then (bif Nat.beq pc 28 then some (.iconst 0, 0, 0) else none) else (bif Nat.blt pc 32 then (bif Nat.beq pc 29 then some (.putfield 22, 7, 3) else none) else (bif Nat.beq pc 32 then some (.return_, 0, 0) else none)))))
def rz_c103 (pc : Nat) : Option rz_I := bif Nat.blt pc 20 then (bif Nat.blt pc 6 then (bif Nat.blt pc 2 then (bif Nat.blt pc 1 then (bif Nat.beq pc 0 then some (.aload_n 0, 0, 0) else none) else (bif Nat.beq pc 1 then some (.lload_n 1, 0, 0) else none)) else (bif Nat.blt pc 5 then (bif Nat.beq pc 2 then some (.ldc2_w 46, 0, 9223372036854775807) else none) else (bif Nat.beq pc 5 then some (.aload_n 0, 0, 0) else none))) else (bif Nat.blt pc 10 then (bif Nat.blt pc 9 then (bif Nat.beq pc 6 then some (.getfield 18, 8, 3) else none) else (bif Nat.beq pc 9 then some (.lsub, 0, 0) else none)) else (bif Nat.blt pc 11 then (bif Nat.beq pc 10 then some (.lcmp, 0, 0) else none) else (bif Nat.beq pc 11 then some (.ifCond .le 9, 0, 0) else none)))) else (bif Nat.blt pc 26 then (bif Nat.blt pc 24 then (bif Nat.blt pc 21 then (bif Nat.beq pc 20 then some (.aload_n 0, 0, 0) else none) else (bif Nat.beq pc 21 then some (.getfield 18, 8, 3) else none)) else (bif Nat.blt pc 25 then (bif Nat.beq pc 24 then some (.lload_n 1, 0, 0) else none) else (bif Nat.beq pc 25 then some (.ladd, 0, 0) else none))) else (bif Nat.blt pc 30 then (bif Nat.blt pc 29 then (bif Nat.beq pc 26 then some (.putfield 18, 8, 3) else none) else (bif Nat.beq pc 29 then some (.aload_n 0, 0, 0) else none)) else (bif Nat.blt pc 33 then (bif Nat.beq pc 30 then some (.invokevirtual 54, 105, 0) else none) else (bif Nat.beq pc 33 then some (.return_, 0, 0) else none))))
def rz_c104 (pc : Nat) : Option rz_I := bif Nat.blt pc 16 then (bif Nat.blt pc 8 then (bif Nat.blt pc 4 then (bif Nat.blt pc 1 then (bif Nat.beq pc 0 then some (.aload_n 0, 0, 0) else none) else (bif Nat.beq pc 1 then some (.invokespecial 3, 0, 1) else none)) else (bif Nat.blt pc 5 then (bif Nat.beq pc 4 then some (.aload_n 0, 0, 0) else none) else (bif Nat.beq pc 5 then some (.new 9, 2, 0) else none))) else (bif Nat.blt pc 12 then (bif Nat.blt pc 9 then (bif Nat.beq pc 8 then some (.dup, 0, 0) else none) else (bif Nat.beq pc 9 then some (.invokespecial 11, 95, 0) else none)) else (bif Nat.blt pc 15 then (bif Nat.beq pc 12 then some (.putfield 12, 8, 2) else none) else (bif Nat.beq pc 15 then some (.aload_n 0, 0, 0) else none)))) else (bif Nat.blt pc 22 then (bif Nat.blt pc 20 then (bif Nat.blt pc 17 then (bif Nat.beq pc 16 then some (.lconst 0, 0, 0) else none) else (bif Nat.beq pc 17 then some (.putfield 18, 8, 3) else none)) else (bif Nat.blt pc 21 then (bif Nat.beq pc 20 then some (.aload_n 0, 0, 0) else none) else (bif Nat.beq pc 21 then some (.iload_n 1, 0, 0) else none))) else (bif Nat.blt pc 26 then (bif Nat.blt pc 25 then (bif Nat.beq pc 22 then some (.putfield 22, 8, 0) else none) else (bif Nat.beq pc 25 then some (.aload_n 0, 0, 0) else none)) else (bif Nat.blt pc 27 then (bif Nat.beq pc 26 then some (.aload_n 2, 0, 0) else none) else (bif Nat.blt pc 30 then (bif Nat.beq pc 27 then some (.putfield 26, 8, 1) else none) else (bif Nat.beq pc 30 then some (.return_, 0, 0) else none)))))
def rz_c105 (pc : Nat) : Option rz_I := bif Nat.blt pc 8 then (bif Nat.blt pc 2 then (bif Nat.blt pc 1 then (bif Nat.beq pc 0 then some (.iconst 0, 0, 0) else none) else (bif Nat.beq pc 1 then some (.istore_n 1, 0, 0) else none)) else (bif Nat.blt pc 3 then (bif Nat.beq pc 2 then some (.iload_n 1, 0, 0) else none) else (bif Nat.blt pc 5 then (bif Nat.beq pc 3 then some (.bipush 64, 0, 0) else none) else (bif Nat.beq pc 5 then some (.if_icmp .ge 50, 0, 0) else none)))) else (bif Nat.blt pc 12 then (bif Nat.blt pc 9 then (bif Nat.beq pc 8 then some (.aload_n 0, 0, 0) else none) else (bif Nat.beq pc 9 then some (.getfield 12, 8, 2) else none)) else (bif Nat.blt pc 15 then (bif Nat.beq pc 12 then some (.getfield 64, 2, 0) else none) else (bif Nat.blt pc 55 then (bif Nat.beq pc 15 then some (.ifnull 40, 0, 0) else none) else (bif Nat.beq pc 55 then some (.return_, 0, 0) else none))))
def rz_c106 (pc : Nat) : Option rz_I := bif Nat.blt pc 59 then (bif Nat.blt pc 30 then (bif Nat.blt pc 14 then (bif Nat.blt pc 6 then (bif Nat.blt pc 4 then (bif Nat.blt pc 1 then (bif Nat.beq pc 0 then some (.aload_n 0, 0, 0) else none) else (bif Nat.beq pc 1 then some (.invokespecial 3, 0, 1) else none)) else (bif Nat.blt pc 5 then (bif Nat.beq pc 4 then some (.aload_n 0, 0, 0) else none) else (bif Nat.beq pc 5 then some (.iconst 4, 0, 0) else none))) else (bif Nat.blt pc 11 then (bif Nat.blt pc 8 then (bif Nat.beq pc 6 then some (.newarray .long, 0, 0) else none) else (bif Nat.beq pc 8 then some (.putfield 9, 9, 1) else none)) else (bif Nat.blt pc 12 then (bif Nat.beq pc 11 then some (.aload_n 0, 0, 0) else none) else (bif Nat.beq pc 12 then some (.bipush 20, 0, 0) else none)))) else (bif Nat.blt pc 22 then (bif Nat.blt pc 19 then (bif Nat.blt pc 16 then (bif Nat.beq pc 14 then some (.newarray .int, 0, 0) else none) else (bif Nat.beq pc 16 then some (.putfield 15, 9, 2) else none)) else (bif Nat.blt pc 20 then (bif Nat.beq pc 19 then some (.aload_n 0, 0, 0) else none) else (bif Nat.beq pc 20 then some (.bipush 20, 0, 0) else none))) else (bif Nat.blt pc 27 then (bif Nat.blt pc 24 then (bif Nat.beq pc 22 then some (.newarray .int, 0, 0) else none) else (bif Nat.beq pc 24 then some (.putfield 19, 9, 3) else none)) else (bif Nat.blt pc 28 then (bif Nat.beq pc 27 then some (.aload_n 0, 0, 0) else none) else (bif Nat.beq pc 28 then some (.bipush 20, 0, 0) else none))))) else (bif Nat.blt pc 45 then (bif Nat.blt pc 38 then (bif Nat.blt pc 35 then (bif Nat.blt pc 32 then (bif Nat.beq pc 30 then some (.newarray .int, 0, 0) else none) else (bif Nat.beq pc 32 then some (.putfield 22, 9, 4) else none)) else (bif Nat.blt pc 36 then (bif Nat.beq pc 35 then some (.aload_n 0, 0, 0) else none) else (bif Nat.beq pc 36 then some (.bipush 8, 0, 0) else none))) else (bif Nat.blt pc 43 then (bif Nat.blt pc 40 then (bif Nat.beq pc 38 then some (.newarray .int, 0, 0) else none) else (bif Nat.beq pc 40 then some (.putfield 25, 9, 5) else none)) else (bif Nat.blt pc 44 then (bif Nat.beq pc 43 then some (.aload_n 0, 0, 0) else none) else (bif Nat.beq pc 44 then some (.iconst 0, 0, 0) else none)))) else (bif Nat.blt pc 53 then (bif Nat.blt pc 49 then (bif Nat.blt pc 48 then (bif Nat.beq pc 45 then some (.putfield 28, 9, 6) else none) else (bif Nat.beq pc 48 then some (.aload_n 0, 0, 0) else none)) else (bif Nat.blt pc 50 then (bif Nat.beq pc 49 then some (.iconst 0, 0, 0) else none) else (bif Nat.beq pc 50 then some (.putfield 32, 9, 7) else none))) else (bif Nat.blt pc 55 then (bif Nat.blt pc 54 then (bif Nat.beq pc 53 then some (.aload_n 0, 0, 0) else none) else (bif Nat.beq pc 54 then some (.iconst 0, 0, 0) else none)) else (bif Nat.blt pc 58 then (bif Nat.beq pc 55 then some (.putfield 35, 9, 8) else none) else (bif Nat.beq pc 58 then some (.aload_n 0, 0, 0) else none)))))) else (bif Nat.blt pc 87 then (bif Nat.blt pc 73 then (bif Nat.blt pc 65 then (bif Nat.blt pc 63 then (bif Nat.blt pc 60 then (bif Nat.beq pc 59 then some (.iconst 0, 0, 0) else none) else (bif Nat.beq pc 60 then some (.putfield 39, 9, 9) else none)) else (bif Nat.blt pc 64 then (bif Nat.beq pc 63 then some (.aload_n 0, 0, 0) else none) else (bif Nat.beq pc 64 then some (.iconst 0, 0, 0) else none))) else (bif Nat.blt pc 69 then (bif Nat.blt pc 68 then (bif Nat.beq pc 65 then some (.putfield 42, 9, 10) else none) else (bif Nat.beq pc 68 then some (.aload_n 0, 0, 0) else none)) else (bif Nat.blt pc 70 then (bif Nat.beq pc 69 then some (.iconst 0, 0, 0) else none) else (bif Nat.beq pc 70 then some (.putfield 45, 9, 11) else none)))) else (bif Nat.blt pc 79 then (bif Nat.blt pc 75 then (bif Nat.blt pc 74 then (bif Nat.beq pc 73 then some (.aload_n 0, 0, 0) else none) else (bif Nat.beq pc 74 then some (.iconst (-1), 0, 0) else none)) else (bif Nat.blt pc 78 then (bif Nat.beq pc 75 then some (.putfield 48, 9, 12) else none) else (bif Nat.beq pc 78 then some (.aload_n 0, 0, 0) else none))) else (bif Nat.blt pc 85 then (bif Nat.blt pc 82 then (bif Nat.beq pc 79 then some (.ldc2_w 51, 0, 9223372036854775807) else none) else (bif Nat.beq pc 82 then some (.putfield 53, 9, 13) else none)) else (bif Nat.blt pc 86 then (bif Nat.beq pc 85 then some (.aload_n 0, 0, 0) else none) else (bif Nat.beq pc 86 then some (.iconst 0, 0, 0) else none))))) else (bif Nat.blt pc 101 then (bif Nat.blt pc 95 then (bif Nat.blt pc 91 then (bif Nat.blt pc 90 then (bif Nat.beq pc 87 then some (.putfield 57, 9, 14) else none) else (bif Nat.beq pc 90 then some (.aload_n 0, 0, 0) else none)) else (bif Nat.blt pc 92 then (bif Nat.beq pc 91 then some (.lconst 0, 0, 0) else none) else (bif Nat.beq pc 92 then some (.putfield 60, 9, 15) else none))) else (bif Nat.blt pc 97 then (bif Nat.blt pc 96 then (bif Nat.beq pc 95 then some (.aload_n 0, 0, 0) else none) else (bif Nat.beq pc 96 then some (.iconst 0, 0, 0) else none)) else (bif Nat.blt pc 100 then (bif Nat.beq pc 97 then some (.putfield 63, 9, 16) else none) else (bif Nat.beq pc 100 then some (.aload_n 0, 0, 0) else none)))) else (bif Nat.blt pc 107 then (bif Nat.blt pc 105 then (bif Nat.blt pc 102 then (bif Nat.beq pc 101 then some (.iconst 0, 0, 0) else none) else (bif Nat.beq pc 102 then some (.putfield 66, 9, 17) else none)) else (bif Nat.blt pc 106 then (bif Nat.beq pc 105 then some (.aload_n 0, 0, 0) else none) else (bif Nat.beq pc 106 then some (.aconst_null, 0, 0) else none))) else (bif Nat.blt pc 111 then (bif Nat.blt pc 110 then (bif Nat.beq pc 107 then some (.putfield 69, 9, 18) else none) else (bif Nat.beq pc 110 then some (.aload_n 0, 0, 0) else none)) else (bif Nat.blt pc 112 then (bif Nat.beq pc 111 then some (.iload_n 1, 0, 0) else none) else (bif Nat.blt pc 115 then (bif Nat.beq pc 112 then some (.putfield 73, 9, 0) else none) else (bif Nat.beq pc 115 then some (.return_, 0, 0) else none)))))))
def rz_c107 (pc : Nat) : Option rz_I := bif Nat.blt pc 28 then (bif Nat.blt pc 15 then (bif Nat.blt pc 6 then (bif Nat.blt pc 1 then (bif Nat.beq pc 0 then some (.aload_n 0, 0, 0) else none) else (bif Nat.blt pc 4 then (bif Nat.beq pc 1 then some (.getfield 28, 9, 6) else none) else (bif Nat.beq pc 4 then some (.bipush 20, 0, 0) else none))) else (bif Nat.blt pc 11 then (bif Nat.blt pc 10 then (bif Nat.beq pc 6 then some (.if_icmp .lt 4, 0, 0) else none) else (bif Nat.beq pc 10 then some (.aload_n 0, 0, 0) else none)) else (bif Nat.blt pc 14 then (bif Nat.beq pc 11 then some (.getfield 15, 9, 2) else none) else (bif Nat.beq pc 14 then some (.aload_n 0, 0, 0) else none)))) else (bif Nat.blt pc 20 then (bif Nat.blt pc 18 then (bif Nat.beq pc 15 then some (.getfield 28, 9, 6) else none) else (bif Nat.blt pc 19 then (bif Nat.beq pc 18 then some (.iload_n 1, 0, 0) else none) else (bif Nat.beq pc 19 then some (.iastore, 0, 0) else none))) else (bif Nat.blt pc 24 then (bif Nat.blt pc 21 then (bif Nat.beq pc 20 then some (.aload_n 0, 0, 0) else none) else (bif Nat.beq pc 21 then some (.getfield 19, 9, 3) else none)) else (bif Nat.blt pc 25 then (bif Nat.beq pc 24 then some (.aload_n 0, 0, 0) else none) else (bif Nat.beq pc 25 then some (.getfield 28, 9, 6) else none))))) else (bif Nat.blt pc 39 then (bif Nat.blt pc 31 then (bif Nat.blt pc 29 then (bif Nat.beq pc 28 then some (.iconst 0, 0, 0) else none) else (bif Nat.blt pc 30 then (bif Nat.beq pc 29 then some (.iastore, 0, 0) else none) else (bif Nat.beq pc 30 then some (.aload_n 0, 0, 0) else none))) else (bif Nat.blt pc 35 then (bif Nat.blt pc 34 then (bif Nat.beq pc 31 then some (.getfield 22, 9, 4) else none) else (bif Nat.beq pc 34 then some (.aload_n 0, 0, 0) else none)) else (bif Nat.blt pc 38 then (bif Nat.beq pc 35 then some (.getfield 28, 9, 6) else none) else (bif Nat.beq pc 38 then some (.iconst (-1), 0, 0) else none)))) else (bif Nat.blt pc 45 then (bif Nat.blt pc 41 then (bif Nat.blt pc 40 then (bif Nat.beq pc 39 then some (.iastore, 0, 0) else none) else (bif Nat.beq pc 40 then some (.aload_n 0, 0, 0) else none)) else (bif Nat.blt pc 42 then (bif Nat.beq pc 41 then some (.dup, 0, 0) else none) else (bif Nat.beq pc 42 then some (.getfield 28, 9, 6) else none))) else (bif Nat.blt pc 47 then (bif Nat.blt pc 46 then (bif Nat.beq pc 45 then some (.iconst 1, 0, 0) else none) else (bif Nat.beq pc 46 then some (.iadd, 0, 0) else none)) else (bif Nat.blt pc 50 then (bif Nat.beq pc 47 then some (.putfield 28, 9, 6) else none) else (bif Nat.beq pc 50 then some (.return_, 0, 0) else none)))))
def rz_tr (m pc : Nat) : Option rz_I := bif Nat.blt m 54 then (bif Nat.blt m 27 then (bif Nat.blt m 13 then (bif Nat.blt m 6 then (bif Nat.blt m 3 then (bif Nat.blt m 1 then (rz_c0 pc) else (bif Nat.blt m 2 then (rz_c1 pc) else (rz_c2 pc))) else (bif Nat.blt m 4 then (rz_c3 pc) else (bif Nat.blt m 5 then (rz_c4 pc) else (rz_c5 pc)))) else (bif Nat.blt m 9 then (bif Nat.blt m 7 then (rz_c6 pc) else (bif Nat.blt m 8 then (rz_c7 pc) else (rz_c8 pc))) else (bif Nat.blt m 11 then (bif Nat.blt m 10 then (rz_c9 pc) else (rz_c10 pc)) else (bif Nat.blt m 12 then (rz_c11 pc) else (rz_c12 pc))))) else (bif Nat.blt m 20 then (bif Nat.blt m 16 then (bif Nat.blt m 14 then (rz_c13 pc) else (bif Nat.blt m 15 then (rz_c14 pc) else (rz_c15 pc))) else (bif Nat.blt m 18 then (bif Nat.blt m 17 then (rz_c16 pc) else (rz_c17 pc)) else (bif Nat.blt m 19 then (rz_c18 pc) else (rz_c19 pc)))) else (bif Nat.blt m 23 then (bif Nat.blt m 21 then (rz_c20 pc) else (bif Nat.blt m 22 then (rz_c21 pc) else (rz_c22 pc))) else (bif Nat.blt m 25 then (bif Nat.blt m 24 then (rz_c23 pc) else (rz_c24 pc)) else (bif Nat.blt m 26 then (rz_c25 pc) else (rz_c26 pc)))))) else (bif Nat.blt m 40 then (bif Nat.blt m 33 then (bif Nat.blt m 30 then (bif Nat.blt m 28 then (rz_c27 pc) else (bif Nat.blt m 29 then (rz_c28 pc) else (rz_c29 pc))) else (bif Nat.blt m 31 then (rz_c30 pc) else (bif Nat.blt m 32 then (rz_c31 pc) else (rz_c32 pc)))) else (bif Nat.blt m 36 then (bif Nat.blt m 34 then (rz_c33 pc) else (bif Nat.blt m 35 then (rz_c34 pc) else (rz_c35 pc))) else (bif Nat.blt m 38 then (bif Nat.blt m 37 then (rz_c36 pc) else (rz_c37 pc)) else (bif Nat.blt m 39 then (rz_c38 pc) else (rz_c39 pc))))) else (bif Nat.blt m 47 then (bif Nat.blt m 43 then (bif Nat.blt m 41 then (rz_c40 pc) else (bif Nat.blt m 42 then (rz_c41 pc) else (rz_c42 pc))) else (bif Nat.blt m 45 then (bif Nat.blt m 44 then (rz_c43 pc) else (rz_c44 pc)) else (bif Nat.blt m 46 then (rz_c45 pc) else (rz_c46 pc)))) else (bif Nat.blt m 50 then (bif Nat.blt m 48 then (rz_c47 pc) else (bif Nat.blt m 49 then (rz_c48 pc) else (rz_c49 pc))) else (bif Nat.blt m 52 then (bif Nat.blt m 51 then (rz_c50 pc) else (rz_c51 pc)) else (bif Nat.blt m 53 then (rz_c52 pc) else (rz_c53 pc))))))) else (bif Nat.blt m 81 then (bif Nat.blt m 67 then (bif Nat.blt m 60 then (bif Nat.blt m 57 then (bif Nat.blt m 55 then (rz_c54 pc) else (bif Nat.blt m 56 then (rz_c55 pc) else (rz_c56 pc))) else (bif Nat.blt m 58 then (rz_c57 pc) else (bif Nat.blt m 59 then (rz_c58 pc) else (rz_c59 pc)))) else (bif Nat.blt m 63 then (bif Nat.blt m 61 then (rz_c60 pc) else (bif Nat.blt m 62 then (rz_c61 pc) else (rz_c62 pc))) else (bif Nat.blt m 65 then (bif Nat.blt m 64 then (rz_c63 pc) else (rz_c64 pc)) else (bif Nat.blt m 66 then (rz_c65 pc) else (rz_c66 pc))))) else (bif Nat.blt m 74 then (bif Nat.blt m 70 then (bif Nat.blt m 68 then (rz_c67 pc) else (bif Nat.blt m 69 then (rz_c68 pc) else (rz_c69 pc))) else (bif Nat.blt m 72 then (bif Nat.blt m 71 then (rz_c70 pc) else (rz_c71 pc)) else (bif Nat.blt m 73 then (rz_c72 pc) else (rz_c73 pc)))) else (bif Nat.blt m 77 then (bif Nat.blt m 75 then (rz_c74 pc) else (bif Nat.blt m 76 then (rz_c75 pc) else (rz_c76 pc))) else (bif Nat.blt m 79 then (bif Nat.blt m 78 then (rz_c77 pc) else (rz_c78 pc)) else (bif Nat.blt m 80 then (rz_c79 pc) else (rz_c80 pc)))))) else (bif Nat.blt m 94 then (bif Nat.blt m 87 then (bif Nat.blt m 84 then (bif Nat.blt m 82 then (rz_c81 pc) else (bif Nat.blt m 83 then (rz_c82 pc) else (rz_c83 pc))) else (bif Nat.blt m 85 then (rz_c84 pc) else (bif Nat.blt m 86 then (rz_c85 pc) else (rz_c86 pc)))) else (bif Nat.blt m 90 then (bif Nat.blt m 88 then (rz_c87 pc) else (bif Nat.blt m 89 then (rz_c88 pc) else (rz_c89 pc))) else (bif Nat.blt m 92 then (bif Nat.blt m 91 then (rz_c90 pc) else (rz_c91 pc)) else (bif Nat.blt m 93 then (rz_c92 pc) else (rz_c93 pc))))) else (bif Nat.blt m 101 then (bif Nat.blt m 97 then (bif Nat.blt m 95 then (rz_c94 pc) else (bif Nat.blt m 96 then (rz_c95 pc) else (rz_c96 pc))) else (bif Nat.blt m 99 then (bif Nat.blt m 98 then (rz_c97 pc) else (rz_c98 pc)) else (bif Nat.blt m 100 then (rz_c99 pc) else (rz_c100 pc)))) else (bif Nat.blt m 104 then (bif Nat.blt m 102 then (rz_c101 pc) else (bif Nat.blt m 103 then (rz_c102 pc) else (rz_c103 pc))) else (bif Nat.blt m 106 then (bif Nat.blt m 105 then (rz_c104 pc) else (rz_c105 pc)) else (bif Nat.blt m 107 then (rz_c106 pc) else (rz_c107 pc)))))))
def rz_sz (m : Nat) : Nat := bif Nat.blt m 54 then (bif Nat.blt m 27 then (bif Nat.blt m 13 then (bif Nat.blt m 6 then (bif Nat.blt m 3 then (bif Nat.blt m 1 then (1624) else (11)) else (bif Nat.blt m 4 then (12) else (bif Nat.blt m 5 then (19) else (24)))) else (bif Nat.blt m 9 then (bif Nat.blt m 7 then (14) else (bif Nat.blt m 8 then (16) else (17))) else (bif Nat.blt m 11 then (bif Nat.blt m 10 then (20) else (17)) else (bif Nat.blt m 12 then (15) else (19))))) else (bif Nat.blt m 20 then (bif Nat.blt m 16 then (bif Nat.blt m 14 then (19) else (bif Nat.blt m 15 then (23) else (27))) else (bif Nat.blt m 18 then (bif Nat.blt m 17 then (16) else (15)) else (bif Nat.blt m 19 then (17) else (19)))) else (bif Nat.blt m 23 then (bif Nat.blt m 21 then (19) else (bif Nat.blt m 22 then (15) else (18))) else (bif Nat.blt m 25 then (17) else (bif Nat.blt m 26 then (41) else (91)))))) else (bif Nat.blt m 40 then (bif Nat.blt m 33 then (bif Nat.blt m 30 then (bif Nat.blt m 28 then (63) else (bif Nat.blt m 29 then (17) else (121))) else (bif Nat.blt m 31 then (16) else (bif Nat.blt m 32 then (53) else (106)))) else (bif Nat.blt m 36 then (bif Nat.blt m 34 then (198) else (bif Nat.blt m 35 then (13) else (19))) else (bif Nat.blt m 38 then (bif Nat.blt m 37 then (95) else (114)) else (bif Nat.blt m 39 then (19) else (66))))) else (bif Nat.blt m 47 then (bif Nat.blt m 43 then (bif Nat.blt m 41 then (55) else (bif Nat.blt m 42 then (59) else (30))) else (bif Nat.blt m 45 then (bif Nat.blt m 44 then (13) else (33)) else (bif Nat.blt m 46 then (60) else (28)))) else (bif Nat.blt m 50 then (bif Nat.blt m 48 then (13) else (bif Nat.blt m 49 then (56) else (31))) else (bif Nat.blt m 52 then (bif Nat.blt m 51 then (81) else (7)) else (bif Nat.blt m 53 then (89) else (65))))))) else (bif Nat.blt m 81 then (bif Nat.blt m 67 then (bif Nat.blt m 60 then (bif Nat.blt m 57 then (bif Nat.blt m 55 then (31) else (bif Nat.blt m 56 then (159) else (91))) else (bif Nat.blt m 58 then (41) else (bif Nat.blt m 59 then (68) else (41)))) else (bif Nat.blt m 63 then (bif Nat.blt m 61 then (76) else (bif Nat.blt m 62 then (18) else (369))) else (bif Nat.blt m 65 then (bif Nat.blt m 64 then (18) else (99)) else (bif Nat.blt m 66 then (57) else (47))))) else (bif Nat.blt m 74 then (bif Nat.blt m 70 then (bif Nat.blt m 68 then (110) else (bif Nat.blt m 69 then (18) else (28))) else (bif Nat.blt m 72 then (bif Nat.blt m 71 then (56) else (29)) else (bif Nat.blt m 73 then (89) else (43)))) else (bif Nat.blt m 77 then (bif Nat.blt m 75 then (18) else (bif Nat.blt m 76 then (30) else (60))) else (bif Nat.blt m 79 then (bif Nat.blt m 78 then (60) else (40)) else (bif Nat.blt m 80 then (78) else (27)))))) else (bif Nat.blt m 94 then (bif Nat.blt m 87 then (bif Nat.blt m 84 then (bif Nat.blt m 82 then (47) else (bif Nat.blt m 83 then (28) else (5))) else (bif Nat.blt m 85 then (158) else (bif Nat.blt m 86 then (14) else (65)))) else (bif Nat.blt m 90 then (bif Nat.blt m 88 then (53) else (bif Nat.blt m 89 then (90) else (40))) else (bif Nat.blt m 92 then (bif Nat.blt m 91 then (56) else (54)) else (bif Nat.blt m 93 then (42) else (94))))) else (bif Nat.blt m 101 then (bif Nat.blt m 97 then (bif Nat.blt m 95 then (19) else (bif Nat.blt m 96 then (20) else (41))) else (bif Nat.blt m 99 then (bif Nat.blt m 98 then (47) else (24)) else (bif Nat.blt m 100 then (11) else (90)))) else (bif Nat.blt m 104 then (bif Nat.blt m 102 then (31) else (bif Nat.blt m 103 then (33) else (34))) else (bif Nat.blt m 106 then (bif Nat.blt m 105 then (31) else (56)) else (bif Nat.blt m 107 then (116) else (51)))))))
def rz_code (m pc : Nat) : Option rz_I := bif Nat.blt m 108 && Nat.blt pc (rz_sz m) then rz_tr m pc else none
def rz_np (m : Nat) : Nat := bif Nat.blt m 54 then (bif Nat.blt m 27 then (bif Nat.blt m 13 then (bif Nat.blt m 6 then (bif Nat.blt m 3 then (2) else (bif Nat.blt m 4 then (2) else (4))) else (bif Nat.blt m 9 then (bif Nat.blt m 7 then (2) else (3)) else (bif Nat.blt m 11 then (3) else (bif Nat.blt m 12 then (3) else (4))))) else (bif Nat.blt m 20 then (bif Nat.blt m 16 then (bif Nat.blt m 14 then (4) else (bif Nat.blt m 15 then (4) else (6))) else (bif Nat.blt m 18 then (bif Nat.blt m 17 then (4) else (3)) else (4))) else (bif Nat.blt m 23 then (bif Nat.blt m 21 then (4) else (bif Nat.blt m 22 then (3) else (4))) else (bif Nat.blt m 25 then (bif Nat.blt m 24 then (4) else (3)) else (3))))) else (bif Nat.blt m 40 then (bif Nat.blt m 33 then (bif Nat.blt m 30 then (bif Nat.blt m 28 then (3) else (2)) else (bif Nat.blt m 31 then (1) else (2))) else (bif Nat.blt m 36 then (2) else (3))) else (bif Nat.blt m 47 then (bif Nat.blt m 43 then (bif Nat.blt m 41 then (1) else (bif Nat.blt m 42 then (5) else (3))) else (bif Nat.blt m 45 then (bif Nat.blt m 44 then (2) else (3)) else (3))) else (bif Nat.blt m 50 then (bif Nat.blt m 48 then (2) else (3)) else (bif Nat.blt m 52 then (bif Nat.blt m 51 then (2) else (1)) else (3)))))) else (bif Nat.blt m 81 then (bif Nat.blt m 67 then (bif Nat.blt m 60 then (bif Nat.blt m 57 then (2) else (3)) else (bif Nat.blt m 63 then (2) else (bif Nat.blt m 65 then (bif Nat.blt m 64 then (2) else (3)) else (bif Nat.blt m 66 then (2) else (3))))) else (bif Nat.blt m 74 then (bif Nat.blt m 70 then (bif Nat.blt m 68 then (3) else (bif Nat.blt m 69 then (2) else (3))) else (bif Nat.blt m 72 then (bif Nat.blt m 71 then (3) else (1)) else (bif Nat.blt m 73 then (5) else (3)))) else (bif Nat.blt m 77 then (bif Nat.blt m 75 then (2) else (3)) else (bif Nat.blt m 79 then (bif Nat.blt m 78 then (2) else (3)) else (2))))) else (bif Nat.blt m 94 then (bif Nat.blt m 87 then (bif Nat.blt m 84 then (bif Nat.blt m 82 then (3) else (bif Nat.blt m 83 then (3) else (1))) else (bif Nat.blt m 85 then (2) else (bif Nat.blt m 86 then (2) else (3)))) else (bif Nat.blt m 90 then (bif Nat.blt m 88 then (1) else (bif Nat.blt m 89 then (1) else (2))) else (bif Nat.blt m 92 then (2) else (bif Nat.blt m 93 then (2) else (1))))) else (bif Nat.blt m 101 then (bif Nat.blt m 97 then (bif Nat.blt m 95 then (1) else (bif Nat.blt m 96 then (1) else (3))) else (bif Nat.blt m 99 then (bif Nat.blt m 98 then (3) else (1)) else (bif Nat.blt m 100 then (1) else (4)))) else (bif Nat.blt m 104 then (bif Nat.blt m 102 then (1) else (bif Nat.blt m 103 then (1) else (2))) else (bif Nat.blt m 106 then (bif Nat.blt m 105 then (3) else (1)) else (2))))))
def rz_nL (m : Nat) : Nat := bif Nat.blt m 54 then (bif Nat.blt m 27 then (bif Nat.blt m 13 then (bif Nat.blt m 6 then (bif Nat.blt m 3 then (bif Nat.blt m 1 then (8) else (2)) else (bif Nat.blt m 4 then (4) else (bif Nat.blt m 5 then (5) else (6)))) else (bif Nat.blt m 9 then (bif Nat.blt m 7 then (2) else (4)) else (bif Nat.blt m 11 then (4) else (bif Nat.blt m 12 then (4) else (5))))) else (bif Nat.blt m 20 then (bif Nat.blt m 16 then (bif Nat.blt m 14 then (5) else (bif Nat.blt m 15 then (5) else (9))) else (bif Nat.blt m 18 then (bif Nat.blt m 17 then (5) else (4)) else (5))) else (bif Nat.blt m 23 then (bif Nat.blt m 21 then (6) else (bif Nat.blt m 22 then (4) else (5))) else (bif Nat.blt m 25 then (bif Nat.blt m 24 then (5) else (4)) else (bif Nat.blt m 26 then (3) else (4)))))) else (bif Nat.blt m 40 then (bif Nat.blt m 33 then (bif Nat.blt m 30 then (bif Nat.blt m 28 then (5) else (2)) else (bif Nat.blt m 31 then (1) else (4))) else (bif Nat.blt m 36 then (bif Nat.blt m 34 then (3) else (bif Nat.blt m 35 then (2) else (3))) else (bif Nat.blt m 38 then (4) else (3)))) else (bif Nat.blt m 47 then (bif Nat.blt m 43 then (bif Nat.blt m 41 then (2) else (bif Nat.blt m 42 then (8) else (3))) else (bif Nat.blt m 45 then (bif Nat.blt m 44 then (4) else (3)) else (bif Nat.blt m 46 then (4) else (6)))) else (bif Nat.blt m 50 then (bif Nat.blt m 48 then (2) else (bif Nat.blt m 49 then (3) else (5))) else (bif Nat.blt m 52 then (bif Nat.blt m 51 then (4) else (1)) else (bif Nat.blt m 53 then (3) else (5))))))) else (bif Nat.blt m 81 then (bif Nat.blt m 67 then (bif Nat.blt m 60 then (bif Nat.blt m 57 then (bif Nat.blt m 55 then (2) else (4)) else (bif Nat.blt m 58 then (4) else (bif Nat.blt m 59 then (5) else (4)))) else (bif Nat.blt m 63 then (bif Nat.blt m 61 then (5) else (bif Nat.blt m 62 then (4) else (3))) else (bif Nat.blt m 65 then (bif Nat.blt m 64 then (2) else (3)) else (bif Nat.blt m 66 then (3) else (5))))) else (bif Nat.blt m 74 then (bif Nat.blt m 70 then (bif Nat.blt m 68 then (3) else (bif Nat.blt m 69 then (2) else (3))) else (bif Nat.blt m 72 then (bif Nat.blt m 71 then (3) else (1)) else (bif Nat.blt m 73 then (8) else (3)))) else (bif Nat.blt m 77 then (bif Nat.blt m 75 then (4) else (3)) else (bif Nat.blt m 79 then (bif Nat.blt m 78 then (3) else (6)) else (2))))) else (bif Nat.blt m 94 then (bif Nat.blt m 87 then (bif Nat.blt m 84 then (bif Nat.blt m 82 then (3) else (bif Nat.blt m 83 then (3) else (1))) else (bif Nat.blt m 85 then (5) else (bif Nat.blt m 86 then (2) else (3)))) else (bif Nat.blt m 90 then (bif Nat.blt m 88 then (4) else (bif Nat.blt m 89 then (2) else (3))) else (bif Nat.blt m 92 then (bif Nat.blt m 91 then (5) else (3)) else (bif Nat.blt m 93 then (2) else (4))))) else (bif Nat.blt m 101 then (bif Nat.blt m 97 then (bif Nat.blt m 95 then (1) else (bif Nat.blt m 96 then (1) else (3))) else (bif Nat.blt m 99 then (bif Nat.blt m 98 then (3) else (1)) else (bif Nat.blt m 100 then (1) else (6)))) else (bif Nat.blt m 104 then (bif Nat.blt m 102 then (1) else (bif Nat.blt m 103 then (1) else (3))) else (bif Nat.blt m 106 then (bif Nat.blt m 105 then (3) else (2)) else (2))))))
def rz_mo (m : Nat) : Nat := bif Nat.blt m 54 then (bif Nat.blt m 27 then (bif Nat.blt m 13 then (bif Nat.blt m 6 then (bif Nat.blt m 3 then (bif Nat.blt m 1 then (12) else (13)) else (bif Nat.blt m 4 then (13) else (12))) else (12)) else (bif Nat.blt m 20 then (12) else (bif Nat.blt m 23 then (12) else (bif Nat.blt m 25 then (12) else (bif Nat.blt m 26 then (0) else (10)))))) else (bif Nat.blt m 40 then (10) else (bif Nat.blt m 47 then (10) else (bif Nat.blt m 50 then (10) else (bif Nat.blt m 52 then (bif Nat.blt m 51 then (10) else (11)) else (11)))))) else (bif Nat.blt m 81 then (11) else (bif Nat.blt m 94 then (bif Nat.blt m 87 then (bif Nat.blt m 84 then (11) else (bif Nat.blt m 85 then (11) else (bif Nat.blt m 86 then (11) else (1)))) else (1)) else (bif Nat.blt m 101 then (bif Nat.blt m 97 then (bif Nat.blt m 95 then (2) else (bif Nat.blt m 96 then (2) else (3))) else (bif Nat.blt m 99 then (bif Nat.blt m 98 then (4) else (5)) else (bif Nat.blt m 100 then (5) else (6)))) else (bif Nat.blt m 104 then (bif Nat.blt m 102 then (6) else (bif Nat.blt m 103 then (7) else (8))) else (bif Nat.blt m 106 then (8) else (9))))))
def rz_hh (m : Nat) : List (Nat × Nat × Nat × Nat) := bif Nat.blt m 54 then (bif Nat.blt m 27 then (bif Nat.blt m 13 then (bif Nat.blt m 6 then (bif Nat.blt m 3 then ([]) else (bif Nat.blt m 4 then ([]) else (bif Nat.blt m 5 then ([(0, 10, 13, 13)]) else ([(0, 11, 14, 13), (0, 11, 18, 15)])))) else (bif Nat.blt m 9 then (bif Nat.blt m 7 then ([]) else (bif Nat.blt m 8 then ([(0, 8, 11, 13)]) else ([(0, 9, 12, 13)]))) else (bif Nat.blt m 11 then (bif Nat.blt m 10 then ([(0, 9, 12, 13), (0, 9, 15, 15)]) else ([(0, 9, 12, 13)])) else (bif Nat.blt m 12 then ([(0, 9, 12, 13)]) else ([(0, 10, 13, 13)]))))) else (bif Nat.blt m 20 then (bif Nat.blt m 16 then (bif Nat.blt m 14 then ([(0, 10, 13, 13)]) else (bif Nat.blt m 15 then ([(0, 10, 13, 13), (0, 10, 17, 15)]) else ([(0, 14, 17, 13), (0, 14, 21, 15)]))) else (bif Nat.blt m 18 then ([(0, 9, 12, 13)]) else (bif Nat.blt m 19 then ([(0, 10, 13, 13), (0, 10, 17, 15)]) else ([(0, 10, 13, 13)])))) else (bif Nat.blt m 23 then (bif Nat.blt m 21 then ([(0, 10, 13, 13)]) else ([(0, 9, 12, 13)])) else (bif Nat.blt m 25 then (bif Nat.blt m 24 then ([(0, 10, 13, 13)]) else ([(0, 9, 12, 13)])) else ([]))))) else ([])) else ([])
def rz_ret (m : Nat) : Option FieldType := bif Nat.blt m 54 then (bif Nat.blt m 27 then (bif Nat.blt m 13 then (bif Nat.blt m 6 then (bif Nat.blt m 3 then (bif Nat.blt m 1 then ((some .boolean)) else ((some .int))) else (bif Nat.blt m 4 then ((some .long)) else ((some .int)))) else ((some .int))) else (bif Nat.blt m 20 then ((some .int)) else (bif Nat.blt m 23 then ((some .int)) else (bif Nat.blt m 25 then ((some .int)) else (bif Nat.blt m 26 then (none) else ((some .int))))))) else (bif Nat.blt m 40 then (bif Nat.blt m 33 then (bif Nat.blt m 30 then (bif Nat.blt m 28 then ((some .int)) else (bif Nat.blt m 29 then ((some .long)) else ((some .int)))) else (bif Nat.blt m 31 then (none) else ((some .int)))) else (bif Nat.blt m 36 then (bif Nat.blt m 34 then (none) else (bif Nat.blt m 35 then ((some .int)) else ((some .boolean)))) else (bif Nat.blt m 38 then ((some .int)) else (bif Nat.blt m 39 then ((some .long)) else ((some .int)))))) else (bif Nat.blt m 47 then (bif Nat.blt m 43 then (bif Nat.blt m 41 then (none) else (bif Nat.blt m 42 then ((some .int)) else ((some .long)))) else (bif Nat.blt m 45 then ((some .int)) else (bif Nat.blt m 46 then ((some .int)) else ((some .long))))) else (bif Nat.blt m 50 then (bif Nat.blt m 48 then ((some .int)) else (bif Nat.blt m 49 then ((some .long)) else ((some .int)))) else ((some .int)))))) else (bif Nat.blt m 81 then (bif Nat.blt m 67 then (bif Nat.blt m 60 then (bif Nat.blt m 57 then (bif Nat.blt m 55 then ((some .long)) else ((some .int))) else (bif Nat.blt m 58 then (none) else (bif Nat.blt m 59 then ((some .int)) else (none)))) else (bif Nat.blt m 63 then (bif Nat.blt m 61 then ((some .int)) else (bif Nat.blt m 62 then ((some .boolean)) else (none))) else (bif Nat.blt m 65 then ((some .int)) else (bif Nat.blt m 66 then (none) else ((some .int)))))) else (bif Nat.blt m 74 then (bif Nat.blt m 70 then (bif Nat.blt m 68 then ((some .int)) else (bif Nat.blt m 69 then ((some .boolean)) else ((some .long)))) else (bif Nat.blt m 72 then (bif Nat.blt m 71 then ((some .int)) else (none)) else (bif Nat.blt m 73 then ((some .int)) else ((some .long))))) else (bif Nat.blt m 77 then ((some .int)) else (bif Nat.blt m 79 then (bif Nat.blt m 78 then (none) else ((some .long))) else (bif Nat.blt m 80 then (none) else ((some .int))))))) else (bif Nat.blt m 94 then (bif Nat.blt m 87 then (bif Nat.blt m 84 then (bif Nat.blt m 82 then ((some .long)) else ((some .int))) else (bif Nat.blt m 85 then ((some .int)) else (bif Nat.blt m 86 then ((some .int)) else (none)))) else (bif Nat.blt m 90 then (bif Nat.blt m 88 then ((some (.object "TurnHall$Worker"))) else (bif Nat.blt m 89 then (none) else ((some .boolean)))) else (bif Nat.blt m 92 then (bif Nat.blt m 91 then ((some .boolean)) else ((some (.object "TurnHall$Worker")))) else (none)))) else (bif Nat.blt m 101 then (bif Nat.blt m 97 then (bif Nat.blt m 95 then ((some .int)) else (none)) else (bif Nat.blt m 99 then (none) else (bif Nat.blt m 100 then ((some .int)) else (none)))) else (none))))
def rz_rb (m : Nat) : Bool := bif Nat.blt m 54 then (bif Nat.blt m 27 then (bif Nat.blt m 13 then (bif Nat.blt m 6 then (bif Nat.blt m 3 then (bif Nat.blt m 1 then (true) else (false)) else (false)) else (false)) else (false)) else (bif Nat.blt m 40 then (bif Nat.blt m 33 then (false) else (bif Nat.blt m 36 then (bif Nat.blt m 34 then (false) else (bif Nat.blt m 35 then (false) else (true))) else (false))) else (false))) else (bif Nat.blt m 81 then (bif Nat.blt m 67 then (bif Nat.blt m 60 then (false) else (bif Nat.blt m 63 then (bif Nat.blt m 61 then (false) else (bif Nat.blt m 62 then (true) else (false))) else (false))) else (bif Nat.blt m 74 then (bif Nat.blt m 70 then (bif Nat.blt m 68 then (false) else (bif Nat.blt m 69 then (true) else (false))) else (false)) else (false))) else (bif Nat.blt m 94 then (bif Nat.blt m 87 then (false) else (bif Nat.blt m 90 then (bif Nat.blt m 88 then (false) else (bif Nat.blt m 89 then (false) else (true))) else (bif Nat.blt m 92 then (bif Nat.blt m 91 then (true) else (false)) else (false)))) else (false)))
def rz_N (c : Nat) : Nat := bif Nat.blt c 6 then (bif Nat.blt c 3 then (bif Nat.blt c 1 then (6) else (bif Nat.blt c 2 then (10) else (3))) else (bif Nat.blt c 4 then (6) else (bif Nat.blt c 5 then (6) else (3)))) else (bif Nat.blt c 9 then (4) else (bif Nat.blt c 10 then (19) else (bif Nat.blt c 11 then (12) else (48))))
def rz_T (c : Nat) : u_T := match c with
  | 0 => TX0
  | 1 => TX1
  | 2 => TX2
  | 3 => TX3
  | 4 => TX4
  | 5 => TX5
  | 6 => TX6
  | 7 => TX7
  | 8 => TX8
  | 9 => TX9
  | 10 => TX10
  | _ => TX11
def rz_ty (c : Nat) : Nat → FieldType := match c with
  | 0 => tyX0
  | 1 => tyX1
  | 2 => tyX2
  | 3 => tyX3
  | 4 => tyX4
  | 5 => tyX5
  | 6 => tyX6
  | 7 => tyX7
  | 8 => tyX8
  | 9 => tyX9
  | 10 => tyX10
  | _ => tyX11
def rz_cn (c : Nat) : String := match c with
  | 0 => RX0
  | 1 => RX1
  | 2 => RX2
  | 3 => RX3
  | 4 => RX4
  | 5 => RX5
  | 6 => RX6
  | 7 => RX7
  | 8 => RX8
  | 9 => RX9
  | 10 => RX10
  | 11 => RX11
  | 12 => RL
  | _ => RJ9
def rz_df (c : Nat) : List rz_V := (List.range (rz_N c)).map (fun k => rz_dt (rz_ty c k))
def rz_y (m : Nat) : MethodName := match m with
  | 0 => yL_law
  | 1 => yJ9_max_7cf53
  | 2 => yJ9_min_7cf53
  | 3 => yJ9_min_f86c9
  | 4 => yL_barrier
  | 5 => yL_begin
  | 6 => yL_cell
  | 7 => yL_cell_
  | 8 => yL_count
  | 9 => yL_drop
  | 10 => yL_go
  | 11 => yL_interrupt
  | 12 => yL_lock
  | 13 => yL_monitor
  | 14 => yL_parties
  | 15 => yL_put
  | 16 => yL_register
  | 17 => yL_ring
  | 18 => yL_schedule
  | 19 => yL_semaphore
  | 20 => yL_set
  | 21 => yL_state
  | 22 => yL_supply
  | 23 => yL_thread
  | 24 => yL_tick
  | 25 => yX0_init
  | 26 => yX10_barrier
  | 27 => yX10_begin
  | 28 => yX10_cell
  | 29 => yX10_count
  | 30 => yX10_demand
  | 31 => yX10_drop
  | 32 => yX10_go
  | 33 => yX10_init
  | 34 => yX10_interrupt
  | 35 => yX10_isWithin
  | 36 => yX10_lock
  | 37 => yX10_monitor
  | 38 => yX10_note
  | 39 => yX10_parties
  | 40 => yX10_passOver
  | 41 => yX10_put
  | 42 => yX10_register
  | 43 => yX10_ring
  | 44 => yX10_schedule
  | 45 => yX10_semaphore
  | 46 => yX10_set
  | 47 => yX10_state
  | 48 => yX10_supply
  | 49 => yX10_thread
  | 50 => yX10_tick
  | 51 => yX11_bad
  | 52 => yX11_barrier
  | 53 => yX11_begin
  | 54 => yX11_cell
  | 55 => yX11_count
  | 56 => yX11_drop
  | 57 => yX11_ends
  | 58 => yX11_first
  | 59 => yX11_gives
  | 60 => yX11_go
  | 61 => yX11_in
  | 62 => yX11_init
  | 63 => yX11_interrupt
  | 64 => yX11_lock
  | 65 => yX11_make
  | 66 => yX11_many
  | 67 => yX11_monitor
  | 68 => yX11_none
  | 69 => yX11_note
  | 70 => yX11_parties
  | 71 => yX11_passOver
  | 72 => yX11_put
  | 73 => yX11_register
  | 74 => yX11_ring
  | 75 => yX11_schedule
  | 76 => yX11_semaphore
  | 77 => yX11_serves
  | 78 => yX11_set
  | 79 => yX11_settle
  | 80 => yX11_state
  | 81 => yX11_supply
  | 82 => yX11_thread
  | 83 => yX11_thrown
  | 84 => yX11_tick
  | 85 => yX11_top
  | 86 => yX1_end
  | 87 => yX1_firstDue
  | 88 => yX1_init
  | 89 => yX1_isAtStep
  | 90 => yX1_isCalled
  | 91 => yX1_newWorker
  | 92 => yX1_returnCalls
  | 93 => yX1_settle
  | 94 => yX2_firstNumber
  | 95 => yX2_init
  | 96 => yX3_init
  | 97 => yX4_init
  | 98 => yX5_init
  | 99 => yX5_kept
  | 100 => yX6_append
  | 101 => yX6_init
  | 102 => yX7_init
  | 103 => yX8_give
  | 104 => yX8_init
  | 105 => yX8_serve
  | 106 => yX9_init
  | _ => yX9_open
def rz_by (m : Nat) : ByteArray := match m with
  | 0 => cL_law
  | 1 => cJ9_max_7cf53
  | 2 => cJ9_min_7cf53
  | 3 => cJ9_min_f86c9
  | 4 => cL_barrier
  | 5 => cL_begin
  | 6 => cL_cell
  | 7 => cL_cell_
  | 8 => cL_count
  | 9 => cL_drop
  | 10 => cL_go
  | 11 => cL_interrupt
  | 12 => cL_lock
  | 13 => cL_monitor
  | 14 => cL_parties
  | 15 => cL_put
  | 16 => cL_register
  | 17 => cL_ring
  | 18 => cL_schedule
  | 19 => cL_semaphore
  | 20 => cL_set
  | 21 => cL_state
  | 22 => cL_supply
  | 23 => cL_thread
  | 24 => cL_tick
  | 25 => cX0_init
  | 26 => cX10_barrier
  | 27 => cX10_begin
  | 28 => cX10_cell
  | 29 => cX10_count
  | 30 => cX10_demand
  | 31 => cX10_drop
  | 32 => cX10_go
  | 33 => cX10_init
  | 34 => cX10_interrupt
  | 35 => cX10_isWithin
  | 36 => cX10_lock
  | 37 => cX10_monitor
  | 38 => cX10_note
  | 39 => cX10_parties
  | 40 => cX10_passOver
  | 41 => cX10_put
  | 42 => cX10_register
  | 43 => cX10_ring
  | 44 => cX10_schedule
  | 45 => cX10_semaphore
  | 46 => cX10_set
  | 47 => cX10_state
  | 48 => cX10_supply
  | 49 => cX10_thread
  | 50 => cX10_tick
  | 51 => cX11_bad
  | 52 => cX11_barrier
  | 53 => cX11_begin
  | 54 => cX11_cell
  | 55 => cX11_count
  | 56 => cX11_drop
  | 57 => cX11_ends
  | 58 => cX11_first
  | 59 => cX11_gives
  | 60 => cX11_go
  | 61 => cX11_in
  | 62 => cX11_init
  | 63 => cX11_interrupt
  | 64 => cX11_lock
  | 65 => cX11_make
  | 66 => cX11_many
  | 67 => cX11_monitor
  | 68 => cX11_none
  | 69 => cX11_note
  | 70 => cX11_parties
  | 71 => cX11_passOver
  | 72 => cX11_put
  | 73 => cX11_register
  | 74 => cX11_ring
  | 75 => cX11_schedule
  | 76 => cX11_semaphore
  | 77 => cX11_serves
  | 78 => cX11_set
  | 79 => cX11_settle
  | 80 => cX11_state
  | 81 => cX11_supply
  | 82 => cX11_thread
  | 83 => cX11_thrown
  | 84 => cX11_tick
  | 85 => cX11_top
  | 86 => cX1_end
  | 87 => cX1_firstDue
  | 88 => cX1_init
  | 89 => cX1_isAtStep
  | 90 => cX1_isCalled
  | 91 => cX1_newWorker
  | 92 => cX1_returnCalls
  | 93 => cX1_settle
  | 94 => cX2_firstNumber
  | 95 => cX2_init
  | 96 => cX3_init
  | 97 => cX4_init
  | 98 => cX5_init
  | 99 => cX5_kept
  | 100 => cX6_append
  | 101 => cX6_init
  | 102 => cX7_init
  | 103 => cX8_give
  | 104 => cX8_init
  | 105 => cX8_serve
  | 106 => cX9_init
  | _ => cX9_open
def rz_stp (call : Nat → List rz_V → List rz_E → Nat → Nat → Option rz_R) (B : rz_B) (K Z m : Nat) (f : rz_F) : rz_X := match rz_code m f.1 with
  | none => none
  | some q => rz_step call rz_np rz_mo rz_N rz_df rz_ty (rz_hh m) (rz_rb m) B K Z (rz_nL m) q f.1 f.2.1 f.2.2.1 f.2.2.2.1 f.2.2.2.2.1 f.2.2.2.2.2
def rz_run (call : Nat → List rz_V → List rz_E → Nat → Nat → Option rz_R) (B : rz_B) (K Z m : Nat) : Nat → rz_F → Option rz_R
  | 0, _ => none
  | n + 1, f => match rz_stp call B K Z m f with
    | none => none
    | some (.inr r) => some r
    | some (.inl f') => rz_run call B K Z m n f'
def rz_runs (call : Nat → List rz_V → List rz_E → Nat → Nat → Option rz_R) (B : rz_B) (K Z m : Nat) : Nat → rz_F → Option rz_F
  | 0, f => some f
  | n + 1, f => match rz_stp call B K Z m f with
    | some (.inl f') => rz_runs call B K Z m n f'
    | _ => none
def rz_dem : Nat := 30
def rz_ev (B : rz_B) : Nat → Nat → List rz_V → List rz_E → Nat → Nat → Option rz_R
  | 0, _, _, _, _, _ => none
  | d + 1, m, as, h, K, Z => bif Nat.beq m rz_dem && decide (as = [(0, 0)]) then
      bif Nat.ble 1 K && Nat.ble 6 Z then some ((2, (4, (h.length : Int))), h ++ [(100, 0, [], [])], 1, 6) else none
    else bif Nat.blt 0 m && (Nat.blt m 108 && Nat.ble (rz_cats as) (rz_nL m)) then rz_run (rz_ev B d) B K Z m 3000 (0, rz_ar 0 as, [], h, 0, 0) else none
end
section
/-! Weaker states: equal, or 'any' where something was known. -/
def rz_leV (a b : rz_V) : Bool := (Nat.beq a.1 b.1 && decide (a.2 = b.2)) || ((decide (b = (6, 0)) && rz_isI a) || (decide (b = (7, 0)) && rz_isL a))
def rz_leL : List rz_V → List rz_V → Bool
  | [], [] => true
  | a :: l, b :: m => rz_leV a b && rz_leL l m
  | _, _ => false
def rz_leA : List (Nat × rz_V) → List (Nat × rz_V) → Bool
  | [], [] => true
  | a :: l, b :: m => Nat.beq a.1 b.1 && (rz_leV a.2 b.2 && rz_leA l m)
  | _, _ => false
def rz_leE (a b : rz_E) : Bool := Nat.beq a.1 b.1 && (Nat.beq a.2.1 b.2.1 && (rz_leL a.2.2.1 b.2.2.1 && rz_leA a.2.2.2 b.2.2.2))
def rz_leH : List rz_E → List rz_E → Bool
  | [], [] => true
  | a :: l, b :: m => rz_leE a b && rz_leH l m
  | _, _ => false
def rz_leF (a b : rz_F) : Bool := Nat.beq a.1 b.1 && (rz_leA a.2.1 b.2.1 && (rz_leL a.2.2.1 b.2.2.1 && (rz_leH a.2.2.2.1 b.2.2.2.1 && (Nat.ble a.2.2.2.2.1 b.2.2.2.2.1 && Nat.ble a.2.2.2.2.2 b.2.2.2.2.2))))
/-- from f the law's frame comes, in n steps, to something that t covers -/
def rz_seg (n : Nat) (f t : rz_F) (B : rz_B) : Bool := match rz_runs (rz_ev B 12) B 600002 7302197 0 n f with
  | some g => rz_leF g t
  | none => false
/-- from f the law ends with 1 -/
def rz_end (f : rz_F) (B : rz_B) : Bool := match rz_run (rz_ev B 12) B 600002 7302197 0 200 f with
  | some r => decide (r.1 = (1, (0, 1))) && (Nat.ble r.2.2.1 600002 && Nat.ble r.2.2.2 7302197)
  | none => false
/-- boxes split as a list tells: (99, _) is an end, where P must hold; (k, c) splits the k-th bounds at c -/
def rz_lo (B : rz_B) (k : Nat) (c : Int) : rz_B := match rz_nth B k with
  | some (lo, _) => rz_set B k (lo, c - 1)
  | none => B
def rz_hi (B : rz_B) (k : Nat) (c : Int) : rz_B := match rz_nth B k with
  | some (_, hi) => rz_set B k (c, hi)
  | none => B
def rz_chk (P : rz_B → Bool) : Nat → List (Nat × Int) → rz_B → Option (List (Nat × Int))
  | 0, _, _ => none
  | _ + 1, [], _ => none
  | n + 1, q :: T, B => bif Nat.beq q.1 99 then (bif P B then some T else none) else match rz_chk P n T (rz_lo B q.1 q.2) with
    | none => none
    | some T' => rz_chk P n T' (rz_hi B q.1 q.2)
def rz_all (P : rz_B → Bool) (T : List (Nat × Int)) (B : rz_B) : Bool := match rz_chk P 1000 T B with
  | some _ => true
  | none => false
end
section
/-! The runs, by the kernel: the two constructors, then each of the law's calls over boxes that split as the lists tell. -/
def rz_H1 : List rz_E := [(0, 10, [(6, 0), (4, 1), (4, 68), (4, 69), (4, 70), (4, 71), (4, 72), (4, 73), (4, 76), (0, 0), (0, 0), (0, (-1))], []), (0, 1, [(4, 2), (4, 3), (0, 0), (0, 0), (0, 0), (0, 0), (0, 0), (0, 0), (2, 0), (0, 0)], []), (10, 16, [], [(15, (4, 64)), (14, (4, 60)), (13, (4, 56)), (12, (4, 52)), (11, (4, 48)), (10, (4, 44)), (9, (4, 40)), (8, (4, 36)), (7, (4, 32)), (6, (4, 28)), (5, (4, 24)), (4, (4, 20)), (3, (4, 16)), (2, (4, 12)), (1, (4, 8)), (0, (4, 4))]), (13, 64, [], []), (0, 6, [(0, 0), (4, 5), (4, 6), (4, 7)], []), (1, 0, [], []), (2, 0, [], []), (2, 0, [], []), (0, 6, [(0, 0), (4, 9), (4, 10), (4, 11)], []), (1, 0, [], []), (2, 0, [], []), (2, 0, [], []), (0, 6, [(0, 0), (4, 13), (4, 14), (4, 15)], []), (1, 0, [], []), (2, 0, [], []), (2, 0, [], []), (0, 6, [(0, 0), (4, 17), (4, 18), (4, 19)], []), (1, 0, [], []), (2, 0, [], []), (2, 0, [], []), (0, 6, [(0, 0), (4, 21), (4, 22), (4, 23)], []), (1, 0, [], []), (2, 0, [], []), (2, 0, [], []), (0, 6, [(0, 0), (4, 25), (4, 26), (4, 27)], []), (1, 0, [], []), (2, 0, [], []), (2, 0, [], []), (0, 6, [(0, 0), (4, 29), (4, 30), (4, 31)], []), (1, 0, [], []), (2, 0, [], []), (2, 0, [], []), (0, 6, [(0, 0), (4, 33), (4, 34), (4, 35)], []), (1, 0, [], []), (2, 0, [], []), (2, 0, [], []), (0, 6, [(0, 0), (4, 37), (4, 38), (4, 39)], []), (1, 0, [], []), (2, 0, [], []), (2, 0, [], []), (0, 6, [(0, 0), (4, 41), (4, 42), (4, 43)], []), (1, 0, [], []), (2, 0, [], []), (2, 0, [], []), (0, 6, [(0, 0), (4, 45), (4, 46), (4, 47)], []), (1, 0, [], []), (2, 0, [], []), (2, 0, [], []), (0, 6, [(0, 0), (4, 49), (4, 50), (4, 51)], []), (1, 0, [], []), (2, 0, [], []), (2, 0, [], []), (0, 6, [(0, 0), (4, 53), (4, 54), (4, 55)], []), (1, 0, [], []), (2, 0, [], []), (2, 0, [], []), (0, 6, [(0, 0), (4, 57), (4, 58), (4, 59)], []), (1, 0, [], []), (2, 0, [], []), (2, 0, [], []), (0, 6, [(0, 0), (4, 61), (4, 62), (4, 63)], []), (1, 0, [], []), (2, 0, [], []), (2, 0, [], []), (0, 6, [(0, 0), (4, 65), (4, 66), (4, 67)], []), (1, 0, [], []), (2, 0, [], []), (2, 0, [], []), (2, 32, [], []), (8, 8, [], [(7, (4, 142)), (6, (4, 133)), (5, (4, 124)), (4, (4, 115)), (3, (4, 106)), (2, (4, 97)), (1, (4, 88)), (0, (4, 79))]), (7, 8, [], [(7, (4, 145)), (6, (4, 136)), (5, (4, 127)), (4, (4, 118)), (3, (4, 109)), (2, (4, 100)), (1, (4, 91)), (0, (4, 82))]), (12, 8, [], [(7, (4, 147)), (6, (4, 138)), (5, (4, 129)), (4, (4, 120)), (3, (4, 111)), (2, (4, 102)), (1, (4, 93)), (0, (4, 84))]), (4, 8, [], [(7, (4, 149)), (6, (4, 140)), (5, (4, 131)), (4, (4, 122)), (3, (4, 113)), (2, (4, 104)), (1, (4, 95)), (0, (4, 86))]), (0, 7, [(4, 74), (4, 75), (0, 0), (0, 0)], []), (1, 256, [], []), (1, 256, [], []), (0, 5, [(4, 77), (4, 78), (0, 0)], []), (1, 0, [], []), (2, 0, [], []), (0, 4, [(0, 0), (4, 1), (4, 80), (4, 81), (0, (-1)), (0, 0)], []), (0, 2, [(5, 0), (5, 0), (0, 0)], []), (0, 2, [(5, 0), (5, 0), (0, 0)], []), (0, 3, [(0, 0), (4, 1), (4, 83), (0, (-1)), (0, 0), (0, 0)], []), (0, 2, [(5, 0), (5, 0), (0, 0)], []), (0, 8, [(0, 0), (4, 1), (4, 85), (2, 0)], []), (0, 2, [(5, 0), (5, 0), (0, 0)], []), (0, 0, [(0, 0), (4, 1), (4, 87), (0, 1), (0, 0), (0, 0)], []), (0, 2, [(5, 0), (5, 0), (0, 0)], []), (0, 4, [(0, 1), (4, 1), (4, 89), (4, 90), (0, (-1)), (0, 0)], []), (0, 2, [(5, 0), (5, 0), (0, 0)], []), (0, 2, [(5, 0), (5, 0), (0, 0)], []), (0, 3, [(0, 1), (4, 1), (4, 92), (0, (-1)), (0, 0), (0, 0)], []), (0, 2, [(5, 0), (5, 0), (0, 0)], []), (0, 8, [(0, 1), (4, 1), (4, 94), (2, 0)], []), (0, 2, [(5, 0), (5, 0), (0, 0)], []), (0, 0, [(0, 1), (4, 1), (4, 96), (0, 1), (0, 0), (0, 0)], []), (0, 2, [(5, 0), (5, 0), (0, 0)], []), (0, 4, [(0, 2), (4, 1), (4, 98), (4, 99), (0, (-1)), (0, 0)], []), (0, 2, [(5, 0), (5, 0), (0, 0)], []), (0, 2, [(5, 0), (5, 0), (0, 0)], []), (0, 3, [(0, 2), (4, 1), (4, 101), (0, (-1)), (0, 0), (0, 0)], []), (0, 2, [(5, 0), (5, 0), (0, 0)], []), (0, 8, [(0, 2), (4, 1), (4, 103), (2, 0)], []), (0, 2, [(5, 0), (5, 0), (0, 0)], []), (0, 0, [(0, 2), (4, 1), (4, 105), (0, 1), (0, 0), (0, 0)], []), (0, 2, [(5, 0), (5, 0), (0, 0)], []), (0, 4, [(0, 3), (4, 1), (4, 107), (4, 108), (0, (-1)), (0, 0)], []), (0, 2, [(5, 0), (5, 0), (0, 0)], []), (0, 2, [(5, 0), (5, 0), (0, 0)], []), (0, 3, [(0, 3), (4, 1), (4, 110), (0, (-1)), (0, 0), (0, 0)], []), (0, 2, [(5, 0), (5, 0), (0, 0)], []), (0, 8, [(0, 3), (4, 1), (4, 112), (2, 0)], []), (0, 2, [(5, 0), (5, 0), (0, 0)], []), (0, 0, [(0, 3), (4, 1), (4, 114), (0, 1), (0, 0), (0, 0)], []), (0, 2, [(5, 0), (5, 0), (0, 0)], []), (0, 4, [(0, 4), (4, 1), (4, 116), (4, 117), (0, (-1)), (0, 0)], []), (0, 2, [(5, 0), (5, 0), (0, 0)], []), (0, 2, [(5, 0), (5, 0), (0, 0)], []), (0, 3, [(0, 4), (4, 1), (4, 119), (0, (-1)), (0, 0), (0, 0)], []), (0, 2, [(5, 0), (5, 0), (0, 0)], []), (0, 8, [(0, 4), (4, 1), (4, 121), (2, 0)], []), (0, 2, [(5, 0), (5, 0), (0, 0)], []), (0, 0, [(0, 4), (4, 1), (4, 123), (0, 1), (0, 0), (0, 0)], []), (0, 2, [(5, 0), (5, 0), (0, 0)], []), (0, 4, [(0, 5), (4, 1), (4, 125), (4, 126), (0, (-1)), (0, 0)], []), (0, 2, [(5, 0), (5, 0), (0, 0)], []), (0, 2, [(5, 0), (5, 0), (0, 0)], []), (0, 3, [(0, 5), (4, 1), (4, 128), (0, (-1)), (0, 0), (0, 0)], []), (0, 2, [(5, 0), (5, 0), (0, 0)], []), (0, 8, [(0, 5), (4, 1), (4, 130), (2, 0)], []), (0, 2, [(5, 0), (5, 0), (0, 0)], []), (0, 0, [(0, 5), (4, 1), (4, 132), (0, 1), (0, 0), (0, 0)], []), (0, 2, [(5, 0), (5, 0), (0, 0)], []), (0, 4, [(0, 6), (4, 1), (4, 134), (4, 135), (0, (-1)), (0, 0)], []), (0, 2, [(5, 0), (5, 0), (0, 0)], []), (0, 2, [(5, 0), (5, 0), (0, 0)], []), (0, 3, [(0, 6), (4, 1), (4, 137), (0, (-1)), (0, 0), (0, 0)], []), (0, 2, [(5, 0), (5, 0), (0, 0)], []), (0, 8, [(0, 6), (4, 1), (4, 139), (2, 0)], []), (0, 2, [(5, 0), (5, 0), (0, 0)], []), (0, 0, [(0, 6), (4, 1), (4, 141), (0, 1), (0, 0), (0, 0)], []), (0, 2, [(5, 0), (5, 0), (0, 0)], []), (0, 4, [(0, 7), (4, 1), (4, 143), (4, 144), (0, (-1)), (0, 0)], []), (0, 2, [(5, 0), (5, 0), (0, 0)], []), (0, 2, [(5, 0), (5, 0), (0, 0)], []), (0, 3, [(0, 7), (4, 1), (4, 146), (0, (-1)), (0, 0), (0, 0)], []), (0, 2, [(5, 0), (5, 0), (0, 0)], []), (0, 8, [(0, 7), (4, 1), (4, 148), (2, 0)], []), (0, 2, [(5, 0), (5, 0), (0, 0)], []), (0, 0, [(0, 7), (4, 1), (4, 150), (0, 1), (0, 0), (0, 0)], []), (0, 2, [(5, 0), (5, 0), (0, 0)], []), (0, 11, [(0, 0), (6, 0), (4, 152), (4, 153), (4, 154), (4, 155), (0, 0), (4, 156), (4, 157), (4, 158), (4, 159), (4, 160), (4, 161), (4, 162), (4, 163), (4, 164), (4, 165), (4, 166), (4, 167), (4, 168), (4, 169), (4, 170), (4, 171), (4, 172), (4, 173), (4, 174), (4, 175), (4, 176), (4, 177), (4, 178), (4, 179), (4, 180), (4, 181), (4, 182), (4, 183), (4, 184), (0, 0), (0, (-1)), (0, 0), (0, (-1)), (2, 0), (2, 0), (2, 0), (0, 0), (0, 0), (4, 185), (4, 186), (0, 0)], []), (1, 16, [], []), (1, 3200, [], []), (2, 3200, [], []), (2, 3200, [], []), (1, 64, [], []), (1, 64, [], []), (1, 1280, [], []), (1, 1280, [], []), (1, 1280, [], []), (1, 64, [], []), (1, 64, [], []), (2, 256, [], []), (2, 64, [], []), (2, 64, [], []), (2, 64, [], []), (1, 64, [], []), (3, 64, [], []), (3, 64, [], []), (3, 64, [], []), (3, 64, [], []), (2, 32, [], []), (1, 8, [], [(7, (0, (-1))), (6, (0, (-1))), (5, (0, (-1))), (4, (0, (-1))), (3, (0, (-1))), (2, (0, (-1))), (1, (0, (-1))), (0, (0, (-1)))]), (1, 8, [], []), (1, 8, [], [(7, (0, (-1))), (6, (0, (-1))), (5, (0, (-1))), (4, (0, (-1))), (3, (0, (-1))), (2, (0, (-1))), (1, (0, (-1))), (0, (0, (-1)))]), (1, 8, [], []), (1, 512, [], []), (1, 8, [], []), (2, 8, [], []), (1, 8, [], [(7, (0, 1)), (6, (0, 1)), (5, (0, 1)), (4, (0, 1)), (3, (0, 1)), (2, (0, 1)), (1, (0, 1)), (0, (0, 1))]), (1, 8, [], []), (3, 8, [], []), (1, 256, [], []), (1, 256, [], []), (1, 4096, [], []), (2, 4096, [], []), (2, 1, [], [])]
def rz_f0 : rz_F := (0, [(0, (8, 0))], [], [], 0, 0)
def rz_f1 : rz_F := (33, [(4, (0, 1)), (3, (4, 187)), (2, (4, 151)), (1, (4, 0)), (0, (8, 0))], [], rz_H1, 188, 24894)
def rz_eqB : rz_B → rz_B → Bool
  | [], [] => true
  | a :: l, b :: m => decide (a.1 = b.1) && (decide (a.2 = b.2) && rz_eqB l m)
  | _, _ => false
def ry_bk1 : rz_B := [((-2147483648), 2147483647), ((-2147483648), 2147483647), ((-2147483648), 2147483647), ((-2147483648), 2147483647), ((-2147483648), 2147483647), ((-2147483648), 2147483647), ((-2147483648), 2147483647), ((-2147483648), 2147483647), (1, 8), (0, 31)]
def ry_gk1_0 : List rz_B := [[((-2147483648), 0), ((-2147483648), 2147483647), ((-2147483648), 2147483647), ((-2147483648), 2147483647), ((-2147483648), 2147483647), ((-2147483648), 2147483647), ((-2147483648), 2147483647), ((-2147483648), 2147483647), (1, 8), (0, 31)]]
set_option maxRecDepth 100000 in
set_option maxHeartbeats 4000000 in
theorem ry_hk1_0 : ry_gk1_0.all (rz_seg 19 rz_f0 rz_f1) = true := by decide +kernel
def ry_gk1_1 : List rz_B := [[(1, 1), ((-2147483648), 2147483647), ((-2147483648), 2147483647), ((-2147483648), 2147483647), ((-2147483648), 2147483647), ((-2147483648), 2147483647), ((-2147483648), 2147483647), ((-2147483648), 2147483647), (1, 8), (0, 31)]]
set_option maxRecDepth 100000 in
set_option maxHeartbeats 4000000 in
theorem ry_hk1_1 : ry_gk1_1.all (rz_seg 19 rz_f0 rz_f1) = true := by decide +kernel
def ry_gk1_2 : List rz_B := [[(2, 999), ((-2147483648), 2147483647), ((-2147483648), 2147483647), ((-2147483648), 2147483647), ((-2147483648), 2147483647), ((-2147483648), 2147483647), ((-2147483648), 2147483647), ((-2147483648), 2147483647), (1, 8), (0, 31)]]
set_option maxRecDepth 100000 in
set_option maxHeartbeats 4000000 in
theorem ry_hk1_2 : ry_gk1_2.all (rz_seg 19 rz_f0 rz_f1) = true := by decide +kernel
def ry_gk1_3 : List rz_B := [[(1000, 1000), ((-2147483648), 2147483647), ((-2147483648), 2147483647), ((-2147483648), 2147483647), ((-2147483648), 2147483647), ((-2147483648), 2147483647), ((-2147483648), 2147483647), ((-2147483648), 2147483647), (1, 8), (0, 31)]]
set_option maxRecDepth 100000 in
set_option maxHeartbeats 4000000 in
theorem ry_hk1_3 : ry_gk1_3.all (rz_seg 19 rz_f0 rz_f1) = true := by decide +kernel
def ry_gk1_4 : List rz_B := [[(1001, 2147483647), ((-2147483648), 2147483647), ((-2147483648), 2147483647), ((-2147483648), 2147483647), ((-2147483648), 2147483647), ((-2147483648), 2147483647), ((-2147483648), 2147483647), ((-2147483648), 2147483647), (1, 8), (0, 31)]]
set_option maxRecDepth 100000 in
set_option maxHeartbeats 4000000 in
theorem ry_hk1_4 : ry_gk1_4.all (rz_seg 19 rz_f0 rz_f1) = true := by decide +kernel
def ry_lk1 : List rz_B := ry_gk1_0 ++ (ry_gk1_1 ++ (ry_gk1_2 ++ (ry_gk1_3 ++ (ry_gk1_4))))
theorem ry_pk1 : ∀ B ∈ ry_lk1, rz_seg 19 rz_f0 rz_f1 B = true := List.forall_mem_append.mpr ⟨List.all_eq_true.mp ry_hk1_0, List.forall_mem_append.mpr ⟨List.all_eq_true.mp ry_hk1_1, List.forall_mem_append.mpr ⟨List.all_eq_true.mp ry_hk1_2, List.forall_mem_append.mpr ⟨List.all_eq_true.mp ry_hk1_3, List.all_eq_true.mp ry_hk1_4⟩⟩⟩⟩
set_option maxRecDepth 100000 in
set_option maxHeartbeats 4000000 in
theorem ry_sk1 : rz_all (fun B => ry_lk1.any (rz_eqB B)) [(0, 1000), (0, 1), (99, 0), (0, 2), (99, 0), (99, 0), (0, 1001), (99, 0), (99, 0)] ry_bk1 = true := by decide +kernel
def ry_bk0 : rz_B := [((-2147483648), 2147483647), ((-2147483648), 2147483647), ((-2147483648), 2147483647), ((-2147483648), 2147483647), ((-2147483648), 2147483647), ((-2147483648), 2147483647), ((-2147483648), 2147483647), ((-2147483648), 2147483647), (0, 0), (0, 31)]
def ry_gk0_0 : List rz_B := [[((-2147483648), 2147483647), ((-2147483648), 2147483647), ((-2147483648), 2147483647), ((-2147483648), 2147483647), ((-2147483648), 2147483647), ((-2147483648), 2147483647), ((-2147483648), 2147483647), ((-2147483648), 2147483647), (0, 0), (0, 31)]]
set_option maxRecDepth 100000 in
set_option maxHeartbeats 4000000 in
theorem ry_hk0_0 : ry_gk0_0.all (rz_seg 19 rz_f0 rz_f1) = true := by decide +kernel
def ry_lk0 : List rz_B := ry_gk0_0
theorem ry_pk0 : ∀ B ∈ ry_lk0, rz_seg 19 rz_f0 rz_f1 B = true := List.all_eq_true.mp ry_hk0_0
set_option maxRecDepth 100000 in
set_option maxHeartbeats 4000000 in
theorem ry_sk0 : rz_all (fun B => ry_lk0.any (rz_eqB B)) [(99, 0)] ry_bk0 = true := by decide +kernel
def ry_bke : rz_B := [((-2147483648), 2147483647), ((-2147483648), 2147483647), ((-2147483648), 2147483647), ((-2147483648), 2147483647), ((-2147483648), 2147483647), ((-2147483648), 2147483647), ((-2147483648), 2147483647), ((-2147483648), 2147483647), (0, 7), (0, 31)]
def ry_gke_0 : List rz_B := [[((-2147483648), 2147483647), ((-2147483648), 2147483647), ((-2147483648), 2147483647), ((-2147483648), 2147483647), ((-2147483648), 2147483647), ((-2147483648), 2147483647), ((-2147483648), 2147483647), ((-2147483648), 2147483647), (0, 0), (0, 31)], [((-2147483648), 2147483647), ((-2147483648), 2147483647), ((-2147483648), 2147483647), ((-2147483648), 2147483647), ((-2147483648), 2147483647), ((-2147483648), 2147483647), ((-2147483648), 2147483647), ((-2147483648), 2147483647), (1, 1), (0, 31)], [((-2147483648), 2147483647), ((-2147483648), 2147483647), ((-2147483648), 2147483647), ((-2147483648), 2147483647), ((-2147483648), 2147483647), ((-2147483648), 2147483647), ((-2147483648), 2147483647), ((-2147483648), 2147483647), (2, 2), (0, 31)], [((-2147483648), 2147483647), ((-2147483648), 2147483647), ((-2147483648), 2147483647), ((-2147483648), 2147483647), ((-2147483648), 2147483647), ((-2147483648), 2147483647), ((-2147483648), 2147483647), ((-2147483648), 2147483647), (3, 3), (0, 31)], [((-2147483648), 2147483647), ((-2147483648), 2147483647), ((-2147483648), 2147483647), ((-2147483648), 2147483647), ((-2147483648), 2147483647), ((-2147483648), 2147483647), ((-2147483648), 2147483647), ((-2147483648), 2147483647), (4, 4), (0, 31)], [((-2147483648), 2147483647), ((-2147483648), 2147483647), ((-2147483648), 2147483647), ((-2147483648), 2147483647), ((-2147483648), 2147483647), ((-2147483648), 2147483647), ((-2147483648), 2147483647), ((-2147483648), 2147483647), (5, 5), (0, 31)], [((-2147483648), 2147483647), ((-2147483648), 2147483647), ((-2147483648), 2147483647), ((-2147483648), 2147483647), ((-2147483648), 2147483647), ((-2147483648), 2147483647), ((-2147483648), 2147483647), ((-2147483648), 2147483647), (6, 6), (0, 31)], [((-2147483648), 2147483647), ((-2147483648), 2147483647), ((-2147483648), 2147483647), ((-2147483648), 2147483647), ((-2147483648), 2147483647), ((-2147483648), 2147483647), ((-2147483648), 2147483647), ((-2147483648), 2147483647), (7, 7), (0, 31)]]
set_option maxRecDepth 100000 in
set_option maxHeartbeats 4000000 in
theorem ry_hke_0 : ry_gke_0.all (rz_end rz_f1) = true := by decide +kernel
def ry_lke : List rz_B := ry_gke_0
theorem ry_pke : ∀ B ∈ ry_lke, rz_end rz_f1 B = true := List.all_eq_true.mp ry_hke_0
set_option maxRecDepth 100000 in
set_option maxHeartbeats 4000000 in
theorem ry_ske : rz_all (fun B => ry_lke.any (rz_eqB B)) [(8, 1), (99, 0), (8, 2), (99, 0), (8, 3), (99, 0), (8, 4), (99, 0), (8, 5), (99, 0), (8, 6), (99, 0), (8, 7), (99, 0), (99, 0)] ry_bke = true := by decide +kernel
end
section
/-! The runs of the calls (0,). -/
def ry_bc0 : rz_B := [((-2147483648), 2147483647), ((-2147483648), 2147483647), ((-2147483648), 2147483647), ((-2147483648), 2147483647), ((-2147483648), 2147483647), ((-2147483648), 2147483647), ((-2147483648), 2147483647), ((-2147483648), 2147483647), (8, 8), (0, 0)]
def ry_gc0_0 : List rz_B := [[((-2147483648), 2147483647), ((-2147483648), 2147483647), ((-2147483648), (-1)), ((-2147483648), 2147483647), ((-2147483648), 2147483647), ((-2147483648), 2147483647), ((-2147483648), 2147483647), ((-2147483648), 2147483647), (8, 8), (0, 0)], [((-2147483648), 2147483647), ((-2147483648), 2147483647), (0, 0), ((-2147483648), 2147483647), ((-2147483648), 2147483647), ((-2147483648), 2147483647), ((-2147483648), 2147483647), ((-2147483648), 2147483647), (8, 8), (0, 0)], [((-2147483648), 2147483647), ((-2147483648), 2147483647), (1, 1), ((-2147483648), 2147483647), ((-2147483648), 2147483647), ((-2147483648), 2147483647), ((-2147483648), 2147483647), ((-2147483648), 2147483647), (8, 8), (0, 0)]]
set_option maxRecDepth 100000 in
set_option maxHeartbeats 4000000 in
theorem ry_hc0_0 : ry_gc0_0.all (rz_end rz_f1) = true := by decide +kernel
def ry_gc0_1 : List rz_B := [[((-2147483648), 2147483647), ((-2147483648), 2147483647), (2, 2), ((-2147483648), 2147483647), ((-2147483648), 2147483647), ((-2147483648), 2147483647), ((-2147483648), 2147483647), ((-2147483648), 2147483647), (8, 8), (0, 0)], [((-2147483648), 2147483647), ((-2147483648), 2147483647), (3, 3), ((-2147483648), 2147483647), ((-2147483648), 2147483647), ((-2147483648), 2147483647), ((-2147483648), 2147483647), ((-2147483648), 2147483647), (8, 8), (0, 0)], [((-2147483648), 2147483647), ((-2147483648), 2147483647), (4, 4), ((-2147483648), 2147483647), ((-2147483648), 2147483647), ((-2147483648), 2147483647), ((-2147483648), 2147483647), ((-2147483648), 2147483647), (8, 8), (0, 0)]]
set_option maxRecDepth 100000 in
set_option maxHeartbeats 4000000 in
theorem ry_hc0_1 : ry_gc0_1.all (rz_end rz_f1) = true := by decide +kernel
def ry_gc0_2 : List rz_B := [[((-2147483648), 2147483647), ((-2147483648), 2147483647), (5, 5), ((-2147483648), 2147483647), ((-2147483648), 2147483647), ((-2147483648), 2147483647), ((-2147483648), 2147483647), ((-2147483648), 2147483647), (8, 8), (0, 0)], [((-2147483648), 2147483647), ((-2147483648), 2147483647), (6, 6), ((-2147483648), 2147483647), ((-2147483648), 2147483647), ((-2147483648), 2147483647), ((-2147483648), 2147483647), ((-2147483648), 2147483647), (8, 8), (0, 0)], [((-2147483648), 2147483647), ((-2147483648), 2147483647), (7, 7), ((-2147483648), 2147483647), ((-2147483648), 2147483647), ((-2147483648), 2147483647), ((-2147483648), 2147483647), ((-2147483648), 2147483647), (8, 8), (0, 0)]]
set_option maxRecDepth 100000 in
set_option maxHeartbeats 4000000 in
theorem ry_hc0_2 : ry_gc0_2.all (rz_end rz_f1) = true := by decide +kernel
def ry_gc0_3 : List rz_B := [[((-2147483648), 2147483647), ((-2147483648), 2147483647), (8, 8), ((-2147483648), 2147483647), ((-2147483648), 2147483647), ((-2147483648), 2147483647), ((-2147483648), 2147483647), ((-2147483648), 2147483647), (8, 8), (0, 0)], [((-2147483648), 2147483647), ((-2147483648), 2147483647), (9, 9), ((-2147483648), 2147483647), ((-2147483648), 2147483647), ((-2147483648), 2147483647), ((-2147483648), 2147483647), ((-2147483648), 2147483647), (8, 8), (0, 0)], [((-2147483648), 2147483647), ((-2147483648), 2147483647), (10, 10), ((-2147483648), 2147483647), ((-2147483648), 2147483647), ((-2147483648), 2147483647), ((-2147483648), 2147483647), ((-2147483648), 2147483647), (8, 8), (0, 0)]]
set_option maxRecDepth 100000 in
set_option maxHeartbeats 4000000 in
theorem ry_hc0_3 : ry_gc0_3.all (rz_end rz_f1) = true := by decide +kernel
def ry_gc0_4 : List rz_B := [[((-2147483648), 2147483647), ((-2147483648), 2147483647), (11, 11), ((-2147483648), 2147483647), ((-2147483648), 2147483647), ((-2147483648), 2147483647), ((-2147483648), 2147483647), ((-2147483648), 2147483647), (8, 8), (0, 0)], [((-2147483648), 2147483647), ((-2147483648), 2147483647), (12, 12), ((-2147483648), 2147483647), ((-2147483648), 2147483647), ((-2147483648), 2147483647), ((-2147483648), 2147483647), ((-2147483648), 2147483647), (8, 8), (0, 0)], [((-2147483648), 2147483647), ((-2147483648), 2147483647), (13, 13), ((-2147483648), 2147483647), ((-2147483648), 2147483647), ((-2147483648), 2147483647), ((-2147483648), 2147483647), ((-2147483648), 2147483647), (8, 8), (0, 0)]]
set_option maxRecDepth 100000 in
set_option maxHeartbeats 4000000 in
theorem ry_hc0_4 : ry_gc0_4.all (rz_end rz_f1) = true := by decide +kernel
def ry_gc0_5 : List rz_B := [[((-2147483648), 2147483647), ((-2147483648), 2147483647), (14, 14), ((-2147483648), 2147483647), ((-2147483648), 2147483647), ((-2147483648), 2147483647), ((-2147483648), 2147483647), ((-2147483648), 2147483647), (8, 8), (0, 0)], [((-2147483648), 2147483647), ((-2147483648), 2147483647), (15, 15), ((-2147483648), 2147483647), ((-2147483648), 2147483647), ((-2147483648), 2147483647), ((-2147483648), 2147483647), ((-2147483648), 2147483647), (8, 8), (0, 0)], [((-2147483648), 2147483647), ((-2147483648), 2147483647), (16, 16), ((-2147483648), 2147483647), ((-2147483648), 2147483647), ((-2147483648), 2147483647), ((-2147483648), 2147483647), ((-2147483648), 2147483647), (8, 8), (0, 0)], [((-2147483648), 2147483647), ((-2147483648), 2147483647), (17, 2147483647), ((-2147483648), 2147483647), ((-2147483648), 2147483647), ((-2147483648), 2147483647), ((-2147483648), 2147483647), ((-2147483648), 2147483647), (8, 8), (0, 0)]]
set_option maxRecDepth 100000 in
set_option maxHeartbeats 4000000 in
theorem ry_hc0_5 : ry_gc0_5.all (rz_end rz_f1) = true := by decide +kernel
def ry_lc0 : List rz_B := ry_gc0_0 ++ (ry_gc0_1 ++ (ry_gc0_2 ++ (ry_gc0_3 ++ (ry_gc0_4 ++ (ry_gc0_5)))))
theorem ry_pc0 : ∀ B ∈ ry_lc0, rz_end rz_f1 B = true := List.forall_mem_append.mpr ⟨List.all_eq_true.mp ry_hc0_0, List.forall_mem_append.mpr ⟨List.all_eq_true.mp ry_hc0_1, List.forall_mem_append.mpr ⟨List.all_eq_true.mp ry_hc0_2, List.forall_mem_append.mpr ⟨List.all_eq_true.mp ry_hc0_3, List.forall_mem_append.mpr ⟨List.all_eq_true.mp ry_hc0_4, List.all_eq_true.mp ry_hc0_5⟩⟩⟩⟩⟩
set_option maxRecDepth 100000 in
set_option maxHeartbeats 4000000 in
theorem ry_sc0 : rz_all (fun B => ry_lc0.any (rz_eqB B)) [(2, 0), (99, 0), (2, 1), (99, 0), (2, 16), (2, 8), (2, 4), (2, 2), (99, 0), (2, 3), (99, 0), (99, 0), (2, 6), (2, 5), (99, 0), (99, 0), (2, 7), (99, 0), (99, 0), (2, 12), (2, 10), (2, 9), (99, 0), (99, 0), (2, 11), (99, 0), (99, 0), (2, 14), (2, 13), (99, 0), (99, 0), (2, 15), (99, 0), (99, 0), (2, 17), (99, 0), (99, 0)] ry_bc0 = true := by decide +kernel
end
section
/-! The runs of the calls (1,). -/
def ry_bc1 : rz_B := [((-2147483648), 2147483647), ((-2147483648), 2147483647), ((-2147483648), 2147483647), ((-2147483648), 2147483647), ((-2147483648), 2147483647), ((-2147483648), 2147483647), ((-2147483648), 2147483647), ((-2147483648), 2147483647), (8, 8), (1, 1)]
def ry_gc1_0 : List rz_B := [[((-2147483648), 2147483647), ((-2147483648), 2147483647), ((-2147483648), (-1)), ((-2147483648), 2147483647), ((-2147483648), 2147483647), ((-2147483648), 2147483647), ((-2147483648), 2147483647), ((-2147483648), 2147483647), (8, 8), (1, 1)], [((-2147483648), 2147483647), ((-2147483648), 2147483647), (0, 0), ((-2147483648), 2147483647), ((-2147483648), 2147483647), ((-2147483648), 2147483647), ((-2147483648), 2147483647), ((-2147483648), 2147483647), (8, 8), (1, 1)], [((-2147483648), 2147483647), ((-2147483648), 2147483647), (1, 1), ((-2147483648), 2147483647), ((-2147483648), 2147483647), ((-2147483648), 2147483647), ((-2147483648), 2147483647), ((-2147483648), 2147483647), (8, 8), (1, 1)], [((-2147483648), 2147483647), ((-2147483648), 2147483647), (2, 2), ((-2147483648), 2147483647), ((-2147483648), 2147483647), ((-2147483648), 2147483647), ((-2147483648), 2147483647), ((-2147483648), 2147483647), (8, 8), (1, 1)], [((-2147483648), 2147483647), ((-2147483648), 2147483647), (3, 3), ((-2147483648), 2147483647), ((-2147483648), 2147483647), ((-2147483648), 2147483647), ((-2147483648), 2147483647), ((-2147483648), 2147483647), (8, 8), (1, 1)], [((-2147483648), 2147483647), ((-2147483648), 2147483647), (4, 4), ((-2147483648), 2147483647), ((-2147483648), 2147483647), ((-2147483648), 2147483647), ((-2147483648), 2147483647), ((-2147483648), 2147483647), (8, 8), (1, 1)], [((-2147483648), 2147483647), ((-2147483648), 2147483647), (5, 5), ((-2147483648), 2147483647), ((-2147483648), 2147483647), ((-2147483648), 2147483647), ((-2147483648), 2147483647), ((-2147483648), 2147483647), (8, 8), (1, 1)]]
set_option maxRecDepth 100000 in
set_option maxHeartbeats 4000000 in
theorem ry_hc1_0 : ry_gc1_0.all (rz_end rz_f1) = true := by decide +kernel
def ry_gc1_1 : List rz_B := [[((-2147483648), 2147483647), ((-2147483648), 2147483647), (6, 6), ((-2147483648), 2147483647), ((-2147483648), 2147483647), ((-2147483648), 2147483647), ((-2147483648), 2147483647), ((-2147483648), 2147483647), (8, 8), (1, 1)], [((-2147483648), 2147483647), ((-2147483648), 2147483647), (7, 7), ((-2147483648), 2147483647), ((-2147483648), 2147483647), ((-2147483648), 2147483647), ((-2147483648), 2147483647), ((-2147483648), 2147483647), (8, 8), (1, 1)], [((-2147483648), 2147483647), ((-2147483648), 2147483647), (8, 8), ((-2147483648), 2147483647), ((-2147483648), 2147483647), ((-2147483648), 2147483647), ((-2147483648), 2147483647), ((-2147483648), 2147483647), (8, 8), (1, 1)], [((-2147483648), 2147483647), ((-2147483648), 2147483647), (9, 9), ((-2147483648), 2147483647), ((-2147483648), 2147483647), ((-2147483648), 2147483647), ((-2147483648), 2147483647), ((-2147483648), 2147483647), (8, 8), (1, 1)], [((-2147483648), 2147483647), ((-2147483648), 2147483647), (10, 10), ((-2147483648), 2147483647), ((-2147483648), 2147483647), ((-2147483648), 2147483647), ((-2147483648), 2147483647), ((-2147483648), 2147483647), (8, 8), (1, 1)], [((-2147483648), 2147483647), ((-2147483648), 2147483647), (11, 11), ((-2147483648), 2147483647), ((-2147483648), 2147483647), ((-2147483648), 2147483647), ((-2147483648), 2147483647), ((-2147483648), 2147483647), (8, 8), (1, 1)]]
set_option maxRecDepth 100000 in
set_option maxHeartbeats 4000000 in
theorem ry_hc1_1 : ry_gc1_1.all (rz_end rz_f1) = true := by decide +kernel
def ry_gc1_2 : List rz_B := [[((-2147483648), 2147483647), ((-2147483648), 2147483647), (12, 12), ((-2147483648), 2147483647), ((-2147483648), 2147483647), ((-2147483648), 2147483647), ((-2147483648), 2147483647), ((-2147483648), 2147483647), (8, 8), (1, 1)], [((-2147483648), 2147483647), ((-2147483648), 2147483647), (13, 13), ((-2147483648), 2147483647), ((-2147483648), 2147483647), ((-2147483648), 2147483647), ((-2147483648), 2147483647), ((-2147483648), 2147483647), (8, 8), (1, 1)], [((-2147483648), 2147483647), ((-2147483648), 2147483647), (14, 14), ((-2147483648), 2147483647), ((-2147483648), 2147483647), ((-2147483648), 2147483647), ((-2147483648), 2147483647), ((-2147483648), 2147483647), (8, 8), (1, 1)], [((-2147483648), 2147483647), ((-2147483648), 2147483647), (15, 15), ((-2147483648), 2147483647), ((-2147483648), 2147483647), ((-2147483648), 2147483647), ((-2147483648), 2147483647), ((-2147483648), 2147483647), (8, 8), (1, 1)], [((-2147483648), 2147483647), ((-2147483648), 2147483647), (16, 16), ((-2147483648), 2147483647), ((-2147483648), 2147483647), ((-2147483648), 2147483647), ((-2147483648), 2147483647), ((-2147483648), 2147483647), (8, 8), (1, 1)], [((-2147483648), 2147483647), ((-2147483648), 2147483647), (17, 2147483647), ((-2147483648), 2147483647), ((-2147483648), 2147483647), ((-2147483648), 2147483647), ((-2147483648), 2147483647), ((-2147483648), 2147483647), (8, 8), (1, 1)]]
set_option maxRecDepth 100000 in
set_option maxHeartbeats 4000000 in
theorem ry_hc1_2 : ry_gc1_2.all (rz_end rz_f1) = true := by decide +kernel
def ry_lc1 : List rz_B := ry_gc1_0 ++ (ry_gc1_1 ++ (ry_gc1_2))
theorem ry_pc1 : ∀ B ∈ ry_lc1, rz_end rz_f1 B = true := List.forall_mem_append.mpr ⟨List.all_eq_true.mp ry_hc1_0, List.forall_mem_append.mpr ⟨List.all_eq_true.mp ry_hc1_1, List.all_eq_true.mp ry_hc1_2⟩⟩
set_option maxRecDepth 100000 in
set_option maxHeartbeats 4000000 in
theorem ry_sc1 : rz_all (fun B => ry_lc1.any (rz_eqB B)) [(2, 0), (99, 0), (2, 1), (99, 0), (2, 16), (2, 8), (2, 4), (2, 2), (99, 0), (2, 3), (99, 0), (99, 0), (2, 6), (2, 5), (99, 0), (99, 0), (2, 7), (99, 0), (99, 0), (2, 12), (2, 10), (2, 9), (99, 0), (99, 0), (2, 11), (99, 0), (99, 0), (2, 14), (2, 13), (99, 0), (99, 0), (2, 15), (99, 0), (99, 0), (2, 17), (99, 0), (99, 0)] ry_bc1 = true := by decide +kernel
end
section
/-! The runs of the calls (2,). -/
def ry_bc2 : rz_B := [((-2147483648), 2147483647), ((-2147483648), 2147483647), ((-2147483648), 2147483647), ((-2147483648), 2147483647), ((-2147483648), 2147483647), ((-2147483648), 2147483647), ((-2147483648), 2147483647), ((-2147483648), 2147483647), (8, 8), (2, 2)]
def ry_gc2_0 : List rz_B := [[((-2147483648), 2147483647), ((-2147483648), 2147483647), ((-2147483648), (-1)), ((-2147483648), 2147483647), ((-2147483648), 2147483647), ((-2147483648), 2147483647), ((-2147483648), 2147483647), ((-2147483648), 2147483647), (8, 8), (2, 2)], [((-2147483648), 2147483647), ((-2147483648), 2147483647), (0, 0), ((-2147483648), 2147483647), ((-2147483648), 2147483647), ((-2147483648), 2147483647), ((-2147483648), 2147483647), ((-2147483648), 2147483647), (8, 8), (2, 2)]]
set_option maxRecDepth 100000 in
set_option maxHeartbeats 4000000 in
theorem ry_hc2_0 : ry_gc2_0.all (rz_end rz_f1) = true := by decide +kernel
def ry_gc2_1 : List rz_B := [[((-2147483648), 2147483647), ((-2147483648), 2147483647), (1, 1), ((-2147483648), 2147483647), ((-2147483648), 2147483647), ((-2147483648), 2147483647), ((-2147483648), 2147483647), ((-2147483648), 2147483647), (8, 8), (2, 2)]]
set_option maxRecDepth 100000 in
set_option maxHeartbeats 4000000 in
theorem ry_hc2_1 : ry_gc2_1.all (rz_end rz_f1) = true := by decide +kernel
def ry_gc2_2 : List rz_B := [[((-2147483648), 2147483647), ((-2147483648), 2147483647), (2, 2), ((-2147483648), 2147483647), ((-2147483648), 2147483647), ((-2147483648), 2147483647), ((-2147483648), 2147483647), ((-2147483648), 2147483647), (8, 8), (2, 2)]]
set_option maxRecDepth 100000 in
set_option maxHeartbeats 4000000 in
theorem ry_hc2_2 : ry_gc2_2.all (rz_end rz_f1) = true := by decide +kernel
def ry_gc2_3 : List rz_B := [[((-2147483648), 2147483647), ((-2147483648), 2147483647), (3, 3), ((-2147483648), 2147483647), ((-2147483648), 2147483647), ((-2147483648), 2147483647), ((-2147483648), 2147483647), ((-2147483648), 2147483647), (8, 8), (2, 2)]]
set_option maxRecDepth 100000 in
set_option maxHeartbeats 4000000 in
theorem ry_hc2_3 : ry_gc2_3.all (rz_end rz_f1) = true := by decide +kernel
def ry_gc2_4 : List rz_B := [[((-2147483648), 2147483647), ((-2147483648), 2147483647), (4, 4), ((-2147483648), 2147483647), ((-2147483648), 2147483647), ((-2147483648), 2147483647), ((-2147483648), 2147483647), ((-2147483648), 2147483647), (8, 8), (2, 2)]]
set_option maxRecDepth 100000 in
set_option maxHeartbeats 4000000 in
theorem ry_hc2_4 : ry_gc2_4.all (rz_end rz_f1) = true := by decide +kernel
def ry_gc2_5 : List rz_B := [[((-2147483648), 2147483647), ((-2147483648), 2147483647), (5, 5), ((-2147483648), 2147483647), ((-2147483648), 2147483647), ((-2147483648), 2147483647), ((-2147483648), 2147483647), ((-2147483648), 2147483647), (8, 8), (2, 2)]]
set_option maxRecDepth 100000 in
set_option maxHeartbeats 4000000 in
theorem ry_hc2_5 : ry_gc2_5.all (rz_end rz_f1) = true := by decide +kernel
def ry_gc2_6 : List rz_B := [[((-2147483648), 2147483647), ((-2147483648), 2147483647), (6, 6), ((-2147483648), 2147483647), ((-2147483648), 2147483647), ((-2147483648), 2147483647), ((-2147483648), 2147483647), ((-2147483648), 2147483647), (8, 8), (2, 2)]]
set_option maxRecDepth 100000 in
set_option maxHeartbeats 4000000 in
theorem ry_hc2_6 : ry_gc2_6.all (rz_end rz_f1) = true := by decide +kernel
def ry_gc2_7 : List rz_B := [[((-2147483648), 2147483647), ((-2147483648), 2147483647), (7, 7), ((-2147483648), 2147483647), ((-2147483648), 2147483647), ((-2147483648), 2147483647), ((-2147483648), 2147483647), ((-2147483648), 2147483647), (8, 8), (2, 2)]]
set_option maxRecDepth 100000 in
set_option maxHeartbeats 4000000 in
theorem ry_hc2_7 : ry_gc2_7.all (rz_end rz_f1) = true := by decide +kernel
def ry_gc2_8 : List rz_B := [[((-2147483648), 2147483647), ((-2147483648), 2147483647), (8, 8), ((-2147483648), 2147483647), ((-2147483648), 2147483647), ((-2147483648), 2147483647), ((-2147483648), 2147483647), ((-2147483648), 2147483647), (8, 8), (2, 2)]]
set_option maxRecDepth 100000 in
set_option maxHeartbeats 4000000 in
theorem ry_hc2_8 : ry_gc2_8.all (rz_end rz_f1) = true := by decide +kernel
def ry_gc2_9 : List rz_B := [[((-2147483648), 2147483647), ((-2147483648), 2147483647), (9, 9), ((-2147483648), 2147483647), ((-2147483648), 2147483647), ((-2147483648), 2147483647), ((-2147483648), 2147483647), ((-2147483648), 2147483647), (8, 8), (2, 2)]]
set_option maxRecDepth 100000 in
set_option maxHeartbeats 4000000 in
theorem ry_hc2_9 : ry_gc2_9.all (rz_end rz_f1) = true := by decide +kernel
def ry_gc2_10 : List rz_B := [[((-2147483648), 2147483647), ((-2147483648), 2147483647), (10, 10), ((-2147483648), 2147483647), ((-2147483648), 2147483647), ((-2147483648), 2147483647), ((-2147483648), 2147483647), ((-2147483648), 2147483647), (8, 8), (2, 2)]]
set_option maxRecDepth 100000 in
set_option maxHeartbeats 4000000 in
theorem ry_hc2_10 : ry_gc2_10.all (rz_end rz_f1) = true := by decide +kernel
def ry_gc2_11 : List rz_B := [[((-2147483648), 2147483647), ((-2147483648), 2147483647), (11, 11), ((-2147483648), 2147483647), ((-2147483648), 2147483647), ((-2147483648), 2147483647), ((-2147483648), 2147483647), ((-2147483648), 2147483647), (8, 8), (2, 2)]]
set_option maxRecDepth 100000 in
set_option maxHeartbeats 4000000 in
theorem ry_hc2_11 : ry_gc2_11.all (rz_end rz_f1) = true := by decide +kernel
def ry_gc2_12 : List rz_B := [[((-2147483648), 2147483647), ((-2147483648), 2147483647), (12, 12), ((-2147483648), 2147483647), ((-2147483648), 2147483647), ((-2147483648), 2147483647), ((-2147483648), 2147483647), ((-2147483648), 2147483647), (8, 8), (2, 2)]]
set_option maxRecDepth 100000 in
set_option maxHeartbeats 4000000 in
theorem ry_hc2_12 : ry_gc2_12.all (rz_end rz_f1) = true := by decide +kernel
def ry_gc2_13 : List rz_B := [[((-2147483648), 2147483647), ((-2147483648), 2147483647), (13, 13), ((-2147483648), 2147483647), ((-2147483648), 2147483647), ((-2147483648), 2147483647), ((-2147483648), 2147483647), ((-2147483648), 2147483647), (8, 8), (2, 2)]]
set_option maxRecDepth 100000 in
set_option maxHeartbeats 4000000 in
theorem ry_hc2_13 : ry_gc2_13.all (rz_end rz_f1) = true := by decide +kernel
def ry_gc2_14 : List rz_B := [[((-2147483648), 2147483647), ((-2147483648), 2147483647), (14, 14), ((-2147483648), 2147483647), ((-2147483648), 2147483647), ((-2147483648), 2147483647), ((-2147483648), 2147483647), ((-2147483648), 2147483647), (8, 8), (2, 2)]]
set_option maxRecDepth 100000 in
set_option maxHeartbeats 4000000 in
theorem ry_hc2_14 : ry_gc2_14.all (rz_end rz_f1) = true := by decide +kernel
def ry_gc2_15 : List rz_B := [[((-2147483648), 2147483647), ((-2147483648), 2147483647), (15, 15), ((-2147483648), 2147483647), ((-2147483648), 2147483647), ((-2147483648), 2147483647), ((-2147483648), 2147483647), ((-2147483648), 2147483647), (8, 8), (2, 2)], [((-2147483648), 2147483647), ((-2147483648), 2147483647), (16, 16), ((-2147483648), 2147483647), ((-2147483648), 2147483647), ((-2147483648), 2147483647), ((-2147483648), 2147483647), ((-2147483648), 2147483647), (8, 8), (2, 2)], [((-2147483648), 2147483647), ((-2147483648), 2147483647), (17, 2147483647), ((-2147483648), 2147483647), ((-2147483648), 2147483647), ((-2147483648), 2147483647), ((-2147483648), 2147483647), ((-2147483648), 2147483647), (8, 8), (2, 2)]]
set_option maxRecDepth 100000 in
set_option maxHeartbeats 4000000 in
theorem ry_hc2_15 : ry_gc2_15.all (rz_end rz_f1) = true := by decide +kernel
def ry_lc2 : List rz_B := ry_gc2_0 ++ (ry_gc2_1 ++ (ry_gc2_2 ++ (ry_gc2_3 ++ (ry_gc2_4 ++ (ry_gc2_5 ++ (ry_gc2_6 ++ (ry_gc2_7 ++ (ry_gc2_8 ++ (ry_gc2_9 ++ (ry_gc2_10 ++ (ry_gc2_11 ++ (ry_gc2_12 ++ (ry_gc2_13 ++ (ry_gc2_14 ++ (ry_gc2_15)))))))))))))))
theorem ry_pc2 : ∀ B ∈ ry_lc2, rz_end rz_f1 B = true := List.forall_mem_append.mpr ⟨List.all_eq_true.mp ry_hc2_0, List.forall_mem_append.mpr ⟨List.all_eq_true.mp ry_hc2_1, List.forall_mem_append.mpr ⟨List.all_eq_true.mp ry_hc2_2, List.forall_mem_append.mpr ⟨List.all_eq_true.mp ry_hc2_3, List.forall_mem_append.mpr ⟨List.all_eq_true.mp ry_hc2_4, List.forall_mem_append.mpr ⟨List.all_eq_true.mp ry_hc2_5, List.forall_mem_append.mpr ⟨List.all_eq_true.mp ry_hc2_6, List.forall_mem_append.mpr ⟨List.all_eq_true.mp ry_hc2_7, List.forall_mem_append.mpr ⟨List.all_eq_true.mp ry_hc2_8, List.forall_mem_append.mpr ⟨List.all_eq_true.mp ry_hc2_9, List.forall_mem_append.mpr ⟨List.all_eq_true.mp ry_hc2_10, List.forall_mem_append.mpr ⟨List.all_eq_true.mp ry_hc2_11, List.forall_mem_append.mpr ⟨List.all_eq_true.mp ry_hc2_12, List.forall_mem_append.mpr ⟨List.all_eq_true.mp ry_hc2_13, List.forall_mem_append.mpr ⟨List.all_eq_true.mp ry_hc2_14, List.all_eq_true.mp ry_hc2_15⟩⟩⟩⟩⟩⟩⟩⟩⟩⟩⟩⟩⟩⟩⟩
set_option maxRecDepth 100000 in
set_option maxHeartbeats 4000000 in
theorem ry_sc2 : rz_all (fun B => ry_lc2.any (rz_eqB B)) [(2, 0), (99, 0), (2, 1), (99, 0), (2, 16), (2, 8), (2, 4), (2, 2), (99, 0), (2, 3), (99, 0), (99, 0), (2, 6), (2, 5), (99, 0), (99, 0), (2, 7), (99, 0), (99, 0), (2, 12), (2, 10), (2, 9), (99, 0), (99, 0), (2, 11), (99, 0), (99, 0), (2, 14), (2, 13), (99, 0), (99, 0), (2, 15), (99, 0), (99, 0), (2, 17), (99, 0), (99, 0)] ry_bc2 = true := by decide +kernel
end
section
/-! The runs of the calls (3, 4, 5, 6, 7). -/
def ry_bc3 : rz_B := [((-2147483648), 2147483647), ((-2147483648), 2147483647), ((-2147483648), 2147483647), ((-2147483648), 2147483647), ((-2147483648), 2147483647), ((-2147483648), 2147483647), ((-2147483648), 2147483647), ((-2147483648), 2147483647), (8, 8), (3, 3)]
def ry_gc3_0 : List rz_B := [[((-2147483648), 2147483647), ((-2147483648), 2147483647), ((-2147483648), (-1)), ((-2147483648), 2147483647), ((-2147483648), 2147483647), ((-2147483648), 2147483647), ((-2147483648), 2147483647), ((-2147483648), 2147483647), (8, 8), (3, 3)], [((-2147483648), 2147483647), ((-2147483648), 2147483647), (0, 0), ((-2147483648), 2147483647), ((-2147483648), 2147483647), ((-2147483648), 2147483647), ((-2147483648), 2147483647), ((-2147483648), 2147483647), (8, 8), (3, 3)], [((-2147483648), 2147483647), ((-2147483648), 2147483647), (1, 2147483647), ((-2147483648), 2147483647), ((-2147483648), 2147483647), ((-2147483648), 2147483647), ((-2147483648), 2147483647), ((-2147483648), 2147483647), (8, 8), (3, 3)]]
set_option maxRecDepth 100000 in
set_option maxHeartbeats 4000000 in
theorem ry_hc3_0 : ry_gc3_0.all (rz_end rz_f1) = true := by decide +kernel
def ry_lc3 : List rz_B := ry_gc3_0
theorem ry_pc3 : ∀ B ∈ ry_lc3, rz_end rz_f1 B = true := List.all_eq_true.mp ry_hc3_0
set_option maxRecDepth 100000 in
set_option maxHeartbeats 4000000 in
theorem ry_sc3 : rz_all (fun B => ry_lc3.any (rz_eqB B)) [(2, 0), (99, 0), (2, 1), (99, 0), (99, 0)] ry_bc3 = true := by decide +kernel
def ry_bc4 : rz_B := [((-2147483648), 2147483647), ((-2147483648), 2147483647), ((-2147483648), 2147483647), ((-2147483648), 2147483647), ((-2147483648), 2147483647), ((-2147483648), 2147483647), ((-2147483648), 2147483647), ((-2147483648), 2147483647), (8, 8), (4, 4)]
def ry_gc4_0 : List rz_B := [[((-2147483648), 2147483647), ((-2147483648), 2147483647), ((-2147483648), 0), ((-2147483648), 2147483647), ((-2147483648), 2147483647), ((-2147483648), 2147483647), ((-2147483648), 2147483647), ((-2147483648), 2147483647), (8, 8), (4, 4)], [((-2147483648), 2147483647), ((-2147483648), 2147483647), (1, 19999), ((-2147483648), 2147483647), ((-2147483648), 2147483647), ((-2147483648), 2147483647), ((-2147483648), 2147483647), ((-2147483648), 2147483647), (8, 8), (4, 4)], [((-2147483648), 2147483647), ((-2147483648), 2147483647), (20000, 20000), ((-2147483648), 2147483647), ((-2147483648), 2147483647), ((-2147483648), 2147483647), ((-2147483648), 2147483647), ((-2147483648), 2147483647), (8, 8), (4, 4)], [((-2147483648), 2147483647), ((-2147483648), 2147483647), (20001, 2147483647), ((-2147483648), 2147483647), ((-2147483648), 2147483647), ((-2147483648), 2147483647), ((-2147483648), 2147483647), ((-2147483648), 2147483647), (8, 8), (4, 4)]]
set_option maxRecDepth 100000 in
set_option maxHeartbeats 4000000 in
theorem ry_hc4_0 : ry_gc4_0.all (rz_end rz_f1) = true := by decide +kernel
def ry_lc4 : List rz_B := ry_gc4_0
theorem ry_pc4 : ∀ B ∈ ry_lc4, rz_end rz_f1 B = true := List.all_eq_true.mp ry_hc4_0
set_option maxRecDepth 100000 in
set_option maxHeartbeats 4000000 in
theorem ry_sc4 : rz_all (fun B => ry_lc4.any (rz_eqB B)) [(2, 1), (99, 0), (2, 20000), (99, 0), (2, 20001), (99, 0), (99, 0)] ry_bc4 = true := by decide +kernel
def ry_bc5 : rz_B := [((-2147483648), 2147483647), ((-2147483648), 2147483647), ((-2147483648), 2147483647), ((-2147483648), 2147483647), ((-2147483648), 2147483647), ((-2147483648), 2147483647), ((-2147483648), 2147483647), ((-2147483648), 2147483647), (8, 8), (5, 5)]
def ry_gc5_0 : List rz_B := [[((-2147483648), 2147483647), ((-2147483648), 2147483647), ((-2147483648), 0), ((-2147483648), 2147483647), ((-2147483648), 2147483647), ((-2147483648), 2147483647), ((-2147483648), 2147483647), ((-2147483648), 2147483647), (8, 8), (5, 5)], [((-2147483648), 2147483647), ((-2147483648), 2147483647), (1, 999999), ((-2147483648), 2147483647), ((-2147483648), 2147483647), ((-2147483648), 2147483647), ((-2147483648), 2147483647), ((-2147483648), 2147483647), (8, 8), (5, 5)], [((-2147483648), 2147483647), ((-2147483648), 2147483647), (1000000, 1000000), ((-2147483648), 2147483647), ((-2147483648), 2147483647), ((-2147483648), 2147483647), ((-2147483648), 2147483647), ((-2147483648), 2147483647), (8, 8), (5, 5)], [((-2147483648), 2147483647), ((-2147483648), 2147483647), (1000001, 2147483647), ((-2147483648), 2147483647), ((-2147483648), 2147483647), ((-2147483648), 2147483647), ((-2147483648), 2147483647), ((-2147483648), 2147483647), (8, 8), (5, 5)]]
set_option maxRecDepth 100000 in
set_option maxHeartbeats 4000000 in
theorem ry_hc5_0 : ry_gc5_0.all (rz_end rz_f1) = true := by decide +kernel
def ry_lc5 : List rz_B := ry_gc5_0
theorem ry_pc5 : ∀ B ∈ ry_lc5, rz_end rz_f1 B = true := List.all_eq_true.mp ry_hc5_0
set_option maxRecDepth 100000 in
set_option maxHeartbeats 4000000 in
theorem ry_sc5 : rz_all (fun B => ry_lc5.any (rz_eqB B)) [(2, 1), (99, 0), (2, 1000000), (99, 0), (2, 1000001), (99, 0), (99, 0)] ry_bc5 = true := by decide +kernel
def ry_bc6 : rz_B := [((-2147483648), 2147483647), ((-2147483648), 2147483647), ((-2147483648), 2147483647), ((-2147483648), 2147483647), ((-2147483648), 2147483647), ((-2147483648), 2147483647), ((-2147483648), 2147483647), ((-2147483648), 2147483647), (8, 8), (6, 6)]
def ry_gc6_0 : List rz_B := [[((-2147483648), 2147483647), ((-2147483648), 2147483647), ((-2147483648), (-1)), ((-2147483648), 2147483647), ((-2147483648), 2147483647), ((-2147483648), 2147483647), ((-2147483648), 2147483647), ((-2147483648), 2147483647), (8, 8), (6, 6)], [((-2147483648), 2147483647), ((-2147483648), 2147483647), (0, 0), ((-2147483648), 2147483647), ((-2147483648), 2147483647), ((-2147483648), 2147483647), ((-2147483648), 2147483647), ((-2147483648), 2147483647), (8, 8), (6, 6)], [((-2147483648), 2147483647), ((-2147483648), 2147483647), (1, 2147483647), ((-2147483648), 2147483647), ((-2147483648), 2147483647), ((-2147483648), 2147483647), ((-2147483648), 2147483647), ((-2147483648), 2147483647), (8, 8), (6, 6)]]
set_option maxRecDepth 100000 in
set_option maxHeartbeats 4000000 in
theorem ry_hc6_0 : ry_gc6_0.all (rz_end rz_f1) = true := by decide +kernel
def ry_lc6 : List rz_B := ry_gc6_0
theorem ry_pc6 : ∀ B ∈ ry_lc6, rz_end rz_f1 B = true := List.all_eq_true.mp ry_hc6_0
set_option maxRecDepth 100000 in
set_option maxHeartbeats 4000000 in
theorem ry_sc6 : rz_all (fun B => ry_lc6.any (rz_eqB B)) [(2, 0), (99, 0), (2, 1), (99, 0), (99, 0)] ry_bc6 = true := by decide +kernel
def ry_bc7 : rz_B := [((-2147483648), 2147483647), ((-2147483648), 2147483647), ((-2147483648), 2147483647), ((-2147483648), 2147483647), ((-2147483648), 2147483647), ((-2147483648), 2147483647), ((-2147483648), 2147483647), ((-2147483648), 2147483647), (8, 8), (7, 7)]
def ry_gc7_0 : List rz_B := [[((-2147483648), 2147483647), ((-2147483648), 2147483647), ((-2147483648), (-1)), ((-2147483648), 2147483647), ((-2147483648), 2147483647), ((-2147483648), 2147483647), ((-2147483648), 2147483647), ((-2147483648), 2147483647), (8, 8), (7, 7)], [((-2147483648), 2147483647), ((-2147483648), 2147483647), (0, 0), ((-2147483648), (-1)), ((-2147483648), 2147483647), ((-2147483648), 2147483647), ((-2147483648), 2147483647), ((-2147483648), 2147483647), (8, 8), (7, 7)], [((-2147483648), 2147483647), ((-2147483648), 2147483647), (0, 0), (0, 999999), ((-2147483648), 2147483647), ((-2147483648), 2147483647), ((-2147483648), 2147483647), ((-2147483648), 2147483647), (8, 8), (7, 7)], [((-2147483648), 2147483647), ((-2147483648), 2147483647), (0, 0), (1000000, 1000000), ((-2147483648), 2147483647), ((-2147483648), 2147483647), ((-2147483648), 2147483647), ((-2147483648), 2147483647), (8, 8), (7, 7)], [((-2147483648), 2147483647), ((-2147483648), 2147483647), (0, 0), (1000001, 2147483647), ((-2147483648), 2147483647), ((-2147483648), 2147483647), ((-2147483648), 2147483647), ((-2147483648), 2147483647), (8, 8), (7, 7)], [((-2147483648), 2147483647), ((-2147483648), 2147483647), (1, 7), ((-2147483648), (-1)), ((-2147483648), 2147483647), ((-2147483648), 2147483647), ((-2147483648), 2147483647), ((-2147483648), 2147483647), (8, 8), (7, 7)]]
set_option maxRecDepth 100000 in
set_option maxHeartbeats 4000000 in
theorem ry_hc7_0 : ry_gc7_0.all (rz_end rz_f1) = true := by decide +kernel
def ry_gc7_1 : List rz_B := [[((-2147483648), 2147483647), ((-2147483648), 2147483647), (1, 1), (0, 999999), ((-2147483648), 2147483647), ((-2147483648), 2147483647), ((-2147483648), 2147483647), ((-2147483648), 2147483647), (8, 8), (7, 7)], [((-2147483648), 2147483647), ((-2147483648), 2147483647), (2, 2), (0, 999999), ((-2147483648), 2147483647), ((-2147483648), 2147483647), ((-2147483648), 2147483647), ((-2147483648), 2147483647), (8, 8), (7, 7)], [((-2147483648), 2147483647), ((-2147483648), 2147483647), (3, 3), (0, 999999), ((-2147483648), 2147483647), ((-2147483648), 2147483647), ((-2147483648), 2147483647), ((-2147483648), 2147483647), (8, 8), (7, 7)], [((-2147483648), 2147483647), ((-2147483648), 2147483647), (4, 4), (0, 999999), ((-2147483648), 2147483647), ((-2147483648), 2147483647), ((-2147483648), 2147483647), ((-2147483648), 2147483647), (8, 8), (7, 7)]]
set_option maxRecDepth 100000 in
set_option maxHeartbeats 4000000 in
theorem ry_hc7_1 : ry_gc7_1.all (rz_end rz_f1) = true := by decide +kernel
def ry_gc7_2 : List rz_B := [[((-2147483648), 2147483647), ((-2147483648), 2147483647), (5, 5), (0, 999999), ((-2147483648), 2147483647), ((-2147483648), 2147483647), ((-2147483648), 2147483647), ((-2147483648), 2147483647), (8, 8), (7, 7)], [((-2147483648), 2147483647), ((-2147483648), 2147483647), (6, 6), (0, 999999), ((-2147483648), 2147483647), ((-2147483648), 2147483647), ((-2147483648), 2147483647), ((-2147483648), 2147483647), (8, 8), (7, 7)], [((-2147483648), 2147483647), ((-2147483648), 2147483647), (7, 7), (0, 999999), ((-2147483648), 2147483647), ((-2147483648), 2147483647), ((-2147483648), 2147483647), ((-2147483648), 2147483647), (8, 8), (7, 7)], [((-2147483648), 2147483647), ((-2147483648), 2147483647), (1, 1), (1000000, 1000000), ((-2147483648), 2147483647), ((-2147483648), 2147483647), ((-2147483648), 2147483647), ((-2147483648), 2147483647), (8, 8), (7, 7)]]
set_option maxRecDepth 100000 in
set_option maxHeartbeats 4000000 in
theorem ry_hc7_2 : ry_gc7_2.all (rz_end rz_f1) = true := by decide +kernel
def ry_gc7_3 : List rz_B := [[((-2147483648), 2147483647), ((-2147483648), 2147483647), (2, 2), (1000000, 1000000), ((-2147483648), 2147483647), ((-2147483648), 2147483647), ((-2147483648), 2147483647), ((-2147483648), 2147483647), (8, 8), (7, 7)], [((-2147483648), 2147483647), ((-2147483648), 2147483647), (3, 3), (1000000, 1000000), ((-2147483648), 2147483647), ((-2147483648), 2147483647), ((-2147483648), 2147483647), ((-2147483648), 2147483647), (8, 8), (7, 7)], [((-2147483648), 2147483647), ((-2147483648), 2147483647), (4, 4), (1000000, 1000000), ((-2147483648), 2147483647), ((-2147483648), 2147483647), ((-2147483648), 2147483647), ((-2147483648), 2147483647), (8, 8), (7, 7)], [((-2147483648), 2147483647), ((-2147483648), 2147483647), (5, 5), (1000000, 1000000), ((-2147483648), 2147483647), ((-2147483648), 2147483647), ((-2147483648), 2147483647), ((-2147483648), 2147483647), (8, 8), (7, 7)]]
set_option maxRecDepth 100000 in
set_option maxHeartbeats 4000000 in
theorem ry_hc7_3 : ry_gc7_3.all (rz_end rz_f1) = true := by decide +kernel
def ry_gc7_4 : List rz_B := [[((-2147483648), 2147483647), ((-2147483648), 2147483647), (6, 6), (1000000, 1000000), ((-2147483648), 2147483647), ((-2147483648), 2147483647), ((-2147483648), 2147483647), ((-2147483648), 2147483647), (8, 8), (7, 7)], [((-2147483648), 2147483647), ((-2147483648), 2147483647), (7, 7), (1000000, 1000000), ((-2147483648), 2147483647), ((-2147483648), 2147483647), ((-2147483648), 2147483647), ((-2147483648), 2147483647), (8, 8), (7, 7)], [((-2147483648), 2147483647), ((-2147483648), 2147483647), (1, 7), (1000001, 2147483647), ((-2147483648), 2147483647), ((-2147483648), 2147483647), ((-2147483648), 2147483647), ((-2147483648), 2147483647), (8, 8), (7, 7)], [((-2147483648), 2147483647), ((-2147483648), 2147483647), (8, 8), ((-2147483648), 2147483647), ((-2147483648), 2147483647), ((-2147483648), 2147483647), ((-2147483648), 2147483647), ((-2147483648), 2147483647), (8, 8), (7, 7)], [((-2147483648), 2147483647), ((-2147483648), 2147483647), (9, 2147483647), ((-2147483648), 2147483647), ((-2147483648), 2147483647), ((-2147483648), 2147483647), ((-2147483648), 2147483647), ((-2147483648), 2147483647), (8, 8), (7, 7)]]
set_option maxRecDepth 100000 in
set_option maxHeartbeats 4000000 in
theorem ry_hc7_4 : ry_gc7_4.all (rz_end rz_f1) = true := by decide +kernel
def ry_lc7 : List rz_B := ry_gc7_0 ++ (ry_gc7_1 ++ (ry_gc7_2 ++ (ry_gc7_3 ++ (ry_gc7_4))))
theorem ry_pc7 : ∀ B ∈ ry_lc7, rz_end rz_f1 B = true := List.forall_mem_append.mpr ⟨List.all_eq_true.mp ry_hc7_0, List.forall_mem_append.mpr ⟨List.all_eq_true.mp ry_hc7_1, List.forall_mem_append.mpr ⟨List.all_eq_true.mp ry_hc7_2, List.forall_mem_append.mpr ⟨List.all_eq_true.mp ry_hc7_3, List.all_eq_true.mp ry_hc7_4⟩⟩⟩⟩
set_option maxRecDepth 100000 in
set_option maxHeartbeats 4000000 in
theorem ry_sc7 : rz_all (fun B => ry_lc7.any (rz_eqB B)) [(2, 0), (99, 0), (2, 1), (3, 0), (99, 0), (3, 1000000), (99, 0), (3, 1000001), (99, 0), (99, 0), (2, 8), (3, 0), (99, 0), (3, 1000000), (2, 4), (2, 2), (99, 0), (2, 3), (99, 0), (99, 0), (2, 6), (2, 5), (99, 0), (99, 0), (2, 7), (99, 0), (99, 0), (3, 1000001), (2, 4), (2, 2), (99, 0), (2, 3), (99, 0), (99, 0), (2, 6), (2, 5), (99, 0), (99, 0), (2, 7), (99, 0), (99, 0), (99, 0), (2, 9), (99, 0), (99, 0)] ry_bc7 = true := by decide +kernel
end
section
/-! The runs of the calls (8,). -/
def ry_bc8 : rz_B := [((-2147483648), 2147483647), ((-2147483648), 2147483647), ((-2147483648), 2147483647), ((-2147483648), 2147483647), ((-2147483648), 2147483647), ((-2147483648), 2147483647), ((-2147483648), 2147483647), ((-2147483648), 2147483647), (8, 8), (8, 8)]
def ry_gc8_0 : List rz_B := [[((-2147483648), 2147483647), ((-2147483648), 2147483647), ((-2147483648), (-1)), ((-2147483648), 2147483647), ((-2147483648), 2147483647), ((-2147483648), 2147483647), ((-2147483648), 2147483647), ((-2147483648), 2147483647), (8, 8), (8, 8)], [((-2147483648), 2147483647), ((-2147483648), 2147483647), (0, 0), ((-2147483648), 0), ((-2147483648), 2147483647), ((-2147483648), 2147483647), ((-2147483648), 2147483647), ((-2147483648), 2147483647), (8, 8), (8, 8)], [((-2147483648), 2147483647), ((-2147483648), 2147483647), (0, 0), (1, 63), ((-2147483648), 2147483647), ((-2147483648), 2147483647), ((-2147483648), 2147483647), ((-2147483648), 2147483647), (8, 8), (8, 8)], [((-2147483648), 2147483647), ((-2147483648), 2147483647), (0, 0), (64, 64), ((-2147483648), 2147483647), ((-2147483648), 2147483647), ((-2147483648), 2147483647), ((-2147483648), 2147483647), (8, 8), (8, 8)], [((-2147483648), 2147483647), ((-2147483648), 2147483647), (0, 0), (65, 2147483647), ((-2147483648), 2147483647), ((-2147483648), 2147483647), ((-2147483648), 2147483647), ((-2147483648), 2147483647), (8, 8), (8, 8)], [((-2147483648), 2147483647), ((-2147483648), 2147483647), (1, 7), ((-2147483648), 0), ((-2147483648), 2147483647), ((-2147483648), 2147483647), ((-2147483648), 2147483647), ((-2147483648), 2147483647), (8, 8), (8, 8)], [((-2147483648), 2147483647), ((-2147483648), 2147483647), (1, 1), (1, 63), ((-2147483648), 2147483647), ((-2147483648), 2147483647), ((-2147483648), 2147483647), ((-2147483648), 2147483647), (8, 8), (8, 8)]]
set_option maxRecDepth 100000 in
set_option maxHeartbeats 4000000 in
theorem ry_hc8_0 : ry_gc8_0.all (rz_end rz_f1) = true := by decide +kernel
def ry_gc8_1 : List rz_B := [[((-2147483648), 2147483647), ((-2147483648), 2147483647), (2, 2), (1, 63), ((-2147483648), 2147483647), ((-2147483648), 2147483647), ((-2147483648), 2147483647), ((-2147483648), 2147483647), (8, 8), (8, 8)], [((-2147483648), 2147483647), ((-2147483648), 2147483647), (3, 3), (1, 63), ((-2147483648), 2147483647), ((-2147483648), 2147483647), ((-2147483648), 2147483647), ((-2147483648), 2147483647), (8, 8), (8, 8)], [((-2147483648), 2147483647), ((-2147483648), 2147483647), (4, 4), (1, 63), ((-2147483648), 2147483647), ((-2147483648), 2147483647), ((-2147483648), 2147483647), ((-2147483648), 2147483647), (8, 8), (8, 8)], [((-2147483648), 2147483647), ((-2147483648), 2147483647), (5, 5), (1, 63), ((-2147483648), 2147483647), ((-2147483648), 2147483647), ((-2147483648), 2147483647), ((-2147483648), 2147483647), (8, 8), (8, 8)], [((-2147483648), 2147483647), ((-2147483648), 2147483647), (6, 6), (1, 63), ((-2147483648), 2147483647), ((-2147483648), 2147483647), ((-2147483648), 2147483647), ((-2147483648), 2147483647), (8, 8), (8, 8)]]
set_option maxRecDepth 100000 in
set_option maxHeartbeats 4000000 in
theorem ry_hc8_1 : ry_gc8_1.all (rz_end rz_f1) = true := by decide +kernel
def ry_gc8_2 : List rz_B := [[((-2147483648), 2147483647), ((-2147483648), 2147483647), (7, 7), (1, 63), ((-2147483648), 2147483647), ((-2147483648), 2147483647), ((-2147483648), 2147483647), ((-2147483648), 2147483647), (8, 8), (8, 8)], [((-2147483648), 2147483647), ((-2147483648), 2147483647), (1, 1), (64, 64), ((-2147483648), 2147483647), ((-2147483648), 2147483647), ((-2147483648), 2147483647), ((-2147483648), 2147483647), (8, 8), (8, 8)], [((-2147483648), 2147483647), ((-2147483648), 2147483647), (2, 2), (64, 64), ((-2147483648), 2147483647), ((-2147483648), 2147483647), ((-2147483648), 2147483647), ((-2147483648), 2147483647), (8, 8), (8, 8)], [((-2147483648), 2147483647), ((-2147483648), 2147483647), (3, 3), (64, 64), ((-2147483648), 2147483647), ((-2147483648), 2147483647), ((-2147483648), 2147483647), ((-2147483648), 2147483647), (8, 8), (8, 8)], [((-2147483648), 2147483647), ((-2147483648), 2147483647), (4, 4), (64, 64), ((-2147483648), 2147483647), ((-2147483648), 2147483647), ((-2147483648), 2147483647), ((-2147483648), 2147483647), (8, 8), (8, 8)]]
set_option maxRecDepth 100000 in
set_option maxHeartbeats 4000000 in
theorem ry_hc8_2 : ry_gc8_2.all (rz_end rz_f1) = true := by decide +kernel
def ry_gc8_3 : List rz_B := [[((-2147483648), 2147483647), ((-2147483648), 2147483647), (5, 5), (64, 64), ((-2147483648), 2147483647), ((-2147483648), 2147483647), ((-2147483648), 2147483647), ((-2147483648), 2147483647), (8, 8), (8, 8)], [((-2147483648), 2147483647), ((-2147483648), 2147483647), (6, 6), (64, 64), ((-2147483648), 2147483647), ((-2147483648), 2147483647), ((-2147483648), 2147483647), ((-2147483648), 2147483647), (8, 8), (8, 8)], [((-2147483648), 2147483647), ((-2147483648), 2147483647), (7, 7), (64, 64), ((-2147483648), 2147483647), ((-2147483648), 2147483647), ((-2147483648), 2147483647), ((-2147483648), 2147483647), (8, 8), (8, 8)], [((-2147483648), 2147483647), ((-2147483648), 2147483647), (1, 7), (65, 2147483647), ((-2147483648), 2147483647), ((-2147483648), 2147483647), ((-2147483648), 2147483647), ((-2147483648), 2147483647), (8, 8), (8, 8)], [((-2147483648), 2147483647), ((-2147483648), 2147483647), (8, 8), ((-2147483648), 2147483647), ((-2147483648), 2147483647), ((-2147483648), 2147483647), ((-2147483648), 2147483647), ((-2147483648), 2147483647), (8, 8), (8, 8)], [((-2147483648), 2147483647), ((-2147483648), 2147483647), (9, 2147483647), ((-2147483648), 2147483647), ((-2147483648), 2147483647), ((-2147483648), 2147483647), ((-2147483648), 2147483647), ((-2147483648), 2147483647), (8, 8), (8, 8)]]
set_option maxRecDepth 100000 in
set_option maxHeartbeats 4000000 in
theorem ry_hc8_3 : ry_gc8_3.all (rz_end rz_f1) = true := by decide +kernel
def ry_lc8 : List rz_B := ry_gc8_0 ++ (ry_gc8_1 ++ (ry_gc8_2 ++ (ry_gc8_3)))
theorem ry_pc8 : ∀ B ∈ ry_lc8, rz_end rz_f1 B = true := List.forall_mem_append.mpr ⟨List.all_eq_true.mp ry_hc8_0, List.forall_mem_append.mpr ⟨List.all_eq_true.mp ry_hc8_1, List.forall_mem_append.mpr ⟨List.all_eq_true.mp ry_hc8_2, List.all_eq_true.mp ry_hc8_3⟩⟩⟩
set_option maxRecDepth 100000 in
set_option maxHeartbeats 4000000 in
theorem ry_sc8 : rz_all (fun B => ry_lc8.any (rz_eqB B)) [(2, 0), (99, 0), (2, 1), (3, 1), (99, 0), (3, 64), (99, 0), (3, 65), (99, 0), (99, 0), (2, 8), (3, 1), (99, 0), (3, 64), (2, 4), (2, 2), (99, 0), (2, 3), (99, 0), (99, 0), (2, 6), (2, 5), (99, 0), (99, 0), (2, 7), (99, 0), (99, 0), (3, 65), (2, 4), (2, 2), (99, 0), (2, 3), (99, 0), (99, 0), (2, 6), (2, 5), (99, 0), (99, 0), (2, 7), (99, 0), (99, 0), (99, 0), (2, 9), (99, 0), (99, 0)] ry_bc8 = true := by decide +kernel
end
section
/-! The runs of the calls (9,). -/
def ry_bc9 : rz_B := [((-2147483648), 2147483647), ((-2147483648), 2147483647), ((-2147483648), 2147483647), ((-2147483648), 2147483647), ((-2147483648), 2147483647), ((-2147483648), 2147483647), ((-2147483648), 2147483647), ((-2147483648), 2147483647), (8, 8), (9, 9)]
def ry_gc9_0 : List rz_B := [[((-2147483648), 2147483647), ((-2147483648), 2147483647), ((-2147483648), (-1)), ((-2147483648), 2147483647), ((-2147483648), 2147483647), ((-2147483648), 2147483647), ((-2147483648), 2147483647), ((-2147483648), 2147483647), (8, 8), (9, 9)], [((-2147483648), 2147483647), ((-2147483648), 2147483647), (0, 0), ((-2147483648), 2147483647), ((-2147483648), 2147483647), ((-2147483648), 2147483647), ((-2147483648), 2147483647), ((-2147483648), 2147483647), (8, 8), (9, 9)], [((-2147483648), 2147483647), ((-2147483648), 2147483647), (1, 1), ((-2147483648), 2147483647), ((-2147483648), 2147483647), ((-2147483648), 2147483647), ((-2147483648), 2147483647), ((-2147483648), 2147483647), (8, 8), (9, 9)], [((-2147483648), 2147483647), ((-2147483648), 2147483647), (2, 2), ((-2147483648), 2147483647), ((-2147483648), 2147483647), ((-2147483648), 2147483647), ((-2147483648), 2147483647), ((-2147483648), 2147483647), (8, 8), (9, 9)], [((-2147483648), 2147483647), ((-2147483648), 2147483647), (3, 3), ((-2147483648), 2147483647), ((-2147483648), 2147483647), ((-2147483648), 2147483647), ((-2147483648), 2147483647), ((-2147483648), 2147483647), (8, 8), (9, 9)], [((-2147483648), 2147483647), ((-2147483648), 2147483647), (4, 4), ((-2147483648), 2147483647), ((-2147483648), 2147483647), ((-2147483648), 2147483647), ((-2147483648), 2147483647), ((-2147483648), 2147483647), (8, 8), (9, 9)]]
set_option maxRecDepth 100000 in
set_option maxHeartbeats 4000000 in
theorem ry_hc9_0 : ry_gc9_0.all (rz_end rz_f1) = true := by decide +kernel
def ry_gc9_1 : List rz_B := [[((-2147483648), 2147483647), ((-2147483648), 2147483647), (5, 5), ((-2147483648), 2147483647), ((-2147483648), 2147483647), ((-2147483648), 2147483647), ((-2147483648), 2147483647), ((-2147483648), 2147483647), (8, 8), (9, 9)], [((-2147483648), 2147483647), ((-2147483648), 2147483647), (6, 6), ((-2147483648), 2147483647), ((-2147483648), 2147483647), ((-2147483648), 2147483647), ((-2147483648), 2147483647), ((-2147483648), 2147483647), (8, 8), (9, 9)], [((-2147483648), 2147483647), ((-2147483648), 2147483647), (7, 7), ((-2147483648), 2147483647), ((-2147483648), 2147483647), ((-2147483648), 2147483647), ((-2147483648), 2147483647), ((-2147483648), 2147483647), (8, 8), (9, 9)], [((-2147483648), 2147483647), ((-2147483648), 2147483647), (8, 8), ((-2147483648), 2147483647), ((-2147483648), 2147483647), ((-2147483648), 2147483647), ((-2147483648), 2147483647), ((-2147483648), 2147483647), (8, 8), (9, 9)], [((-2147483648), 2147483647), ((-2147483648), 2147483647), (9, 9), ((-2147483648), 2147483647), ((-2147483648), 2147483647), ((-2147483648), 2147483647), ((-2147483648), 2147483647), ((-2147483648), 2147483647), (8, 8), (9, 9)], [((-2147483648), 2147483647), ((-2147483648), 2147483647), (10, 10), ((-2147483648), 2147483647), ((-2147483648), 2147483647), ((-2147483648), 2147483647), ((-2147483648), 2147483647), ((-2147483648), 2147483647), (8, 8), (9, 9)]]
set_option maxRecDepth 100000 in
set_option maxHeartbeats 4000000 in
theorem ry_hc9_1 : ry_gc9_1.all (rz_end rz_f1) = true := by decide +kernel
def ry_gc9_2 : List rz_B := [[((-2147483648), 2147483647), ((-2147483648), 2147483647), (11, 11), ((-2147483648), 2147483647), ((-2147483648), 2147483647), ((-2147483648), 2147483647), ((-2147483648), 2147483647), ((-2147483648), 2147483647), (8, 8), (9, 9)], [((-2147483648), 2147483647), ((-2147483648), 2147483647), (12, 12), ((-2147483648), 2147483647), ((-2147483648), 2147483647), ((-2147483648), 2147483647), ((-2147483648), 2147483647), ((-2147483648), 2147483647), (8, 8), (9, 9)], [((-2147483648), 2147483647), ((-2147483648), 2147483647), (13, 13), ((-2147483648), 2147483647), ((-2147483648), 2147483647), ((-2147483648), 2147483647), ((-2147483648), 2147483647), ((-2147483648), 2147483647), (8, 8), (9, 9)], [((-2147483648), 2147483647), ((-2147483648), 2147483647), (14, 14), ((-2147483648), 2147483647), ((-2147483648), 2147483647), ((-2147483648), 2147483647), ((-2147483648), 2147483647), ((-2147483648), 2147483647), (8, 8), (9, 9)], [((-2147483648), 2147483647), ((-2147483648), 2147483647), (15, 15), ((-2147483648), 2147483647), ((-2147483648), 2147483647), ((-2147483648), 2147483647), ((-2147483648), 2147483647), ((-2147483648), 2147483647), (8, 8), (9, 9)], [((-2147483648), 2147483647), ((-2147483648), 2147483647), (16, 16), ((-2147483648), 2147483647), ((-2147483648), 2147483647), ((-2147483648), 2147483647), ((-2147483648), 2147483647), ((-2147483648), 2147483647), (8, 8), (9, 9)]]
set_option maxRecDepth 100000 in
set_option maxHeartbeats 4000000 in
theorem ry_hc9_2 : ry_gc9_2.all (rz_end rz_f1) = true := by decide +kernel
def ry_gc9_3 : List rz_B := [[((-2147483648), 2147483647), ((-2147483648), 2147483647), (17, 17), ((-2147483648), 2147483647), ((-2147483648), 2147483647), ((-2147483648), 2147483647), ((-2147483648), 2147483647), ((-2147483648), 2147483647), (8, 8), (9, 9)], [((-2147483648), 2147483647), ((-2147483648), 2147483647), (18, 18), ((-2147483648), 2147483647), ((-2147483648), 2147483647), ((-2147483648), 2147483647), ((-2147483648), 2147483647), ((-2147483648), 2147483647), (8, 8), (9, 9)], [((-2147483648), 2147483647), ((-2147483648), 2147483647), (19, 19), ((-2147483648), 2147483647), ((-2147483648), 2147483647), ((-2147483648), 2147483647), ((-2147483648), 2147483647), ((-2147483648), 2147483647), (8, 8), (9, 9)], [((-2147483648), 2147483647), ((-2147483648), 2147483647), (20, 20), ((-2147483648), 2147483647), ((-2147483648), 2147483647), ((-2147483648), 2147483647), ((-2147483648), 2147483647), ((-2147483648), 2147483647), (8, 8), (9, 9)], [((-2147483648), 2147483647), ((-2147483648), 2147483647), (21, 21), ((-2147483648), 2147483647), ((-2147483648), 2147483647), ((-2147483648), 2147483647), ((-2147483648), 2147483647), ((-2147483648), 2147483647), (8, 8), (9, 9)], [((-2147483648), 2147483647), ((-2147483648), 2147483647), (22, 22), ((-2147483648), 2147483647), ((-2147483648), 2147483647), ((-2147483648), 2147483647), ((-2147483648), 2147483647), ((-2147483648), 2147483647), (8, 8), (9, 9)]]
set_option maxRecDepth 100000 in
set_option maxHeartbeats 4000000 in
theorem ry_hc9_3 : ry_gc9_3.all (rz_end rz_f1) = true := by decide +kernel
def ry_gc9_4 : List rz_B := [[((-2147483648), 2147483647), ((-2147483648), 2147483647), (23, 23), ((-2147483648), 2147483647), ((-2147483648), 2147483647), ((-2147483648), 2147483647), ((-2147483648), 2147483647), ((-2147483648), 2147483647), (8, 8), (9, 9)], [((-2147483648), 2147483647), ((-2147483648), 2147483647), (24, 24), ((-2147483648), 2147483647), ((-2147483648), 2147483647), ((-2147483648), 2147483647), ((-2147483648), 2147483647), ((-2147483648), 2147483647), (8, 8), (9, 9)], [((-2147483648), 2147483647), ((-2147483648), 2147483647), (25, 25), ((-2147483648), 2147483647), ((-2147483648), 2147483647), ((-2147483648), 2147483647), ((-2147483648), 2147483647), ((-2147483648), 2147483647), (8, 8), (9, 9)], [((-2147483648), 2147483647), ((-2147483648), 2147483647), (26, 26), ((-2147483648), 2147483647), ((-2147483648), 2147483647), ((-2147483648), 2147483647), ((-2147483648), 2147483647), ((-2147483648), 2147483647), (8, 8), (9, 9)], [((-2147483648), 2147483647), ((-2147483648), 2147483647), (27, 27), ((-2147483648), 2147483647), ((-2147483648), 2147483647), ((-2147483648), 2147483647), ((-2147483648), 2147483647), ((-2147483648), 2147483647), (8, 8), (9, 9)], [((-2147483648), 2147483647), ((-2147483648), 2147483647), (28, 28), ((-2147483648), 2147483647), ((-2147483648), 2147483647), ((-2147483648), 2147483647), ((-2147483648), 2147483647), ((-2147483648), 2147483647), (8, 8), (9, 9)]]
set_option maxRecDepth 100000 in
set_option maxHeartbeats 4000000 in
theorem ry_hc9_4 : ry_gc9_4.all (rz_end rz_f1) = true := by decide +kernel
def ry_gc9_5 : List rz_B := [[((-2147483648), 2147483647), ((-2147483648), 2147483647), (29, 29), ((-2147483648), 2147483647), ((-2147483648), 2147483647), ((-2147483648), 2147483647), ((-2147483648), 2147483647), ((-2147483648), 2147483647), (8, 8), (9, 9)], [((-2147483648), 2147483647), ((-2147483648), 2147483647), (30, 30), ((-2147483648), 2147483647), ((-2147483648), 2147483647), ((-2147483648), 2147483647), ((-2147483648), 2147483647), ((-2147483648), 2147483647), (8, 8), (9, 9)], [((-2147483648), 2147483647), ((-2147483648), 2147483647), (31, 31), ((-2147483648), 2147483647), ((-2147483648), 2147483647), ((-2147483648), 2147483647), ((-2147483648), 2147483647), ((-2147483648), 2147483647), (8, 8), (9, 9)], [((-2147483648), 2147483647), ((-2147483648), 2147483647), (32, 32), ((-2147483648), 2147483647), ((-2147483648), 2147483647), ((-2147483648), 2147483647), ((-2147483648), 2147483647), ((-2147483648), 2147483647), (8, 8), (9, 9)], [((-2147483648), 2147483647), ((-2147483648), 2147483647), (33, 2147483647), ((-2147483648), 2147483647), ((-2147483648), 2147483647), ((-2147483648), 2147483647), ((-2147483648), 2147483647), ((-2147483648), 2147483647), (8, 8), (9, 9)]]
set_option maxRecDepth 100000 in
set_option maxHeartbeats 4000000 in
theorem ry_hc9_5 : ry_gc9_5.all (rz_end rz_f1) = true := by decide +kernel
def ry_lc9 : List rz_B := ry_gc9_0 ++ (ry_gc9_1 ++ (ry_gc9_2 ++ (ry_gc9_3 ++ (ry_gc9_4 ++ (ry_gc9_5)))))
theorem ry_pc9 : ∀ B ∈ ry_lc9, rz_end rz_f1 B = true := List.forall_mem_append.mpr ⟨List.all_eq_true.mp ry_hc9_0, List.forall_mem_append.mpr ⟨List.all_eq_true.mp ry_hc9_1, List.forall_mem_append.mpr ⟨List.all_eq_true.mp ry_hc9_2, List.forall_mem_append.mpr ⟨List.all_eq_true.mp ry_hc9_3, List.forall_mem_append.mpr ⟨List.all_eq_true.mp ry_hc9_4, List.all_eq_true.mp ry_hc9_5⟩⟩⟩⟩⟩
set_option maxRecDepth 100000 in
set_option maxHeartbeats 4000000 in
theorem ry_sc9 : rz_all (fun B => ry_lc9.any (rz_eqB B)) [(2, 0), (99, 0), (2, 1), (99, 0), (2, 32), (2, 16), (2, 8), (2, 4), (2, 2), (99, 0), (2, 3), (99, 0), (99, 0), (2, 6), (2, 5), (99, 0), (99, 0), (2, 7), (99, 0), (99, 0), (2, 12), (2, 10), (2, 9), (99, 0), (99, 0), (2, 11), (99, 0), (99, 0), (2, 14), (2, 13), (99, 0), (99, 0), (2, 15), (99, 0), (99, 0), (2, 24), (2, 20), (2, 18), (2, 17), (99, 0), (99, 0), (2, 19), (99, 0), (99, 0), (2, 22), (2, 21), (99, 0), (99, 0), (2, 23), (99, 0), (99, 0), (2, 28), (2, 26), (2, 25), (99, 0), (99, 0), (2, 27), (99, 0), (99, 0), (2, 30), (2, 29), (99, 0), (99, 0), (2, 31), (99, 0), (99, 0), (2, 33), (99, 0), (99, 0)] ry_bc9 = true := by decide +kernel
end
section
/-! The runs of the calls (10, 11, 12, 13). -/
def ry_bc10 : rz_B := [((-2147483648), 2147483647), ((-2147483648), 2147483647), ((-2147483648), 2147483647), ((-2147483648), 2147483647), ((-2147483648), 2147483647), ((-2147483648), 2147483647), ((-2147483648), 2147483647), ((-2147483648), 2147483647), (8, 8), (10, 10)]
def ry_gc10_0 : List rz_B := [[((-2147483648), 2147483647), ((-2147483648), 2147483647), ((-2147483648), (-1)), ((-2147483648), 2147483647), ((-2147483648), 2147483647), ((-2147483648), 2147483647), ((-2147483648), 2147483647), ((-2147483648), 2147483647), (8, 8), (10, 10)], [((-2147483648), 2147483647), ((-2147483648), 2147483647), (0, 0), ((-2147483648), 2147483647), ((-2147483648), 2147483647), ((-2147483648), 2147483647), ((-2147483648), 2147483647), ((-2147483648), 2147483647), (8, 8), (10, 10)], [((-2147483648), 2147483647), ((-2147483648), 2147483647), (1, 1), ((-2147483648), 2147483647), ((-2147483648), 2147483647), ((-2147483648), 2147483647), ((-2147483648), 2147483647), ((-2147483648), 2147483647), (8, 8), (10, 10)], [((-2147483648), 2147483647), ((-2147483648), 2147483647), (2, 2), ((-2147483648), 2147483647), ((-2147483648), 2147483647), ((-2147483648), 2147483647), ((-2147483648), 2147483647), ((-2147483648), 2147483647), (8, 8), (10, 10)], [((-2147483648), 2147483647), ((-2147483648), 2147483647), (3, 3), ((-2147483648), 2147483647), ((-2147483648), 2147483647), ((-2147483648), 2147483647), ((-2147483648), 2147483647), ((-2147483648), 2147483647), (8, 8), (10, 10)], [((-2147483648), 2147483647), ((-2147483648), 2147483647), (4, 4), ((-2147483648), 2147483647), ((-2147483648), 2147483647), ((-2147483648), 2147483647), ((-2147483648), 2147483647), ((-2147483648), 2147483647), (8, 8), (10, 10)], [((-2147483648), 2147483647), ((-2147483648), 2147483647), (5, 5), ((-2147483648), 2147483647), ((-2147483648), 2147483647), ((-2147483648), 2147483647), ((-2147483648), 2147483647), ((-2147483648), 2147483647), (8, 8), (10, 10)], [((-2147483648), 2147483647), ((-2147483648), 2147483647), (6, 6), ((-2147483648), 2147483647), ((-2147483648), 2147483647), ((-2147483648), 2147483647), ((-2147483648), 2147483647), ((-2147483648), 2147483647), (8, 8), (10, 10)]]
set_option maxRecDepth 100000 in
set_option maxHeartbeats 4000000 in
theorem ry_hc10_0 : ry_gc10_0.all (rz_end rz_f1) = true := by decide +kernel
def ry_gc10_1 : List rz_B := [[((-2147483648), 2147483647), ((-2147483648), 2147483647), (7, 7), ((-2147483648), 2147483647), ((-2147483648), 2147483647), ((-2147483648), 2147483647), ((-2147483648), 2147483647), ((-2147483648), 2147483647), (8, 8), (10, 10)], [((-2147483648), 2147483647), ((-2147483648), 2147483647), (8, 8), ((-2147483648), 2147483647), ((-2147483648), 2147483647), ((-2147483648), 2147483647), ((-2147483648), 2147483647), ((-2147483648), 2147483647), (8, 8), (10, 10)], [((-2147483648), 2147483647), ((-2147483648), 2147483647), (9, 9), ((-2147483648), 2147483647), ((-2147483648), 2147483647), ((-2147483648), 2147483647), ((-2147483648), 2147483647), ((-2147483648), 2147483647), (8, 8), (10, 10)], [((-2147483648), 2147483647), ((-2147483648), 2147483647), (10, 10), ((-2147483648), 2147483647), ((-2147483648), 2147483647), ((-2147483648), 2147483647), ((-2147483648), 2147483647), ((-2147483648), 2147483647), (8, 8), (10, 10)], [((-2147483648), 2147483647), ((-2147483648), 2147483647), (11, 11), ((-2147483648), 2147483647), ((-2147483648), 2147483647), ((-2147483648), 2147483647), ((-2147483648), 2147483647), ((-2147483648), 2147483647), (8, 8), (10, 10)], [((-2147483648), 2147483647), ((-2147483648), 2147483647), (12, 12), ((-2147483648), 2147483647), ((-2147483648), 2147483647), ((-2147483648), 2147483647), ((-2147483648), 2147483647), ((-2147483648), 2147483647), (8, 8), (10, 10)], [((-2147483648), 2147483647), ((-2147483648), 2147483647), (13, 13), ((-2147483648), 2147483647), ((-2147483648), 2147483647), ((-2147483648), 2147483647), ((-2147483648), 2147483647), ((-2147483648), 2147483647), (8, 8), (10, 10)], [((-2147483648), 2147483647), ((-2147483648), 2147483647), (14, 14), ((-2147483648), 2147483647), ((-2147483648), 2147483647), ((-2147483648), 2147483647), ((-2147483648), 2147483647), ((-2147483648), 2147483647), (8, 8), (10, 10)]]
set_option maxRecDepth 100000 in
set_option maxHeartbeats 4000000 in
theorem ry_hc10_1 : ry_gc10_1.all (rz_end rz_f1) = true := by decide +kernel
def ry_gc10_2 : List rz_B := [[((-2147483648), 2147483647), ((-2147483648), 2147483647), (15, 15), ((-2147483648), 2147483647), ((-2147483648), 2147483647), ((-2147483648), 2147483647), ((-2147483648), 2147483647), ((-2147483648), 2147483647), (8, 8), (10, 10)], [((-2147483648), 2147483647), ((-2147483648), 2147483647), (16, 16), ((-2147483648), 2147483647), ((-2147483648), 2147483647), ((-2147483648), 2147483647), ((-2147483648), 2147483647), ((-2147483648), 2147483647), (8, 8), (10, 10)], [((-2147483648), 2147483647), ((-2147483648), 2147483647), (17, 17), ((-2147483648), 2147483647), ((-2147483648), 2147483647), ((-2147483648), 2147483647), ((-2147483648), 2147483647), ((-2147483648), 2147483647), (8, 8), (10, 10)], [((-2147483648), 2147483647), ((-2147483648), 2147483647), (18, 18), ((-2147483648), 2147483647), ((-2147483648), 2147483647), ((-2147483648), 2147483647), ((-2147483648), 2147483647), ((-2147483648), 2147483647), (8, 8), (10, 10)], [((-2147483648), 2147483647), ((-2147483648), 2147483647), (19, 19), ((-2147483648), 2147483647), ((-2147483648), 2147483647), ((-2147483648), 2147483647), ((-2147483648), 2147483647), ((-2147483648), 2147483647), (8, 8), (10, 10)], [((-2147483648), 2147483647), ((-2147483648), 2147483647), (20, 20), ((-2147483648), 2147483647), ((-2147483648), 2147483647), ((-2147483648), 2147483647), ((-2147483648), 2147483647), ((-2147483648), 2147483647), (8, 8), (10, 10)], [((-2147483648), 2147483647), ((-2147483648), 2147483647), (21, 21), ((-2147483648), 2147483647), ((-2147483648), 2147483647), ((-2147483648), 2147483647), ((-2147483648), 2147483647), ((-2147483648), 2147483647), (8, 8), (10, 10)], [((-2147483648), 2147483647), ((-2147483648), 2147483647), (22, 22), ((-2147483648), 2147483647), ((-2147483648), 2147483647), ((-2147483648), 2147483647), ((-2147483648), 2147483647), ((-2147483648), 2147483647), (8, 8), (10, 10)]]
set_option maxRecDepth 100000 in
set_option maxHeartbeats 4000000 in
theorem ry_hc10_2 : ry_gc10_2.all (rz_end rz_f1) = true := by decide +kernel
def ry_gc10_3 : List rz_B := [[((-2147483648), 2147483647), ((-2147483648), 2147483647), (23, 23), ((-2147483648), 2147483647), ((-2147483648), 2147483647), ((-2147483648), 2147483647), ((-2147483648), 2147483647), ((-2147483648), 2147483647), (8, 8), (10, 10)], [((-2147483648), 2147483647), ((-2147483648), 2147483647), (24, 24), ((-2147483648), 2147483647), ((-2147483648), 2147483647), ((-2147483648), 2147483647), ((-2147483648), 2147483647), ((-2147483648), 2147483647), (8, 8), (10, 10)], [((-2147483648), 2147483647), ((-2147483648), 2147483647), (25, 25), ((-2147483648), 2147483647), ((-2147483648), 2147483647), ((-2147483648), 2147483647), ((-2147483648), 2147483647), ((-2147483648), 2147483647), (8, 8), (10, 10)], [((-2147483648), 2147483647), ((-2147483648), 2147483647), (26, 26), ((-2147483648), 2147483647), ((-2147483648), 2147483647), ((-2147483648), 2147483647), ((-2147483648), 2147483647), ((-2147483648), 2147483647), (8, 8), (10, 10)], [((-2147483648), 2147483647), ((-2147483648), 2147483647), (27, 27), ((-2147483648), 2147483647), ((-2147483648), 2147483647), ((-2147483648), 2147483647), ((-2147483648), 2147483647), ((-2147483648), 2147483647), (8, 8), (10, 10)], [((-2147483648), 2147483647), ((-2147483648), 2147483647), (28, 28), ((-2147483648), 2147483647), ((-2147483648), 2147483647), ((-2147483648), 2147483647), ((-2147483648), 2147483647), ((-2147483648), 2147483647), (8, 8), (10, 10)], [((-2147483648), 2147483647), ((-2147483648), 2147483647), (29, 29), ((-2147483648), 2147483647), ((-2147483648), 2147483647), ((-2147483648), 2147483647), ((-2147483648), 2147483647), ((-2147483648), 2147483647), (8, 8), (10, 10)], [((-2147483648), 2147483647), ((-2147483648), 2147483647), (30, 30), ((-2147483648), 2147483647), ((-2147483648), 2147483647), ((-2147483648), 2147483647), ((-2147483648), 2147483647), ((-2147483648), 2147483647), (8, 8), (10, 10)]]
set_option maxRecDepth 100000 in
set_option maxHeartbeats 4000000 in
theorem ry_hc10_3 : ry_gc10_3.all (rz_end rz_f1) = true := by decide +kernel
def ry_gc10_4 : List rz_B := [[((-2147483648), 2147483647), ((-2147483648), 2147483647), (31, 31), ((-2147483648), 2147483647), ((-2147483648), 2147483647), ((-2147483648), 2147483647), ((-2147483648), 2147483647), ((-2147483648), 2147483647), (8, 8), (10, 10)], [((-2147483648), 2147483647), ((-2147483648), 2147483647), (32, 32), ((-2147483648), 2147483647), ((-2147483648), 2147483647), ((-2147483648), 2147483647), ((-2147483648), 2147483647), ((-2147483648), 2147483647), (8, 8), (10, 10)], [((-2147483648), 2147483647), ((-2147483648), 2147483647), (33, 2147483647), ((-2147483648), 2147483647), ((-2147483648), 2147483647), ((-2147483648), 2147483647), ((-2147483648), 2147483647), ((-2147483648), 2147483647), (8, 8), (10, 10)]]
set_option maxRecDepth 100000 in
set_option maxHeartbeats 4000000 in
theorem ry_hc10_4 : ry_gc10_4.all (rz_end rz_f1) = true := by decide +kernel
def ry_lc10 : List rz_B := ry_gc10_0 ++ (ry_gc10_1 ++ (ry_gc10_2 ++ (ry_gc10_3 ++ (ry_gc10_4))))
theorem ry_pc10 : ∀ B ∈ ry_lc10, rz_end rz_f1 B = true := List.forall_mem_append.mpr ⟨List.all_eq_true.mp ry_hc10_0, List.forall_mem_append.mpr ⟨List.all_eq_true.mp ry_hc10_1, List.forall_mem_append.mpr ⟨List.all_eq_true.mp ry_hc10_2, List.forall_mem_append.mpr ⟨List.all_eq_true.mp ry_hc10_3, List.all_eq_true.mp ry_hc10_4⟩⟩⟩⟩
set_option maxRecDepth 100000 in
set_option maxHeartbeats 4000000 in
theorem ry_sc10 : rz_all (fun B => ry_lc10.any (rz_eqB B)) [(2, 0), (99, 0), (2, 1), (99, 0), (2, 32), (2, 16), (2, 8), (2, 4), (2, 2), (99, 0), (2, 3), (99, 0), (99, 0), (2, 6), (2, 5), (99, 0), (99, 0), (2, 7), (99, 0), (99, 0), (2, 12), (2, 10), (2, 9), (99, 0), (99, 0), (2, 11), (99, 0), (99, 0), (2, 14), (2, 13), (99, 0), (99, 0), (2, 15), (99, 0), (99, 0), (2, 24), (2, 20), (2, 18), (2, 17), (99, 0), (99, 0), (2, 19), (99, 0), (99, 0), (2, 22), (2, 21), (99, 0), (99, 0), (2, 23), (99, 0), (99, 0), (2, 28), (2, 26), (2, 25), (99, 0), (99, 0), (2, 27), (99, 0), (99, 0), (2, 30), (2, 29), (99, 0), (99, 0), (2, 31), (99, 0), (99, 0), (2, 33), (99, 0), (99, 0)] ry_bc10 = true := by decide +kernel
def ry_bc11 : rz_B := [((-2147483648), 2147483647), ((-2147483648), 2147483647), ((-2147483648), 2147483647), ((-2147483648), 2147483647), ((-2147483648), 2147483647), ((-2147483648), 2147483647), ((-2147483648), 2147483647), ((-2147483648), 2147483647), (8, 8), (11, 11)]
def ry_gc11_0 : List rz_B := [[((-2147483648), 2147483647), ((-2147483648), 2147483647), ((-2147483648), (-1)), ((-2147483648), 2147483647), ((-2147483648), 2147483647), ((-2147483648), 2147483647), ((-2147483648), 2147483647), ((-2147483648), 2147483647), (8, 8), (11, 11)], [((-2147483648), 2147483647), ((-2147483648), 2147483647), (0, 0), ((-2147483648), 2147483647), ((-2147483648), 2147483647), ((-2147483648), 2147483647), ((-2147483648), 2147483647), ((-2147483648), 2147483647), (8, 8), (11, 11)], [((-2147483648), 2147483647), ((-2147483648), 2147483647), (1, 2147483647), ((-2147483648), 2147483647), ((-2147483648), 2147483647), ((-2147483648), 2147483647), ((-2147483648), 2147483647), ((-2147483648), 2147483647), (8, 8), (11, 11)]]
set_option maxRecDepth 100000 in
set_option maxHeartbeats 4000000 in
theorem ry_hc11_0 : ry_gc11_0.all (rz_end rz_f1) = true := by decide +kernel
def ry_lc11 : List rz_B := ry_gc11_0
theorem ry_pc11 : ∀ B ∈ ry_lc11, rz_end rz_f1 B = true := List.all_eq_true.mp ry_hc11_0
set_option maxRecDepth 100000 in
set_option maxHeartbeats 4000000 in
theorem ry_sc11 : rz_all (fun B => ry_lc11.any (rz_eqB B)) [(2, 0), (99, 0), (2, 1), (99, 0), (99, 0)] ry_bc11 = true := by decide +kernel
def ry_bc12 : rz_B := [((-2147483648), 2147483647), ((-2147483648), 2147483647), ((-2147483648), 2147483647), ((-2147483648), 2147483647), ((-2147483648), 2147483647), ((-2147483648), 2147483647), ((-2147483648), 2147483647), ((-2147483648), 2147483647), (8, 8), (12, 12)]
def ry_gc12_0 : List rz_B := [[((-2147483648), 2147483647), ((-2147483648), 2147483647), ((-2147483648), (-1)), ((-2147483648), 2147483647), ((-2147483648), 2147483647), ((-2147483648), 2147483647), ((-2147483648), 2147483647), ((-2147483648), 2147483647), (8, 8), (12, 12)], [((-2147483648), 2147483647), ((-2147483648), 2147483647), (0, 0), ((-2147483648), 2147483647), ((-2147483648), 2147483647), ((-2147483648), 2147483647), ((-2147483648), 2147483647), ((-2147483648), 2147483647), (8, 8), (12, 12)], [((-2147483648), 2147483647), ((-2147483648), 2147483647), (1, 2147483647), ((-2147483648), 2147483647), ((-2147483648), 2147483647), ((-2147483648), 2147483647), ((-2147483648), 2147483647), ((-2147483648), 2147483647), (8, 8), (12, 12)]]
set_option maxRecDepth 100000 in
set_option maxHeartbeats 4000000 in
theorem ry_hc12_0 : ry_gc12_0.all (rz_end rz_f1) = true := by decide +kernel
def ry_lc12 : List rz_B := ry_gc12_0
theorem ry_pc12 : ∀ B ∈ ry_lc12, rz_end rz_f1 B = true := List.all_eq_true.mp ry_hc12_0
set_option maxRecDepth 100000 in
set_option maxHeartbeats 4000000 in
theorem ry_sc12 : rz_all (fun B => ry_lc12.any (rz_eqB B)) [(2, 0), (99, 0), (2, 1), (99, 0), (99, 0)] ry_bc12 = true := by decide +kernel
def ry_bc13 : rz_B := [((-2147483648), 2147483647), ((-2147483648), 2147483647), ((-2147483648), 2147483647), ((-2147483648), 2147483647), ((-2147483648), 2147483647), ((-2147483648), 2147483647), ((-2147483648), 2147483647), ((-2147483648), 2147483647), (8, 8), (13, 13)]
def ry_gc13_0 : List rz_B := [[((-2147483648), 2147483647), ((-2147483648), 2147483647), ((-2147483648), (-1)), ((-2147483648), 2147483647), ((-2147483648), 2147483647), ((-2147483648), 2147483647), ((-2147483648), 2147483647), ((-2147483648), 2147483647), (8, 8), (13, 13)], [((-2147483648), 2147483647), ((-2147483648), 2147483647), (0, 0), ((-2147483648), 2147483647), ((-2147483648), 2147483647), ((-2147483648), 2147483647), ((-2147483648), 2147483647), ((-2147483648), 2147483647), (8, 8), (13, 13)], [((-2147483648), 2147483647), ((-2147483648), 2147483647), (1, 2147483647), ((-2147483648), 2147483647), ((-2147483648), 2147483647), ((-2147483648), 2147483647), ((-2147483648), 2147483647), ((-2147483648), 2147483647), (8, 8), (13, 13)]]
set_option maxRecDepth 100000 in
set_option maxHeartbeats 4000000 in
theorem ry_hc13_0 : ry_gc13_0.all (rz_end rz_f1) = true := by decide +kernel
def ry_lc13 : List rz_B := ry_gc13_0
theorem ry_pc13 : ∀ B ∈ ry_lc13, rz_end rz_f1 B = true := List.all_eq_true.mp ry_hc13_0
set_option maxRecDepth 100000 in
set_option maxHeartbeats 4000000 in
theorem ry_sc13 : rz_all (fun B => ry_lc13.any (rz_eqB B)) [(2, 0), (99, 0), (2, 1), (99, 0), (99, 0)] ry_bc13 = true := by decide +kernel
end
section
/-! The runs of the calls (14,). -/
def ry_bc14 : rz_B := [((-2147483648), 2147483647), ((-2147483648), 2147483647), ((-2147483648), 2147483647), ((-2147483648), 2147483647), ((-2147483648), 2147483647), ((-2147483648), 2147483647), ((-2147483648), 2147483647), ((-2147483648), 2147483647), (8, 8), (14, 14)]
def ry_gc14_0 : List rz_B := [[((-2147483648), 2147483647), ((-2147483648), 2147483647), ((-2147483648), (-1)), ((-2147483648), 2147483647), ((-2147483648), 2147483647), ((-2147483648), 2147483647), ((-2147483648), 2147483647), ((-2147483648), 2147483647), (8, 8), (14, 14)], [((-2147483648), 2147483647), ((-2147483648), 2147483647), (0, 0), ((-2147483648), (-1)), ((-2147483648), 2147483647), ((-2147483648), 2147483647), ((-2147483648), 2147483647), ((-2147483648), 2147483647), (8, 8), (14, 14)], [((-2147483648), 2147483647), ((-2147483648), 2147483647), (0, 0), (0, 0), ((-2147483648), 2147483647), ((-2147483648), 2147483647), ((-2147483648), 2147483647), ((-2147483648), 2147483647), (8, 8), (14, 14)], [((-2147483648), 2147483647), ((-2147483648), 2147483647), (0, 0), (1, 1), ((-2147483648), 2147483647), ((-2147483648), 2147483647), ((-2147483648), 2147483647), ((-2147483648), 2147483647), (8, 8), (14, 14)], [((-2147483648), 2147483647), ((-2147483648), 2147483647), (0, 0), (2, 2), ((-2147483648), 2147483647), ((-2147483648), 2147483647), ((-2147483648), 2147483647), ((-2147483648), 2147483647), (8, 8), (14, 14)], [((-2147483648), 2147483647), ((-2147483648), 2147483647), (0, 0), (3, 3), ((-2147483648), 2147483647), ((-2147483648), 2147483647), ((-2147483648), 2147483647), ((-2147483648), 2147483647), (8, 8), (14, 14)]]
set_option maxRecDepth 100000 in
set_option maxHeartbeats 4000000 in
theorem ry_hc14_0 : ry_gc14_0.all (rz_end rz_f1) = true := by decide +kernel
def ry_gc14_1 : List rz_B := [[((-2147483648), 2147483647), ((-2147483648), 2147483647), (0, 0), (4, 4), ((-2147483648), 2147483647), ((-2147483648), 2147483647), ((-2147483648), 2147483647), ((-2147483648), 2147483647), (8, 8), (14, 14)], [((-2147483648), 2147483647), ((-2147483648), 2147483647), (0, 0), (5, 5), ((-2147483648), 2147483647), ((-2147483648), 2147483647), ((-2147483648), 2147483647), ((-2147483648), 2147483647), (8, 8), (14, 14)], [((-2147483648), 2147483647), ((-2147483648), 2147483647), (0, 0), (6, 6), ((-2147483648), 2147483647), ((-2147483648), 2147483647), ((-2147483648), 2147483647), ((-2147483648), 2147483647), (8, 8), (14, 14)], [((-2147483648), 2147483647), ((-2147483648), 2147483647), (0, 0), (7, 2147483647), ((-2147483648), 2147483647), ((-2147483648), 2147483647), ((-2147483648), 2147483647), ((-2147483648), 2147483647), (8, 8), (14, 14)], [((-2147483648), 2147483647), ((-2147483648), 2147483647), (1, 7), ((-2147483648), (-1)), ((-2147483648), 2147483647), ((-2147483648), 2147483647), ((-2147483648), 2147483647), ((-2147483648), 2147483647), (8, 8), (14, 14)], [((-2147483648), 2147483647), ((-2147483648), 2147483647), (1, 1), (0, 0), ((-2147483648), 2147483647), ((-2147483648), 2147483647), ((-2147483648), 2147483647), ((-2147483648), 2147483647), (8, 8), (14, 14)]]
set_option maxRecDepth 100000 in
set_option maxHeartbeats 4000000 in
theorem ry_hc14_1 : ry_gc14_1.all (rz_end rz_f1) = true := by decide +kernel
def ry_gc14_2 : List rz_B := [[((-2147483648), 2147483647), ((-2147483648), 2147483647), (2, 2), (0, 0), ((-2147483648), 2147483647), ((-2147483648), 2147483647), ((-2147483648), 2147483647), ((-2147483648), 2147483647), (8, 8), (14, 14)], [((-2147483648), 2147483647), ((-2147483648), 2147483647), (3, 3), (0, 0), ((-2147483648), 2147483647), ((-2147483648), 2147483647), ((-2147483648), 2147483647), ((-2147483648), 2147483647), (8, 8), (14, 14)], [((-2147483648), 2147483647), ((-2147483648), 2147483647), (4, 4), (0, 0), ((-2147483648), 2147483647), ((-2147483648), 2147483647), ((-2147483648), 2147483647), ((-2147483648), 2147483647), (8, 8), (14, 14)], [((-2147483648), 2147483647), ((-2147483648), 2147483647), (5, 5), (0, 0), ((-2147483648), 2147483647), ((-2147483648), 2147483647), ((-2147483648), 2147483647), ((-2147483648), 2147483647), (8, 8), (14, 14)], [((-2147483648), 2147483647), ((-2147483648), 2147483647), (6, 6), (0, 0), ((-2147483648), 2147483647), ((-2147483648), 2147483647), ((-2147483648), 2147483647), ((-2147483648), 2147483647), (8, 8), (14, 14)]]
set_option maxRecDepth 100000 in
set_option maxHeartbeats 4000000 in
theorem ry_hc14_2 : ry_gc14_2.all (rz_end rz_f1) = true := by decide +kernel
def ry_gc14_3 : List rz_B := [[((-2147483648), 2147483647), ((-2147483648), 2147483647), (7, 7), (0, 0), ((-2147483648), 2147483647), ((-2147483648), 2147483647), ((-2147483648), 2147483647), ((-2147483648), 2147483647), (8, 8), (14, 14)], [((-2147483648), 2147483647), ((-2147483648), 2147483647), (1, 1), (1, 1), ((-2147483648), 2147483647), ((-2147483648), 2147483647), ((-2147483648), 2147483647), ((-2147483648), 2147483647), (8, 8), (14, 14)], [((-2147483648), 2147483647), ((-2147483648), 2147483647), (1, 1), (2, 2), ((-2147483648), 2147483647), ((-2147483648), 2147483647), ((-2147483648), 2147483647), ((-2147483648), 2147483647), (8, 8), (14, 14)], [((-2147483648), 2147483647), ((-2147483648), 2147483647), (1, 1), (3, 3), ((-2147483648), 2147483647), ((-2147483648), 2147483647), ((-2147483648), 2147483647), ((-2147483648), 2147483647), (8, 8), (14, 14)], [((-2147483648), 2147483647), ((-2147483648), 2147483647), (1, 1), (4, 4), ((-2147483648), 2147483647), ((-2147483648), 2147483647), ((-2147483648), 2147483647), ((-2147483648), 2147483647), (8, 8), (14, 14)]]
set_option maxRecDepth 100000 in
set_option maxHeartbeats 4000000 in
theorem ry_hc14_3 : ry_gc14_3.all (rz_end rz_f1) = true := by decide +kernel
def ry_gc14_4 : List rz_B := [[((-2147483648), 2147483647), ((-2147483648), 2147483647), (1, 1), (5, 5), ((-2147483648), 2147483647), ((-2147483648), 2147483647), ((-2147483648), 2147483647), ((-2147483648), 2147483647), (8, 8), (14, 14)], [((-2147483648), 2147483647), ((-2147483648), 2147483647), (2, 2), (1, 1), ((-2147483648), 2147483647), ((-2147483648), 2147483647), ((-2147483648), 2147483647), ((-2147483648), 2147483647), (8, 8), (14, 14)], [((-2147483648), 2147483647), ((-2147483648), 2147483647), (2, 2), (2, 2), ((-2147483648), 2147483647), ((-2147483648), 2147483647), ((-2147483648), 2147483647), ((-2147483648), 2147483647), (8, 8), (14, 14)], [((-2147483648), 2147483647), ((-2147483648), 2147483647), (2, 2), (3, 3), ((-2147483648), 2147483647), ((-2147483648), 2147483647), ((-2147483648), 2147483647), ((-2147483648), 2147483647), (8, 8), (14, 14)], [((-2147483648), 2147483647), ((-2147483648), 2147483647), (2, 2), (4, 4), ((-2147483648), 2147483647), ((-2147483648), 2147483647), ((-2147483648), 2147483647), ((-2147483648), 2147483647), (8, 8), (14, 14)]]
set_option maxRecDepth 100000 in
set_option maxHeartbeats 4000000 in
theorem ry_hc14_4 : ry_gc14_4.all (rz_end rz_f1) = true := by decide +kernel
def ry_gc14_5 : List rz_B := [[((-2147483648), 2147483647), ((-2147483648), 2147483647), (2, 2), (5, 5), ((-2147483648), 2147483647), ((-2147483648), 2147483647), ((-2147483648), 2147483647), ((-2147483648), 2147483647), (8, 8), (14, 14)], [((-2147483648), 2147483647), ((-2147483648), 2147483647), (3, 3), (1, 1), ((-2147483648), 2147483647), ((-2147483648), 2147483647), ((-2147483648), 2147483647), ((-2147483648), 2147483647), (8, 8), (14, 14)], [((-2147483648), 2147483647), ((-2147483648), 2147483647), (3, 3), (2, 2), ((-2147483648), 2147483647), ((-2147483648), 2147483647), ((-2147483648), 2147483647), ((-2147483648), 2147483647), (8, 8), (14, 14)], [((-2147483648), 2147483647), ((-2147483648), 2147483647), (3, 3), (3, 3), ((-2147483648), 2147483647), ((-2147483648), 2147483647), ((-2147483648), 2147483647), ((-2147483648), 2147483647), (8, 8), (14, 14)], [((-2147483648), 2147483647), ((-2147483648), 2147483647), (3, 3), (4, 4), ((-2147483648), 2147483647), ((-2147483648), 2147483647), ((-2147483648), 2147483647), ((-2147483648), 2147483647), (8, 8), (14, 14)]]
set_option maxRecDepth 100000 in
set_option maxHeartbeats 4000000 in
theorem ry_hc14_5 : ry_gc14_5.all (rz_end rz_f1) = true := by decide +kernel
def ry_gc14_6 : List rz_B := [[((-2147483648), 2147483647), ((-2147483648), 2147483647), (3, 3), (5, 5), ((-2147483648), 2147483647), ((-2147483648), 2147483647), ((-2147483648), 2147483647), ((-2147483648), 2147483647), (8, 8), (14, 14)], [((-2147483648), 2147483647), ((-2147483648), 2147483647), (4, 4), (1, 1), ((-2147483648), 2147483647), ((-2147483648), 2147483647), ((-2147483648), 2147483647), ((-2147483648), 2147483647), (8, 8), (14, 14)], [((-2147483648), 2147483647), ((-2147483648), 2147483647), (4, 4), (2, 2), ((-2147483648), 2147483647), ((-2147483648), 2147483647), ((-2147483648), 2147483647), ((-2147483648), 2147483647), (8, 8), (14, 14)], [((-2147483648), 2147483647), ((-2147483648), 2147483647), (4, 4), (3, 3), ((-2147483648), 2147483647), ((-2147483648), 2147483647), ((-2147483648), 2147483647), ((-2147483648), 2147483647), (8, 8), (14, 14)], [((-2147483648), 2147483647), ((-2147483648), 2147483647), (4, 4), (4, 4), ((-2147483648), 2147483647), ((-2147483648), 2147483647), ((-2147483648), 2147483647), ((-2147483648), 2147483647), (8, 8), (14, 14)]]
set_option maxRecDepth 100000 in
set_option maxHeartbeats 4000000 in
theorem ry_hc14_6 : ry_gc14_6.all (rz_end rz_f1) = true := by decide +kernel
def ry_gc14_7 : List rz_B := [[((-2147483648), 2147483647), ((-2147483648), 2147483647), (4, 4), (5, 5), ((-2147483648), 2147483647), ((-2147483648), 2147483647), ((-2147483648), 2147483647), ((-2147483648), 2147483647), (8, 8), (14, 14)], [((-2147483648), 2147483647), ((-2147483648), 2147483647), (5, 5), (1, 1), ((-2147483648), 2147483647), ((-2147483648), 2147483647), ((-2147483648), 2147483647), ((-2147483648), 2147483647), (8, 8), (14, 14)], [((-2147483648), 2147483647), ((-2147483648), 2147483647), (5, 5), (2, 2), ((-2147483648), 2147483647), ((-2147483648), 2147483647), ((-2147483648), 2147483647), ((-2147483648), 2147483647), (8, 8), (14, 14)], [((-2147483648), 2147483647), ((-2147483648), 2147483647), (5, 5), (3, 3), ((-2147483648), 2147483647), ((-2147483648), 2147483647), ((-2147483648), 2147483647), ((-2147483648), 2147483647), (8, 8), (14, 14)], [((-2147483648), 2147483647), ((-2147483648), 2147483647), (5, 5), (4, 4), ((-2147483648), 2147483647), ((-2147483648), 2147483647), ((-2147483648), 2147483647), ((-2147483648), 2147483647), (8, 8), (14, 14)]]
set_option maxRecDepth 100000 in
set_option maxHeartbeats 4000000 in
theorem ry_hc14_7 : ry_gc14_7.all (rz_end rz_f1) = true := by decide +kernel
def ry_gc14_8 : List rz_B := [[((-2147483648), 2147483647), ((-2147483648), 2147483647), (5, 5), (5, 5), ((-2147483648), 2147483647), ((-2147483648), 2147483647), ((-2147483648), 2147483647), ((-2147483648), 2147483647), (8, 8), (14, 14)], [((-2147483648), 2147483647), ((-2147483648), 2147483647), (6, 6), (1, 1), ((-2147483648), 2147483647), ((-2147483648), 2147483647), ((-2147483648), 2147483647), ((-2147483648), 2147483647), (8, 8), (14, 14)], [((-2147483648), 2147483647), ((-2147483648), 2147483647), (6, 6), (2, 2), ((-2147483648), 2147483647), ((-2147483648), 2147483647), ((-2147483648), 2147483647), ((-2147483648), 2147483647), (8, 8), (14, 14)], [((-2147483648), 2147483647), ((-2147483648), 2147483647), (6, 6), (3, 3), ((-2147483648), 2147483647), ((-2147483648), 2147483647), ((-2147483648), 2147483647), ((-2147483648), 2147483647), (8, 8), (14, 14)], [((-2147483648), 2147483647), ((-2147483648), 2147483647), (6, 6), (4, 4), ((-2147483648), 2147483647), ((-2147483648), 2147483647), ((-2147483648), 2147483647), ((-2147483648), 2147483647), (8, 8), (14, 14)]]
set_option maxRecDepth 100000 in
set_option maxHeartbeats 4000000 in
theorem ry_hc14_8 : ry_gc14_8.all (rz_end rz_f1) = true := by decide +kernel
def ry_gc14_9 : List rz_B := [[((-2147483648), 2147483647), ((-2147483648), 2147483647), (6, 6), (5, 5), ((-2147483648), 2147483647), ((-2147483648), 2147483647), ((-2147483648), 2147483647), ((-2147483648), 2147483647), (8, 8), (14, 14)], [((-2147483648), 2147483647), ((-2147483648), 2147483647), (7, 7), (1, 1), ((-2147483648), 2147483647), ((-2147483648), 2147483647), ((-2147483648), 2147483647), ((-2147483648), 2147483647), (8, 8), (14, 14)], [((-2147483648), 2147483647), ((-2147483648), 2147483647), (7, 7), (2, 2), ((-2147483648), 2147483647), ((-2147483648), 2147483647), ((-2147483648), 2147483647), ((-2147483648), 2147483647), (8, 8), (14, 14)], [((-2147483648), 2147483647), ((-2147483648), 2147483647), (7, 7), (3, 3), ((-2147483648), 2147483647), ((-2147483648), 2147483647), ((-2147483648), 2147483647), ((-2147483648), 2147483647), (8, 8), (14, 14)], [((-2147483648), 2147483647), ((-2147483648), 2147483647), (7, 7), (4, 4), ((-2147483648), 2147483647), ((-2147483648), 2147483647), ((-2147483648), 2147483647), ((-2147483648), 2147483647), (8, 8), (14, 14)]]
set_option maxRecDepth 100000 in
set_option maxHeartbeats 4000000 in
theorem ry_hc14_9 : ry_gc14_9.all (rz_end rz_f1) = true := by decide +kernel
def ry_gc14_10 : List rz_B := [[((-2147483648), 2147483647), ((-2147483648), 2147483647), (7, 7), (5, 5), ((-2147483648), 2147483647), ((-2147483648), 2147483647), ((-2147483648), 2147483647), ((-2147483648), 2147483647), (8, 8), (14, 14)], [((-2147483648), 2147483647), ((-2147483648), 2147483647), (1, 7), (6, 6), ((-2147483648), 2147483647), ((-2147483648), 2147483647), ((-2147483648), 2147483647), ((-2147483648), 2147483647), (8, 8), (14, 14)], [((-2147483648), 2147483647), ((-2147483648), 2147483647), (1, 7), (7, 2147483647), ((-2147483648), 2147483647), ((-2147483648), 2147483647), ((-2147483648), 2147483647), ((-2147483648), 2147483647), (8, 8), (14, 14)], [((-2147483648), 2147483647), ((-2147483648), 2147483647), (8, 8), ((-2147483648), 2147483647), ((-2147483648), 2147483647), ((-2147483648), 2147483647), ((-2147483648), 2147483647), ((-2147483648), 2147483647), (8, 8), (14, 14)], [((-2147483648), 2147483647), ((-2147483648), 2147483647), (9, 2147483647), ((-2147483648), 2147483647), ((-2147483648), 2147483647), ((-2147483648), 2147483647), ((-2147483648), 2147483647), ((-2147483648), 2147483647), (8, 8), (14, 14)]]
set_option maxRecDepth 100000 in
set_option maxHeartbeats 4000000 in
theorem ry_hc14_10 : ry_gc14_10.all (rz_end rz_f1) = true := by decide +kernel
def ry_lc14 : List rz_B := ry_gc14_0 ++ (ry_gc14_1 ++ (ry_gc14_2 ++ (ry_gc14_3 ++ (ry_gc14_4 ++ (ry_gc14_5 ++ (ry_gc14_6 ++ (ry_gc14_7 ++ (ry_gc14_8 ++ (ry_gc14_9 ++ (ry_gc14_10))))))))))
theorem ry_pc14 : ∀ B ∈ ry_lc14, rz_end rz_f1 B = true := List.forall_mem_append.mpr ⟨List.all_eq_true.mp ry_hc14_0, List.forall_mem_append.mpr ⟨List.all_eq_true.mp ry_hc14_1, List.forall_mem_append.mpr ⟨List.all_eq_true.mp ry_hc14_2, List.forall_mem_append.mpr ⟨List.all_eq_true.mp ry_hc14_3, List.forall_mem_append.mpr ⟨List.all_eq_true.mp ry_hc14_4, List.forall_mem_append.mpr ⟨List.all_eq_true.mp ry_hc14_5, List.forall_mem_append.mpr ⟨List.all_eq_true.mp ry_hc14_6, List.forall_mem_append.mpr ⟨List.all_eq_true.mp ry_hc14_7, List.forall_mem_append.mpr ⟨List.all_eq_true.mp ry_hc14_8, List.forall_mem_append.mpr ⟨List.all_eq_true.mp ry_hc14_9, List.all_eq_true.mp ry_hc14_10⟩⟩⟩⟩⟩⟩⟩⟩⟩⟩
set_option maxRecDepth 100000 in
set_option maxHeartbeats 4000000 in
theorem ry_sc14 : rz_all (fun B => ry_lc14.any (rz_eqB B)) [(2, 0), (99, 0), (2, 1), (3, 0), (99, 0), (3, 1), (99, 0), (3, 6), (3, 5), (3, 3), (3, 2), (99, 0), (99, 0), (3, 4), (99, 0), (99, 0), (99, 0), (3, 7), (99, 0), (99, 0), (2, 8), (3, 0), (99, 0), (3, 1), (2, 4), (2, 2), (99, 0), (2, 3), (99, 0), (99, 0), (2, 6), (2, 5), (99, 0), (99, 0), (2, 7), (99, 0), (99, 0), (3, 6), (2, 4), (2, 2), (3, 5), (3, 3), (3, 2), (99, 0), (99, 0), (3, 4), (99, 0), (99, 0), (99, 0), (2, 3), (3, 5), (3, 3), (3, 2), (99, 0), (99, 0), (3, 4), (99, 0), (99, 0), (99, 0), (3, 5), (3, 3), (3, 2), (99, 0), (99, 0), (3, 4), (99, 0), (99, 0), (99, 0), (2, 6), (2, 5), (3, 5), (3, 3), (3, 2), (99, 0), (99, 0), (3, 4), (99, 0), (99, 0), (99, 0), (3, 5), (3, 3), (3, 2), (99, 0), (99, 0), (3, 4), (99, 0), (99, 0), (99, 0), (2, 7), (3, 5), (3, 3), (3, 2), (99, 0), (99, 0), (3, 4), (99, 0), (99, 0), (99, 0), (3, 5), (3, 3), (3, 2), (99, 0), (99, 0), (3, 4), (99, 0), (99, 0), (99, 0), (3, 7), (99, 0), (99, 0), (2, 9), (99, 0), (99, 0)] ry_bc14 = true := by decide +kernel
end
section
/-! The runs of the calls (15,). -/
def ry_bc15 : rz_B := [((-2147483648), 2147483647), ((-2147483648), 2147483647), ((-2147483648), 2147483647), ((-2147483648), 2147483647), ((-2147483648), 2147483647), ((-2147483648), 2147483647), ((-2147483648), 2147483647), ((-2147483648), 2147483647), (8, 8), (15, 15)]
def ry_gc15_0 : List rz_B := [[((-2147483648), 2147483647), ((-2147483648), 2147483647), ((-2147483648), (-1)), ((-2147483648), 2147483647), ((-2147483648), 2147483647), ((-2147483648), 2147483647), ((-2147483648), 2147483647), ((-2147483648), 2147483647), (8, 8), (15, 15)], [((-2147483648), 2147483647), ((-2147483648), 2147483647), (0, 0), ((-2147483648), (-1)), ((-2147483648), 2147483647), ((-2147483648), 2147483647), ((-2147483648), 2147483647), ((-2147483648), 2147483647), (8, 8), (15, 15)], [((-2147483648), 2147483647), ((-2147483648), 2147483647), (0, 0), (0, 0), ((-2147483648), 2147483647), ((-2147483648), 2147483647), ((-2147483648), 2147483647), ((-2147483648), 2147483647), (8, 8), (15, 15)], [((-2147483648), 2147483647), ((-2147483648), 2147483647), (0, 0), (1, 1), ((-2147483648), 2147483647), ((-2147483648), 2147483647), ((-2147483648), 2147483647), ((-2147483648), 2147483647), (8, 8), (15, 15)], [((-2147483648), 2147483647), ((-2147483648), 2147483647), (0, 0), (2, 2), ((-2147483648), 2147483647), ((-2147483648), 2147483647), ((-2147483648), 2147483647), ((-2147483648), 2147483647), (8, 8), (15, 15)], [((-2147483648), 2147483647), ((-2147483648), 2147483647), (0, 0), (3, 3), ((-2147483648), 2147483647), ((-2147483648), 2147483647), ((-2147483648), 2147483647), ((-2147483648), 2147483647), (8, 8), (15, 15)]]
set_option maxRecDepth 100000 in
set_option maxHeartbeats 4000000 in
theorem ry_hc15_0 : ry_gc15_0.all (rz_end rz_f1) = true := by decide +kernel
def ry_gc15_1 : List rz_B := [[((-2147483648), 2147483647), ((-2147483648), 2147483647), (0, 0), (4, 4), ((-2147483648), 2147483647), ((-2147483648), 2147483647), ((-2147483648), 2147483647), ((-2147483648), 2147483647), (8, 8), (15, 15)], [((-2147483648), 2147483647), ((-2147483648), 2147483647), (0, 0), (5, 5), ((-2147483648), 2147483647), ((-2147483648), 2147483647), ((-2147483648), 2147483647), ((-2147483648), 2147483647), (8, 8), (15, 15)], [((-2147483648), 2147483647), ((-2147483648), 2147483647), (0, 0), (6, 2147483647), ((-2147483648), 2147483647), ((-2147483648), 2147483647), ((-2147483648), 2147483647), ((-2147483648), 2147483647), (8, 8), (15, 15)], [((-2147483648), 2147483647), ((-2147483648), 2147483647), (1, 7), ((-2147483648), (-1)), ((-2147483648), 2147483647), ((-2147483648), 2147483647), ((-2147483648), 2147483647), ((-2147483648), 2147483647), (8, 8), (15, 15)], [((-2147483648), 2147483647), ((-2147483648), 2147483647), (1, 1), (0, 0), ((-2147483648), 2147483647), ((-2147483648), 2147483647), ((-2147483648), 2147483647), ((-2147483648), 2147483647), (8, 8), (15, 15)], [((-2147483648), 2147483647), ((-2147483648), 2147483647), (2, 2), (0, 0), ((-2147483648), 2147483647), ((-2147483648), 2147483647), ((-2147483648), 2147483647), ((-2147483648), 2147483647), (8, 8), (15, 15)]]
set_option maxRecDepth 100000 in
set_option maxHeartbeats 4000000 in
theorem ry_hc15_1 : ry_gc15_1.all (rz_end rz_f1) = true := by decide +kernel
def ry_gc15_2 : List rz_B := [[((-2147483648), 2147483647), ((-2147483648), 2147483647), (3, 3), (0, 0), ((-2147483648), 2147483647), ((-2147483648), 2147483647), ((-2147483648), 2147483647), ((-2147483648), 2147483647), (8, 8), (15, 15)], [((-2147483648), 2147483647), ((-2147483648), 2147483647), (4, 4), (0, 0), ((-2147483648), 2147483647), ((-2147483648), 2147483647), ((-2147483648), 2147483647), ((-2147483648), 2147483647), (8, 8), (15, 15)], [((-2147483648), 2147483647), ((-2147483648), 2147483647), (5, 5), (0, 0), ((-2147483648), 2147483647), ((-2147483648), 2147483647), ((-2147483648), 2147483647), ((-2147483648), 2147483647), (8, 8), (15, 15)], [((-2147483648), 2147483647), ((-2147483648), 2147483647), (6, 6), (0, 0), ((-2147483648), 2147483647), ((-2147483648), 2147483647), ((-2147483648), 2147483647), ((-2147483648), 2147483647), (8, 8), (15, 15)], [((-2147483648), 2147483647), ((-2147483648), 2147483647), (7, 7), (0, 0), ((-2147483648), 2147483647), ((-2147483648), 2147483647), ((-2147483648), 2147483647), ((-2147483648), 2147483647), (8, 8), (15, 15)]]
set_option maxRecDepth 100000 in
set_option maxHeartbeats 4000000 in
theorem ry_hc15_2 : ry_gc15_2.all (rz_end rz_f1) = true := by decide +kernel
def ry_gc15_3 : List rz_B := [[((-2147483648), 2147483647), ((-2147483648), 2147483647), (1, 1), (1, 1), ((-2147483648), 2147483647), ((-2147483648), 2147483647), ((-2147483648), 2147483647), ((-2147483648), 2147483647), (8, 8), (15, 15)], [((-2147483648), 2147483647), ((-2147483648), 2147483647), (1, 1), (2, 2), ((-2147483648), 2147483647), ((-2147483648), 2147483647), ((-2147483648), 2147483647), ((-2147483648), 2147483647), (8, 8), (15, 15)], [((-2147483648), 2147483647), ((-2147483648), 2147483647), (1, 1), (3, 3), ((-2147483648), 2147483647), ((-2147483648), 2147483647), ((-2147483648), 2147483647), ((-2147483648), 2147483647), (8, 8), (15, 15)], [((-2147483648), 2147483647), ((-2147483648), 2147483647), (1, 1), (4, 4), ((-2147483648), 2147483647), ((-2147483648), 2147483647), ((-2147483648), 2147483647), ((-2147483648), 2147483647), (8, 8), (15, 15)], [((-2147483648), 2147483647), ((-2147483648), 2147483647), (2, 2), (1, 1), ((-2147483648), 2147483647), ((-2147483648), 2147483647), ((-2147483648), 2147483647), ((-2147483648), 2147483647), (8, 8), (15, 15)]]
set_option maxRecDepth 100000 in
set_option maxHeartbeats 4000000 in
theorem ry_hc15_3 : ry_gc15_3.all (rz_end rz_f1) = true := by decide +kernel
def ry_gc15_4 : List rz_B := [[((-2147483648), 2147483647), ((-2147483648), 2147483647), (2, 2), (2, 2), ((-2147483648), 2147483647), ((-2147483648), 2147483647), ((-2147483648), 2147483647), ((-2147483648), 2147483647), (8, 8), (15, 15)], [((-2147483648), 2147483647), ((-2147483648), 2147483647), (2, 2), (3, 3), ((-2147483648), 2147483647), ((-2147483648), 2147483647), ((-2147483648), 2147483647), ((-2147483648), 2147483647), (8, 8), (15, 15)], [((-2147483648), 2147483647), ((-2147483648), 2147483647), (2, 2), (4, 4), ((-2147483648), 2147483647), ((-2147483648), 2147483647), ((-2147483648), 2147483647), ((-2147483648), 2147483647), (8, 8), (15, 15)], [((-2147483648), 2147483647), ((-2147483648), 2147483647), (3, 3), (1, 1), ((-2147483648), 2147483647), ((-2147483648), 2147483647), ((-2147483648), 2147483647), ((-2147483648), 2147483647), (8, 8), (15, 15)], [((-2147483648), 2147483647), ((-2147483648), 2147483647), (3, 3), (2, 2), ((-2147483648), 2147483647), ((-2147483648), 2147483647), ((-2147483648), 2147483647), ((-2147483648), 2147483647), (8, 8), (15, 15)]]
set_option maxRecDepth 100000 in
set_option maxHeartbeats 4000000 in
theorem ry_hc15_4 : ry_gc15_4.all (rz_end rz_f1) = true := by decide +kernel
def ry_gc15_5 : List rz_B := [[((-2147483648), 2147483647), ((-2147483648), 2147483647), (3, 3), (3, 3), ((-2147483648), 2147483647), ((-2147483648), 2147483647), ((-2147483648), 2147483647), ((-2147483648), 2147483647), (8, 8), (15, 15)], [((-2147483648), 2147483647), ((-2147483648), 2147483647), (3, 3), (4, 4), ((-2147483648), 2147483647), ((-2147483648), 2147483647), ((-2147483648), 2147483647), ((-2147483648), 2147483647), (8, 8), (15, 15)], [((-2147483648), 2147483647), ((-2147483648), 2147483647), (4, 4), (1, 1), ((-2147483648), 2147483647), ((-2147483648), 2147483647), ((-2147483648), 2147483647), ((-2147483648), 2147483647), (8, 8), (15, 15)], [((-2147483648), 2147483647), ((-2147483648), 2147483647), (4, 4), (2, 2), ((-2147483648), 2147483647), ((-2147483648), 2147483647), ((-2147483648), 2147483647), ((-2147483648), 2147483647), (8, 8), (15, 15)], [((-2147483648), 2147483647), ((-2147483648), 2147483647), (4, 4), (3, 3), ((-2147483648), 2147483647), ((-2147483648), 2147483647), ((-2147483648), 2147483647), ((-2147483648), 2147483647), (8, 8), (15, 15)]]
set_option maxRecDepth 100000 in
set_option maxHeartbeats 4000000 in
theorem ry_hc15_5 : ry_gc15_5.all (rz_end rz_f1) = true := by decide +kernel
def ry_gc15_6 : List rz_B := [[((-2147483648), 2147483647), ((-2147483648), 2147483647), (4, 4), (4, 4), ((-2147483648), 2147483647), ((-2147483648), 2147483647), ((-2147483648), 2147483647), ((-2147483648), 2147483647), (8, 8), (15, 15)], [((-2147483648), 2147483647), ((-2147483648), 2147483647), (5, 5), (1, 1), ((-2147483648), 2147483647), ((-2147483648), 2147483647), ((-2147483648), 2147483647), ((-2147483648), 2147483647), (8, 8), (15, 15)], [((-2147483648), 2147483647), ((-2147483648), 2147483647), (5, 5), (2, 2), ((-2147483648), 2147483647), ((-2147483648), 2147483647), ((-2147483648), 2147483647), ((-2147483648), 2147483647), (8, 8), (15, 15)], [((-2147483648), 2147483647), ((-2147483648), 2147483647), (5, 5), (3, 3), ((-2147483648), 2147483647), ((-2147483648), 2147483647), ((-2147483648), 2147483647), ((-2147483648), 2147483647), (8, 8), (15, 15)], [((-2147483648), 2147483647), ((-2147483648), 2147483647), (5, 5), (4, 4), ((-2147483648), 2147483647), ((-2147483648), 2147483647), ((-2147483648), 2147483647), ((-2147483648), 2147483647), (8, 8), (15, 15)]]
set_option maxRecDepth 100000 in
set_option maxHeartbeats 4000000 in
theorem ry_hc15_6 : ry_gc15_6.all (rz_end rz_f1) = true := by decide +kernel
def ry_gc15_7 : List rz_B := [[((-2147483648), 2147483647), ((-2147483648), 2147483647), (6, 6), (1, 1), ((-2147483648), 2147483647), ((-2147483648), 2147483647), ((-2147483648), 2147483647), ((-2147483648), 2147483647), (8, 8), (15, 15)], [((-2147483648), 2147483647), ((-2147483648), 2147483647), (6, 6), (2, 2), ((-2147483648), 2147483647), ((-2147483648), 2147483647), ((-2147483648), 2147483647), ((-2147483648), 2147483647), (8, 8), (15, 15)], [((-2147483648), 2147483647), ((-2147483648), 2147483647), (6, 6), (3, 3), ((-2147483648), 2147483647), ((-2147483648), 2147483647), ((-2147483648), 2147483647), ((-2147483648), 2147483647), (8, 8), (15, 15)], [((-2147483648), 2147483647), ((-2147483648), 2147483647), (6, 6), (4, 4), ((-2147483648), 2147483647), ((-2147483648), 2147483647), ((-2147483648), 2147483647), ((-2147483648), 2147483647), (8, 8), (15, 15)], [((-2147483648), 2147483647), ((-2147483648), 2147483647), (7, 7), (1, 1), ((-2147483648), 2147483647), ((-2147483648), 2147483647), ((-2147483648), 2147483647), ((-2147483648), 2147483647), (8, 8), (15, 15)]]
set_option maxRecDepth 100000 in
set_option maxHeartbeats 4000000 in
theorem ry_hc15_7 : ry_gc15_7.all (rz_end rz_f1) = true := by decide +kernel
def ry_gc15_8 : List rz_B := [[((-2147483648), 2147483647), ((-2147483648), 2147483647), (7, 7), (2, 2), ((-2147483648), 2147483647), ((-2147483648), 2147483647), ((-2147483648), 2147483647), ((-2147483648), 2147483647), (8, 8), (15, 15)], [((-2147483648), 2147483647), ((-2147483648), 2147483647), (7, 7), (3, 3), ((-2147483648), 2147483647), ((-2147483648), 2147483647), ((-2147483648), 2147483647), ((-2147483648), 2147483647), (8, 8), (15, 15)], [((-2147483648), 2147483647), ((-2147483648), 2147483647), (7, 7), (4, 4), ((-2147483648), 2147483647), ((-2147483648), 2147483647), ((-2147483648), 2147483647), ((-2147483648), 2147483647), (8, 8), (15, 15)], [((-2147483648), 2147483647), ((-2147483648), 2147483647), (1, 7), (5, 5), ((-2147483648), 2147483647), ((-2147483648), 2147483647), ((-2147483648), 2147483647), ((-2147483648), 2147483647), (8, 8), (15, 15)], [((-2147483648), 2147483647), ((-2147483648), 2147483647), (1, 7), (6, 2147483647), ((-2147483648), 2147483647), ((-2147483648), 2147483647), ((-2147483648), 2147483647), ((-2147483648), 2147483647), (8, 8), (15, 15)], [((-2147483648), 2147483647), ((-2147483648), 2147483647), (8, 8), ((-2147483648), 2147483647), ((-2147483648), 2147483647), ((-2147483648), 2147483647), ((-2147483648), 2147483647), ((-2147483648), 2147483647), (8, 8), (15, 15)]]
set_option maxRecDepth 100000 in
set_option maxHeartbeats 4000000 in
theorem ry_hc15_8 : ry_gc15_8.all (rz_end rz_f1) = true := by decide +kernel
def ry_gc15_9 : List rz_B := [[((-2147483648), 2147483647), ((-2147483648), 2147483647), (9, 2147483647), ((-2147483648), 2147483647), ((-2147483648), 2147483647), ((-2147483648), 2147483647), ((-2147483648), 2147483647), ((-2147483648), 2147483647), (8, 8), (15, 15)]]
set_option maxRecDepth 100000 in
set_option maxHeartbeats 4000000 in
theorem ry_hc15_9 : ry_gc15_9.all (rz_end rz_f1) = true := by decide +kernel
def ry_lc15 : List rz_B := ry_gc15_0 ++ (ry_gc15_1 ++ (ry_gc15_2 ++ (ry_gc15_3 ++ (ry_gc15_4 ++ (ry_gc15_5 ++ (ry_gc15_6 ++ (ry_gc15_7 ++ (ry_gc15_8 ++ (ry_gc15_9)))))))))
theorem ry_pc15 : ∀ B ∈ ry_lc15, rz_end rz_f1 B = true := List.forall_mem_append.mpr ⟨List.all_eq_true.mp ry_hc15_0, List.forall_mem_append.mpr ⟨List.all_eq_true.mp ry_hc15_1, List.forall_mem_append.mpr ⟨List.all_eq_true.mp ry_hc15_2, List.forall_mem_append.mpr ⟨List.all_eq_true.mp ry_hc15_3, List.forall_mem_append.mpr ⟨List.all_eq_true.mp ry_hc15_4, List.forall_mem_append.mpr ⟨List.all_eq_true.mp ry_hc15_5, List.forall_mem_append.mpr ⟨List.all_eq_true.mp ry_hc15_6, List.forall_mem_append.mpr ⟨List.all_eq_true.mp ry_hc15_7, List.forall_mem_append.mpr ⟨List.all_eq_true.mp ry_hc15_8, List.all_eq_true.mp ry_hc15_9⟩⟩⟩⟩⟩⟩⟩⟩⟩
set_option maxRecDepth 100000 in
set_option maxHeartbeats 4000000 in
theorem ry_sc15 : rz_all (fun B => ry_lc15.any (rz_eqB B)) [(2, 0), (99, 0), (2, 1), (3, 0), (99, 0), (3, 1), (99, 0), (3, 5), (3, 4), (3, 2), (99, 0), (3, 3), (99, 0), (99, 0), (99, 0), (3, 6), (99, 0), (99, 0), (2, 8), (3, 0), (99, 0), (3, 1), (2, 4), (2, 2), (99, 0), (2, 3), (99, 0), (99, 0), (2, 6), (2, 5), (99, 0), (99, 0), (2, 7), (99, 0), (99, 0), (3, 5), (2, 4), (2, 2), (3, 4), (3, 2), (99, 0), (3, 3), (99, 0), (99, 0), (99, 0), (2, 3), (3, 4), (3, 2), (99, 0), (3, 3), (99, 0), (99, 0), (99, 0), (3, 4), (3, 2), (99, 0), (3, 3), (99, 0), (99, 0), (99, 0), (2, 6), (2, 5), (3, 4), (3, 2), (99, 0), (3, 3), (99, 0), (99, 0), (99, 0), (3, 4), (3, 2), (99, 0), (3, 3), (99, 0), (99, 0), (99, 0), (2, 7), (3, 4), (3, 2), (99, 0), (3, 3), (99, 0), (99, 0), (99, 0), (3, 4), (3, 2), (99, 0), (3, 3), (99, 0), (99, 0), (99, 0), (3, 6), (99, 0), (99, 0), (2, 9), (99, 0), (99, 0)] ry_bc15 = true := by decide +kernel
end
section
/-! The runs of the calls (16,). -/
def ry_bc16 : rz_B := [((-2147483648), 2147483647), ((-2147483648), 2147483647), ((-2147483648), 2147483647), ((-2147483648), 2147483647), ((-2147483648), 2147483647), ((-2147483648), 2147483647), ((-2147483648), 2147483647), ((-2147483648), 2147483647), (8, 8), (16, 16)]
def ry_gc16_0 : List rz_B := [[((-2147483648), 2147483647), ((-2147483648), 2147483647), ((-2147483648), (-1)), ((-2147483648), 2147483647), ((-2147483648), 2147483647), ((-2147483648), 2147483647), ((-2147483648), 2147483647), ((-2147483648), 2147483647), (8, 8), (16, 16)], [((-2147483648), 2147483647), ((-2147483648), 2147483647), (0, 0), ((-2147483648), (-1)), ((-2147483648), 2147483647), ((-2147483648), 2147483647), ((-2147483648), 2147483647), ((-2147483648), 2147483647), (8, 8), (16, 16)], [((-2147483648), 2147483647), ((-2147483648), 2147483647), (0, 0), (0, 0), ((-2147483648), 2147483647), ((-2147483648), 2147483647), ((-2147483648), 2147483647), ((-2147483648), 2147483647), (8, 8), (16, 16)], [((-2147483648), 2147483647), ((-2147483648), 2147483647), (0, 0), (1, 1), ((-2147483648), 2147483647), ((-2147483648), 2147483647), ((-2147483648), 2147483647), ((-2147483648), 2147483647), (8, 8), (16, 16)], [((-2147483648), 2147483647), ((-2147483648), 2147483647), (0, 0), (2, 2), ((-2147483648), 2147483647), ((-2147483648), 2147483647), ((-2147483648), 2147483647), ((-2147483648), 2147483647), (8, 8), (16, 16)], [((-2147483648), 2147483647), ((-2147483648), 2147483647), (0, 0), (3, 2147483647), ((-2147483648), 2147483647), ((-2147483648), 2147483647), ((-2147483648), 2147483647), ((-2147483648), 2147483647), (8, 8), (16, 16)]]
set_option maxRecDepth 100000 in
set_option maxHeartbeats 4000000 in
theorem ry_hc16_0 : ry_gc16_0.all (rz_end rz_f1) = true := by decide +kernel
def ry_gc16_1 : List rz_B := [[((-2147483648), 2147483647), ((-2147483648), 2147483647), (1, 7), ((-2147483648), (-1)), ((-2147483648), 2147483647), ((-2147483648), 2147483647), ((-2147483648), 2147483647), ((-2147483648), 2147483647), (8, 8), (16, 16)], [((-2147483648), 2147483647), ((-2147483648), 2147483647), (1, 1), (0, 0), ((-2147483648), 2147483647), ((-2147483648), 2147483647), ((-2147483648), 2147483647), ((-2147483648), 2147483647), (8, 8), (16, 16)], [((-2147483648), 2147483647), ((-2147483648), 2147483647), (2, 2), (0, 0), ((-2147483648), 2147483647), ((-2147483648), 2147483647), ((-2147483648), 2147483647), ((-2147483648), 2147483647), (8, 8), (16, 16)], [((-2147483648), 2147483647), ((-2147483648), 2147483647), (3, 3), (0, 0), ((-2147483648), 2147483647), ((-2147483648), 2147483647), ((-2147483648), 2147483647), ((-2147483648), 2147483647), (8, 8), (16, 16)], [((-2147483648), 2147483647), ((-2147483648), 2147483647), (4, 4), (0, 0), ((-2147483648), 2147483647), ((-2147483648), 2147483647), ((-2147483648), 2147483647), ((-2147483648), 2147483647), (8, 8), (16, 16)]]
set_option maxRecDepth 100000 in
set_option maxHeartbeats 4000000 in
theorem ry_hc16_1 : ry_gc16_1.all (rz_end rz_f1) = true := by decide +kernel
def ry_gc16_2 : List rz_B := [[((-2147483648), 2147483647), ((-2147483648), 2147483647), (5, 5), (0, 0), ((-2147483648), 2147483647), ((-2147483648), 2147483647), ((-2147483648), 2147483647), ((-2147483648), 2147483647), (8, 8), (16, 16)], [((-2147483648), 2147483647), ((-2147483648), 2147483647), (6, 6), (0, 0), ((-2147483648), 2147483647), ((-2147483648), 2147483647), ((-2147483648), 2147483647), ((-2147483648), 2147483647), (8, 8), (16, 16)], [((-2147483648), 2147483647), ((-2147483648), 2147483647), (7, 7), (0, 0), ((-2147483648), 2147483647), ((-2147483648), 2147483647), ((-2147483648), 2147483647), ((-2147483648), 2147483647), (8, 8), (16, 16)], [((-2147483648), 2147483647), ((-2147483648), 2147483647), (1, 1), (1, 1), ((-2147483648), 2147483647), ((-2147483648), 2147483647), ((-2147483648), 2147483647), ((-2147483648), 2147483647), (8, 8), (16, 16)], [((-2147483648), 2147483647), ((-2147483648), 2147483647), (2, 2), (1, 1), ((-2147483648), 2147483647), ((-2147483648), 2147483647), ((-2147483648), 2147483647), ((-2147483648), 2147483647), (8, 8), (16, 16)]]
set_option maxRecDepth 100000 in
set_option maxHeartbeats 4000000 in
theorem ry_hc16_2 : ry_gc16_2.all (rz_end rz_f1) = true := by decide +kernel
def ry_gc16_3 : List rz_B := [[((-2147483648), 2147483647), ((-2147483648), 2147483647), (3, 3), (1, 1), ((-2147483648), 2147483647), ((-2147483648), 2147483647), ((-2147483648), 2147483647), ((-2147483648), 2147483647), (8, 8), (16, 16)], [((-2147483648), 2147483647), ((-2147483648), 2147483647), (4, 4), (1, 1), ((-2147483648), 2147483647), ((-2147483648), 2147483647), ((-2147483648), 2147483647), ((-2147483648), 2147483647), (8, 8), (16, 16)], [((-2147483648), 2147483647), ((-2147483648), 2147483647), (5, 5), (1, 1), ((-2147483648), 2147483647), ((-2147483648), 2147483647), ((-2147483648), 2147483647), ((-2147483648), 2147483647), (8, 8), (16, 16)], [((-2147483648), 2147483647), ((-2147483648), 2147483647), (6, 6), (1, 1), ((-2147483648), 2147483647), ((-2147483648), 2147483647), ((-2147483648), 2147483647), ((-2147483648), 2147483647), (8, 8), (16, 16)], [((-2147483648), 2147483647), ((-2147483648), 2147483647), (7, 7), (1, 1), ((-2147483648), 2147483647), ((-2147483648), 2147483647), ((-2147483648), 2147483647), ((-2147483648), 2147483647), (8, 8), (16, 16)]]
set_option maxRecDepth 100000 in
set_option maxHeartbeats 4000000 in
theorem ry_hc16_3 : ry_gc16_3.all (rz_end rz_f1) = true := by decide +kernel
def ry_gc16_4 : List rz_B := [[((-2147483648), 2147483647), ((-2147483648), 2147483647), (1, 7), (2, 2), ((-2147483648), 2147483647), ((-2147483648), 2147483647), ((-2147483648), 2147483647), ((-2147483648), 2147483647), (8, 8), (16, 16)], [((-2147483648), 2147483647), ((-2147483648), 2147483647), (1, 7), (3, 2147483647), ((-2147483648), 2147483647), ((-2147483648), 2147483647), ((-2147483648), 2147483647), ((-2147483648), 2147483647), (8, 8), (16, 16)], [((-2147483648), 2147483647), ((-2147483648), 2147483647), (8, 8), ((-2147483648), 2147483647), ((-2147483648), 2147483647), ((-2147483648), 2147483647), ((-2147483648), 2147483647), ((-2147483648), 2147483647), (8, 8), (16, 16)], [((-2147483648), 2147483647), ((-2147483648), 2147483647), (9, 2147483647), ((-2147483648), 2147483647), ((-2147483648), 2147483647), ((-2147483648), 2147483647), ((-2147483648), 2147483647), ((-2147483648), 2147483647), (8, 8), (16, 16)]]
set_option maxRecDepth 100000 in
set_option maxHeartbeats 4000000 in
theorem ry_hc16_4 : ry_gc16_4.all (rz_end rz_f1) = true := by decide +kernel
def ry_lc16 : List rz_B := ry_gc16_0 ++ (ry_gc16_1 ++ (ry_gc16_2 ++ (ry_gc16_3 ++ (ry_gc16_4))))
theorem ry_pc16 : ∀ B ∈ ry_lc16, rz_end rz_f1 B = true := List.forall_mem_append.mpr ⟨List.all_eq_true.mp ry_hc16_0, List.forall_mem_append.mpr ⟨List.all_eq_true.mp ry_hc16_1, List.forall_mem_append.mpr ⟨List.all_eq_true.mp ry_hc16_2, List.forall_mem_append.mpr ⟨List.all_eq_true.mp ry_hc16_3, List.all_eq_true.mp ry_hc16_4⟩⟩⟩⟩
set_option maxRecDepth 100000 in
set_option maxHeartbeats 4000000 in
theorem ry_sc16 : rz_all (fun B => ry_lc16.any (rz_eqB B)) [(2, 0), (99, 0), (2, 1), (3, 0), (99, 0), (3, 1), (99, 0), (3, 2), (99, 0), (3, 3), (99, 0), (99, 0), (2, 8), (3, 0), (99, 0), (3, 1), (2, 4), (2, 2), (99, 0), (2, 3), (99, 0), (99, 0), (2, 6), (2, 5), (99, 0), (99, 0), (2, 7), (99, 0), (99, 0), (3, 2), (2, 4), (2, 2), (99, 0), (2, 3), (99, 0), (99, 0), (2, 6), (2, 5), (99, 0), (99, 0), (2, 7), (99, 0), (99, 0), (3, 3), (99, 0), (99, 0), (2, 9), (99, 0), (99, 0)] ry_bc16 = true := by decide +kernel
end
section
/-! The runs of the calls (17,). -/
def ry_bc17 : rz_B := [((-2147483648), 2147483647), ((-2147483648), 2147483647), ((-2147483648), 2147483647), ((-2147483648), 2147483647), ((-2147483648), 2147483647), ((-2147483648), 2147483647), ((-2147483648), 2147483647), ((-2147483648), 2147483647), (8, 8), (17, 17)]
def ry_gc17_0 : List rz_B := [[((-2147483648), 2147483647), ((-2147483648), 2147483647), ((-2147483648), (-1)), ((-2147483648), 2147483647), ((-2147483648), 2147483647), ((-2147483648), 2147483647), ((-2147483648), 2147483647), ((-2147483648), 2147483647), (8, 8), (17, 17)], [((-2147483648), 2147483647), ((-2147483648), 2147483647), (0, 0), ((-2147483648), (-1)), ((-2147483648), 2147483647), ((-2147483648), 2147483647), ((-2147483648), 2147483647), ((-2147483648), 2147483647), (8, 8), (17, 17)], [((-2147483648), 2147483647), ((-2147483648), 2147483647), (0, 0), (0, 0), ((-2147483648), 2147483647), ((-2147483648), 2147483647), ((-2147483648), 2147483647), ((-2147483648), 2147483647), (8, 8), (17, 17)], [((-2147483648), 2147483647), ((-2147483648), 2147483647), (0, 0), (1, 1), ((-2147483648), 2147483647), ((-2147483648), 2147483647), ((-2147483648), 2147483647), ((-2147483648), 2147483647), (8, 8), (17, 17)], [((-2147483648), 2147483647), ((-2147483648), 2147483647), (0, 0), (2, 2), ((-2147483648), 2147483647), ((-2147483648), 2147483647), ((-2147483648), 2147483647), ((-2147483648), 2147483647), (8, 8), (17, 17)], [((-2147483648), 2147483647), ((-2147483648), 2147483647), (0, 0), (3, 3), ((-2147483648), 2147483647), ((-2147483648), 2147483647), ((-2147483648), 2147483647), ((-2147483648), 2147483647), (8, 8), (17, 17)]]
set_option maxRecDepth 100000 in
set_option maxHeartbeats 4000000 in
theorem ry_hc17_0 : ry_gc17_0.all (rz_end rz_f1) = true := by decide +kernel
def ry_gc17_1 : List rz_B := [[((-2147483648), 2147483647), ((-2147483648), 2147483647), (0, 0), (4, 4), ((-2147483648), 2147483647), ((-2147483648), 2147483647), ((-2147483648), 2147483647), ((-2147483648), 2147483647), (8, 8), (17, 17)], [((-2147483648), 2147483647), ((-2147483648), 2147483647), (0, 0), (5, 2147483647), ((-2147483648), 2147483647), ((-2147483648), 2147483647), ((-2147483648), 2147483647), ((-2147483648), 2147483647), (8, 8), (17, 17)], [((-2147483648), 2147483647), ((-2147483648), 2147483647), (1, 7), ((-2147483648), (-1)), ((-2147483648), 2147483647), ((-2147483648), 2147483647), ((-2147483648), 2147483647), ((-2147483648), 2147483647), (8, 8), (17, 17)], [((-2147483648), 2147483647), ((-2147483648), 2147483647), (1, 1), (0, 0), ((-2147483648), 2147483647), ((-2147483648), 2147483647), ((-2147483648), 2147483647), ((-2147483648), 2147483647), (8, 8), (17, 17)], [((-2147483648), 2147483647), ((-2147483648), 2147483647), (2, 2), (0, 0), ((-2147483648), 2147483647), ((-2147483648), 2147483647), ((-2147483648), 2147483647), ((-2147483648), 2147483647), (8, 8), (17, 17)], [((-2147483648), 2147483647), ((-2147483648), 2147483647), (3, 3), (0, 0), ((-2147483648), 2147483647), ((-2147483648), 2147483647), ((-2147483648), 2147483647), ((-2147483648), 2147483647), (8, 8), (17, 17)]]
set_option maxRecDepth 100000 in
set_option maxHeartbeats 4000000 in
theorem ry_hc17_1 : ry_gc17_1.all (rz_end rz_f1) = true := by decide +kernel
def ry_gc17_2 : List rz_B := [[((-2147483648), 2147483647), ((-2147483648), 2147483647), (4, 4), (0, 0), ((-2147483648), 2147483647), ((-2147483648), 2147483647), ((-2147483648), 2147483647), ((-2147483648), 2147483647), (8, 8), (17, 17)], [((-2147483648), 2147483647), ((-2147483648), 2147483647), (5, 5), (0, 0), ((-2147483648), 2147483647), ((-2147483648), 2147483647), ((-2147483648), 2147483647), ((-2147483648), 2147483647), (8, 8), (17, 17)], [((-2147483648), 2147483647), ((-2147483648), 2147483647), (6, 6), (0, 0), ((-2147483648), 2147483647), ((-2147483648), 2147483647), ((-2147483648), 2147483647), ((-2147483648), 2147483647), (8, 8), (17, 17)], [((-2147483648), 2147483647), ((-2147483648), 2147483647), (7, 7), (0, 0), ((-2147483648), 2147483647), ((-2147483648), 2147483647), ((-2147483648), 2147483647), ((-2147483648), 2147483647), (8, 8), (17, 17)], [((-2147483648), 2147483647), ((-2147483648), 2147483647), (1, 1), (1, 1), ((-2147483648), 2147483647), ((-2147483648), 2147483647), ((-2147483648), 2147483647), ((-2147483648), 2147483647), (8, 8), (17, 17)]]
set_option maxRecDepth 100000 in
set_option maxHeartbeats 4000000 in
theorem ry_hc17_2 : ry_gc17_2.all (rz_end rz_f1) = true := by decide +kernel
def ry_gc17_3 : List rz_B := [[((-2147483648), 2147483647), ((-2147483648), 2147483647), (1, 1), (2, 2), ((-2147483648), 2147483647), ((-2147483648), 2147483647), ((-2147483648), 2147483647), ((-2147483648), 2147483647), (8, 8), (17, 17)], [((-2147483648), 2147483647), ((-2147483648), 2147483647), (1, 1), (3, 3), ((-2147483648), 2147483647), ((-2147483648), 2147483647), ((-2147483648), 2147483647), ((-2147483648), 2147483647), (8, 8), (17, 17)], [((-2147483648), 2147483647), ((-2147483648), 2147483647), (2, 2), (1, 1), ((-2147483648), 2147483647), ((-2147483648), 2147483647), ((-2147483648), 2147483647), ((-2147483648), 2147483647), (8, 8), (17, 17)], [((-2147483648), 2147483647), ((-2147483648), 2147483647), (2, 2), (2, 2), ((-2147483648), 2147483647), ((-2147483648), 2147483647), ((-2147483648), 2147483647), ((-2147483648), 2147483647), (8, 8), (17, 17)], [((-2147483648), 2147483647), ((-2147483648), 2147483647), (2, 2), (3, 3), ((-2147483648), 2147483647), ((-2147483648), 2147483647), ((-2147483648), 2147483647), ((-2147483648), 2147483647), (8, 8), (17, 17)]]
set_option maxRecDepth 100000 in
set_option maxHeartbeats 4000000 in
theorem ry_hc17_3 : ry_gc17_3.all (rz_end rz_f1) = true := by decide +kernel
def ry_gc17_4 : List rz_B := [[((-2147483648), 2147483647), ((-2147483648), 2147483647), (3, 3), (1, 1), ((-2147483648), 2147483647), ((-2147483648), 2147483647), ((-2147483648), 2147483647), ((-2147483648), 2147483647), (8, 8), (17, 17)], [((-2147483648), 2147483647), ((-2147483648), 2147483647), (3, 3), (2, 2), ((-2147483648), 2147483647), ((-2147483648), 2147483647), ((-2147483648), 2147483647), ((-2147483648), 2147483647), (8, 8), (17, 17)], [((-2147483648), 2147483647), ((-2147483648), 2147483647), (3, 3), (3, 3), ((-2147483648), 2147483647), ((-2147483648), 2147483647), ((-2147483648), 2147483647), ((-2147483648), 2147483647), (8, 8), (17, 17)], [((-2147483648), 2147483647), ((-2147483648), 2147483647), (4, 4), (1, 1), ((-2147483648), 2147483647), ((-2147483648), 2147483647), ((-2147483648), 2147483647), ((-2147483648), 2147483647), (8, 8), (17, 17)], [((-2147483648), 2147483647), ((-2147483648), 2147483647), (4, 4), (2, 2), ((-2147483648), 2147483647), ((-2147483648), 2147483647), ((-2147483648), 2147483647), ((-2147483648), 2147483647), (8, 8), (17, 17)]]
set_option maxRecDepth 100000 in
set_option maxHeartbeats 4000000 in
theorem ry_hc17_4 : ry_gc17_4.all (rz_end rz_f1) = true := by decide +kernel
def ry_gc17_5 : List rz_B := [[((-2147483648), 2147483647), ((-2147483648), 2147483647), (4, 4), (3, 3), ((-2147483648), 2147483647), ((-2147483648), 2147483647), ((-2147483648), 2147483647), ((-2147483648), 2147483647), (8, 8), (17, 17)], [((-2147483648), 2147483647), ((-2147483648), 2147483647), (5, 5), (1, 1), ((-2147483648), 2147483647), ((-2147483648), 2147483647), ((-2147483648), 2147483647), ((-2147483648), 2147483647), (8, 8), (17, 17)], [((-2147483648), 2147483647), ((-2147483648), 2147483647), (5, 5), (2, 2), ((-2147483648), 2147483647), ((-2147483648), 2147483647), ((-2147483648), 2147483647), ((-2147483648), 2147483647), (8, 8), (17, 17)], [((-2147483648), 2147483647), ((-2147483648), 2147483647), (5, 5), (3, 3), ((-2147483648), 2147483647), ((-2147483648), 2147483647), ((-2147483648), 2147483647), ((-2147483648), 2147483647), (8, 8), (17, 17)], [((-2147483648), 2147483647), ((-2147483648), 2147483647), (6, 6), (1, 1), ((-2147483648), 2147483647), ((-2147483648), 2147483647), ((-2147483648), 2147483647), ((-2147483648), 2147483647), (8, 8), (17, 17)]]
set_option maxRecDepth 100000 in
set_option maxHeartbeats 4000000 in
theorem ry_hc17_5 : ry_gc17_5.all (rz_end rz_f1) = true := by decide +kernel
def ry_gc17_6 : List rz_B := [[((-2147483648), 2147483647), ((-2147483648), 2147483647), (6, 6), (2, 2), ((-2147483648), 2147483647), ((-2147483648), 2147483647), ((-2147483648), 2147483647), ((-2147483648), 2147483647), (8, 8), (17, 17)], [((-2147483648), 2147483647), ((-2147483648), 2147483647), (6, 6), (3, 3), ((-2147483648), 2147483647), ((-2147483648), 2147483647), ((-2147483648), 2147483647), ((-2147483648), 2147483647), (8, 8), (17, 17)], [((-2147483648), 2147483647), ((-2147483648), 2147483647), (7, 7), (1, 1), ((-2147483648), 2147483647), ((-2147483648), 2147483647), ((-2147483648), 2147483647), ((-2147483648), 2147483647), (8, 8), (17, 17)], [((-2147483648), 2147483647), ((-2147483648), 2147483647), (7, 7), (2, 2), ((-2147483648), 2147483647), ((-2147483648), 2147483647), ((-2147483648), 2147483647), ((-2147483648), 2147483647), (8, 8), (17, 17)], [((-2147483648), 2147483647), ((-2147483648), 2147483647), (7, 7), (3, 3), ((-2147483648), 2147483647), ((-2147483648), 2147483647), ((-2147483648), 2147483647), ((-2147483648), 2147483647), (8, 8), (17, 17)]]
set_option maxRecDepth 100000 in
set_option maxHeartbeats 4000000 in
theorem ry_hc17_6 : ry_gc17_6.all (rz_end rz_f1) = true := by decide +kernel
def ry_gc17_7 : List rz_B := [[((-2147483648), 2147483647), ((-2147483648), 2147483647), (1, 7), (4, 4), ((-2147483648), 2147483647), ((-2147483648), 2147483647), ((-2147483648), 2147483647), ((-2147483648), 2147483647), (8, 8), (17, 17)], [((-2147483648), 2147483647), ((-2147483648), 2147483647), (1, 7), (5, 2147483647), ((-2147483648), 2147483647), ((-2147483648), 2147483647), ((-2147483648), 2147483647), ((-2147483648), 2147483647), (8, 8), (17, 17)], [((-2147483648), 2147483647), ((-2147483648), 2147483647), (8, 8), ((-2147483648), 2147483647), ((-2147483648), 2147483647), ((-2147483648), 2147483647), ((-2147483648), 2147483647), ((-2147483648), 2147483647), (8, 8), (17, 17)], [((-2147483648), 2147483647), ((-2147483648), 2147483647), (9, 2147483647), ((-2147483648), 2147483647), ((-2147483648), 2147483647), ((-2147483648), 2147483647), ((-2147483648), 2147483647), ((-2147483648), 2147483647), (8, 8), (17, 17)]]
set_option maxRecDepth 100000 in
set_option maxHeartbeats 4000000 in
theorem ry_hc17_7 : ry_gc17_7.all (rz_end rz_f1) = true := by decide +kernel
def ry_lc17 : List rz_B := ry_gc17_0 ++ (ry_gc17_1 ++ (ry_gc17_2 ++ (ry_gc17_3 ++ (ry_gc17_4 ++ (ry_gc17_5 ++ (ry_gc17_6 ++ (ry_gc17_7)))))))
theorem ry_pc17 : ∀ B ∈ ry_lc17, rz_end rz_f1 B = true := List.forall_mem_append.mpr ⟨List.all_eq_true.mp ry_hc17_0, List.forall_mem_append.mpr ⟨List.all_eq_true.mp ry_hc17_1, List.forall_mem_append.mpr ⟨List.all_eq_true.mp ry_hc17_2, List.forall_mem_append.mpr ⟨List.all_eq_true.mp ry_hc17_3, List.forall_mem_append.mpr ⟨List.all_eq_true.mp ry_hc17_4, List.forall_mem_append.mpr ⟨List.all_eq_true.mp ry_hc17_5, List.forall_mem_append.mpr ⟨List.all_eq_true.mp ry_hc17_6, List.all_eq_true.mp ry_hc17_7⟩⟩⟩⟩⟩⟩⟩
set_option maxRecDepth 100000 in
set_option maxHeartbeats 4000000 in
theorem ry_sc17 : rz_all (fun B => ry_lc17.any (rz_eqB B)) [(2, 0), (99, 0), (2, 1), (3, 0), (99, 0), (3, 1), (99, 0), (3, 4), (3, 3), (3, 2), (99, 0), (99, 0), (99, 0), (3, 5), (99, 0), (99, 0), (2, 8), (3, 0), (99, 0), (3, 1), (2, 4), (2, 2), (99, 0), (2, 3), (99, 0), (99, 0), (2, 6), (2, 5), (99, 0), (99, 0), (2, 7), (99, 0), (99, 0), (3, 4), (2, 4), (2, 2), (3, 3), (3, 2), (99, 0), (99, 0), (99, 0), (2, 3), (3, 3), (3, 2), (99, 0), (99, 0), (99, 0), (3, 3), (3, 2), (99, 0), (99, 0), (99, 0), (2, 6), (2, 5), (3, 3), (3, 2), (99, 0), (99, 0), (99, 0), (3, 3), (3, 2), (99, 0), (99, 0), (99, 0), (2, 7), (3, 3), (3, 2), (99, 0), (99, 0), (99, 0), (3, 3), (3, 2), (99, 0), (99, 0), (99, 0), (3, 5), (99, 0), (99, 0), (2, 9), (99, 0), (99, 0)] ry_bc17 = true := by decide +kernel
end
section
/-! The runs of the calls (18, 19, 20, 21). -/
def ry_bc18 : rz_B := [((-2147483648), 2147483647), ((-2147483648), 2147483647), ((-2147483648), 2147483647), ((-2147483648), 2147483647), ((-2147483648), 2147483647), ((-2147483648), 2147483647), ((-2147483648), 2147483647), ((-2147483648), 2147483647), (8, 8), (18, 18)]
def ry_gc18_0 : List rz_B := [[((-2147483648), 2147483647), ((-2147483648), 2147483647), ((-2147483648), (-1)), ((-2147483648), (-1)), ((-2147483648), 2147483647), ((-2147483648), 2147483647), ((-2147483648), 2147483647), ((-2147483648), 2147483647), (8, 8), (18, 18)], [((-2147483648), 2147483647), ((-2147483648), 2147483647), (0, 0), ((-2147483648), (-1)), ((-2147483648), 2147483647), ((-2147483648), 2147483647), ((-2147483648), 2147483647), ((-2147483648), 2147483647), (8, 8), (18, 18)], [((-2147483648), 2147483647), ((-2147483648), 2147483647), (1, 2147483647), ((-2147483648), (-1)), ((-2147483648), 2147483647), ((-2147483648), 2147483647), ((-2147483648), 2147483647), ((-2147483648), 2147483647), (8, 8), (18, 18)], [((-2147483648), 2147483647), ((-2147483648), 2147483647), ((-2147483648), (-1)), (0, 0), ((-2147483648), 2147483647), ((-2147483648), 2147483647), ((-2147483648), 2147483647), ((-2147483648), 2147483647), (8, 8), (18, 18)], [((-2147483648), 2147483647), ((-2147483648), 2147483647), (0, 0), (0, 0), ((-2147483648), 2147483647), ((-2147483648), 2147483647), ((-2147483648), 2147483647), ((-2147483648), 2147483647), (8, 8), (18, 18)], [((-2147483648), 2147483647), ((-2147483648), 2147483647), (1, 2147483647), (0, 0), ((-2147483648), 2147483647), ((-2147483648), 2147483647), ((-2147483648), 2147483647), ((-2147483648), 2147483647), (8, 8), (18, 18)], [((-2147483648), 2147483647), ((-2147483648), 2147483647), ((-2147483648), (-1)), (1, 2147483647), ((-2147483648), 2147483647), ((-2147483648), 2147483647), ((-2147483648), 2147483647), ((-2147483648), 2147483647), (8, 8), (18, 18)], [((-2147483648), 2147483647), ((-2147483648), 2147483647), (0, 0), (1, 2147483647), ((-2147483648), 2147483647), ((-2147483648), 2147483647), ((-2147483648), 2147483647), ((-2147483648), 2147483647), (8, 8), (18, 18)], [((-2147483648), 2147483647), ((-2147483648), 2147483647), (1, 2147483647), (1, 2147483647), ((-2147483648), 2147483647), ((-2147483648), 2147483647), ((-2147483648), 2147483647), ((-2147483648), 2147483647), (8, 8), (18, 18)]]
set_option maxRecDepth 100000 in
set_option maxHeartbeats 4000000 in
theorem ry_hc18_0 : ry_gc18_0.all (rz_end rz_f1) = true := by decide +kernel
def ry_lc18 : List rz_B := ry_gc18_0
theorem ry_pc18 : ∀ B ∈ ry_lc18, rz_end rz_f1 B = true := List.all_eq_true.mp ry_hc18_0
set_option maxRecDepth 100000 in
set_option maxHeartbeats 4000000 in
theorem ry_sc18 : rz_all (fun B => ry_lc18.any (rz_eqB B)) [(3, 0), (2, 0), (99, 0), (2, 1), (99, 0), (99, 0), (3, 1), (2, 0), (99, 0), (2, 1), (99, 0), (99, 0), (2, 0), (99, 0), (2, 1), (99, 0), (99, 0)] ry_bc18 = true := by decide +kernel
def ry_bc19 : rz_B := [((-2147483648), 2147483647), ((-2147483648), 2147483647), ((-2147483648), 2147483647), ((-2147483648), 2147483647), ((-2147483648), 2147483647), ((-2147483648), 2147483647), ((-2147483648), 2147483647), ((-2147483648), 2147483647), (8, 8), (19, 19)]
def ry_gc19_0 : List rz_B := [[((-2147483648), 2147483647), ((-2147483648), 2147483647), ((-2147483648), (-1)), ((-2147483648), 2147483647), ((-2147483648), 2147483647), ((-2147483648), 2147483647), ((-2147483648), 2147483647), ((-2147483648), 2147483647), (8, 8), (19, 19)], [((-2147483648), 2147483647), ((-2147483648), 2147483647), (0, 0), ((-2147483648), 2147483647), ((-2147483648), 2147483647), ((-2147483648), 2147483647), ((-2147483648), 2147483647), ((-2147483648), 2147483647), (8, 8), (19, 19)], [((-2147483648), 2147483647), ((-2147483648), 2147483647), (1, 2147483647), ((-2147483648), 2147483647), ((-2147483648), 2147483647), ((-2147483648), 2147483647), ((-2147483648), 2147483647), ((-2147483648), 2147483647), (8, 8), (19, 19)]]
set_option maxRecDepth 100000 in
set_option maxHeartbeats 4000000 in
theorem ry_hc19_0 : ry_gc19_0.all (rz_end rz_f1) = true := by decide +kernel
def ry_lc19 : List rz_B := ry_gc19_0
theorem ry_pc19 : ∀ B ∈ ry_lc19, rz_end rz_f1 B = true := List.all_eq_true.mp ry_hc19_0
set_option maxRecDepth 100000 in
set_option maxHeartbeats 4000000 in
theorem ry_sc19 : rz_all (fun B => ry_lc19.any (rz_eqB B)) [(2, 0), (99, 0), (2, 1), (99, 0), (99, 0)] ry_bc19 = true := by decide +kernel
def ry_bc20 : rz_B := [((-2147483648), 2147483647), ((-2147483648), 2147483647), ((-2147483648), 2147483647), ((-2147483648), 2147483647), ((-2147483648), 2147483647), ((-2147483648), 2147483647), ((-2147483648), 2147483647), ((-2147483648), 2147483647), (8, 8), (20, 20)]
def ry_gc20_0 : List rz_B := [[((-2147483648), 2147483647), ((-2147483648), 2147483647), ((-2147483648), (-1)), ((-2147483648), 2147483647), ((-2147483648), 2147483647), ((-2147483648), 2147483647), ((-2147483648), 2147483647), ((-2147483648), 2147483647), (8, 8), (20, 20)], [((-2147483648), 2147483647), ((-2147483648), 2147483647), (0, 0), ((-2147483648), 2147483647), ((-2147483648), 2147483647), ((-2147483648), 2147483647), ((-2147483648), 2147483647), ((-2147483648), 2147483647), (8, 8), (20, 20)], [((-2147483648), 2147483647), ((-2147483648), 2147483647), (1, 1), ((-2147483648), 2147483647), ((-2147483648), 2147483647), ((-2147483648), 2147483647), ((-2147483648), 2147483647), ((-2147483648), 2147483647), (8, 8), (20, 20)], [((-2147483648), 2147483647), ((-2147483648), 2147483647), (2, 2), ((-2147483648), 2147483647), ((-2147483648), 2147483647), ((-2147483648), 2147483647), ((-2147483648), 2147483647), ((-2147483648), 2147483647), (8, 8), (20, 20)], [((-2147483648), 2147483647), ((-2147483648), 2147483647), (3, 3), ((-2147483648), 2147483647), ((-2147483648), 2147483647), ((-2147483648), 2147483647), ((-2147483648), 2147483647), ((-2147483648), 2147483647), (8, 8), (20, 20)], [((-2147483648), 2147483647), ((-2147483648), 2147483647), (4, 4), ((-2147483648), 2147483647), ((-2147483648), 2147483647), ((-2147483648), 2147483647), ((-2147483648), 2147483647), ((-2147483648), 2147483647), (8, 8), (20, 20)], [((-2147483648), 2147483647), ((-2147483648), 2147483647), (5, 5), ((-2147483648), 2147483647), ((-2147483648), 2147483647), ((-2147483648), 2147483647), ((-2147483648), 2147483647), ((-2147483648), 2147483647), (8, 8), (20, 20)], [((-2147483648), 2147483647), ((-2147483648), 2147483647), (6, 6), ((-2147483648), 2147483647), ((-2147483648), 2147483647), ((-2147483648), 2147483647), ((-2147483648), 2147483647), ((-2147483648), 2147483647), (8, 8), (20, 20)], [((-2147483648), 2147483647), ((-2147483648), 2147483647), (7, 7), ((-2147483648), 2147483647), ((-2147483648), 2147483647), ((-2147483648), 2147483647), ((-2147483648), 2147483647), ((-2147483648), 2147483647), (8, 8), (20, 20)]]
set_option maxRecDepth 100000 in
set_option maxHeartbeats 4000000 in
theorem ry_hc20_0 : ry_gc20_0.all (rz_end rz_f1) = true := by decide +kernel
def ry_gc20_1 : List rz_B := [[((-2147483648), 2147483647), ((-2147483648), 2147483647), (8, 8), ((-2147483648), 2147483647), ((-2147483648), 2147483647), ((-2147483648), 2147483647), ((-2147483648), 2147483647), ((-2147483648), 2147483647), (8, 8), (20, 20)], [((-2147483648), 2147483647), ((-2147483648), 2147483647), (9, 2147483647), ((-2147483648), 2147483647), ((-2147483648), 2147483647), ((-2147483648), 2147483647), ((-2147483648), 2147483647), ((-2147483648), 2147483647), (8, 8), (20, 20)]]
set_option maxRecDepth 100000 in
set_option maxHeartbeats 4000000 in
theorem ry_hc20_1 : ry_gc20_1.all (rz_end rz_f1) = true := by decide +kernel
def ry_lc20 : List rz_B := ry_gc20_0 ++ (ry_gc20_1)
theorem ry_pc20 : ∀ B ∈ ry_lc20, rz_end rz_f1 B = true := List.forall_mem_append.mpr ⟨List.all_eq_true.mp ry_hc20_0, List.all_eq_true.mp ry_hc20_1⟩
set_option maxRecDepth 100000 in
set_option maxHeartbeats 4000000 in
theorem ry_sc20 : rz_all (fun B => ry_lc20.any (rz_eqB B)) [(2, 0), (99, 0), (2, 1), (99, 0), (2, 8), (2, 7), (2, 4), (2, 2), (99, 0), (2, 3), (99, 0), (99, 0), (2, 5), (99, 0), (2, 6), (99, 0), (99, 0), (99, 0), (2, 9), (99, 0), (99, 0)] ry_bc20 = true := by decide +kernel
def ry_bc21 : rz_B := [((-2147483648), 2147483647), ((-2147483648), 2147483647), ((-2147483648), 2147483647), ((-2147483648), 2147483647), ((-2147483648), 2147483647), ((-2147483648), 2147483647), ((-2147483648), 2147483647), ((-2147483648), 2147483647), (8, 8), (21, 31)]
def ry_gc21_0 : List rz_B := [[((-2147483648), 2147483647), ((-2147483648), 2147483647), ((-2147483648), 2147483647), ((-2147483648), 2147483647), ((-2147483648), 2147483647), ((-2147483648), 2147483647), ((-2147483648), 2147483647), ((-2147483648), 2147483647), (8, 8), (21, 31)]]
set_option maxRecDepth 100000 in
set_option maxHeartbeats 4000000 in
theorem ry_hc21_0 : ry_gc21_0.all (rz_end rz_f1) = true := by decide +kernel
def ry_lc21 : List rz_B := ry_gc21_0
theorem ry_pc21 : ∀ B ∈ ry_lc21, rz_end rz_f1 B = true := List.all_eq_true.mp ry_hc21_0
set_option maxRecDepth 100000 in
set_option maxHeartbeats 4000000 in
theorem ry_sc21 : rz_all (fun B => ry_lc21.any (rz_eqB B)) [(99, 0)] ry_bc21 = true := by decide +kernel
end
section
/-! What a value, a cell, a heap, a frame of the small machine stand for. -/
abbrev rz_G : Type := Nat × Nat × (Nat → Int32) × va_G × (Nat → ClassId) × ClassId × Heap
abbrev rz_n0 (G : rz_G) : Nat := G.1
abbrev rz_b (G : rz_G) : Nat := G.2.1
abbrev rz_p (G : rz_G) : Nat → Int32 := G.2.2.1
abbrev rz_D (G : rz_G) : va_G := G.2.2.2.1
abbrev rz_a (G : rz_G) : Nat → ClassId := G.2.2.2.2.1
abbrev rz_x (G : rz_G) : ClassId := G.2.2.2.2.2.1
abbrev rz_H0 (G : rz_G) : Heap := G.2.2.2.2.2.2
def rz_vr (G : rz_G) (a : rz_V) (v : Value) : Prop := match a with
  | (0, c) => ∃ x : Int32, v = .int x ∧ x.toInt = c
  | (1, c) => v = .int (rz_p G c.toNat)
  | (2, c) => ∃ x : Int64, v = .long x ∧ x.toInt = c
  | (3, c) => v = .long (rz_p G c.toNat).toInt64
  | (4, c) => v = .ref (rz_n0 G + c.toNat)
  | (5, _) => v = .null
  | (6, _) => ∃ x : Int32, v = .int x
  | (7, _) => ∃ x : Int64, v = .long x
  | (8, _) => v = .ref (rz_b G)
  | _ => False
theorem rz_or3 {t a b c : Nat} (h : (Nat.beq t a || (Nat.beq t b || Nat.beq t c)) = true) : t = a ∨ t = b ∨ t = c := by
  simp only [Bool.or_eq_true] at h
  exact h.imp Nat.eq_of_beq_eq_true (fun h => h.imp Nat.eq_of_beq_eq_true Nat.eq_of_beq_eq_true)
theorem rz_vI {G : rz_G} {a : rz_V} {v : Value} (h : rz_isI a = true) (r : rz_vr G a v) : ∃ x : Int32, v = .int x := by
  obtain ⟨t, c⟩ := a
  rcases rz_or3 h with rfl | rfl | rfl
  · obtain ⟨x, hx, -⟩ := r; exact ⟨x, hx⟩
  · exact ⟨_, r⟩
  · exact r
theorem rz_vL {G : rz_G} {a : rz_V} {v : Value} (h : rz_isL a = true) (r : rz_vr G a v) : ∃ x : Int64, v = .long x := by
  obtain ⟨t, c⟩ := a
  rcases rz_or3 h with rfl | rfl | rfl
  · obtain ⟨x, hx, -⟩ := r; exact ⟨x, hx⟩
  · exact ⟨_, r⟩
  · exact r
theorem rz_vA {G : rz_G} {a : rz_V} {v : Value} (h : rz_isA a = true) (r : rz_vr G a v) : v = .null ∨ ∃ x : Nat, v = .ref x := by
  obtain ⟨t, c⟩ := a
  rcases rz_or3 h with rfl | rfl | rfl
  · exact Or.inr ⟨_, r⟩
  · exact Or.inl r
  · exact Or.inr ⟨_, r⟩
theorem rz_vk {G : rz_G} {a : rz_V} {v : Value} (h : rz_k a = true) (r : rz_vr G a v) : ∃ x : Int32, v = .int x ∧ x.toInt = a.2 := by
  obtain ⟨t, c⟩ := a
  cases Nat.eq_of_beq_eq_true h
  exact r
theorem rz_vlk {G : rz_G} {a : rz_V} {v : Value} (h : rz_lk2 a = true) (r : rz_vr G a v) : ∃ x : Int64, v = .long x ∧ x.toInt = a.2 := by
  obtain ⟨t, c⟩ := a
  cases Nat.eq_of_beq_eq_true h
  exact r
theorem rz_v4 {G : rz_G} {a : rz_V} {v : Value} (h : Nat.beq a.1 4 = true) (r : rz_vr G a v) : v = .ref (rz_n0 G + a.2.toNat) := by
  obtain ⟨t, c⟩ := a
  cases Nat.eq_of_beq_eq_true h
  exact r
theorem rz_v5 {G : rz_G} {a : rz_V} {v : Value} (h : Nat.beq a.1 5 = true) (r : rz_vr G a v) : v = .null := by
  obtain ⟨t, c⟩ := a
  cases Nat.eq_of_beq_eq_true h
  exact r
theorem rz_v8 {G : rz_G} {a : rz_V} {v : Value} (h : Nat.beq a.1 8 = true) (r : rz_vr G a v) : v = .ref (rz_b G) := by
  obtain ⟨t, c⟩ := a
  cases Nat.eq_of_beq_eq_true h
  exact r
theorem rz_vcat {G : rz_G} {a : rz_V} {v : Value} (r : rz_vr G a v) : v.category = rz_cat a := by
  obtain ⟨t, c⟩ := a
  match t, r with
  | 0, r => obtain ⟨x, rfl, -⟩ := r; rfl
  | 1, r => cases r; rfl
  | 2, r => obtain ⟨x, rfl, -⟩ := r; rfl
  | 3, r => cases r; rfl
  | 4, r => cases r; rfl
  | 5, r => cases r; rfl
  | 6, r => obtain ⟨x, rfl⟩ := r; rfl
  | 7, r => obtain ⟨x, rfl⟩ := r; rfl
  | 8, r => cases r; rfl
  | n + 9, r => exact r.elim
/-- the script's ints lie in the box -/
def rz_in (G : rz_G) (B : rz_B) : Prop := ∀ (k : Nat) (lo hi : Int), rz_nth B k = some (lo, hi) → lo ≤ (rz_p G k).toInt ∧ (rz_p G k).toInt ≤ hi
theorem rz_vitv {G : rz_G} {B : rz_B} (hB : rz_in G B) {a : rz_V} {v : Value} {lo hi : Int} (h : rz_itv B a = some (lo, hi)) (r : rz_vr G a v) : ∃ x : Int32, v = .int x ∧ lo ≤ x.toInt ∧ x.toInt ≤ hi := by
  obtain ⟨t, c⟩ := a
  unfold rz_itv at h
  cases h0 : Nat.beq t 0 with
  | true =>
    cases Nat.eq_of_beq_eq_true h0
    simp at h
    obtain ⟨x, hx, hc⟩ := r
    exact ⟨x, hx, by omega, by omega⟩
  | false =>
    simp only [h0, cond_false] at h
    cases h1 : Nat.beq t 1 with
    | true =>
      cases Nat.eq_of_beq_eq_true h1
      exact ⟨_, r, hB c.toNat _ _ h⟩
    | false => simp [h1] at h
theorem rz_i64 (x : Int32) : x.toInt64.toInt = x.toInt := by first | exact Int32.toInt_toInt64 x | simp
theorem rz_vltv {G : rz_G} {B : rz_B} (hB : rz_in G B) {a : rz_V} {v : Value} {lo hi : Int} (h : rz_ltv B a = some (lo, hi)) (r : rz_vr G a v) : ∃ x : Int64, v = .long x ∧ lo ≤ x.toInt ∧ x.toInt ≤ hi := by
  obtain ⟨t, c⟩ := a
  unfold rz_ltv at h
  cases h0 : Nat.beq t 2 with
  | true =>
    cases Nat.eq_of_beq_eq_true h0
    simp at h
    obtain ⟨x, hx, hc⟩ := r
    exact ⟨x, hx, by omega, by omega⟩
  | false =>
    simp only [h0, cond_false] at h
    cases h1 : Nat.beq t 3 with
    | true =>
      cases Nat.eq_of_beq_eq_true h1
      have := hB c.toNat _ _ h
      exact ⟨_, r, by rw [rz_i64]; exact this.1, by rw [rz_i64]; exact this.2⟩
    | false => simp [h1] at h
theorem rz_vnm {G : rz_G} {B : rz_B} (hB : rz_in G B) (k : Nat) : rz_vr G (rz_nm B k) (.int (rz_p G k)) := by
  unfold rz_nm
  cases h : rz_nth B k with
  | none => exact ⟨_, rfl⟩
  | some q =>
    obtain ⟨lo, hi⟩ := q
    have := hB _ _ _ h
    by_cases e : lo = hi
    · simp only [e, decide_true, cond_true]
      exact ⟨_, rfl, by omega⟩
    · simp only [e, decide_false, cond_false]
      show Value.int _ = Value.int _
      simp
def rz_ls (G : rz_G) : List (Nat × rz_V) → List (Nat × Value) → Prop
  | [], [] => True
  | a :: L, q :: l => a.1 = q.1 ∧ rz_vr G a.2 q.2 ∧ rz_ls G L l
  | _, _ => False
def rz_sk (G : rz_G) : List rz_V → List Value → Prop
  | [], [] => True
  | a :: L, q :: l => rz_vr G a q ∧ rz_sk G L l
  | _, _ => False
def rz_loc (G : rz_G) (nL : Nat) (L : List (Nat × rz_V)) (ls : Array Slot) : Prop := ∃ lv, lv_has ls nL lv ∧ rz_ls G L lv
theorem rz_skc {G : rz_G} {a : rz_V} {S : List rz_V} {st : List Value} (h : rz_sk G (a :: S) st) : ∃ v st', st = v :: st' ∧ rz_vr G a v ∧ rz_sk G S st' := by
  cases st with
  | nil => exact h.elim
  | cons v st' => exact ⟨v, st', rfl, h.1, h.2⟩
theorem rz_sk0 {G : rz_G} {st : List Value} (h : rz_sk G [] st) : st = [] := by
  cases st with
  | nil => rfl
  | cons v st' => exact h.elim
theorem rz_skcat {G : rz_G} : ∀ {S : List rz_V} {st : List Value}, rz_sk G S st → (st.map fun v => v.category).sum = rz_cats S
  | [], st, h => by rw [rz_sk0 h]; rfl
  | a :: S, st, h => by
    obtain ⟨v, st', rfl, h1, h2⟩ := rz_skc h
    simp only [List.map_cons, List.sum_cons, rz_cats, rz_vcat h1, rz_skcat h2]
/-- a local's value -/
theorem rz_lsat {G : rz_G} : ∀ {L : List (Nat × rz_V)} {lv : List (Nat × Value)} {i : Nat} {a : rz_V}, rz_ls G L lv → rz_lk L i = some a → ∃ (k : Nat) (v : Value), lv[k]? = some (i, v) ∧ rz_vr G a v
  | [], _, _, _, _, h => by cases h
  | q :: L, [], _, _, h, _ => h.elim
  | q :: L, (j, w) :: l, i, a, h, hk => by
    obtain ⟨h1, h2, h3⟩ := h
    unfold rz_lk at hk
    cases e : Nat.beq q.1 i with
    | true =>
      simp only [e, cond_true, Option.some.injEq] at hk
      subst hk
      cases Nat.eq_of_beq_eq_true e
      exact ⟨0, w, by simp [h1], h2⟩
    | false =>
      simp only [e, cond_false] at hk
      obtain ⟨k, v, hk1, hk2⟩ := rz_lsat h3 hk
      exact ⟨k + 1, v, by simpa using hk1, hk2⟩
theorem rz_locat {G : rz_G} {nL : Nat} {L : List (Nat × rz_V)} {ls : Array Slot} {i : Nat} {a : rz_V} (h : rz_loc G nL L ls) (hk : rz_lk L i = some a) : ∃ v : Value, ls[i]? = some (.val v) ∧ rz_vr G a v := by
  obtain ⟨lv, h1, h2⟩ := h
  obtain ⟨k, v, hk1, hk2⟩ := rz_lsat h2 hk
  exact ⟨v, lv_at h1 k hk1, hk2⟩
theorem rz_lsf {G : rz_G} {P : Nat × rz_V → Bool} {P' : Nat × Value → Bool} (hP : ∀ (i : Nat) (a : rz_V) (v : Value), rz_vr G a v → P (i, a) = P' (i, v)) : ∀ {L : List (Nat × rz_V)} {lv : List (Nat × Value)}, rz_ls G L lv → rz_ls G (L.filter P) (lv.filter P')
  | [], [], _ => trivial
  | [], _ :: _, h => h.elim
  | _ :: _, [], h => h.elim
  | (i, a) :: L, (j, v) :: l, h => by
    obtain ⟨h1, h2, h3⟩ := h
    cases h1
    have e := hP i a v h2
    cases hp : P (i, a) with
    | true =>
      rw [List.filter_cons_of_pos hp, List.filter_cons_of_pos (by rw [← e]; exact hp)]
      exact ⟨rfl, h2, rz_lsf hP h3⟩
    | false =>
      rw [List.filter_cons_of_neg (by simp [hp]), List.filter_cons_of_neg (by rw [← e]; simp [hp])]
      exact rz_lsf hP h3
theorem rz_ls1 {G : rz_G} {L : List (Nat × rz_V)} {lv : List (Nat × Value)} {i : Nat} {a : rz_V} {v : Value} (h : rz_ls G L lv) (r : rz_vr G a v) : rz_ls G (rz_st1 L i a) ((i, v) :: lv.filter (fun q => !(q.1 == i) && !(q.1 + 1 == i && q.2.category == 2))) :=
  ⟨rfl, r, rz_lsf (fun j a v hr => by simp only [rz_vcat hr]) h⟩
theorem rz_ls2 {G : rz_G} {L : List (Nat × rz_V)} {lv : List (Nat × Value)} {i : Nat} {a : rz_V} {v : Value} (h : rz_ls G L lv) (r : rz_vr G a v) : rz_ls G (rz_st2 L i a) ((i, v) :: lv.filter (fun q => !(q.1 == i) && (!(q.1 == i + 1) && !(q.1 + 1 == i && q.2.category == 2)))) :=
  ⟨rfl, r, rz_lsf (fun j a v hr => by simp only [rz_vcat hr]) h⟩
theorem rz_sk_args {G : rz_G} : ∀ {k : Nat} {as : List rz_V} {vs : List Value}, rz_sk G as vs → rz_ls G (rz_ar k as) (lv_args k vs)
  | _, [], vs, h => by rw [rz_sk0 h]; trivial
  | k, a :: as, vs, h => by
    obtain ⟨v, vs', rfl, h1, h2⟩ := rz_skc h
    refine ⟨rfl, h1, ?_⟩
    have := rz_sk_args (k := k + rz_cat a) h2
    rw [← rz_vcat h1] at this ⊢
    have e : (if v.category = 2 then k + 2 else k + 1) = k + v.category := by
      rcases lv_cat v with e | e <;> simp [e]
    show rz_ls G _ (lv_args (if v.category = 2 then k + 2 else k + 1) vs')
    rw [e]
    exact this
/-- a cell -/
def rz_cr (G : rz_G) (e : rz_E) (cell : Cell) : Prop := cell.vm = .none ∧
  ((e.1 = 0 ∧ cell.cls = (rz_D G).1 e.2.1 ∧ ∀ (j : Nat) (a : rz_V), rz_nth e.2.2.1 j = some a → ∃ v : Value, cell.slots[(rz_D G).2 e.2.1 j]? = some v ∧ rz_vr G a v) ∨
   (e.1 = 100 ∧ cell.cls = rz_x G) ∨
   (0 < e.1 ∧ e.1 < 16 ∧ cell.cls = rz_a G e.1 ∧ cell.slots.size = e.2.1 ∧ ∀ j : Nat, j < e.2.1 → ∃ v : Value, cell.slots[j]? = some v ∧ rz_vr G (rz_ael e j) v))
def rz_hp (G : rz_G) (h : List rz_E) (H : Heap) : Prop := H.size = rz_n0 G + h.length ∧ (∀ q : Nat, q < rz_n0 G → H[q]? = (rz_H0 G)[q]?) ∧ ∀ (k : Nat) (e : rz_E), rz_nth h k = some e → ∃ cell : Cell, H[rz_n0 G + k]? = some cell ∧ rz_cr G e cell
theorem rz_nth_lt {α : Type} : ∀ {l : List α} {k : Nat} {x : α}, rz_nth l k = some x → k < l.length
  | [], _, _, h => by cases h
  | _ :: _, 0, _, _ => by simp
  | _ :: l, n + 1, x, h => by
    have := rz_nth_lt (l := l) (k := n) h
    simp; omega
theorem rz_nth_app {α : Type} {y : α} : ∀ {l : List α} {k : Nat} {x : α}, rz_nth (l ++ [y]) k = some x → rz_nth l k = some x ∨ (k = l.length ∧ x = y)
  | [], 0, x, h => by right; exact ⟨rfl, (Option.some.inj h).symm⟩
  | [], n + 1, x, h => by cases h
  | z :: l, 0, x, h => Or.inl h
  | z :: l, n + 1, x, h => by
    rcases rz_nth_app (l := l) (k := n) h with h | ⟨h1, h2⟩
    · exact Or.inl h
    · exact Or.inr ⟨by simp [h1], h2⟩
theorem rz_nth_set {α : Type} {y : α} : ∀ {l : List α} {k j : Nat} {x : α}, rz_nth (rz_set l k y) j = some x → (j = k ∧ x = y) ∨ (j ≠ k ∧ rz_nth l j = some x)
  | [], _, _, _, h => by cases h
  | _ :: l, 0, 0, x, h => Or.inl ⟨rfl, (Option.some.inj h).symm⟩
  | _ :: l, 0, n + 1, x, h => Or.inr ⟨by omega, h⟩
  | z :: l, k + 1, 0, x, h => Or.inr ⟨by omega, h⟩
  | z :: l, k + 1, n + 1, x, h => by
    rcases rz_nth_set (l := l) (k := k) (j := n) h with ⟨h1, h2⟩ | ⟨h1, h2⟩
    · exact Or.inl ⟨by omega, h2⟩
    · exact Or.inr ⟨by omega, h2⟩
theorem rz_set_len {α : Type} {y : α} : ∀ (l : List α) (k : Nat), (rz_set l k y).length = l.length
  | [], _ => rfl
  | _ :: l, 0 => rfl
  | _ :: l, k + 1 => by simp [rz_set, rz_set_len l k]
/-- one cell is written -/
theorem rz_hput {G : rz_G} {h : List rz_E} {H H' : Heap} (hp : rz_hp G h H) {k : Nat} {e : rz_E} {cell : Cell} (h1 : H'[rz_n0 G + k]? = some cell) (hz : H'.size = H.size) (hq : ∀ q, q ≠ rz_n0 G + k → H'[q]? = H[q]?) (hc : rz_cr G e cell) : rz_hp G (rz_set h k e) H' := by
  obtain ⟨a1, a2, a3⟩ := hp
  refine ⟨by rw [hz, a1, rz_set_len], fun q hlt => by rw [hq q (by omega)]; exact a2 q hlt, fun j e' hj => ?_⟩
  rcases rz_nth_set hj with ⟨rfl, rfl⟩ | ⟨hne, hj⟩
  · exact ⟨cell, h1, hc⟩
  · obtain ⟨c', g1, g2⟩ := a3 j e' hj
    exact ⟨c', by rw [hq _ (by omega)]; exact g1, g2⟩
/-- a cell comes -/
theorem rz_hnew {G : rz_G} {h : List rz_E} {H H' : Heap} (hp : rz_hp G h H) {e : rz_E} {cell : Cell} (h1 : H'[H.size]? = some cell) (hz : H'.size = H.size + 1) (hq : ∀ q, q < H.size → H'[q]? = H[q]?) (hc : rz_cr G e cell) : rz_hp G (h ++ [e]) H' := by
  obtain ⟨a1, a2, a3⟩ := hp
  refine ⟨by rw [hz, a1]; simp; omega, fun q hlt => by rw [hq q (by omega)]; exact a2 q hlt, fun j e' hj => ?_⟩
  rcases rz_nth_app hj with hj | ⟨rfl, rfl⟩
  · obtain ⟨c', g1, g2⟩ := a3 j e' hj
    have := rz_nth_lt hj
    exact ⟨c', by rw [hq _ (by omega)]; exact g1, g2⟩
  · exact ⟨cell, by rw [← a1]; exact h1, hc⟩
theorem rz_cellat {G : rz_G} {h : List rz_E} {H : Heap} {a : rz_V} {e : rz_E} {v : Value} (hp : rz_hp G h H) (hc : rz_cell h a = some e) (r : rz_vr G a v) : v = .ref (rz_n0 G + a.2.toNat) ∧ rz_nth h a.2.toNat = some e ∧ ∃ cell : Cell, H[rz_n0 G + a.2.toNat]? = some cell ∧ rz_cr G e cell := by
  unfold rz_cell at hc
  cases e4 : Nat.beq a.1 4 with
  | true =>
    simp only [e4, cond_true] at hc
    exact ⟨rz_v4 e4 r, hc, hp.2.2 _ _ hc⟩
  | false => simp [e4] at hc
end
section
theorem rz_bm {n : Int} {M : Nat} (h1 : -(M : Int) ≤ n * 2) (h2 : n * 2 < M) : n.bmod M = n := by
  rw [Int.bmod_def]
  have hM : (0 : Int) < M := by omega
  by_cases h0 : 0 ≤ n
  · rw [Int.emod_eq_of_lt h0 (by omega), if_pos (by omega)]
  · have : n % (M : Int) = n + M := by
      rw [← Int.add_emod_right, Int.emod_eq_of_lt (by omega) (by omega)]
    rw [this, if_neg (by omega)]; omega
theorem rz_vii {G : rz_G} {r : Int} {x : Int32} (h : rz_r32 r = true → x.toInt = r) : rz_vr G (rz_ii r) (.int x) := by
  unfold rz_ii
  cases e : rz_r32 r with
  | true => exact ⟨x, rfl, h e⟩
  | false => exact ⟨x, rfl⟩
theorem rz_vli {G : rz_G} {r : Int} {x : Int64} (h : rz_r64 r = true → x.toInt = r) : rz_vr G (rz_li r) (.long x) := by
  unfold rz_li
  cases e : rz_r64 r with
  | true => exact ⟨x, rfl, h e⟩
  | false => exact ⟨x, rfl⟩
theorem rz_r32s {r : Int} (h : rz_r32 r = true) : -2147483648 ≤ r ∧ r ≤ 2147483647 := by
  simpa [rz_r32] using h
theorem rz_r64s {r : Int} (h : rz_r64 r = true) : -9223372036854775808 ≤ r ∧ r ≤ 9223372036854775807 := by
  simpa [rz_r64] using h
theorem rz_kint {G : rz_G} {a : rz_V} {u : Int32} (h : rz_k a = true) (r : rz_vr G a (.int u)) : u.toInt = a.2 := by
  obtain ⟨x, hx, e⟩ := rz_vk h r
  cases hx
  exact e
theorem rz_klong {G : rz_G} {a : rz_V} {u : Int64} (h : rz_lk2 a = true) (r : rz_vr G a (.long u)) : u.toInt = a.2 := by
  obtain ⟨x, hx, e⟩ := rz_vlk h r
  cases hx
  exact e
theorem rz_vadd {G : rz_G} {a b : rz_V} {u w : Int32} (ha : rz_vr G a (.int u)) (hb : rz_vr G b (.int w)) : rz_vr G (rz_add a b) (.int (u + w)) := by
  unfold rz_add
  cases e : rz_k a && rz_k b with
  | true =>
    simp only [Bool.and_eq_true] at e
    refine rz_vii fun h => ?_
    have h := rz_r32s h
    have e1 := rz_kint e.1 ha
    have e2 := rz_kint e.2 hb
    rw [Int32.toInt_add, e1, e2]
    exact rz_bm (by omega) (by omega)
  | false => exact ⟨_, rfl⟩
theorem rz_vsub {G : rz_G} {a b : rz_V} {u w : Int32} (ha : rz_vr G a (.int u)) (hb : rz_vr G b (.int w)) : rz_vr G (rz_sub a b) (.int (u - w)) := by
  unfold rz_sub
  cases e : rz_k a && rz_k b with
  | true =>
    simp only [Bool.and_eq_true] at e
    refine rz_vii fun h => ?_
    have h := rz_r32s h
    have e1 := rz_kint e.1 ha
    have e2 := rz_kint e.2 hb
    rw [Int32.toInt_sub, e1, e2]
    exact rz_bm (by omega) (by omega)
  | false => exact ⟨_, rfl⟩
theorem rz_vmul {G : rz_G} {a b : rz_V} {u w : Int32} (ha : rz_vr G a (.int u)) (hb : rz_vr G b (.int w)) : rz_vr G (rz_mul a b) (.int (u * w)) := by
  unfold rz_mul
  cases e : rz_k a && rz_k b with
  | true =>
    simp only [Bool.and_eq_true] at e
    refine rz_vii fun h => ?_
    have h := rz_r32s h
    have e1 := rz_kint e.1 ha
    have e2 := rz_kint e.2 hb
    rw [Int32.toInt_mul, e1, e2]
    generalize a.2 * b.2 = n at h ⊢
    exact rz_bm (by omega) (by omega)
  | false => exact ⟨_, rfl⟩
theorem rz_int_eq {x y : Int32} (h : x.toInt = y.toInt) : x = y := Int32.toInt_inj.mp h
theorem rz_long_eq {x y : Int64} (h : x.toInt = y.toInt) : x = y := Int64.toInt_inj.mp h
theorem rz_vand {G : rz_G} {B : rz_B} (hB : rz_in G B) (h9 : rz_p G 9 = rz_p G 1 &&& 31) {a b : rz_V} {u w : Int32} (ha : rz_vr G a (.int u)) (hb : rz_vr G b (.int w)) : rz_vr G (rz_and B a b) (.int (u &&& w)) := by
  unfold rz_and
  cases e : decide (a = (1, 1)) && decide (b = (0, 31)) with
  | true =>
    simp only [Bool.and_eq_true, decide_eq_true_eq] at e
    obtain ⟨rfl, rfl⟩ := e
    have h1 : Value.int u = Value.int (rz_p G 1) := ha
    cases h1
    obtain ⟨x, hx, hx2⟩ := hb
    cases hx
    have e31 : w = 31 := rz_int_eq hx2
    subst e31
    rw [← h9]
    exact rz_vnm hB 9
  | false => exact ⟨_, rfl⟩
theorem rz_vladd {G : rz_G} {a b : rz_V} {u w : Int64} (ha : rz_vr G a (.long u)) (hb : rz_vr G b (.long w)) : rz_vr G (rz_ladd a b) (.long (u + w)) := by
  unfold rz_ladd
  by_cases e1 : a = (2, 0)
  · subst e1
    obtain ⟨x, hx, hx2⟩ := ha
    cases hx
    have e0 : u = 0 := rz_long_eq hx2
    subst e0
    simp only [decide_true, cond_true, Int64.zero_add]
    exact hb
  · simp only [e1, decide_false, cond_false]
    by_cases e2 : b = (2, 0)
    · subst e2
      obtain ⟨x, hx, hx2⟩ := hb
      cases hx
      have e0 : w = 0 := rz_long_eq hx2
      subst e0
      simp only [decide_true, cond_true, Int64.add_zero]
      exact ha
    · simp only [e2, decide_false, cond_false]
      cases e : rz_lk2 a && rz_lk2 b with
      | true =>
        simp only [Bool.and_eq_true] at e
        refine rz_vli fun h => ?_
        have h := rz_r64s h
        have e1 := rz_klong e.1 ha
        have e2 := rz_klong e.2 hb
        rw [Int64.toInt_add, e1, e2]
        exact rz_bm (by omega) (by omega)
      | false => exact ⟨_, rfl⟩
theorem rz_vlsub {G : rz_G} {a b : rz_V} {u w : Int64} (ha : rz_vr G a (.long u)) (hb : rz_vr G b (.long w)) : rz_vr G (rz_lsub a b) (.long (u - w)) := by
  unfold rz_lsub
  cases e : rz_lk2 a && rz_lk2 b with
  | true =>
    simp only [Bool.and_eq_true] at e
    refine rz_vli fun h => ?_
    have h := rz_r64s h
    have e1 := rz_klong e.1 ha
    have e2 := rz_klong e.2 hb
    rw [Int64.toInt_sub, e1, e2]
    exact rz_bm (by omega) (by omega)
  | false => exact ⟨_, rfl⟩
theorem rz_vland {G : rz_G} {a b : rz_V} {u w : Int64} (ha : rz_vr G a (.long u)) (hb : rz_vr G b (.long w)) : rz_vr G (rz_land a b) (.long (u &&& w)) := by
  unfold rz_land
  cases e : decide (a = (2, 0)) || decide (b = (2, 0)) with
  | true =>
    simp only [Bool.or_eq_true, decide_eq_true_eq] at e
    rcases e with rfl | rfl
    · obtain ⟨x, hx, hx2⟩ := ha
      cases hx
      have e0 : u = 0 := rz_long_eq hx2
      subst e0
      exact ⟨_, rfl, by simp⟩
    · obtain ⟨x, hx, hx2⟩ := hb
      cases hx
      have e0 : w = 0 := rz_long_eq hx2
      subst e0
      exact ⟨_, rfl, by simp⟩
  | false => exact ⟨_, rfl⟩
theorem rz_vi2l {G : rz_G} {a : rz_V} {u : Int32} (hi : rz_isI a = true) (ha : rz_vr G a (.int u)) : rz_vr G (rz_i2l a) (.long u.toInt64) := by
  obtain ⟨t, c⟩ := a
  rcases rz_or3 hi with rfl | rfl | rfl
  · obtain ⟨x, hx, hx2⟩ := ha
    cases hx
    exact ⟨_, rfl, by rw [rz_i64]; exact hx2⟩
  · have h1 : Value.int u = Value.int (rz_p G c.toNat) := ha
    cases h1
    rfl
  · exact ⟨_, rfl⟩
theorem rz_vl2i {G : rz_G} {a : rz_V} {u : Int64} (ha : rz_vr G a (.long u)) : rz_vr G (rz_l2i a) (.int u.toInt32) := by
  unfold rz_l2i
  cases e : rz_lk2 a && rz_r32 a.2 with
  | true =>
    simp only [Bool.and_eq_true] at e
    have h := rz_r32s e.2
    have e1 := rz_klong e.1 ha
    refine ⟨_, rfl, ?_⟩
    rw [Int64.toInt_toInt32, e1]
    exact rz_bm (by omega) (by omega)
  | false => exact ⟨_, rfl⟩
theorem rz_vlcmp {G : rz_G} {B : rz_B} (hB : rz_in G B) {a b r : rz_V} {u w : Value} (h : rz_lcmp B a b = some r) (ha : rz_vr G a u) (hb : rz_vr G b w) : ∃ x y : Int64, u = .long x ∧ w = .long y ∧ rz_vr G r (.int (lg_cmp x y)) := by
  unfold rz_lcmp at h
  cases e : Nat.beq a.1 3 && decide (a = b) with
  | true =>
    simp only [e, cond_true, Option.some.injEq] at h
    subst h
    simp only [Bool.and_eq_true, decide_eq_true_eq] at e
    obtain ⟨e3, rfl⟩ := e
    obtain ⟨t, c⟩ := a
    cases Nat.eq_of_beq_eq_true e3
    cases ha
    cases hb
    exact ⟨_, _, rfl, rfl, _, rfl, by simp [lg_cmp]⟩
  | false =>
    simp only [e, cond_false] at h
    cases h1 : rz_ltv B a with
    | none => simp [h1] at h
    | some q1 =>
      cases h2 : rz_ltv B b with
      | none => simp [h1, h2] at h
      | some q2 =>
        obtain ⟨l1, u1⟩ := q1
        obtain ⟨l2, u2⟩ := q2
        obtain ⟨x, rfl, x1, x2⟩ := rz_vltv hB h1 ha
        obtain ⟨y, rfl, y1, y2⟩ := rz_vltv hB h2 hb
        refine ⟨x, y, rfl, rfl, ?_⟩
        simp only [h1, h2] at h
        by_cases c1 : u1 < l2
        · simp only [c1, decide_true, cond_true, Option.some.injEq] at h
          subst h
          have : ¬ y < x := by rw [Int64.lt_iff_toInt_lt]; omega
          have n2 : ¬ x = y := fun q => by rw [q] at x2; omega
          exact ⟨_, rfl, by simp [lg_cmp, this, n2]⟩
        · simp only [c1, decide_false, cond_false] at h
          by_cases c2 : u2 < l1
          · simp only [c2, decide_true, cond_true, Option.some.injEq] at h
            subst h
            have : y < x := by rw [Int64.lt_iff_toInt_lt]; omega
            exact ⟨_, rfl, by simp [lg_cmp, this]⟩
          · simp only [c2, decide_false, cond_false] at h
            cases c3 : decide (l1 = u1) && (decide (l2 = u2) && decide (l1 = l2)) with
            | true =>
              simp only [c3, cond_true, Option.some.injEq] at h
              subst h
              simp only [Bool.and_eq_true, decide_eq_true_eq] at c3
              have : x = y := rz_long_eq (by omega)
              subst this
              exact ⟨_, rfl, by simp [lg_cmp]⟩
            | false => simp [c3] at h
theorem rz_vlt {G : rz_G} {B : rz_B} (hB : rz_in G B) {a b : rz_V} {u w : Value} {r : Bool} (h : rz_lt B a b = some r) (ha : rz_vr G a u) (hb : rz_vr G b w) : ∃ x y : Int32, u = .int x ∧ w = .int y ∧ (r = true ↔ x < y) := by
  unfold rz_lt at h
  cases h1 : rz_itv B a with
  | none => simp [h1] at h
  | some q1 =>
    cases h2 : rz_itv B b with
    | none => simp [h1, h2] at h
    | some q2 =>
      obtain ⟨l1, u1⟩ := q1
      obtain ⟨l2, u2⟩ := q2
      obtain ⟨x, rfl, x1, x2⟩ := rz_vitv hB h1 ha
      obtain ⟨y, rfl, y1, y2⟩ := rz_vitv hB h2 hb
      refine ⟨x, y, rfl, rfl, ?_⟩
      simp only [h1, h2] at h
      rw [Int32.lt_iff_toInt_lt]
      by_cases c1 : u1 < l2
      · simp only [c1, decide_true, cond_true, Option.some.injEq] at h
        subst h
        simp; omega
      · simp only [c1, decide_false, cond_false] at h
        by_cases c2 : u2 ≤ l1
        · simp only [c2, decide_true, cond_true, Option.some.injEq] at h
          subst h
          simp; omega
        · simp [c2] at h
theorem rz_veq {G : rz_G} {B : rz_B} (hB : rz_in G B) {a b : rz_V} {u w : Value} {r : Bool} (h : rz_eq B a b = some r) (ha : rz_vr G a u) (hb : rz_vr G b w) : ∃ x y : Int32, u = .int x ∧ w = .int y ∧ (r = true ↔ x = y) := by
  unfold rz_eq at h
  cases h1 : rz_itv B a with
  | none => simp [h1] at h
  | some q1 =>
    cases h2 : rz_itv B b with
    | none => simp [h1, h2] at h
    | some q2 =>
      obtain ⟨l1, u1⟩ := q1
      obtain ⟨l2, u2⟩ := q2
      obtain ⟨x, rfl, x1, x2⟩ := rz_vitv hB h1 ha
      obtain ⟨y, rfl, y1, y2⟩ := rz_vitv hB h2 hb
      refine ⟨x, y, rfl, rfl, ?_⟩
      simp only [h1, h2] at h
      cases c1 : decide (u1 < l2) || decide (u2 < l1) with
      | true =>
        simp only [c1, cond_true, Option.some.injEq] at h
        subst h
        simp only [Bool.or_eq_true, decide_eq_true_eq] at c1
        simp only [Bool.false_eq_true, false_iff]
        intro q
        subst q
        omega
      | false =>
        simp only [c1, cond_false] at h
        cases c3 : decide (l1 = u1) && (decide (l2 = u2) && decide (l1 = l2)) with
        | true =>
          simp only [c3, cond_true, Option.some.injEq] at h
          subst h
          simp only [Bool.and_eq_true, decide_eq_true_eq] at c3
          simp only [true_iff]
          exact rz_int_eq (by omega)
        | false => simp [c3] at h
theorem rz_nos {r : Option Bool} {b : Bool} (h : rz_no r = some b) : r = some (!b) := by
  cases r with
  | none => cases h
  | some x =>
    simp only [rz_no, Option.some.injEq] at h
    subst h
    simp
theorem rz_cn0 {G0 : rz_G} {x : Int32} : rz_vr G0 (0, 0) (.int x) → x = 0 := by
  intro h
  obtain ⟨y, hy, e⟩ := h
  cases hy
  exact rz_int_eq e
end
section
/-! The words that hold on, the world that holds on, and the frame's judgement. -/
def rz_gw (w : Cond) : Bool := goodWord w || (match w with
  | .methodLinkNest .. => true
  | .castable .. => true
  | .declares _ => true
  | .arrayOver (.object _) => true
  | _ => false)
theorem rz_gw_at {args a' : Array Value} {s U : State} {w : Cond} (hW : s.WarmedH U.vm) (hg : rz_gw w = true) (h : w.before args s = true) : w.before a' U = true := by
  simp only [rz_gw, Bool.or_eq_true] at hg
  rcases hg with hg | hg
  · exact word_at hW (good_of_word hg) h
  · cases w with
    | methodLinkNest a i x hst => exact va_Nw.use rfl (va_Nw.warmM hW (va_Nw.of rfl h))
    | castable a b => exact va_Nw.use rfl (va_Nw.warmC hW (va_Nw.of rfl h))
    | declares x => exact va_Nw.use rfl (va_Nw.warmD hW (va_Nw.of rfl h))
    | arrayOver t =>
      cases t with
      | object C => exact va_AO.use (va_AO.moved hW.alike (va_AO.of h))
      | _ => simp at hg
    | _ => simp at hg
def rz_TS : List Cond := lw_tbl.filter rz_gw
theorem rz_inTS {i : Nat} {w : Cond} (h : lw_tbl[i]? = some w) (hg : rz_gw w = true) : w ∈ rz_TS := List.mem_filter.mpr ⟨List.mem_of_getElem? h, hg⟩
theorem rz_TSat {args a' : Array Value} {s U : State} (hW : s.WarmedH U.vm) (h : ∀ w ∈ rz_TS, w.before args s = true) : ∀ w ∈ rz_TS, w.before a' U = true := fun w hw => rz_gw_at hW (List.mem_filter.mp hw).2 (h w hw)
def rz_ak (k : Nat) : Bool := Nat.beq k 1 || (Nat.beq k 2 || (Nat.beq k 3 || (Nat.beq k 10 || (Nat.beq k 13 || (Nat.beq k 8 || (Nat.beq k 7 || (Nat.beq k 12 || Nat.beq k 4)))))))
def rz_aty (k : Nat) : FieldType := bif Nat.beq k 1 then .int else bif Nat.beq k 2 then .long else bif Nat.beq k 3 then .boolean else .object (rz_cn (k - 4))
def rz_iae : String := "java/lang/IllegalArgumentException"
def rz_txt : String := "an argument is none that is told"
def rz_WI (G : rz_G) (is : Nat) (U : State) : Prop := va_K (rz_D G) vwCl [] U ∧ (∀ k, rz_ak k = true → ArrOfT U (rz_a G k) (rz_aty k) ∧ va_RA U (rz_a G k) (rz_aty k)) ∧
  (∃ L : Nat, va_X (rz_b G) L (rz_p G) U (rz_H0 G) ∧ rz_p G 8 = Int32.ofNat L ∧ L ≤ 8) ∧ U.vm.findClass rz_iae = some (rz_x G) ∧
  vx_Zq Bundle.tN "UNASSIGNED_STACK" Bundle.steD (fun q => rz_n0 G ≤ q) U (rz_H0 G) ∧ vx_Zq Bundle.tN "SUPPRESSED_SENTINEL" Bundle.listD (fun q => rz_n0 G ≤ q) U (rz_H0 G) ∧ ∃ sa : Nat, vk_R RX10 is rz_txt sa U
theorem rz_WIw {G : rz_G} {is : Nat} {s U : State} (hW : s.WarmedH U.vm) (h : rz_WI G is s) : rz_WI G is U := by
  obtain ⟨h1, h2, ⟨L, h3, h4, h5⟩, h6, h7, h8, sa, h9⟩ := h
  exact ⟨va_K.moved hW.alike h1, fun k hk => ⟨arrOfT_moved hW.alike (h2 k hk).1, (h2 k hk).2.moved hW.alike⟩, ⟨L, h3.moved hW.alike, h4, h5⟩, by rw [hW.alike.findClass]; exact h6, h7.moved hW.alike, h8.moved hW.alike, sa, vk_R.warm hW h9⟩
/-- what is fixed for all runs: the start's heap ends at n0; the script lies in it; the ninth number -/
def rz_Gk (G : rz_G) : Prop := rz_n0 G = (rz_H0 G).size ∧ rz_b G < rz_n0 G ∧ rz_p G 9 = rz_p G 1 &&& 31
def rz_is0 : Nat := 295
/-- a method's invocation -/
def rz_C (G : rz_G) (B : rz_B) (i : Nat) (p : Program) (l : Launch) (s : State) (m : MethodId) (args : Array Value) (meth : Method) (c : Code) : Prop :=
  p.tables.exec = Jvm.exec ∧ c.code = rz_by i ∧ meth.sig.returnType = rz_ret i ∧ c.maxLocals = rz_nL i ∧ s.vm.findClass (rz_cn (rz_mo i)) = some m.cls ∧ (∀ w ∈ rz_TS, w.before args s = true) ∧ meth.locks = false ∧
  ((rz_y i).name = "<init>" → meth.name = "<init>") ∧ c.exceptionTable.toList = tableOf (rz_hh i) ∧ rz_WI G rz_is0 s ∧ rz_Gk G ∧ rz_in G B ∧ l.stackTraces = false
def rz_Wj (G : rz_G) (nL : Nat) (p : Program) (l : Launch) (e : Env) (R : Room) (s : State) (m : MethodId) (args : Array Value) (below : List Frame) (meth : Method) (c : Code) (Q : State → Prop) (pc : Nat) (L : List (Nat × rz_V)) (S : List rz_V) (h : List rz_E) (k z : Nat) : Prop :=
  ∀ (H : Heap) (locs : List Loc) (ls : Array Slot) (st : List Value), rz_loc G nL L ls → rz_sk G S st → rz_hp G h H → (∀ q ∈ locs, rz_n0 G ≤ q.base) → W p l e R s m args below meth c H locs k z Q (F0 m pc ls st)
/-- what an end of the small machine says of the real one's -/
def rz_Q (G : rz_G) (r : rz_R) (o : Outcome) (t : State) : Prop := rz_hp G r.2.1 t.heap ∧ match r.1 with
  | (0, _) => o = .returned none
  | (1, v) => ∃ w : Value, o = .returned (some w) ∧ rz_vr G v w
  | (_, v) => ∃ (q : Nat) (j : Nat), o = .threw q ∧ v = (4, (j : Int)) ∧ q = rz_n0 G + j ∧ ∃ n fs us, rz_nth r.2.1 j = some (100, n, fs, us)
abbrev rz_fr (G : rz_G) : Addr → Prop := fun q => rz_n0 G ≤ q
/-- an instruction's row: what the step gives carries over -/
def rz_Ok (G : rz_G) (nL : Nat) (p : Program) (l : Launch) (e : Env) (R : Room) (s : State) (m : MethodId) (args : Array Value) (below : List Frame) (meth : Method) (c : Code) (pc : Nat) (L : List (Nat × rz_V)) (S : List rz_V) (h : List rz_E) (k z : Nat) (r : rz_F ⊕ rz_R) : Prop := match r with
  | .inl f => ∀ Q, rz_Wj G nL p l e R s m args below meth c Q f.1 f.2.1 f.2.2.1 f.2.2.2.1 f.2.2.2.2.1 f.2.2.2.2.2 → rz_Wj G nL p l e R s m args below meth c Q pc L S h k z
  | .inr r => rz_Wj G nL p l e R s m args below meth c (rz_MQ below (rz_Q G r) s r.2.2.1 r.2.2.2 (rz_fr G)) pc L S h k z
end
section
/-! The rows of the plain instructions. -/
section
variable {G : rz_G} {B : rz_B} {i nL : Nat} {p : Program} {l : Launch} {e : Env} {R : Room} {s : State} {m : MethodId} {args : Array Value} {below : List Frame} {meth : Method} {c : Code}
variable {pc : Nat} {L : List (Nat × rz_V)} {S : List rz_V} {h : List rz_E} {k z : Nat} {Q : State → Prop}
theorem rz_o32 {n : Int} (h1 : -2147483648 ≤ n) (h2 : n ≤ 2147483647) : (Int32.ofInt n).toInt = n := by
  rw [Int32.toInt_ofInt]
  exact rz_bm (M := 4294967296) (by omega) (by omega)
theorem rz_o64 {n : Int} (h1 : -9223372036854775808 ≤ n) (h2 : n ≤ 9223372036854775807) : (Int64.ofInt n).toInt = n := by
  rw [Int64.toInt_ofInt]
  exact rz_bm (M := 18446744073709551616) (by omega) (by omega)
theorem rz_o_iconst (C : rz_C G B i p l s m args meth c) {n : Int} (hd : decode (rz_by i) pc = .ok (.iconst n, 1)) (hn : rz_r32 n = true) (kk : rz_Wj G nL p l e R s m args below meth c Q (pc + 1) L ((0, n) :: S) h k z) : rz_Wj G nL p l e R s m args below meth c Q pc L S h k z := by
  intro H locs ls st hl hs hp hf
  have hn := rz_r32s hn
  exact lv_iconst C.1 C.2.1 hd rfl (kk H locs ls _ hl ⟨⟨_, rfl, rz_o32 (by omega) (by omega)⟩, hs⟩ hp hf)
theorem rz_i8 {n : Int} (h1 : -128 ≤ n) (h2 : n ≤ 127) : (Int8.ofInt n).toInt32.toInt = n := by
  rw [Int8.toInt_toInt32, Int8.toInt_ofInt]
  exact rz_bm (M := 256) (by omega) (by omega)
theorem rz_i16 {n : Int} (h1 : -32768 ≤ n) (h2 : n ≤ 32767) : (Int16.ofInt n).toInt32.toInt = n := by
  rw [Int16.toInt_toInt32, Int16.toInt_ofInt]
  exact rz_bm (M := 65536) (by omega) (by omega)
theorem rz_o_bipush (C : rz_C G B i p l s m args meth c) {n : Int} (hd : decode (rz_by i) pc = .ok (.bipush n, 2)) (h1 : -128 ≤ n) (h2 : n ≤ 127) (kk : rz_Wj G nL p l e R s m args below meth c Q (pc + 2) L ((0, n) :: S) h k z) : rz_Wj G nL p l e R s m args below meth c Q pc L S h k z := by
  intro H locs ls st hl hs hp hf
  exact lv_bipush C.1 C.2.1 hd rfl (kk H locs ls _ hl ⟨⟨_, rfl, rz_i8 h1 h2⟩, hs⟩ hp hf)
theorem rz_o_sipush (C : rz_C G B i p l s m args meth c) {n : Int} (hd : decode (rz_by i) pc = .ok (.sipush n, 3)) (h1 : -32768 ≤ n) (h2 : n ≤ 32767) (kk : rz_Wj G nL p l e R s m args below meth c Q (pc + 3) L ((0, n) :: S) h k z) : rz_Wj G nL p l e R s m args below meth c Q pc L S h k z := by
  intro H locs ls st hl hs hp hf
  exact lv_sipush C.1 C.2.1 hd rfl (kk H locs ls _ hl ⟨⟨_, rfl, rz_i16 h1 h2⟩, hs⟩ hp hf)
theorem rz_o_lconst (C : rz_C G B i p l s m args meth c) {n : Fin 2} (hd : decode (rz_by i) pc = .ok (.lconst n, 1)) (kk : rz_Wj G nL p l e R s m args below meth c Q (pc + 1) L ((2, (n.val : Int)) :: S) h k z) : rz_Wj G nL p l e R s m args below meth c Q pc L S h k z := by
  intro H locs ls st hl hs hp hf
  exact lv_lconst C.1 C.2.1 hd rfl (kk H locs ls _ hl ⟨⟨_, rfl, lg_ofNat_toInt (by have := n.isLt; omega)⟩, hs⟩ hp hf)
theorem rz_o_null (C : rz_C G B i p l s m args meth c) (hd : decode (rz_by i) pc = .ok (.aconst_null, 1)) (kk : rz_Wj G nL p l e R s m args below meth c Q (pc + 1) L ((5, 0) :: S) h k z) : rz_Wj G nL p l e R s m args below meth c Q pc L S h k z := by
  intro H locs ls st hl hs hp hf
  exact lv_null C.1 C.2.1 hd (kk H locs ls _ hl ⟨rfl, hs⟩ hp hf)
theorem rz_o_ldc (C : rz_C G B i p l s m args meth c) {x : Nat} {b : Int} (hd : decode (rz_by i) pc = .ok (.ldc x, 2)) (hw : Cond.constant (rz_cn (rz_mo i)) x (Int32.ofInt b) ∈ rz_TS) (hb : rz_r32 b = true) (kk : rz_Wj G nL p l e R s m args below meth c Q (pc + 2) L ((0, b) :: S) h k z) : rz_Wj G nL p l e R s m args below meth c Q pc L S h k z := by
  intro H locs ls st hl hs hp hf
  have hb := rz_r32s hb
  exact lv_ldc C.1 C.2.1 C.2.2.2.2.1 (C.2.2.2.2.2.1 _ hw) hd (kk H locs ls _ hl ⟨⟨_, rfl, rz_o32 (by omega) (by omega)⟩, hs⟩ hp hf)
theorem rz_o_ldcw (C : rz_C G B i p l s m args meth c) {x : Nat} {b : Int} (hd : decode (rz_by i) pc = .ok (.ldc_w x, 3)) (hw : Cond.constant (rz_cn (rz_mo i)) x (Int32.ofInt b) ∈ rz_TS) (hb : rz_r32 b = true) (kk : rz_Wj G nL p l e R s m args below meth c Q (pc + 3) L ((0, b) :: S) h k z) : rz_Wj G nL p l e R s m args below meth c Q pc L S h k z := by
  intro H locs ls st hl hs hp hf
  have hb := rz_r32s hb
  exact lv_ldcw C.1 C.2.1 C.2.2.2.2.1 (C.2.2.2.2.2.1 _ hw) hd (kk H locs ls _ hl ⟨⟨_, rfl, rz_o32 (by omega) (by omega)⟩, hs⟩ hp hf)
theorem rz_o_ldc2 (C : rz_C G B i p l s m args meth c) {x : Nat} {b : Int} (hd : decode (rz_by i) pc = .ok (.ldc2_w x, 3)) (hw : Cond.constantLong (rz_cn (rz_mo i)) x (Int64.ofInt b) ∈ rz_TS) (hb : rz_r64 b = true) (kk : rz_Wj G nL p l e R s m args below meth c Q (pc + 3) L ((2, b) :: S) h k z) : rz_Wj G nL p l e R s m args below meth c Q pc L S h k z := by
  intro H locs ls st hl hs hp hf
  have hb := rz_r64s hb
  exact lv_ldc2 C.1 C.2.1 C.2.2.2.2.1 (C.2.2.2.2.2.1 _ hw) hd (kk H locs ls _ hl ⟨⟨_, rfl, rz_o64 (by omega) (by omega)⟩, hs⟩ hp hf)
theorem rz_o_iload_n (C : rz_C G B i p l s m args meth c) {j : Fin 4} {v : rz_V} (hd : decode (rz_by i) pc = .ok (.iload_n j, 1)) (hv : rz_lk L j.val = some v) (hi : rz_isI v = true) (kk : rz_Wj G nL p l e R s m args below meth c Q (pc + 1) L (v :: S) h k z) : rz_Wj G nL p l e R s m args below meth c Q pc L S h k z := by
  intro H locs ls st hl hs hp hf
  obtain ⟨w, h1, h2⟩ := rz_locat hl hv
  obtain ⟨x, rfl⟩ := rz_vI hi h2
  exact lv_iload_n C.1 C.2.1 hd rfl h1 (kk H locs ls _ hl ⟨h2, hs⟩ hp hf)
theorem rz_o_iload (C : rz_C G B i p l s m args meth c) {j : Nat} {v : rz_V} (hd : decode (rz_by i) pc = .ok (.iload j, 2)) (hv : rz_lk L j = some v) (hi : rz_isI v = true) (kk : rz_Wj G nL p l e R s m args below meth c Q (pc + 2) L (v :: S) h k z) : rz_Wj G nL p l e R s m args below meth c Q pc L S h k z := by
  intro H locs ls st hl hs hp hf
  obtain ⟨w, h1, h2⟩ := rz_locat hl hv
  obtain ⟨x, rfl⟩ := rz_vI hi h2
  exact lv_iload C.1 C.2.1 hd h1 (kk H locs ls _ hl ⟨h2, hs⟩ hp hf)
theorem rz_o_lload_n (C : rz_C G B i p l s m args meth c) {j : Fin 4} {v : rz_V} (hd : decode (rz_by i) pc = .ok (.lload_n j, 1)) (hv : rz_lk L j.val = some v) (hi : rz_isL v = true) (kk : rz_Wj G nL p l e R s m args below meth c Q (pc + 1) L (v :: S) h k z) : rz_Wj G nL p l e R s m args below meth c Q pc L S h k z := by
  intro H locs ls st hl hs hp hf
  obtain ⟨w, h1, h2⟩ := rz_locat hl hv
  obtain ⟨x, rfl⟩ := rz_vL hi h2
  exact lv_lload_n C.1 C.2.1 hd rfl h1 (kk H locs ls _ hl ⟨h2, hs⟩ hp hf)
theorem rz_o_lload (C : rz_C G B i p l s m args meth c) {j : Nat} {v : rz_V} (hd : decode (rz_by i) pc = .ok (.lload j, 2)) (hv : rz_lk L j = some v) (hi : rz_isL v = true) (kk : rz_Wj G nL p l e R s m args below meth c Q (pc + 2) L (v :: S) h k z) : rz_Wj G nL p l e R s m args below meth c Q pc L S h k z := by
  intro H locs ls st hl hs hp hf
  obtain ⟨w, h1, h2⟩ := rz_locat hl hv
  obtain ⟨x, rfl⟩ := rz_vL hi h2
  exact lv_lload C.1 C.2.1 hd h1 (kk H locs ls _ hl ⟨h2, hs⟩ hp hf)
theorem rz_o_aload_n (C : rz_C G B i p l s m args meth c) {j : Fin 4} {v : rz_V} (hd : decode (rz_by i) pc = .ok (.aload_n j, 1)) (hv : rz_lk L j.val = some v) (hi : rz_isA v = true) (kk : rz_Wj G nL p l e R s m args below meth c Q (pc + 1) L (v :: S) h k z) : rz_Wj G nL p l e R s m args below meth c Q pc L S h k z := by
  intro H locs ls st hl hs hp hf
  obtain ⟨w, h1, h2⟩ := rz_locat hl hv
  rcases rz_vA hi h2 with rfl | ⟨x, rfl⟩
  · exact lv_aload_nN C.1 C.2.1 hd rfl h1 (kk H locs ls _ hl ⟨h2, hs⟩ hp hf)
  · exact lv_aload_n C.1 C.2.1 hd rfl h1 (kk H locs ls _ hl ⟨h2, hs⟩ hp hf)
theorem rz_o_aload (C : rz_C G B i p l s m args meth c) {j : Nat} {v : rz_V} (hd : decode (rz_by i) pc = .ok (.aload j, 2)) (hv : rz_lk L j = some v) (hi : rz_isA v = true) (kk : rz_Wj G nL p l e R s m args below meth c Q (pc + 2) L (v :: S) h k z) : rz_Wj G nL p l e R s m args below meth c Q pc L S h k z := by
  intro H locs ls st hl hs hp hf
  obtain ⟨w, h1, h2⟩ := rz_locat hl hv
  rcases rz_vA hi h2 with rfl | ⟨x, rfl⟩
  · exact lv_aloadN C.1 C.2.1 hd h1 (kk H locs ls _ hl ⟨h2, hs⟩ hp hf)
  · exact lv_aload C.1 C.2.1 hd h1 (kk H locs ls _ hl ⟨h2, hs⟩ hp hf)
theorem rz_o_istore_n (C : rz_C G B i p l s m args meth c) {j : Fin 4} {v : rz_V} (hd : decode (rz_by i) pc = .ok (.istore_n j, 1)) (hi : rz_isI v = true) (hj : Nat.blt j.val nL = true) (kk : rz_Wj G nL p l e R s m args below meth c Q (pc + 1) (rz_st1 L j.val v) S h k z) : rz_Wj G nL p l e R s m args below meth c Q pc L (v :: S) h k z := by
  intro H locs ls st hl hs hp hf
  obtain ⟨w, st, rfl, h2, hs1⟩ := rz_skc hs
  obtain ⟨x, rfl⟩ := rz_vI hi h2
  obtain ⟨lv, hl1, hl2⟩ := hl
  exact lv_istore_n C.1 C.2.1 hd rfl hl1 (Nat.blt_eq.mp hj) rfl (fun ls' hl' => kk H locs ls' _ ⟨_, hl', rz_ls1 hl2 h2⟩ hs1 hp hf)
theorem rz_o_istore (C : rz_C G B i p l s m args meth c) {j : Nat} {v : rz_V} (hd : decode (rz_by i) pc = .ok (.istore j, 2)) (hi : rz_isI v = true) (hj : Nat.blt j nL = true) (kk : rz_Wj G nL p l e R s m args below meth c Q (pc + 2) (rz_st1 L j v) S h k z) : rz_Wj G nL p l e R s m args below meth c Q pc L (v :: S) h k z := by
  intro H locs ls st hl hs hp hf
  obtain ⟨w, st, rfl, h2, hs1⟩ := rz_skc hs
  obtain ⟨x, rfl⟩ := rz_vI hi h2
  obtain ⟨lv, hl1, hl2⟩ := hl
  exact lv_istore C.1 C.2.1 hd hl1 (Nat.blt_eq.mp hj) rfl (fun ls' hl' => kk H locs ls' _ ⟨_, hl', rz_ls1 hl2 h2⟩ hs1 hp hf)
theorem rz_o_astore_n (C : rz_C G B i p l s m args meth c) {j : Fin 4} {v : rz_V} (hd : decode (rz_by i) pc = .ok (.astore_n j, 1)) (hi : rz_isA v = true) (hj : Nat.blt j.val nL = true) (kk : rz_Wj G nL p l e R s m args below meth c Q (pc + 1) (rz_st1 L j.val v) S h k z) : rz_Wj G nL p l e R s m args below meth c Q pc L (v :: S) h k z := by
  intro H locs ls st hl hs hp hf
  obtain ⟨w, st, rfl, h2, hs1⟩ := rz_skc hs
  obtain ⟨lv, hl1, hl2⟩ := hl
  rcases rz_vA hi h2 with rfl | ⟨x, rfl⟩
  · exact lv_astore_nN C.1 C.2.1 hd rfl hl1 (Nat.blt_eq.mp hj) rfl (fun ls' hl' => kk H locs ls' _ ⟨_, hl', rz_ls1 hl2 h2⟩ hs1 hp hf)
  · exact lv_astore_n C.1 C.2.1 hd rfl hl1 (Nat.blt_eq.mp hj) rfl (fun ls' hl' => kk H locs ls' _ ⟨_, hl', rz_ls1 hl2 h2⟩ hs1 hp hf)
theorem rz_o_astore (C : rz_C G B i p l s m args meth c) {j : Nat} {v : rz_V} (hd : decode (rz_by i) pc = .ok (.astore j, 2)) (hi : rz_isA v = true) (hj : Nat.blt j nL = true) (kk : rz_Wj G nL p l e R s m args below meth c Q (pc + 2) (rz_st1 L j v) S h k z) : rz_Wj G nL p l e R s m args below meth c Q pc L (v :: S) h k z := by
  intro H locs ls st hl hs hp hf
  obtain ⟨w, st, rfl, h2, hs1⟩ := rz_skc hs
  obtain ⟨lv, hl1, hl2⟩ := hl
  rcases rz_vA hi h2 with rfl | ⟨x, rfl⟩
  · exact lv_astoreN C.1 C.2.1 hd hl1 (Nat.blt_eq.mp hj) rfl (fun ls' hl' => kk H locs ls' _ ⟨_, hl', rz_ls1 hl2 h2⟩ hs1 hp hf)
  · exact lv_astore C.1 C.2.1 hd hl1 (Nat.blt_eq.mp hj) rfl (fun ls' hl' => kk H locs ls' _ ⟨_, hl', rz_ls1 hl2 h2⟩ hs1 hp hf)
theorem rz_o_lstore (C : rz_C G B i p l s m args meth c) {j : Nat} {v : rz_V} (hd : decode (rz_by i) pc = .ok (.lstore j, 2)) (hi : rz_isL v = true) (hj : Nat.blt (j + 1) nL = true) (kk : rz_Wj G nL p l e R s m args below meth c Q (pc + 2) (rz_st2 L j v) S h k z) : rz_Wj G nL p l e R s m args below meth c Q pc L (v :: S) h k z := by
  intro H locs ls st hl hs hp hf
  obtain ⟨w, st, rfl, h2, hs1⟩ := rz_skc hs
  obtain ⟨x, rfl⟩ := rz_vL hi h2
  obtain ⟨lv, hl1, hl2⟩ := hl
  exact lv_lstore C.1 C.2.1 hd hl1 (Nat.blt_eq.mp hj) rfl (fun ls' hl' => kk H locs ls' _ ⟨_, hl', rz_ls2 hl2 h2⟩ hs1 hp hf)
theorem rz_o_iinc (C : rz_C G B i p l s m args meth c) {j : Nat} {n : Int} {v : rz_V} (hd : decode (rz_by i) pc = .ok (.iinc j n, 3)) (hv : rz_lk L j = some v) (hk : rz_k v = true) (hn : rz_r32 n = true) (hvn : rz_r32 (v.2 + n) = true) (hj : Nat.blt j nL = true) (kk : rz_Wj G nL p l e R s m args below meth c Q (pc + 3) (rz_st1 L j (0, v.2 + n)) S h k z) : rz_Wj G nL p l e R s m args below meth c Q pc L S h k z := by
  intro H locs ls st hl hs hp hf
  obtain ⟨lv, hl1, hl2⟩ := hl
  obtain ⟨q, w, h1, h2⟩ := rz_lsat hl2 hv
  obtain ⟨x, rfl, hx⟩ := rz_vk hk h2
  have hn := rz_r32s hn
  have hvn := rz_r32s hvn
  have e1 : (x + Int32.ofInt n).toInt = v.2 + n := by
    rw [Int32.toInt_add, hx, rz_o32 (by omega) (by omega)]
    exact rz_bm (M := 4294967296) (by omega) (by omega)
  exact lv_iinc C.1 C.2.1 hd hl1 h1 rfl (Nat.blt_eq.mp hj) rfl (fun ls' hl' => kk H locs ls' _ ⟨_, hl', rz_ls1 hl2 ⟨_, rfl, e1⟩⟩ hs hp hf)
theorem rz_o_dup (C : rz_C G B i p l s m args meth c) {v : rz_V} (hd : decode (rz_by i) pc = .ok (.dup, 1)) (hc : Nat.beq (rz_cat v) 1 = true) (kk : rz_Wj G nL p l e R s m args below meth c Q (pc + 1) L (v :: v :: S) h k z) : rz_Wj G nL p l e R s m args below meth c Q pc L (v :: S) h k z := by
  intro H locs ls st hl hs hp hf
  obtain ⟨w, st, rfl, h2, hs1⟩ := rz_skc hs
  exact lv_dup C.1 C.2.1 hd (by rw [rz_vcat h2]; exact Nat.eq_of_beq_eq_true hc) (kk H locs ls _ hl ⟨h2, h2, hs1⟩ hp hf)
theorem rz_o_dup_x1 (C : rz_C G B i p l s m args meth c) {v u : rz_V} (hd : decode (rz_by i) pc = .ok (.dup_x1, 1)) (hc : Nat.beq (rz_cat v) 1 = true) (hc2 : Nat.beq (rz_cat u) 1 = true) (kk : rz_Wj G nL p l e R s m args below meth c Q (pc + 1) L (v :: u :: v :: S) h k z) : rz_Wj G nL p l e R s m args below meth c Q pc L (v :: u :: S) h k z := by
  intro H locs ls st hl hs hp hf
  obtain ⟨w, st, rfl, h2, hs1⟩ := rz_skc hs
  obtain ⟨w2, st, rfl, h3, hs2⟩ := rz_skc hs1
  exact lv_dup_x1 C.1 C.2.1 hd (by rw [rz_vcat h2]; exact Nat.eq_of_beq_eq_true hc) (by rw [rz_vcat h3]; exact Nat.eq_of_beq_eq_true hc2) (kk H locs ls _ hl ⟨h2, h3, h2, hs2⟩ hp hf)
theorem rz_o_dup_x2 (C : rz_C G B i p l s m args meth c) {v u t : rz_V} (hd : decode (rz_by i) pc = .ok (.dup_x2, 1)) (hc : Nat.beq (rz_cat v) 1 = true) (hc2 : Nat.beq (rz_cat u) 1 = true) (hc3 : Nat.beq (rz_cat t) 1 = true) (kk : rz_Wj G nL p l e R s m args below meth c Q (pc + 1) L (v :: u :: t :: v :: S) h k z) : rz_Wj G nL p l e R s m args below meth c Q pc L (v :: u :: t :: S) h k z := by
  intro H locs ls st hl hs hp hf
  obtain ⟨w, st, rfl, h2, hs1⟩ := rz_skc hs
  obtain ⟨w2, st, rfl, h3, hs2⟩ := rz_skc hs1
  obtain ⟨w3, st, rfl, h4, hs3⟩ := rz_skc hs2
  exact lv_dup_x2 C.1 C.2.1 hd (by rw [rz_vcat h2]; exact Nat.eq_of_beq_eq_true hc) (by rw [rz_vcat h3]; exact Nat.eq_of_beq_eq_true hc2) (by rw [rz_vcat h4]; exact Nat.eq_of_beq_eq_true hc3) (kk H locs ls _ hl ⟨h2, h3, h4, h2, hs3⟩ hp hf)
theorem rz_o_dup2 (C : rz_C G B i p l s m args meth c) {v : rz_V} (hd : decode (rz_by i) pc = .ok (.dup2, 1)) (hc : Nat.beq (rz_cat v) 2 = true) (kk : rz_Wj G nL p l e R s m args below meth c Q (pc + 1) L (v :: v :: S) h k z) : rz_Wj G nL p l e R s m args below meth c Q pc L (v :: S) h k z := by
  intro H locs ls st hl hs hp hf
  obtain ⟨w, st, rfl, h2, hs1⟩ := rz_skc hs
  exact lv_dup2_2 C.1 C.2.1 hd (by rw [rz_vcat h2]; exact Nat.eq_of_beq_eq_true hc) (kk H locs ls _ hl ⟨h2, h2, hs1⟩ hp hf)
theorem rz_o_dup2_11 (C : rz_C G B i p l s m args meth c) {v u : rz_V} (hd : decode (rz_by i) pc = .ok (.dup2, 1)) (hc : Nat.beq (rz_cat v) 1 = true) (hc2 : Nat.beq (rz_cat u) 1 = true) (kk : rz_Wj G nL p l e R s m args below meth c Q (pc + 1) L (v :: u :: v :: u :: S) h k z) : rz_Wj G nL p l e R s m args below meth c Q pc L (v :: u :: S) h k z := by
  intro H locs ls st hl hs hp hf
  obtain ⟨w, st, rfl, h2, hs1⟩ := rz_skc hs
  obtain ⟨w2, st, rfl, h3, hs2⟩ := rz_skc hs1
  exact lv_dup2_11 C.1 C.2.1 hd (by rw [rz_vcat h2]; exact Nat.eq_of_beq_eq_true hc) (by rw [rz_vcat h3]; exact Nat.eq_of_beq_eq_true hc2) (kk H locs ls _ hl ⟨h2, h3, h2, h3, hs2⟩ hp hf)
theorem rz_o_iadd (C : rz_C G B i p l s m args meth c) {x y : rz_V} (hd : decode (rz_by i) pc = .ok (.iadd, 1)) (hy : rz_isI y = true) (hx : rz_isI x = true) (kk : rz_Wj G nL p l e R s m args below meth c Q (pc + 1) L (rz_add x y :: S) h k z) : rz_Wj G nL p l e R s m args below meth c Q pc L (y :: x :: S) h k z := by
  intro H locs ls st hl hs hp hf
  obtain ⟨w, st, rfl, h2, hs1⟩ := rz_skc hs
  obtain ⟨w2, st, rfl, h3, hs2⟩ := rz_skc hs1
  obtain ⟨v, rfl⟩ := rz_vI hy h2
  obtain ⟨u, rfl⟩ := rz_vI hx h3
  exact lv_iadd C.1 C.2.1 hd (kk H locs ls _ hl ⟨rz_vadd h3 h2, hs2⟩ hp hf)
theorem rz_o_isub (C : rz_C G B i p l s m args meth c) {x y : rz_V} (hd : decode (rz_by i) pc = .ok (.isub, 1)) (hy : rz_isI y = true) (hx : rz_isI x = true) (kk : rz_Wj G nL p l e R s m args below meth c Q (pc + 1) L (rz_sub x y :: S) h k z) : rz_Wj G nL p l e R s m args below meth c Q pc L (y :: x :: S) h k z := by
  intro H locs ls st hl hs hp hf
  obtain ⟨w, st, rfl, h2, hs1⟩ := rz_skc hs
  obtain ⟨w2, st, rfl, h3, hs2⟩ := rz_skc hs1
  obtain ⟨v, rfl⟩ := rz_vI hy h2
  obtain ⟨u, rfl⟩ := rz_vI hx h3
  exact lv_isub C.1 C.2.1 hd (kk H locs ls _ hl ⟨rz_vsub h3 h2, hs2⟩ hp hf)
theorem rz_o_imul (C : rz_C G B i p l s m args meth c) {x y : rz_V} (hd : decode (rz_by i) pc = .ok (.imul, 1)) (hy : rz_isI y = true) (hx : rz_isI x = true) (kk : rz_Wj G nL p l e R s m args below meth c Q (pc + 1) L (rz_mul x y :: S) h k z) : rz_Wj G nL p l e R s m args below meth c Q pc L (y :: x :: S) h k z := by
  intro H locs ls st hl hs hp hf
  obtain ⟨w, st, rfl, h2, hs1⟩ := rz_skc hs
  obtain ⟨w2, st, rfl, h3, hs2⟩ := rz_skc hs1
  obtain ⟨v, rfl⟩ := rz_vI hy h2
  obtain ⟨u, rfl⟩ := rz_vI hx h3
  exact lv_imul C.1 C.2.1 hd (kk H locs ls _ hl ⟨rz_vmul h3 h2, hs2⟩ hp hf)
theorem rz_Cb (C : rz_C G B i p l s m args meth c) : rz_in G B := C.2.2.2.2.2.2.2.2.2.2.2.1
theorem rz_Cg (C : rz_C G B i p l s m args meth c) : rz_Gk G := C.2.2.2.2.2.2.2.2.2.2.1
theorem rz_Cw (C : rz_C G B i p l s m args meth c) : rz_WI G rz_is0 s := C.2.2.2.2.2.2.2.2.2.1
theorem rz_o_iand (C : rz_C G B i p l s m args meth c) {x y : rz_V} (hd : decode (rz_by i) pc = .ok (.iand, 1)) (hy : rz_isI y = true) (hx : rz_isI x = true) (kk : rz_Wj G nL p l e R s m args below meth c Q (pc + 1) L (rz_and B x y :: S) h k z) : rz_Wj G nL p l e R s m args below meth c Q pc L (y :: x :: S) h k z := by
  intro H locs ls st hl hs hp hf
  obtain ⟨w, st, rfl, h2, hs1⟩ := rz_skc hs
  obtain ⟨w2, st, rfl, h3, hs2⟩ := rz_skc hs1
  obtain ⟨v, rfl⟩ := rz_vI hy h2
  obtain ⟨u, rfl⟩ := rz_vI hx h3
  exact lv_iand C.1 C.2.1 hd (kk H locs ls _ hl ⟨rz_vand (rz_Cb C) (rz_Cg C).2.2 h3 h2, hs2⟩ hp hf)
theorem rz_o_ladd (C : rz_C G B i p l s m args meth c) {x y : rz_V} (hd : decode (rz_by i) pc = .ok (.ladd, 1)) (hy : rz_isL y = true) (hx : rz_isL x = true) (kk : rz_Wj G nL p l e R s m args below meth c Q (pc + 1) L (rz_ladd x y :: S) h k z) : rz_Wj G nL p l e R s m args below meth c Q pc L (y :: x :: S) h k z := by
  intro H locs ls st hl hs hp hf
  obtain ⟨w, st, rfl, h2, hs1⟩ := rz_skc hs
  obtain ⟨w2, st, rfl, h3, hs2⟩ := rz_skc hs1
  obtain ⟨v, rfl⟩ := rz_vL hy h2
  obtain ⟨u, rfl⟩ := rz_vL hx h3
  exact lv_ladd C.1 C.2.1 hd (kk H locs ls _ hl ⟨rz_vladd h3 h2, hs2⟩ hp hf)
theorem rz_o_lsub (C : rz_C G B i p l s m args meth c) {x y : rz_V} (hd : decode (rz_by i) pc = .ok (.lsub, 1)) (hy : rz_isL y = true) (hx : rz_isL x = true) (kk : rz_Wj G nL p l e R s m args below meth c Q (pc + 1) L (rz_lsub x y :: S) h k z) : rz_Wj G nL p l e R s m args below meth c Q pc L (y :: x :: S) h k z := by
  intro H locs ls st hl hs hp hf
  obtain ⟨w, st, rfl, h2, hs1⟩ := rz_skc hs
  obtain ⟨w2, st, rfl, h3, hs2⟩ := rz_skc hs1
  obtain ⟨v, rfl⟩ := rz_vL hy h2
  obtain ⟨u, rfl⟩ := rz_vL hx h3
  exact lv_lsub C.1 C.2.1 hd (kk H locs ls _ hl ⟨rz_vlsub h3 h2, hs2⟩ hp hf)
theorem rz_o_land (C : rz_C G B i p l s m args meth c) {x y : rz_V} (hd : decode (rz_by i) pc = .ok (.land, 1)) (hy : rz_isL y = true) (hx : rz_isL x = true) (kk : rz_Wj G nL p l e R s m args below meth c Q (pc + 1) L (rz_land x y :: S) h k z) : rz_Wj G nL p l e R s m args below meth c Q pc L (y :: x :: S) h k z := by
  intro H locs ls st hl hs hp hf
  obtain ⟨w, st, rfl, h2, hs1⟩ := rz_skc hs
  obtain ⟨w2, st, rfl, h3, hs2⟩ := rz_skc hs1
  obtain ⟨v, rfl⟩ := rz_vL hy h2
  obtain ⟨u, rfl⟩ := rz_vL hx h3
  exact lv_land C.1 C.2.1 hd (kk H locs ls _ hl ⟨rz_vland h3 h2, hs2⟩ hp hf)
theorem rz_o_lor (C : rz_C G B i p l s m args meth c) {x y : rz_V} (hd : decode (rz_by i) pc = .ok (.lor, 1)) (hy : rz_isL y = true) (hx : rz_isL x = true) (kk : rz_Wj G nL p l e R s m args below meth c Q (pc + 1) L ((7, 0) :: S) h k z) : rz_Wj G nL p l e R s m args below meth c Q pc L (y :: x :: S) h k z := by
  intro H locs ls st hl hs hp hf
  obtain ⟨w, st, rfl, h2, hs1⟩ := rz_skc hs
  obtain ⟨w2, st, rfl, h3, hs2⟩ := rz_skc hs1
  obtain ⟨v, rfl⟩ := rz_vL hy h2
  obtain ⟨u, rfl⟩ := rz_vL hx h3
  exact lv_lor C.1 C.2.1 hd (kk H locs ls _ hl ⟨⟨_, rfl⟩, hs2⟩ hp hf)
theorem rz_o_lshl (C : rz_C G B i p l s m args meth c) {x y : rz_V} (hd : decode (rz_by i) pc = .ok (.lshl, 1)) (hy : rz_isI y = true) (hx : rz_isL x = true) (kk : rz_Wj G nL p l e R s m args below meth c Q (pc + 1) L ((7, 0) :: S) h k z) : rz_Wj G nL p l e R s m args below meth c Q pc L (y :: x :: S) h k z := by
  intro H locs ls st hl hs hp hf
  obtain ⟨w, st, rfl, h2, hs1⟩ := rz_skc hs
  obtain ⟨w2, st, rfl, h3, hs2⟩ := rz_skc hs1
  obtain ⟨v, rfl⟩ := rz_vI hy h2
  obtain ⟨u, rfl⟩ := rz_vL hx h3
  exact lv_lshl C.1 C.2.1 hd rfl (kk H locs ls _ hl ⟨⟨_, rfl⟩, hs2⟩ hp hf)
theorem rz_o_lcmp (C : rz_C G B i p l s m args meth c) {x y v : rz_V} (hd : decode (rz_by i) pc = .ok (.lcmp, 1)) (hv : rz_lcmp B x y = some v) (kk : rz_Wj G nL p l e R s m args below meth c Q (pc + 1) L (v :: S) h k z) : rz_Wj G nL p l e R s m args below meth c Q pc L (y :: x :: S) h k z := by
  intro H locs ls st hl hs hp hf
  obtain ⟨w, st, rfl, h2, hs1⟩ := rz_skc hs
  obtain ⟨w2, st, rfl, h3, hs2⟩ := rz_skc hs1
  obtain ⟨a, b, rfl, rfl, h4⟩ := rz_vlcmp (rz_Cb C) hv h3 h2
  exact W.lcmp C.1 C.2.1 hd (kk H locs ls _ hl ⟨h4, hs2⟩ hp hf)
theorem rz_o_i2l (C : rz_C G B i p l s m args meth c) {x : rz_V} (hd : decode (rz_by i) pc = .ok (.i2l, 1)) (hx : rz_isI x = true) (kk : rz_Wj G nL p l e R s m args below meth c Q (pc + 1) L (rz_i2l x :: S) h k z) : rz_Wj G nL p l e R s m args below meth c Q pc L (x :: S) h k z := by
  intro H locs ls st hl hs hp hf
  obtain ⟨w, st, rfl, h2, hs1⟩ := rz_skc hs
  obtain ⟨v, rfl⟩ := rz_vI hx h2
  exact lv_i2l C.1 C.2.1 hd rfl (kk H locs ls _ hl ⟨rz_vi2l hx h2, hs1⟩ hp hf)
theorem rz_o_l2i (C : rz_C G B i p l s m args meth c) {x : rz_V} (hd : decode (rz_by i) pc = .ok (.l2i, 1)) (hx : rz_isL x = true) (kk : rz_Wj G nL p l e R s m args below meth c Q (pc + 1) L (rz_l2i x :: S) h k z) : rz_Wj G nL p l e R s m args below meth c Q pc L (x :: S) h k z := by
  intro H locs ls st hl hs hp hf
  obtain ⟨w, st, rfl, h2, hs1⟩ := rz_skc hs
  obtain ⟨v, rfl⟩ := rz_vL hx h2
  exact lv_l2i C.1 C.2.1 hd rfl (kk H locs ls _ hl ⟨rz_vl2i h2, hs1⟩ hp hf)
theorem rz_jps {pc t : Nat} {off : Int} (h : rz_jp pc off = some t) : (pc : Int) + off = (t : Int) := by
  unfold rz_jp at h
  by_cases e : 0 ≤ (pc : Int) + off
  · simp only [e, decide_true, cond_true, Option.some.injEq] at h
    omega
  · simp [e] at h
theorem rz_o_goto (C : rz_C G B i p l s m args meth c) {off : Int} {t : Nat} (hd : decode (rz_by i) pc = .ok (.goto off, 3)) (ht : rz_jp pc off = some t) (kk : rz_Wj G nL p l e R s m args below meth c Q t L S h k z) : rz_Wj G nL p l e R s m args below meth c Q pc L S h k z := by
  intro H locs ls st hl hs hp hf
  exact lv_goto C.1 C.2.1 hd (rz_jps ht) (kk H locs ls _ hl hs hp hf)
theorem rz_o_ifnull_t (C : rz_C G B i p l s m args meth c) {x : rz_V} {off : Int} {t : Nat} (hd : decode (rz_by i) pc = .ok (.ifnull off, 3)) (hx : Nat.beq x.1 5 = true) (ht : rz_jp pc off = some t) (kk : rz_Wj G nL p l e R s m args below meth c Q t L S h k z) : rz_Wj G nL p l e R s m args below meth c Q pc L (x :: S) h k z := by
  intro H locs ls st hl hs hp hf
  obtain ⟨w, st, rfl, h2, hs1⟩ := rz_skc hs
  cases rz_v5 hx h2
  exact lv_ifnullN C.1 C.2.1 hd (rz_jps ht) (kk H locs ls _ hl hs1 hp hf)
theorem rz_o_ifnull_f (C : rz_C G B i p l s m args meth c) {x : rz_V} {off : Int} (hd : decode (rz_by i) pc = .ok (.ifnull off, 3)) (hx : Nat.beq x.1 4 = true) (kk : rz_Wj G nL p l e R s m args below meth c Q (pc + 3) L S h k z) : rz_Wj G nL p l e R s m args below meth c Q pc L (x :: S) h k z := by
  intro H locs ls st hl hs hp hf
  obtain ⟨w, st, rfl, h2, hs1⟩ := rz_skc hs
  cases rz_v4 hx h2
  exact lv_ifnull C.1 C.2.1 hd (kk H locs ls _ hl hs1 hp hf)
theorem rz_o_ifnon_t (C : rz_C G B i p l s m args meth c) {x : rz_V} {off : Int} {t : Nat} (hd : decode (rz_by i) pc = .ok (.ifnonnull off, 3)) (hx : Nat.beq x.1 4 = true) (ht : rz_jp pc off = some t) (kk : rz_Wj G nL p l e R s m args below meth c Q t L S h k z) : rz_Wj G nL p l e R s m args below meth c Q pc L (x :: S) h k z := by
  intro H locs ls st hl hs hp hf
  obtain ⟨w, st, rfl, h2, hs1⟩ := rz_skc hs
  cases rz_v4 hx h2
  exact lv_ifnonnull C.1 C.2.1 hd (rz_jps ht) (kk H locs ls _ hl hs1 hp hf)
theorem rz_o_ifnon_f (C : rz_C G B i p l s m args meth c) {x : rz_V} {off : Int} (hd : decode (rz_by i) pc = .ok (.ifnonnull off, 3)) (hx : Nat.beq x.1 5 = true) (kk : rz_Wj G nL p l e R s m args below meth c Q (pc + 3) L S h k z) : rz_Wj G nL p l e R s m args below meth c Q pc L (x :: S) h k z := by
  intro H locs ls st hl hs hp hf
  obtain ⟨w, st, rfl, h2, hs1⟩ := rz_skc hs
  cases rz_v5 hx h2
  exact lv_ifnonnullN C.1 C.2.1 hd (kk H locs ls _ hl hs1 hp hf)
end
end
section
/-! Branches, switches, arrays, fields, new cells, returns. -/
def rz_cS (c : ClassFile.Cond) (x y : Int32) : Prop := match c with
  | .eq => x = y
  | .ne => ¬ x = y
  | .lt => x < y
  | .ge => y ≤ x
  | .gt => y < x
  | .le => x ≤ y
theorem rz_vcmp {G : rz_G} {B : rz_B} (hB : rz_in G B) {c : ClassFile.Cond} {a b : rz_V} {u w : Value} {r : Bool} (h : rz_cmp c B a b = some r) (ha : rz_vr G a u) (hb : rz_vr G b w) : ∃ x y : Int32, u = .int x ∧ w = .int y ∧ (r = true ↔ rz_cS c x y) := by
  cases c with
  | eq => exact rz_veq hB h ha hb
  | ne =>
    obtain ⟨x, y, h1, h2, h3⟩ := rz_veq hB (rz_nos h) ha hb
    refine ⟨x, y, h1, h2, ?_⟩
    show r = true ↔ ¬ x = y
    rw [← h3]; cases r <;> simp
  | lt => exact rz_vlt hB h ha hb
  | ge =>
    obtain ⟨x, y, h1, h2, h3⟩ := rz_vlt hB (rz_nos h) ha hb
    refine ⟨x, y, h1, h2, ?_⟩
    show r = true ↔ y ≤ x
    rw [← Int32.not_lt, ← h3]; cases r <;> simp
  | gt =>
    obtain ⟨x, y, h1, h2, h3⟩ := rz_vlt hB h hb ha
    exact ⟨y, x, h2, h1, h3⟩
  | le =>
    obtain ⟨x, y, h1, h2, h3⟩ := rz_vlt hB (rz_nos h) hb ha
    refine ⟨y, x, h2, h1, ?_⟩
    show r = true ↔ y ≤ x
    rw [← Int32.not_lt, ← h3]; cases r <;> simp
section
variable {G : rz_G} {B : rz_B} {i nL : Nat} {p : Program} {l : Launch} {e : Env} {R : Room} {s : State} {m : MethodId} {args : Array Value} {below : List Frame} {meth : Method} {c : Code}
variable {pc : Nat} {L : List (Nat × rz_V)} {S : List rz_V} {h : List rz_E} {k z : Nat} {Q : State → Prop} {H : Heap} {locs : List Loc} {ls : Array Slot} {rest : List Value} {cc : ByteArray}
theorem rz_icmp (hexec : p.tables.exec = Jvm.exec) (hb : c.code = cc) {cd : ClassFile.Cond} {x y : Int32} {off : Int} {tgt : Nat} (hdg : decode cc pc = .ok (.if_icmp cd off, 3)) (ht : (pc : Int) + off = (tgt : Int))
    (kt : rz_cS cd x y → W p l e R s m args below meth c H locs k z Q (F0 m tgt ls rest)) (kf : ¬ rz_cS cd x y → W p l e R s m args below meth c H locs k z Q (F0 m (pc + 3) ls rest)) : W p l e R s m args below meth c H locs k z Q (F0 m pc ls (.int y :: .int x :: rest)) := by
  cases cd with
  | eq => exact lv_icmp_eq hexec hb hdg ht kt kf
  | ne => exact lv_icmp_ne hexec hb hdg ht kt (fun h => kf (fun q => q h))
  | lt => exact lv_icmp_lt hexec hb hdg ht kt kf
  | ge => exact lv_icmp_ge hexec hb hdg ht kt kf
  | gt => exact lv_icmp_gt hexec hb hdg ht kt kf
  | le => exact lv_icmp_le hexec hb hdg ht kt kf
theorem rz_ifc (hexec : p.tables.exec = Jvm.exec) (hb : c.code = cc) {cd : ClassFile.Cond} {x : Int32} {off : Int} {tgt : Nat} (hdg : decode cc pc = .ok (.ifCond cd off, 3)) (ht : (pc : Int) + off = (tgt : Int))
    (kt : rz_cS cd x 0 → W p l e R s m args below meth c H locs k z Q (F0 m tgt ls rest)) (kf : ¬ rz_cS cd x 0 → W p l e R s m args below meth c H locs k z Q (F0 m (pc + 3) ls rest)) : W p l e R s m args below meth c H locs k z Q (F0 m pc ls (.int x :: rest)) := by
  cases cd with
  | eq => exact lv_if_eq hexec hb hdg ht kt kf
  | ne => exact lv_if_ne hexec hb hdg ht kt (fun h => kf (fun q => q h))
  | lt => exact lv_if_lt hexec hb hdg ht kt kf
  | ge => exact lv_if_ge hexec hb hdg ht kt kf
  | gt => exact lv_if_gt hexec hb hdg ht kt kf
  | le => exact lv_if_le hexec hb hdg ht kt kf
theorem rz_o_icmp (C : rz_C G B i p l s m args meth c) {cd : ClassFile.Cond} {x y : rz_V} {off : Int} {t : Nat} {r : Bool} (hd : decode (rz_by i) pc = .ok (.if_icmp cd off, 3)) (ht : rz_jp pc off = some t) (hr : rz_cmp cd B x y = some r) (kk : rz_Wj G nL p l e R s m args below meth c Q (if r = true then t else pc + 3) L S h k z) : rz_Wj G nL p l e R s m args below meth c Q pc L (y :: x :: S) h k z := by
  intro H locs ls st hl hs hp hf
  obtain ⟨w, st, rfl, h2, hs1⟩ := rz_skc hs
  obtain ⟨w2, st, rfl, h3, hs2⟩ := rz_skc hs1
  obtain ⟨a, b, rfl, rfl, h4⟩ := rz_vcmp (rz_Cb C) hr h3 h2
  have k9 := kk H locs ls _ hl hs2 hp hf
  refine rz_icmp C.1 C.2.1 hd (rz_jps ht) (fun q => ?_) (fun q => ?_)
  · rw [if_pos (h4.mpr q)] at k9; exact k9
  · rw [if_neg (fun z => q (h4.mp z))] at k9; exact k9
theorem rz_o_ifc (C : rz_C G B i p l s m args meth c) {cd : ClassFile.Cond} {x : rz_V} {off : Int} {t : Nat} {r : Bool} (hd : decode (rz_by i) pc = .ok (.ifCond cd off, 3)) (ht : rz_jp pc off = some t) (hr : rz_cmp cd B x (0, 0) = some r) (kk : rz_Wj G nL p l e R s m args below meth c Q (if r = true then t else pc + 3) L S h k z) : rz_Wj G nL p l e R s m args below meth c Q pc L (x :: S) h k z := by
  intro H locs ls st hl hs hp hf
  obtain ⟨w, st, rfl, h2, hs1⟩ := rz_skc hs
  obtain ⟨a, b, rfl, hb, h4⟩ := rz_vcmp (G := G) (rz_Cb C) hr h2 (w := .int 0) ⟨0, rfl, rfl⟩
  cases hb
  have k9 := kk H locs ls _ hl hs1 hp hf
  refine rz_ifc C.1 C.2.1 hd (rz_jps ht) (fun q => ?_) (fun q => ?_)
  · rw [if_pos (h4.mpr q)] at k9; exact k9
  · rw [if_neg (fun z => q (h4.mp z))] at k9; exact k9
theorem rz_nthL {α : Type} : ∀ {l : List α} {k : Nat} {x : α}, rz_nth l k = some x → l[k]? = some x
  | [], _, _, h => by cases h
  | _ :: _, 0, _, h => by simpa [rz_nth] using h
  | _ :: l, n + 1, x, h => by simpa using rz_nthL (l := l) (k := n) h
theorem rz_o_swOut (C : rz_C G B i p l s m args meth c) {x : rz_V} {d lo hi l0 u0 : Int} {offs : Array Int} {len t : Nat} (hd : decode (rz_by i) pc = .ok (.tableswitch d lo hi offs, len)) (hx : rz_itv B x = some (l0, u0)) (ho : hi < l0 ∨ u0 < lo) (ht : rz_jp pc d = some t) (kk : rz_Wj G nL p l e R s m args below meth c Q t L S h k z) : rz_Wj G nL p l e R s m args below meth c Q pc L (x :: S) h k z := by
  intro H locs ls st hl hs hp hf
  obtain ⟨w, st, rfl, h2, hs1⟩ := rz_skc hs
  obtain ⟨a, rfl, a1, a2⟩ := rz_vitv (rz_Cb C) hx h2
  exact lv_tableOut C.1 C.2.1 hd (by omega) (rz_jps ht) (kk H locs ls _ hl hs1 hp hf)
theorem rz_o_swIn (C : rz_C G B i p l s m args meth c) {x : rz_V} {d lo hi l0 u0 off : Int} {offs : Array Int} {len t : Nat} (hd : decode (rz_by i) pc = .ok (.tableswitch d lo hi offs, len)) (hx : rz_itv B x = some (l0, u0)) (he : l0 = u0) (h1 : lo ≤ l0) (h2 : l0 ≤ hi) (ho : rz_nth offs.toList (l0 - lo).toNat = some off) (ht : rz_jp pc off = some t) (kk : rz_Wj G nL p l e R s m args below meth c Q t L S h k z) : rz_Wj G nL p l e R s m args below meth c Q pc L (x :: S) h k z := by
  intro H locs ls st hl hs hp hf
  obtain ⟨w, st, rfl, h2, hs1⟩ := rz_skc hs
  obtain ⟨a, rfl, a1, a2⟩ := rz_vitv (rz_Cb C) hx h2
  have ea : a.toInt = l0 := by omega
  refine lv_tableIn C.1 C.2.1 hd (by omega) (by omega) (off := off) ?_ (rz_jps ht) (kk H locs ls _ hl hs1 hp hf)
  rw [ea, ← Array.getElem?_toList]
  exact rz_nthL ho
theorem rz_clamp {a : Int32} {n : Int} (h : a.toInt = n) (h0 : 0 ≤ n) : ¬ a < 0 ∧ a.toNatClampNeg = n.toNat := by
  subst h
  refine ⟨?_, ?_⟩
  · rw [Int32.lt_iff_toInt_lt, Int32.toInt_zero]; omega
  · first | rfl | (rw [Int32.toNatClampNeg]) | simp [Int32.toNatClampNeg]
theorem rz_cellk {G : rz_G} {e : rz_E} {cell : Cell} (hc : rz_cr G e cell) (hk : 0 < e.1) (hk2 : e.1 < 16) : cell.vm = .none ∧ cell.cls = rz_a G e.1 ∧ cell.slots.size = e.2.1 ∧ ∀ j : Nat, j < e.2.1 → ∃ v : Value, cell.slots[j]? = some v ∧ rz_vr G (rz_ael e j) v := by
  obtain ⟨h0, h | h | h⟩ := hc
  · omega
  · omega
  · exact ⟨h0, h.2.2⟩
theorem rz_cello {G : rz_G} {e : rz_E} {cell : Cell} (hc : rz_cr G e cell) (hk : e.1 = 0) : cell.vm = .none ∧ cell.cls = (rz_D G).1 e.2.1 ∧ ∀ (j : Nat) (a : rz_V), rz_nth e.2.2.1 j = some a → ∃ v : Value, cell.slots[(rz_D G).2 e.2.1 j]? = some v ∧ rz_vr G a v := by
  obtain ⟨h0, h | h | h⟩ := hc
  · exact ⟨h0, h.2⟩
  · omega
  · omega
theorem rz_arr {U : State} {cA : ClassId} {ty : FieldType} (h : ArrOfT U cA ty) {cell : Cell} (h1 : cell.cls = cA) (h2 : cell.vm = .none) : U.isArrayOf cell ty := by
  obtain ⟨g1, kA, g2, comp, g3⟩ := h 0 (fun _ => .null)
  exact ⟨fun k hk => (by rw [h2] at hk; cases hk), kA, (by rw [h1]; exact g2), comp, g3⟩
/-- an element's load: what the row for it needs -/
theorem rz_lds {a ix v : rz_V} {kd : Nat → Bool} (hld : rz_ld h kd ix a = some v) {u w : Value} (hp : rz_hp G h H) (ha : rz_vr G a u) (hi : rz_vr G ix w) (hkd : ∀ n, kd n = true → 0 < n ∧ n < 16) :
    ∃ (e : rz_E) (cell : Cell) (j : Int32) (x : Value), kd e.1 = true ∧ u = .ref (rz_n0 G + a.2.toNat) ∧ w = .int j ∧ H[rz_n0 G + a.2.toNat]? = some cell ∧ cell.vm = .none ∧ cell.cls = rz_a G e.1 ∧ ¬ (j < 0 ∨ cell.slots.size ≤ j.toNatClampNeg) ∧ cell.slots[j.toNatClampNeg]? = some x ∧ rz_vr G v x := by
  unfold rz_ld at hld
  cases hc : rz_cell h a with
  | none => simp [hc] at hld
  | some e =>
    simp only [hc] at hld
    cases hb : kd e.1 && (rz_k ix && (decide (0 ≤ ix.2) && Nat.blt ix.2.toNat e.2.1)) with
    | false => simp [hb] at hld
    | true =>
      simp only [hb, cond_true, Option.some.injEq] at hld
      subst hld
      simp only [Bool.and_eq_true, decide_eq_true_eq] at hb
      obtain ⟨b1, b2, b3, b4⟩ := hb
      have b4 := Nat.blt_eq.mp b4
      obtain ⟨rfl, -, cell, g1, g2⟩ := rz_cellat hp hc ha
      obtain ⟨j, rfl, hj⟩ := rz_vk b2 hi
      obtain ⟨c1, c2⟩ := rz_clamp hj b3
      obtain ⟨q1, q2⟩ := hkd _ b1
      obtain ⟨d1, d2, d3, d4⟩ := rz_cellk g2 q1 q2
      obtain ⟨x, x1, x2⟩ := d4 _ b4
      exact ⟨e, cell, j, x, b1, rfl, rfl, g1, d1, d2, by rw [d3, c2]; rintro (q | q); exact c1 q; omega, by rw [c2]; exact x1, x2⟩
theorem rz_vmk {cell : Cell} (h : cell.vm = .none) : cell.vm ≠ .unknown := by rw [h]; exact fun q => by cases q
theorem rz_o_laload (C : rz_C G B i p l s m args meth c) {x ix v : rz_V} (hd : decode (rz_by i) pc = .ok (.laload, 1)) (hv : rz_ld h (rz_is 2) ix x = some v) (kk : rz_Wj G nL p l e R s m args below meth c Q (pc + 1) L (v :: S) h k z) : rz_Wj G nL p l e R s m args below meth c Q pc L (ix :: x :: S) h k z := by
  intro H locs ls st hl hs hp hf
  obtain ⟨w, st, rfl, h2, hs1⟩ := rz_skc hs
  obtain ⟨w2, st, rfl, h3, hs2⟩ := rz_skc hs1
  obtain ⟨e0, cell, j, y, b1, rfl, rfl, g1, g2, g3, g4, g5, g6⟩ := rz_lds hv hp h3 h2 (fun n q => by cases Nat.eq_of_beq_eq_true q; omega)
  have e1 := Nat.eq_of_beq_eq_true b1
  have ha := ((rz_Cw C).2.1 2 rfl).1
  exact W.lald C.1 C.2.1 g1 (rz_arr ha (by rw [g3, e1]) g2) (rz_vmk g2) g4 g5 rfl rfl hd (kk H locs ls _ hl ⟨g6, hs2⟩ hp hf)
theorem rz_o_baload (C : rz_C G B i p l s m args meth c) {x ix v : rz_V} (hd : decode (rz_by i) pc = .ok (.baload, 1)) (hv : rz_ld h (rz_is 3) ix x = some v) (kk : rz_Wj G nL p l e R s m args below meth c Q (pc + 1) L (v :: S) h k z) : rz_Wj G nL p l e R s m args below meth c Q pc L (ix :: x :: S) h k z := by
  intro H locs ls st hl hs hp hf
  obtain ⟨w, st, rfl, h2, hs1⟩ := rz_skc hs
  obtain ⟨w2, st, rfl, h3, hs2⟩ := rz_skc hs1
  obtain ⟨e0, cell, j, y, b1, rfl, rfl, g1, g2, g3, g4, g5, g6⟩ := rz_lds hv hp h3 h2 (fun n q => by cases Nat.eq_of_beq_eq_true q; omega)
  have e1 := Nat.eq_of_beq_eq_true b1
  have ha := ((rz_Cw C).2.1 3 rfl).1
  exact W.zald C.1 C.2.1 g1 (rz_arr ha (by rw [g3, e1]) g2) (rz_vmk g2) g4 g5 rfl rfl hd (kk H locs ls _ hl ⟨g6, hs2⟩ hp hf)
theorem rz_o_iaload (C : rz_C G B i p l s m args meth c) {x ix v : rz_V} (hd : decode (rz_by i) pc = .ok (.iaload, 1)) (hv : rz_ld h (rz_is 1) ix x = some v) (kk : rz_Wj G nL p l e R s m args below meth c Q (pc + 1) L (v :: S) h k z) : rz_Wj G nL p l e R s m args below meth c Q pc L (ix :: x :: S) h k z := by
  intro H locs ls st hl hs hp hf
  obtain ⟨w, st, rfl, h2, hs1⟩ := rz_skc hs
  obtain ⟨w2, st, rfl, h3, hs2⟩ := rz_skc hs1
  obtain ⟨e0, cell, j, y, b1, rfl, rfl, g1, g2, g3, g4, g5, g6⟩ := rz_lds hv hp h3 h2 (fun n q => by cases Nat.eq_of_beq_eq_true q; omega)
  have e1 := Nat.eq_of_beq_eq_true b1
  have ha := ((rz_Cw C).2.1 1 rfl).1
  exact W.iald C.1 C.2.1 g1 (rz_arr ha (by rw [g3, e1]) g2) (rz_vmk g2) g4 g5 rfl rfl hd (kk H locs ls _ hl ⟨g6, hs2⟩ hp hf)
/-- the script's own -/
theorem rz_o_script (C : rz_C G B i p l s m args meth c) {x ix : rz_V} {lo hi : Int} (hd : decode (rz_by i) pc = .ok (.iaload, 1)) (hx : Nat.beq x.1 8 = true) (hk : rz_k ix = true) (h0 : 0 ≤ ix.2) (hB : rz_nth B 8 = some (lo, hi)) (hlt : ix.2 < lo) (kk : rz_Wj G nL p l e R s m args below meth c Q (pc + 1) L (rz_nm B ix.2.toNat :: S) h k z) : rz_Wj G nL p l e R s m args below meth c Q pc L (ix :: x :: S) h k z := by
  intro H locs ls st hl hs hp hf
  obtain ⟨w, st, rfl, h2, hs1⟩ := rz_skc hs
  obtain ⟨w2, st, rfl, h3, hs2⟩ := rz_skc hs1
  obtain ⟨j, rfl, hj⟩ := rz_vk hk h2
  cases rz_v8 hx h3
  obtain ⟨Ln, ⟨scr, x1, x2, x3, x4, x5⟩, hL8, hL⟩ := (rz_Cw C).2.2.1
  obtain ⟨c1, c2⟩ := rz_clamp hj h0
  have h8 := (rz_Cb C 8 lo hi hB).1
  have e8 : (rz_p G 8).toInt = (Ln : Int) := by
    rw [hL8]; exact toInt_of rfl (by omega)
  have hjL : ix.2.toNat < Ln := by omega
  refine W.iald (v := .int (rz_p G ix.2.toNat)) C.1 C.2.1 (by rw [hp.2.1 _ (rz_Cg C).2.1]; exact x1) x2 x3 ?_ ?_ rfl rfl hd (kk H locs ls _ hl ⟨rz_vnm (rz_Cb C) _, hs2⟩ hp hf)
  · rw [x4, c2]; rintro (q | q); exact c1 q; omega
  · rw [c2]; exact x5 _ hjL
theorem rz_o_slen (C : rz_C G B i p l s m args meth c) {x : rz_V} (hd : decode (rz_by i) pc = .ok (.arraylength, 1)) (hx : Nat.beq x.1 8 = true) (kk : rz_Wj G nL p l e R s m args below meth c Q (pc + 1) L (rz_nm B 8 :: S) h k z) : rz_Wj G nL p l e R s m args below meth c Q pc L (x :: S) h k z := by
  intro H locs ls st hl hs hp hf
  obtain ⟨w2, st, rfl, h3, hs2⟩ := rz_skc hs
  cases rz_v8 hx h3
  obtain ⟨Ln, ⟨scr, x1, x2, x3, x4, x5⟩, hL8, hL⟩ := (rz_Cw C).2.2.1
  exact W.alen (n := rz_p G 8) C.1 C.2.1 (by rw [hp.2.1 _ (rz_Cg C).2.1]; exact x1) x2 (by rw [x4, hL8]) rfl rfl hd (kk H locs ls _ hl ⟨rz_vnm (rz_Cb C) _, hs2⟩ hp hf)
theorem rz_akty : ∀ k, k < 16 → rz_ak k = true → 3 < k → rz_aty k = .object (rz_cn (k - 4)) := by
  intro k hk h1 h2
  have n1 : Nat.beq k 1 = false := by rw [Bool.eq_false_iff]; intro q; cases Nat.eq_of_beq_eq_true q; omega
  have n2 : Nat.beq k 2 = false := by rw [Bool.eq_false_iff]; intro q; cases Nat.eq_of_beq_eq_true q; omega
  have n3 : Nat.beq k 3 = false := by rw [Bool.eq_false_iff]; intro q; cases Nat.eq_of_beq_eq_true q; omega
  simp [rz_aty, n1, n2, n3]
end
end
section
/-! Cells: arrays of references, stores, fields, new ones. -/
section
variable {G : rz_G} {B : rz_B} {i nL : Nat} {p : Program} {l : Launch} {e : Env} {R : Room} {s : State} {m : MethodId} {args : Array Value} {below : List Frame} {meth : Method} {c : Code}
variable {pc : Nat} {L : List (Nat × rz_V)} {S : List rz_V} {h : List rz_E} {k z : Nat} {Q : State → Prop} {H : Heap} {locs : List Loc} {ls : Array Slot} {rest : List Value} {cc : ByteArray}
theorem rz_isRs {n : Nat} (hq : rz_isR n = true) : 3 < n ∧ n < 16 ∧ rz_ak n = true := by
  simp only [rz_isR, Bool.and_eq_true] at hq
  obtain ⟨h1, h2, h3⟩ := hq
  refine ⟨Nat.blt_eq.mp h1, Nat.blt_eq.mp h2, ?_⟩
  simp only [rz_ak, h3, Bool.or_true]
theorem rz_o_aaload (C : rz_C G B i p l s m args meth c) {x ix v : rz_V} (hd : decode (rz_by i) pc = .ok (.aaload, 1)) (hv : rz_ld h rz_isR ix x = some v) (kk : rz_Wj G nL p l e R s m args below meth c Q (pc + 1) L (v :: S) h k z) : rz_Wj G nL p l e R s m args below meth c Q pc L (ix :: x :: S) h k z := by
  intro H locs ls st hl hs hp hf
  obtain ⟨w, st, rfl, h2, hs1⟩ := rz_skc hs
  obtain ⟨w2, st, rfl, h3, hs2⟩ := rz_skc hs1
  obtain ⟨e0, cell, j, y, b1, rfl, rfl, g1, g2, g3, g4, g5, g6⟩ := rz_lds hv hp h3 h2 (fun n q => by have := rz_isRs q; omega)
  obtain ⟨b2, b3, b4⟩ := rz_isRs b1
  have ha := ((rz_Cw C).2.1 e0.1 b4).1
  rw [rz_akty _ b3 b4 b2] at ha
  exact W.aald C.1 C.2.1 g1 (rz_arr ha g3 g2) rfl (rz_vmk g2) g4 g5 rfl rfl hd (kk H locs ls _ hl ⟨g6, hs2⟩ hp hf)
theorem rz_slotset {cell : Cell} {j n : Nat} {x : Value} : (cell.setSlot j x).slots[n]? = if n = j ∧ j < cell.slots.size then some x else cell.slots[n]? := by
  by_cases hnj : n = j
  · subst hnj
    by_cases hlt : n < cell.slots.size
    · rw [if_pos ⟨rfl, hlt⟩]; exact Cell.slots_setSlot_self x hlt
    · rw [if_neg (fun q => hlt q.2)]
      simp [Cell.setSlot, Array.getElem?_setIfInBounds, hlt]
  · rw [if_neg (fun q => hnj q.1)]
    exact slot_ne _ _ (fun q => hnj q.symm)
/-- an element's store: what the row for it needs, and the heap behind it -/
theorem rz_ass {a ix v : rz_V} {h' : List rz_E} {kd : Nat → Bool} (hld : rz_as h kd v ix a = some h') {u w : Value} (hp : rz_hp G h H) (ha : rz_vr G a u) (hi : rz_vr G ix w) (hkd : ∀ n, kd n = true → 0 < n ∧ n < 16) :
    ∃ (e : rz_E) (cell : Cell) (j : Int32), kd e.1 = true ∧ u = .ref (rz_n0 G + a.2.toNat) ∧ w = .int j ∧ H[rz_n0 G + a.2.toNat]? = some cell ∧ cell.vm = .none ∧ cell.cls = rz_a G e.1 ∧ ¬ (j < 0 ∨ cell.slots.size ≤ j.toNatClampNeg) ∧
      ∀ (H' : Heap) (x : Value), rz_vr G v x → H'[rz_n0 G + a.2.toNat]? = some (cell.setSlot j.toNatClampNeg x) → H'.size = H.size → (∀ q, q ≠ rz_n0 G + a.2.toNat → H'[q]? = H[q]?) → rz_hp G h' H' := by
  unfold rz_as at hld
  cases hc : rz_cell h a with
  | none => simp [hc] at hld
  | some e =>
    simp only [hc] at hld
    cases hb : kd e.1 && (rz_k ix && (decide (0 ≤ ix.2) && Nat.blt ix.2.toNat e.2.1)) with
    | false => simp [hb] at hld
    | true =>
      simp only [hb, cond_true, Option.some.injEq] at hld
      subst hld
      simp only [Bool.and_eq_true, decide_eq_true_eq] at hb
      obtain ⟨b1, b2, b3, b4⟩ := hb
      have b4 := Nat.blt_eq.mp b4
      obtain ⟨rfl, -, cell, g1, g2⟩ := rz_cellat hp hc ha
      obtain ⟨j, rfl, hj⟩ := rz_vk b2 hi
      obtain ⟨c1, c2⟩ := rz_clamp hj b3
      obtain ⟨q1, q2⟩ := hkd _ b1
      obtain ⟨d1, d2, d3, d4⟩ := rz_cellk g2 q1 q2
      refine ⟨e, cell, j, b1, rfl, rfl, g1, d1, d2, by rw [d3, c2]; rintro (q | q); exact c1 q; omega, fun H' x hx e1 e2 e3 => ?_⟩
      refine rz_hput hp e1 e2 e3 ⟨d1, Or.inr (Or.inr ⟨q1, q2, d2, by rw [k2_slotsz]; exact d3, fun n hn => ?_⟩)⟩
      rw [c2]
      by_cases hnj : n = ix.2.toNat
      · subst hnj
        refine ⟨x, by rw [rz_slotset, if_pos ⟨rfl, by omega⟩], ?_⟩
        have : rz_ael (e.1, e.2.1, e.2.2.1, (ix.2.toNat, v) :: e.2.2.2) ix.2.toNat = v := by
          simp [rz_ael, rz_lk]
        rw [this]; exact hx
      · obtain ⟨y, y1, y2⟩ := d4 n hn
        refine ⟨y, by rw [rz_slotset, if_neg (fun q => hnj q.1)]; exact y1, ?_⟩
        have hb : Nat.beq ix.2.toNat n = false := by rw [Bool.eq_false_iff]; intro q; exact hnj (Nat.eq_of_beq_eq_true q).symm
        have : rz_ael (e.1, e.2.1, e.2.2.1, (ix.2.toNat, v) :: e.2.2.2) n = rz_ael e n := by
          simp [rz_ael, rz_lk, hb]
        rw [this]; exact y2
theorem rz_lapp {hf : ∀ q ∈ locs, rz_n0 G ≤ q.base} {a j : Nat} (ha : rz_n0 G ≤ a) : ∀ q ∈ locs ++ [(⟨a, j⟩ : Loc)], rz_n0 G ≤ q.base := by
  intro q hq
  rcases List.mem_append.mp hq with hq | hq
  · exact hf q hq
  · rw [List.mem_singleton.mp hq]; exact ha
theorem rz_o_iastore (C : rz_C G B i p l s m args meth c) {x ix v : rz_V} {h' : List rz_E} (hd : decode (rz_by i) pc = .ok (.iastore, 1)) (hI : rz_isI v = true) (hv : rz_as h (rz_is 1) v ix x = some h') (kk : rz_Wj G nL p l e R s m args below meth c Q (pc + 1) L S h' k z) : rz_Wj G nL p l e R s m args below meth c Q pc L (v :: ix :: x :: S) h k z := by
  intro H locs ls st hl hs hp hf
  obtain ⟨w0, st, rfl, h1, hs0⟩ := rz_skc hs
  obtain ⟨w, st, rfl, h2, hs1⟩ := rz_skc hs0
  obtain ⟨w2, st, rfl, h3, hs2⟩ := rz_skc hs1
  obtain ⟨y, rfl⟩ := rz_vI hI h1
  obtain ⟨e0, cell, j, b1, rfl, rfl, g1, g2, g3, g4, g5⟩ := rz_ass hv hp h3 h2 (fun n q => by cases Nat.eq_of_beq_eq_true q; omega)
  have e1 := Nat.eq_of_beq_eq_true b1
  have ha := ((rz_Cw C).2.1 1 rfl).1
  exact W.iast C.1 C.2.1 g1 (rz_arr ha (by rw [g3, e1]) g2) (rz_vmk g2) g4 rfl rfl hd (fun H' q1 q2 q3 => kk H' _ ls _ hl hs2 (g5 H' _ h1 q1 q2 q3) (rz_lapp (hf := hf) (by omega)))
theorem rz_o_lastore (C : rz_C G B i p l s m args meth c) {x ix v : rz_V} {h' : List rz_E} (hd : decode (rz_by i) pc = .ok (.lastore, 1)) (hI : rz_isL v = true) (hv : rz_as h (rz_is 2) v ix x = some h') (kk : rz_Wj G nL p l e R s m args below meth c Q (pc + 1) L S h' k z) : rz_Wj G nL p l e R s m args below meth c Q pc L (v :: ix :: x :: S) h k z := by
  intro H locs ls st hl hs hp hf
  obtain ⟨w0, st, rfl, h1, hs0⟩ := rz_skc hs
  obtain ⟨w, st, rfl, h2, hs1⟩ := rz_skc hs0
  obtain ⟨w2, st, rfl, h3, hs2⟩ := rz_skc hs1
  obtain ⟨y, rfl⟩ := rz_vL hI h1
  obtain ⟨e0, cell, j, b1, rfl, rfl, g1, g2, g3, g4, g5⟩ := rz_ass hv hp h3 h2 (fun n q => by cases Nat.eq_of_beq_eq_true q; omega)
  have e1 := Nat.eq_of_beq_eq_true b1
  have ha := ((rz_Cw C).2.1 2 rfl).1
  exact W.last C.1 C.2.1 g1 (rz_arr ha (by rw [g3, e1]) g2) (rz_vmk g2) g4 rfl rfl hd (fun H' q1 q2 q3 => kk H' _ ls _ hl hs2 (g5 H' _ h1 q1 q2 q3) (rz_lapp (hf := hf) (by omega)))
theorem rz_b01s {v : rz_V} {w : Value} (hb : rz_b01 v = true) (hv : rz_vr G v w) : ∃ y : Int32, w = .int y ∧ (y = 0 ∨ y = 1) := by
  simp only [rz_b01, Bool.or_eq_true, decide_eq_true_eq] at hb
  rcases hb with rfl | rfl
  · obtain ⟨y, h1, h2⟩ := hv
    exact ⟨y, h1, Or.inl (rz_int_eq h2)⟩
  · obtain ⟨y, h1, h2⟩ := hv
    exact ⟨y, h1, Or.inr (rz_int_eq h2)⟩
theorem rz_nb {y : Int32} (h : y = 0 ∨ y = 1) : narrow .boolean (.int y) = .int y := by
  rcases h with rfl | rfl
  · exact narrow_b0
  · exact narrow_b1
theorem rz_o_bastore (C : rz_C G B i p l s m args meth c) {x ix v : rz_V} {h' : List rz_E} (hd : decode (rz_by i) pc = .ok (.bastore, 1)) (hI : rz_b01 v = true) (hv : rz_as h (rz_is 3) v ix x = some h') (kk : rz_Wj G nL p l e R s m args below meth c Q (pc + 1) L S h' k z) : rz_Wj G nL p l e R s m args below meth c Q pc L (v :: ix :: x :: S) h k z := by
  intro H locs ls st hl hs hp hf
  obtain ⟨w0, st, rfl, h1, hs0⟩ := rz_skc hs
  obtain ⟨w, st, rfl, h2, hs1⟩ := rz_skc hs0
  obtain ⟨w2, st, rfl, h3, hs2⟩ := rz_skc hs1
  obtain ⟨y, rfl, hy⟩ := rz_b01s hI h1
  obtain ⟨e0, cell, j, b1, rfl, rfl, g1, g2, g3, g4, g5⟩ := rz_ass hv hp h3 h2 (fun n q => by cases Nat.eq_of_beq_eq_true q; omega)
  have e1 := Nat.eq_of_beq_eq_true b1
  have ha := ((rz_Cw C).2.1 3 rfl).1
  refine W.zast C.1 C.2.1 g1 (rz_arr ha (by rw [g3, e1]) g2) (rz_vmk g2) g4 rfl rfl hd (fun H' q1 q2 q3 => ?_)
  rw [rz_nb hy] at q1
  exact kk H' _ ls _ hl hs2 (g5 H' _ h1 q1 q2 q3) (rz_lapp (hf := hf) (by omega))
theorem rz_alen {h : List rz_E} (C : rz_C G B i p l s m args meth c) {x : rz_V} {e0 : rz_E} (hd : decode (rz_by i) pc = .ok (.arraylength, 1)) (hx : rz_cell h x = some e0) (h0 : 0 < e0.1) (h1 : e0.1 < 16) (hak : rz_ak e0.1 = true) (hn : (e0.2.1 : Int) ≤ 100000) (kk : rz_Wj G nL p l e R s m args below meth c Q (pc + 1) L ((0, (e0.2.1 : Int)) :: S) h k z) : rz_Wj G nL p l e R s m args below meth c Q pc L (x :: S) h k z := by
  intro H locs ls st hl hs hp hf
  obtain ⟨w2, st, rfl, h3, hs2⟩ := rz_skc hs
  obtain ⟨rfl, -, cell, g1, g2⟩ := rz_cellat hp hx h3
  obtain ⟨d1, d2, d3, d4⟩ := rz_cellk g2 h0 h1
  exact W.alen (n := Int32.ofNat e0.2.1) C.1 C.2.1 g1 (rz_arr ((rz_Cw C).2.1 _ hak).1 d2 d1) (by rw [d3]) rfl rfl hd (kk H locs ls _ hl ⟨⟨_, rfl, toInt_of rfl (by omega)⟩, hs2⟩ hp hf)
end
end
section
/-! Fields, new cells, references stored in arrays, the ends. -/
/-- what the tables know of the class a -/
def rz_clOK (a : Nat) : Prop := vwCl[a]? = some (rz_cn a, rz_T a, rz_N a) ∧ (∀ w ∈ u_ws (rz_cn a) (rz_T a) (rz_N a), w ∈ rz_TS) ∧ (∀ k, k < rz_N a → parseFieldDescriptor (rz_T a k).2.2.1 = some (rz_ty a k)) ∧
  (∀ x, x < rz_N a → ∀ y, y < rz_N a → x ≠ y → (rz_T a x).2.1 ≠ (rz_T a y).2.1) ∧ Cond.instantiable (rz_cn a) (rz_N a) ∈ rz_TS ∧ Cond.initialized (rz_cn a) ∈ rz_TS
/-- what the tables know of a field's entry -/
def rz_flOK (o x a kf : Nat) : Prop := kf < rz_N a ∧ (rz_T a kf).1 = rz_cn a ∧ Cond.fieldLink (rz_cn o) x (rz_cn a) (rz_T a kf).2.1 (rz_T a kf).2.2.1 ∈ rz_TS
section
variable {G : rz_G} {B : rz_B} {i nL : Nat} {p : Program} {l : Launch} {e : Env} {R : Room} {s : State} {m : MethodId} {args : Array Value} {below : List Frame} {meth : Method} {c : Code}
variable {pc : Nat} {L : List (Nat × rz_V)} {S : List rz_V} {h : List rz_E} {k z : Nat} {Q : State → Prop} {H : Heap} {locs : List Loc} {ls : Array Slot} {rest : List Value} {cc : ByteArray}
theorem rz_Co (C : rz_C G B i p l s m args meth c) : s.vm.findClass (rz_cn (rz_mo i)) = some m.cls := C.2.2.2.2.1
theorem rz_Ct (C : rz_C G B i p l s m args meth c) : ∀ w ∈ rz_TS, w.before args s = true := C.2.2.2.2.2.1
theorem rz_o_getf (C : rz_C G B i p l s m args meth c) {x v : rz_V} {a kf idx : Nat} {e0 : rz_E} (hcl : rz_clOK a) (hfl : rz_flOK (rz_mo i) idx a kf) (hd : decode (rz_by i) pc = .ok (.getfield idx, 3)) (hx : rz_cell h x = some e0) (h0 : Nat.beq e0.1 0 = true) (h1 : Nat.beq e0.2.1 a = true) (hv : rz_nth e0.2.2.1 kf = some v) (kk : rz_Wj G nL p l e R s m args below meth c Q (pc + 3) L (v :: S) h k z) : rz_Wj G nL p l e R s m args below meth c Q pc L (x :: S) h k z := by
  intro H locs ls st hl hs hp hf
  obtain ⟨w, st, rfl, h2, hs1⟩ := rz_skc hs
  obtain ⟨rfl, -, cell, g1, g2⟩ := rz_cellat hp hx h2
  obtain ⟨d1, d2, d3⟩ := rz_cello g2 (Nat.eq_of_beq_eq_true h0)
  obtain ⟨y, y1, y2⟩ := d3 _ _ hv
  rw [Nat.eq_of_beq_eq_true h1] at y1
  obtain ⟨c1, c2, c3, c4, c5, c6⟩ := hcl
  obtain ⟨f1, f2, f3⟩ := hfl
  obtain ⟨hS, hfc, kC, hkC, hkind⟩ := (rz_Cw C).1.1 a _ c1
  obtain ⟨cf, kf', fi, f, hi, hsl⟩ := hS kf f1
  have hst := (u_facts hfc hkC (u_lays (rz_Ct C) c2 f1) hi).1
  refine W.getf C.1 C.2.1 (rz_Co C) (rz_Ct C _ f3) (by rw [← f2]; exact hi) hst g1 (rz_vmk d1) (v := y) ?_ rfl rfl hd (kk H locs ls _ hl ⟨y2, hs1⟩ hp hf)
  rw [hsl]; exact y1
theorem rz_fits {ty : FieldType} {v : rz_V} {w : Value} (hv : rz_fit ty v = true) (r : rz_vr G v w) : narrow ty w = w ∧ fits ty w = true := by
  cases ty with
  | int => obtain ⟨x, rfl⟩ := rz_vI hv r; exact ⟨rfl, rfl⟩
  | long => obtain ⟨x, rfl⟩ := rz_vL hv r; exact ⟨rfl, rfl⟩
  | boolean => obtain ⟨x, rfl, hx⟩ := rz_b01s hv r; exact ⟨rz_nb hx, by rcases hx with rfl | rfl <;> rfl⟩
  | object n => rcases rz_vA hv r with rfl | ⟨x, rfl⟩ <;> exact ⟨rfl, rfl⟩
  | array n => rcases rz_vA hv r with rfl | ⟨x, rfl⟩ <;> exact ⟨rfl, rfl⟩
  | _ => simp [rz_fit] at hv
theorem rz_o_putf (C : rz_C G B i p l s m args meth c) {x v : rz_V} {a kf idx : Nat} {e0 : rz_E} (hcl : rz_clOK a) (hfl : rz_flOK (rz_mo i) idx a kf) (hfin : (rz_T a kf).2.2.2 = true → (rz_y i).name = "<init>" ∧ rz_cn (rz_mo i) = rz_cn a) (hd : decode (rz_by i) pc = .ok (.putfield idx, 3)) (hx : rz_cell h x = some e0) (h0 : Nat.beq e0.1 0 = true) (h1 : Nat.beq e0.2.1 a = true) (hlen : kf < e0.2.2.1.length) (hv : rz_fit (rz_ty a kf) v = true) (kk : rz_Wj G nL p l e R s m args below meth c Q (pc + 3) L S (rz_set h x.2.toNat (0, a, rz_set e0.2.2.1 kf v, e0.2.2.2)) k z)
    (hfull : ∀ j a0, rz_nth e0.2.2.1 j = some a0 → j < rz_N a) : rz_Wj G nL p l e R s m args below meth c Q pc L (v :: x :: S) h k z := by
  intro H locs ls st hl hs hp hf
  obtain ⟨w0, st, rfl, hw, hs0⟩ := rz_skc hs
  obtain ⟨w, st, rfl, h2, hs1⟩ := rz_skc hs0
  obtain ⟨rfl, -, cell, g1, g2⟩ := rz_cellat hp hx h2
  obtain ⟨d1, d2, d3⟩ := rz_cello g2 (Nat.eq_of_beq_eq_true h0)
  have ea := Nat.eq_of_beq_eq_true h1
  obtain ⟨c1, c2, c3, c4, c5, c6⟩ := hcl
  obtain ⟨f1, f2, f3⟩ := hfl
  have hap := va_apart (own := rz_cn (rz_mo i)) (rz_Ct C) c2 (rz_ty a) c3 c4 (rz_Cw C).1 c1
  obtain ⟨hS, hfc, kC, hkC, hkind⟩ := (rz_Cw C).1.1 a _ c1
  obtain ⟨cf, kf', fi, f, hi, hsl⟩ := hS kf f1
  have hst := (u_facts hfc hkC (u_lays (rz_Ct C) c2 f1) hi).1
  obtain ⟨hn, hfit⟩ := rz_fits hv hw
  have hlay := rz_Ct C _ (c2 _ (u_in_lay f1))
  have hin : ∃ y, rz_nth e0.2.2.1 kf = some y := by
    cases q : rz_nth e0.2.2.1 kf with
    | some y => exact ⟨y, rfl⟩
    | none =>
      exfalso
      have : ∀ (l : List rz_V) (n : Nat), n < l.length → rz_nth l n ≠ none := by
        intro l
        induction l with
        | nil => intro n hn; simp at hn
        | cons z l ih =>
          intro n hn
          cases n with
          | zero => simp [rz_nth]
          | succ n => exact ih n (by simpa using hn)
      exact this _ _ hlen q
  obtain ⟨y0, hy0⟩ := hin
  obtain ⟨y1, y2, -⟩ := d3 _ _ hy0
  rw [ea] at y2
  have hslt : f.slot < cell.slots.size := by rw [hsl]; exact k2_hasslot y2
  have hnew : ∀ H' : Heap, H'[rz_n0 G + x.2.toNat]? = some (cell.setSlot f.slot w0) → H'.size = H.size → (∀ q, q ≠ rz_n0 G + x.2.toNat → H'[q]? = H[q]?) → rz_hp G (rz_set h x.2.toNat (0, a, rz_set e0.2.2.1 kf v, e0.2.2.2)) H' := by
    intro H' e1 e2 e3
    refine rz_hput hp e1 e2 e3 ⟨d1, Or.inl ⟨rfl, by rw [← ea]; exact d2, fun j a0 hj => ?_⟩⟩
    rw [hsl] at e1
    rcases rz_nth_set hj with ⟨rfl, rfl⟩ | ⟨hne, hj⟩
    · exact ⟨w0, by rw [hsl, rz_slotset, if_pos ⟨rfl, by rw [← hsl]; exact hslt⟩], hw⟩
    · obtain ⟨u, u1, u2⟩ := d3 _ _ hj
      rw [ea] at u1
      exact ⟨u, by rw [hsl, rz_slotset, if_neg (fun q => hap _ _ (hfull j a0 hj) f1 hne q.1)]; exact u1, u2⟩
  unfold u_lay at hlay
  by_cases hfi : (rz_T a kf).2.2.2 = true
  · rw [if_pos hfi] at hlay
    obtain ⟨hi1, hi2⟩ := hfin hfi
    have hcf : m.cls = cf := by
      obtain ⟨_, _, c', _, _, _, -, -, hf', -, -, -, hown2, -⟩ := Cond.laysFinal_spec hlay
      have e1 : c' = cf := by have := hi.symm.trans hf'; simp at this; exact this.1.symm
      rw [f2, ← hi2] at hown2
      rw [← e1]; exact Option.some.inj ((rz_Co C).symm.trans hown2)
    have h6 := u_fits hfc hkC hkind (Or.inr hlay) hi (c3 _ f1) hn hfit
    exact W.putFinK C.1 C.2.1 (rz_Co C) (rz_Ct C _ f3) (by rw [← f2]; exact hi) hst hcf (C.2.2.2.2.2.2.2.1 hi1) (by rw [d2, ea]; exact h6) g1 d1 hslt rfl rfl hd (fun H' e1 e2 e3 => kk H' _ ls _ hl hs1 (hnew H' e1 e2 e3) (rz_lapp (hf := hf) (by omega)))
  · rw [if_neg hfi] at hlay
    have h6 := u_store hfc hkC hkind hlay hi (c3 _ f1) hn hfit
    exact W.putK C.1 C.2.1 (f := f) ⟨rz_Co C, rz_Ct C _ f3, ⟨_, _, _, by rw [← f2]; exact hi⟩, hst⟩ (by rw [d2, ea]; exact h6) g1 d1 hslt rfl rfl hd (fun H' e1 e2 e3 => kk H' _ ls _ hl hs1 (hnew H' e1 e2 e3) (rz_lapp (hf := hf) (by omega)))
theorem rz_dtv {ty : FieldType} (hty : ty = .int ∨ ty = .long ∨ ty = .boolean ∨ (∃ n, ty = .object n) ∨ ∃ n, ty = .array n) : rz_vr G (rz_dt ty) (defaultValue ty) := by
  rcases hty with rfl | rfl | rfl | ⟨n, rfl⟩ | ⟨n, rfl⟩
  · exact ⟨0, rfl, rfl⟩
  · exact ⟨0, rfl, rfl⟩
  · exact ⟨0, rfl, rfl⟩
  · rfl
  · rfl
theorem rz_nthmap {α β : Type} {f : α → β} : ∀ {l : List α} {j : Nat} {y : β}, rz_nth (l.map f) j = some y → ∃ x, l[j]? = some x ∧ f x = y
  | [], _, _, h => by cases h
  | a :: l, 0, y, h => ⟨a, rfl, Option.some.inj h⟩
  | a :: l, n + 1, y, h => by
    obtain ⟨x, h1, h2⟩ := rz_nthmap (l := l) (j := n) h
    exact ⟨x, by simpa using h1, h2⟩
theorem rz_o_new (C : rz_C G B i p l s m args meth c) {a idx : Nat} (hcl : rz_clOK a) (hty : ∀ k, k < rz_N a → rz_ty a k = .int ∨ rz_ty a k = .long ∨ rz_ty a k = .boolean ∨ (∃ n, rz_ty a k = .object n) ∨ ∃ n, rz_ty a k = .array n) (hln : Cond.classLink (rz_cn (rz_mo i)) idx (rz_cn a) ∈ rz_TS) (hd : decode (rz_by i) pc = .ok (.new idx, 3)) (hk : k + 1 ≤ R.cells) (hz : z + rz_N a ≤ R.slots) (kk : rz_Wj G nL p l e R s m args below meth c Q (pc + 3) L ((4, (h.length : Int)) :: S) (h ++ [(0, a, rz_df a, [])]) (k + 1) (z + rz_N a)) : rz_Wj G nL p l e R s m args below meth c Q pc L S h k z := by
  intro H locs ls st hl hs hp hf
  obtain ⟨c1, c2, c3, c4, c5, c6⟩ := hcl
  have hKn := (rz_Cw C).1.1 a _ c1
  refine W.newcK C.1 C.2.1 (rz_Co C) (rz_Ct C _ hln) (rz_Ct C _ c5) (rz_Ct C _ c6) rfl hd hk hz hKn.2.1 rfl fun H1 kC hkC e1 z1 o1 => ?_
  obtain ⟨cell, t1, t2, t3, t4⟩ := u_born (rz_ty a) (rz_Ct C) c2 hKn hkC e1 c3
  refine kk H1 locs ls _ hl ⟨?_, hs⟩ (rz_hnew hp t1 z1 o1 ⟨t3, Or.inl ⟨rfl, t2, fun j a0 hj => ?_⟩⟩) hf
  · show Value.ref H.size = Value.ref _
    rw [hp.1]; simp
  · obtain ⟨x, h1, h2⟩ := rz_nthmap hj
    have hx : j < rz_N a ∧ x = j := by
      have hlt := (List.getElem?_eq_some_iff.mp h1).1
      simp at hlt
      have := (List.getElem?_eq_some_iff.mp h1).2
      simp at this
      exact ⟨hlt, this.symm⟩
    obtain ⟨hlt, rfl⟩ := hx
    exact ⟨_, t4 x hlt, by rw [← h2]; exact rz_dtv (hty x hlt)⟩
theorem rz_dv_at {kind n j : Nat} {v : Value} (hk : rz_vr G (rz_dv kind) v) : rz_vr G (rz_ael (kind, n, [], []) j) v := hk
theorem rz_o_newa (C : rz_C G B i p l s m args meth c) {x : rz_V} {t : ArrayType} {ka : Nat} (hd : decode (rz_by i) pc = .ok (.newarray t, 2)) (hka : (t = .int ∧ ka = 1) ∨ (t = .long ∧ ka = 2) ∨ (t = .boolean ∧ ka = 3)) (hw : Cond.arrayClass (newarray.typeOf t) ∈ rz_TS) (hx : rz_k x = true) (h0 : 0 ≤ x.2) (h1 : x.2 ≤ 100000) (hk : k + 1 ≤ R.cells) (hz : z + x.2.toNat ≤ R.slots) (kk : rz_Wj G nL p l e R s m args below meth c Q (pc + 2) L ((4, (h.length : Int)) :: S) (h ++ [(ka, x.2.toNat, [], [])]) (k + 1) (z + x.2.toNat)) : rz_Wj G nL p l e R s m args below meth c Q pc L (x :: S) h k z := by
  intro H locs ls st hl hs hp hf
  obtain ⟨w, st, rfl, h2, hs1⟩ := rz_skc hs
  obtain ⟨y, rfl, hy⟩ := rz_vk hx h2
  obtain ⟨q1, q2⟩ := rz_clamp hy h0
  have hcb : componentBytes (newarray.typeOf t) ≤ 8 := by
    rcases hka with ⟨rfl, -⟩ | ⟨rfl, -⟩ | ⟨rfl, -⟩ <;> decide
  have hbytes : x.2.toNat * componentBytes (newarray.typeOf t) ≤ 536870912 := by
    have h9 : x.2.toNat ≤ 100000 := by omega
    calc x.2.toNat * componentBytes (newarray.typeOf t) ≤ 100000 * 8 := Nat.mul_le_mul h9 hcb
      _ ≤ 536870912 := by decide
  refine va_newaK C.1 C.2.1 (rz_Ct C _ hw) rfl hd rfl q1 q2 hbytes hk hz rfl fun H1 cA e1 z1 o1 hAr hNm => ?_
  have hdv : rz_vr G (rz_dv ka) (defaultValue (newarray.typeOf t)) := by
    rcases hka with ⟨rfl, rfl⟩ | ⟨rfl, rfl⟩ | ⟨rfl, rfl⟩ <;> exact ⟨0, rfl, rfl⟩
  have hcA : cA = rz_a G ka := by
    have hra := ((rz_Cw C).2.1 ka (by rcases hka with ⟨-, rfl⟩ | ⟨-, rfl⟩ | ⟨-, rfl⟩ <;> rfl)).2
    rcases hka with ⟨rfl, rfl⟩ | ⟨rfl, rfl⟩ | ⟨rfl, rfl⟩ <;> exact Option.some.inj (hNm.symm.trans hra)
  refine kk H1 locs ls _ hl ⟨?_, hs1⟩ (rz_hnew hp e1 z1 o1 ⟨rfl, Or.inr (Or.inr ⟨?_, ?_, hcA, ?_, fun j hj => ⟨_, ?_, hdv⟩⟩)⟩) hf
  · show Value.ref H.size = Value.ref _
    rw [hp.1]; simp
  · rcases hka with ⟨-, rfl⟩ | ⟨-, rfl⟩ | ⟨-, rfl⟩ <;> simp
  · rcases hka with ⟨-, rfl⟩ | ⟨-, rfl⟩ | ⟨-, rfl⟩ <;> simp
  · rw [arrV_size]
  · first | exact arrV_read _ _ hj | (simp [arrV, hj]; done) | (rw [← arrV_new]; simp [hj])
end
end
section
/-! Arrays of references made, references stored, Object's constructor, the ends of a method. -/
section
variable {G : rz_G} {B : rz_B} {i nL : Nat} {p : Program} {l : Launch} {e : Env} {R : Room} {s : State} {m : MethodId} {args : Array Value} {below : List Frame} {meth : Method} {c : Code}
variable {pc : Nat} {L : List (Nat × rz_V)} {S : List rz_V} {h : List rz_E} {k z : Nat} {Q : State → Prop} {H : Heap} {locs : List Loc} {ls : Array Slot} {rest : List Value} {cc : ByteArray}
theorem rz_o_anew (C : rz_C G B i p l s m args meth c) {x : rz_V} {a idx : Nat} (hd : decode (rz_by i) pc = .ok (.anewarray idx, 3)) (ha : a < 12) (hak : rz_ak (a + 4) = true) (hln : Cond.classLink (rz_cn (rz_mo i)) idx (rz_cn a) ∈ rz_TS) (hov : Cond.arrayOver (.object (rz_cn a)) ∈ rz_TS) (hx : rz_k x = true) (h0 : 0 ≤ x.2) (h1 : x.2 ≤ 100000) (hk : k + 1 ≤ R.cells) (hz : z + x.2.toNat ≤ R.slots) (kk : rz_Wj G nL p l e R s m args below meth c Q (pc + 3) L ((4, (h.length : Int)) :: S) (h ++ [(a + 4, x.2.toNat, [], [])]) (k + 1) (z + x.2.toNat)) : rz_Wj G nL p l e R s m args below meth c Q pc L (x :: S) h k z := by
  intro H locs ls st hl hs hp hf
  obtain ⟨w, st, rfl, h2, hs1⟩ := rz_skc hs
  obtain ⟨y, rfl, hy⟩ := rz_vk hx h2
  obtain ⟨q1, q2⟩ := rz_clamp hy h0
  have hra := ((rz_Cw C).2.1 (a + 4) hak).2
  rw [rz_akty _ (by omega) hak (by omega), show a + 4 - 4 = a by omega] at hra
  obtain ⟨kA', comp', r1, r2, r3, r4⟩ := hra
  refine W.anew C.1 C.2.1 (rz_Co C) (rz_Ct C _ hln) (rz_Ct C _ hov) rfl hd rfl q1 (by rw [q2]; omega) hk (by rw [q2]; exact hz) fun cA kA comp f1 f2 f3 f4 => ?_
  have hcA : cA = rz_a G (a + 4) := Option.some.inj (f1.symm.trans r4)
  rw [q2]
  refine kk _ locs ls _ hl ⟨?_, hs1⟩ (rz_hnew hp (cell := { cls := cA, slots := Array.replicate x.2.toNat .null, vm := .none }) (by simp) (by simp) (fun q hq => by rw [Array.getElem?_push, if_neg (Nat.ne_of_lt hq)]) ⟨rfl, Or.inr (Or.inr ⟨by simp, by show a + 4 < 16; omega, hcA, by simp, fun j hj => ⟨.null, by rw [Array.getElem?_replicate, if_pos hj], ?_⟩⟩)⟩) hf
  · show Value.ref H.size = Value.ref _
    rw [hp.1]; simp
  · have hb1 : Nat.beq (a + 4) 1 = false := by rw [Bool.eq_false_iff]; intro q; have := Nat.eq_of_beq_eq_true q; omega
    have hb2 : Nat.beq (a + 4) 2 = false := by rw [Bool.eq_false_iff]; intro q; have := Nat.eq_of_beq_eq_true q; omega
    have hb3 : Nat.beq (a + 4) 3 = false := by rw [Bool.eq_false_iff]; intro q; have := Nat.eq_of_beq_eq_true q; omega
    have : rz_ael (a + 4, x.2.toNat, [], []) j = (5, 0) := by simp [rz_ael, rz_lk, rz_dv, hb1, hb2, hb3]
    rw [this]
    rfl
theorem rz_o_aastore (C : rz_C G B i p l s m args meth c) {x ix v : rz_V} {e1 : rz_E} {h' : List rz_E} (hcl : rz_clOK e1.2.1) (hd : decode (rz_by i) pc = .ok (.aastore, 1)) (hc : rz_cell h v = some e1) (h0 : Nat.beq e1.1 0 = true) (h12 : e1.2.1 < 12) (hak : rz_ak (e1.2.1 + 4) = true) (hv : rz_as h (rz_is (e1.2.1 + 4)) v ix x = some h') (kk : rz_Wj G nL p l e R s m args below meth c Q (pc + 1) L S h' k z) : rz_Wj G nL p l e R s m args below meth c Q pc L (v :: ix :: x :: S) h k z := by
  intro H locs ls st hl hs hp hf
  obtain ⟨w0, st, rfl, h1, hs0⟩ := rz_skc hs
  obtain ⟨w, st, rfl, h2, hs1⟩ := rz_skc hs0
  obtain ⟨w2, st, rfl, h3, hs2⟩ := rz_skc hs1
  obtain ⟨rfl, -, cv, v1, v2⟩ := rz_cellat hp hc h1
  obtain ⟨d1, d2, d3⟩ := rz_cello v2 (Nat.eq_of_beq_eq_true h0)
  obtain ⟨e0, cell, j, b1, rfl, rfl, g1, g2, g3, g4, g5⟩ := rz_ass hv hp h3 h2 (fun n q => by cases Nat.eq_of_beq_eq_true q; omega)
  have ee := Nat.eq_of_beq_eq_true b1
  have hra := ((rz_Cw C).2.1 (e1.2.1 + 4) hak).2
  rw [rz_akty _ (by omega) hak (by omega), show e1.2.1 + 4 - 4 = e1.2.1 by omega] at hra
  obtain ⟨kA, comp, r1, r2, r3, r4⟩ := hra
  have hcls := ((rz_Cw C).1.1 _ _ hcl.1).2
  have hcomp : comp = (rz_D G).1 e1.2.1 := Option.some.inj (r3.symm.trans hcls.1)
  subst hcomp
  obtain ⟨kC, hkC, -⟩ := id hcls.2
  exact W.aast C.1 C.2.1 g1 (fun q hq => by rw [g2] at hq; cases hq) (rz_vmk g2) (by rw [g3, ee]; exact r1) r2 rfl hkC ⟨fun q => g4 (Or.inl q), Nat.not_le.mp (fun q => g4 (Or.inr q))⟩ v1 (fun q hq => by rw [d1] at hq; cases hq) (by rw [d2]; exact hkC) (by rw [d2]; exact va_assign hcls) rfl rfl hd (fun H' q1 q2 q3 => kk H' _ ls _ hl hs2 (g5 H' _ h1 q1 q2 q3) (rz_lapp (hf := hf) (by omega)))
theorem rz_o_objinit (C : rz_C G B i p l s m args meth c) (hnl : nL = rz_nL i) {x : rz_V} {idx : Nat} (hd : decode (rz_by i) pc = .ok (.invokespecial idx, 3)) (hln : Cond.methodLink (rz_cn (rz_mo i)) idx Lib.objectInit ∈ rz_TS) (hi : Cond.instanceMethod Lib.objectInit ∈ rz_TS) (hcw : Cond.code Lib.objectInit ⟨#[0xb1]⟩ 1 none ∈ rz_TS) (hx : Nat.beq x.1 4 = true) (hcs : rz_cats S ≤ 8) (hfr : 1 ≤ R.frames) (hlo : 20 ≤ R.locals) (kk : rz_Wj G nL p l e R s m args below meth c Q (pc + 3) L S h k z) : rz_Wj G nL p l e R s m args below meth c Q pc L (x :: S) h k z := by
  intro H locs ls st hl hs hp hf
  obtain ⟨w, st, rfl, h2, hs1⟩ := rz_skc hs
  cases rz_v4 hx h2
  have hsz : ls.size = c.maxLocals := by
    obtain ⟨lv, q1, -⟩ := hl
    rw [q1.1, hnl, C.2.2.2.1]
  exact W.objInit C.1 C.2.1 (rz_Co C) (rz_Ct C _ hln) (rz_Ct C _ hi) (rz_Ct C _ hcw) rfl hsz rfl hd hfr (by show 2 * 0 + _ + 12 ≤ _; rw [rz_skcat hs1]; omega) (kk H locs ls _ hl hs1 hp hf)
theorem rz_toMQ {Qc : Array Value → State → Outcome → State → Prop} {Qd : Outcome → State → Prop} {g : JFrame} {mc ms : Nat} {fr : Addr → Prop} (hq : ∀ o t, Qc args s o t → Qd o t) (kk : W p l e R s m args below meth c H locs k z (MQ below Qc args s mc ms fr) g) : W p l e R s m args below meth c H locs k z (rz_MQ below Qd s mc ms fr) g := by
  intro T hT X
  obtain ⟨t, a1, o, b1, b2, b3, L1, b4, b5⟩ := kk T hT X
  exact ⟨t, a1, o, b1, b2, hq _ _ b3, L1, b4.2, b5⟩
theorem rz_o_ireturn (C : rz_C G B i p l s m args meth c) {v : rz_V} (hd : decode (rz_by i) pc = .ok (.ireturn, 1)) (hI : rz_isI v = true) (hr : rz_ret i = some .int ∨ (rz_ret i = some .boolean ∧ rz_b01 v = true)) : rz_Wj G nL p l e R s m args below meth c (rz_MQ below (rz_Q G ((1, v), h, k, z)) s k z (rz_fr G)) pc L [v] h k z := by
  intro H locs ls st hl hs hp hf
  obtain ⟨w, st, rfl, h2, hs1⟩ := rz_skc hs
  cases rz_sk0 hs1
  obtain ⟨x, rfl⟩ := rz_vI hI h2
  refine rz_toMQ (Qc := fun _ _ o t => rz_Q G ((1, v), h, k, z) o t) (fun o t q => q) ?_
  rcases hr with hr | ⟨hr, hb⟩
  · exact W.iret C.1 C.2.1 (by rw [C.2.2.1]; exact hr) (fun t ht _ => ⟨by rw [ht]; exact hp, _, rfl, h2⟩) hf hd C.2.2.2.2.2.2.1
  · obtain ⟨y, hy, hy2⟩ := rz_b01s hb h2
    cases hy
    exact W.zret C.1 C.2.1 (by rw [C.2.2.1]; exact hr) (rz_nb hy2) (fun t ht _ => ⟨by rw [ht]; exact hp, _, rfl, h2⟩) hf hd C.2.2.2.2.2.2.1
theorem rz_o_lreturn (C : rz_C G B i p l s m args meth c) {v : rz_V} (hd : decode (rz_by i) pc = .ok (.lreturn, 1)) (hI : rz_isL v = true) (hr : rz_ret i = some .long) : rz_Wj G nL p l e R s m args below meth c (rz_MQ below (rz_Q G ((1, v), h, k, z)) s k z (rz_fr G)) pc L [v] h k z := by
  intro H locs ls st hl hs hp hf
  obtain ⟨w, st, rfl, h2, hs1⟩ := rz_skc hs
  cases rz_sk0 hs1
  obtain ⟨x, rfl⟩ := rz_vL hI h2
  refine rz_toMQ (Qc := fun _ _ o t => rz_Q G ((1, v), h, k, z) o t) (fun o t q => q) ?_
  exact W.lret C.1 C.2.1 (by rw [C.2.2.1]; exact hr) (fun t ht _ => ⟨by rw [ht]; exact hp, _, rfl, h2⟩) hf hd C.2.2.2.2.2.2.1
theorem rz_o_areturn (C : rz_C G B i p l s m args meth c) {v : rz_V} {n : String} (hd : decode (rz_by i) pc = .ok (.areturn, 1)) (hI : rz_isA v = true) (hr : rz_ret i = some (.object n)) : rz_Wj G nL p l e R s m args below meth c (rz_MQ below (rz_Q G ((1, v), h, k, z)) s k z (rz_fr G)) pc L [v] h k z := by
  intro H locs ls st hl hs hp hf
  obtain ⟨w, st, rfl, h2, hs1⟩ := rz_skc hs
  cases rz_sk0 hs1
  refine rz_toMQ (Qc := fun _ _ o t => rz_Q G ((1, v), h, k, z) o t) (fun o t q => q) ?_
  exact W.aret C.1 C.2.1 (by rw [C.2.2.1]; exact hr) (Or.inl ⟨n, rfl⟩) (rz_vA hI h2) (fun t ht _ => ⟨by rw [ht]; exact hp, _, rfl, h2⟩) hf hd C.2.2.2.2.2.2.1
theorem rz_o_return (C : rz_C G B i p l s m args meth c) (hd : decode (rz_by i) pc = .ok (.return_, 1)) (hr : rz_ret i = none) : rz_Wj G nL p l e R s m args below meth c (rz_MQ below (rz_Q G ((0, (0, 0)), h, k, z)) s k z (rz_fr G)) pc L [] h k z := by
  intro H locs ls st hl hs hp hf
  cases rz_sk0 hs
  refine rz_toMQ (Qc := fun _ _ o t => rz_Q G ((0, (0, 0)), h, k, z) o t) (fun o t q => q) ?_
  exact W.vret C.1 C.2.1 (by rw [C.2.2.1]; exact hr) (fun t ht _ => ⟨by rw [ht]; exact hp, rfl⟩) hf hd C.2.2.2.2.2.2.1
end
end
section
/-! Calls of methods by what the small machine says of them; catching. -/
def rz_rm (d K Z : Nat) : Room := { frames := d + 8, cells := K, slots := Z, locals := 64 * d + 128 }
def rz_Pc (G : rz_G) (h : List rz_E) (vs : List Value) : Array Value → State → Prop := fun A U => A = vs.toArray ∧ rz_hp G h U.heap ∧ rz_WI G rz_is0 U
/-- what the evaluator of callees says, of depth d, holds of the machine -/
def rz_cOK (G : rz_G) (l : Launch) (d : Nat) (call : Nat → List rz_V → List rz_E → Nat → Nat → Option rz_R) : Prop :=
  ∀ (a : Nat) (as : List rz_V) (h : List rz_E) (K Z : Nat) (r : rz_R), call a as h K Z = some r → ∀ vs : List Value, rz_sk G as vs → rz_Met l (rz_y a) rz_TS (rz_rm d K Z) (rz_Pc G h vs) (rz_Q G r) r.2.2.1 r.2.2.2 (rz_fr G)
/-- what the tables know of the method a -/
def rz_mOK (a : Nat) : Prop := ((rz_hh a = [] ∧ Cond.code (rz_y a) (rz_by a) (rz_nL a) (rz_ret a) ∈ rz_TS) ∨ Cond.codeWith (rz_y a) (rz_by a) (rz_nL a) (rz_ret a) (rz_hh a) ∈ rz_TS) ∧ Cond.initialized (rz_y a).cls ∈ rz_TS ∧ (rz_y a).cls = rz_cn (rz_mo a) ∧ plainFor (rz_y a) = true ∧
  ((rz_y a).cls ≠ "java/lang/invoke/MethodHandle" ∧ (rz_y a).cls ≠ "java/lang/invoke/VarHandle") ∧ rz_nL a ≤ 45
section
variable {G : rz_G} {B : rz_B} {i nL : Nat} {p : Program} {l : Launch} {e : Env} {R : Room} {s : State} {m : MethodId} {args : Array Value} {below : List Frame} {meth : Method} {c : Code}
variable {pc : Nat} {L : List (Nat × rz_V)} {S : List rz_V} {h : List rz_E} {k z : Nat} {Q : State → Prop} {H : Heap} {locs : List Loc} {ls : Array Slot} {rest : List Value}
theorem rz_code_at {a : Nat} (hm : rz_mOK a) {U : State} {A : Array Value} (hts : ∀ w ∈ rz_TS, w.before A U = true) {mk : MethodId} (hn : U.methodNamed? (rz_y a) = some mk) :
    ∃ meth c, U.vm.method? mk = some meth ∧ meth.code = some c ∧ c.code = rz_by a ∧ c.maxLocals = rz_nL a ∧ meth.sig.returnType = rz_ret a ∧ meth.locks = false ∧ c.exceptionTable.toList = tableOf (rz_hh a) ∧ parseMethodDescriptor (rz_y a).desc = some meth.sig := by
  rcases hm.1 with ⟨hh, hw⟩ | hw
  · obtain ⟨meth, c, h1, h2, h3, h4, h5, h6, h7, h8⟩ := Cond.code_spec hn (hts _ hw)
    refine ⟨meth, c, h1, h2, h3, h4, h5, h6, ?_, h8⟩
    rw [hh, Array.isEmpty_iff.mp h7]; rfl
  · obtain ⟨m9, meth, c, hn9, h1, h2, h3, h4, h5, h6, h7, h8⟩ := Cond.codeWith_spec (hts _ hw)
    cases hn.symm.trans hn9
    refine ⟨meth, c, h1, h2, h3, h4, h6, h7, ?_, h8⟩
    rw [← h5, tableOf, List.map_map]
    exact (List.map_id _).symm
theorem rz_core {T : State} (X : Stand p l e R s m args below meth c T locs k z) (hT : T.heap = H) (C : rz_C G B i p l s m args meth c) {a d K Z : Nat} {as : List rz_V} {vs : List Value} {r : rz_R} (hm : rz_mOK a)
    (hM : rz_Met l (rz_y a) rz_TS (rz_rm d K Z) (rz_Pc G h vs) (rz_Q G r) r.2.2.1 r.2.2.2 (rz_fr G)) (hfr : d + 9 ≤ R.frames) (hlo : 64 * d + 192 ≤ R.locals) (hkc : k + K ≤ R.cells) (hzs : z + Z ≤ R.slots)
    (hsz : ls.size = c.maxLocals) {ig : Instr} (hdg : decode c.code pc = .ok (ig, 3)) {st : List Value} (hcs : (st.map fun v => v.category).sum ≤ 8) {mk : MethodId} (hn : T.methodNamed? (rz_y a) = some mk) (hp : rz_hp G h H)
    (hk : ∀ (o : Outcome) (t : State) (Lc : List Loc), rz_Q G r o t → (∀ q ∈ Lc, rz_n0 G ≤ q.base) → match o with
      | .returned v => W p l e R s m args below meth c t.heap (locs ++ Lc) (k + r.2.2.1) (z + r.2.2.2) Q (F0 m (pc + 3) ls (v.toList ++ st))
      | .threw x => vx_W p l e R s m args below meth c t.heap (locs ++ Lc) (k + r.2.2.1) (z + r.2.2.2) Q (F0 m pc ls st) x) :
    ∃ t, Steps p.tables e below (doInvoke e (T.setTop (F0 m pc ls st)) [] mk vs.toArray).1 t ∧ Q t := by
  have hts := rz_TSat (a' := vs.toArray) X.warmed (rz_Ct C)
  obtain ⟨methY, cY, q1, q2, -, q4, -⟩ := rz_code_at hm hts hn
  obtain ⟨o, t, Lc, X', hW', hq, hL, hst⟩ := rz_call (W := 8) (maxL := rz_nL a) X hM (by show d + 8 + 1 ≤ _; omega) (by have := hm.2.2.2.2.2; show 8 + (rz_nL a + 11) + (64 * d + 128) ≤ _; omega) hkc hzs (g := F0 m pc ls st) rfl hsz hdg (by show 2 * 0 + (st.map fun v => v.category).sum ≤ 8; omega) hn ⟨methY, cY, q1, q2, q4⟩ (atoms_intro hts) (hts _ hm.2.1)
    (fun g mk => ⟨rfl, by show rz_hp G h T.heap; rw [hT]; exact hp, rz_WIw (U := T.calling g mk vs.toArray) X.warmed (rz_Cw C)⟩)
  have h9 := hk o t Lc hq hL
  cases o with
  | returned v =>
    obtain ⟨t2, a1, b1⟩ := h9 (({ T with heap := t.heap, slotsUsed := t.slotsUsed } : State).setVm t.vm) rfl X'
    exact ⟨t2, hst.trans a1, b1⟩
  | threw x =>
    obtain ⟨t2, a1, b1⟩ := h9 (({ T with heap := t.heap, slotsUsed := t.slotsUsed } : State).setVm t.vm) rfl X'
    exact ⟨t2, hst.trans a1, b1⟩
theorem rz_tks : ∀ (n : Nat) {acc S as S' : List rz_V} {av st : List Value}, rz_tk n acc S = some (as, S') → rz_sk G acc av → rz_sk G S st → ∃ us st', st = us ++ st' ∧ us.length = n ∧ rz_sk G as (us.reverse ++ av) ∧ rz_sk G S' st'
  | 0, acc, S, as, S', av, st, h, ha, hs => by
    cases h
    exact ⟨[], st, rfl, rfl, ha, hs⟩
  | n + 1, acc, [], as, S', av, st, h, ha, hs => by cases h
  | n + 1, acc, v :: S, as, S', av, st, h, ha, hs => by
    obtain ⟨w, st1, rfl, h2, hs1⟩ := rz_skc hs
    obtain ⟨us, st', e1, e2, e3, e4⟩ := rz_tks n (av := w :: av) h ⟨h2, ha⟩ hs1
    exact ⟨w :: us, st', by rw [e1]; rfl, by simp [e2], by simpa using e3, e4⟩
theorem rz_lsz (C : rz_C G B i p l s m args meth c) (hnl : nL = rz_nL i) (hl : rz_loc G nL L ls) : ls.size = c.maxLocals := by
  obtain ⟨lv, q1, -⟩ := hl
  rw [q1.1, hnl, C.2.2.2.1]
/-- the machine calls a static method -/
theorem rz_stat (C : rz_C G B i p l s m args meth c) {a idx d K Z n : Nat} {vs : List Value} {r : rz_R} (hm : rz_mOK a) (hln : Cond.methodLink (rz_cn (rz_mo i)) idx (rz_y a) ∈ rz_TS) (hst : Cond.static (rz_y a) ∈ rz_TS) (hpn : ∀ sig, parseMethodDescriptor (rz_y a).desc = some sig → sig.parameters.length = n) (hvs : vs.length = n)
    (hM : rz_Met l (rz_y a) rz_TS (rz_rm d K Z) (rz_Pc G h vs) (rz_Q G r) r.2.2.1 r.2.2.2 (rz_fr G)) (hfr : d + 9 ≤ R.frames) (hlo : 64 * d + 192 ≤ R.locals) (hkc : k + K ≤ R.cells) (hzs : z + Z ≤ R.slots)
    (hsz : ls.size = c.maxLocals) (hdg : decode (rz_by i) pc = .ok (.invokestatic idx, 3)) {st : List Value} (hcs : (st.map fun v => v.category).sum ≤ 8) (hp : rz_hp G h H)
    (hk : ∀ (o : Outcome) (t : State) (Lc : List Loc), rz_Q G r o t → (∀ q ∈ Lc, rz_n0 G ≤ q.base) → match o with
      | .returned v => W p l e R s m args below meth c t.heap (locs ++ Lc) (k + r.2.2.1) (z + r.2.2.2) Q (F0 m (pc + 3) ls (v.toList ++ st))
      | .threw x => vx_W p l e R s m args below meth c t.heap (locs ++ Lc) (k + r.2.2.1) (z + r.2.2.2) Q (F0 m pc ls st) x) :
    W p l e R s m args below meth c H locs k z Q (F0 m pc ls (vs.reverse ++ st)) := by
  intro T hT X
  have hts := rz_Ct C
  have hcw : ∃ mk, s.methodNamed? (rz_y a) = some mk := by
    rcases hm.1 with ⟨-, hw⟩ | hw
    · obtain ⟨mk, hq⟩ := Cond.code_named (hts _ hw)
      exact ⟨mk, hq⟩
    · obtain ⟨m9, meth, c, hn9, -⟩ := Cond.codeWith_spec (hts _ hw)
      exact ⟨m9, hn9⟩
  obtain ⟨mk, hnamed⟩ := hcw
  obtain ⟨methM, cM, hmethM, -, -, -, -, -, -, hsigM⟩ := rz_code_at hm hts hnamed
  have hstatic : methM.isStatic = true := Cond.static_spec hnamed hmethM (hts _ hst)
  obtain ⟨kP, hkP, -⟩ := className_of_methodNamed hnamed
  have hinitP : kP.init = .initialized := Cond.initialized_spec (findClass_of_methodNamed hnamed) hkP (hts _ hm.2.1)
  have hdg' : decode c.code pc = .ok (.invokestatic idx, 3) := by rw [C.2.1]; exact hdg
  obtain ⟨vm₁, X₁, hstep₁⟩ := X.invokestatic C.1 (rz_Co C) (hts _ hln) hnamed hmethM hstatic hkP hinitP hm.2.2.2.2.1 (g := F0 m pc ls (vs.reverse ++ st)) rfl (argsL := vs) (rest := st) (by rw [hvs]; exact (hpn _ hsigM).symm) rfl hdg'
  obtain ⟨t, a1, b1⟩ := rz_core (as := []) X₁ hT C hm hM hfr hlo hkc hzs hsz hdg' hcs (X₁.named hnamed) hp hk
  exact ⟨t, hstep₁ _ fun acts => by rw [doInvoke_state]; exact a1, b1⟩
/-- the machine calls an instance method of the class that the tables name -/
theorem rz_virt (C : rz_C G B i p l s m args meth c) {a idx d K Z n b : Nat} {vs : List Value} {r : rz_R} {cell : Cell} (hm : rz_mOK a) (hln : Cond.methodLink (rz_cn (rz_mo i)) idx (rz_y a) ∈ rz_TS) (hins : Cond.instanceMethod (rz_y a) ∈ rz_TS) (hsel : Cond.selects (rz_cn (rz_mo a)) (rz_y a) (rz_y a) ∈ rz_TS) (hpn : ∀ sig, parseMethodDescriptor (rz_y a).desc = some sig → sig.parameters.length = n) (hvs : vs.length = n)
    (hcell : H[b]? = some cell) (hvm : cell.vm = .none) (hcls : s.vm.findClass (rz_cn (rz_mo a)) = some cell.cls)
    (hM : rz_Met l (rz_y a) rz_TS (rz_rm d K Z) (rz_Pc G h (.ref b :: vs)) (rz_Q G r) r.2.2.1 r.2.2.2 (rz_fr G)) (hfr : d + 9 ≤ R.frames) (hlo : 64 * d + 192 ≤ R.locals) (hkc : k + K ≤ R.cells) (hzs : z + Z ≤ R.slots)
    (hsz : ls.size = c.maxLocals) (hdg : decode (rz_by i) pc = .ok (.invokevirtual idx, 3)) {st : List Value} (hcs : (st.map fun v => v.category).sum ≤ 8) (hp : rz_hp G h H)
    (hk : ∀ (o : Outcome) (t : State) (Lc : List Loc), rz_Q G r o t → (∀ q ∈ Lc, rz_n0 G ≤ q.base) → match o with
      | .returned v => W p l e R s m args below meth c t.heap (locs ++ Lc) (k + r.2.2.1) (z + r.2.2.2) Q (F0 m (pc + 3) ls (v.toList ++ st))
      | .threw x => vx_W p l e R s m args below meth c t.heap (locs ++ Lc) (k + r.2.2.1) (z + r.2.2.2) Q (F0 m pc ls st) x) :
    W p l e R s m args below meth c H locs k z Q (F0 m pc ls (vs.reverse ++ .ref b :: st)) := by
  intro T hT X
  have hts := rz_Ct C
  obtain ⟨mk, methM, hnamed, hmethM, hstM, habM⟩ := Cond.instanceMethod_spec (hts _ hins)
  obtain ⟨methM', cM, hmethM', -, -, -, -, -, -, hsigM⟩ := rz_code_at hm hts hnamed
  cases hmethM.symm.trans hmethM'
  obtain ⟨c2, r2, m2, q1, q2, q3, q4, kP, hkP, hkPi⟩ := Cond.selects_spec (hts _ hsel)
  cases hcls.symm.trans q1
  cases (State.methodFound?_of_named hnamed hm.2.2.2.2.1).symm.trans q2
  cases hnamed.symm.trans q3
  have hselP : selectMethod e.platform s.vm cell.cls mk = .method mk := by rw [Launch.admits_selectMethod X.admits]; exact q4
  have hdg' : decode c.code pc = .ok (.invokevirtual idx, 3) := by rw [C.2.1]; exact hdg
  obtain ⟨vm₁, X₁, hstep₁⟩ := X.invokevirtual C.1 (rz_Co C) (hts _ hln) hnamed hmethM hstM hkP hkPi hm.2.2.2.2.1 (a := b) (cell := cell) (by rw [hT]; exact hcell)
    (fun z h => by rw [hvm] at h; cases h) hselP hmethM habM hkP hkPi (g := F0 m pc ls (vs.reverse ++ .ref b :: st)) rfl (argsL := vs) (rest := st) (by rw [hvs]; exact (hpn _ hsigM).symm) rfl hdg'
  obtain ⟨t, a1, b1⟩ := rz_core (as := []) X₁ hT C hm hM hfr hlo hkc hzs hsz hdg' hcs (X₁.named hnamed) hp hk
  exact ⟨t, hstep₁ _ fun acts => by rw [doInvoke_state]; exact a1, b1⟩
/-- the machine calls a constructor -/
theorem rz_spec (C : rz_C G B i p l s m args meth c) {a idx d K Z n b : Nat} {vs : List Value} {r : rz_R} (hm : rz_mOK a) (hin : (rz_y a).name = "<init>") (hret : rz_ret a = none) (hh : rz_hh a = []) (hcw : Cond.code (rz_y a) (rz_by a) (rz_nL a) (rz_ret a) ∈ rz_TS) (hln : Cond.methodLink (rz_cn (rz_mo i)) idx (rz_y a) ∈ rz_TS ∨ ∃ host, Cond.methodLinkNest (rz_cn (rz_mo i)) idx (rz_y a) host ∈ rz_TS) (hins : Cond.instanceMethod (rz_y a) ∈ rz_TS) (hpn : ∀ sig, parseMethodDescriptor (rz_y a).desc = some sig → sig.parameters.length = n) (hvs : vs.length = n)
    (hM : rz_Met l (rz_y a) rz_TS (rz_rm d K Z) (rz_Pc G h (.ref b :: vs)) (rz_Q G r) r.2.2.1 r.2.2.2 (rz_fr G)) (hfr : d + 9 ≤ R.frames) (hlo : 64 * d + 192 ≤ R.locals) (hkc : k + K ≤ R.cells) (hzs : z + Z ≤ R.slots)
    (hsz : ls.size = c.maxLocals) (hdg : decode (rz_by i) pc = .ok (.invokespecial idx, 3)) {st : List Value} (hcs : (st.map fun v => v.category).sum ≤ 8) (hp : rz_hp G h H)
    (hk : ∀ (o : Outcome) (t : State) (Lc : List Loc), rz_Q G r o t → (∀ q ∈ Lc, rz_n0 G ≤ q.base) → match o with
      | .returned v => W p l e R s m args below meth c t.heap (locs ++ Lc) (k + r.2.2.1) (z + r.2.2.2) Q (F0 m (pc + 3) ls (v.toList ++ st))
      | .threw x => vx_W p l e R s m args below meth c t.heap (locs ++ Lc) (k + r.2.2.1) (z + r.2.2.2) Q (F0 m pc ls st) x) :
    W p l e R s m args below meth c H locs k z Q (F0 m pc ls (vs.reverse ++ .ref b :: st)) := by
  intro T hT X
  have hts := rz_Ct C
  have hpl : e.platform.magicAccessors = ({} : Platform).magicAccessors := by rw [X.admits.platform]
  have hdg' : decode c.code pc = .ok (.invokespecial idx, 3) := by rw [C.2.1]; exact hdg
  have hcw' := hts _ hcw
  rw [hret] at hcw'
  have hlen : ∀ sig, parseMethodDescriptor (rz_y a).desc = some sig → vs.length = sig.parameters.length := fun sig hs => by rw [hvs]; exact (hpn sig hs).symm
  rcases hln with hln | ⟨host, hln⟩
  · obtain ⟨mk, methM, cM, kP, vm₁, hnamed, hmethM, hcodeM, -, hlocalsM, -, hkP, -, hW₁, hstep₁⟩ := Steps.initColdArgs (e := e) X.here C.1 X.warmed hpl (rz_Co C) hin hm.2.2.2.2.1 (hts _ hln) (hts _ hins) hcw' (f := F0 m pc ls (vs.reverse ++ .ref b :: st)) rfl hlen rfl hdg'
    have X₁ := X.noted hW₁
    obtain ⟨t, a1, b1⟩ := rz_core (as := []) X₁ hT C hm hM hfr hlo hkc hzs hsz hdg' hcs (X₁.named hnamed) hp hk
    exact ⟨t, hstep₁ _ fun acts => by rw [doInvoke_state]; exact a1, b1⟩
  · obtain ⟨mk, methM, cM, kP, vm₁, hnamed, hmethM, hcodeM, -, hlocalsM, -, hkP, -, hW₁, hstep₁⟩ := Steps.initColdArgsNest (e := e) X.here C.1 X.warmed hpl (rz_Co C) hin hm.2.2.2.2.1 (hts _ hln) (hts _ hins) hcw' (f := F0 m pc ls (vs.reverse ++ .ref b :: st)) rfl hlen rfl hdg'
    have X₁ := X.noted hW₁
    obtain ⟨t, a1, b1⟩ := rz_core (as := []) X₁ hT C hm hM hfr hlo hkc hzs hsz hdg' hcs (X₁.named hnamed) hp hk
    exact ⟨t, hstep₁ _ fun acts => by rw [doInvoke_state]; exact a1, b1⟩
end
/-! Catching. -/
theorem rz_stepCatch {e : Env} {s : State} {a : Addr} {f : JFrame} {r : List Frame} {pc : Nat} {vm' : Vm} (hfind : ∀ (Q : Handler → Pre) (E : CtlPost) (d : Bool) (acts : List Action), wp (findHandler f a) Q E e d acts s ↔ Q (.found pc) d acts (s.setVm vm')) :
    (stepThrowing e s a (.java f :: r)).Is ((s.setVm vm').setFrames (.java { f with pc := pc, stack := [.ref a] } :: r)) [] := by
  simp only [stepThrowing, searchFrame, vmDo]
  generalize hr : Sem.go _ e false [] s = res
  obtain ⟨as, rfl, ha⟩ := Sem.eq_ok_of hr (a := Handler.found pc) (s' := s.setVm vm') (acts' := []) (by simp [hfind _ _ _ _])
  exact ⟨rfl, ha⟩
theorem rz_caught {tb : Tables} {e : Env} {s target : State} {g : JFrame} {c : Code} {below : List Frame} {a : Addr} (h : At s g.method c below) {pc : Nat} {vm' : Vm} (hfind : ∀ (Q : Handler → Pre) (E : CtlPost) (d : Bool) (acts : List Action), wp (findHandler g a) Q E e d acts ((s.setTop g).pushFrame (.throwing a)) ↔ Q (.found pc) d acts (((s.setTop g).pushFrame (.throwing a)).setVm vm'))
    (hrest : Steps tb e below ((s.setVm vm').setTop { g with pc := pc, stack := [.ref a] }) target) :
    Steps tb e below ((s.setTop g).pushFrame (.throwing a)) target := by
  obtain ⟨hgo, hw⟩ := h.throwing a
  refine Steps.head hgo hw ?_
  rw [stepThread_throwing (frames_entered h.top _), (rz_stepCatch (s := (s.setTop g).pushFrame (.throwing a)) hfind).1]
  obtain ⟨g₀, hg⟩ := Option.isSome_iff_exists.mp h.top
  obtain ⟨r, hr⟩ := State.topJava?_eq_some.mp hg
  have hr' : (s.setVm vm').frames = .java g₀ :: r := hr
  rw [State.setTop_of_frames _ hr'] at hrest
  have e1 : (((s.setTop g).pushFrame (.throwing a)).setVm vm').setFrames (.java { g with pc := pc, stack := [.ref a] } :: s.frames.tail) = (s.setVm vm').setFrames (.java { g with pc := pc, stack := [.ref a] } :: r) := by
    rw [State.pushFrame, State.setTop_of_frames _ hr, State.setFrames_setFrames, hr]
    show ((s.setVm vm').setFrames _).setFrames _ = _
    rw [State.setFrames_setFrames]
    rfl
  rw [e1]
  exact hrest
end
section
/-! A throw that comes to a frame: it is caught there, or goes on. -/
theorem rz_hdn : ∀ {hh : List (Nat × Nat × Nat × Nat)} {pc : Nat}, rz_hd hh pc = none → ∀ x ∈ tableOf hh, covers x pc = false
  | [], _, _, x, hx => by cases hx
  | q :: hh, pc, h, x, hx => by
    unfold rz_hd at h
    cases e : Nat.ble q.1 pc && Nat.blt pc q.2.1 with
    | true => simp [e] at h
    | false =>
      simp only [e, cond_false] at h
      rcases List.mem_cons.mp hx with rfl | hx
      · show (decide (q.1 ≤ pc) && decide (pc < q.2.1)) = false
        rw [← e]
        congr 1
        · rw [Bool.eq_iff_iff]; simp
        · rw [Bool.eq_iff_iff]; simp [Nat.blt_eq]
      · exact rz_hdn h x hx
theorem rz_hds : ∀ {hh : List (Nat × Nat × Nat × Nat)} {pc t ct : Nat}, rz_hd hh pc = some (t, ct) → ∃ pre x suf, tableOf hh = pre ++ x :: suf ∧ (∀ y ∈ pre, covers y pc = false) ∧ covers x pc = true ∧ x.handlerPc = t ∧ x.catchType = ct
  | [], _, _, _, h => by cases h
  | q :: hh, pc, t, ct, h => by
    unfold rz_hd at h
    have e0 : covers (⟨q.1, q.2.1, q.2.2.1, q.2.2.2⟩ : ExceptionTableEntry) pc = (Nat.ble q.1 pc && Nat.blt pc q.2.1) := by
      show (decide (q.1 ≤ pc) && decide (pc < q.2.1)) = _
      congr 1
      · rw [Bool.eq_iff_iff]; simp
      · rw [Bool.eq_iff_iff]; simp [Nat.blt_eq]
    cases e : Nat.ble q.1 pc && Nat.blt pc q.2.1 with
    | true =>
      simp only [e, cond_true, Option.some.injEq] at h
      exact ⟨[], ⟨q.1, q.2.1, q.2.2.1, q.2.2.2⟩, tableOf hh, rfl, (fun y hy => by cases hy), (by rw [e0, e]), (by rw [h]), (by rw [h])⟩
    | false =>
      simp only [e, cond_false] at h
      obtain ⟨pre, x, suf, h1, h2, h3⟩ := rz_hds h
      refine ⟨⟨q.1, q.2.1, q.2.2.1, q.2.2.2⟩ :: pre, x, suf, ?_, fun y hy => ?_, h3⟩
      · show _ :: tableOf hh = _
        rw [h1]; rfl
      · rcases List.mem_cons.mp hy with rfl | hy
        · rw [e0, e]
        · exact h2 y hy
section
variable {G : rz_G} {B : rz_B} {i nL : Nat} {p : Program} {l : Launch} {e : Env} {R : Room} {s : State} {m : MethodId} {args : Array Value} {below : List Frame} {meth : Method} {c : Code}
variable {pc : Nat} {L : List (Nat × rz_V)} {S : List rz_V} {h : List rz_E} {k z : Nat} {Q : State → Prop} {H : Heap} {locs : List Loc} {ls : Array Slot} {rest : List Value}
theorem rz_catchW (C : rz_C G B i p l s m args meth c) {t : Nat} {q : Addr} {ce : Cell} (hln : Cond.classLink (rz_cn (rz_mo i)) 13 rz_iae ∈ rz_TS) (hca : Cond.castable rz_iae rz_iae ∈ rz_TS) (hd : rz_hd (rz_hh i) pc = some (t, 13)) (hcell : H[q]? = some ce) (hv : ce.vm = .none) (hcl : ce.cls = rz_x G)
    (kk : W p l e R s m args below meth c H locs k z Q (F0 m t ls [.ref q])) : vx_W p l e R s m args below meth c H locs k z Q (F0 m pc ls rest) q := by
  intro T hT X
  have hpl : e.platform.magicAccessors = ({} : Platform).magicAccessors := by rw [X.admits.platform]
  obtain ⟨c5, hc5, hcl5⟩ := Cond.classLink_spec (rz_Co C) (rz_Ct C _ hln) e.platform hpl
  have e5 : c5 = rz_x G := Option.some.inj (hc5.symm.trans (rz_Cw C).2.2.2.1)
  obtain ⟨hg₁, hwarm₁, hready₁⟩ := State.classEntry (e := e) X.warmed hcl5
  generalize hvm1 : T.vm.noted m.cls 13 (.cls c5) = vm₁ at hg₁ hwarm₁ hready₁
  have X₁ := X.noted hwarm₁
  obtain ⟨t2, a1, b1⟩ := kk (T.setVm vm₁) hT X₁
  refine ⟨t2, ?_, b1⟩
  have hcast : (Cond.castable rz_iae rz_iae).before #[] (T.setVm vm₁) = true := rz_gw_at (U := T.setVm vm₁) hwarm₁ (List.mem_filter.mp hca).2 (rz_Ct C _ hca)
  obtain ⟨c3, c4, hc3, hc4, hasg⟩ := Cond.castable_spec hcast
  have e3 : c3 = rz_x G := by
    have h1 : vm₁.findClass rz_iae = some c3 := hc3
    rw [hwarm₁.alike.findClass] at h1
    exact Option.some.inj (h1.symm.trans (rz_Cw C).2.2.2.1)
  have e4 : c4 = rz_x G := by
    have h1 : vm₁.findClass rz_iae = some c4 := hc4
    rw [hwarm₁.alike.findClass] at h1
    exact Option.some.inj (h1.symm.trans (rz_Cw C).2.2.2.1)
  have hasg' : vm₁.assignable ce.cls c5 = true := by
    rw [hcl, e5, ← e3]
    have h9 : vm₁.assignable c3 c4 = true := hasg
    rw [e4, ← e3] at h9
    exact h9
  have hkx : ∃ k9, vm₁.classes[rz_x G]? = some k9 := by
    have h1 : vm₁.findClass rz_iae = some c3 := hc3
    rw [e3] at h1
    exact Vm.classAt_of_findClass h1
  obtain ⟨pre, x, suf, p1, p2, p3, p4, p5⟩ := rz_hds hd
  have htab : c.exceptionTable.toList = pre ++ x :: suf := by rw [C.2.2.2.2.2.2.2.2.1, p1]
  have h : At T (F0 m pc ls rest).method c below := X.here
  subst p4
  refine rz_caught h (vm' := vm₁) (fun Q0 E0 d0 acts0 => ?_) a1
  rw [Jvm.W.findHandler_eq (s := (T.setTop (F0 m pc ls rest)).pushFrame (.throwing q)) (meth := meth) (code := c) (by rw [Stand.throwing_vm]; exact X.method') X.code, htab]
  clear htab p1
  induction pre with
  | nil =>
    refine rz_find (c := c5) (cell := ce) p3 (by rw [p5]; decide) (by rw [p5, Stand.throwing_vm]; exact hg₁) (by rw [Stand.throwing_vm, ← hvm1, Vm.size_noted]; exact Nat.le_refl _) (by rw [Stand.throwing_heap, hT]; exact hcell) (fun k9 h9 => by rw [hv] at h9; cases h9) (by rw [hcl]; exact hkx) (by rw [e5]; exact hkx) hasg'
  | cons y pre ih =>
    rw [List.cons_append, Jvm.W.findHandler_go_skip (p2 y List.mem_cons_self)]
    exact ih (fun y hy => p2 y (List.mem_cons_of_mem _ hy))
theorem rz_outW (C : rz_C G B i p l s m args meth c) {q : Addr} {Qd : Outcome → State → Prop} (hd : rz_hd (rz_hh i) pc = none) (hf : ∀ q ∈ locs, rz_n0 G ≤ q.base) (hq : ∀ t : State, t.heap = H → Qd (.threw q) t) :
    vx_W p l e R s m args below meth c H locs k z (rz_MQ below Qd s k z (rz_fr G)) (F0 m pc ls rest) q := by
  intro T hT X
  obtain ⟨st1, hrun, hend, hW, hsm⟩ := X.leaveThrown q (g := F0 m pc ls rest) rfl rfl rfl (by rw [C.2.2.2.2.2.2.2.2.1]; exact rz_hdn hd) C.2.2.2.2.2.2.1
  exact ⟨_, st1, .threw q, hrun, hend, hq _ hT, locs, ⟨hW, hsm⟩, hf⟩
end
end
section
/-! The three calls, in the small machine's words. -/
section
variable {G : rz_G} {B : rz_B} {i nL : Nat} {p : Program} {l : Launch} {e : Env} {R : Room} {s : State} {m : MethodId} {args : Array Value} {below : List Frame} {meth : Method} {c : Code}
variable {pc : Nat} {L : List (Nat × rz_V)} {S : List rz_V} {h : List rz_E} {k z : Nat} {Q : State → Prop}
/-- what is to hold behind the call -/
def rz_Aft (G : rz_G) (nL : Nat) (p : Program) (l : Launch) (e : Env) (R : Room) (s : State) (m : MethodId) (args : Array Value) (below : List Frame) (meth : Method) (c : Code) (Q : State → Prop) (pc : Nat) (L : List (Nat × rz_V)) (S : List rz_V) (k z : Nat) (r : rz_R) : Prop :=
  ∀ (locs : List Loc) (ls : Array Slot) (st : List Value), rz_loc G nL L ls → rz_sk G S st → (∀ q ∈ locs, rz_n0 G ≤ q.base) → ∀ (o : Outcome) (t : State) (Lc : List Loc), rz_Q G r o t → (∀ q ∈ Lc, rz_n0 G ≤ q.base) → match o with
    | .returned v => W p l e R s m args below meth c t.heap (locs ++ Lc) (k + r.2.2.1) (z + r.2.2.2) Q (F0 m (pc + 3) ls (v.toList ++ st))
    | .threw x => vx_W p l e R s m args below meth c t.heap (locs ++ Lc) (k + r.2.2.1) (z + r.2.2.2) Q (F0 m pc ls st) x
theorem rz_lapp2 {locs Lc : List Loc} (h1 : ∀ q ∈ locs, rz_n0 G ≤ q.base) (h2 : ∀ q ∈ Lc, rz_n0 G ≤ q.base) : ∀ q ∈ locs ++ Lc, rz_n0 G ≤ q.base := fun q hq => (List.mem_append.mp hq).elim (h1 q) (h2 q)
theorem rz_aft0 {v : rz_V} {h' : List rz_E} {k' z' : Nat} (kk : rz_Wj G nL p l e R s m args below meth c Q (pc + 3) L S h' (k + k') (z + z')) : rz_Aft G nL p l e R s m args below meth c Q pc L S k z ((0, v), h', k', z') := by
  intro locs ls st hl hs hf o t Lc hq hL
  obtain ⟨hp, ho⟩ := hq
  have ho : o = .returned none := ho
  subst ho
  exact kk _ _ ls st hl hs hp (rz_lapp2 hf hL)
theorem rz_aft1 {v : rz_V} {h' : List rz_E} {k' z' : Nat} (kk : rz_Wj G nL p l e R s m args below meth c Q (pc + 3) L (v :: S) h' (k + k') (z + z')) : rz_Aft G nL p l e R s m args below meth c Q pc L S k z ((1, v), h', k', z') := by
  intro locs ls st hl hs hf o t Lc hq hL
  obtain ⟨hp, w, ho, hw⟩ := hq
  subst ho
  exact kk _ _ ls (w :: st) hl ⟨hw, hs⟩ hp (rz_lapp2 hf hL)
theorem rz_thr {n : Nat} {v : rz_V} {h' : List rz_E} {k' z' : Nat} {o : Outcome} {t : State} (hq : rz_Q G ((n + 2, v), h', k', z') o t) : rz_hp G h' t.heap ∧ ∃ (q : Nat) (ce : Cell), o = .threw q ∧ rz_vr G v (.ref q) ∧ t.heap[q]? = some ce ∧ ce.vm = .none ∧ ce.cls = rz_x G ∧ ∃ (j n : Nat) (fs : List rz_V) (us : List (Nat × rz_V)), v = (4, (j : Int)) ∧ q = rz_n0 G + j ∧ rz_nth h' j = some (100, n, fs, us) := by
  obtain ⟨hp, q, j, ho, hv, hqj, n9, fs, us, hnth⟩ := hq
  obtain ⟨cell, g1, g2, g3⟩ := hp.2.2 _ _ hnth
  refine ⟨hp, q, cell, ho, ?_, by rw [hqj]; exact g1, g2, ?_, j, n9, fs, us, hv, hqj, hnth⟩
  · rw [hv, hqj]; show Value.ref _ = Value.ref _; simp
  · rcases g3 with ⟨g, -⟩ | ⟨-, g⟩ | ⟨-, g, -⟩
    · exact absurd g (by simp)
    · exact g
    · exact absurd g (by simp)
theorem rz_aftC (C : rz_C G B i p l s m args meth c) {n t : Nat} {v : rz_V} {h' : List rz_E} {k' z' : Nat} (hln : Cond.classLink (rz_cn (rz_mo i)) 13 rz_iae ∈ rz_TS) (hca : Cond.castable rz_iae rz_iae ∈ rz_TS) (hd : rz_hd (rz_hh i) pc = some (t, 13)) (kk : rz_Wj G nL p l e R s m args below meth c Q t L [v] h' (k + k') (z + z')) : rz_Aft G nL p l e R s m args below meth c Q pc L S k z ((n + 2, v), h', k', z') := by
  intro locs ls st hl hs hf o t Lc hq hL
  obtain ⟨hp, q, ce, rfl, hv, g1, g2, g3, -⟩ := rz_thr hq
  exact rz_catchW C hln hca hd g1 g2 g3 (kk _ _ ls [.ref q] hl ⟨hv, trivial⟩ hp (rz_lapp2 hf hL))
theorem rz_aftO (C : rz_C G B i p l s m args meth c) {n : Nat} {v : rz_V} {h' : List rz_E} {k' z' : Nat} (hd : rz_hd (rz_hh i) pc = none) : rz_Aft G nL p l e R s m args below meth c (rz_MQ below (rz_Q G ((2, v), h', k + k', z + z')) s (k + k') (z + z') (rz_fr G)) pc L S k z ((n + 2, v), h', k', z') := by
  intro locs ls st hl hs hf o t Lc hq hL
  obtain ⟨hp, q, ce, rfl, hv, g1, g2, g3, j, n9, fs, us, w1, w2, w3⟩ := rz_thr hq
  refine rz_outW C hd (rz_lapp2 hf hL) (fun t2 ht2 => ⟨by rw [ht2]; exact hp, q, j, rfl, w1, w2, n9, fs, us, w3⟩)
theorem rz_o_stat (C : rz_C G B i p l s m args meth c) (hnl : nL = rz_nL i) {a idx d K Z : Nat} {as S' : List rz_V} {r : rz_R} {call : Nat → List rz_V → List rz_E → Nat → Nat → Option rz_R} (ok : rz_cOK G l d call) (hm : rz_mOK a) (hln : Cond.methodLink (rz_cn (rz_mo i)) idx (rz_y a) ∈ rz_TS) (hst : Cond.static (rz_y a) ∈ rz_TS) (hpn : ∀ sig, parseMethodDescriptor (rz_y a).desc = some sig → sig.parameters.length = rz_np a)
    (hfr : d + 9 ≤ R.frames) (hlo : 64 * d + 192 ≤ R.locals) (hRc : R.cells = K) (hRs : R.slots = Z) (hd : decode (rz_by i) pc = .ok (.invokestatic idx, 3)) (htk : rz_tk (rz_np a) [] S = some (as, S')) (hcs : rz_cats S' ≤ 8) (hkK : k ≤ K) (hzZ : z ≤ Z) (hcall : call a as h (K - k) (Z - z) = some r)
    (hA : rz_Aft G nL p l e R s m args below meth c Q pc L S' k z r) : rz_Wj G nL p l e R s m args below meth c Q pc L S h k z := by
  intro H locs ls st hl hs hp hf
  obtain ⟨us, st', rfl, hu, ha, hs'⟩ := rz_tks (G := G) (rz_np a) (av := []) htk trivial hs
  rw [List.append_nil] at ha
  have := rz_stat (Q := Q) (locs := locs) C hm hln hst hpn (vs := us.reverse) (by rw [List.length_reverse, hu]) (ok a as h _ _ r hcall _ ha) hfr hlo (by omega) (by omega) (rz_lsz C hnl hl) hd (st := st') (by rw [rz_skcat hs']; exact hcs) hp (hA locs ls st' hl hs' hf)
  rw [List.reverse_reverse] at this
  exact this
theorem rz_take1 {n : Nat} {x : rz_V} {as S' : List rz_V} {st : List Value} (htk : rz_tk n [] S = some (x :: as, S')) (hs : rz_sk G S st) : ∃ (w : Value) (vs st' : List Value), st = vs.reverse ++ w :: st' ∧ vs.length + 1 = n ∧ rz_vr G x w ∧ rz_sk G as vs ∧ rz_sk G S' st' := by
  obtain ⟨us, st', rfl, hu, ha, hs'⟩ := rz_tks (G := G) n (av := []) htk trivial hs
  rw [List.append_nil] at ha
  obtain ⟨w, vs, e1, h1, h2⟩ := rz_skc ha
  have e2 : us = vs.reverse ++ [w] := by
    have := congrArg List.reverse e1
    simpa using this
  refine ⟨w, vs, st', by rw [e2]; simp, ?_, h1, h2, hs'⟩
  rw [← hu, e2]; simp
theorem rz_o_virt (C : rz_C G B i p l s m args meth c) (hnl : nL = rz_nL i) {a idx d K Z : Nat} {x : rz_V} {as S' : List rz_V} {r : rz_R} {e0 : rz_E} {call : Nat → List rz_V → List rz_E → Nat → Nat → Option rz_R} (ok : rz_cOK G l d call) (hm : rz_mOK a) (hcl : rz_clOK (rz_mo a)) (hln : Cond.methodLink (rz_cn (rz_mo i)) idx (rz_y a) ∈ rz_TS) (hins : Cond.instanceMethod (rz_y a) ∈ rz_TS) (hsel : Cond.selects (rz_cn (rz_mo a)) (rz_y a) (rz_y a) ∈ rz_TS) (hpn : ∀ sig, parseMethodDescriptor (rz_y a).desc = some sig → sig.parameters.length + 1 = rz_np a)
    (hfr : d + 9 ≤ R.frames) (hlo : 64 * d + 192 ≤ R.locals) (hRc : R.cells = K) (hRs : R.slots = Z) (hd : decode (rz_by i) pc = .ok (.invokevirtual idx, 3)) (htk : rz_tk (rz_np a) [] S = some (x :: as, S')) (hx : rz_cell h x = some e0) (h0 : Nat.beq e0.1 0 = true) (h1 : Nat.beq e0.2.1 (rz_mo a) = true) (hcs : rz_cats S' ≤ 8) (hkK : k ≤ K) (hzZ : z ≤ Z) (hcall : call a (x :: as) h (K - k) (Z - z) = some r)
    (hA : rz_Aft G nL p l e R s m args below meth c Q pc L S' k z r) : rz_Wj G nL p l e R s m args below meth c Q pc L S h k z := by
  intro H locs ls st hl hs hp hf
  obtain ⟨w, vs, st', rfl, hu, hw, ha, hs'⟩ := rz_take1 htk hs
  obtain ⟨rfl, -, cell, g1, g2⟩ := rz_cellat hp hx hw
  obtain ⟨d1, d2, d3⟩ := rz_cello g2 (Nat.eq_of_beq_eq_true h0)
  have hfc := ((rz_Cw C).1.1 _ _ hcl.1).2.1
  exact rz_virt (Q := Q) (locs := locs) (n := vs.length) C hm hln hins hsel (fun sig hq => by have := hpn sig hq; omega) rfl g1 d1 (by rw [d2, Nat.eq_of_beq_eq_true h1]; exact hfc) (ok a (x :: as) h _ _ r hcall _ ⟨hw, ha⟩) hfr hlo (by omega) (by omega) (rz_lsz C hnl hl) hd (st := st') (by rw [rz_skcat hs']; exact hcs) hp (hA locs ls st' hl hs' hf)
theorem rz_o_spec (C : rz_C G B i p l s m args meth c) (hnl : nL = rz_nL i) {a idx d K Z : Nat} {x : rz_V} {as S' : List rz_V} {r : rz_R} {call : Nat → List rz_V → List rz_E → Nat → Nat → Option rz_R} (ok : rz_cOK G l d call) (hm : rz_mOK a) (hin : (rz_y a).name = "<init>") (hret : rz_ret a = none) (hh : rz_hh a = []) (hcw : Cond.code (rz_y a) (rz_by a) (rz_nL a) (rz_ret a) ∈ rz_TS) (hln : Cond.methodLink (rz_cn (rz_mo i)) idx (rz_y a) ∈ rz_TS ∨ ∃ host, Cond.methodLinkNest (rz_cn (rz_mo i)) idx (rz_y a) host ∈ rz_TS) (hins : Cond.instanceMethod (rz_y a) ∈ rz_TS) (hpn : ∀ sig, parseMethodDescriptor (rz_y a).desc = some sig → sig.parameters.length + 1 = rz_np a)
    (hfr : d + 9 ≤ R.frames) (hlo : 64 * d + 192 ≤ R.locals) (hRc : R.cells = K) (hRs : R.slots = Z) (hd : decode (rz_by i) pc = .ok (.invokespecial idx, 3)) (htk : rz_tk (rz_np a) [] S = some (x :: as, S')) (hx : Nat.beq x.1 4 = true) (hcs : rz_cats S' ≤ 8) (hkK : k ≤ K) (hzZ : z ≤ Z) (hcall : call a (x :: as) h (K - k) (Z - z) = some r)
    (hA : rz_Aft G nL p l e R s m args below meth c Q pc L S' k z r) : rz_Wj G nL p l e R s m args below meth c Q pc L S h k z := by
  intro H locs ls st hl hs hp hf
  obtain ⟨w, vs, st', rfl, hu, hw, ha, hs'⟩ := rz_take1 htk hs
  have ew := rz_v4 hx hw
  subst ew
  exact rz_spec (Q := Q) (locs := locs) (n := vs.length) C hm hin hret hh hcw hln hins (fun sig hq => by have := hpn sig hq; omega) rfl (ok a (x :: as) h _ _ r hcall _ ⟨hw, ha⟩) hfr hlo (by omega) (by omega) (rz_lsz C hnl hl) hd (st := st') (by rw [rz_skcat hs']; exact hcs) hp (hA locs ls st' hl hs' hf)
end
end
section
/-! One step of the small machine is one of the real one. -/
theorem rz_bif {α : Type} {b : Bool} {x : Option α} {r : α} (h : (bif b then x else none) = some r) : b = true ∧ x = some r := by
  cases b with
  | true => exact ⟨rfl, h⟩
  | false => cases h
def rz_len : Instr → Nat
  | .bipush _ | .aload _ | .iload _ | .lload _ | .istore _ | .astore _ | .lstore _ | .ldc _ | .newarray _ => 2
  | .sipush _ | .ldc_w _ | .ldc2_w _ | .iinc _ _ | .goto _ | .ifCond _ _ | .if_icmp _ _ | .ifnull _ | .ifnonnull _ | .getfield _ | .putfield _ | .new _ | .anewarray _ | .invokespecial _ | .invokevirtual _ | .invokestatic _ => 3
  | _ => 1
/-- what the tables know of the instruction at pc of the method i -/
def rz_sOK (i pc : Nat) (ins : Instr) (a : Nat) (b : Int) : Prop := (∃ n, decode (rz_by i) pc = .ok (ins, n) ∧ (n = rz_len ins ∨ ∃ d lo hi offs, ins = .tableswitch d lo hi offs)) ∧ (rz_hh i = [] ∨ Cond.classLink (rz_cn (rz_mo i)) 13 rz_iae ∈ rz_TS) ∧ match ins with
  | .ldc x => Cond.constant (rz_cn (rz_mo i)) x (Int32.ofInt b) ∈ rz_TS ∧ rz_r32 b = true
  | .ldc_w x => Cond.constant (rz_cn (rz_mo i)) x (Int32.ofInt b) ∈ rz_TS ∧ rz_r32 b = true
  | .ldc2_w x => Cond.constantLong (rz_cn (rz_mo i)) x (Int64.ofInt b) ∈ rz_TS ∧ rz_r64 b = true
  | .getfield x => rz_clOK a ∧ rz_flOK (rz_mo i) x a b.toNat
  | .putfield x => rz_clOK a ∧ rz_flOK (rz_mo i) x a b.toNat ∧ ((rz_T a b.toNat).2.2.2 = true → (rz_y i).name = "<init>" ∧ rz_cn (rz_mo i) = rz_cn a)
  | .new x => rz_clOK a ∧ (∀ k, k < rz_N a → rz_ty a k = .int ∨ rz_ty a k = .long ∨ rz_ty a k = .boolean ∨ (∃ n, rz_ty a k = .object n) ∨ ∃ n, rz_ty a k = .array n) ∧ Cond.classLink (rz_cn (rz_mo i)) x (rz_cn a) ∈ rz_TS
  | .anewarray x => a < 12 ∧ rz_ak (a + 4) = true ∧ Cond.classLink (rz_cn (rz_mo i)) x (rz_cn a) ∈ rz_TS ∧ Cond.arrayOver (.object (rz_cn a)) ∈ rz_TS
  | .newarray t => Cond.arrayClass (newarray.typeOf t) ∈ rz_TS
  | .invokespecial x => (b = 1 ∧ Cond.methodLink (rz_cn (rz_mo i)) x Lib.objectInit ∈ rz_TS ∧ Cond.instanceMethod Lib.objectInit ∈ rz_TS ∧ Cond.code Lib.objectInit ⟨#[0xb1]⟩ 1 none ∈ rz_TS) ∨
      (b ≠ 1 ∧ rz_mOK a ∧ (rz_y a).name = "<init>" ∧ rz_ret a = none ∧ rz_hh a = [] ∧ Cond.code (rz_y a) (rz_by a) (rz_nL a) (rz_ret a) ∈ rz_TS ∧ (Cond.methodLink (rz_cn (rz_mo i)) x (rz_y a) ∈ rz_TS ∨ ∃ host, Cond.methodLinkNest (rz_cn (rz_mo i)) x (rz_y a) host ∈ rz_TS) ∧ Cond.instanceMethod (rz_y a) ∈ rz_TS ∧ ∀ sig, parseMethodDescriptor (rz_y a).desc = some sig → sig.parameters.length + 1 = rz_np a)
  | .invokevirtual x => rz_mOK a ∧ rz_clOK (rz_mo a) ∧ Cond.methodLink (rz_cn (rz_mo i)) x (rz_y a) ∈ rz_TS ∧ Cond.instanceMethod (rz_y a) ∈ rz_TS ∧ Cond.selects (rz_cn (rz_mo a)) (rz_y a) (rz_y a) ∈ rz_TS ∧ ∀ sig, parseMethodDescriptor (rz_y a).desc = some sig → sig.parameters.length + 1 = rz_np a
  | .invokestatic x => rz_mOK a ∧ Cond.methodLink (rz_cn (rz_mo i)) x (rz_y a) ∈ rz_TS ∧ Cond.static (rz_y a) ∈ rz_TS ∧ ∀ sig, parseMethodDescriptor (rz_y a).desc = some sig → sig.parameters.length = rz_np a
  | .ireturn => (rz_ret i = some .int ∧ rz_rb i = false) ∨ (rz_ret i = some .boolean ∧ rz_rb i = true)
  | .lreturn => rz_ret i = some .long
  | .areturn => ∃ n, rz_ret i = some (.object n)
  | .return_ => rz_ret i = none
  | _ => True
section
variable {G : rz_G} {B : rz_B} {i nL : Nat} {p : Program} {l : Launch} {e : Env} {R : Room} {s : State} {m : MethodId} {args : Array Value} {below : List Frame} {meth : Method} {c : Code}
variable {pc : Nat} {L : List (Nat × rz_V)} {S : List rz_V} {h : List rz_E} {k z K Z d : Nat}
theorem rz_dk {ins : Instr} {n : Nat} (hd : decode (rz_by i) pc = .ok (ins, n)) (hn : n = rz_len ins ∨ ∃ d lo hi offs, ins = .tableswitch d lo hi offs) (ht : ∀ d lo hi offs, ins ≠ .tableswitch d lo hi offs) : decode (rz_by i) pc = .ok (ins, rz_len ins) := by
  rcases hn with rfl | ⟨d, lo, hi, offs, h⟩
  · exact hd
  · exact absurd h (ht d lo hi offs)
set_option maxHeartbeats 4000000 in
theorem rz_stepA (C : rz_C G B i p l s m args meth c) (hnl : nL = rz_nL i) {call : Nat → List rz_V → List rz_E → Nat → Nat → Option rz_R} (ok : rz_cOK G l d call) (hfr : d + 9 ≤ R.frames) (hlo : 64 * d + 192 ≤ R.locals) (hRc : R.cells = K) (hRs : R.slots = Z) (hcl : ∀ a, a < 12 → rz_clOK a) (hca : Cond.castable rz_iae rz_iae ∈ rz_TS) {ins : Instr} {a : Nat} {b : Int} (hS : rz_sOK i pc ins a b) {r : rz_F ⊕ rz_R}
    (hh : rz_step call rz_np rz_mo rz_N rz_df rz_ty (rz_hh i) (rz_rb i) B K Z nL (ins, a, b) pc L S h k z = some r) : rz_Ok G nL p l e R s m args below meth c pc L S h k z r := by
  obtain ⟨⟨n, hd, hn⟩, hcc, hS⟩ := hS
  unfold rz_step at hh
  cases ins with
  | iconst v =>
    have hd := rz_dk hd hn (fun _ _ _ _ q => by cases q)
    dsimp only at hh
    obtain ⟨h1, hh⟩ := rz_bif hh
    cases hh
    exact fun Q kk => rz_o_iconst C hd h1 kk
  | bipush v =>
    have hd := rz_dk hd hn (fun _ _ _ _ q => by cases q)
    dsimp only at hh
    obtain ⟨h1, hh⟩ := rz_bif hh
    cases hh
    simp only [Bool.and_eq_true, decide_eq_true_eq] at h1
    exact fun Q kk => rz_o_bipush C hd h1.1 h1.2 kk
  | sipush v =>
    have hd := rz_dk hd hn (fun _ _ _ _ q => by cases q)
    dsimp only at hh
    obtain ⟨h1, hh⟩ := rz_bif hh
    cases hh
    simp only [Bool.and_eq_true, decide_eq_true_eq] at h1
    exact fun Q kk => rz_o_sipush C hd h1.1 h1.2 kk
  | lconst v =>
    have hd := rz_dk hd hn (fun _ _ _ _ q => by cases q)
    cases hh
    exact fun Q kk => rz_o_lconst C hd kk
  | aconst_null =>
    have hd := rz_dk hd hn (fun _ _ _ _ q => by cases q)
    cases hh
    exact fun Q kk => rz_o_null C hd kk
  | ldc v =>
    have hd := rz_dk hd hn (fun _ _ _ _ q => by cases q)
    cases hh
    exact fun Q kk => rz_o_ldc C hd hS.1 hS.2 kk
  | ldc_w v =>
    have hd := rz_dk hd hn (fun _ _ _ _ q => by cases q)
    cases hh
    exact fun Q kk => rz_o_ldcw C hd hS.1 hS.2 kk
  | ldc2_w v =>
    have hd := rz_dk hd hn (fun _ _ _ _ q => by cases q)
    cases hh
    exact fun Q kk => rz_o_ldc2 C hd hS.1 hS.2 kk
  | iload_n j =>
    have hd := rz_dk hd hn (fun _ _ _ _ q => by cases q)
    dsimp only at hh
    cases hv : rz_lk L j.val with
    | none => simp [hv] at hh
    | some v =>
      simp only [hv] at hh
      obtain ⟨h1, hh⟩ := rz_bif hh
      cases hh
      exact fun Q kk => rz_o_iload_n C hd hv h1 kk
  | iload j =>
    have hd := rz_dk hd hn (fun _ _ _ _ q => by cases q)
    dsimp only at hh
    cases hv : rz_lk L j with
    | none => simp [hv] at hh
    | some v =>
      simp only [hv] at hh
      obtain ⟨h1, hh⟩ := rz_bif hh
      cases hh
      exact fun Q kk => rz_o_iload C hd hv h1 kk
  | lload_n j =>
    have hd := rz_dk hd hn (fun _ _ _ _ q => by cases q)
    dsimp only at hh
    cases hv : rz_lk L j.val with
    | none => simp [hv] at hh
    | some v =>
      simp only [hv] at hh
      obtain ⟨h1, hh⟩ := rz_bif hh
      cases hh
      exact fun Q kk => rz_o_lload_n C hd hv h1 kk
  | lload j =>
    have hd := rz_dk hd hn (fun _ _ _ _ q => by cases q)
    dsimp only at hh
    cases hv : rz_lk L j with
    | none => simp [hv] at hh
    | some v =>
      simp only [hv] at hh
      obtain ⟨h1, hh⟩ := rz_bif hh
      cases hh
      exact fun Q kk => rz_o_lload C hd hv h1 kk
  | aload_n j =>
    have hd := rz_dk hd hn (fun _ _ _ _ q => by cases q)
    dsimp only at hh
    cases hv : rz_lk L j.val with
    | none => simp [hv] at hh
    | some v =>
      simp only [hv] at hh
      obtain ⟨h1, hh⟩ := rz_bif hh
      cases hh
      exact fun Q kk => rz_o_aload_n C hd hv h1 kk
  | aload j =>
    have hd := rz_dk hd hn (fun _ _ _ _ q => by cases q)
    dsimp only at hh
    cases hv : rz_lk L j with
    | none => simp [hv] at hh
    | some v =>
      simp only [hv] at hh
      obtain ⟨h1, hh⟩ := rz_bif hh
      cases hh
      exact fun Q kk => rz_o_aload C hd hv h1 kk
  | istore_n j =>
    have hd := rz_dk hd hn (fun _ _ _ _ q => by cases q)
    dsimp only at hh
    cases S with
    | nil => cases hh
    | cons v S =>
      obtain ⟨h1, hh⟩ := rz_bif hh
      cases hh
      simp only [Bool.and_eq_true] at h1
      exact fun Q kk => rz_o_istore_n C hd h1.1 h1.2 kk
  | istore j =>
    have hd := rz_dk hd hn (fun _ _ _ _ q => by cases q)
    dsimp only at hh
    cases S with
    | nil => cases hh
    | cons v S =>
      obtain ⟨h1, hh⟩ := rz_bif hh
      cases hh
      simp only [Bool.and_eq_true] at h1
      exact fun Q kk => rz_o_istore C hd h1.1 h1.2 kk
  | astore_n j =>
    have hd := rz_dk hd hn (fun _ _ _ _ q => by cases q)
    dsimp only at hh
    cases S with
    | nil => cases hh
    | cons v S =>
      obtain ⟨h1, hh⟩ := rz_bif hh
      cases hh
      simp only [Bool.and_eq_true] at h1
      exact fun Q kk => rz_o_astore_n C hd h1.1 h1.2 kk
  | astore j =>
    have hd := rz_dk hd hn (fun _ _ _ _ q => by cases q)
    dsimp only at hh
    cases S with
    | nil => cases hh
    | cons v S =>
      obtain ⟨h1, hh⟩ := rz_bif hh
      cases hh
      simp only [Bool.and_eq_true] at h1
      exact fun Q kk => rz_o_astore C hd h1.1 h1.2 kk
  | lstore j =>
    have hd := rz_dk hd hn (fun _ _ _ _ q => by cases q)
    dsimp only at hh
    cases S with
    | nil => cases hh
    | cons v S =>
      obtain ⟨h1, hh⟩ := rz_bif hh
      cases hh
      simp only [Bool.and_eq_true] at h1
      exact fun Q kk => rz_o_lstore C hd h1.1 h1.2 kk
  | iinc j n =>
    have hd := rz_dk hd hn (fun _ _ _ _ q => by cases q)
    dsimp only at hh
    cases hv : rz_lk L j with
    | none => simp [hv] at hh
    | some v =>
      simp only [hv] at hh
      obtain ⟨h1, hh⟩ := rz_bif hh
      cases hh
      simp only [Bool.and_eq_true] at h1
      exact fun Q kk => rz_o_iinc C hd hv h1.1 h1.2.1 h1.2.2.1 h1.2.2.2 kk
  | dup =>
    have hd := rz_dk hd hn (fun _ _ _ _ q => by cases q)
    dsimp only at hh
    match S, hh with
    | [], hh => cases hh
    | v :: S, hh =>
      obtain ⟨h1, hh⟩ := rz_bif hh
      cases hh
      exact fun Q kk => rz_o_dup C hd h1 kk
  | dup_x1 =>
    have hd := rz_dk hd hn (fun _ _ _ _ q => by cases q)
    dsimp only at hh
    match S, hh with
    | [], hh => cases hh
    | [_], hh => cases hh
    | v :: w :: S, hh =>
      obtain ⟨h1, hh⟩ := rz_bif hh
      cases hh
      simp only [Bool.and_eq_true] at h1
      exact fun Q kk => rz_o_dup_x1 C hd h1.1 h1.2 kk
  | dup_x2 =>
    have hd := rz_dk hd hn (fun _ _ _ _ q => by cases q)
    dsimp only at hh
    match S, hh with
    | [], hh => cases hh
    | [_], hh => cases hh
    | [_, _], hh => cases hh
    | v :: w :: u :: S, hh =>
      obtain ⟨h1, hh⟩ := rz_bif hh
      cases hh
      simp only [Bool.and_eq_true] at h1
      exact fun Q kk => rz_o_dup_x2 C hd h1.1 h1.2.1 h1.2.2 kk
  | dup2 =>
    have hd := rz_dk hd hn (fun _ _ _ _ q => by cases q)
    dsimp only at hh
    match S, hh with
    | [], hh => cases hh
    | v :: S, hh =>
      dsimp only at hh
      cases h0 : Nat.beq (rz_cat v) 2 with
      | true =>
        simp only [h0, cond_true] at hh
        cases hh
        exact fun Q kk => rz_o_dup2 C hd h0 kk
      | false =>
        simp only [h0, cond_false] at hh
        match S, hh with
        | [], hh => cases hh
        | w :: S, hh =>
          obtain ⟨h1, hh⟩ := rz_bif hh
          cases hh
          simp only [Bool.and_eq_true] at h1
          exact fun Q kk => rz_o_dup2_11 C hd h1.1 h1.2 kk
  | iadd =>
    have hd := rz_dk hd hn (fun _ _ _ _ q => by cases q)
    dsimp only at hh
    match S, hh with
    | [], hh => cases hh
    | [_], hh => cases hh
    | y :: x :: S, hh =>
      obtain ⟨h1, hh⟩ := rz_bif hh
      cases hh
      simp only [Bool.and_eq_true] at h1
      exact fun Q kk => rz_o_iadd C hd h1.1 h1.2 kk
  | isub =>
    have hd := rz_dk hd hn (fun _ _ _ _ q => by cases q)
    dsimp only at hh
    match S, hh with
    | [], hh => cases hh
    | [_], hh => cases hh
    | y :: x :: S, hh =>
      obtain ⟨h1, hh⟩ := rz_bif hh
      cases hh
      simp only [Bool.and_eq_true] at h1
      exact fun Q kk => rz_o_isub C hd h1.1 h1.2 kk
  | imul =>
    have hd := rz_dk hd hn (fun _ _ _ _ q => by cases q)
    dsimp only at hh
    match S, hh with
    | [], hh => cases hh
    | [_], hh => cases hh
    | y :: x :: S, hh =>
      obtain ⟨h1, hh⟩ := rz_bif hh
      cases hh
      simp only [Bool.and_eq_true] at h1
      exact fun Q kk => rz_o_imul C hd h1.1 h1.2 kk
  | iand =>
    have hd := rz_dk hd hn (fun _ _ _ _ q => by cases q)
    dsimp only at hh
    match S, hh with
    | [], hh => cases hh
    | [_], hh => cases hh
    | y :: x :: S, hh =>
      obtain ⟨h1, hh⟩ := rz_bif hh
      cases hh
      simp only [Bool.and_eq_true] at h1
      exact fun Q kk => rz_o_iand C hd h1.1 h1.2 kk
  | ladd =>
    have hd := rz_dk hd hn (fun _ _ _ _ q => by cases q)
    dsimp only at hh
    match S, hh with
    | [], hh => cases hh
    | [_], hh => cases hh
    | y :: x :: S, hh =>
      obtain ⟨h1, hh⟩ := rz_bif hh
      cases hh
      simp only [Bool.and_eq_true] at h1
      exact fun Q kk => rz_o_ladd C hd h1.1 h1.2 kk
  | lsub =>
    have hd := rz_dk hd hn (fun _ _ _ _ q => by cases q)
    dsimp only at hh
    match S, hh with
    | [], hh => cases hh
    | [_], hh => cases hh
    | y :: x :: S, hh =>
      obtain ⟨h1, hh⟩ := rz_bif hh
      cases hh
      simp only [Bool.and_eq_true] at h1
      exact fun Q kk => rz_o_lsub C hd h1.1 h1.2 kk
  | land =>
    have hd := rz_dk hd hn (fun _ _ _ _ q => by cases q)
    dsimp only at hh
    match S, hh with
    | [], hh => cases hh
    | [_], hh => cases hh
    | y :: x :: S, hh =>
      obtain ⟨h1, hh⟩ := rz_bif hh
      cases hh
      simp only [Bool.and_eq_true] at h1
      exact fun Q kk => rz_o_land C hd h1.1 h1.2 kk
  | lor =>
    have hd := rz_dk hd hn (fun _ _ _ _ q => by cases q)
    dsimp only at hh
    match S, hh with
    | [], hh => cases hh
    | [_], hh => cases hh
    | y :: x :: S, hh =>
      obtain ⟨h1, hh⟩ := rz_bif hh
      cases hh
      simp only [Bool.and_eq_true] at h1
      exact fun Q kk => rz_o_lor C hd h1.1 h1.2 kk
  | lshl =>
    have hd := rz_dk hd hn (fun _ _ _ _ q => by cases q)
    dsimp only at hh
    match S, hh with
    | [], hh => cases hh
    | [_], hh => cases hh
    | y :: x :: S, hh =>
      obtain ⟨h1, hh⟩ := rz_bif hh
      cases hh
      simp only [Bool.and_eq_true] at h1
      exact fun Q kk => rz_o_lshl C hd h1.1 h1.2 kk
  | lcmp =>
    have hd := rz_dk hd hn (fun _ _ _ _ q => by cases q)
    dsimp only at hh
    match S, hh with
    | [], hh => cases hh
    | [_], hh => cases hh
    | y :: x :: S, hh =>
      dsimp only at hh
      cases hv : rz_lcmp B x y with
      | none => simp [hv] at hh
      | some v =>
        simp only [hv] at hh
        cases hh
        exact fun Q kk => rz_o_lcmp C hd hv kk
  | i2l =>
    have hd := rz_dk hd hn (fun _ _ _ _ q => by cases q)
    dsimp only at hh
    match S, hh with
    | [], hh => cases hh
    | v :: S, hh =>
      obtain ⟨h1, hh⟩ := rz_bif hh
      cases hh
      exact fun Q kk => rz_o_i2l C hd h1 kk
  | l2i =>
    have hd := rz_dk hd hn (fun _ _ _ _ q => by cases q)
    dsimp only at hh
    match S, hh with
    | [], hh => cases hh
    | v :: S, hh =>
      obtain ⟨h1, hh⟩ := rz_bif hh
      cases hh
      exact fun Q kk => rz_o_l2i C hd h1 kk
  | goto off =>
    have hd := rz_dk hd hn (fun _ _ _ _ q => by cases q)
    dsimp only at hh
    cases ht : rz_jp pc off with
    | none => simp [ht] at hh
    | some t =>
      simp only [ht] at hh
      cases hh
      exact fun Q kk => rz_o_goto C hd ht kk
  | ifCond cd off =>
    have hd := rz_dk hd hn (fun _ _ _ _ q => by cases q)
    dsimp only at hh
    match S, hh with
    | [], hh => cases hh
    | x :: S, hh =>
      dsimp only at hh
      cases ht : rz_jp pc off with
      | none => simp [ht] at hh
      | some t =>
        cases hr : rz_cmp cd B x (0, 0) with
        | none => simp [ht, hr] at hh
        | some r0 =>
          cases r0 with
          | true =>
            simp only [ht, hr] at hh
            cases hh
            exact fun Q kk => rz_o_ifc C hd ht hr (by rw [if_pos rfl]; exact kk)
          | false =>
            simp only [ht, hr] at hh
            cases hh
            exact fun Q kk => rz_o_ifc C hd ht hr (by rw [if_neg (by decide)]; exact kk)
  | if_icmp cd off =>
    have hd := rz_dk hd hn (fun _ _ _ _ q => by cases q)
    dsimp only at hh
    match S, hh with
    | [], hh => cases hh
    | [_], hh => cases hh
    | y :: x :: S, hh =>
      dsimp only at hh
      cases ht : rz_jp pc off with
      | none => simp [ht] at hh
      | some t =>
        cases hr : rz_cmp cd B x y with
        | none => simp [ht, hr] at hh
        | some r0 =>
          cases r0 with
          | true =>
            simp only [ht, hr] at hh
            cases hh
            exact fun Q kk => rz_o_icmp C hd ht hr (by rw [if_pos rfl]; exact kk)
          | false =>
            simp only [ht, hr] at hh
            cases hh
            exact fun Q kk => rz_o_icmp C hd ht hr (by rw [if_neg (by decide)]; exact kk)
  | ifnull off =>
    have hd := rz_dk hd hn (fun _ _ _ _ q => by cases q)
    dsimp only at hh
    match S, hh with
    | [], hh => cases hh
    | x :: S, hh =>
      dsimp only at hh
      cases h5 : Nat.beq x.1 5 with
      | true =>
        simp only [h5, cond_true] at hh
        cases ht : rz_jp pc off with
        | none => simp [ht] at hh
        | some t =>
          simp only [ht] at hh
          cases hh
          exact fun Q kk => rz_o_ifnull_t C hd h5 ht kk
      | false =>
        simp only [h5, cond_false] at hh
        obtain ⟨h1, hh⟩ := rz_bif hh
        cases hh
        exact fun Q kk => rz_o_ifnull_f C hd h1 kk
  | ifnonnull off =>
    have hd := rz_dk hd hn (fun _ _ _ _ q => by cases q)
    dsimp only at hh
    match S, hh with
    | [], hh => cases hh
    | x :: S, hh =>
      dsimp only at hh
      cases h4 : Nat.beq x.1 4 with
      | true =>
        simp only [h4, cond_true] at hh
        cases ht : rz_jp pc off with
        | none => simp [ht] at hh
        | some t =>
          simp only [ht] at hh
          cases hh
          exact fun Q kk => rz_o_ifnon_t C hd h4 ht kk
      | false =>
        simp only [h4, cond_false] at hh
        obtain ⟨h1, hh⟩ := rz_bif hh
        cases hh
        exact fun Q kk => rz_o_ifnon_f C hd h1 kk
  | tableswitch df lo hi offs =>
    dsimp only at hh
    match S, hh with
    | [], hh => cases hh
    | x :: S, hh =>
      dsimp only at hh
      cases hx : rz_itv B x with
      | none => simp [hx] at hh
      | some q =>
        obtain ⟨l0, u0⟩ := q
        simp only [hx] at hh
        cases h0 : decide (hi < l0) || decide (u0 < lo) with
        | true =>
          simp only [h0, cond_true] at hh
          cases ht : rz_jp pc df with
          | none => simp [ht] at hh
          | some t =>
            simp only [ht] at hh
            cases hh
            simp only [Bool.or_eq_true, decide_eq_true_eq] at h0
            exact fun Q kk => rz_o_swOut C hd hx h0 ht kk
        | false =>
          simp only [h0, cond_false] at hh
          obtain ⟨h1, hh⟩ := rz_bif hh
          simp only [Bool.and_eq_true, decide_eq_true_eq] at h1
          cases ho : rz_nth offs.toList (l0 - lo).toNat with
          | none => simp [ho] at hh
          | some off =>
            simp only [ho] at hh
            cases ht : rz_jp pc off with
            | none => simp [ht] at hh
            | some t =>
              simp only [ht] at hh
              cases hh
              exact fun Q kk => rz_o_swIn C hd hx h1.1 h1.2.1 h1.2.2 ho ht kk
  | arraylength =>
    have hd := rz_dk hd hn (fun _ _ _ _ q => by cases q)
    dsimp only at hh
    match S, hh with
    | [], hh => cases hh
    | x :: S, hh =>
      dsimp only at hh
      cases h8 : Nat.beq x.1 8 with
      | true =>
        simp only [h8, cond_true] at hh
        cases hh
        exact fun Q kk => rz_o_slen C hd h8 kk
      | false =>
        simp only [h8, cond_false] at hh
        cases hc : rz_cell h x with
        | none => simp [hc] at hh
        | some e0 =>
          simp only [hc] at hh
          obtain ⟨h1, hh⟩ := rz_bif hh
          cases hh
          simp only [Bool.and_eq_true, decide_eq_true_eq] at h1
          have hk9 : 0 < e0.1 ∧ e0.1 < 16 ∧ rz_ak e0.1 = true := by
            have h2 := h1.1
            simp only [Bool.or_eq_true] at h2
            rcases h2 with q | q | q | q
            · have := Nat.eq_of_beq_eq_true q; rw [this]; exact ⟨by decide, by decide, rfl⟩
            · have := Nat.eq_of_beq_eq_true q; rw [this]; exact ⟨by decide, by decide, rfl⟩
            · have := Nat.eq_of_beq_eq_true q; rw [this]; exact ⟨by decide, by decide, rfl⟩
            · have := rz_isRs q; exact ⟨by omega, this.2.1, this.2.2⟩
          exact fun Q kk => rz_alen C hd hc hk9.1 hk9.2.1 hk9.2.2 h1.2 kk
  | iaload =>
    have hd := rz_dk hd hn (fun _ _ _ _ q => by cases q)
    dsimp only at hh
    match S, hh with
    | [], hh => cases hh
    | [_], hh => cases hh
    | ix :: x :: S, hh =>
      dsimp only at hh
      cases h8 : Nat.beq x.1 8 with
      | true =>
        simp only [h8, cond_true] at hh
        obtain ⟨h1, hh⟩ := rz_bif hh
        simp only [Bool.and_eq_true, decide_eq_true_eq] at h1
        cases hB : rz_nth B 8 with
        | none => simp [hB] at hh
        | some q =>
          obtain ⟨lo, hi⟩ := q
          simp only [hB] at hh
          obtain ⟨h2, hh⟩ := rz_bif hh
          cases hh
          exact fun Q kk => rz_o_script C hd h8 h1.1 h1.2 hB (of_decide_eq_true h2) kk
      | false =>
        simp only [h8, cond_false] at hh
        cases hv : rz_ld h (rz_is 1) ix x with
        | none => simp [hv] at hh
        | some v =>
          simp only [hv] at hh
          cases hh
          exact fun Q kk => rz_o_iaload C hd hv kk
  | laload =>
    have hd := rz_dk hd hn (fun _ _ _ _ q => by cases q)
    dsimp only at hh
    match S, hh with
    | [], hh => cases hh
    | [_], hh => cases hh
    | ix :: x :: S, hh =>
      dsimp only at hh
      cases hv : rz_ld h (rz_is 2) ix x with
      | none => simp [hv] at hh
      | some v =>
        simp only [hv] at hh
        cases hh
        exact fun Q kk => rz_o_laload C hd hv kk
  | baload =>
    have hd := rz_dk hd hn (fun _ _ _ _ q => by cases q)
    dsimp only at hh
    match S, hh with
    | [], hh => cases hh
    | [_], hh => cases hh
    | ix :: x :: S, hh =>
      dsimp only at hh
      cases hv : rz_ld h (rz_is 3) ix x with
      | none => simp [hv] at hh
      | some v =>
        simp only [hv] at hh
        cases hh
        exact fun Q kk => rz_o_baload C hd hv kk
  | aaload =>
    have hd := rz_dk hd hn (fun _ _ _ _ q => by cases q)
    dsimp only at hh
    match S, hh with
    | [], hh => cases hh
    | [_], hh => cases hh
    | ix :: x :: S, hh =>
      dsimp only at hh
      cases hv : rz_ld h rz_isR ix x with
      | none => simp [hv] at hh
      | some v =>
        simp only [hv] at hh
        cases hh
        exact fun Q kk => rz_o_aaload C hd hv kk
  | iastore =>
    have hd := rz_dk hd hn (fun _ _ _ _ q => by cases q)
    dsimp only at hh
    match S, hh with
    | [], hh => cases hh
    | [_], hh => cases hh
    | [_, _], hh => cases hh
    | v :: ix :: x :: S, hh =>
      obtain ⟨h1, hh⟩ := rz_bif hh
      cases hv : rz_as h (rz_is 1) v ix x with
      | none => simp [hv] at hh
      | some h9 =>
        simp only [hv] at hh
        cases hh
        exact fun Q kk => rz_o_iastore C hd h1 hv kk
  | lastore =>
    have hd := rz_dk hd hn (fun _ _ _ _ q => by cases q)
    dsimp only at hh
    match S, hh with
    | [], hh => cases hh
    | [_], hh => cases hh
    | [_, _], hh => cases hh
    | v :: ix :: x :: S, hh =>
      obtain ⟨h1, hh⟩ := rz_bif hh
      cases hv : rz_as h (rz_is 2) v ix x with
      | none => simp [hv] at hh
      | some h9 =>
        simp only [hv] at hh
        cases hh
        exact fun Q kk => rz_o_lastore C hd h1 hv kk
  | bastore =>
    have hd := rz_dk hd hn (fun _ _ _ _ q => by cases q)
    dsimp only at hh
    match S, hh with
    | [], hh => cases hh
    | [_], hh => cases hh
    | [_, _], hh => cases hh
    | v :: ix :: x :: S, hh =>
      obtain ⟨h1, hh⟩ := rz_bif hh
      cases hv : rz_as h (rz_is 3) v ix x with
      | none => simp [hv] at hh
      | some h9 =>
        simp only [hv] at hh
        cases hh
        exact fun Q kk => rz_o_bastore C hd h1 hv kk
  | aastore =>
    have hd := rz_dk hd hn (fun _ _ _ _ q => by cases q)
    dsimp only at hh
    match S, hh with
    | [], hh => cases hh
    | [_], hh => cases hh
    | [_, _], hh => cases hh
    | v :: ix :: x :: S, hh =>
      dsimp only at hh
      cases hc : rz_cell h v with
      | none => simp [hc] at hh
      | some e1 =>
        simp only [hc] at hh
        obtain ⟨h1, hh⟩ := rz_bif hh
        simp only [Bool.and_eq_true] at h1
        cases hv : rz_as h (rz_is (e1.2.1 + 4)) v ix x with
        | none => simp [hv] at hh
        | some h9 =>
          simp only [hv] at hh
          cases hh
          have h2 := rz_isRs h1.2
          exact fun Q kk => rz_o_aastore C (hcl _ (by omega)) hd hc h1.1 (by omega) h2.2.2 hv kk
  | getfield x9 =>
    have hd := rz_dk hd hn (fun _ _ _ _ q => by cases q)
    dsimp only at hh
    match S, hh with
    | [], hh => cases hh
    | x :: S, hh =>
      dsimp only at hh
      cases hc : rz_cell h x with
      | none => simp [hc] at hh
      | some e1 =>
        simp only [hc] at hh
        obtain ⟨h1, hh⟩ := rz_bif hh
        simp only [Bool.and_eq_true] at h1
        cases hv : rz_nth e1.2.2.1 b.toNat with
        | none => simp [hv] at hh
        | some v =>
          simp only [hv] at hh
          cases hh
          exact fun Q kk => rz_o_getf C hS.1 hS.2 hd hc h1.1 h1.2 hv kk
  | putfield x9 =>
    have hd := rz_dk hd hn (fun _ _ _ _ q => by cases q)
    dsimp only at hh
    match S, hh with
    | [], hh => cases hh
    | [_], hh => cases hh
    | v :: x :: S, hh =>
      dsimp only at hh
      cases hc : rz_cell h x with
      | none => simp [hc] at hh
      | some e1 =>
        simp only [hc] at hh
        obtain ⟨h1, hh⟩ := rz_bif hh
        simp only [Bool.and_eq_true] at h1
        cases hh
        exact fun Q kk => rz_o_putf C hS.1 hS.2.1 hS.2.2 hd hc h1.1 h1.2.1 (Nat.blt_eq.mp h1.2.2.1) h1.2.2.2.2 kk (fun j a0 hj => Nat.lt_of_lt_of_le (rz_nth_lt hj) (Nat.ble_eq.mp h1.2.2.2.1))
  | new x9 =>
    have hd := rz_dk hd hn (fun _ _ _ _ q => by cases q)
    dsimp only at hh
    obtain ⟨h1, hh⟩ := rz_bif hh
    simp only [Bool.and_eq_true] at h1
    cases hh
    exact fun Q kk => rz_o_new C hS.1 hS.2.1 hS.2.2 hd (by rw [hRc]; exact Nat.ble_eq.mp h1.1) (by rw [hRs]; exact Nat.ble_eq.mp h1.2) kk
  | newarray t =>
    have hd := rz_dk hd hn (fun _ _ _ _ q => by cases q)
    dsimp only at hh
    match S, hh with
    | [], hh => cases hh
    | x :: S, hh =>
      obtain ⟨h1, hh⟩ := rz_bif hh
      simp only [Bool.and_eq_true, decide_eq_true_eq] at h1
      cases t with
      | int =>
        cases hh
        exact fun Q kk => rz_o_newa C hd (Or.inl ⟨rfl, rfl⟩) hS h1.1 h1.2.1 h1.2.2.1 (by rw [hRc]; exact Nat.ble_eq.mp h1.2.2.2.1) (by rw [hRs]; exact Nat.ble_eq.mp h1.2.2.2.2) kk
      | long =>
        cases hh
        exact fun Q kk => rz_o_newa C hd (Or.inr (Or.inl ⟨rfl, rfl⟩)) hS h1.1 h1.2.1 h1.2.2.1 (by rw [hRc]; exact Nat.ble_eq.mp h1.2.2.2.1) (by rw [hRs]; exact Nat.ble_eq.mp h1.2.2.2.2) kk
      | boolean =>
        cases hh
        exact fun Q kk => rz_o_newa C hd (Or.inr (Or.inr ⟨rfl, rfl⟩)) hS h1.1 h1.2.1 h1.2.2.1 (by rw [hRc]; exact Nat.ble_eq.mp h1.2.2.2.1) (by rw [hRs]; exact Nat.ble_eq.mp h1.2.2.2.2) kk
      | _ => cases hh
  | anewarray x9 =>
    have hd := rz_dk hd hn (fun _ _ _ _ q => by cases q)
    dsimp only at hh
    match S, hh with
    | [], hh => cases hh
    | x :: S, hh =>
      obtain ⟨h1, hh⟩ := rz_bif hh
      simp only [Bool.and_eq_true, decide_eq_true_eq] at h1
      cases hh
      exact fun Q kk => rz_o_anew C hd hS.1 hS.2.1 hS.2.2.1 hS.2.2.2 h1.1 h1.2.1 h1.2.2.1 (by rw [hRc]; exact Nat.ble_eq.mp h1.2.2.2.1) (by rw [hRs]; exact Nat.ble_eq.mp h1.2.2.2.2) kk
  | ireturn =>
    have hd := rz_dk hd hn (fun _ _ _ _ q => by cases q)
    dsimp only at hh
    match S, hh with
    | [], hh => cases hh
    | _ :: _ :: _, hh => cases hh
    | [v], hh =>
      obtain ⟨h1, hh⟩ := rz_bif hh
      cases hh
      simp only [Bool.and_eq_true, Bool.or_eq_true, Bool.not_eq_true'] at h1
      refine rz_o_ireturn C hd h1.1 ?_
      rcases hS with ⟨q1, q2⟩ | ⟨q1, q2⟩
      · exact Or.inl q1
      · rcases h1.2 with q3 | q3
        · rw [q2] at q3; cases q3
        · exact Or.inr ⟨q1, q3⟩
  | lreturn =>
    have hd := rz_dk hd hn (fun _ _ _ _ q => by cases q)
    dsimp only at hh
    match S, hh with
    | [], hh => cases hh
    | _ :: _ :: _, hh => cases hh
    | [v], hh =>
      obtain ⟨h1, hh⟩ := rz_bif hh
      cases hh
      exact rz_o_lreturn C hd h1 hS
  | areturn =>
    have hd := rz_dk hd hn (fun _ _ _ _ q => by cases q)
    dsimp only at hh
    match S, hh with
    | [], hh => cases hh
    | _ :: _ :: _, hh => cases hh
    | [v], hh =>
      obtain ⟨h1, hh⟩ := rz_bif hh
      cases hh
      obtain ⟨n9, hS⟩ := hS
      exact rz_o_areturn C hd h1 hS
  | return_ =>
    have hd := rz_dk hd hn (fun _ _ _ _ q => by cases q)
    dsimp only at hh
    match S, hh with
    | _ :: _, hh => cases hh
    | [], hh =>
      cases hh
      exact rz_o_return C hd hS
  | invokespecial x9 =>
    have hd := rz_dk hd hn (fun _ _ _ _ q => by cases q)
    dsimp only at hh
    rcases hS with ⟨rfl, q1, q2, q3⟩ | ⟨hb1, q1, q2, q3, q4, q5, q6, q7, q8⟩
    · simp only [decide_true, cond_true] at hh
      match S, hh with
      | [], hh => cases hh
      | x :: S, hh =>
        obtain ⟨h1, hh⟩ := rz_bif hh
        cases hh
        simp only [Bool.and_eq_true] at h1
        exact fun Q kk => rz_o_objinit C hnl hd q1 q2 q3 h1.1 (Nat.ble_eq.mp h1.2) (by omega) (by omega) kk
    · simp only [hb1, decide_false, cond_false] at hh
      cases htk : rz_tk (rz_np a) [] S with
      | none => simp [htk] at hh
      | some q =>
        obtain ⟨as0, S9⟩ := q
        cases as0 with
        | nil => simp [htk] at hh
        | cons x as =>
          simp only [htk] at hh
          obtain ⟨h1, hh⟩ := rz_bif hh
          simp only [Bool.and_eq_true] at h1
          cases hc : call a (x :: as) h (K - k) (Z - z) with
          | none => simp [hc] at hh
          | some r9 =>
            obtain ⟨⟨n9, v9⟩, h9, k9, z9⟩ := r9
            match n9, hc, hh with
            | 0, hc, hh =>
              simp only [hc] at hh
              cases hh
              exact fun Q kk => rz_o_spec C hnl ok q1 q2 q3 q4 q5 q6 q7 q8 hfr hlo hRc hRs hd htk h1.1 (Nat.ble_eq.mp h1.2.1) (Nat.ble_eq.mp h1.2.2.1) (Nat.ble_eq.mp h1.2.2.2) hc (rz_aft0 kk)
            | n9 + 1, hc, hh => simp [hc] at hh
  | invokevirtual x9 =>
    have hd := rz_dk hd hn (fun _ _ _ _ q => by cases q)
    dsimp only at hh
    obtain ⟨q1, q2, q3, q4, q5, q6⟩ := hS
    cases htk : rz_tk (rz_np a) [] S with
    | none => simp [htk] at hh
    | some q =>
      obtain ⟨as0, S9⟩ := q
      cases as0 with
      | nil => simp [htk] at hh
      | cons x as =>
        simp only [htk] at hh
        cases hx : rz_cell h x with
        | none => simp [hx] at hh
        | some e0 =>
          simp only [hx] at hh
          obtain ⟨h1, hh⟩ := rz_bif hh
          simp only [Bool.and_eq_true] at h1
          cases hc : call a (x :: as) h (K - k) (Z - z) with
          | none => simp [hc] at hh
          | some r9 =>
            obtain ⟨⟨n9, v9⟩, h9, k9, z9⟩ := r9
            match n9, hc, hh with
            | 0, hc, hh =>
              simp only [hc] at hh
              cases hh
              exact fun Q kk => rz_o_virt C hnl ok q1 q2 q3 q4 q5 q6 hfr hlo hRc hRs hd htk hx h1.1 h1.2.1 (Nat.ble_eq.mp h1.2.2.1) (Nat.ble_eq.mp h1.2.2.2.1) (Nat.ble_eq.mp h1.2.2.2.2) hc (rz_aft0 kk)
            | 1, hc, hh =>
              simp only [hc] at hh
              cases hh
              exact fun Q kk => rz_o_virt C hnl ok q1 q2 q3 q4 q5 q6 hfr hlo hRc hRs hd htk hx h1.1 h1.2.1 (Nat.ble_eq.mp h1.2.2.1) (Nat.ble_eq.mp h1.2.2.2.1) (Nat.ble_eq.mp h1.2.2.2.2) hc (rz_aft1 kk)
            | n9 + 2, hc, hh =>
              simp only [hc] at hh
              cases hhd : rz_hd (rz_hh i) pc with
              | none =>
                simp only [hhd] at hh
                cases hh
                exact rz_o_virt C hnl ok q1 q2 q3 q4 q5 q6 hfr hlo hRc hRs hd htk hx h1.1 h1.2.1 (Nat.ble_eq.mp h1.2.2.1) (Nat.ble_eq.mp h1.2.2.2.1) (Nat.ble_eq.mp h1.2.2.2.2) hc (rz_aftO C hhd)
              | some q =>
                obtain ⟨t, ct⟩ := q
                simp only [hhd] at hh
                obtain ⟨h2, hh⟩ := rz_bif hh
                cases hh
                have hln : Cond.classLink (rz_cn (rz_mo i)) 13 rz_iae ∈ rz_TS := by
                  rcases hcc with q | q
                  · rw [q] at hhd; cases hhd
                  · exact q
                exact fun Q kk => rz_o_virt C hnl ok q1 q2 q3 q4 q5 q6 hfr hlo hRc hRs hd htk hx h1.1 h1.2.1 (Nat.ble_eq.mp h1.2.2.1) (Nat.ble_eq.mp h1.2.2.2.1) (Nat.ble_eq.mp h1.2.2.2.2) hc (rz_aftC C hln hca (by rw [hhd, Nat.eq_of_beq_eq_true h2]) kk)
  | invokestatic x9 =>
    have hd := rz_dk hd hn (fun _ _ _ _ q => by cases q)
    dsimp only at hh
    obtain ⟨q1, q3, q4, q6⟩ := hS
    cases htk : rz_tk (rz_np a) [] S with
    | none => simp [htk] at hh
    | some q =>
      obtain ⟨as, S9⟩ := q
      simp only [htk] at hh
      obtain ⟨h1, hh⟩ := rz_bif hh
      simp only [Bool.and_eq_true] at h1
      cases hc : call a as h (K - k) (Z - z) with
      | none => simp [hc] at hh
      | some r9 =>
        obtain ⟨⟨n9, v9⟩, h9, k9, z9⟩ := r9
        match n9, hc, hh with
        | 0, hc, hh =>
          simp only [hc] at hh
          cases hh
          exact fun Q kk => rz_o_stat C hnl ok q1 q3 q4 q6 hfr hlo hRc hRs hd htk (Nat.ble_eq.mp h1.1) (Nat.ble_eq.mp h1.2.1) (Nat.ble_eq.mp h1.2.2) hc (rz_aft0 kk)
        | 1, hc, hh =>
          simp only [hc] at hh
          cases hh
          exact fun Q kk => rz_o_stat C hnl ok q1 q3 q4 q6 hfr hlo hRc hRs hd htk (Nat.ble_eq.mp h1.1) (Nat.ble_eq.mp h1.2.1) (Nat.ble_eq.mp h1.2.2) hc (rz_aft1 kk)
        | n9 + 2, hc, hh =>
          simp only [hc] at hh
          cases hhd : rz_hd (rz_hh i) pc with
          | none =>
            simp only [hhd] at hh
            cases hh
            exact rz_o_stat C hnl ok q1 q3 q4 q6 hfr hlo hRc hRs hd htk (Nat.ble_eq.mp h1.1) (Nat.ble_eq.mp h1.2.1) (Nat.ble_eq.mp h1.2.2) hc (rz_aftO C hhd)
          | some q =>
            obtain ⟨t, ct⟩ := q
            simp only [hhd] at hh
            obtain ⟨h2, hh⟩ := rz_bif hh
            cases hh
            have hln : Cond.classLink (rz_cn (rz_mo i)) 13 rz_iae ∈ rz_TS := by
              rcases hcc with q | q
              · rw [q] at hhd; cases hhd
              · exact q
            exact fun Q kk => rz_o_stat C hnl ok q1 q3 q4 q6 hfr hlo hRc hRs hd htk (Nat.ble_eq.mp h1.1) (Nat.ble_eq.mp h1.2.1) (Nat.ble_eq.mp h1.2.2) hc (rz_aftC C hln hca (by rw [hhd, Nat.eq_of_beq_eq_true h2]) kk)
  | _ => cases hh
end
end
section
/-! 'throw new E("text")', with the place of what is thrown (the row vx_throwSW of the given names, its end told more closely). -/
section
variable {p : Program} {l : Launch} {e : Env} {R : Room} {s : State} {m : MethodId} {args : Array Value} {below : List Frame} {meth : Method} {c : Code} {H : Heap} {locs : List Loc} {cells slots : Nat}
variable {free : Addr → Prop} {ls : Array Slot} {rest : List Value} {Qd : Outcome → State → Prop}
theorem rz_throwSW {cc : ByteArray} {pc : Nat} (hexec : p.tables.exec = Jvm.exec) (hb : c.code = cc) (hl : l.stackTraces = false) {own cls text : String} {names : List String} {ik is ic mc ms sa : Nat} {A : Nat → Prop}
    (hown : s.vm.findClass own = some m.cls) (hcls : Bundle.fit cls = true) (hnames : ∀ n ∈ names, Bundle.fit n = true)
    (hk : (Cond.classLink own ik cls).before args s = true) (hini : (Cond.initialized cls).before args s = true) (hstr : vk_R own is text sa s) (hat : ∀ w ∈ vx_atS own ic cls names, w.before args s = true)
    (hgood : ∀ w ∈ Cond.classLink own ik cls :: Cond.initialized cls :: vx_atS own ic cls names, vx_ot w = true)
    (hU : vx_Zq Bundle.tN "UNASSIGNED_STACK" Bundle.steD A s s.heap) (hN : vx_Zq Bundle.tN "SUPPRESSED_SENTINEL" Bundle.listD A s s.heap) (hS : va_S A s.heap H locs) (hsize : ls.size = c.maxLocals)
    (d0 : decode cc pc = .ok (.new ik, 3)) (d3 : decode cc (pc + 3) = .ok (.dup, 1)) (d4 : decode cc (pc + 4) = .ok (.ldc_w is, 3)) (d7 : decode cc (pc + 7) = .ok (.invokespecial ic, 3)) (d10 : decode cc (pc + 10) = .ok (.athrow, 1))
    (hout : ∀ x ∈ c.exceptionTable.toList, covers x (pc + 10) = false)
    (hRframes : names.length + 3 < R.frames) (hRlocals : (rest.map fun v => v.category).sum + (13 * (names.length + 1) + 43) ≤ R.locals) (hRcells : cells + 1 ≤ R.cells) (hRslots : slots + 6 ≤ R.slots) (hlocks : meth.locks = false)
    (hx : ∀ (t : State) (ce : Cell), t.heap.size = H.size + 1 → (∀ q : Nat, q < H.size → t.heap[q]? = H[q]?) → t.heap[H.size]? = some ce → ce.vm = .none → s.vm.findClass cls = some ce.cls → Qd (.threw H.size) t)
    (hf : ∀ z ∈ locs, free z.base) (hc : cells + 1 ≤ mc) (hs : slots + 6 ≤ ms) :
    W p l e R s m args below meth c H locs cells slots (rz_MQ below Qd s mc ms free) (F0 m pc ls rest) := by
  intro T hT X
  have htr : e.platform.stackTraces = false := (show e.platform.stackTraces = l.stackTraces by rw [X.admits.platform]).trans hl
  have Y := vx_rebase X (R' := { frames := R.frames, locals := R.locals, cells := 1, slots := 6 }) (Nat.le_refl _) (Nat.le_refl _) hRcells hRslots
  obtain ⟨s', hA⟩ : ∃ z, z = (T.setVm s.vm).setFrames (.invoking m args :: below) := ⟨_, rfl⟩
  rw [← hA] at Y
  have hvm : s'.vm = s.vm := by rw [hA]; rfl
  have hhp : s'.heap = H := by rw [hA]; exact hT
  have hW0 : s.WarmedH s'.vm := by rw [hvm]; exact State.WarmedH.refl s
  have hat' : ∀ w ∈ vx_atS own ic cls names, w.before args s' = true := fun w hw => vx_ot_at hW0 hvm.symm (hgood w (List.mem_cons_of_mem _ (List.mem_cons_of_mem _ hw))) (hat w hw)
  have hk' : (Cond.classLink own ik cls).before args s' = true := vx_ot_at hW0 hvm.symm (hgood _ List.mem_cons_self) hk
  have hini' : (Cond.initialized cls).before args s' = true := vx_ot_at hW0 hvm.symm (hgood _ (List.mem_cons_of_mem _ List.mem_cons_self)) hini
  have hU' : vx_Zq Bundle.tN "UNASSIGNED_STACK" Bundle.steD A s' s'.heap := by rw [hhp]; exact vx_Zq.moved hW0.alike (hU.kept hS.2.1)
  have hN' : vx_Zq Bundle.tN "SUPPRESSED_SENTINEL" Bundle.listD A s' s'.heap := by rw [hhp]; exact vx_Zq.moved hW0.alike (hN.kept hS.2.1)
  have h : ∀ w ∈ Bundle.ownAtoms own ic cls names, w.before args s' = true := vx_own hat' (vx_isRefq hU'.1) (vx_isRefq hN'.1) hU'.2.word hN'.2.word
  have hown' : s'.vm.findClass own = some m.cls := by rw [hvm]; exact hown
  have hins : (Cond.instantiable cls 6).before args s' = true := h _ (by simp [Bundle.ownAtoms])
  obtain ⟨vm₁, cX, kX, hfX, hkX, -, -, X₁, st1⟩ := Y.newCold hexec (own := own) (C := cls) (index := ik) (n := 6) hown' hk' hins hini'
    (g := F0 m pc ls rest) rfl (by rw [hb]; exact d0) (Nat.le_refl _) (Nat.le_refl _)
  generalize hT1 : (T.setVm vm₁).pushCell { cls := cX, slots := kX.instanceTypes.map defaultValue, vm := .none } = T1 at X₁ st1
  have hcat : (Value.ref T.heap.size).category = 1 := rfl
  have hcellA : T1.heap[T.heap.size]? = some (freshCell cX kX) := by rw [← hT1]; exact State.heap_pushCell_size _ _
  have d3' : decode c.code (pc + 3) = .ok (.dup, 1) := by rw [hb]; exact d3
  have d4' : decode c.code (pc + 4) = .ok (.ldc_w is, 3) := by rw [hb]; exact d4
  have hstr' : vk_R own is text sa s' := vk_R.warm hW0 hstr
  obtain ⟨U, hsteps, hrun, hend, hW, hsame, ce, hce, hO⟩ := X₁.ctorThrowS hexec htr (own := own) (cls := cls) (names := names) (ic := ic) hown' hcls hnames h (fun x hx => nomatch hx) hfX hkX hcellA (by rw [hhp, hT]; exact Nat.le_refl _) (msg := .ref sa) rfl
    (g := { method := m, pc := pc + 7, locals := ls, stack := .ref sa :: .ref T.heap.size :: .ref T.heap.size :: rest, locked := none }) rfl hsize rfl rfl (rest := rest) rfl
    (by rw [hb]; exact d7) (by rw [hb]; exact d10) hout hRframes (by simp only [List.map_cons, List.sum_cons, hcat]; omega) hlocks
  obtain ⟨f1, f2⟩ := vx_frame hsame
  rw [hhp] at f1 f2
  have hWs : s.WarmedH U.vm := State.WarmedH.trans hW0 hW
  have hcl : s.vm.findClass cls = some ce.cls := by
    have h9 := hO.cls
    rw [hvm] at h9
    exact h9
  have hall : s.sameButNew ({ U with vm := s.vm } : State) locs mc ms := by
    subst hA
    obtain ⟨e1, e2⟩ := hsame
    rw [State.setFrames_setFrames] at e1
    have h2 : (T.setVm s.vm).sameButNew ({ U with vm := s.vm } : State) [] (0 + 1) (0 + 6) := ⟨e1, e2⟩
    have h3 := X.same.trans h2
    rw [List.append_nil] at h3
    exact h3.mono hc hs
  have hsz1 : U.heap.size ≤ s'.heap.size + (0 + 1) := hsame.2.2.1
  have hsz2 : T.heap.size < U.heap.size := (Array.getElem?_eq_some_iff.mp hce).1
  have hqd : Qd (.threw T.heap.size) U := by
    have h9 := hx U ce (by rw [hhp] at hsz1; rw [hT] at hsz2; omega) (fun q hq => f2 q hq (fun z hz => nomatch hz)) (by rw [← hT]; exact hce) hO.vm hcl
    rw [← hT] at h9
    exact h9
  refine ⟨U, ?_, .threw T.heap.size, hrun, hend, hqd, locs, ⟨hWs, hall⟩, hf⟩
  refine st1 _ ?_
  show Steps p.tables e below (T1.setTop { method := m, pc := pc + 3, locals := ls, stack := .ref T.heap.size :: rest, locked := none }) _
  jvm_step X₁.here [X₁.here.top, hexec, d3', Value.category]
  exact X₁.ldcStringW hexec (own := own) (text := text) (index := is) (a := sa) hown' hstr'.1 hstr'.2
    (g := { method := m, pc := pc + 4, locals := ls, stack := .ref T.heap.size :: .ref T.heap.size :: rest, locked := none }) rfl d4' _ hsteps
end
/-- what the tables know of everything -/
def rz_Stat : Prop := (∀ (m pc : Nat) (q : rz_I), rz_code m pc = some q → rz_sOK m pc q.1 q.2.1 q.2.2) ∧ (∀ a, a < 12 → rz_clOK a) ∧ Cond.castable rz_iae rz_iae ∈ rz_TS ∧ ∀ a, 0 < a → a < 108 → rz_mOK a
section
variable {G : rz_G} {B : rz_B} {i : Nat} {p : Program} {l : Launch} {e : Env} {R : Room} {s : State} {m : MethodId} {args : Array Value} {below : List Frame} {meth : Method} {c : Code} {K Z d : Nat}
theorem rz_stpOK (hst : rz_Stat) (C : rz_C G B i p l s m args meth c) {call : Nat → List rz_V → List rz_E → Nat → Nat → Option rz_R} (ok : rz_cOK G l d call) (hfr : d + 9 ≤ R.frames) (hlo : 64 * d + 192 ≤ R.locals) (hRc : R.cells = K) (hRs : R.slots = Z) {f : rz_F} {r : rz_F ⊕ rz_R} (hh : rz_stp call B K Z i f = some r) :
    rz_Ok G (rz_nL i) p l e R s m args below meth c f.1 f.2.1 f.2.2.1 f.2.2.2.1 f.2.2.2.2.1 f.2.2.2.2.2 r := by
  unfold rz_stp at hh
  cases hq : rz_code i f.1 with
  | none => simp [hq] at hh
  | some q =>
    simp only [hq] at hh
    obtain ⟨ins, a, b⟩ := q
    exact rz_stepA C rfl ok hfr hlo hRc hRs hst.2.1 hst.2.2.1 (hst.1 _ _ _ hq) hh
theorem rz_runOK (hst : rz_Stat) (C : rz_C G B i p l s m args meth c) {call : Nat → List rz_V → List rz_E → Nat → Nat → Option rz_R} (ok : rz_cOK G l d call) (hfr : d + 9 ≤ R.frames) (hlo : 64 * d + 192 ≤ R.locals) (hRc : R.cells = K) (hRs : R.slots = Z) {r : rz_R} :
    ∀ (n : Nat) (f : rz_F), rz_run call B K Z i n f = some r → rz_Wj G (rz_nL i) p l e R s m args below meth c (rz_MQ below (rz_Q G r) s r.2.2.1 r.2.2.2 (rz_fr G)) f.1 f.2.1 f.2.2.1 f.2.2.2.1 f.2.2.2.2.1 f.2.2.2.2.2
  | 0, f, hh => by cases hh
  | n + 1, f, hh => by
    unfold rz_run at hh
    cases hs : rz_stp call B K Z i f with
    | none => simp [hs] at hh
    | some x =>
      have h1 := rz_stpOK (e := e) (below := below) hst C ok hfr hlo hRc hRs hs
      cases x with
      | inl f' =>
        simp only [hs] at hh
        exact h1 _ (rz_runOK hst C ok hfr hlo hRc hRs n f' hh)
      | inr r' =>
        simp only [hs, Option.some.injEq] at hh
        subst hh
        exact h1
theorem rz_runsOK (hst : rz_Stat) (C : rz_C G B i p l s m args meth c) {call : Nat → List rz_V → List rz_E → Nat → Nat → Option rz_R} (ok : rz_cOK G l d call) (hfr : d + 9 ≤ R.frames) (hlo : 64 * d + 192 ≤ R.locals) (hRc : R.cells = K) (hRs : R.slots = Z) {Q : State → Prop} {g : rz_F} :
    ∀ (n : Nat) (f : rz_F), rz_runs call B K Z i n f = some g → rz_Wj G (rz_nL i) p l e R s m args below meth c Q g.1 g.2.1 g.2.2.1 g.2.2.2.1 g.2.2.2.2.1 g.2.2.2.2.2 → rz_Wj G (rz_nL i) p l e R s m args below meth c Q f.1 f.2.1 f.2.2.1 f.2.2.2.1 f.2.2.2.2.1 f.2.2.2.2.2
  | 0, f, hh, kk => by
    have e1 : f = g := Option.some.inj hh
    subst e1
    exact kk
  | n + 1, f, hh, kk => by
    unfold rz_runs at hh
    cases hs : rz_stp call B K Z i f with
    | none => simp [hs] at hh
    | some x =>
      have h1 := rz_stpOK (e := e) (below := below) hst C ok hfr hlo hRc hRs hs
      cases x with
      | inl f' =>
        simp only [hs] at hh
        exact h1 _ (rz_runsOK hst C ok hfr hlo hRc hRs n f' hh kk)
      | inr r' => simp [hs] at hh
end
end
section
/-! The evaluator of callees is right, at every depth. -/
/-- what the tables know of the throw in demand -/
def rz_StatD : Prop := (∀ w ∈ vx_atS RX10 297 rz_iae ["java/lang/RuntimeException", "java/lang/Exception"], w ∈ rz_TS) ∧ (∀ w ∈ Cond.classLink RX10 293 rz_iae :: Cond.initialized rz_iae :: vx_atS RX10 297 rz_iae ["java/lang/RuntimeException", "java/lang/Exception"], vx_ot w = true) ∧ Cond.classLink RX10 293 rz_iae ∈ rz_TS ∧ Cond.initialized rz_iae ∈ rz_TS
theorem rz_sllen : ∀ (vs : List Value), (lg_sl vs).length = (vs.map fun v => v.category).sum
  | [] => rfl
  | v :: vs => by
    have ih := rz_sllen vs
    unfold lg_sl at ih ⊢
    rw [List.flatMap_cons, List.length_append, ih, List.map_cons, List.sum_cons]
    rcases lv_cat v with e | e <;> simp [e]
section
variable {G : rz_G} {B : rz_B} {l : Launch} {K Z d a : Nat}
theorem rz_metOf (hm : rz_mOK a) (hG : rz_Gk G) (hB : rz_in G B) (htr : l.stackTraces = false) {vs : List Value} {h : List rz_E} {Qd : Outcome → State → Prop} {mc ms : Nat} {rm : Room} (hlen : (lg_sl vs).length ≤ rz_nL a)
    (body : ∀ (p : Program) (e : Env) (s : State) (m : MethodId) (below : List Frame) (meth : Method) (c : Code), rz_C G B a p l s m vs.toArray meth c → rz_hp G h s.heap → ∀ ls : Array Slot, lv_has ls (rz_nL a) (lv_args 0 vs) → W p l e rm s m vs.toArray below meth c s.heap [] 0 0 (rz_MQ below Qd s mc ms (rz_fr G)) (F0 m 0 ls [])) :
    rz_Met l (rz_y a) rz_TS rm (rz_Pc G h vs) Qd mc ms (rz_fr G) := by
  unfold rz_Met
  refine MetFree.of_bodySF (code := rz_by a) (maxLocals := rz_nL a) (ret := rz_ret a) hm.2.2.2.1 ?_ ?_
  · intro args s m h9 hn
    obtain ⟨meth, c, h1, h2, h3, h4, h5, h6, -⟩ := rz_code_at hm (atoms_spec (ws := rz_TS) h9) hn
    exact ⟨meth, c, h1, h2, h3, h4, h5, h6⟩
  · intro p e s m args below meth c s₁ B0 hml hP _
    obtain ⟨rfl, hp, hwi⟩ := hP
    have hts := atoms_spec (ws := rz_TS) B0.pre
    have X0 := Stand.of_body B0
    obtain ⟨meth', c', h1, h2, h3, h4, h5, h6, h7, h8⟩ := rz_code_at hm hts B0.named
    cases Option.some.inj (h1.symm.trans B0.method)
    cases Option.some.inj (h2.symm.trans X0.code)
    have C : rz_C G B a p l s m vs.toArray meth c := ⟨B0.exec, B0.bytes, B0.returns, hml, by rw [← hm.2.2.1]; exact findClass_of_methodNamed B0.named, hts, B0.notSynchronized, fun hq => by rw [(name_of_methodNamed B0.named B0.method).1]; exact hq, h7, hwi, hG, hB, htr⟩
    have hh0 : s₁.heap = s.heap := by rw [B0.state]; rfl
    have hl := lv_entry vs (n := rz_nL a) hlen
    have hw := body p e s m below meth c C hp _ hl
    rw [← lg_entry_eq] at hw
    obtain ⟨t, a1, o, b1, b2, b3, b4⟩ := hw s₁ hh0 X0
    exact ⟨t, o, a1, b1, b2, b3, b4⟩
theorem rz_nthlast {α : Type} (x : α) : ∀ l : List α, rz_nth (l ++ [x]) l.length = some x
  | [] => rfl
  | _ :: l => rz_nthlast x l
theorem rz_dem0 : decode (rz_by rz_dem) 0 = .ok (.iload_n 0, 1) := by decide +kernel
theorem rz_dem1 : decode (rz_by rz_dem) 1 = .ok (.ifCond .ne 14, 3) := by decide +kernel
theorem rz_dem4 : decode (rz_by rz_dem) 4 = .ok (.new 293, 3) := by decide +kernel
theorem rz_dem7 : decode (rz_by rz_dem) 7 = .ok (.dup, 1) := by decide +kernel
theorem rz_dem8 : decode (rz_by rz_dem) 8 = .ok (.ldc_w 295, 3) := by decide +kernel
theorem rz_dem11 : decode (rz_by rz_dem) 11 = .ok (.invokespecial 297, 3) := by decide +kernel
theorem rz_dem14 : decode (rz_by rz_dem) 14 = .ok (.athrow, 1) := by decide +kernel
theorem rz_demhh : rz_hh rz_dem = [] := rfl
theorem rz_demmo : rz_cn (rz_mo rz_dem) = RX10 := rfl
theorem rz_demOK (hD : rz_StatD) (hm : rz_mOK rz_dem) (hG : rz_Gk G) (htr : l.stackTraces = false) {vs : List Value} {h : List rz_E} (hv : rz_sk G [(0, 0)] vs) (hK : 1 ≤ K) (hZ : 6 ≤ Z) :
    rz_Met l (rz_y rz_dem) rz_TS (rz_rm d K Z) (rz_Pc G h vs) (rz_Q G ((2, (4, (h.length : Int))), h ++ [(100, 0, [], [])], 1, 6)) 1 6 (rz_fr G) := by
  obtain ⟨w, vs', rfl, ⟨x, rfl, hx⟩, hv'⟩ := rz_skc hv
  cases rz_sk0 hv'
  have hx0 : x = 0 := rz_int_eq hx
  subst hx0
  refine rz_metOf (B := []) hm hG (fun k lo hi q => by cases q) htr (Nat.le_of_ble_eq_true rfl) fun p e s m below meth c C hp ls hl => ?_
  have hl0 : ls[0]? = some (.val (.int 0)) := hl.2.2 (0, .int 0) List.mem_cons_self
  refine lv_iload_n C.1 C.2.1 rz_dem0 rfl hl0 ?_
  refine lv_if_ne (tgt := 15) C.1 C.2.1 rz_dem1 (by decide) (fun q => absurd rfl q) (fun _ => ?_)
  obtain ⟨w1, w2, w3, w4, w5, w6, sa, w7⟩ := rz_Cw C
  have hkp : ∀ a : Nat, a < (rz_H0 G).size → ¬ rz_n0 G ≤ a → s.heap[a]? = (rz_H0 G)[a]? := fun a _ h2 => hp.2.1 a (by omega)
  have hown : s.vm.findClass RX10 = some m.cls := rz_Co C
  refine rz_throwSW (A := fun q => rz_n0 G ≤ q) C.1 C.2.1 htr (own := RX10) (cls := rz_iae) (names := ["java/lang/RuntimeException", "java/lang/Exception"]) (ik := 293) (is := 295) (ic := 297) hown (by decide +kernel) (by decide +kernel) (rz_Ct C _ hD.2.2.1) (rz_Ct C _ hD.2.2.2) w7 (fun w hw => rz_Ct C _ (hD.1 w hw)) hD.2.1 (w5.kept hkp) (w6.kept hkp) va_S.rf (by rw [hl.1, C.2.2.2.1]) rz_dem4 rz_dem7 rz_dem8 rz_dem11 rz_dem14
    (by rw [C.2.2.2.2.2.2.2.2.1, rz_demhh]; intro x hx; cases hx) (by show 2 + 3 < d + 8; omega) (by show 0 + (13 * (2 + 1) + 43) ≤ 64 * d + 128; omega) (by show 0 + 1 ≤ K; omega) (by show 0 + 6 ≤ Z; omega) C.2.2.2.2.2.2.1 (fun t ce z1 z2 z3 z4 z5 => ?_) (fun z hz => nomatch hz) (Nat.le_refl _) (Nat.le_refl _)
  have ecl : ce.cls = rz_x G := Option.some.inj (z5.symm.trans w4)
  refine ⟨rz_hnew hp z3 z1 z2 ⟨z4, Or.inr (Or.inl ⟨rfl, ecl⟩)⟩, s.heap.size, h.length, rfl, rfl, hp.1, 0, [], [], rz_nthlast _ h⟩
theorem rz_evOK (hst : rz_Stat) (hD : rz_StatD) (hG : rz_Gk G) (hB : rz_in G B) (htr : l.stackTraces = false) : ∀ d, rz_cOK G l d (rz_ev B d)
  | 0 => fun a as h K Z r hr => by cases hr
  | d + 1 => fun a as h K Z r hr vs hv => by
    have ih := rz_evOK hst hD hG hB htr d
    unfold rz_ev at hr
    cases hdm : Nat.beq a rz_dem && decide (as = [(0, 0)]) with
    | true =>
      simp only [hdm, cond_true] at hr
      obtain ⟨h1, hr⟩ := rz_bif hr
      cases hr
      simp only [Bool.and_eq_true, decide_eq_true_eq] at hdm h1
      obtain ⟨q1, rfl⟩ := hdm
      cases Nat.eq_of_beq_eq_true q1
      exact rz_demOK hD (hst.2.2.2 rz_dem (by decide) (by decide)) hG htr hv (Nat.ble_eq.mp h1.1) (Nat.ble_eq.mp h1.2)
    | false =>
      simp only [hdm, cond_false] at hr
      obtain ⟨h1, hr⟩ := rz_bif hr
      simp only [Bool.and_eq_true] at h1
      have hm := hst.2.2.2 a (Nat.blt_eq.mp h1.1) (Nat.blt_eq.mp h1.2.1)
      refine rz_metOf hm hG hB htr (by rw [rz_sllen, rz_skcat hv]; exact Nat.ble_eq.mp h1.2.2) fun p e s m below meth c C hp ls hl => ?_
      exact rz_runOK hst C ih (R := rz_rm (d + 1) K Z) (by show d + 9 ≤ d + 1 + 8; omega) (by show 64 * d + 192 ≤ 64 * (d + 1) + 128; omega) rfl rfl 3000 _ hr s.heap [] ls [] ⟨_, hl, rz_sk_args hv⟩ trivial hp (fun q hq => nomatch hq)
end
end
section
/-! What is covered by a weaker state. -/
section
variable {G : rz_G}
theorem rz_leVs {a b : rz_V} {v : Value} (h : rz_leV a b = true) (r : rz_vr G a v) : rz_vr G b v := by
  simp only [rz_leV, Bool.or_eq_true, Bool.and_eq_true, decide_eq_true_eq] at h
  rcases h with ⟨h1, h2⟩ | ⟨rfl, h2⟩ | ⟨rfl, h2⟩
  · obtain ⟨t, c⟩ := a
    obtain ⟨t', c'⟩ := b
    cases Nat.eq_of_beq_eq_true h1
    cases h2
    exact r
  · exact rz_vI h2 r
  · exact rz_vL h2 r
theorem rz_leLs : ∀ {l m : List rz_V} {st : List Value}, rz_leL l m = true → rz_sk G l st → rz_sk G m st
  | [], [], st, _, h => h
  | [], _ :: _, _, h, _ => by cases h
  | _ :: _, [], _, h, _ => by cases h
  | a :: l, b :: m, st, h, hs => by
    simp only [rz_leL, Bool.and_eq_true] at h
    obtain ⟨v, st', rfl, h1, h2⟩ := rz_skc hs
    exact ⟨rz_leVs h.1 h1, rz_leLs h.2 h2⟩
theorem rz_leAs : ∀ {l m : List (Nat × rz_V)} {lv : List (Nat × Value)}, rz_leA l m = true → rz_ls G l lv → rz_ls G m lv
  | [], [], st, _, h => h
  | [], _ :: _, _, h, _ => by cases h
  | _ :: _, [], _, h, _ => by cases h
  | a :: l, b :: m, [], h, hs => hs.elim
  | a :: l, b :: m, q :: lv, h, hs => by
    simp only [rz_leA, Bool.and_eq_true] at h
    obtain ⟨h1, h2, h3⟩ := hs
    exact ⟨(Nat.eq_of_beq_eq_true h.1).symm.trans h1, rz_leVs h.2.1 h2, rz_leAs h.2.2 h3⟩
theorem rz_leLn : ∀ {l m : List rz_V} {j : Nat} {b : rz_V}, rz_leL l m = true → rz_nth m j = some b → ∃ a, rz_nth l j = some a ∧ rz_leV a b = true
  | [], [], _, _, _, h => by cases h
  | [], _ :: _, _, _, h, _ => by cases h
  | _ :: _, [], _, _, h, _ => by cases h
  | a :: l, b :: m, 0, c, h, hj => by
    simp only [rz_leL, Bool.and_eq_true] at h
    have e : b = c := Option.some.inj hj
    subst e
    exact ⟨a, rfl, h.1⟩
  | a :: l, b :: m, n + 1, c, h, hj => by
    simp only [rz_leL, Bool.and_eq_true] at h
    exact rz_leLn (l := l) (m := m) h.2 hj
theorem rz_leAk : ∀ {l m : List (Nat × rz_V)} {j : Nat}, rz_leA l m = true → (rz_lk l j = none ∧ rz_lk m j = none) ∨ ∃ a b, rz_lk l j = some a ∧ rz_lk m j = some b ∧ rz_leV a b = true
  | [], [], _, _ => Or.inl ⟨rfl, rfl⟩
  | [], _ :: _, _, h => by cases h
  | _ :: _, [], _, h => by cases h
  | a :: l, b :: m, j, h => by
    simp only [rz_leA, Bool.and_eq_true] at h
    have e := Nat.eq_of_beq_eq_true h.1
    cases hj : Nat.beq a.1 j with
    | true =>
      refine Or.inr ⟨a.2, b.2, ?_, ?_, h.2.1⟩
      · simp [rz_lk, hj]
      · rw [e] at hj; simp [rz_lk, hj]
    | false =>
      have hj' : Nat.beq b.1 j = false := by rw [← e]; exact hj
      have ih := rz_leAk (l := l) (m := m) (j := j) h.2.2
      simp only [rz_lk, hj, hj', cond_false]
      exact ih
theorem rz_leEs {a b : rz_E} {cell : Cell} (h : rz_leE a b = true) (r : rz_cr G a cell) : rz_cr G b cell := by
  obtain ⟨ka, na, fa, ua⟩ := a
  obtain ⟨kb, nb, fb, ub⟩ := b
  simp only [rz_leE, Bool.and_eq_true] at h
  obtain ⟨h1, h2, h3, h4⟩ := h
  cases Nat.eq_of_beq_eq_true h1
  cases Nat.eq_of_beq_eq_true h2
  obtain ⟨r0, r1 | r1 | r1⟩ := r
  · refine ⟨r0, Or.inl ⟨r1.1, r1.2.1, fun j b9 hj => ?_⟩⟩
    obtain ⟨a9, g1, g2⟩ := rz_leLn h3 hj
    obtain ⟨v, v1, v2⟩ := r1.2.2 j a9 g1
    exact ⟨v, v1, rz_leVs g2 v2⟩
  · exact ⟨r0, Or.inr (Or.inl r1)⟩
  · refine ⟨r0, Or.inr (Or.inr ⟨r1.1, r1.2.1, r1.2.2.1, r1.2.2.2.1, fun j hj => ?_⟩)⟩
    obtain ⟨v, v1, v2⟩ := r1.2.2.2.2 j hj
    refine ⟨v, v1, ?_⟩
    rcases rz_leAk (j := j) h4 with ⟨g1, g2⟩ | ⟨x, y, g1, g2, g3⟩
    · simp only [rz_ael, g1] at v2
      simp only [rz_ael, g2]
      exact v2
    · simp only [rz_ael, g1] at v2
      simp only [rz_ael, g2]
      exact rz_leVs g3 v2
theorem rz_leHl : ∀ {l m : List rz_E}, rz_leH l m = true → l.length = m.length
  | [], [], _ => rfl
  | [], _ :: _, h => by cases h
  | _ :: _, [], h => by cases h
  | a :: l, b :: m, h => by
    simp only [rz_leH, Bool.and_eq_true] at h
    simp [rz_leHl h.2]
theorem rz_leHn : ∀ {l m : List rz_E} {j : Nat} {b : rz_E}, rz_leH l m = true → rz_nth m j = some b → ∃ a, rz_nth l j = some a ∧ rz_leE a b = true
  | [], [], _, _, _, h => by cases h
  | [], _ :: _, _, _, h, _ => by cases h
  | _ :: _, [], _, _, h, _ => by cases h
  | a :: l, b :: m, 0, c, h, hj => by
    simp only [rz_leH, Bool.and_eq_true] at h
    have e : b = c := Option.some.inj hj
    subst e
    exact ⟨a, rfl, h.1⟩
  | a :: l, b :: m, n + 1, c, h, hj => by
    simp only [rz_leH, Bool.and_eq_true] at h
    exact rz_leHn (l := l) (m := m) h.2 hj
theorem rz_leHs {l m : List rz_E} {H : Heap} (h : rz_leH l m = true) (hp : rz_hp G l H) : rz_hp G m H := by
  refine ⟨by rw [hp.1, rz_leHl h], hp.2.1, fun k b hb => ?_⟩
  obtain ⟨a, g1, g2⟩ := rz_leHn h hb
  obtain ⟨cell, c1, c2⟩ := hp.2.2 k a g1
  exact ⟨cell, c1, rz_leEs g2 c2⟩
variable {nL : Nat} {p : Program} {l : Launch} {e : Env} {R : Room} {s : State} {m : MethodId} {args : Array Value} {below : List Frame} {meth : Method} {c : Code} {Q : State → Prop}
theorem rz_leFs {a b : rz_F} (h : rz_leF a b = true) (kk : rz_Wj G nL p l e R s m args below meth c Q b.1 b.2.1 b.2.2.1 b.2.2.2.1 b.2.2.2.2.1 b.2.2.2.2.2) : rz_Wj G nL p l e R s m args below meth c Q a.1 a.2.1 a.2.2.1 a.2.2.2.1 a.2.2.2.2.1 a.2.2.2.2.2 := by
  simp only [rz_leF, Bool.and_eq_true] at h
  obtain ⟨h1, h2, h3, h4, h5, h6⟩ := h
  intro H locs ls st hl hs hp hf
  obtain ⟨lv, l1, l2⟩ := hl
  rw [Nat.eq_of_beq_eq_true h1]
  exact W.widen (Nat.ble_eq.mp h5) (Nat.ble_eq.mp h6) (kk H locs ls st ⟨lv, l1, rz_leAs h2 l2⟩ (rz_leLs h3 hs) (rz_leHs h4 hp) hf)
end
end
section
/-! The law: from its entry to its end. -/
section
variable {G : rz_G}
theorem rz_inlo {B : rz_B} {k : Nat} {c : Int} (h : rz_in G B) (hk : (rz_p G k).toInt < c) : rz_in G (rz_lo B k c) := by
  unfold rz_lo
  cases hn : rz_nth B k with
  | none => exact h
  | some q =>
    obtain ⟨lo, hi⟩ := q
    intro j l2 h2 hj
    rcases rz_nth_set hj with ⟨rfl, hq⟩ | ⟨-, hj⟩
    · cases hq
      exact ⟨(h j lo hi hn).1, by omega⟩
    · exact h j l2 h2 hj
theorem rz_inhi {B : rz_B} {k : Nat} {c : Int} (h : rz_in G B) (hk : c ≤ (rz_p G k).toInt) : rz_in G (rz_hi B k c) := by
  unfold rz_hi
  cases hn : rz_nth B k with
  | none => exact h
  | some q =>
    obtain ⟨lo, hi⟩ := q
    intro j l2 h2 hj
    rcases rz_nth_set hj with ⟨rfl, hq⟩ | ⟨-, hj⟩
    · cases hq
      exact ⟨hk, (h j lo hi hn).2⟩
    · exact h j l2 h2 hj
theorem rz_chkOK {P : rz_B → Bool} : ∀ (n : Nat) {T T' : List (Nat × Int)} {B : rz_B}, rz_chk P n T B = some T' → rz_in G B → ∃ B', P B' = true ∧ rz_in G B'
  | 0, _, _, _, h, _ => by cases h
  | _ + 1, [], _, _, h, _ => by cases h
  | n + 1, q :: T, T', B, h, hB => by
    unfold rz_chk at h
    cases e : Nat.beq q.1 99 with
    | true =>
      simp only [e, cond_true] at h
      obtain ⟨h1, -⟩ := rz_bif h
      exact ⟨B, h1, hB⟩
    | false =>
      simp only [e, cond_false] at h
      cases hc : rz_chk P n T (rz_lo B q.1 q.2) with
      | none => simp [hc] at h
      | some T1 =>
        simp only [hc] at h
        by_cases hk : (rz_p G q.1).toInt < q.2
        · exact rz_chkOK n hc (rz_inlo hB hk)
        · exact rz_chkOK n h (rz_inhi hB (by omega))
theorem rz_allOK {P : rz_B → Bool} {T : List (Nat × Int)} {B : rz_B} (h : rz_all P T B = true) (hB : rz_in G B) : ∃ B', P B' = true ∧ rz_in G B' := by
  unfold rz_all at h
  cases hc : rz_chk P 1000 T B with
  | none => simp [hc] at h
  | some T1 => exact rz_chkOK 1000 hc hB
def rz_inL (f : Nat → Int32) : Nat → rz_B → Prop
  | _, [] => True
  | k, q :: B => (q.1 ≤ (f k).toInt ∧ (f k).toInt ≤ q.2) ∧ rz_inL f (k + 1) B
theorem rz_inLn {f : Nat → Int32} : ∀ {k : Nat} {B : rz_B}, rz_inL f k B → ∀ (j : Nat) (lo hi : Int), rz_nth B j = some (lo, hi) → lo ≤ (f (k + j)).toInt ∧ (f (k + j)).toInt ≤ hi
  | _, [], _, _, _, _, h => by cases h
  | k, q :: B, h, 0, lo, hi, hj => by
    have e : q = (lo, hi) := Option.some.inj hj
    subst e
    exact h.1
  | k, q :: B, h, n + 1, lo, hi, hj => by
    have := rz_inLn (k := k + 1) (B := B) h.2 n lo hi hj
    rw [show k + (n + 1) = k + 1 + n by omega]
    exact this
theorem rz_inOf {B : rz_B} (h : rz_inL (rz_p G) 0 B) : rz_in G B := fun k lo hi hk => by
  have := rz_inLn h k lo hi hk
  rwa [Nat.zero_add] at this
end
def R_law : String := "TurnHallLaw"
def lw_P (b : Addr) (xs : List Int32) (args : Array Value) (s : State) : Prop := args = #[.ref b] ∧ s.IntsAt b xs ∧ xs.length ≤ 8 ∧ (Jvm.Cond.and given_1 narrow_1).before args s = true
def lw_Q (_ : Array Value) (s : State) (o : Outcome) (t : State) : Prop := o = .returned (some (.int 1)) ∧ Framed s o t [] 600002 7302197
def lw_Z (below : List Frame) (a : Array Value) (s : State) : State → Prop := fun t => ∃ o, t.status = .running ∧ Ended t below o ∧ lw_Q a s o t
def lw_At (p : Program) (s : State) (m : MethodId) (meth : Method) (c : Code) (b L : Nat) (xs : Nat → Int32) : Prop :=
  p.tables.exec = Jvm.exec ∧ c.code = code ∧ meth.sig.returnType = ret ∧ c.maxLocals = 8 ∧ s.vm.findClass R_law = some m.cls ∧ (∀ w ∈ lw_tbl, w.before #[Value.ref b] s = true) ∧ va_X b L xs s s.heap ∧ b < s.heap.size ∧ meth.locks = false ∧ (Jvm.Cond.and given_1 narrow_1).before #[Value.ref b] s = true ∧ c.exceptionTable.toList = []
/-- what the tables know of arrays, of the two statics, of the text, of the exception's class -/
def rz_StatA : Prop := (Cond.arrayClass .int ∈ rz_TS ∧ Cond.arrayClass .long ∈ rz_TS ∧ Cond.arrayClass .boolean ∈ rz_TS) ∧ (∀ k, rz_ak k = true → 3 < k → Cond.arrayOver (.object (rz_cn (k - 4))) ∈ rz_TS) ∧
  Cond.laysStatic Bundle.tN "UNASSIGNED_STACK" Bundle.steD ∈ lw_tbl ∧ Cond.laysStatic Bundle.tN "SUPPRESSED_SENTINEL" Bundle.listD ∈ lw_tbl ∧ Cond.initialized Bundle.tN ∈ lw_tbl ∧ Cond.stringRef RX10 295 rz_txt ∈ lw_tbl ∧ Cond.instantiable rz_iae 6 ∈ lw_tbl
theorem rz_akc {k : Nat} (h : rz_ak k = true) : k = 1 ∨ k = 2 ∨ k = 3 ∨ (3 < k ∧ k < 16) := by
  simp only [rz_ak, Bool.or_eq_true] at h
  rcases h with h | h | h | h | h | h | h | h | h <;> have := Nat.eq_of_beq_eq_true h <;> omega
theorem rz_world (hst : rz_Stat) (hA : rz_StatA) {p : Program} {s : State} {m : MethodId} {meth : Method} {c : Code} {b L : Nat} {xs : Nat → Int32} (hL : L ≤ 8) (C0 : lw_At p s m meth c b L xs) :
    ∃ G : rz_G, rz_n0 G = s.heap.size ∧ rz_b G = b ∧ rz_H0 G = s.heap ∧ (∀ k, k < 8 → rz_p G k = xs k) ∧ rz_p G 8 = Int32.ofNat L ∧ rz_p G 9 = xs 1 &&& 31 ∧ rz_WI G rz_is0 s := by
  obtain ⟨hx, hb, hr, hml, hown, hts, hX, hbl, hlocks, hgv, het⟩ := C0
  have htS : ∀ w ∈ rz_TS, w.before #[Value.ref b] s = true := fun w hw => hts w (List.mem_filter.mp hw).1
  have h1 : ∀ k, ∃ d : ClassId × (Nat → Nat), k < 12 → u_Kn s (rz_cn k) (rz_T k) (rz_N k) d.1 d.2 := by
    intro k
    by_cases hk : k < 12
    · obtain ⟨c1, c2, c3, c4, c5, c6⟩ := hst.2.1 k hk
      obtain ⟨cC, iS, hq⟩ := u_known htS c2 (htS _ c5)
      exact ⟨(cC, iS), fun _ => hq⟩
    · exact ⟨(0, fun _ => 0), fun q => absurd q hk⟩
  have h2 : ∀ k, ∃ cA : ClassId, rz_ak k = true → ArrOfT s cA (rz_aty k) ∧ va_RA s cA (rz_aty k) := by
    intro k
    by_cases hk : rz_ak k = true
    · have prim : ∀ ty : FieldType, Cond.arrayClass ty ∈ rz_TS → (∀ cA, s.vm.findClass ("[" ++ ty.toString) = some cA → va_RA s cA ty) → ∃ cA : ClassId, ArrOfT s cA ty ∧ va_RA s cA ty := by
        intro ty hw hra
        obtain ⟨cA, kA, comp, g1, g2, g3⟩ := Cond.arrayClass_spec (htS _ hw)
        exact ⟨cA, fun n z => ⟨fun k h => (by cases h), kA, g2, comp, g3⟩, hra cA g1⟩
      rcases rz_akc hk with rfl | rfl | rfl | ⟨hk3, hk16⟩
      · obtain ⟨cA, g⟩ := prim .int hA.1.1 (fun cA h => h); exact ⟨cA, fun _ => g⟩
      · obtain ⟨cA, g⟩ := prim .long hA.1.2.1 (fun cA h => h); exact ⟨cA, fun _ => g⟩
      · obtain ⟨cA, g⟩ := prim .boolean hA.1.2.2 (fun cA h => h); exact ⟨cA, fun _ => g⟩
      · obtain ⟨comp, cA, kA, g1, -, g2, g3, g4⟩ := Cond.arrayOver_spec (htS _ (hA.2.1 k hk hk3))
        refine ⟨cA, fun _ => ?_⟩
        rw [rz_akty k hk16 hk hk3]
        exact ⟨fun n z => ⟨fun k h => (by cases h), kA, g2, comp, g3⟩, kA, comp, g2, g3, g1, g4⟩
    · exact ⟨0, fun q => absurd q hk⟩
  obtain ⟨xc, kX, hxc, -⟩ := Cond.instantiable_spec (hts _ hA.2.2.2.2.2.2)
  have hs0 := flat_of_before _ hgv
  have hU0 : (Cond.isRef (.static Bundle.tN "UNASSIGNED_STACK" Bundle.steD)).before #[Value.ref b] s = true := hs0 _ (by decide +kernel)
  have hN0 : (Cond.isRef (.static Bundle.tN "SUPPRESSED_SENTINEL" Bundle.listD)).before #[Value.ref b] s = true := hs0 _ (by decide +kernel)
  have hnA : ∀ a : Nat, a < s.heap.size → ¬ s.heap.size ≤ a := fun a ha => Nat.not_le.mpr ha
  have hU := vx_Zqof (A := fun q => s.heap.size ≤ q) (hts _ hA.2.2.1) (hts _ hA.2.2.2.2.1) hU0 hnA
  have hN := vx_Zqof (A := fun q => s.heap.size ≤ q) (hts _ hA.2.2.2.1) (hts _ hA.2.2.2.2.1) hN0 hnA
  obtain ⟨cur, kcur, hcur, -⟩ := (hst.2.1 10 (by decide)).2.2.2.2.1 |> fun q => Cond.instantiable_spec (htS _ q)
  have hstr : (Cond.stringRef RX10 295 rz_txt).before #[Value.ref b] s = true := hts _ hA.2.2.2.2.2.1
  obtain ⟨k9, cf9, i9, sa, -, -, -, -, -, hsa⟩ := Cond.stringRef_spec (cls := RX10) hcur hstr
  obtain ⟨scr, x1, x2, x3, x4, x5⟩ := hX
  refine ⟨(s.heap.size, b, fun k => if k < 8 then xs k else if k = 8 then Int32.ofNat L else xs 1 &&& 31, (fun k => (Classical.choose (h1 k)).1, fun k => (Classical.choose (h1 k)).2), fun k => Classical.choose (h2 k), xc, s.heap), rfl, rfl, rfl, fun k hk => if_pos hk, rfl, rfl, ⟨fun k q hq => ?_, fun k q hq => by simp at hq⟩, fun k hk => Classical.choose_spec (h2 k) hk, ⟨L, ⟨scr, x1, x2, x3, x4, fun j hj => ?_⟩, rfl, hL⟩, hxc, hU, hN, sa, vk_R.of hstr hsa⟩
  · have hk : k < 12 := (List.getElem?_eq_some_iff.mp hq).1
    have e := Option.some.inj (hq.symm.trans (hst.2.1 k hk).1)
    subst e
    exact Classical.choose_spec (h1 k) hk
  · rw [x5 j hj]
    show _ = some (Value.int (if j < 8 then xs j else _))
    rw [if_pos (by omega)]
theorem rz_wmono {p : Program} {l : Launch} {e : Env} {R : Room} {s : State} {m : MethodId} {args : Array Value} {below : List Frame} {meth : Method} {c : Code} {G : rz_G} {nL : Nat} {Q Q' : State → Prop} (h : ∀ t, Q t → Q' t) {pc : Nat} {L : List (Nat × rz_V)} {S : List rz_V} {hh : List rz_E} {k z : Nat} (kk : rz_Wj G nL p l e R s m args below meth c Q pc L S hh k z) : rz_Wj G nL p l e R s m args below meth c Q' pc L S hh k z := by
  intro H locs ls st hl hs hp hf T hT X
  obtain ⟨t, a1, b1⟩ := kk H locs ls st hl hs hp hf T hT X
  exact ⟨t, a1, h t b1⟩
theorem rz_law (hst : rz_Stat) (hD : rz_StatD) (hA : rz_StatA) {f1 : rz_F} {n : Nat} (hs1 : ∀ G : rz_G, rz_Gk G → (∃ L : Nat, L ≤ 8 ∧ rz_p G 8 = Int32.ofNat L) → ∃ B, rz_seg n rz_f0 f1 B = true ∧ rz_in G B) (hs2 : ∀ G : rz_G, rz_Gk G → (∃ L : Nat, L ≤ 8 ∧ rz_p G 8 = Int32.ofNat L) → ∃ B, rz_end f1 B = true ∧ rz_in G B)
    {p : Program} {e : Env} {s : State} {m : MethodId} {below : List Frame} {meth : Method} {c : Code} (l : Launch) (htr : l.stackTraces = false) {b L : Nat} {xs : Nat → Int32} (hL : L ≤ 8) (C0 : lw_At p s m meth c b L xs) : W p l e room_1 s m #[Value.ref b] below meth c s.heap [] 0 0 (lw_Z below #[Value.ref b] s) (entryFrame m ([Value.ref b] : List Value).toArray 8) := by
  obtain ⟨G, g1, g2, g3, g4, g5, g6, g7⟩ := rz_world hst hA hL C0
  obtain ⟨hx, hb, hr, hml, hown, hts, hX, hbl, hlocks, hgv, het⟩ := C0
  have hG : rz_Gk G := ⟨by rw [g1, g3], by rw [g1, g2]; exact hbl, by rw [g6, g4 1 (by decide)]⟩
  have htS : ∀ w ∈ rz_TS, w.before #[Value.ref b] s = true := fun w hw => hts w (List.mem_filter.mp hw).1
  have hC : ∀ B, rz_in G B → rz_C G B 0 p l s m #[Value.ref b] meth c := fun B hB => ⟨hx, hb, hr, hml, hown, htS, hlocks, fun q => absurd q (by decide), het, g7, hG, hB, htr⟩
  obtain ⟨B1, k1, k2⟩ := hs1 G hG ⟨L, hL, g5⟩
  obtain ⟨B2, k3, k4⟩ := hs2 G hG ⟨L, hL, g5⟩
  have hp0 : rz_hp G [] s.heap := ⟨by rw [g1]; rfl, fun q _ => by rw [g3], fun k e0 hk => by cases hk⟩
  have hl := lv_entry ([.ref b]) (n := 8) (Nat.le_of_ble_eq_true rfl)
  rw [lg_entry_eq]
  have hend : rz_Wj G (rz_nL 0) p l e room_1 s m #[Value.ref b] below meth c (lw_Z below #[Value.ref b] s) f1.1 f1.2.1 f1.2.2.1 f1.2.2.2.1 f1.2.2.2.2.1 f1.2.2.2.2.2 := by
    unfold rz_end at k3
    cases hrun : rz_run (rz_ev B2 12) B2 600002 7302197 0 200 f1 with
    | none => simp [hrun] at k3
    | some r =>
      simp only [hrun, Bool.and_eq_true, decide_eq_true_eq] at k3
      refine rz_wmono (fun t ht => ?_) (rz_runOK hst (hC B2 k4) (rz_evOK hst hD hG k4 htr 12) (R := room_1) (by decide) (by decide) rfl rfl 200 f1 hrun)
      obtain ⟨o, b1, b2, b3, L9, b4, b5⟩ := ht
      obtain ⟨c1, c2⟩ := b3
      obtain ⟨⟨rn, rv⟩, rh, rk, rz⟩ := r
      obtain ⟨k31, k32, k33⟩ := k3
      cases k31
      obtain ⟨w, rfl, y, rfl, hy⟩ := c2
      have e1 : y = 1 := rz_int_eq hy
      subst e1
      refine ⟨_, b1, b2, rfl, ⟨_, rfl⟩, b4.1, b4.2.weaken (fun y hy hlt => ?_) (Nat.ble_eq.mp k32) (Nat.ble_eq.mp k33)⟩
      have this : rz_n0 G ≤ y.base := b5 y hy
      rw [g1] at this
      exact absurd hlt (Nat.not_lt.mpr this)
  have hstart : rz_Wj G (rz_nL 0) p l e room_1 s m #[Value.ref b] below meth c (lw_Z below #[Value.ref b] s) rz_f0.1 rz_f0.2.1 rz_f0.2.2.1 rz_f0.2.2.2.1 rz_f0.2.2.2.2.1 rz_f0.2.2.2.2.2 := by
    unfold rz_seg at k1
    cases hrun : rz_runs (rz_ev B1 12) B1 600002 7302197 0 n rz_f0 with
    | none => simp [hrun] at k1
    | some g =>
      simp only [hrun] at k1
      exact rz_runsOK hst (hC B1 k2) (rz_evOK hst hD hG k2 htr 12) (R := room_1) (by decide) (by decide) rfl rfl n rz_f0 hrun (rz_leFs k1 hend)
  exact hstart s.heap [] _ [] ⟨_, hl, ⟨rfl, (show Value.ref b = Value.ref (rz_b G) by rw [g2]), trivial⟩⟩ trivial hp0 (fun q hq => nomatch hq)
end
section
/-! What the tables know, checked by the kernel place by place (laid by wip/p1/tools/gen2.py). -/
def rz_fp : List (Nat × Nat × Nat × Nat × Nat) := [(0, 12, 0, 2, 329), (0, 18, 0, 3, 331), (0, 22, 0, 4, 333), (0, 25, 0, 5, 335), (0, 29, 0, 0, 327), (0, 32, 0, 1, 328), (1, 11, 1, 0, 125), (1, 19, 1, 1, 127), (1, 23, 1, 2, 129), (1, 27, 1, 3, 131), (1, 30, 1, 4, 133), (1, 33, 1, 5, 135), (1, 36, 1, 6, 137), (1, 39, 1, 7, 139), (1, 42, 1, 8, 140), (1, 46, 1, 9, 142), (1, 57, 9, 6, 553), (1, 60, 9, 2, 542), (1, 69, 9, 7, 556), (1, 75, 9, 13, 571), (1, 88, 9, 3, 545), (1, 99, 9, 10, 563), (1, 102, 6, 0, 107), (2, 9, 2, 0, 228), (2, 15, 2, 1, 231), (2, 18, 2, 2, 232), (3, 12, 3, 2, 277), (3, 18, 3, 3, 279), (3, 22, 3, 4, 281), (3, 25, 3, 5, 283), (3, 28, 3, 0, 275), (3, 31, 3, 1, 276), (4, 12, 4, 2, 247), (4, 18, 4, 3, 249), (4, 21, 4, 4, 251), (4, 25, 4, 5, 253), (4, 28, 4, 0, 245), (4, 31, 4, 1, 246), (5, 9, 5, 0, 198), (5, 15, 5, 1, 200), (5, 19, 5, 2, 202), (6, 9, 6, 0, 105), (6, 15, 6, 1, 108), (6, 19, 6, 2, 110), (6, 23, 6, 3, 112), (7, 9, 7, 0, 178), (7, 15, 7, 1, 179), (7, 18, 7, 2, 180), (7, 22, 7, 3, 181), (8, 12, 8, 2, 307), (8, 18, 8, 3, 309), (8, 22, 8, 0, 305), (8, 26, 8, 1, 306), (8, 64, 2, 0, 229), (9, 9, 9, 1, 537), (9, 15, 9, 2, 541), (9, 19, 9, 3, 544), (9, 22, 9, 4, 547), (9, 25, 9, 5, 550), (9, 28, 9, 6, 552), (9, 32, 9, 7, 555), (9, 35, 9, 8, 558), (9, 39, 9, 9, 560), (9, 42, 9, 10, 562), (9, 45, 9, 11, 565), (9, 48, 9, 12, 567), (9, 53, 9, 13, 570), (9, 57, 9, 14, 572), (9, 60, 9, 15, 574), (9, 63, 9, 16, 577), (9, 66, 9, 17, 579), (9, 69, 9, 18, 581), (9, 73, 9, 0, 532), (10, 12, 10, 1, 351), (10, 16, 10, 2, 352), (10, 22, 10, 3, 353), (10, 28, 10, 4, 354), (10, 34, 10, 5, 355), (10, 40, 10, 6, 356), (10, 47, 10, 7, 357), (10, 54, 10, 8, 358), (10, 58, 10, 9, 359), (10, 62, 10, 10, 360), (10, 65, 10, 11, 361), (10, 77, 10, 0, 350), (10, 94, 1, 0, 126), (10, 98, 6, 0, 106), (10, 120, 1, 2, 130), (10, 129, 9, 1, 539), (10, 137, 9, 0, 536), (10, 140, 7, 3, 182), (10, 146, 1, 3, 132), (10, 161, 1, 4, 134), (10, 168, 1, 8, 141), (10, 194, 8, 3, 310), (10, 197, 0, 2, 330), (10, 201, 2, 2, 237), (10, 206, 0, 3, 332), (10, 234, 4, 4, 252), (10, 237, 4, 5, 254), (10, 240, 4, 2, 248), (10, 243, 4, 3, 250), (10, 250, 3, 3, 280), (10, 253, 3, 4, 282), (10, 256, 3, 5, 284), (10, 259, 3, 2, 278), (10, 265, 8, 2, 308), (10, 266, 0, 5, 336), (10, 269, 0, 4, 334), (10, 286, 1, 5, 136), (10, 287, 5, 2, 203), (10, 290, 1, 6, 138), (11, 1, 11, 0, 1085), (11, 13, 11, 2, 1087), (11, 17, 11, 3, 1088), (11, 20, 11, 4, 1089), (11, 24, 11, 5, 1090), (11, 27, 11, 7, 1092), (11, 30, 11, 8, 1093), (11, 33, 11, 9, 1094), (11, 36, 11, 10, 1095), (11, 39, 11, 11, 1096), (11, 42, 11, 12, 1097), (11, 45, 11, 13, 1098), (11, 48, 11, 14, 1099), (11, 51, 11, 15, 1100), (11, 54, 11, 16, 1101), (11, 57, 11, 17, 1102), (11, 60, 11, 18, 1103), (11, 63, 11, 19, 1104), (11, 67, 11, 20, 1105), (11, 70, 11, 21, 1106), (11, 73, 11, 22, 1107), (11, 76, 11, 23, 1108), (11, 79, 11, 24, 1109), (11, 82, 11, 25, 1110), (11, 85, 11, 26, 1111), (11, 88, 11, 27, 1112), (11, 91, 11, 28, 1113), (11, 94, 11, 29, 1114), (11, 97, 11, 30, 1115), (11, 100, 11, 31, 1116), (11, 103, 11, 32, 1117), (11, 106, 11, 33, 1118), (11, 109, 11, 34, 1119), (11, 112, 11, 35, 1120), (11, 115, 11, 37, 1122), (11, 118, 11, 39, 1124), (11, 121, 11, 45, 1130), (11, 124, 11, 46, 1131), (11, 127, 11, 1, 1086), (11, 130, 11, 6, 1091), (11, 149, 11, 44, 1129), (11, 161, 11, 40, 1125), (11, 192, 11, 42, 1127), (11, 237, 11, 43, 1128), (11, 271, 11, 36, 1121)]
def rz_cp : List (Nat × Nat × Nat × Nat) := [(0, 9, 2, 325), (1, 9, 6, 96), (1, 17, 9, 98), (3, 9, 2, 273), (4, 9, 2, 222), (8, 9, 2, 303), (10, 9, 1, 90), (10, 20, 4, 164), (10, 26, 3, 166), (10, 32, 8, 168), (10, 38, 0, 170), (10, 44, 7, 172), (10, 51, 5, 192), (12, 8, 10, 82), (12, 88, 11, 1079)]
def rz_mp : List (Nat × Nat × Nat × Nat × Nat) := [(0, 11, 95, 326, 1), (1, 50, 101, 101, 1), (1, 51, 106, 527, 0), (1, 54, 107, 622, 0), (1, 84, 86, 638, 0), (1, 105, 89, 634, 0), (1, 109, 92, 630, 0), (3, 11, 95, 274, 1), (4, 11, 95, 224, 1), (5, 23, 2, 395, 0), (8, 11, 95, 304, 1), (8, 54, 105, 842, 0), (10, 11, 88, 92, 0), (10, 46, 102, 174, 1), (10, 53, 98, 194, 1), (10, 68, 2, 211, 0), (10, 74, 1, 214, 0), (10, 80, 97, 218, 0), (10, 83, 96, 269, 0), (10, 84, 104, 299, 0), (10, 85, 25, 321, 0), (10, 86, 35, 396, 0), (10, 90, 30, 412, 0), (10, 110, 100, 498, 0), (10, 114, 90, 509, 0), (10, 125, 91, 522, 0), (10, 134, 93, 626, 0), (10, 164, 40, 678, 0), (10, 172, 87, 953, 0), (10, 190, 103, 912, 0), (10, 246, 94, 1028, 0), (10, 262, 3, 1047, 0), (10, 272, 99, 391, 0), (11, 133, 85, 1263, 0), (11, 137, 57, 1267, 0), (11, 141, 58, 1271, 0), (11, 152, 79, 1259, 0), (11, 180, 77, 1354, 0), (11, 199, 61, 1236, 0), (11, 243, 65, 1255, 0), (11, 254, 59, 1374, 0), (11, 257, 66, 1378, 0), (11, 260, 51, 1239, 0), (11, 267, 68, 1283, 0), (11, 277, 71, 1291, 0), (11, 298, 3, 1437, 0), (12, 7, 41, 408, 0), (12, 17, 31, 505, 0), (12, 21, 27, 517, 0), (12, 25, 44, 654, 0), (12, 29, 32, 666, 0), (12, 32, 50, 948, 0), (12, 35, 34, 967, 0), (12, 38, 48, 974, 0), (12, 42, 39, 981, 0), (12, 45, 46, 989, 0), (12, 49, 28, 996, 0), (12, 53, 47, 1003, 0), (12, 56, 49, 1010, 0), (12, 59, 42, 1017, 0), (12, 62, 37, 1024, 0), (12, 65, 36, 1035, 0), (12, 68, 45, 1042, 0), (12, 71, 26, 1053, 0), (12, 74, 43, 1060, 0), (12, 77, 29, 1071, 0), (12, 80, 6, 400, 0), (12, 85, 33, 84, 0), (12, 90, 62, 1081, 0), (12, 93, 15, 403, 0), (12, 96, 72, 1231, 0), (12, 97, 83, 1075, 0), (12, 101, 9, 502, 0), (12, 104, 56, 1247, 0), (12, 105, 5, 514, 0), (12, 108, 53, 1251, 0), (12, 109, 18, 651, 0), (12, 112, 75, 1279, 0), (12, 113, 10, 663, 0), (12, 115, 60, 1287, 0), (12, 116, 24, 945, 0), (12, 118, 84, 1382, 0), (12, 119, 11, 964, 0), (12, 121, 63, 1392, 0), (12, 122, 22, 971, 0), (12, 124, 81, 1396, 0), (12, 125, 14, 978, 0), (12, 127, 70, 1400, 0), (12, 128, 20, 986, 0), (12, 130, 78, 1404, 0), (12, 131, 7, 993, 0), (12, 133, 54, 1408, 0), (12, 134, 21, 1000, 0), (12, 136, 80, 1412, 0), (12, 137, 23, 1007, 0), (12, 139, 82, 1416, 0), (12, 140, 16, 1014, 0), (12, 142, 73, 1420, 0), (12, 143, 13, 1021, 0), (12, 145, 67, 1424, 0), (12, 146, 12, 1032, 0), (12, 148, 64, 1428, 0), (12, 149, 19, 1039, 0), (12, 151, 76, 1432, 0), (12, 152, 4, 1050, 0), (12, 154, 52, 1438, 0), (12, 155, 38, 387, 0), (12, 159, 69, 1442, 0), (12, 160, 17, 1057, 0), (12, 162, 74, 1446, 0), (12, 163, 8, 1068, 0), (12, 165, 55, 1450, 0)]
def rz_op : List (Nat × Nat × Nat) := [(0, 3, 324), (1, 3, 95), (2, 3, 227), (3, 3, 272), (4, 3, 221), (5, 3, 197), (6, 3, 104), (7, 3, 177), (8, 3, 302), (9, 3, 530), (10, 3, 87), (11, 7, 1084)]
def rz_kp : List (Nat × Nat × Int × Nat) := [(10, 167, 1000000, 952), (11, 290, 1000000, 1386)]
def rz_lp : List (Nat × Nat × Int × Nat) := [(1, 63, 9223372036854775807, 642), (8, 46, 9223372036854775807, 916), (9, 51, 9223372036854775807, 531), (10, 260, 2147483647, 1046), (10, 275, (-1), 399), (11, 155, (-1), 1321), (11, 159, 9223372036854775807, 1331), (11, 170, 2, 1340), (11, 183, 4, 1307), (11, 203, 8, 1308), (11, 227, 32, 1318), (11, 231, 16, 1235), (11, 233, 5, 1320), (11, 246, 6, 1349), (11, 296, 2147483647, 1436), (12, 91, 4294967295, 1454)]
def rz_mw : List (Nat × Nat × Nat × Nat) := [(0, 0, 0, 0), (216, 68, 215, 0), (213, 68, 212, 0), (1049, 68, 1048, 0), (1052, 62, 1051, 0), (516, 62, 515, 0), (402, 62, 401, 0), (995, 62, 994, 0), (1070, 62, 1069, 0), (504, 62, 503, 0), (665, 62, 664, 0), (966, 62, 965, 0), (1034, 62, 1033, 0), (1023, 62, 1022, 0), (980, 62, 979, 0), (405, 62, 404, 0), (1016, 62, 1015, 0), (1059, 62, 1058, 0), (653, 62, 652, 0), (1041, 62, 1040, 0), (988, 62, 987, 0), (1002, 62, 1001, 0), (973, 62, 972, 0), (1009, 62, 1008, 0), (947, 62, 946, 0), (323, 73, 322, 0), (1056, 63, 1054, 1055), (520, 63, 518, 519), (999, 63, 997, 998), (1074, 63, 1072, 1073), (414, 63, 413, 0), (508, 63, 506, 507), (669, 63, 667, 668), (86, 63, 85, 0), (970, 63, 968, 969), (398, 63, 397, 0), (1038, 63, 1036, 1037), (1027, 63, 1025, 1026), (390, 63, 388, 389), (984, 63, 982, 983), (681, 63, 680, 4), (411, 63, 409, 410), (1020, 63, 1018, 1019), (1063, 63, 1061, 1062), (657, 63, 655, 656), (1045, 63, 1043, 1044), (992, 63, 990, 991), (1006, 63, 1004, 1005), (977, 63, 975, 976), (1013, 63, 1011, 1012), (951, 63, 949, 950), (1242, 74, 1241, 32), (1441, 74, 1439, 1440), (1254, 74, 1252, 1253), (1411, 74, 1409, 1410), (1453, 74, 1451, 1452), (1250, 74, 1248, 1249), (1270, 74, 1269, 37), (1274, 74, 1273, 38), (1377, 74, 1376, 59), (1290, 74, 1288, 1289), (1238, 74, 1237, 0), (1083, 74, 1082, 0), (1395, 74, 1393, 1394), (1431, 74, 1429, 1430), (1258, 74, 1257, 34), (1381, 74, 1380, 60), (1427, 74, 1425, 1426), (1286, 74, 1285, 40), (1445, 74, 1443, 1444), (1403, 74, 1401, 1402), (1294, 74, 1293, 41), (1234, 74, 1232, 1233), (1423, 74, 1421, 1422), (1449, 74, 1447, 1448), (1282, 74, 1280, 1281), (1435, 74, 1433, 1434), (1357, 74, 1356, 54), (1407, 74, 1405, 1406), (1262, 74, 1261, 35), (1415, 74, 1413, 1414), (1399, 74, 1397, 1398), (1419, 74, 1417, 1418), (1078, 74, 1076, 1077), (1385, 74, 1383, 1384), (1266, 74, 1265, 36), (641, 64, 640, 1), (956, 64, 954, 955), (94, 64, 93, 0), (637, 64, 635, 636), (512, 64, 510, 511), (525, 64, 523, 524), (633, 64, 631, 632), (629, 64, 627, 628), (1031, 70, 1029, 1030), (226, 70, 225, 0), (271, 71, 270, 0), (220, 69, 219, 0), (196, 67, 195, 0), (394, 67, 392, 393), (501, 65, 499, 500), (103, 65, 102, 0), (176, 66, 175, 0), (915, 72, 913, 914), (301, 72, 300, 0), (845, 72, 844, 20), (529, 80, 528, 0), (625, 80, 623, 624)]
def rz_kd : List Nat := [0, 0, 0, 0, 0, 0, 0, 0, 0, 0, 0, 0, 0, 0, 0, 0, 0, 0, 0, 0, 0, 0, 0, 0, 0, 1, 2, 2, 2, 2, 0, 2, 2, 1, 2, 0, 2, 2, 2, 2, 2, 2, 2, 2, 2, 2, 2, 2, 2, 2, 2, 2, 2, 2, 2, 2, 2, 2, 2, 2, 2, 0, 1, 2, 2, 2, 2, 2, 2, 2, 2, 2, 2, 2, 2, 2, 2, 2, 2, 2, 2, 2, 2, 2, 2, 2, 2, 2, 1, 2, 2, 2, 2, 2, 2, 1, 1, 1, 1, 2, 2, 1, 1, 2, 1, 2, 1, 2]
def rz_cw0 : List Nat := [337, 339, 341, 343, 345, 347]
def rz_cw1 : List Nat := [143, 145, 147, 149, 151, 153, 155, 157, 159, 161]
def rz_cw2 : List Nat := [238, 240, 242]
def rz_cw3 : List Nat := [285, 287, 289, 291, 293, 295]
def rz_cw4 : List Nat := [255, 257, 259, 261, 263, 265]
def rz_cw5 : List Nat := [204, 206, 208]
def rz_cw6 : List Nat := [114, 116, 118, 120]
def rz_cw7 : List Nat := [183, 185, 187, 189]
def rz_cw8 : List Nat := [311, 313, 315, 317]
def rz_cw9 : List Nat := [583, 585, 587, 589, 591, 593, 595, 597, 599, 601, 603, 605, 607, 609, 611, 613, 615, 617, 619]
def rz_cw10 : List Nat := [362, 364, 366, 368, 370, 372, 374, 376, 378, 380, 382, 384]
def rz_cw11 : List Nat := [1133, 1135, 1137, 1139, 1141, 1143, 1145, 1147, 1149, 1151, 1153, 1155, 1157, 1159, 1161, 1163, 1165, 1167, 1169, 1171, 1173, 1175, 1177, 1179, 1181, 1183, 1185, 1187, 1189, 1191, 1193, 1195, 1197, 1199, 1201, 1203, 1205, 1207, 1209, 1211, 1213, 1215, 1217, 1219, 1221, 1223, 1225, 1227]
def rz_ci : List (Nat × Nat) := [(320, 73), (91, 64), (223, 70), (268, 71), (217, 69), (193, 67), (100, 65), (173, 66), (298, 72), (526, 80), (83, 63), (1080, 74)]
theorem rz_lwTS {i : Nat} {w : Cond} (h : decide (lw_tbl[i]? = some w) = true) (hg : rz_gw w = true) : w ∈ rz_TS := rz_inTS (of_decide_eq_true h) hg
def rz_fpB (t : Nat × Nat × Nat × Nat × Nat) : Bool := decide (t.2.2.2.1 < rz_N t.2.2.1) && (decide ((rz_T t.2.2.1 t.2.2.2.1).1 = rz_cn t.2.2.1) && decide (lw_tbl[t.2.2.2.2]? = some (Cond.fieldLink (rz_cn t.1) t.2.1 (rz_cn t.2.2.1) (rz_T t.2.2.1 t.2.2.2.1).2.1 (rz_T t.2.2.1 t.2.2.2.1).2.2.1)))
def rz_cpB (t : Nat × Nat × Nat × Nat) : Bool := decide (lw_tbl[t.2.2.2]? = some (Cond.classLink (rz_cn t.1) t.2.1 (rz_cn t.2.2.1)))
def rz_mpB (t : Nat × Nat × Nat × Nat × Nat) : Bool := bif Nat.beq t.2.2.2.2 0 then decide (lw_tbl[t.2.2.2.1]? = some (Cond.methodLink (rz_cn t.1) t.2.1 (rz_y t.2.2.1))) else decide (lw_tbl[t.2.2.2.1]? = some (Cond.methodLinkNest (rz_cn t.1) t.2.1 (rz_y t.2.2.1) "TurnHall"))
def rz_opB (t : Nat × Nat × Nat) : Bool := decide (lw_tbl[t.2.2]? = some (Cond.methodLink (rz_cn t.1) t.2.1 Lib.objectInit))
def rz_kpB (t : Nat × Nat × Int × Nat) : Bool := rz_r32 t.2.2.1 && decide (lw_tbl[t.2.2.2]? = some (Cond.constant (rz_cn t.1) t.2.1 (Int32.ofInt t.2.2.1)))
def rz_lpB (t : Nat × Nat × Int × Nat) : Bool := rz_r64 t.2.2.1 && decide (lw_tbl[t.2.2.2]? = some (Cond.constantLong (rz_cn t.1) t.2.1 (Int64.ofInt t.2.2.1)))
set_option maxRecDepth 100000 in
theorem rz_fp1 : rz_fp.all rz_fpB = true := by decide +kernel
set_option maxRecDepth 100000 in
theorem rz_cp1 : rz_cp.all rz_cpB = true := by decide +kernel
set_option maxRecDepth 100000 in
theorem rz_mp1 : rz_mp.all rz_mpB = true := by decide +kernel
set_option maxRecDepth 100000 in
theorem rz_op1 : rz_op.all rz_opB = true := by decide +kernel
set_option maxRecDepth 100000 in
theorem rz_kp1 : rz_kp.all rz_kpB = true := by decide +kernel
set_option maxRecDepth 100000 in
theorem rz_lp1 : rz_lp.all rz_lpB = true := by decide +kernel
theorem rz_fp2 {o x a k w : Nat} (h : (o, x, a, k, w) ∈ rz_fp) : rz_flOK o x a k := by
  have h1 := List.all_eq_true.mp rz_fp1 _ h
  simp only [rz_fpB, Bool.and_eq_true, decide_eq_true_eq] at h1
  exact ⟨h1.1, h1.2.1, rz_inTS h1.2.2 rfl⟩
theorem rz_cp2 {o x a w : Nat} (h : (o, x, a, w) ∈ rz_cp) : Cond.classLink (rz_cn o) x (rz_cn a) ∈ rz_TS := rz_lwTS (List.all_eq_true.mp rz_cp1 _ h) rfl
theorem rz_mp2 {o x a w n : Nat} (h : (o, x, a, w, n) ∈ rz_mp) : (n = 0 ∧ Cond.methodLink (rz_cn o) x (rz_y a) ∈ rz_TS) ∨ (n ≠ 0 ∧ Cond.methodLinkNest (rz_cn o) x (rz_y a) "TurnHall" ∈ rz_TS) := by
  have h1 := List.all_eq_true.mp rz_mp1 _ h
  unfold rz_mpB at h1
  dsimp only at h1
  cases hn : Nat.beq n 0 with
  | true =>
    simp only [hn, cond_true] at h1
    exact Or.inl ⟨Nat.eq_of_beq_eq_true hn, rz_lwTS h1 rfl⟩
  | false =>
    simp only [hn, cond_false] at h1
    exact Or.inr ⟨fun q => (by subst q; cases hn), rz_lwTS h1 rfl⟩
theorem rz_op2 {o x w : Nat} (h : (o, x, w) ∈ rz_op) : Cond.methodLink (rz_cn o) x Lib.objectInit ∈ rz_TS := rz_lwTS (List.all_eq_true.mp rz_op1 _ h) rfl
theorem rz_kp2 {o x w : Nat} {b : Int} (h : (o, x, b, w) ∈ rz_kp) : Cond.constant (rz_cn o) x (Int32.ofInt b) ∈ rz_TS ∧ rz_r32 b = true := by
  have h1 := List.all_eq_true.mp rz_kp1 _ h
  simp only [rz_kpB, Bool.and_eq_true] at h1
  exact ⟨rz_lwTS h1.2 rfl, h1.1⟩
theorem rz_lp2 {o x w : Nat} {b : Int} (h : (o, x, b, w) ∈ rz_lp) : Cond.constantLong (rz_cn o) x (Int64.ofInt b) ∈ rz_TS ∧ rz_r64 b = true := by
  have h1 := List.all_eq_true.mp rz_lp1 _ h
  simp only [rz_lpB, Bool.and_eq_true] at h1
  exact ⟨rz_lwTS h1.2 rfl, h1.1⟩
/-! classes -/
def rz_clB (C : String) (T : u_T) (ws : List Nat) (N : Nat) : Bool := (List.range N).all fun k => match rz_nth ws k with
  | some i => decide (lw_tbl[i]? = some (u_lay C T k))
  | none => false
theorem rz_layg (C : String) (T : u_T) (k : Nat) : rz_gw (u_lay C T k) = true := by
  unfold u_lay
  by_cases h : (T k).2.2.2 = true
  · rw [if_pos h]; rfl
  · rw [if_neg h]; rfl
theorem rz_clS {C : String} {T : u_T} {ws : List Nat} {N : Nat} (h : rz_clB C T ws N = true) : ∀ w ∈ u_ws C T N, w ∈ rz_TS := by
  intro w hw
  obtain ⟨k, hk, rfl⟩ := List.mem_map.mp hw
  have h1 := List.all_eq_true.mp h k hk
  cases hn : rz_nth ws k with
  | none => simp [hn] at h1
  | some i =>
    simp only [hn, decide_eq_true_eq] at h1
    exact rz_inTS h1 (rz_layg C T k)
set_option maxRecDepth 100000 in
theorem rz_cl0 : rz_clB RX0 TX0 rz_cw0 6 = true := by decide +kernel
theorem rz_ck0 : rz_clOK 0 := ⟨rfl, rz_clS rz_cl0, tyX0_ok, nmX0, rz_inTS (i := 320) (by decide +kernel) rfl, rz_inTS (i := 73) (by decide +kernel) rfl⟩
set_option maxRecDepth 100000 in
theorem rz_cl1 : rz_clB RX1 TX1 rz_cw1 10 = true := by decide +kernel
theorem rz_ck1 : rz_clOK 1 := ⟨rfl, rz_clS rz_cl1, tyX1_ok, nmX1, rz_inTS (i := 91) (by decide +kernel) rfl, rz_inTS (i := 64) (by decide +kernel) rfl⟩
set_option maxRecDepth 100000 in
theorem rz_cl2 : rz_clB RX2 TX2 rz_cw2 3 = true := by decide +kernel
theorem rz_ck2 : rz_clOK 2 := ⟨rfl, rz_clS rz_cl2, tyX2_ok, nmX2, rz_inTS (i := 223) (by decide +kernel) rfl, rz_inTS (i := 70) (by decide +kernel) rfl⟩
set_option maxRecDepth 100000 in
theorem rz_cl3 : rz_clB RX3 TX3 rz_cw3 6 = true := by decide +kernel
theorem rz_ck3 : rz_clOK 3 := ⟨rfl, rz_clS rz_cl3, tyX3_ok, nmX3, rz_inTS (i := 268) (by decide +kernel) rfl, rz_inTS (i := 71) (by decide +kernel) rfl⟩
set_option maxRecDepth 100000 in
theorem rz_cl4 : rz_clB RX4 TX4 rz_cw4 6 = true := by decide +kernel
theorem rz_ck4 : rz_clOK 4 := ⟨rfl, rz_clS rz_cl4, tyX4_ok, nmX4, rz_inTS (i := 217) (by decide +kernel) rfl, rz_inTS (i := 69) (by decide +kernel) rfl⟩
set_option maxRecDepth 100000 in
theorem rz_cl5 : rz_clB RX5 TX5 rz_cw5 3 = true := by decide +kernel
theorem rz_ck5 : rz_clOK 5 := ⟨rfl, rz_clS rz_cl5, tyX5_ok, nmX5, rz_inTS (i := 193) (by decide +kernel) rfl, rz_inTS (i := 67) (by decide +kernel) rfl⟩
set_option maxRecDepth 100000 in
theorem rz_cl6 : rz_clB RX6 TX6 rz_cw6 4 = true := by decide +kernel
theorem rz_ck6 : rz_clOK 6 := ⟨rfl, rz_clS rz_cl6, tyX6_ok, nmX6, rz_inTS (i := 100) (by decide +kernel) rfl, rz_inTS (i := 65) (by decide +kernel) rfl⟩
set_option maxRecDepth 100000 in
theorem rz_cl7 : rz_clB RX7 TX7 rz_cw7 4 = true := by decide +kernel
theorem rz_ck7 : rz_clOK 7 := ⟨rfl, rz_clS rz_cl7, tyX7_ok, nmX7, rz_inTS (i := 173) (by decide +kernel) rfl, rz_inTS (i := 66) (by decide +kernel) rfl⟩
set_option maxRecDepth 100000 in
theorem rz_cl8 : rz_clB RX8 TX8 rz_cw8 4 = true := by decide +kernel
theorem rz_ck8 : rz_clOK 8 := ⟨rfl, rz_clS rz_cl8, tyX8_ok, nmX8, rz_inTS (i := 298) (by decide +kernel) rfl, rz_inTS (i := 72) (by decide +kernel) rfl⟩
set_option maxRecDepth 100000 in
theorem rz_cl9 : rz_clB RX9 TX9 rz_cw9 19 = true := by decide +kernel
theorem rz_ck9 : rz_clOK 9 := ⟨rfl, rz_clS rz_cl9, tyX9_ok, nmX9, rz_inTS (i := 526) (by decide +kernel) rfl, rz_inTS (i := 80) (by decide +kernel) rfl⟩
set_option maxRecDepth 100000 in
theorem rz_cl10 : rz_clB RX10 TX10 rz_cw10 12 = true := by decide +kernel
theorem rz_ck10 : rz_clOK 10 := ⟨rfl, rz_clS rz_cl10, tyX10_ok, nmX10, rz_inTS (i := 83) (by decide +kernel) rfl, rz_inTS (i := 63) (by decide +kernel) rfl⟩
set_option maxRecDepth 100000 in
theorem rz_cl11 : rz_clB RX11 TX11 rz_cw11 48 = true := by decide +kernel
theorem rz_ck11 : rz_clOK 11 := ⟨rfl, rz_clS rz_cl11, tyX11_ok, nmX11, rz_inTS (i := 1080) (by decide +kernel) rfl, rz_inTS (i := 74) (by decide +kernel) rfl⟩
theorem rz_clAll : ∀ a, a < 12 → rz_clOK a := by
  intro a ha
  match a, ha with
  | 0, _ => exact rz_ck0
  | 1, _ => exact rz_ck1
  | 2, _ => exact rz_ck2
  | 3, _ => exact rz_ck3
  | 4, _ => exact rz_ck4
  | 5, _ => exact rz_ck5
  | 6, _ => exact rz_ck6
  | 7, _ => exact rz_ck7
  | 8, _ => exact rz_ck8
  | 9, _ => exact rz_ck9
  | 10, _ => exact rz_ck10
  | 11, _ => exact rz_ck11
  | n + 12, h => exact absurd h (by omega)
theorem rz_tyAll : ∀ a, a < 12 → ∀ k, k < rz_N a → rz_ty a k = .int ∨ rz_ty a k = .long ∨ rz_ty a k = .boolean ∨ (∃ n, rz_ty a k = .object n) ∨ ∃ n, rz_ty a k = .array n := by
  intro a ha k hk
  have h : ∀ ty : FieldType, (match ty with
    | .int | .long | .boolean | .object _ | .array _ => true
    | _ => false) = true → ty = .int ∨ ty = .long ∨ ty = .boolean ∨ (∃ n, ty = .object n) ∨ ∃ n, ty = .array n := by
    intro ty hty
    cases ty with
    | int => exact Or.inl rfl
    | long => exact Or.inr (Or.inl rfl)
    | boolean => exact Or.inr (Or.inr (Or.inl rfl))
    | object n => exact Or.inr (Or.inr (Or.inr (Or.inl ⟨n, rfl⟩)))
    | array n => exact Or.inr (Or.inr (Or.inr (Or.inr ⟨n, rfl⟩)))
    | _ => simp at hty
  refine h _ ?_
  have hall : ((List.range 12).all fun a => (List.range (rz_N a)).all fun k => match rz_ty a k with
    | .int | .long | .boolean | .object _ | .array _ => true
    | _ => false) = true := by decide +kernel
  exact List.all_eq_true.mp (List.all_eq_true.mp hall a (List.mem_range.mpr ha)) k (List.mem_range.mpr hk)
/-! methods -/
def rz_par (m n : Nat) : Bool := decide ((parseMethodDescriptor (rz_y m).desc).map (fun d => d.parameters.length) = some n)
theorem rz_parS {m n : Nat} (h : rz_par m n = true) : ∀ sig, parseMethodDescriptor (rz_y m).desc = some sig → sig.parameters.length = n := by
  intro sig hs
  have h1 := of_decide_eq_true h
  rw [hs] at h1
  exact Option.some.inj h1
def rz_mB (m : Nat) (t : Nat × Nat × Nat × Nat) (kd : Nat) : Bool :=
  ((decide (rz_hh m = []) && decide (lw_tbl[t.1]? = some (Cond.code (rz_y m) (rz_by m) (rz_nL m) (rz_ret m)))) || decide (lw_tbl[t.1]? = some (Cond.codeWith (rz_y m) (rz_by m) (rz_nL m) (rz_ret m) (rz_hh m)))) &&
  (decide (lw_tbl[t.2.1]? = some (Cond.initialized (rz_y m).cls)) && (decide ((rz_y m).cls = rz_cn (rz_mo m)) && (plainFor (rz_y m) && (decide ((rz_y m).cls ≠ "java/lang/invoke/MethodHandle") && (decide ((rz_y m).cls ≠ "java/lang/invoke/VarHandle") && (Nat.ble (rz_nL m) 45 &&
  (bif Nat.beq kd 0 then decide (lw_tbl[t.2.2.1]? = some (Cond.static (rz_y m))) && rz_par m (rz_np m)
   else decide (lw_tbl[t.2.2.1]? = some (Cond.instanceMethod (rz_y m))) && (Nat.blt 0 (rz_np m) && (rz_par m (rz_np m - 1) && (bif Nat.beq kd 1 then decide ((rz_y m).name = "<init>") && (decide (rz_ret m = none) && (decide (rz_hh m = []) && decide (lw_tbl[t.1]? = some (Cond.code (rz_y m) (rz_by m) (rz_nL m) (rz_ret m))))) else Nat.blt (rz_mo m) 12 && decide (lw_tbl[t.2.2.2]? = some (Cond.selects (rz_cn (rz_mo m)) (rz_y m) (rz_y m)))))))))))))
def rz_mK (m : Nat) : Bool := match rz_nth rz_mw m, rz_nth rz_kd m with
  | some t, some kd => rz_mB m t kd
  | _, _ => false
set_option maxRecDepth 100000 in
theorem rz_mA1 : (List.range 27).all (fun m => rz_mK (m + 1)) = true := by decide +kernel
set_option maxRecDepth 100000 in
theorem rz_mA2 : (List.range 27).all (fun m => rz_mK (m + 28)) = true := by decide +kernel
set_option maxRecDepth 100000 in
theorem rz_mA3 : (List.range 27).all (fun m => rz_mK (m + 55)) = true := by decide +kernel
set_option maxRecDepth 100000 in
theorem rz_mA4 : (List.range 26).all (fun m => rz_mK (m + 82)) = true := by decide +kernel
theorem rz_mA {m : Nat} (h0 : 0 < m) (h1 : m < 108) : rz_mK m = true := by
  by_cases a : m < 28
  · have := List.all_eq_true.mp rz_mA1 (m - 1) (List.mem_range.mpr (by omega)); rwa [show m - 1 + 1 = m by omega] at this
  · by_cases b : m < 55
    · have := List.all_eq_true.mp rz_mA2 (m - 28) (List.mem_range.mpr (by omega)); rwa [show m - 28 + 28 = m by omega] at this
    · by_cases c : m < 82
      · have := List.all_eq_true.mp rz_mA3 (m - 55) (List.mem_range.mpr (by omega)); rwa [show m - 55 + 55 = m by omega] at this
      · have := List.all_eq_true.mp rz_mA4 (m - 82) (List.mem_range.mpr (by omega)); rwa [show m - 82 + 82 = m by omega] at this
/-- what a method's row says -/
theorem rz_mF {m : Nat} (h0 : 0 < m) (h1 : m < 108) : rz_mOK m ∧ ∃ kd, rz_nth rz_kd m = some kd ∧ ((kd = 0 ∧ Cond.static (rz_y m) ∈ rz_TS ∧ ∀ sig, parseMethodDescriptor (rz_y m).desc = some sig → sig.parameters.length = rz_np m) ∨
    (kd ≠ 0 ∧ Cond.instanceMethod (rz_y m) ∈ rz_TS ∧ (∀ sig, parseMethodDescriptor (rz_y m).desc = some sig → sig.parameters.length + 1 = rz_np m) ∧ ((kd = 1 ∧ (rz_y m).name = "<init>" ∧ rz_ret m = none ∧ rz_hh m = [] ∧ Cond.code (rz_y m) (rz_by m) (rz_nL m) (rz_ret m) ∈ rz_TS) ∨ (kd ≠ 1 ∧ rz_mo m < 12 ∧ Cond.selects (rz_cn (rz_mo m)) (rz_y m) (rz_y m) ∈ rz_TS)))) := by
  have h := rz_mA h0 h1
  unfold rz_mK at h
  cases ht : rz_nth rz_mw m with
  | none => simp [ht] at h
  | some t =>
    cases hk : rz_nth rz_kd m with
    | none => simp [ht, hk] at h
    | some kd =>
      simp only [ht, hk] at h
      unfold rz_mB at h
      rw [Bool.and_eq_true, Bool.and_eq_true, Bool.and_eq_true, Bool.and_eq_true, Bool.and_eq_true, Bool.and_eq_true, Bool.and_eq_true] at h
      obtain ⟨q1, q2, q3, q4, q5, q6, q7, q8⟩ := h
      have hcode : (rz_hh m = [] ∧ Cond.code (rz_y m) (rz_by m) (rz_nL m) (rz_ret m) ∈ rz_TS) ∨ Cond.codeWith (rz_y m) (rz_by m) (rz_nL m) (rz_ret m) (rz_hh m) ∈ rz_TS := by
        rw [Bool.or_eq_true, Bool.and_eq_true] at q1
        rcases q1 with ⟨a, b⟩ | a
        · exact Or.inl ⟨of_decide_eq_true a, rz_lwTS b rfl⟩
        · exact Or.inr (rz_lwTS a rfl)
      refine ⟨⟨hcode, rz_lwTS q2 rfl, of_decide_eq_true q3, q4, ⟨of_decide_eq_true q5, of_decide_eq_true q6⟩, Nat.ble_eq.mp q7⟩, kd, rfl, ?_⟩
      cases hz : Nat.beq kd 0 with
      | true =>
        simp only [hz, cond_true] at q8
        rw [Bool.and_eq_true] at q8
        exact Or.inl ⟨Nat.eq_of_beq_eq_true hz, rz_lwTS q8.1 rfl, rz_parS q8.2⟩
      | false =>
        simp only [hz, cond_false] at q8
        rw [Bool.and_eq_true, Bool.and_eq_true, Bool.and_eq_true] at q8
        obtain ⟨r1, r2, r3, r4⟩ := q8
        have r2 := Nat.blt_eq.mp r2
        refine Or.inr ⟨fun q => (by subst q; cases hz), rz_lwTS r1 rfl, fun sig hs => (by have := rz_parS r3 sig hs; omega), ?_⟩
        cases hy : Nat.beq kd 1 with
        | true =>
          simp only [hy, cond_true] at r4
          rw [Bool.and_eq_true, Bool.and_eq_true, Bool.and_eq_true] at r4
          exact Or.inl ⟨Nat.eq_of_beq_eq_true hy, of_decide_eq_true r4.1, of_decide_eq_true r4.2.1, of_decide_eq_true r4.2.2.1, rz_lwTS r4.2.2.2 rfl⟩
        | false =>
          simp only [hy, cond_false] at r4
          rw [Bool.and_eq_true] at r4
          exact Or.inr ⟨fun q => (by subst q; cases hy), Nat.blt_eq.mp r4.1, rz_lwTS r4.2 rfl⟩
end
section
/-! instructions -/
def rz_isT : Instr → Bool
  | .tableswitch _ _ _ _ => true
  | _ => false
def rz_okI (m pc : Nat) (q : rz_I) : Bool := (match decode (rz_by m) pc with
    | .ok (i2, n) => decide (i2 = q.1) && (Nat.beq n (rz_len q.1) || rz_isT q.1)
    | .error _ => false) &&
  (match q.1 with
    | .ldc x => rz_kp.any (fun t => Nat.beq t.1 (rz_mo m) && (Nat.beq t.2.1 x && decide (t.2.2.1 = q.2.2)))
    | .ldc_w x => rz_kp.any (fun t => Nat.beq t.1 (rz_mo m) && (Nat.beq t.2.1 x && decide (t.2.2.1 = q.2.2)))
    | .ldc2_w x => rz_lp.any (fun t => Nat.beq t.1 (rz_mo m) && (Nat.beq t.2.1 x && decide (t.2.2.1 = q.2.2)))
    | .getfield x => Nat.blt q.2.1 12 && rz_fp.any (fun t => Nat.beq t.1 (rz_mo m) && (Nat.beq t.2.1 x && (Nat.beq t.2.2.1 q.2.1 && Nat.beq t.2.2.2.1 q.2.2.toNat)))
    | .putfield x => Nat.blt q.2.1 12 && (rz_fp.any (fun t => Nat.beq t.1 (rz_mo m) && (Nat.beq t.2.1 x && (Nat.beq t.2.2.1 q.2.1 && Nat.beq t.2.2.2.1 q.2.2.toNat))) && (!(rz_T q.2.1 q.2.2.toNat).2.2.2 || (decide ((rz_y m).name = "<init>") && Nat.beq (rz_mo m) q.2.1)))
    | .new x => Nat.blt q.2.1 12 && rz_cp.any (fun t => Nat.beq t.1 (rz_mo m) && (Nat.beq t.2.1 x && Nat.beq t.2.2.1 q.2.1))
    | .anewarray x => Nat.blt q.2.1 12 && (rz_isR (q.2.1 + 4) && rz_cp.any (fun t => Nat.beq t.1 (rz_mo m) && (Nat.beq t.2.1 x && Nat.beq t.2.2.1 q.2.1)))
    | .newarray t => decide (t = .int) || (decide (t = .long) || decide (t = .boolean))
    | .invokespecial x => bif decide (q.2.2 = 1) then rz_op.any (fun t => Nat.beq t.1 (rz_mo m) && Nat.beq t.2.1 x) else Nat.blt 0 q.2.1 && (Nat.blt q.2.1 108 && (decide (rz_nth rz_kd q.2.1 = some 1) && rz_mp.any (fun t => Nat.beq t.1 (rz_mo m) && (Nat.beq t.2.1 x && Nat.beq t.2.2.1 q.2.1))))
    | .invokevirtual x => Nat.blt 0 q.2.1 && (Nat.blt q.2.1 108 && (decide (rz_nth rz_kd q.2.1 = some 2) && rz_mp.any (fun t => Nat.beq t.1 (rz_mo m) && (Nat.beq t.2.1 x && (Nat.beq t.2.2.1 q.2.1 && Nat.beq t.2.2.2.2 0)))))
    | .invokestatic x => Nat.blt 0 q.2.1 && (Nat.blt q.2.1 108 && (decide (rz_nth rz_kd q.2.1 = some 0) && rz_mp.any (fun t => Nat.beq t.1 (rz_mo m) && (Nat.beq t.2.1 x && (Nat.beq t.2.2.1 q.2.1 && Nat.beq t.2.2.2.2 0)))))
    | .ireturn => (decide (rz_ret m = some .int) && !rz_rb m) || (decide (rz_ret m = some .boolean) && rz_rb m)
    | .lreturn => decide (rz_ret m = some .long)
    | .areturn => match rz_ret m with
      | some (.object _) => true
      | _ => false
    | .return_ => decide (rz_ret m = none)
    | _ => true)
def rz_rng (m lo n : Nat) : Bool := (List.range n).all fun j => match rz_code m (lo + j) with
  | some q => rz_okI m (lo + j) q
  | none => true
theorem rz_rngS {m lo n pc : Nat} {q : rz_I} (h : rz_rng m lo n = true) (h1 : lo ≤ pc) (h2 : pc < lo + n) (hq : rz_code m pc = some q) : rz_okI m pc q = true := by
  have := List.all_eq_true.mp h (pc - lo) (List.mem_range.mpr (by omega))
  rw [show lo + (pc - lo) = pc by omega] at this
  simp only [hq] at this
  exact this
theorem rz_iAI : Cond.arrayClass .int ∈ rz_TS := rz_inTS (i := 123) (by decide +kernel) rfl
theorem rz_iAL : Cond.arrayClass .long ∈ rz_TS := rz_inTS (i := 124) (by decide +kernel) rfl
theorem rz_iAZ : Cond.arrayClass .boolean ∈ rz_TS := rz_inTS (i := 1230) (by decide +kernel) rfl
theorem rz_iAO : ∀ k, rz_ak k = true → 3 < k → Cond.arrayOver (.object (rz_cn (k - 4))) ∈ rz_TS := by
  intro k hk h3
  simp only [rz_ak, Bool.or_eq_true] at hk
  rcases hk with h | h | h | h | h | h | h | h | h <;> have e := Nat.eq_of_beq_eq_true h <;> subst e
  · omega
  · omega
  · omega
  · exact rz_inTS (i := 97) (by decide +kernel) rfl
  · exact rz_inTS (i := 99) (by decide +kernel) rfl
  · exact rz_inTS (i := 165) (by decide +kernel) rfl
  · exact rz_inTS (i := 167) (by decide +kernel) rfl
  · exact rz_inTS (i := 169) (by decide +kernel) rfl
  · exact rz_inTS (i := 171) (by decide +kernel) rfl
theorem rz_hcast : Cond.castable rz_iae rz_iae ∈ rz_TS := rz_inTS (i := 417) (by decide +kernel) rfl
theorem rz_h13 : Cond.classLink (rz_cn 12) 13 rz_iae ∈ rz_TS := rz_inTS (i := 406) (by decide +kernel) rfl
theorem rz_hoi : Cond.instanceMethod Lib.objectInit ∈ rz_TS := rz_inTS (i := 88) (by decide +kernel) rfl
theorem rz_hoc : Cond.code Lib.objectInit ⟨#[0xb1]⟩ 1 none ∈ rz_TS := rz_inTS (i := 89) (by decide +kernel) rfl
theorem rz_hhB : (List.range 108).all (fun m => decide (rz_hh m = []) || Nat.beq (rz_mo m) 12) = true := by decide +kernel
theorem rz_hhS {m : Nat} (hm : m < 108) : rz_hh m = [] ∨ Cond.classLink (rz_cn (rz_mo m)) 13 rz_iae ∈ rz_TS := by
  have h := List.all_eq_true.mp rz_hhB m (List.mem_range.mpr hm)
  simp only [Bool.or_eq_true, decide_eq_true_eq] at h
  rcases h with h | h
  · exact Or.inl h
  · rw [Nat.eq_of_beq_eq_true h]; exact Or.inr rz_h13
theorem rz_b4 {a b c d a' b' c' d' : Nat} (h : (Nat.beq a a' && (Nat.beq b b' && (Nat.beq c c' && Nat.beq d d'))) = true) : a = a' ∧ b = b' ∧ c = c' ∧ d = d' := by
  simp only [Bool.and_eq_true] at h
  exact ⟨Nat.eq_of_beq_eq_true h.1, Nat.eq_of_beq_eq_true h.2.1, Nat.eq_of_beq_eq_true h.2.2.1, Nat.eq_of_beq_eq_true h.2.2.2⟩
theorem rz_b3 {a b c a' b' c' : Nat} (h : (Nat.beq a a' && (Nat.beq b b' && Nat.beq c c')) = true) : a = a' ∧ b = b' ∧ c = c' := by
  simp only [Bool.and_eq_true] at h
  exact ⟨Nat.eq_of_beq_eq_true h.1, Nat.eq_of_beq_eq_true h.2.1, Nat.eq_of_beq_eq_true h.2.2⟩
theorem rz_fpa {m x a k : Nat} (h : rz_fp.any (fun t => Nat.beq t.1 (rz_mo m) && (Nat.beq t.2.1 x && (Nat.beq t.2.2.1 a && Nat.beq t.2.2.2.1 k))) = true) : rz_flOK (rz_mo m) x a k := by
  obtain ⟨⟨o, x', a', k', w⟩, h1, h2⟩ := List.any_eq_true.mp h
  obtain ⟨e1, e2, e3, e4⟩ := rz_b4 h2
  have h3 := rz_fp2 h1
  dsimp only at e1 e2 e3 e4
  rw [e1, e2, e3, e4] at h3
  exact h3
theorem rz_cpa {m x a : Nat} (h : rz_cp.any (fun t => Nat.beq t.1 (rz_mo m) && (Nat.beq t.2.1 x && Nat.beq t.2.2.1 a)) = true) : Cond.classLink (rz_cn (rz_mo m)) x (rz_cn a) ∈ rz_TS := by
  obtain ⟨⟨o, x', a', w⟩, h1, h2⟩ := List.any_eq_true.mp h
  obtain ⟨e1, e2, e3⟩ := rz_b3 h2
  have h3 := rz_cp2 h1
  dsimp only at e1 e2 e3
  rw [e1, e2, e3] at h3
  exact h3
theorem rz_kpa {m x : Nat} {b : Int} (h : rz_kp.any (fun t => Nat.beq t.1 (rz_mo m) && (Nat.beq t.2.1 x && decide (t.2.2.1 = b))) = true) : Cond.constant (rz_cn (rz_mo m)) x (Int32.ofInt b) ∈ rz_TS ∧ rz_r32 b = true := by
  obtain ⟨⟨o, x', b', w⟩, h1, h2⟩ := List.any_eq_true.mp h
  simp only [Bool.and_eq_true, decide_eq_true_eq] at h2
  have h3 := rz_kp2 h1
  rw [Nat.eq_of_beq_eq_true h2.1, Nat.eq_of_beq_eq_true h2.2.1, h2.2.2] at h3
  exact h3
theorem rz_lpa {m x : Nat} {b : Int} (h : rz_lp.any (fun t => Nat.beq t.1 (rz_mo m) && (Nat.beq t.2.1 x && decide (t.2.2.1 = b))) = true) : Cond.constantLong (rz_cn (rz_mo m)) x (Int64.ofInt b) ∈ rz_TS ∧ rz_r64 b = true := by
  obtain ⟨⟨o, x', b', w⟩, h1, h2⟩ := List.any_eq_true.mp h
  simp only [Bool.and_eq_true, decide_eq_true_eq] at h2
  have h3 := rz_lp2 h1
  rw [Nat.eq_of_beq_eq_true h2.1, Nat.eq_of_beq_eq_true h2.2.1, h2.2.2] at h3
  exact h3
theorem rz_mpa {m x a : Nat} (h : rz_mp.any (fun t => Nat.beq t.1 (rz_mo m) && (Nat.beq t.2.1 x && (Nat.beq t.2.2.1 a && Nat.beq t.2.2.2.2 0))) = true) : Cond.methodLink (rz_cn (rz_mo m)) x (rz_y a) ∈ rz_TS := by
  obtain ⟨⟨o, x', a', w, n⟩, h1, h2⟩ := List.any_eq_true.mp h
  obtain ⟨e1, e2, e3, e4⟩ := rz_b4 h2
  have h3 := rz_mp2 h1
  dsimp only at e1 e2 e3 e4
  rcases h3 with ⟨-, h3⟩ | ⟨h3, -⟩
  · rw [e1, e2, e3] at h3; exact h3
  · exact absurd e4 h3
theorem rz_mpb {m x a : Nat} (h : rz_mp.any (fun t => Nat.beq t.1 (rz_mo m) && (Nat.beq t.2.1 x && Nat.beq t.2.2.1 a)) = true) : Cond.methodLink (rz_cn (rz_mo m)) x (rz_y a) ∈ rz_TS ∨ ∃ host, Cond.methodLinkNest (rz_cn (rz_mo m)) x (rz_y a) host ∈ rz_TS := by
  obtain ⟨⟨o, x', a', w, n⟩, h1, h2⟩ := List.any_eq_true.mp h
  obtain ⟨e1, e2, e3⟩ := rz_b3 h2
  have h3 := rz_mp2 h1
  dsimp only at e1 e2 e3
  rw [e1, e2, e3] at h3
  rcases h3 with ⟨-, h3⟩ | ⟨-, h3⟩
  · exact Or.inl h3
  · exact Or.inr ⟨_, h3⟩
theorem rz_okS {m pc : Nat} {ins : Instr} {a : Nat} {b : Int} (hm : m < 108) (h : rz_okI m pc (ins, a, b) = true) : rz_sOK m pc ins a b := by
  unfold rz_okI at h
  rw [Bool.and_eq_true] at h
  obtain ⟨h1, h2⟩ := h
  refine ⟨?_, rz_hhS hm, ?_⟩
  · cases hd : decode (rz_by m) pc with
    | error x => simp [hd] at h1
    | ok q =>
      obtain ⟨i2, n⟩ := q
      simp only [hd, Bool.and_eq_true, decide_eq_true_eq, Bool.or_eq_true] at h1
      obtain ⟨rfl, h1⟩ := h1
      refine ⟨n, rfl, ?_⟩
      rcases h1 with h1 | h1
      · exact Or.inl (Nat.eq_of_beq_eq_true h1)
      · right
        cases i2 with
        | tableswitch d lo hi offs => exact ⟨d, lo, hi, offs, rfl⟩
        | _ => cases h1
  · cases ins with
    | ldc x => exact rz_kpa h2
    | ldc_w x => exact rz_kpa h2
    | ldc2_w x => exact rz_lpa h2
    | getfield x =>
      dsimp only at h2 ⊢
      rw [Bool.and_eq_true] at h2
      exact ⟨rz_clAll a (Nat.blt_eq.mp h2.1), rz_fpa h2.2⟩
    | putfield x =>
      dsimp only at h2 ⊢
      rw [Bool.and_eq_true, Bool.and_eq_true] at h2
      refine ⟨rz_clAll a (Nat.blt_eq.mp h2.1), rz_fpa h2.2.1, fun hf => ?_⟩
      have h3 := h2.2.2
      rw [hf] at h3
      simp only [Bool.not_true, Bool.false_or, Bool.and_eq_true, decide_eq_true_eq] at h3
      exact ⟨h3.1, by rw [Nat.eq_of_beq_eq_true h3.2]⟩
    | new x =>
      dsimp only at h2 ⊢
      rw [Bool.and_eq_true] at h2
      exact ⟨rz_clAll a (Nat.blt_eq.mp h2.1), rz_tyAll a (Nat.blt_eq.mp h2.1), rz_cpa h2.2⟩
    | anewarray x =>
      dsimp only at h2 ⊢
      rw [Bool.and_eq_true, Bool.and_eq_true] at h2
      have h3 := rz_isRs h2.2.1
      refine ⟨Nat.blt_eq.mp h2.1, h3.2.2, rz_cpa h2.2.2, ?_⟩
      have h4 := rz_iAO (a + 4) h3.2.2 (by omega)
      rwa [show a + 4 - 4 = a by omega] at h4
    | newarray t =>
      dsimp only at h2 ⊢
      simp only [Bool.or_eq_true, decide_eq_true_eq] at h2
      rcases h2 with rfl | rfl | rfl
      · exact rz_iAI
      · exact rz_iAL
      · exact rz_iAZ
    | invokespecial x =>
      dsimp only at h2 ⊢
      by_cases hb : b = 1
      · left
        simp only [hb, decide_true, cond_true] at h2
        obtain ⟨⟨o, x', w⟩, g1, g2⟩ := List.any_eq_true.mp h2
        simp only [Bool.and_eq_true] at g2
        have g3 := rz_op2 g1
        rw [Nat.eq_of_beq_eq_true g2.1, Nat.eq_of_beq_eq_true g2.2] at g3
        exact ⟨hb, g3, rz_hoi, rz_hoc⟩
      · right
        simp only [hb, decide_false, cond_false] at h2
        rw [Bool.and_eq_true, Bool.and_eq_true, Bool.and_eq_true] at h2
        obtain ⟨g1, g2, g3, g4⟩ := h2
        obtain ⟨f1, kd, f2, f3⟩ := rz_mF (Nat.blt_eq.mp g1) (Nat.blt_eq.mp g2)
        have ek : kd = 1 := Option.some.inj (f2.symm.trans (of_decide_eq_true g3))
        subst ek
        rcases f3 with ⟨f3, -⟩ | ⟨-, f4, f5, f6⟩
        · cases f3
        · rcases f6 with ⟨-, f7, f8, f9, f10⟩ | ⟨f6, -⟩
          · exact ⟨hb, f1, f7, f8, f9, f10, rz_mpb g4, f4, f5⟩
          · exact absurd rfl f6
    | invokevirtual x =>
      dsimp only at h2 ⊢
      rw [Bool.and_eq_true, Bool.and_eq_true, Bool.and_eq_true] at h2
      obtain ⟨g1, g2, g3, g4⟩ := h2
      obtain ⟨f1, kd, f2, f3⟩ := rz_mF (Nat.blt_eq.mp g1) (Nat.blt_eq.mp g2)
      have ek : kd = 2 := Option.some.inj (f2.symm.trans (of_decide_eq_true g3))
      subst ek
      rcases f3 with ⟨f3, -⟩ | ⟨-, f4, f5, f6⟩
      · cases f3
      · rcases f6 with ⟨f6, -⟩ | ⟨-, f7, f8⟩
        · cases f6
        · exact ⟨f1, rz_clAll _ f7, rz_mpa g4, f4, f8, f5⟩
    | invokestatic x =>
      dsimp only at h2 ⊢
      rw [Bool.and_eq_true, Bool.and_eq_true, Bool.and_eq_true] at h2
      obtain ⟨g1, g2, g3, g4⟩ := h2
      obtain ⟨f1, kd, f2, f3⟩ := rz_mF (Nat.blt_eq.mp g1) (Nat.blt_eq.mp g2)
      have ek : kd = 0 := Option.some.inj (f2.symm.trans (of_decide_eq_true g3))
      subst ek
      rcases f3 with ⟨-, f4, f5⟩ | ⟨f3, -⟩
      · exact ⟨f1, rz_mpa g4, f4, f5⟩
      · exact absurd rfl f3
    | ireturn =>
      dsimp only at h2 ⊢
      simp only [Bool.or_eq_true, Bool.and_eq_true, decide_eq_true_eq, Bool.not_eq_true'] at h2
      exact h2
    | lreturn => exact of_decide_eq_true h2
    | areturn =>
      dsimp only at h2 ⊢
      cases hr : rz_ret m with
      | none => simp [hr] at h2
      | some ty =>
        cases ty with
        | object n => exact ⟨n, rfl⟩
        | _ => simp [hr] at h2
    | return_ => exact of_decide_eq_true h2
    | _ => exact trivial
end
section
/-! Every instruction of the table is what the bytes say, and its entry what the words say. -/
set_option maxRecDepth 100000 in
theorem rz_R0_0 : rz_rng 0 0 80 = true := by decide +kernel
set_option maxRecDepth 100000 in
theorem rz_R0_1 : rz_rng 0 80 80 = true := by decide +kernel
set_option maxRecDepth 100000 in
theorem rz_R0_2 : rz_rng 0 160 80 = true := by decide +kernel
set_option maxRecDepth 100000 in
theorem rz_R0_3 : rz_rng 0 240 80 = true := by decide +kernel
set_option maxRecDepth 100000 in
theorem rz_R0_4 : rz_rng 0 320 80 = true := by decide +kernel
set_option maxRecDepth 100000 in
theorem rz_R0_5 : rz_rng 0 400 80 = true := by decide +kernel
set_option maxRecDepth 100000 in
theorem rz_R0_6 : rz_rng 0 480 80 = true := by decide +kernel
set_option maxRecDepth 100000 in
theorem rz_R0_7 : rz_rng 0 560 80 = true := by decide +kernel
set_option maxRecDepth 100000 in
theorem rz_R0_8 : rz_rng 0 640 80 = true := by decide +kernel
set_option maxRecDepth 100000 in
theorem rz_R0_9 : rz_rng 0 720 80 = true := by decide +kernel
set_option maxRecDepth 100000 in
theorem rz_R0_10 : rz_rng 0 800 80 = true := by decide +kernel
set_option maxRecDepth 100000 in
theorem rz_R0_11 : rz_rng 0 880 80 = true := by decide +kernel
set_option maxRecDepth 100000 in
theorem rz_R0_12 : rz_rng 0 960 80 = true := by decide +kernel
set_option maxRecDepth 100000 in
theorem rz_R0_13 : rz_rng 0 1040 80 = true := by decide +kernel
set_option maxRecDepth 100000 in
theorem rz_R0_14 : rz_rng 0 1120 80 = true := by decide +kernel
set_option maxRecDepth 100000 in
theorem rz_R0_15 : rz_rng 0 1200 80 = true := by decide +kernel
set_option maxRecDepth 100000 in
theorem rz_R0_16 : rz_rng 0 1280 80 = true := by decide +kernel
set_option maxRecDepth 100000 in
theorem rz_R0_17 : rz_rng 0 1360 80 = true := by decide +kernel
set_option maxRecDepth 100000 in
theorem rz_R0_18 : rz_rng 0 1440 80 = true := by decide +kernel
set_option maxRecDepth 100000 in
theorem rz_R0_19 : rz_rng 0 1520 80 = true := by decide +kernel
set_option maxRecDepth 100000 in
theorem rz_R0_20 : rz_rng 0 1600 24 = true := by decide +kernel
theorem rz_ok0 {pc : Nat} {q : rz_I} (h : pc < 1624) (hq : rz_code 0 pc = some q) : rz_okI 0 pc q = true := by
  rcases Nat.lt_or_ge pc 80 with c0 | c0
  · exact rz_rngS rz_R0_0 (by omega) (by omega) hq
  rcases Nat.lt_or_ge pc 160 with c1 | c1
  · exact rz_rngS rz_R0_1 (by omega) (by omega) hq
  rcases Nat.lt_or_ge pc 240 with c2 | c2
  · exact rz_rngS rz_R0_2 (by omega) (by omega) hq
  rcases Nat.lt_or_ge pc 320 with c3 | c3
  · exact rz_rngS rz_R0_3 (by omega) (by omega) hq
  rcases Nat.lt_or_ge pc 400 with c4 | c4
  · exact rz_rngS rz_R0_4 (by omega) (by omega) hq
  rcases Nat.lt_or_ge pc 480 with c5 | c5
  · exact rz_rngS rz_R0_5 (by omega) (by omega) hq
  rcases Nat.lt_or_ge pc 560 with c6 | c6
  · exact rz_rngS rz_R0_6 (by omega) (by omega) hq
  rcases Nat.lt_or_ge pc 640 with c7 | c7
  · exact rz_rngS rz_R0_7 (by omega) (by omega) hq
  rcases Nat.lt_or_ge pc 720 with c8 | c8
  · exact rz_rngS rz_R0_8 (by omega) (by omega) hq
  rcases Nat.lt_or_ge pc 800 with c9 | c9
  · exact rz_rngS rz_R0_9 (by omega) (by omega) hq
  rcases Nat.lt_or_ge pc 880 with c10 | c10
  · exact rz_rngS rz_R0_10 (by omega) (by omega) hq
  rcases Nat.lt_or_ge pc 960 with c11 | c11
  · exact rz_rngS rz_R0_11 (by omega) (by omega) hq
  rcases Nat.lt_or_ge pc 1040 with c12 | c12
  · exact rz_rngS rz_R0_12 (by omega) (by omega) hq
  rcases Nat.lt_or_ge pc 1120 with c13 | c13
  · exact rz_rngS rz_R0_13 (by omega) (by omega) hq
  rcases Nat.lt_or_ge pc 1200 with c14 | c14
  · exact rz_rngS rz_R0_14 (by omega) (by omega) hq
  rcases Nat.lt_or_ge pc 1280 with c15 | c15
  · exact rz_rngS rz_R0_15 (by omega) (by omega) hq
  rcases Nat.lt_or_ge pc 1360 with c16 | c16
  · exact rz_rngS rz_R0_16 (by omega) (by omega) hq
  rcases Nat.lt_or_ge pc 1440 with c17 | c17
  · exact rz_rngS rz_R0_17 (by omega) (by omega) hq
  rcases Nat.lt_or_ge pc 1520 with c18 | c18
  · exact rz_rngS rz_R0_18 (by omega) (by omega) hq
  rcases Nat.lt_or_ge pc 1600 with c19 | c19
  · exact rz_rngS rz_R0_19 (by omega) (by omega) hq
  exact rz_rngS rz_R0_20 (by omega) (by omega) hq
set_option maxRecDepth 100000 in
theorem rz_R1_0 : rz_rng 1 0 11 = true := by decide +kernel
theorem rz_ok1 {pc : Nat} {q : rz_I} (h : pc < 11) (hq : rz_code 1 pc = some q) : rz_okI 1 pc q = true := by
  exact rz_rngS rz_R1_0 (by omega) (by omega) hq
set_option maxRecDepth 100000 in
theorem rz_R2_0 : rz_rng 2 0 11 = true := by decide +kernel
theorem rz_ok2 {pc : Nat} {q : rz_I} (h : pc < 11) (hq : rz_code 2 pc = some q) : rz_okI 2 pc q = true := by
  exact rz_rngS rz_R2_0 (by omega) (by omega) hq
set_option maxRecDepth 100000 in
theorem rz_R3_0 : rz_rng 3 0 12 = true := by decide +kernel
theorem rz_ok3 {pc : Nat} {q : rz_I} (h : pc < 12) (hq : rz_code 3 pc = some q) : rz_okI 3 pc q = true := by
  exact rz_rngS rz_R3_0 (by omega) (by omega) hq
set_option maxRecDepth 100000 in
theorem rz_R4_0 : rz_rng 4 0 19 = true := by decide +kernel
theorem rz_ok4 {pc : Nat} {q : rz_I} (h : pc < 19) (hq : rz_code 4 pc = some q) : rz_okI 4 pc q = true := by
  exact rz_rngS rz_R4_0 (by omega) (by omega) hq
set_option maxRecDepth 100000 in
theorem rz_R5_0 : rz_rng 5 0 24 = true := by decide +kernel
theorem rz_ok5 {pc : Nat} {q : rz_I} (h : pc < 24) (hq : rz_code 5 pc = some q) : rz_okI 5 pc q = true := by
  exact rz_rngS rz_R5_0 (by omega) (by omega) hq
set_option maxRecDepth 100000 in
theorem rz_R6_0 : rz_rng 6 0 14 = true := by decide +kernel
theorem rz_ok6 {pc : Nat} {q : rz_I} (h : pc < 14) (hq : rz_code 6 pc = some q) : rz_okI 6 pc q = true := by
  exact rz_rngS rz_R6_0 (by omega) (by omega) hq
set_option maxRecDepth 100000 in
theorem rz_R7_0 : rz_rng 7 0 16 = true := by decide +kernel
theorem rz_ok7 {pc : Nat} {q : rz_I} (h : pc < 16) (hq : rz_code 7 pc = some q) : rz_okI 7 pc q = true := by
  exact rz_rngS rz_R7_0 (by omega) (by omega) hq
set_option maxRecDepth 100000 in
theorem rz_R8_0 : rz_rng 8 0 17 = true := by decide +kernel
theorem rz_ok8 {pc : Nat} {q : rz_I} (h : pc < 17) (hq : rz_code 8 pc = some q) : rz_okI 8 pc q = true := by
  exact rz_rngS rz_R8_0 (by omega) (by omega) hq
set_option maxRecDepth 100000 in
theorem rz_R9_0 : rz_rng 9 0 20 = true := by decide +kernel
theorem rz_ok9 {pc : Nat} {q : rz_I} (h : pc < 20) (hq : rz_code 9 pc = some q) : rz_okI 9 pc q = true := by
  exact rz_rngS rz_R9_0 (by omega) (by omega) hq
set_option maxRecDepth 100000 in
theorem rz_R10_0 : rz_rng 10 0 17 = true := by decide +kernel
theorem rz_ok10 {pc : Nat} {q : rz_I} (h : pc < 17) (hq : rz_code 10 pc = some q) : rz_okI 10 pc q = true := by
  exact rz_rngS rz_R10_0 (by omega) (by omega) hq
set_option maxRecDepth 100000 in
theorem rz_R11_0 : rz_rng 11 0 15 = true := by decide +kernel
theorem rz_ok11 {pc : Nat} {q : rz_I} (h : pc < 15) (hq : rz_code 11 pc = some q) : rz_okI 11 pc q = true := by
  exact rz_rngS rz_R11_0 (by omega) (by omega) hq
set_option maxRecDepth 100000 in
theorem rz_R12_0 : rz_rng 12 0 19 = true := by decide +kernel
theorem rz_ok12 {pc : Nat} {q : rz_I} (h : pc < 19) (hq : rz_code 12 pc = some q) : rz_okI 12 pc q = true := by
  exact rz_rngS rz_R12_0 (by omega) (by omega) hq
set_option maxRecDepth 100000 in
theorem rz_R13_0 : rz_rng 13 0 19 = true := by decide +kernel
theorem rz_ok13 {pc : Nat} {q : rz_I} (h : pc < 19) (hq : rz_code 13 pc = some q) : rz_okI 13 pc q = true := by
  exact rz_rngS rz_R13_0 (by omega) (by omega) hq
set_option maxRecDepth 100000 in
theorem rz_R14_0 : rz_rng 14 0 23 = true := by decide +kernel
theorem rz_ok14 {pc : Nat} {q : rz_I} (h : pc < 23) (hq : rz_code 14 pc = some q) : rz_okI 14 pc q = true := by
  exact rz_rngS rz_R14_0 (by omega) (by omega) hq
set_option maxRecDepth 100000 in
theorem rz_R15_0 : rz_rng 15 0 27 = true := by decide +kernel
theorem rz_ok15 {pc : Nat} {q : rz_I} (h : pc < 27) (hq : rz_code 15 pc = some q) : rz_okI 15 pc q = true := by
  exact rz_rngS rz_R15_0 (by omega) (by omega) hq
set_option maxRecDepth 100000 in
theorem rz_R16_0 : rz_rng 16 0 16 = true := by decide +kernel
theorem rz_ok16 {pc : Nat} {q : rz_I} (h : pc < 16) (hq : rz_code 16 pc = some q) : rz_okI 16 pc q = true := by
  exact rz_rngS rz_R16_0 (by omega) (by omega) hq
set_option maxRecDepth 100000 in
theorem rz_R17_0 : rz_rng 17 0 15 = true := by decide +kernel
theorem rz_ok17 {pc : Nat} {q : rz_I} (h : pc < 15) (hq : rz_code 17 pc = some q) : rz_okI 17 pc q = true := by
  exact rz_rngS rz_R17_0 (by omega) (by omega) hq
set_option maxRecDepth 100000 in
theorem rz_R18_0 : rz_rng 18 0 17 = true := by decide +kernel
theorem rz_ok18 {pc : Nat} {q : rz_I} (h : pc < 17) (hq : rz_code 18 pc = some q) : rz_okI 18 pc q = true := by
  exact rz_rngS rz_R18_0 (by omega) (by omega) hq
set_option maxRecDepth 100000 in
theorem rz_R19_0 : rz_rng 19 0 19 = true := by decide +kernel
theorem rz_ok19 {pc : Nat} {q : rz_I} (h : pc < 19) (hq : rz_code 19 pc = some q) : rz_okI 19 pc q = true := by
  exact rz_rngS rz_R19_0 (by omega) (by omega) hq
set_option maxRecDepth 100000 in
theorem rz_R20_0 : rz_rng 20 0 19 = true := by decide +kernel
theorem rz_ok20 {pc : Nat} {q : rz_I} (h : pc < 19) (hq : rz_code 20 pc = some q) : rz_okI 20 pc q = true := by
  exact rz_rngS rz_R20_0 (by omega) (by omega) hq
set_option maxRecDepth 100000 in
theorem rz_R21_0 : rz_rng 21 0 15 = true := by decide +kernel
theorem rz_ok21 {pc : Nat} {q : rz_I} (h : pc < 15) (hq : rz_code 21 pc = some q) : rz_okI 21 pc q = true := by
  exact rz_rngS rz_R21_0 (by omega) (by omega) hq
set_option maxRecDepth 100000 in
theorem rz_R22_0 : rz_rng 22 0 18 = true := by decide +kernel
theorem rz_ok22 {pc : Nat} {q : rz_I} (h : pc < 18) (hq : rz_code 22 pc = some q) : rz_okI 22 pc q = true := by
  exact rz_rngS rz_R22_0 (by omega) (by omega) hq
set_option maxRecDepth 100000 in
theorem rz_R23_0 : rz_rng 23 0 17 = true := by decide +kernel
theorem rz_ok23 {pc : Nat} {q : rz_I} (h : pc < 17) (hq : rz_code 23 pc = some q) : rz_okI 23 pc q = true := by
  exact rz_rngS rz_R23_0 (by omega) (by omega) hq
set_option maxRecDepth 100000 in
theorem rz_R24_0 : rz_rng 24 0 17 = true := by decide +kernel
theorem rz_ok24 {pc : Nat} {q : rz_I} (h : pc < 17) (hq : rz_code 24 pc = some q) : rz_okI 24 pc q = true := by
  exact rz_rngS rz_R24_0 (by omega) (by omega) hq
set_option maxRecDepth 100000 in
theorem rz_R25_0 : rz_rng 25 0 41 = true := by decide +kernel
theorem rz_ok25 {pc : Nat} {q : rz_I} (h : pc < 41) (hq : rz_code 25 pc = some q) : rz_okI 25 pc q = true := by
  exact rz_rngS rz_R25_0 (by omega) (by omega) hq
set_option maxRecDepth 100000 in
theorem rz_R26_0 : rz_rng 26 0 91 = true := by decide +kernel
theorem rz_ok26 {pc : Nat} {q : rz_I} (h : pc < 91) (hq : rz_code 26 pc = some q) : rz_okI 26 pc q = true := by
  exact rz_rngS rz_R26_0 (by omega) (by omega) hq
set_option maxRecDepth 100000 in
theorem rz_R27_0 : rz_rng 27 0 63 = true := by decide +kernel
theorem rz_ok27 {pc : Nat} {q : rz_I} (h : pc < 63) (hq : rz_code 27 pc = some q) : rz_okI 27 pc q = true := by
  exact rz_rngS rz_R27_0 (by omega) (by omega) hq
set_option maxRecDepth 100000 in
theorem rz_R28_0 : rz_rng 28 0 17 = true := by decide +kernel
theorem rz_ok28 {pc : Nat} {q : rz_I} (h : pc < 17) (hq : rz_code 28 pc = some q) : rz_okI 28 pc q = true := by
  exact rz_rngS rz_R28_0 (by omega) (by omega) hq
set_option maxRecDepth 100000 in
theorem rz_R29_0 : rz_rng 29 0 120 = true := by decide +kernel
set_option maxRecDepth 100000 in
theorem rz_R29_1 : rz_rng 29 120 1 = true := by decide +kernel
theorem rz_ok29 {pc : Nat} {q : rz_I} (h : pc < 121) (hq : rz_code 29 pc = some q) : rz_okI 29 pc q = true := by
  rcases Nat.lt_or_ge pc 120 with c0 | c0
  · exact rz_rngS rz_R29_0 (by omega) (by omega) hq
  exact rz_rngS rz_R29_1 (by omega) (by omega) hq
set_option maxRecDepth 100000 in
theorem rz_R30_0 : rz_rng 30 0 16 = true := by decide +kernel
theorem rz_ok30 {pc : Nat} {q : rz_I} (h : pc < 16) (hq : rz_code 30 pc = some q) : rz_okI 30 pc q = true := by
  exact rz_rngS rz_R30_0 (by omega) (by omega) hq
set_option maxRecDepth 100000 in
theorem rz_R31_0 : rz_rng 31 0 53 = true := by decide +kernel
theorem rz_ok31 {pc : Nat} {q : rz_I} (h : pc < 53) (hq : rz_code 31 pc = some q) : rz_okI 31 pc q = true := by
  exact rz_rngS rz_R31_0 (by omega) (by omega) hq
set_option maxRecDepth 100000 in
theorem rz_R32_0 : rz_rng 32 0 106 = true := by decide +kernel
theorem rz_ok32 {pc : Nat} {q : rz_I} (h : pc < 106) (hq : rz_code 32 pc = some q) : rz_okI 32 pc q = true := by
  exact rz_rngS rz_R32_0 (by omega) (by omega) hq
set_option maxRecDepth 100000 in
theorem rz_R33_0 : rz_rng 33 0 120 = true := by decide +kernel
set_option maxRecDepth 100000 in
theorem rz_R33_1 : rz_rng 33 120 78 = true := by decide +kernel
theorem rz_ok33 {pc : Nat} {q : rz_I} (h : pc < 198) (hq : rz_code 33 pc = some q) : rz_okI 33 pc q = true := by
  rcases Nat.lt_or_ge pc 120 with c0 | c0
  · exact rz_rngS rz_R33_0 (by omega) (by omega) hq
  exact rz_rngS rz_R33_1 (by omega) (by omega) hq
set_option maxRecDepth 100000 in
theorem rz_R34_0 : rz_rng 34 0 13 = true := by decide +kernel
theorem rz_ok34 {pc : Nat} {q : rz_I} (h : pc < 13) (hq : rz_code 34 pc = some q) : rz_okI 34 pc q = true := by
  exact rz_rngS rz_R34_0 (by omega) (by omega) hq
set_option maxRecDepth 100000 in
theorem rz_R35_0 : rz_rng 35 0 19 = true := by decide +kernel
theorem rz_ok35 {pc : Nat} {q : rz_I} (h : pc < 19) (hq : rz_code 35 pc = some q) : rz_okI 35 pc q = true := by
  exact rz_rngS rz_R35_0 (by omega) (by omega) hq
set_option maxRecDepth 100000 in
theorem rz_R36_0 : rz_rng 36 0 95 = true := by decide +kernel
theorem rz_ok36 {pc : Nat} {q : rz_I} (h : pc < 95) (hq : rz_code 36 pc = some q) : rz_okI 36 pc q = true := by
  exact rz_rngS rz_R36_0 (by omega) (by omega) hq
set_option maxRecDepth 100000 in
theorem rz_R37_0 : rz_rng 37 0 114 = true := by decide +kernel
theorem rz_ok37 {pc : Nat} {q : rz_I} (h : pc < 114) (hq : rz_code 37 pc = some q) : rz_okI 37 pc q = true := by
  exact rz_rngS rz_R37_0 (by omega) (by omega) hq
set_option maxRecDepth 100000 in
theorem rz_R38_0 : rz_rng 38 0 19 = true := by decide +kernel
theorem rz_ok38 {pc : Nat} {q : rz_I} (h : pc < 19) (hq : rz_code 38 pc = some q) : rz_okI 38 pc q = true := by
  exact rz_rngS rz_R38_0 (by omega) (by omega) hq
set_option maxRecDepth 100000 in
theorem rz_R39_0 : rz_rng 39 0 66 = true := by decide +kernel
theorem rz_ok39 {pc : Nat} {q : rz_I} (h : pc < 66) (hq : rz_code 39 pc = some q) : rz_okI 39 pc q = true := by
  exact rz_rngS rz_R39_0 (by omega) (by omega) hq
set_option maxRecDepth 100000 in
theorem rz_R40_0 : rz_rng 40 0 55 = true := by decide +kernel
theorem rz_ok40 {pc : Nat} {q : rz_I} (h : pc < 55) (hq : rz_code 40 pc = some q) : rz_okI 40 pc q = true := by
  exact rz_rngS rz_R40_0 (by omega) (by omega) hq
set_option maxRecDepth 100000 in
theorem rz_R41_0 : rz_rng 41 0 59 = true := by decide +kernel
theorem rz_ok41 {pc : Nat} {q : rz_I} (h : pc < 59) (hq : rz_code 41 pc = some q) : rz_okI 41 pc q = true := by
  exact rz_rngS rz_R41_0 (by omega) (by omega) hq
set_option maxRecDepth 100000 in
theorem rz_R42_0 : rz_rng 42 0 30 = true := by decide +kernel
theorem rz_ok42 {pc : Nat} {q : rz_I} (h : pc < 30) (hq : rz_code 42 pc = some q) : rz_okI 42 pc q = true := by
  exact rz_rngS rz_R42_0 (by omega) (by omega) hq
set_option maxRecDepth 100000 in
theorem rz_R43_0 : rz_rng 43 0 13 = true := by decide +kernel
theorem rz_ok43 {pc : Nat} {q : rz_I} (h : pc < 13) (hq : rz_code 43 pc = some q) : rz_okI 43 pc q = true := by
  exact rz_rngS rz_R43_0 (by omega) (by omega) hq
set_option maxRecDepth 100000 in
theorem rz_R44_0 : rz_rng 44 0 33 = true := by decide +kernel
theorem rz_ok44 {pc : Nat} {q : rz_I} (h : pc < 33) (hq : rz_code 44 pc = some q) : rz_okI 44 pc q = true := by
  exact rz_rngS rz_R44_0 (by omega) (by omega) hq
set_option maxRecDepth 100000 in
theorem rz_R45_0 : rz_rng 45 0 60 = true := by decide +kernel
theorem rz_ok45 {pc : Nat} {q : rz_I} (h : pc < 60) (hq : rz_code 45 pc = some q) : rz_okI 45 pc q = true := by
  exact rz_rngS rz_R45_0 (by omega) (by omega) hq
set_option maxRecDepth 100000 in
theorem rz_R46_0 : rz_rng 46 0 28 = true := by decide +kernel
theorem rz_ok46 {pc : Nat} {q : rz_I} (h : pc < 28) (hq : rz_code 46 pc = some q) : rz_okI 46 pc q = true := by
  exact rz_rngS rz_R46_0 (by omega) (by omega) hq
set_option maxRecDepth 100000 in
theorem rz_R47_0 : rz_rng 47 0 13 = true := by decide +kernel
theorem rz_ok47 {pc : Nat} {q : rz_I} (h : pc < 13) (hq : rz_code 47 pc = some q) : rz_okI 47 pc q = true := by
  exact rz_rngS rz_R47_0 (by omega) (by omega) hq
set_option maxRecDepth 100000 in
theorem rz_R48_0 : rz_rng 48 0 56 = true := by decide +kernel
theorem rz_ok48 {pc : Nat} {q : rz_I} (h : pc < 56) (hq : rz_code 48 pc = some q) : rz_okI 48 pc q = true := by
  exact rz_rngS rz_R48_0 (by omega) (by omega) hq
set_option maxRecDepth 100000 in
theorem rz_R49_0 : rz_rng 49 0 31 = true := by decide +kernel
theorem rz_ok49 {pc : Nat} {q : rz_I} (h : pc < 31) (hq : rz_code 49 pc = some q) : rz_okI 49 pc q = true := by
  exact rz_rngS rz_R49_0 (by omega) (by omega) hq
set_option maxRecDepth 100000 in
theorem rz_R50_0 : rz_rng 50 0 81 = true := by decide +kernel
theorem rz_ok50 {pc : Nat} {q : rz_I} (h : pc < 81) (hq : rz_code 50 pc = some q) : rz_okI 50 pc q = true := by
  exact rz_rngS rz_R50_0 (by omega) (by omega) hq
set_option maxRecDepth 100000 in
theorem rz_R51_0 : rz_rng 51 0 7 = true := by decide +kernel
theorem rz_ok51 {pc : Nat} {q : rz_I} (h : pc < 7) (hq : rz_code 51 pc = some q) : rz_okI 51 pc q = true := by
  exact rz_rngS rz_R51_0 (by omega) (by omega) hq
set_option maxRecDepth 100000 in
theorem rz_R52_0 : rz_rng 52 0 89 = true := by decide +kernel
theorem rz_ok52 {pc : Nat} {q : rz_I} (h : pc < 89) (hq : rz_code 52 pc = some q) : rz_okI 52 pc q = true := by
  exact rz_rngS rz_R52_0 (by omega) (by omega) hq
set_option maxRecDepth 100000 in
theorem rz_R53_0 : rz_rng 53 0 65 = true := by decide +kernel
theorem rz_ok53 {pc : Nat} {q : rz_I} (h : pc < 65) (hq : rz_code 53 pc = some q) : rz_okI 53 pc q = true := by
  exact rz_rngS rz_R53_0 (by omega) (by omega) hq
set_option maxRecDepth 100000 in
theorem rz_R54_0 : rz_rng 54 0 31 = true := by decide +kernel
theorem rz_ok54 {pc : Nat} {q : rz_I} (h : pc < 31) (hq : rz_code 54 pc = some q) : rz_okI 54 pc q = true := by
  exact rz_rngS rz_R54_0 (by omega) (by omega) hq
set_option maxRecDepth 100000 in
theorem rz_R55_0 : rz_rng 55 0 120 = true := by decide +kernel
set_option maxRecDepth 100000 in
theorem rz_R55_1 : rz_rng 55 120 39 = true := by decide +kernel
theorem rz_ok55 {pc : Nat} {q : rz_I} (h : pc < 159) (hq : rz_code 55 pc = some q) : rz_okI 55 pc q = true := by
  rcases Nat.lt_or_ge pc 120 with c0 | c0
  · exact rz_rngS rz_R55_0 (by omega) (by omega) hq
  exact rz_rngS rz_R55_1 (by omega) (by omega) hq
set_option maxRecDepth 100000 in
theorem rz_R56_0 : rz_rng 56 0 91 = true := by decide +kernel
theorem rz_ok56 {pc : Nat} {q : rz_I} (h : pc < 91) (hq : rz_code 56 pc = some q) : rz_okI 56 pc q = true := by
  exact rz_rngS rz_R56_0 (by omega) (by omega) hq
set_option maxRecDepth 100000 in
theorem rz_R57_0 : rz_rng 57 0 41 = true := by decide +kernel
theorem rz_ok57 {pc : Nat} {q : rz_I} (h : pc < 41) (hq : rz_code 57 pc = some q) : rz_okI 57 pc q = true := by
  exact rz_rngS rz_R57_0 (by omega) (by omega) hq
set_option maxRecDepth 100000 in
theorem rz_R58_0 : rz_rng 58 0 68 = true := by decide +kernel
theorem rz_ok58 {pc : Nat} {q : rz_I} (h : pc < 68) (hq : rz_code 58 pc = some q) : rz_okI 58 pc q = true := by
  exact rz_rngS rz_R58_0 (by omega) (by omega) hq
set_option maxRecDepth 100000 in
theorem rz_R59_0 : rz_rng 59 0 41 = true := by decide +kernel
theorem rz_ok59 {pc : Nat} {q : rz_I} (h : pc < 41) (hq : rz_code 59 pc = some q) : rz_okI 59 pc q = true := by
  exact rz_rngS rz_R59_0 (by omega) (by omega) hq
set_option maxRecDepth 100000 in
theorem rz_R60_0 : rz_rng 60 0 76 = true := by decide +kernel
theorem rz_ok60 {pc : Nat} {q : rz_I} (h : pc < 76) (hq : rz_code 60 pc = some q) : rz_okI 60 pc q = true := by
  exact rz_rngS rz_R60_0 (by omega) (by omega) hq
set_option maxRecDepth 100000 in
theorem rz_R61_0 : rz_rng 61 0 18 = true := by decide +kernel
theorem rz_ok61 {pc : Nat} {q : rz_I} (h : pc < 18) (hq : rz_code 61 pc = some q) : rz_okI 61 pc q = true := by
  exact rz_rngS rz_R61_0 (by omega) (by omega) hq
set_option maxRecDepth 100000 in
theorem rz_R62_0 : rz_rng 62 0 120 = true := by decide +kernel
set_option maxRecDepth 100000 in
theorem rz_R62_1 : rz_rng 62 120 120 = true := by decide +kernel
set_option maxRecDepth 100000 in
theorem rz_R62_2 : rz_rng 62 240 120 = true := by decide +kernel
set_option maxRecDepth 100000 in
theorem rz_R62_3 : rz_rng 62 360 9 = true := by decide +kernel
theorem rz_ok62 {pc : Nat} {q : rz_I} (h : pc < 369) (hq : rz_code 62 pc = some q) : rz_okI 62 pc q = true := by
  rcases Nat.lt_or_ge pc 120 with c0 | c0
  · exact rz_rngS rz_R62_0 (by omega) (by omega) hq
  rcases Nat.lt_or_ge pc 240 with c1 | c1
  · exact rz_rngS rz_R62_1 (by omega) (by omega) hq
  rcases Nat.lt_or_ge pc 360 with c2 | c2
  · exact rz_rngS rz_R62_2 (by omega) (by omega) hq
  exact rz_rngS rz_R62_3 (by omega) (by omega) hq
set_option maxRecDepth 100000 in
theorem rz_R63_0 : rz_rng 63 0 18 = true := by decide +kernel
theorem rz_ok63 {pc : Nat} {q : rz_I} (h : pc < 18) (hq : rz_code 63 pc = some q) : rz_okI 63 pc q = true := by
  exact rz_rngS rz_R63_0 (by omega) (by omega) hq
set_option maxRecDepth 100000 in
theorem rz_R64_0 : rz_rng 64 0 99 = true := by decide +kernel
theorem rz_ok64 {pc : Nat} {q : rz_I} (h : pc < 99) (hq : rz_code 64 pc = some q) : rz_okI 64 pc q = true := by
  exact rz_rngS rz_R64_0 (by omega) (by omega) hq
set_option maxRecDepth 100000 in
theorem rz_R65_0 : rz_rng 65 0 57 = true := by decide +kernel
theorem rz_ok65 {pc : Nat} {q : rz_I} (h : pc < 57) (hq : rz_code 65 pc = some q) : rz_okI 65 pc q = true := by
  exact rz_rngS rz_R65_0 (by omega) (by omega) hq
set_option maxRecDepth 100000 in
theorem rz_R66_0 : rz_rng 66 0 47 = true := by decide +kernel
theorem rz_ok66 {pc : Nat} {q : rz_I} (h : pc < 47) (hq : rz_code 66 pc = some q) : rz_okI 66 pc q = true := by
  exact rz_rngS rz_R66_0 (by omega) (by omega) hq
set_option maxRecDepth 100000 in
theorem rz_R67_0 : rz_rng 67 0 110 = true := by decide +kernel
theorem rz_ok67 {pc : Nat} {q : rz_I} (h : pc < 110) (hq : rz_code 67 pc = some q) : rz_okI 67 pc q = true := by
  exact rz_rngS rz_R67_0 (by omega) (by omega) hq
set_option maxRecDepth 100000 in
theorem rz_R68_0 : rz_rng 68 0 18 = true := by decide +kernel
theorem rz_ok68 {pc : Nat} {q : rz_I} (h : pc < 18) (hq : rz_code 68 pc = some q) : rz_okI 68 pc q = true := by
  exact rz_rngS rz_R68_0 (by omega) (by omega) hq
set_option maxRecDepth 100000 in
theorem rz_R69_0 : rz_rng 69 0 28 = true := by decide +kernel
theorem rz_ok69 {pc : Nat} {q : rz_I} (h : pc < 28) (hq : rz_code 69 pc = some q) : rz_okI 69 pc q = true := by
  exact rz_rngS rz_R69_0 (by omega) (by omega) hq
set_option maxRecDepth 100000 in
theorem rz_R70_0 : rz_rng 70 0 56 = true := by decide +kernel
theorem rz_ok70 {pc : Nat} {q : rz_I} (h : pc < 56) (hq : rz_code 70 pc = some q) : rz_okI 70 pc q = true := by
  exact rz_rngS rz_R70_0 (by omega) (by omega) hq
set_option maxRecDepth 100000 in
theorem rz_R71_0 : rz_rng 71 0 29 = true := by decide +kernel
theorem rz_ok71 {pc : Nat} {q : rz_I} (h : pc < 29) (hq : rz_code 71 pc = some q) : rz_okI 71 pc q = true := by
  exact rz_rngS rz_R71_0 (by omega) (by omega) hq
set_option maxRecDepth 100000 in
theorem rz_R72_0 : rz_rng 72 0 89 = true := by decide +kernel
theorem rz_ok72 {pc : Nat} {q : rz_I} (h : pc < 89) (hq : rz_code 72 pc = some q) : rz_okI 72 pc q = true := by
  exact rz_rngS rz_R72_0 (by omega) (by omega) hq
set_option maxRecDepth 100000 in
theorem rz_R73_0 : rz_rng 73 0 43 = true := by decide +kernel
theorem rz_ok73 {pc : Nat} {q : rz_I} (h : pc < 43) (hq : rz_code 73 pc = some q) : rz_okI 73 pc q = true := by
  exact rz_rngS rz_R73_0 (by omega) (by omega) hq
set_option maxRecDepth 100000 in
theorem rz_R74_0 : rz_rng 74 0 18 = true := by decide +kernel
theorem rz_ok74 {pc : Nat} {q : rz_I} (h : pc < 18) (hq : rz_code 74 pc = some q) : rz_okI 74 pc q = true := by
  exact rz_rngS rz_R74_0 (by omega) (by omega) hq
set_option maxRecDepth 100000 in
theorem rz_R75_0 : rz_rng 75 0 30 = true := by decide +kernel
theorem rz_ok75 {pc : Nat} {q : rz_I} (h : pc < 30) (hq : rz_code 75 pc = some q) : rz_okI 75 pc q = true := by
  exact rz_rngS rz_R75_0 (by omega) (by omega) hq
set_option maxRecDepth 100000 in
theorem rz_R76_0 : rz_rng 76 0 60 = true := by decide +kernel
theorem rz_ok76 {pc : Nat} {q : rz_I} (h : pc < 60) (hq : rz_code 76 pc = some q) : rz_okI 76 pc q = true := by
  exact rz_rngS rz_R76_0 (by omega) (by omega) hq
set_option maxRecDepth 100000 in
theorem rz_R77_0 : rz_rng 77 0 60 = true := by decide +kernel
theorem rz_ok77 {pc : Nat} {q : rz_I} (h : pc < 60) (hq : rz_code 77 pc = some q) : rz_okI 77 pc q = true := by
  exact rz_rngS rz_R77_0 (by omega) (by omega) hq
set_option maxRecDepth 100000 in
theorem rz_R78_0 : rz_rng 78 0 40 = true := by decide +kernel
theorem rz_ok78 {pc : Nat} {q : rz_I} (h : pc < 40) (hq : rz_code 78 pc = some q) : rz_okI 78 pc q = true := by
  exact rz_rngS rz_R78_0 (by omega) (by omega) hq
set_option maxRecDepth 100000 in
theorem rz_R79_0 : rz_rng 79 0 78 = true := by decide +kernel
theorem rz_ok79 {pc : Nat} {q : rz_I} (h : pc < 78) (hq : rz_code 79 pc = some q) : rz_okI 79 pc q = true := by
  exact rz_rngS rz_R79_0 (by omega) (by omega) hq
set_option maxRecDepth 100000 in
theorem rz_R80_0 : rz_rng 80 0 27 = true := by decide +kernel
theorem rz_ok80 {pc : Nat} {q : rz_I} (h : pc < 27) (hq : rz_code 80 pc = some q) : rz_okI 80 pc q = true := by
  exact rz_rngS rz_R80_0 (by omega) (by omega) hq
set_option maxRecDepth 100000 in
theorem rz_R81_0 : rz_rng 81 0 47 = true := by decide +kernel
theorem rz_ok81 {pc : Nat} {q : rz_I} (h : pc < 47) (hq : rz_code 81 pc = some q) : rz_okI 81 pc q = true := by
  exact rz_rngS rz_R81_0 (by omega) (by omega) hq
set_option maxRecDepth 100000 in
theorem rz_R82_0 : rz_rng 82 0 28 = true := by decide +kernel
theorem rz_ok82 {pc : Nat} {q : rz_I} (h : pc < 28) (hq : rz_code 82 pc = some q) : rz_okI 82 pc q = true := by
  exact rz_rngS rz_R82_0 (by omega) (by omega) hq
set_option maxRecDepth 100000 in
theorem rz_R83_0 : rz_rng 83 0 5 = true := by decide +kernel
theorem rz_ok83 {pc : Nat} {q : rz_I} (h : pc < 5) (hq : rz_code 83 pc = some q) : rz_okI 83 pc q = true := by
  exact rz_rngS rz_R83_0 (by omega) (by omega) hq
set_option maxRecDepth 100000 in
theorem rz_R84_0 : rz_rng 84 0 120 = true := by decide +kernel
set_option maxRecDepth 100000 in
theorem rz_R84_1 : rz_rng 84 120 38 = true := by decide +kernel
theorem rz_ok84 {pc : Nat} {q : rz_I} (h : pc < 158) (hq : rz_code 84 pc = some q) : rz_okI 84 pc q = true := by
  rcases Nat.lt_or_ge pc 120 with c0 | c0
  · exact rz_rngS rz_R84_0 (by omega) (by omega) hq
  exact rz_rngS rz_R84_1 (by omega) (by omega) hq
set_option maxRecDepth 100000 in
theorem rz_R85_0 : rz_rng 85 0 14 = true := by decide +kernel
theorem rz_ok85 {pc : Nat} {q : rz_I} (h : pc < 14) (hq : rz_code 85 pc = some q) : rz_okI 85 pc q = true := by
  exact rz_rngS rz_R85_0 (by omega) (by omega) hq
set_option maxRecDepth 100000 in
theorem rz_R86_0 : rz_rng 86 0 65 = true := by decide +kernel
theorem rz_ok86 {pc : Nat} {q : rz_I} (h : pc < 65) (hq : rz_code 86 pc = some q) : rz_okI 86 pc q = true := by
  exact rz_rngS rz_R86_0 (by omega) (by omega) hq
set_option maxRecDepth 100000 in
theorem rz_R87_0 : rz_rng 87 0 53 = true := by decide +kernel
theorem rz_ok87 {pc : Nat} {q : rz_I} (h : pc < 53) (hq : rz_code 87 pc = some q) : rz_okI 87 pc q = true := by
  exact rz_rngS rz_R87_0 (by omega) (by omega) hq
set_option maxRecDepth 100000 in
theorem rz_R88_0 : rz_rng 88 0 90 = true := by decide +kernel
theorem rz_ok88 {pc : Nat} {q : rz_I} (h : pc < 90) (hq : rz_code 88 pc = some q) : rz_okI 88 pc q = true := by
  exact rz_rngS rz_R88_0 (by omega) (by omega) hq
set_option maxRecDepth 100000 in
theorem rz_R89_0 : rz_rng 89 0 40 = true := by decide +kernel
theorem rz_ok89 {pc : Nat} {q : rz_I} (h : pc < 40) (hq : rz_code 89 pc = some q) : rz_okI 89 pc q = true := by
  exact rz_rngS rz_R89_0 (by omega) (by omega) hq
set_option maxRecDepth 100000 in
theorem rz_R90_0 : rz_rng 90 0 56 = true := by decide +kernel
theorem rz_ok90 {pc : Nat} {q : rz_I} (h : pc < 56) (hq : rz_code 90 pc = some q) : rz_okI 90 pc q = true := by
  exact rz_rngS rz_R90_0 (by omega) (by omega) hq
set_option maxRecDepth 100000 in
theorem rz_R91_0 : rz_rng 91 0 54 = true := by decide +kernel
theorem rz_ok91 {pc : Nat} {q : rz_I} (h : pc < 54) (hq : rz_code 91 pc = some q) : rz_okI 91 pc q = true := by
  exact rz_rngS rz_R91_0 (by omega) (by omega) hq
set_option maxRecDepth 100000 in
theorem rz_R92_0 : rz_rng 92 0 42 = true := by decide +kernel
theorem rz_ok92 {pc : Nat} {q : rz_I} (h : pc < 42) (hq : rz_code 92 pc = some q) : rz_okI 92 pc q = true := by
  exact rz_rngS rz_R92_0 (by omega) (by omega) hq
set_option maxRecDepth 100000 in
theorem rz_R93_0 : rz_rng 93 0 94 = true := by decide +kernel
theorem rz_ok93 {pc : Nat} {q : rz_I} (h : pc < 94) (hq : rz_code 93 pc = some q) : rz_okI 93 pc q = true := by
  exact rz_rngS rz_R93_0 (by omega) (by omega) hq
set_option maxRecDepth 100000 in
theorem rz_R94_0 : rz_rng 94 0 19 = true := by decide +kernel
theorem rz_ok94 {pc : Nat} {q : rz_I} (h : pc < 19) (hq : rz_code 94 pc = some q) : rz_okI 94 pc q = true := by
  exact rz_rngS rz_R94_0 (by omega) (by omega) hq
set_option maxRecDepth 100000 in
theorem rz_R95_0 : rz_rng 95 0 20 = true := by decide +kernel
theorem rz_ok95 {pc : Nat} {q : rz_I} (h : pc < 20) (hq : rz_code 95 pc = some q) : rz_okI 95 pc q = true := by
  exact rz_rngS rz_R95_0 (by omega) (by omega) hq
set_option maxRecDepth 100000 in
theorem rz_R96_0 : rz_rng 96 0 41 = true := by decide +kernel
theorem rz_ok96 {pc : Nat} {q : rz_I} (h : pc < 41) (hq : rz_code 96 pc = some q) : rz_okI 96 pc q = true := by
  exact rz_rngS rz_R96_0 (by omega) (by omega) hq
set_option maxRecDepth 100000 in
theorem rz_R97_0 : rz_rng 97 0 47 = true := by decide +kernel
theorem rz_ok97 {pc : Nat} {q : rz_I} (h : pc < 47) (hq : rz_code 97 pc = some q) : rz_okI 97 pc q = true := by
  exact rz_rngS rz_R97_0 (by omega) (by omega) hq
set_option maxRecDepth 100000 in
theorem rz_R98_0 : rz_rng 98 0 24 = true := by decide +kernel
theorem rz_ok98 {pc : Nat} {q : rz_I} (h : pc < 24) (hq : rz_code 98 pc = some q) : rz_okI 98 pc q = true := by
  exact rz_rngS rz_R98_0 (by omega) (by omega) hq
set_option maxRecDepth 100000 in
theorem rz_R99_0 : rz_rng 99 0 11 = true := by decide +kernel
theorem rz_ok99 {pc : Nat} {q : rz_I} (h : pc < 11) (hq : rz_code 99 pc = some q) : rz_okI 99 pc q = true := by
  exact rz_rngS rz_R99_0 (by omega) (by omega) hq
set_option maxRecDepth 100000 in
theorem rz_R100_0 : rz_rng 100 0 90 = true := by decide +kernel
theorem rz_ok100 {pc : Nat} {q : rz_I} (h : pc < 90) (hq : rz_code 100 pc = some q) : rz_okI 100 pc q = true := by
  exact rz_rngS rz_R100_0 (by omega) (by omega) hq
set_option maxRecDepth 100000 in
theorem rz_R101_0 : rz_rng 101 0 31 = true := by decide +kernel
theorem rz_ok101 {pc : Nat} {q : rz_I} (h : pc < 31) (hq : rz_code 101 pc = some q) : rz_okI 101 pc q = true := by
  exact rz_rngS rz_R101_0 (by omega) (by omega) hq
set_option maxRecDepth 100000 in
theorem rz_R102_0 : rz_rng 102 0 33 = true := by decide +kernel
theorem rz_ok102 {pc : Nat} {q : rz_I} (h : pc < 33) (hq : rz_code 102 pc = some q) : rz_okI 102 pc q = true := by
  exact rz_rngS rz_R102_0 (by omega) (by omega) hq
set_option maxRecDepth 100000 in
theorem rz_R103_0 : rz_rng 103 0 34 = true := by decide +kernel
theorem rz_ok103 {pc : Nat} {q : rz_I} (h : pc < 34) (hq : rz_code 103 pc = some q) : rz_okI 103 pc q = true := by
  exact rz_rngS rz_R103_0 (by omega) (by omega) hq
set_option maxRecDepth 100000 in
theorem rz_R104_0 : rz_rng 104 0 31 = true := by decide +kernel
theorem rz_ok104 {pc : Nat} {q : rz_I} (h : pc < 31) (hq : rz_code 104 pc = some q) : rz_okI 104 pc q = true := by
  exact rz_rngS rz_R104_0 (by omega) (by omega) hq
set_option maxRecDepth 100000 in
theorem rz_R105_0 : rz_rng 105 0 56 = true := by decide +kernel
theorem rz_ok105 {pc : Nat} {q : rz_I} (h : pc < 56) (hq : rz_code 105 pc = some q) : rz_okI 105 pc q = true := by
  exact rz_rngS rz_R105_0 (by omega) (by omega) hq
set_option maxRecDepth 100000 in
theorem rz_R106_0 : rz_rng 106 0 116 = true := by decide +kernel
theorem rz_ok106 {pc : Nat} {q : rz_I} (h : pc < 116) (hq : rz_code 106 pc = some q) : rz_okI 106 pc q = true := by
  exact rz_rngS rz_R106_0 (by omega) (by omega) hq
set_option maxRecDepth 100000 in
theorem rz_R107_0 : rz_rng 107 0 51 = true := by decide +kernel
theorem rz_ok107 {pc : Nat} {q : rz_I} (h : pc < 51) (hq : rz_code 107 pc = some q) : rz_okI 107 pc q = true := by
  exact rz_rngS rz_R107_0 (by omega) (by omega) hq
theorem rz_codeS {m pc : Nat} {q : rz_I} (h : rz_code m pc = some q) : m < 108 ∧ pc < rz_sz m := by
  unfold rz_code at h
  obtain ⟨h1, -⟩ := rz_bif h
  rw [Bool.and_eq_true] at h1
  exact ⟨Nat.blt_eq.mp h1.1, Nat.blt_eq.mp h1.2⟩
set_option maxRecDepth 100000 in
theorem rz_okAll {m pc : Nat} {q : rz_I} (hq : rz_code m pc = some q) : rz_okI m pc q = true := by
  obtain ⟨h1, h2⟩ := rz_codeS hq
  match m, h1, h2, hq with
  | 0, _, h2, hq => exact rz_ok0 h2 hq
  | 1, _, h2, hq => exact rz_ok1 h2 hq
  | 2, _, h2, hq => exact rz_ok2 h2 hq
  | 3, _, h2, hq => exact rz_ok3 h2 hq
  | 4, _, h2, hq => exact rz_ok4 h2 hq
  | 5, _, h2, hq => exact rz_ok5 h2 hq
  | 6, _, h2, hq => exact rz_ok6 h2 hq
  | 7, _, h2, hq => exact rz_ok7 h2 hq
  | 8, _, h2, hq => exact rz_ok8 h2 hq
  | 9, _, h2, hq => exact rz_ok9 h2 hq
  | 10, _, h2, hq => exact rz_ok10 h2 hq
  | 11, _, h2, hq => exact rz_ok11 h2 hq
  | 12, _, h2, hq => exact rz_ok12 h2 hq
  | 13, _, h2, hq => exact rz_ok13 h2 hq
  | 14, _, h2, hq => exact rz_ok14 h2 hq
  | 15, _, h2, hq => exact rz_ok15 h2 hq
  | 16, _, h2, hq => exact rz_ok16 h2 hq
  | 17, _, h2, hq => exact rz_ok17 h2 hq
  | 18, _, h2, hq => exact rz_ok18 h2 hq
  | 19, _, h2, hq => exact rz_ok19 h2 hq
  | 20, _, h2, hq => exact rz_ok20 h2 hq
  | 21, _, h2, hq => exact rz_ok21 h2 hq
  | 22, _, h2, hq => exact rz_ok22 h2 hq
  | 23, _, h2, hq => exact rz_ok23 h2 hq
  | 24, _, h2, hq => exact rz_ok24 h2 hq
  | 25, _, h2, hq => exact rz_ok25 h2 hq
  | 26, _, h2, hq => exact rz_ok26 h2 hq
  | 27, _, h2, hq => exact rz_ok27 h2 hq
  | 28, _, h2, hq => exact rz_ok28 h2 hq
  | 29, _, h2, hq => exact rz_ok29 h2 hq
  | 30, _, h2, hq => exact rz_ok30 h2 hq
  | 31, _, h2, hq => exact rz_ok31 h2 hq
  | 32, _, h2, hq => exact rz_ok32 h2 hq
  | 33, _, h2, hq => exact rz_ok33 h2 hq
  | 34, _, h2, hq => exact rz_ok34 h2 hq
  | 35, _, h2, hq => exact rz_ok35 h2 hq
  | 36, _, h2, hq => exact rz_ok36 h2 hq
  | 37, _, h2, hq => exact rz_ok37 h2 hq
  | 38, _, h2, hq => exact rz_ok38 h2 hq
  | 39, _, h2, hq => exact rz_ok39 h2 hq
  | 40, _, h2, hq => exact rz_ok40 h2 hq
  | 41, _, h2, hq => exact rz_ok41 h2 hq
  | 42, _, h2, hq => exact rz_ok42 h2 hq
  | 43, _, h2, hq => exact rz_ok43 h2 hq
  | 44, _, h2, hq => exact rz_ok44 h2 hq
  | 45, _, h2, hq => exact rz_ok45 h2 hq
  | 46, _, h2, hq => exact rz_ok46 h2 hq
  | 47, _, h2, hq => exact rz_ok47 h2 hq
  | 48, _, h2, hq => exact rz_ok48 h2 hq
  | 49, _, h2, hq => exact rz_ok49 h2 hq
  | 50, _, h2, hq => exact rz_ok50 h2 hq
  | 51, _, h2, hq => exact rz_ok51 h2 hq
  | 52, _, h2, hq => exact rz_ok52 h2 hq
  | 53, _, h2, hq => exact rz_ok53 h2 hq
  | 54, _, h2, hq => exact rz_ok54 h2 hq
  | 55, _, h2, hq => exact rz_ok55 h2 hq
  | 56, _, h2, hq => exact rz_ok56 h2 hq
  | 57, _, h2, hq => exact rz_ok57 h2 hq
  | 58, _, h2, hq => exact rz_ok58 h2 hq
  | 59, _, h2, hq => exact rz_ok59 h2 hq
  | 60, _, h2, hq => exact rz_ok60 h2 hq
  | 61, _, h2, hq => exact rz_ok61 h2 hq
  | 62, _, h2, hq => exact rz_ok62 h2 hq
  | 63, _, h2, hq => exact rz_ok63 h2 hq
  | 64, _, h2, hq => exact rz_ok64 h2 hq
  | 65, _, h2, hq => exact rz_ok65 h2 hq
  | 66, _, h2, hq => exact rz_ok66 h2 hq
  | 67, _, h2, hq => exact rz_ok67 h2 hq
  | 68, _, h2, hq => exact rz_ok68 h2 hq
  | 69, _, h2, hq => exact rz_ok69 h2 hq
  | 70, _, h2, hq => exact rz_ok70 h2 hq
  | 71, _, h2, hq => exact rz_ok71 h2 hq
  | 72, _, h2, hq => exact rz_ok72 h2 hq
  | 73, _, h2, hq => exact rz_ok73 h2 hq
  | 74, _, h2, hq => exact rz_ok74 h2 hq
  | 75, _, h2, hq => exact rz_ok75 h2 hq
  | 76, _, h2, hq => exact rz_ok76 h2 hq
  | 77, _, h2, hq => exact rz_ok77 h2 hq
  | 78, _, h2, hq => exact rz_ok78 h2 hq
  | 79, _, h2, hq => exact rz_ok79 h2 hq
  | 80, _, h2, hq => exact rz_ok80 h2 hq
  | 81, _, h2, hq => exact rz_ok81 h2 hq
  | 82, _, h2, hq => exact rz_ok82 h2 hq
  | 83, _, h2, hq => exact rz_ok83 h2 hq
  | 84, _, h2, hq => exact rz_ok84 h2 hq
  | 85, _, h2, hq => exact rz_ok85 h2 hq
  | 86, _, h2, hq => exact rz_ok86 h2 hq
  | 87, _, h2, hq => exact rz_ok87 h2 hq
  | 88, _, h2, hq => exact rz_ok88 h2 hq
  | 89, _, h2, hq => exact rz_ok89 h2 hq
  | 90, _, h2, hq => exact rz_ok90 h2 hq
  | 91, _, h2, hq => exact rz_ok91 h2 hq
  | 92, _, h2, hq => exact rz_ok92 h2 hq
  | 93, _, h2, hq => exact rz_ok93 h2 hq
  | 94, _, h2, hq => exact rz_ok94 h2 hq
  | 95, _, h2, hq => exact rz_ok95 h2 hq
  | 96, _, h2, hq => exact rz_ok96 h2 hq
  | 97, _, h2, hq => exact rz_ok97 h2 hq
  | 98, _, h2, hq => exact rz_ok98 h2 hq
  | 99, _, h2, hq => exact rz_ok99 h2 hq
  | 100, _, h2, hq => exact rz_ok100 h2 hq
  | 101, _, h2, hq => exact rz_ok101 h2 hq
  | 102, _, h2, hq => exact rz_ok102 h2 hq
  | 103, _, h2, hq => exact rz_ok103 h2 hq
  | 104, _, h2, hq => exact rz_ok104 h2 hq
  | 105, _, h2, hq => exact rz_ok105 h2 hq
  | 106, _, h2, hq => exact rz_ok106 h2 hq
  | 107, _, h2, hq => exact rz_ok107 h2 hq
  | n + 108, h1, _, _ => exact absurd h1 (by omega)
end
section
/-! The claim. -/
theorem rz_hStat : rz_Stat := ⟨fun m pc q hq => by
  obtain ⟨ins, a, b⟩ := q
  exact rz_okS (rz_codeS hq).1 (rz_okAll hq), rz_clAll, rz_hcast, fun a h0 h1 => (rz_mF h0 h1).1⟩
set_option maxRecDepth 100000 in
theorem rz_atB : (vx_atS RX10 297 rz_iae ["java/lang/RuntimeException", "java/lang/Exception"]).all (fun w => decide (w ∈ lw_tbl) && (rz_gw w && vx_ot w)) = true := by decide +kernel
theorem rz_hStatD : rz_StatD := by
  have hAt := List.all_eq_true.mp rz_atB
  refine ⟨fun w hw => ?_, fun w hw => ?_, rz_inTS (i := 415) (by decide +kernel) rfl, rz_inTS (i := 78) (by decide +kernel) rfl⟩
  · have h := hAt w hw
    simp only [Bool.and_eq_true, decide_eq_true_eq] at h
    exact List.mem_filter.mpr ⟨h.1, h.2.1⟩
  · rcases List.mem_cons.mp hw with rfl | hw
    · rfl
    · rcases List.mem_cons.mp hw with rfl | hw
      · rfl
      · have h := hAt w hw
        simp only [Bool.and_eq_true, decide_eq_true_eq] at h
        exact h.2.2
theorem rz_hStatA : rz_StatA := ⟨⟨rz_iAI, rz_iAL, rz_iAZ⟩, rz_iAO, List.mem_of_getElem? (i := 442) (by decide +kernel), List.mem_of_getElem? (i := 444) (by decide +kernel), List.mem_of_getElem? (i := 75) (by decide +kernel), List.mem_of_getElem? (i := 455) (by decide +kernel), List.mem_of_getElem? (i := 416) (by decide +kernel)⟩
theorem rz_eqBs : ∀ {a b : rz_B}, rz_eqB a b = true → a = b
  | [], [], _ => rfl
  | [], _ :: _, h => by cases h
  | _ :: _, [], h => by cases h
  | a :: l, b :: m, h => by
    simp only [rz_eqB, Bool.and_eq_true, decide_eq_true_eq] at h
    obtain ⟨a1, a2⟩ := a
    obtain ⟨b1, b2⟩ := b
    obtain ⟨h1, h2, h3⟩ := h
    dsimp only at h1 h2
    rw [h1, h2, rz_eqBs h3]
theorem rz_allL {G : rz_G} {P : rz_B → Bool} {Ls : List rz_B} {T : List (Nat × Int)} {b : rz_B} (h1 : ∀ B ∈ Ls, P B = true) (h2 : rz_all (fun B => Ls.any (rz_eqB B)) T b = true) (hb : rz_in G b) : ∃ B, P B = true ∧ rz_in G B := by
  obtain ⟨B, g1, g2⟩ := rz_allOK h2 hb
  obtain ⟨B', g3, g4⟩ := List.any_eq_true.mp g1
  exact ⟨B, by rw [rz_eqBs g4]; exact h1 B' g3, g2⟩
theorem rz_i32b (x : Int32) : -2147483648 ≤ x.toInt ∧ x.toInt ≤ 2147483647 := by
  have h1 := Int32.le_toInt x
  have h2 := Int32.toInt_lt x
  omega
theorem rz_and31 (x : Int32) : 0 ≤ (x &&& 31).toInt ∧ (x &&& 31).toInt ≤ 31 := by
  obtain ⟨j, hj, e⟩ := pk_andE x (m := 31) 5 (by decide +kernel)
  rw [e, nI_toInt (by omega)]
  omega
def rz_box (l8 h8 l9 h9 : Int) : rz_B := [(-2147483648, 2147483647), (-2147483648, 2147483647), (-2147483648, 2147483647), (-2147483648, 2147483647), (-2147483648, 2147483647), (-2147483648, 2147483647), (-2147483648, 2147483647), (-2147483648, 2147483647), (l8, h8), (l9, h9)]
theorem rz_bxIn {G : rz_G} {l8 h8 l9 h9 : Int} (a1 : l8 ≤ (rz_p G 8).toInt) (a2 : (rz_p G 8).toInt ≤ h8) (a3 : l9 ≤ (rz_p G 9).toInt) (a4 : (rz_p G 9).toInt ≤ h9) : rz_in G (rz_box l8 h8 l9 h9) :=
  rz_inOf ⟨rz_i32b _, rz_i32b _, rz_i32b _, rz_i32b _, rz_i32b _, rz_i32b _, rz_i32b _, rz_i32b _, ⟨a1, a2⟩, ⟨a3, a4⟩, trivial⟩
theorem rz_p8 {G : rz_G} {L : Nat} (hL : L ≤ 8) (h : rz_p G 8 = Int32.ofNat L) : (rz_p G 8).toInt = (L : Int) := by
  rw [h]; exact toInt_of rfl (by omega)
theorem rz_hs1 (G : rz_G) (hG : rz_Gk G) (hL : ∃ L : Nat, L ≤ 8 ∧ rz_p G 8 = Int32.ofNat L) : ∃ B, rz_seg 19 rz_f0 rz_f1 B = true ∧ rz_in G B := by
  obtain ⟨L, hL, h8⟩ := hL
  have e8 := rz_p8 hL h8
  have h9 : 0 ≤ (rz_p G 9).toInt ∧ (rz_p G 9).toInt ≤ 31 := by rw [hG.2.2]; exact rz_and31 _
  by_cases h0 : L = 0
  · exact rz_allL ry_pk0 ry_sk0 (rz_bxIn (l8 := 0) (h8 := 0) (by omega) (by omega) h9.1 h9.2)
  · exact rz_allL ry_pk1 ry_sk1 (rz_bxIn (l8 := 1) (h8 := 8) (by omega) (by omega) h9.1 h9.2)
theorem rz_hs2 (G : rz_G) (hG : rz_Gk G) (hL : ∃ L : Nat, L ≤ 8 ∧ rz_p G 8 = Int32.ofNat L) : ∃ B, rz_end rz_f1 B = true ∧ rz_in G B := by
  obtain ⟨L, hL, h8⟩ := hL
  have e8 := rz_p8 hL h8
  have h9 : 0 ≤ (rz_p G 9).toInt ∧ (rz_p G 9).toInt ≤ 31 := by rw [hG.2.2]; exact rz_and31 _
  by_cases h0 : L ≤ 7
  · exact rz_allL ry_pke ry_ske (rz_bxIn (l8 := 0) (h8 := 7) (by omega) (by omega) h9.1 h9.2)
  · have bx : ∀ (B : rz_B) (l9 u9 : Int), rz_box 8 8 l9 u9 = B → l9 ≤ (rz_p G 9).toInt → (rz_p G 9).toInt ≤ u9 → rz_in G B := fun B l9 u9 e a b => by subst e; exact rz_bxIn (by omega) (by omega) a b
    by_cases h21 : 21 ≤ (rz_p G 9).toInt
    · exact rz_allL ry_pc21 ry_sc21 (bx ry_bc21 21 31 rfl h21 h9.2)
    · have hv : (rz_p G 9).toInt = 0 ∨ (rz_p G 9).toInt = 1 ∨ (rz_p G 9).toInt = 2 ∨ (rz_p G 9).toInt = 3 ∨ (rz_p G 9).toInt = 4 ∨ (rz_p G 9).toInt = 5 ∨ (rz_p G 9).toInt = 6 ∨ (rz_p G 9).toInt = 7 ∨ (rz_p G 9).toInt = 8 ∨ (rz_p G 9).toInt = 9 ∨ (rz_p G 9).toInt = 10 ∨ (rz_p G 9).toInt = 11 ∨ (rz_p G 9).toInt = 12 ∨ (rz_p G 9).toInt = 13 ∨ (rz_p G 9).toInt = 14 ∨ (rz_p G 9).toInt = 15 ∨ (rz_p G 9).toInt = 16 ∨ (rz_p G 9).toInt = 17 ∨ (rz_p G 9).toInt = 18 ∨ (rz_p G 9).toInt = 19 ∨ (rz_p G 9).toInt = 20 := by omega
      rcases hv with h | h | h | h | h | h | h | h | h | h | h | h | h | h | h | h | h | h | h | h | h
      · exact rz_allL ry_pc0 ry_sc0 (bx ry_bc0 0 0 rfl (by omega) (by omega))
      · exact rz_allL ry_pc1 ry_sc1 (bx ry_bc1 1 1 rfl (by omega) (by omega))
      · exact rz_allL ry_pc2 ry_sc2 (bx ry_bc2 2 2 rfl (by omega) (by omega))
      · exact rz_allL ry_pc3 ry_sc3 (bx ry_bc3 3 3 rfl (by omega) (by omega))
      · exact rz_allL ry_pc4 ry_sc4 (bx ry_bc4 4 4 rfl (by omega) (by omega))
      · exact rz_allL ry_pc5 ry_sc5 (bx ry_bc5 5 5 rfl (by omega) (by omega))
      · exact rz_allL ry_pc6 ry_sc6 (bx ry_bc6 6 6 rfl (by omega) (by omega))
      · exact rz_allL ry_pc7 ry_sc7 (bx ry_bc7 7 7 rfl (by omega) (by omega))
      · exact rz_allL ry_pc8 ry_sc8 (bx ry_bc8 8 8 rfl (by omega) (by omega))
      · exact rz_allL ry_pc9 ry_sc9 (bx ry_bc9 9 9 rfl (by omega) (by omega))
      · exact rz_allL ry_pc10 ry_sc10 (bx ry_bc10 10 10 rfl (by omega) (by omega))
      · exact rz_allL ry_pc11 ry_sc11 (bx ry_bc11 11 11 rfl (by omega) (by omega))
      · exact rz_allL ry_pc12 ry_sc12 (bx ry_bc12 12 12 rfl (by omega) (by omega))
      · exact rz_allL ry_pc13 ry_sc13 (bx ry_bc13 13 13 rfl (by omega) (by omega))
      · exact rz_allL ry_pc14 ry_sc14 (bx ry_bc14 14 14 rfl (by omega) (by omega))
      · exact rz_allL ry_pc15 ry_sc15 (bx ry_bc15 15 15 rfl (by omega) (by omega))
      · exact rz_allL ry_pc16 ry_sc16 (bx ry_bc16 16 16 rfl (by omega) (by omega))
      · exact rz_allL ry_pc17 ry_sc17 (bx ry_bc17 17 17 rfl (by omega) (by omega))
      · exact rz_allL ry_pc18 ry_sc18 (bx ry_bc18 18 18 rfl (by omega) (by omega))
      · exact rz_allL ry_pc19 ry_sc19 (bx ry_bc19 19 19 rfl (by omega) (by omega))
      · exact rz_allL ry_pc20 ry_sc20 (bx ry_bc20 20 20 rfl (by omega) (by omega))
set_option maxHeartbeats 4000000 in
theorem lw_walk (l : Launch) (htr : l.stackTraces = false) (b : Addr) (xs : List Int32) : MetFree l x (headSpec (Jvm.Cond.code x code maxLocals ret :: tables_1) room_1) (lw_P b xs) (fun _ _ _ _ _ => True) lw_Q := by
  refine MetFree.of_bodyS (code := code) (maxLocals := maxLocals) (ret := ret) (by decide) ?_ ?_
  · intro args s m h hn
    obtain ⟨meth, c, h1, h2, h3, h4, h5, h6, -, -⟩ := Cond.code_spec hn (atoms_spec (ws := Jvm.Cond.code x code maxLocals ret :: tables_1) h _ List.mem_cons_self)
    exact ⟨meth, c, h1, h2, h3, h4, h5, h6⟩
  · intro p e s m args below meth c s₁ B hml0 hP _
    obtain ⟨rfl, hx, hbd, hgv⟩ := hP
    obtain ⟨scr, harrAt, hlist, hof, hsmall⟩ := hx
    obtain ⟨hcb, hkn, -, -⟩ := State.arrayAt?_spec harrAt
    have hown : s.vm.findClass R_law = some m.cls := findClass_of_methodNamed B.named
    have hts0 : ∀ c ∈ (Jvm.Cond.code x code maxLocals ret :: tables_1), c.before #[Value.ref b] s = true := atoms_spec (ws := Jvm.Cond.code x code maxLocals ret :: tables_1) B.pre
    have hts : ∀ w ∈ lw_tbl, w.before #[Value.ref b] s = true := k2_hts_sels lw_privs (fun w hw => hts0 w (List.mem_cons_of_mem _ hw)) lw_privs_ok
    have hml : c.maxLocals = 8 := B.maxLocals_eq (hts0 _ List.mem_cons_self)
    have X₀ : Stand p l e room_1 s m #[Value.ref b] below meth c s₁ [] 0 0 := Stand.of_body B
    have het : c.exceptionTable.toList = [] := by
      obtain ⟨meth9, c9, h1, h2, -, -, -, -, h7, -⟩ := Cond.code_spec B.named (hts0 _ List.mem_cons_self)
      cases Option.some.inj (h1.symm.trans B.method)
      cases Option.some.inj (h2.symm.trans X₀.code)
      rw [Array.isEmpty_iff.mp h7]
    have hh0 : s₁.heap = s.heap := by rw [B.state]; rfl
    have hsz : scr.slots.size = xs.length := by rw [← Array.length_toList, hlist, List.length_map]
    have hval : ∀ j : Nat, j < xs.length → scr.slots[j]? = some (.int (xs.getD j 0)) := fun j hj => by
      rw [← Array.getElem?_toList, hlist]
      simp [hj]
    have hbl : b < s.heap.size := (Array.getElem?_eq_some_iff.mp hcb).1
    have hX : va_X b xs.length (fun j => xs.getD j 0) s s.heap := ⟨scr, hcb, hof, hkn, hsz, hval⟩
    have K : W p l e room_1 s m #[Value.ref b] below meth c s₁.heap [] 0 0 (lw_Z below #[Value.ref b] s) (entryFrame m ([Value.ref b] : List Value).toArray 8) := by
      rw [hh0]
      exact rz_law rz_hStat rz_hStatD rz_hStatA rz_hs1 rz_hs2 l htr hbd ⟨B.exec, B.bytes, B.returns, hml, hown, hts, hX, hbl, B.notSynchronized, hgv, het⟩
    obtain ⟨t, a1, o, b1, b2, b3⟩ := K s₁ rfl X₀
    exact ⟨t, o, a1, b1, b2, b3⟩
theorem lw_pre_spec {args : Array Value} {s : State} (h : (Jvm.Cond.and given_1 narrow_1).before args s = true) (hr : rest_1_c.before args s = true) : ∃ (b : Addr) (xs : List Int32), lw_P b xs args s := by
  have hs := flat_of_before _ h
  have hq := flat_of_before _ hr
  have hc : (Cond.count 1).before args s = true := hs _ (by decide +kernel)
  have harr : (Cond.arrayOf (.arg 0) .int).before args s = true := hs _ (by decide +kernel)
  have hle : (Cond.le (.length (.arg 0)) (.int 8)).before args s = true := hs _ (by decide +kernel)
  have hlen : (Cond.isInt (.length (.arg 0))).before args s = true := hq _ (by decide +kernel)
  have hall : (Cond.all (.arg 0) (.isInt (.elem (.arg 0) (.index 0)))).before args s = true := hq _ (by decide +kernel)
  obtain ⟨b, xs, hb, hx⟩ := State.ints_of_pre rfl harr hlen hall
  have hsm : xs.length < 2 ^ 31 := hx.choose_spec.2.2.2
  have hev : (Term.length (.arg 0)).eval args s none [] s = some (.int xs.length.toInt32) := hx.length_eval hb
  have hv := Cond.le_ints hev (show (Term.int 8).eval args s none [] s = some (.int 8) from rfl)
  have hd : xs.length.toInt32 ≤ 8 := by
    simpa [Cond.before, Cond.holds, hv] using hle
  have hN : xs.length ≤ 8 := (Int32.ofNat_le_ofNat hsm (by decide)).mp (show Int32.ofNat xs.length ≤ Int32.ofNat 8 from hd)
  exact ⟨b, xs, Cond.one_arg hc (show args[0]? = some (.ref b) from hb), hx, hN, h⟩
theorem lw_comes (l : Launch) (htr : l.stackTraces = false) : Comes l x (Jvm.Cond.code x code maxLocals ret :: tables_1) room_1 (fun tb e args s => Calls_1 tb e args s ∧ rest_1 tb e args s ∧ Pre_1 tb e args s)
    (fun _ _ args s o t => lw_Q args s o t) := by
  intro p e ha hc hk s m args below hf hfit hheap happ hpre
  obtain ⟨b, xs, hP⟩ := lw_pre_spec hpre.2.2 hpre.2.1
  obtain ⟨k, o, h1, h2, h3, hQ⟩ := lw_walk l htr b xs p e ha hc hk s m args below hf ((Spec.applies_iff_loose hf).mp happ).1 hP trivial
  exact ⟨k, o, h1, h2, h3, hQ⟩
theorem lw_frame {s t : State} {o : Outcome} {args : Array Value} (h : Framed s o t [] 600002 7302197) :
    Framed s o t (fieldLocs frame_1_writes args s ++ arrayLocs frame_1_arrays args s ++ staticLocs frame_1_statics s) 600002 7302197 := h
theorem lw_tr {l : Launch} (h : l.flags = flags0) : l.stackTraces = false := by
  unfold Launch.stackTraces
  rw [h]
  decide +kernel
theorem lw_limb (L : Cond) (hL : ∀ (args : Array Value) (s t : State), L.after args s (.returned (some (.int 1))) t = true) :
    ArmFor flags0 classFile x code maxLocals ret World_1 tables_1 room_1 Calls_1 rest_1 Pre_1
      (fun tb e a s o t => postC L tb e a s o t ∧ Framed s o t (fieldLocs frame_1_writes a s ++ arrayLocs frame_1_arrays a s ++ staticLocs frame_1_statics s) 600002 7302197) := by
  intro l hfl _ _ p e ha hc hk s m args below hf hfit hheap happ hpre
  obtain ⟨k, o, h1, h2, h3, rfl, hF⟩ := lw_comes l (lw_tr hfl) p e ha hc hk s m args below hf hfit hheap happ hpre
  exact ⟨k, _, h1, h2, h3, hL args s _, lw_frame hF⟩
theorem i_vc : Claimed_1_1 ∧ Claimed_1_2 := ⟨lw_limb limb_1_1 (fun args s t => by simp [limb_1_1, Cond.after, Cond.holds, Cond.value]), lw_limb limb_1_2 (fun args s t => Cond.after_iff.mpr (by
  first | (rw [show limb_1_2 = Cond.eq .result (.int 1) from rfl, Cond.eq_ints (x := 1) (y := 1) rfl rfl]; simp; done) | (simp [limb_1_2, Cond.value, Term.eval]; done)))⟩
end
