section
-- ===== PART A: goes FIRST, ahead of the names: the tables' words, and 'selects' of the private methods out of them =====
/-- a private method of a class that the tables say can be made, by its rows of tables_1 -/
def lw_okq (q : MethodName × Nat) : Prop := (q.1.cls ≠ "java/lang/invoke/MethodHandle" ∧ q.1.cls ≠ "java/lang/invoke/VarHandle") ∧ Cond.instantiable q.1.cls q.2 ∈ tables_1 ∧ Cond.privateMethod q.1 ∈ tables_1 ∧ Cond.instanceMethod q.1 ∈ tables_1
theorem lw_p0 : lw_okq (⟨"FieldBook", "readArrival", "()Z"⟩, 6) := ⟨⟨by decide +kernel, by decide +kernel⟩, List.mem_of_getElem? (i := 19) (by decide +kernel), List.mem_of_getElem? (i := 191) (by decide +kernel), List.mem_of_getElem? (i := 192) (by decide +kernel)⟩
theorem lw_p1 : lw_okq (⟨"FieldBook$Book", "wholeStake", "(I)I"⟩, 6) := ⟨⟨by decide +kernel, by decide +kernel⟩, List.mem_of_getElem? (i := 27) (by decide +kernel), List.mem_of_getElem? (i := 243) (by decide +kernel), List.mem_of_getElem? (i := 244) (by decide +kernel)⟩
theorem lw_p2 : lw_okq (⟨"FieldBook$Book", "returnOf", "(ILFieldBook$Arrival;)I"⟩, 6) := ⟨⟨by decide +kernel, by decide +kernel⟩, List.mem_of_getElem? (i := 27) (by decide +kernel), List.mem_of_getElem? (i := 247) (by decide +kernel), List.mem_of_getElem? (i := 248) (by decide +kernel)⟩
theorem lw_p3 : lw_okq (⟨"FieldBook$Book", "winPart", "(ILFieldBook$Arrival;)I"⟩, 6) := ⟨⟨by decide +kernel, by decide +kernel⟩, List.mem_of_getElem? (i := 27) (by decide +kernel), List.mem_of_getElem? (i := 252) (by decide +kernel), List.mem_of_getElem? (i := 253) (by decide +kernel)⟩
theorem lw_p4 : lw_okq (⟨"FieldBook$Book", "placePart", "(ILFieldBook$Arrival;)I"⟩, 6) := ⟨⟨by decide +kernel, by decide +kernel⟩, List.mem_of_getElem? (i := 27) (by decide +kernel), List.mem_of_getElem? (i := 267) (by decide +kernel), List.mem_of_getElem? (i := 268) (by decide +kernel)⟩
theorem lw_p5 : lw_okq (⟨"FieldBook$Book", "returnOfLaid", "(ILFieldBook$Arrival;)I"⟩, 6) := ⟨⟨by decide +kernel, by decide +kernel⟩, List.mem_of_getElem? (i := 27) (by decide +kernel), List.mem_of_getElem? (i := 278) (by decide +kernel), List.mem_of_getElem? (i := 279) (by decide +kernel)⟩
theorem lw_p6 : lw_okq (⟨"FieldBook", "wouldWinWith", "(I)I"⟩, 6) := ⟨⟨by decide +kernel, by decide +kernel⟩, List.mem_of_getElem? (i := 19) (by decide +kernel), List.mem_of_getElem? (i := 287) (by decide +kernel), List.mem_of_getElem? (i := 288) (by decide +kernel)⟩
theorem lw_p7 : lw_okq (⟨"FieldBook", "counted", "(I)I"⟩, 6) := ⟨⟨by decide +kernel, by decide +kernel⟩, List.mem_of_getElem? (i := 19) (by decide +kernel), List.mem_of_getElem? (i := 302) (by decide +kernel), List.mem_of_getElem? (i := 303) (by decide +kernel)⟩
theorem lw_p8 : lw_okq (⟨"FieldBook$Book", "partOfPrice", "(II)I"⟩, 6) := ⟨⟨by decide +kernel, by decide +kernel⟩, List.mem_of_getElem? (i := 27) (by decide +kernel), List.mem_of_getElem? (i := 312) (by decide +kernel), List.mem_of_getElem? (i := 313) (by decide +kernel)⟩
theorem lw_p9 : lw_okq (⟨"FieldBook", "settingNow", "(I)I"⟩, 6) := ⟨⟨by decide +kernel, by decide +kernel⟩, List.mem_of_getElem? (i := 19) (by decide +kernel), List.mem_of_getElem? (i := 332) (by decide +kernel), List.mem_of_getElem? (i := 333) (by decide +kernel)⟩
theorem lw_p10 : lw_okq (⟨"FieldBook", "mixedHorses", "(J)J"⟩, 6) := ⟨⟨by decide +kernel, by decide +kernel⟩, List.mem_of_getElem? (i := 19) (by decide +kernel), List.mem_of_getElem? (i := 336) (by decide +kernel), List.mem_of_getElem? (i := 337) (by decide +kernel)⟩
theorem lw_p11 : lw_okq (⟨"FieldBook", "coveringStake", "(II)I"⟩, 6) := ⟨⟨by decide +kernel, by decide +kernel⟩, List.mem_of_getElem? (i := 19) (by decide +kernel), List.mem_of_getElem? (i := 348) (by decide +kernel), List.mem_of_getElem? (i := 349) (by decide +kernel)⟩
theorem lw_p12 : lw_okq (⟨"java/lang/Throwable", "fillInStackTrace", "(I)Ljava/lang/Throwable;"⟩, 6) := ⟨⟨by decide +kernel, by decide +kernel⟩, List.mem_of_getElem? (i := 420) (by decide +kernel), List.mem_of_getElem? (i := 418) (by decide +kernel), List.mem_of_getElem? (i := 419) (by decide +kernel)⟩
theorem lw_p13 : lw_okq (⟨"FieldBook", "requireOpen", "()V"⟩, 6) := ⟨⟨by decide +kernel, by decide +kernel⟩, List.mem_of_getElem? (i := 19) (by decide +kernel), List.mem_of_getElem? (i := 450) (by decide +kernel), List.mem_of_getElem? (i := 451) (by decide +kernel)⟩
theorem lw_p14 : lw_okq (⟨"FieldBook$History", "stateAt", "(I)LFieldBook$Book;"⟩, 3) := ⟨⟨by decide +kernel, by decide +kernel⟩, List.mem_of_getElem? (i := 110) (by decide +kernel), List.mem_of_getElem? (i := 482) (by decide +kernel), List.mem_of_getElem? (i := 483) (by decide +kernel)⟩
theorem lw_p15 : lw_okq (⟨"FieldBook", "requireHorse", "(I)V"⟩, 6) := ⟨⟨by decide +kernel, by decide +kernel⟩, List.mem_of_getElem? (i := 19) (by decide +kernel), List.mem_of_getElem? (i := 520) (by decide +kernel), List.mem_of_getElem? (i := 521) (by decide +kernel)⟩
def lw_privs_1 : List (MethodName × Nat) := [(⟨"FieldBook", "readArrival", "()Z"⟩, 6), (⟨"FieldBook$Book", "wholeStake", "(I)I"⟩, 6), (⟨"FieldBook$Book", "returnOf", "(ILFieldBook$Arrival;)I"⟩, 6), (⟨"FieldBook$Book", "winPart", "(ILFieldBook$Arrival;)I"⟩, 6), (⟨"FieldBook$Book", "placePart", "(ILFieldBook$Arrival;)I"⟩, 6), (⟨"FieldBook$Book", "returnOfLaid", "(ILFieldBook$Arrival;)I"⟩, 6), (⟨"FieldBook", "wouldWinWith", "(I)I"⟩, 6), (⟨"FieldBook", "counted", "(I)I"⟩, 6), (⟨"FieldBook$Book", "partOfPrice", "(II)I"⟩, 6), (⟨"FieldBook", "settingNow", "(I)I"⟩, 6), (⟨"FieldBook", "mixedHorses", "(J)J"⟩, 6), (⟨"FieldBook", "coveringStake", "(II)I"⟩, 6), (⟨"java/lang/Throwable", "fillInStackTrace", "(I)Ljava/lang/Throwable;"⟩, 6), (⟨"FieldBook", "requireOpen", "()V"⟩, 6), (⟨"FieldBook$History", "stateAt", "(I)LFieldBook$Book;"⟩, 3), (⟨"FieldBook", "requireHorse", "(I)V"⟩, 6)]
theorem lw_r1 : ∀ q ∈ lw_privs_1, lw_okq q := List.forall_mem_cons.mpr ⟨lw_p0, List.forall_mem_cons.mpr ⟨lw_p1, List.forall_mem_cons.mpr ⟨lw_p2, List.forall_mem_cons.mpr ⟨lw_p3, List.forall_mem_cons.mpr ⟨lw_p4, List.forall_mem_cons.mpr ⟨lw_p5, List.forall_mem_cons.mpr ⟨lw_p6, List.forall_mem_cons.mpr ⟨lw_p7, List.forall_mem_cons.mpr ⟨lw_p8, List.forall_mem_cons.mpr ⟨lw_p9, List.forall_mem_cons.mpr ⟨lw_p10, List.forall_mem_cons.mpr ⟨lw_p11, List.forall_mem_cons.mpr ⟨lw_p12, List.forall_mem_cons.mpr ⟨lw_p13, List.forall_mem_cons.mpr ⟨lw_p14, List.forall_mem_cons.mpr ⟨lw_p15, fun _ h => absurd h List.not_mem_nil⟩⟩⟩⟩⟩⟩⟩⟩⟩⟩⟩⟩⟩⟩⟩⟩
theorem lw_p16 : lw_okq (⟨"FieldBook", "requireRunning", "(I)V"⟩, 6) := ⟨⟨by decide +kernel, by decide +kernel⟩, List.mem_of_getElem? (i := 19) (by decide +kernel), List.mem_of_getElem? (i := 547) (by decide +kernel), List.mem_of_getElem? (i := 548) (by decide +kernel)⟩
theorem lw_p17 : lw_okq (⟨"FieldBook$Book", "reasonOf", "(ILFieldBook$Arrival;)I"⟩, 6) := ⟨⟨by decide +kernel, by decide +kernel⟩, List.mem_of_getElem? (i := 27) (by decide +kernel), List.mem_of_getElem? (i := 606) (by decide +kernel), List.mem_of_getElem? (i := 607) (by decide +kernel)⟩
theorem lw_p18 : lw_okq (⟨"FieldBook", "slotOf", "(I)LFieldBook$Slot;"⟩, 6) := ⟨⟨by decide +kernel, by decide +kernel⟩, List.mem_of_getElem? (i := 19) (by decide +kernel), List.mem_of_getElem? (i := 654) (by decide +kernel), List.mem_of_getElem? (i := 655) (by decide +kernel)⟩
theorem lw_p19 : lw_okq (⟨"FieldBookModel", "isOpen", "()Z"⟩, 10) := ⟨⟨by decide +kernel, by decide +kernel⟩, List.mem_of_getElem? (i := 740) (by decide +kernel), List.mem_of_getElem? (i := 793) (by decide +kernel), List.mem_of_getElem? (i := 794) (by decide +kernel)⟩
theorem lw_p20 : lw_okq (⟨"FieldBookModel", "goes", "(ZZZ)Z"⟩, 10) := ⟨⟨by decide +kernel, by decide +kernel⟩, List.mem_of_getElem? (i := 740) (by decide +kernel), List.mem_of_getElem? (i := 797) (by decide +kernel), List.mem_of_getElem? (i := 798) (by decide +kernel)⟩
theorem lw_p21 : lw_okq (⟨"FieldBookModel", "saves", "()V"⟩, 10) := ⟨⟨by decide +kernel, by decide +kernel⟩, List.mem_of_getElem? (i := 740) (by decide +kernel), List.mem_of_getElem? (i := 801) (by decide +kernel), List.mem_of_getElem? (i := 802) (by decide +kernel)⟩
theorem lw_p22 : lw_okq (⟨"FieldBookModel", "copies", "(II)V"⟩, 10) := ⟨⟨by decide +kernel, by decide +kernel⟩, List.mem_of_getElem? (i := 740) (by decide +kernel), List.mem_of_getElem? (i := 805) (by decide +kernel), List.mem_of_getElem? (i := 806) (by decide +kernel)⟩
theorem lw_p23 : lw_okq (⟨"FieldBookModel", "isHorse", "(I)Z"⟩, 10) := ⟨⟨by decide +kernel, by decide +kernel⟩, List.mem_of_getElem? (i := 740) (by decide +kernel), List.mem_of_getElem? (i := 813) (by decide +kernel), List.mem_of_getElem? (i := 814) (by decide +kernel)⟩
theorem lw_p24 : lw_okq (⟨"FieldBookModel", "runs", "(I)Z"⟩, 10) := ⟨⟨by decide +kernel, by decide +kernel⟩, List.mem_of_getElem? (i := 740) (by decide +kernel), List.mem_of_getElem? (i := 817) (by decide +kernel), List.mem_of_getElem? (i := 818) (by decide +kernel)⟩
theorem lw_p25 : lw_okq (⟨"FieldBookModel", "betsOn", "(I)I"⟩, 10) := ⟨⟨by decide +kernel, by decide +kernel⟩, List.mem_of_getElem? (i := 740) (by decide +kernel), List.mem_of_getElem? (i := 821) (by decide +kernel), List.mem_of_getElem? (i := 822) (by decide +kernel)⟩
theorem lw_p26 : lw_okq (⟨"FieldBookModel", "isArrival", "()Z"⟩, 10) := ⟨⟨by decide +kernel, by decide +kernel⟩, List.mem_of_getElem? (i := 740) (by decide +kernel), List.mem_of_getElem? (i := 847) (by decide +kernel), List.mem_of_getElem? (i := 848) (by decide +kernel)⟩
theorem lw_p27 : lw_okq (⟨"FieldBookModel", "lays", "()Z"⟩, 10) := ⟨⟨by decide +kernel, by decide +kernel⟩, List.mem_of_getElem? (i := 740) (by decide +kernel), List.mem_of_getElem? (i := 851) (by decide +kernel), List.mem_of_getElem? (i := 852) (by decide +kernel)⟩
theorem lw_p28 : lw_okq (⟨"FieldBookModel", "forgets", "()V"⟩, 10) := ⟨⟨by decide +kernel, by decide +kernel⟩, List.mem_of_getElem? (i := 740) (by decide +kernel), List.mem_of_getElem? (i := 855) (by decide +kernel), List.mem_of_getElem? (i := 856) (by decide +kernel)⟩
theorem lw_p29 : lw_okq (⟨"FieldBookModel", "wins", "()I"⟩, 10) := ⟨⟨by decide +kernel, by decide +kernel⟩, List.mem_of_getElem? (i := 740) (by decide +kernel), List.mem_of_getElem? (i := 859) (by decide +kernel), List.mem_of_getElem? (i := 860) (by decide +kernel)⟩
theorem lw_p30 : lw_okq (⟨"FieldBookModel", "staked", "(I)I"⟩, 10) := ⟨⟨by decide +kernel, by decide +kernel⟩, List.mem_of_getElem? (i := 740) (by decide +kernel), List.mem_of_getElem? (i := 863) (by decide +kernel), List.mem_of_getElem? (i := 864) (by decide +kernel)⟩
theorem lw_p31 : lw_okq (⟨"FieldBookModel", "returns", "(I)I"⟩, 10) := ⟨⟨by decide +kernel, by decide +kernel⟩, List.mem_of_getElem? (i := 740) (by decide +kernel), List.mem_of_getElem? (i := 867) (by decide +kernel), List.mem_of_getElem? (i := 868) (by decide +kernel)⟩
def lw_privs_2 : List (MethodName × Nat) := [(⟨"FieldBook", "requireRunning", "(I)V"⟩, 6), (⟨"FieldBook$Book", "reasonOf", "(ILFieldBook$Arrival;)I"⟩, 6), (⟨"FieldBook", "slotOf", "(I)LFieldBook$Slot;"⟩, 6), (⟨"FieldBookModel", "isOpen", "()Z"⟩, 10), (⟨"FieldBookModel", "goes", "(ZZZ)Z"⟩, 10), (⟨"FieldBookModel", "saves", "()V"⟩, 10), (⟨"FieldBookModel", "copies", "(II)V"⟩, 10), (⟨"FieldBookModel", "isHorse", "(I)Z"⟩, 10), (⟨"FieldBookModel", "runs", "(I)Z"⟩, 10), (⟨"FieldBookModel", "betsOn", "(I)I"⟩, 10), (⟨"FieldBookModel", "isArrival", "()Z"⟩, 10), (⟨"FieldBookModel", "lays", "()Z"⟩, 10), (⟨"FieldBookModel", "forgets", "()V"⟩, 10), (⟨"FieldBookModel", "wins", "()I"⟩, 10), (⟨"FieldBookModel", "staked", "(I)I"⟩, 10), (⟨"FieldBookModel", "returns", "(I)I"⟩, 10)]
theorem lw_r2 : ∀ q ∈ lw_privs_2, lw_okq q := List.forall_mem_cons.mpr ⟨lw_p16, List.forall_mem_cons.mpr ⟨lw_p17, List.forall_mem_cons.mpr ⟨lw_p18, List.forall_mem_cons.mpr ⟨lw_p19, List.forall_mem_cons.mpr ⟨lw_p20, List.forall_mem_cons.mpr ⟨lw_p21, List.forall_mem_cons.mpr ⟨lw_p22, List.forall_mem_cons.mpr ⟨lw_p23, List.forall_mem_cons.mpr ⟨lw_p24, List.forall_mem_cons.mpr ⟨lw_p25, List.forall_mem_cons.mpr ⟨lw_p26, List.forall_mem_cons.mpr ⟨lw_p27, List.forall_mem_cons.mpr ⟨lw_p28, List.forall_mem_cons.mpr ⟨lw_p29, List.forall_mem_cons.mpr ⟨lw_p30, List.forall_mem_cons.mpr ⟨lw_p31, fun _ h => absurd h List.not_mem_nil⟩⟩⟩⟩⟩⟩⟩⟩⟩⟩⟩⟩⟩⟩⟩⟩
theorem lw_p32 : lw_okq (⟨"FieldBookModel", "forWin", "(IIIII)I"⟩, 10) := ⟨⟨by decide +kernel, by decide +kernel⟩, List.mem_of_getElem? (i := 740) (by decide +kernel), List.mem_of_getElem? (i := 871) (by decide +kernel), List.mem_of_getElem? (i := 872) (by decide +kernel)⟩
theorem lw_p33 : lw_okq (⟨"FieldBookModel", "won", "(IIII)I"⟩, 10) := ⟨⟨by decide +kernel, by decide +kernel⟩, List.mem_of_getElem? (i := 740) (by decide +kernel), List.mem_of_getElem? (i := 875) (by decide +kernel), List.mem_of_getElem? (i := 876) (by decide +kernel)⟩
theorem lw_p34 : lw_okq (⟨"FieldBookModel", "forPlace", "(I)I"⟩, 10) := ⟨⟨by decide +kernel, by decide +kernel⟩, List.mem_of_getElem? (i := 740) (by decide +kernel), List.mem_of_getElem? (i := 879) (by decide +kernel), List.mem_of_getElem? (i := 880) (by decide +kernel)⟩
theorem lw_p35 : lw_okq (⟨"FieldBookModel", "places", "()I"⟩, 10) := ⟨⟨by decide +kernel, by decide +kernel⟩, List.mem_of_getElem? (i := 740) (by decide +kernel), List.mem_of_getElem? (i := 883) (by decide +kernel), List.mem_of_getElem? (i := 884) (by decide +kernel)⟩
theorem lw_p36 : lw_okq (⟨"FieldBookModel", "field", "()I"⟩, 10) := ⟨⟨by decide +kernel, by decide +kernel⟩, List.mem_of_getElem? (i := 740) (by decide +kernel), List.mem_of_getElem? (i := 887) (by decide +kernel), List.mem_of_getElem? (i := 888) (by decide +kernel)⟩
theorem lw_p37 : lw_okq (⟨"FieldBookModel", "returnsOff", "(I)I"⟩, 10) := ⟨⟨by decide +kernel, by decide +kernel⟩, List.mem_of_getElem? (i := 740) (by decide +kernel), List.mem_of_getElem? (i := 891) (by decide +kernel), List.mem_of_getElem? (i := 892) (by decide +kernel)⟩
theorem lw_p38 : lw_okq (⟨"FieldBookModel", "horses", "(II)I"⟩, 10) := ⟨⟨by decide +kernel, by decide +kernel⟩, List.mem_of_getElem? (i := 740) (by decide +kernel), List.mem_of_getElem? (i := 929) (by decide +kernel), List.mem_of_getElem? (i := 930) (by decide +kernel)⟩
theorem lw_p39 : lw_okq (⟨"FieldBookModel", "stakes", "(IZ)I"⟩, 10) := ⟨⟨by decide +kernel, by decide +kernel⟩, List.mem_of_getElem? (i := 740) (by decide +kernel), List.mem_of_getElem? (i := 933) (by decide +kernel), List.mem_of_getElem? (i := 934) (by decide +kernel)⟩
theorem lw_p40 : lw_okq (⟨"FieldBookModel", "counted", "(I)I"⟩, 10) := ⟨⟨by decide +kernel, by decide +kernel⟩, List.mem_of_getElem? (i := 740) (by decide +kernel), List.mem_of_getElem? (i := 949) (by decide +kernel), List.mem_of_getElem? (i := 950) (by decide +kernel)⟩
theorem lw_p41 : lw_okq (⟨"FieldBookModel", "stakedAll", "(Z)I"⟩, 10) := ⟨⟨by decide +kernel, by decide +kernel⟩, List.mem_of_getElem? (i := 740) (by decide +kernel), List.mem_of_getElem? (i := 953) (by decide +kernel), List.mem_of_getElem? (i := 954) (by decide +kernel)⟩
theorem lw_p42 : lw_okq (⟨"FieldBookModel", "round", "()I"⟩, 10) := ⟨⟨by decide +kernel, by decide +kernel⟩, List.mem_of_getElem? (i := 740) (by decide +kernel), List.mem_of_getElem? (i := 957) (by decide +kernel), List.mem_of_getElem? (i := 958) (by decide +kernel)⟩
theorem lw_p43 : lw_okq (⟨"FieldBookModel", "lost", "()I"⟩, 10) := ⟨⟨by decide +kernel, by decide +kernel⟩, List.mem_of_getElem? (i := 740) (by decide +kernel), List.mem_of_getElem? (i := 961) (by decide +kernel), List.mem_of_getElem? (i := 962) (by decide +kernel)⟩
theorem lw_p44 : lw_okq (⟨"FieldBookModel", "byBuffer", "()I"⟩, 10) := ⟨⟨by decide +kernel, by decide +kernel⟩, List.mem_of_getElem? (i := 740) (by decide +kernel), List.mem_of_getElem? (i := 973) (by decide +kernel), List.mem_of_getElem? (i := 974) (by decide +kernel)⟩
theorem lw_p45 : lw_okq (⟨"FieldBookModel", "ifFirst", "(I)I"⟩, 10) := ⟨⟨by decide +kernel, by decide +kernel⟩, List.mem_of_getElem? (i := 740) (by decide +kernel), List.mem_of_getElem? (i := 981) (by decide +kernel), List.mem_of_getElem? (i := 982) (by decide +kernel)⟩
theorem lw_p46 : lw_okq (⟨"FieldBookModel", "winsWith", "(I)I"⟩, 10) := ⟨⟨by decide +kernel, by decide +kernel⟩, List.mem_of_getElem? (i := 740) (by decide +kernel), List.mem_of_getElem? (i := 985) (by decide +kernel), List.mem_of_getElem? (i := 986) (by decide +kernel)⟩
theorem lw_p47 : lw_okq (⟨"FieldBookModel", "worstOne", "()I"⟩, 10) := ⟨⟨by decide +kernel, by decide +kernel⟩, List.mem_of_getElem? (i := 740) (by decide +kernel), List.mem_of_getElem? (i := 993) (by decide +kernel), List.mem_of_getElem? (i := 994) (by decide +kernel)⟩
def lw_privs_3 : List (MethodName × Nat) := [(⟨"FieldBookModel", "forWin", "(IIIII)I"⟩, 10), (⟨"FieldBookModel", "won", "(IIII)I"⟩, 10), (⟨"FieldBookModel", "forPlace", "(I)I"⟩, 10), (⟨"FieldBookModel", "places", "()I"⟩, 10), (⟨"FieldBookModel", "field", "()I"⟩, 10), (⟨"FieldBookModel", "returnsOff", "(I)I"⟩, 10), (⟨"FieldBookModel", "horses", "(II)I"⟩, 10), (⟨"FieldBookModel", "stakes", "(IZ)I"⟩, 10), (⟨"FieldBookModel", "counted", "(I)I"⟩, 10), (⟨"FieldBookModel", "stakedAll", "(Z)I"⟩, 10), (⟨"FieldBookModel", "round", "()I"⟩, 10), (⟨"FieldBookModel", "lost", "()I"⟩, 10), (⟨"FieldBookModel", "byBuffer", "()I"⟩, 10), (⟨"FieldBookModel", "ifFirst", "(I)I"⟩, 10), (⟨"FieldBookModel", "winsWith", "(I)I"⟩, 10), (⟨"FieldBookModel", "worstOne", "()I"⟩, 10)]
theorem lw_r3 : ∀ q ∈ lw_privs_3, lw_okq q := List.forall_mem_cons.mpr ⟨lw_p32, List.forall_mem_cons.mpr ⟨lw_p33, List.forall_mem_cons.mpr ⟨lw_p34, List.forall_mem_cons.mpr ⟨lw_p35, List.forall_mem_cons.mpr ⟨lw_p36, List.forall_mem_cons.mpr ⟨lw_p37, List.forall_mem_cons.mpr ⟨lw_p38, List.forall_mem_cons.mpr ⟨lw_p39, List.forall_mem_cons.mpr ⟨lw_p40, List.forall_mem_cons.mpr ⟨lw_p41, List.forall_mem_cons.mpr ⟨lw_p42, List.forall_mem_cons.mpr ⟨lw_p43, List.forall_mem_cons.mpr ⟨lw_p44, List.forall_mem_cons.mpr ⟨lw_p45, List.forall_mem_cons.mpr ⟨lw_p46, List.forall_mem_cons.mpr ⟨lw_p47, fun _ h => absurd h List.not_mem_nil⟩⟩⟩⟩⟩⟩⟩⟩⟩⟩⟩⟩⟩⟩⟩⟩
theorem lw_p48 : lw_okq (⟨"FieldBookModel", "covers", "(I)I"⟩, 10) := ⟨⟨by decide +kernel, by decide +kernel⟩, List.mem_of_getElem? (i := 740) (by decide +kernel), List.mem_of_getElem? (i := 1001) (by decide +kernel), List.mem_of_getElem? (i := 1002) (by decide +kernel)⟩
theorem lw_p49 : lw_okq (⟨"FieldBookModel", "safe", "()D"⟩, 10) := ⟨⟨by decide +kernel, by decide +kernel⟩, List.mem_of_getElem? (i := 740) (by decide +kernel), List.mem_of_getElem? (i := 1009) (by decide +kernel), List.mem_of_getElem? (i := 1010) (by decide +kernel)⟩
def lw_privs_4 : List (MethodName × Nat) := [(⟨"FieldBookModel", "covers", "(I)I"⟩, 10), (⟨"FieldBookModel", "safe", "()D"⟩, 10)]
theorem lw_r4 : ∀ q ∈ lw_privs_4, lw_okq q := List.forall_mem_cons.mpr ⟨lw_p48, List.forall_mem_cons.mpr ⟨lw_p49, fun _ h => absurd h List.not_mem_nil⟩⟩
def lw_privs : List (MethodName × Nat) := lw_privs_1 ++ (lw_privs_2 ++ (lw_privs_3 ++ (lw_privs_4)))
def lw_tbl : List Cond := k2_sels lw_privs ++ tables_1
theorem lw_privs_ok : ∀ q ∈ lw_privs, lw_okq q := by
  show ∀ q ∈ lw_privs_1 ++ (lw_privs_2 ++ (lw_privs_3 ++ (lw_privs_4))), lw_okq q
  exact List.forall_mem_append.mpr ⟨lw_r1, List.forall_mem_append.mpr ⟨lw_r2, List.forall_mem_append.mpr ⟨lw_r3, lw_r4⟩⟩⟩
/-- the streams that the claim lets the run draw from -/
abbrev lw_cs : List Choice := [Jvm.Choice.named "NaN.bits"]
theorem lw_bits : nanBits ∈ lw_cs := by first | decide | exact List.mem_cons_self | simp [lw_cs, nanBits]
-- ===== end of PART A; then your names; then what follows =====
end
section
/-! ===== BEGIN words of one list among another's, by their places ===== -/
theorem goodIn_r {big : List Cond} (ws : List Cond) (ps : List Nat) (hp : ws = ps.filterMap (fun i => big[i]?)) (h : ws.all goodWord = true) : GoodIn big ws := by
  intro w hw
  have h1 := List.all_eq_true.mp h w hw
  rw [hp] at hw
  obtain ⟨i, -, hi⟩ := List.mem_filterMap.mp hw
  have hm : w ∈ big := by first | exact List.mem_of_getElem? hi | exact List.getElem?_mem hi
  exact ⟨hm, good_of_word h1⟩
theorem goodIn_app {big a b : List Cond} (ha : GoodIn big a) (hb : GoodIn big b) : GoodIn big (a ++ b) := fun w h => (List.mem_append.mp h).elim (ha w) (hb w)
theorem goodIn_ca {big a b : List Cond} {c : Cond} (ha : GoodIn big (c :: a)) (hb : GoodIn big b) : GoodIn big (c :: (a ++ b)) := fun w h => (List.mem_cons.mp h).elim (fun e => ha w (List.mem_cons.mpr (Or.inl e))) (fun h => (List.mem_append.mp h).elim (fun h => ha w (List.mem_cons.mpr (Or.inr h))) (hb w))
theorem goodIn_sub {big ws : List Cond} (hm : ∀ w ∈ ws, w ∈ big) (h : ws.all goodWord = true) : GoodIn big ws := fun w hw => ⟨hm w hw, good_of_word (List.all_eq_true.mp h w hw)⟩
/-! ===== END ===== -/

/-! ===== BEGIN exceptions that leave a method, and their catching by the caller (launches without stack traces) ===== -/
section VXA
/-! The laws vx_back, vx_callV, vx_callS, vx_callSW, vx_throw0, vx_throwS follow proofs of the library, with one case more: JvmDerived/Free/Laws.lean (Back.of_free), Shelf42/LK1.lean (callV, callS), Shelf/KitTraced.lean (throwNew0V, throwNewS). -/
/-- where a method has thrown q: the class by its name, the cell, what was written, the world -/
def vx_T (XC : String → State → State → Prop) (st : State) (q : Addr) (t : State) (mc ms : Nat) (free : Addr → Prop) : Prop :=
  ∃ (E : String) (ce : Cell) (L : List Loc), XC E st t ∧ t.heap[q]? = some ce ∧ ce.vm = .none ∧ st.vm.findClass E = some ce.cls ∧ st.WarmedH t.vm ∧ st.sameButNew ({ t with vm := st.vm } : State) L mc ms ∧ ∀ z ∈ L, free z.base
def vx_Q (Qc : Array Value → State → Outcome → State → Prop) (XC : String → State → State → Prop) (mc ms : Nat) (free : Addr → Prop) : Array Value → State → Outcome → State → Prop := fun a st o t =>
  (Qc a st o t ∧ ∃ L, FrameEnd st o t L mc ms ∧ ∀ q ∈ L, free q.base) ∨ ∃ q, o = .threw q ∧ vx_T XC st q t mc ms free
/-- a callee that returns or throws -/
def vx_Met (l : Launch) (y : MethodName) (ws : List Cond) (rm : Room) (Pc : Array Value → State → Prop) (Qc : Array Value → State → Outcome → State → Prop) (XC : String → State → State → Prop) (mc ms : Nat) (free : Addr → Prop) : Prop :=
  MetFree l y (headSpec ws rm) Pc (fun _ _ _ _ _ => True) (vx_Q Qc XC mc ms free)
def vx_Post (XC : String → State → State → Prop) (mc ms : Nat) (free : Addr → Prop) : Pt → Array Value → Addr → Pt → Prop := fun A a q B =>
  ∃ (g : JFrame) (mk : MethodId) (t : State) (L : List Loc) (E : String) (ce : Cell), B.U.heap = t.heap ∧ B.U.vm = t.vm ∧ XC E (A.U.calling g mk a) t ∧ t.heap[q]? = some ce ∧ ce.vm = .none ∧ A.U.vm.findClass E = some ce.cls ∧ B.locs = A.locs ++ L ∧ (∀ z ∈ L, free z.base) ∧ B.cells = A.cells + mc ∧ B.slots = A.slots + ms
def vx_Back (l : Launch) (R : Room) (p : Program) (e : Env) (below : List Frame) (s : State) (sargs : Array Value) (y : MethodName) (len W9 : Nat)
    (Pre : Pt → Array Value → Prop) (Post : Pt → Array Value → Option Value → Pt → Prop) (PostX : Pt → Array Value → Addr → Pt → Prop) : Prop :=
  ∀ (m : MethodId) (meth : Method) (c : Code) (A : Pt) (g : JFrame) (ig : Instr) (mk : MethodId) (a : Array Value),
    Stand p l e R s m sargs below meth c A.U A.locs A.cells A.slots → g.method = m → g.locals.size = c.maxLocals → decode c.code g.pc = .ok (ig, len) →
    2 * g.monitorRoom + (g.stack.map fun v => v.category).sum ≤ W9 → A.U.methodNamed? y = some mk → Pre A a →
    (∃ (v : Option Value) (B : Pt), Stand p l e R s m sargs below meth c B.U B.locs B.cells B.slots ∧ Post A a v B ∧
      Steps p.tables e below (doInvoke e (A.U.setTop g) [] mk a).1 (B.U.setTop { g with pc := g.pc + len, stack := v.toList ++ g.stack })) ∨
    (∃ (q : Addr) (B : Pt), Stand p l e R s m sargs below meth c B.U B.locs B.cells B.slots ∧ PostX A a q B ∧
      Steps p.tables e below (doInvoke e (A.U.setTop g) [] mk a).1 ((B.U.setTop g).pushFrame (.throwing q)))
section Payer
variable {l : Launch} {R : Room} {p : Program} {e : Env} {below : List Frame} {s : State} {sargs : Array Value} {y : MethodName} {len W9 : Nat}
theorem vx_back {ws : List Cond} {rm : Room} {Pc : Array Value → State → Prop} {Qc : Array Value → State → Outcome → State → Prop} {XC : String → State → State → Prop} {mc ms : Nat} {free : Addr → Prop} {bytes : ByteArray} {maxL : Nat} {ret : Option FieldType}
    (hM : vx_Met l y ws rm Pc Qc XC mc ms free) (hblind : FrameBlind Pc) (hrc : rm.cells = mc) (hrs : rm.slots = ms)
    (hframes : rm.frames + 1 ≤ R.frames) (hlocals : W9 + (maxL + 11) + rm.locals ≤ R.locals)
    (hws : ∀ w ∈ ws, ∀ a' U, s.WarmedH U.vm → w.before a' U = true) (hcode : Cond.code y bytes maxL ret ∈ ws) (hinit : ∀ a' U, s.WarmedH U.vm → (Cond.initialized y.cls).before a' U = true) :
    vx_Back l R p e below s sargs y len W9 (PreOf R mc ms Pc) (PostOf Qc mc ms free) (vx_Post XC mc ms free) := by
  intro m meth c A g ig mk a X hg hsize hdg hW hn hp
  have h1 : (headSpec ws rm).pre.before a A.U = true := atoms_intro fun w hw => hws w hw _ _ X.warmed
  have h2 : (Cond.code y bytes maxL ret).before a A.U = true := hws _ hcode _ _ X.warmed
  have h3 : (Cond.initialized y.cls).before a A.U = true := hinit _ _ X.warmed
  have h4 : A.cells + (headSpec ws rm).room.cells ≤ R.cells := by rw [show (headSpec ws rm).room.cells = mc from hrc]; exact hp.1
  have h5 : A.slots + (headSpec ws rm).room.slots ≤ R.slots := by rw [show (headSpec ws rm).room.slots = ms from hrs]; exact hp.2.1
  have hPc : Pc a (A.U.calling g mk a) := hblind _ _ _ _ hp.2.2
  obtain ⟨U, Ls, c0, s0⟩ := A
  dsimp only [Pt.U, Pt.locs, Pt.cells, Pt.slots] at h1 h2 h3 h4 h5 X hn hPc ⊢
  obtain ⟨methY, cY, hmY, hcY, -, hlY, -, -, -, -⟩ := Cond.code_spec hn h2
  obtain ⟨kY, hkY, -⟩ := className_of_methodNamed hn
  have hinitY : kY.init = .initialized := Cond.initialized_spec (findClass_of_methodNamed hn) hkY h3
  have h : At U g.method c below := by rw [hg]; exact X.here
  have hlocals9 : W9 + (maxL + 11) + (headSpec ws rm).room.locals ≤ R.locals := hlocals
  have happ : (headSpec ws rm).appliesLoose y e.platform (U.calling g mk a) = true :=
    Spec.appliesLoose_calling (g := g) h hdg hn hkY hinitY
      (X.room_calling (g := g) (R' := (headSpec ws rm).room) hsize hmY hcY hframes (by rw [hlY]; omega) h4 h5) h1
  obtain ⟨mid, hmid⟩ := h.above
  have hfr : (U.setTop g).frames = (.java g :: mid) ++ below := by rw [State.frames_setTop' g h.top, hmid]; rfl
  obtain ⟨o, s₂, hsteps, -, hend, hq⟩ := Steps.callFree hM p X.admits X.cas X.clock (acts := []) hfr happ hPc trivial
  have hq' : vx_Q Qc XC mc ms free a (U.calling g mk a) o s₂ := hq
  rw [State.frames_setTop' g h.top] at hend
  obtain ⟨g₀, hg0⟩ := Option.isSome_iff_exists.mp h.top
  obtain ⟨r, hr⟩ := State.topJava?_eq_some.mp hg0
  have hr' : (({ U with heap := s₂.heap, slotsUsed := s₂.slotsUsed } : State).setVm s₂.vm).frames = .java g₀ :: r := hr
  rcases hq' with ⟨hqc, L, hfe, hL⟩ | ⟨q, rfl, E, ce, L, hx, hce, hcv, hcl, hW₂, hsm, hL⟩
  · obtain ⟨⟨v, rfl⟩, hW₂, e2, q2, q3, q4, q5, q6⟩ := id hfe
    have e3 : s₂ = ({ (U.calling g mk a).setFrames s₂.frames with heap := s₂.heap, slotsUsed := s₂.slotsUsed } : State).setVm s₂.vm := by
      have : s₂ = ({ s₂ with vm := (U.calling g mk a).vm } : State).setVm s₂.vm := rfl
      rw [e2] at this
      exact this
    obtain ⟨c₂, i₂, len₂, hc₂, hd₂, hf₂⟩ := hend
    have hW' : U.WarmedH s₂.vm := hW₂
    have hcc : c₂ = c := by
      have h1 : s₂.code? g.method = U.code? g.method := by
        rw [State.code?_eq, State.code?_eq, hW'.alike.method?]
      exact Option.some.inj (hc₂.symm.trans (h1.trans h.code))
    subst hcc
    have hlen : len₂ = len := by rw [hdg] at hd₂; cases hd₂; rfl
    subst hlen
    have hs₂ : s₂ = (({ U with heap := s₂.heap, slotsUsed := s₂.slotsUsed } : State).setVm s₂.vm).setTop { g with pc := g.pc + len₂, stack := v.toList ++ g.stack } := by
      refine e3.trans ?_
      rw [hf₂, State.calling_eq h.top, State.setFrames_setFrames, State.setTop_of_frames _ hr', hr]
      rfl
    have hsame : U.sameButNew ({ U with heap := s₂.heap, slotsUsed := s₂.slotsUsed } : State) L mc ms := by
      refine ⟨?_, q2, q3, q4, q5, q6⟩
      obtain ⟨t, ht, -⟩ := State.frames_cons hr
      show ({ U with heap := s₂.heap, slotsUsed := s₂.slotsUsed } : State) = { U.setFrames U.frames with heap := s₂.heap, slotsUsed := s₂.slotsUsed }
      rw [State.setFrames_self ht]
    subst hg
    refine Or.inl ⟨v, ⟨(({ U with heap := s₂.heap, slotsUsed := s₂.slotsUsed } : State).setVm s₂.vm), Ls ++ L, c0 + mc, s0 + ms⟩,
      ⟨X.admits, X.cas, X.clock, X.frames, X.room, X.hears, X.method, X.code, (X.here.setHeapUsed s₂.heap s₂.slotsUsed).setVm hW'.alike, X.tail, State.WarmedH.trans X.warmed hW', X.limits, X.bytes, X.same.trans (hsame.setVm s.vm)⟩,
      ⟨g, mk, s₂, L, rfl, rfl, hqc, rfl, hL, rfl, rfl⟩, ?_⟩
    show Steps p.tables e below _ ((({ U with heap := s₂.heap, slotsUsed := s₂.slotsUsed } : State).setVm s₂.vm).setTop { g with pc := g.pc + len₂, stack := v.toList ++ g.stack })
    rw [← hs₂]
    exact hsteps
  · obtain ⟨e2, q2, q3, q4, q5, q6⟩ := id hsm
    have e3 : s₂ = ({ (U.calling g mk a).setFrames s₂.frames with heap := s₂.heap, slotsUsed := s₂.slotsUsed } : State).setVm s₂.vm := by
      have : s₂ = ({ s₂ with vm := (U.calling g mk a).vm } : State).setVm s₂.vm := rfl
      rw [e2] at this
      exact this
    have hf₂ : s₂.frames = .throwing q :: .java g :: U.frames.tail := hend
    have hW' : U.WarmedH s₂.vm := hW₂
    have hs₂ : s₂ = ((({ U with heap := s₂.heap, slotsUsed := s₂.slotsUsed } : State).setVm s₂.vm).setTop g).pushFrame (.throwing q) := by
      refine e3.trans ?_
      rw [hf₂, State.calling_eq h.top, State.setFrames_setFrames, State.pushFrame, State.frames_setTop _ hr', State.setTop_of_frames _ hr', State.setFrames_setFrames, hr]
      rfl
    have hsame : U.sameButNew ({ U with heap := s₂.heap, slotsUsed := s₂.slotsUsed } : State) L mc ms := by
      refine ⟨?_, q2, q3, q4, q5, q6⟩
      obtain ⟨t, ht, -⟩ := State.frames_cons hr
      show ({ U with heap := s₂.heap, slotsUsed := s₂.slotsUsed } : State) = { U.setFrames U.frames with heap := s₂.heap, slotsUsed := s₂.slotsUsed }
      rw [State.setFrames_self ht]
    subst hg
    refine Or.inr ⟨q, ⟨(({ U with heap := s₂.heap, slotsUsed := s₂.slotsUsed } : State).setVm s₂.vm), Ls ++ L, c0 + mc, s0 + ms⟩,
      ⟨X.admits, X.cas, X.clock, X.frames, X.room, X.hears, X.method, X.code, (X.here.setHeapUsed s₂.heap s₂.slotsUsed).setVm hW'.alike, X.tail, State.WarmedH.trans X.warmed hW', X.limits, X.bytes, X.same.trans (hsame.setVm s.vm)⟩,
      ⟨g, mk, s₂, L, E, ce, rfl, rfl, hx, hce, hcv, hcl, rfl, hL, rfl, rfl⟩, ?_⟩
    show Steps p.tables e below _ (((({ U with heap := s₂.heap, slotsUsed := s₂.slotsUsed } : State).setVm s₂.vm).setTop g).pushFrame (.throwing q))
    rw [← hs₂]
    exact hsteps
end Payer
section Calls
variable {p : Program} {l : Launch} {e : Env} {R : Room} {s : State} {m : MethodId} {args : Array Value} {below : List Frame} {meth : Method} {c : Code} {T : State} {locs : List Loc} {cells slots : Nat}
theorem vx_callV (X : Stand p l e R s m args below meth c T locs cells slots) (hexec : p.tables.exec = Jvm.exec) {own C : String} {index : Nat} {y : MethodName} {bytes : ByteArray} {maxL : Nat} {ret : Option FieldType}
    (hown : s.vm.findClass own = some m.cls) (hlink : (Cond.methodLink own index y).before args s = true) (hinst : (Cond.instanceMethod y).before args s = true) (hsel : (Cond.selects C y y).before args s = true)
    (hcode : (Cond.code y bytes maxL ret).before args s = true) (hy : y.cls ≠ "java/lang/invoke/MethodHandle" ∧ y.cls ≠ "java/lang/invoke/VarHandle")
    {W9 : Nat} {Pre : Pt → Array Value → Prop} {Post : Pt → Array Value → Option Value → Pt → Prop} {PostX : Pt → Array Value → Addr → Pt → Prop} (hK : vx_Back l R p e below s args y 3 W9 Pre Post PostX)
    {b : Addr} {cellB : Cell} (hcell : T.heap[b]? = some cellB) (hobj : cellB.vm.isStatics = false) (hcls : s.vm.findClass C = some cellB.cls)
    {g : JFrame} (hg : g.method = m) (hsize : g.locals.size = c.maxLocals) {argsL rest : List Value} (hlen : ∀ sig, parseMethodDescriptor y.desc = some sig → argsL.length = sig.parameters.length)
    (hstack : g.stack = argsL.reverse ++ .ref b :: rest) (hW : 2 * g.monitorRoom + (rest.map fun v => v.category).sum ≤ W9) (hdg : decode c.code g.pc = .ok (.invokevirtual index, 3))
    (hpre : ∀ vm₁, s.WarmedH vm₁ → Pre ⟨T.setVm vm₁, locs, cells, slots⟩ (Value.ref b :: argsL).toArray) :
    (∃ (v : Option Value) (vm₁ : Vm) (B : Pt), s.WarmedH vm₁ ∧ Stand p l e R s m args below meth c B.U B.locs B.cells B.slots ∧ Post ⟨T.setVm vm₁, locs, cells, slots⟩ (Value.ref b :: argsL).toArray v B ∧
      ∀ target, Steps p.tables e below (B.U.setTop { g with pc := g.pc + 3, stack := v.toList ++ rest }) target → Steps p.tables e below (T.setTop g) target) ∨
    (∃ (q : Addr) (vm₁ : Vm) (B : Pt), s.WarmedH vm₁ ∧ Stand p l e R s m args below meth c B.U B.locs B.cells B.slots ∧ PostX ⟨T.setVm vm₁, locs, cells, slots⟩ (Value.ref b :: argsL).toArray q B ∧
      Steps p.tables e below (T.setTop g) ((B.U.setTop { g with stack := rest }).pushFrame (.throwing q))) := by
  obtain ⟨mk, methM, hnamed, hmethM, hstM, habM⟩ := Cond.instanceMethod_spec hinst
  obtain ⟨methM', cM, hmethM', -, -, -, -, -, -, hsigM⟩ := Cond.code_spec hnamed hcode
  cases hmethM.symm.trans hmethM'
  obtain ⟨c2, r2, m2, q1, q2, q3, q4, kP, hkP, hkPi⟩ := Cond.selects_spec hsel
  cases hcls.symm.trans q1
  cases (State.methodFound?_of_named hnamed hy).symm.trans q2
  cases hnamed.symm.trans q3
  have hselP : selectMethod e.platform s.vm cellB.cls mk = .method mk := by rw [Launch.admits_selectMethod X.admits]; exact q4
  obtain ⟨vm₁, X₁, hstep₁⟩ := X.invokevirtual hexec hown hlink hnamed hmethM hstM hkP hkPi hy (a := b) (cell := cellB) hcell
    (fun z h => by rw [h] at hobj; cases hobj) hselP hmethM habM hkP hkPi (g := g) hg (argsL := argsL) (rest := rest) (hlen _ hsigM) hstack hdg
  rcases hK m meth c ⟨T.setVm vm₁, locs, cells, slots⟩ { g with stack := rest } (.invokevirtual index) mk (Value.ref b :: argsL).toArray X₁ hg hsize hdg hW (X₁.named hnamed) (hpre vm₁ X₁.warmed) with ⟨v, B, X', hpost, hsteps⟩ | ⟨q, B, X', hpost, hsteps⟩
  · exact Or.inl ⟨v, vm₁, B, X₁.warmed, X', hpost, fun target h => hstep₁ _ fun acts => by rw [doInvoke_state]; exact hsteps.trans h⟩
  · exact Or.inr ⟨q, vm₁, B, X₁.warmed, X', hpost, hstep₁ _ fun acts => by rw [doInvoke_state]; exact hsteps⟩
theorem vx_callS (X : Stand p l e R s m args below meth c T locs cells slots) (hexec : p.tables.exec = Jvm.exec) {own : String} {index : Nat} {y : MethodName} {bytes : ByteArray} {maxL : Nat} {ret : Option FieldType}
    (hown : s.vm.findClass own = some m.cls) (hlink : (Cond.methodLink own index y).before args s = true) (hstat : (Cond.static y).before args s = true) (hinit : (Cond.initialized y.cls).before args s = true)
    (hcode : (Cond.code y bytes maxL ret).before args s = true) (hy : y.cls ≠ "java/lang/invoke/MethodHandle" ∧ y.cls ≠ "java/lang/invoke/VarHandle")
    {W9 : Nat} {Pre : Pt → Array Value → Prop} {Post : Pt → Array Value → Option Value → Pt → Prop} {PostX : Pt → Array Value → Addr → Pt → Prop} (hK : vx_Back l R p e below s args y 3 W9 Pre Post PostX)
    {g : JFrame} (hg : g.method = m) (hsize : g.locals.size = c.maxLocals) {argsL rest : List Value} (hlen : ∀ sig, parseMethodDescriptor y.desc = some sig → argsL.length = sig.parameters.length)
    (hstack : g.stack = argsL.reverse ++ rest) (hW : 2 * g.monitorRoom + (rest.map fun v => v.category).sum ≤ W9) (hdg : decode c.code g.pc = .ok (.invokestatic index, 3))
    (hpre : ∀ vm₁, s.WarmedH vm₁ → Pre ⟨T.setVm vm₁, locs, cells, slots⟩ argsL.toArray) :
    (∃ (v : Option Value) (vm₁ : Vm) (B : Pt), s.WarmedH vm₁ ∧ Stand p l e R s m args below meth c B.U B.locs B.cells B.slots ∧ Post ⟨T.setVm vm₁, locs, cells, slots⟩ argsL.toArray v B ∧
      ∀ target, Steps p.tables e below (B.U.setTop { g with pc := g.pc + 3, stack := v.toList ++ rest }) target → Steps p.tables e below (T.setTop g) target) ∨
    (∃ (q : Addr) (vm₁ : Vm) (B : Pt), s.WarmedH vm₁ ∧ Stand p l e R s m args below meth c B.U B.locs B.cells B.slots ∧ PostX ⟨T.setVm vm₁, locs, cells, slots⟩ argsL.toArray q B ∧
      Steps p.tables e below (T.setTop g) ((B.U.setTop { g with stack := rest }).pushFrame (.throwing q))) := by
  obtain ⟨mk, hnamed⟩ := Cond.code_named hcode
  obtain ⟨methM, cM, hmethM, -, -, -, -, -, -, hsigM⟩ := Cond.code_spec hnamed hcode
  have hstatic : methM.isStatic = true := Cond.static_spec hnamed hmethM hstat
  obtain ⟨kP, hkP, -⟩ := className_of_methodNamed hnamed
  have hinitP : kP.init = .initialized := Cond.initialized_spec (findClass_of_methodNamed hnamed) hkP hinit
  obtain ⟨vm₁, X₁, hstep₁⟩ := X.invokestatic hexec hown hlink hnamed hmethM hstatic hkP hinitP hy (g := g) hg (argsL := argsL) (rest := rest) (hlen _ hsigM) hstack hdg
  rcases hK m meth c ⟨T.setVm vm₁, locs, cells, slots⟩ { g with stack := rest } (.invokestatic index) mk argsL.toArray X₁ hg hsize hdg hW (X₁.named hnamed) (hpre vm₁ X₁.warmed) with ⟨v, B, X', hpost, hsteps⟩ | ⟨q, B, X', hpost, hsteps⟩
  · exact Or.inl ⟨v, vm₁, B, X₁.warmed, X', hpost, fun target h => hstep₁ _ fun acts => by rw [doInvoke_state]; exact hsteps.trans h⟩
  · exact Or.inr ⟨q, vm₁, B, X₁.warmed, X', hpost, hstep₁ _ fun acts => by rw [doInvoke_state]; exact hsteps⟩
end Calls
theorem vx_cls {s : State} {T : State} {vm₁ : Vm} {E : String} {k : ClassId} (hW : s.WarmedH vm₁) (h : (T.setVm vm₁).vm.findClass E = some k) : s.vm.findClass E = some k := by
  have h1 : vm₁.findClass E = some k := h
  rw [hW.alike.findClass] at h1
  exact h1
/-- the method's frame g, with q thrown over it -/
def vx_W (p : Program) (l : Launch) (e : Env) (R : Room) (s : State) (m : MethodId) (args : Array Value) (below : List Frame) (meth : Method) (c : Code) (H : Heap) (locs : List Loc) (cells slots : Nat) (Q : State → Prop) (g : JFrame) (q : Addr) : Prop :=
  ∀ T : State, T.heap = H → Stand p l e R s m args below meth c T locs cells slots → ∃ t, Steps p.tables e below ((T.setTop g).pushFrame (.throwing q)) t ∧ Q t
def vx_Run (p : Program) (l : Launch) (e : Env) (R : Room) (s : State) (m : MethodId) (args : Array Value) (below : List Frame) (meth : Method) (c : Code) (H : Heap) (locs : List Loc) (cells slots mc ms : Nat) (g : JFrame) (rest : List Value) (Qa : State → Outcome → State → Prop) (XC : String → State → State → Prop) (free : Addr → Prop) : Prop :=
  ∀ T : State, T.heap = H → Stand p l e R s m args below meth c T locs cells slots →
    (∃ (v : Option Value) (st₀ t T' : State) (L : List Loc), st₀.heap = H ∧ Stand p l e R s m args below meth c T' (locs ++ L) (cells + mc) (slots + ms) ∧ (∀ q ∈ L, free q.base) ∧ T'.heap = t.heap ∧ T'.vm = t.vm ∧ Qa st₀ (.returned v) t ∧
      Goes p e below T g T' { g with pc := g.pc + 3, stack := v.toList ++ rest }) ∨
    (∃ (q : Addr) (st₀ t T' : State) (L : List Loc) (E : String) (ce : Cell), st₀.heap = H ∧ Stand p l e R s m args below meth c T' (locs ++ L) (cells + mc) (slots + ms) ∧ (∀ z ∈ L, free z.base) ∧ T'.heap = t.heap ∧ T'.vm = t.vm ∧ XC E st₀ t ∧ t.heap[q]? = some ce ∧ ce.vm = .none ∧ s.vm.findClass E = some ce.cls ∧
      Steps p.tables e below (T.setTop g) ((T'.setTop { g with stack := rest }).pushFrame (.throwing q)))
def vx_X {S : Type} (px : S → Prop) (B : String → S → State → Prop) (A : Nat → Prop) : String → State → State → Prop := fun E st t => ∃ u : S, px u ∧ B E u t ∧ va_F A st t
section Runs
variable {p : Program} {l : Launch} {e : Env} {R : Room} {s : State} {m : MethodId} {args : Array Value} {below : List Frame} {meth : Method} {c : Code} {H : Heap} {locs : List Loc} {cells slots : Nat}
variable {y : MethodName} {bytes cc : ByteArray} {maxL nL mc ms n index : Nat} {ret : Option FieldType} {ws : List Cond} {rm : Room} {Pc : Array Value → State → Prop} {Qc : Array Value → State → Outcome → State → Prop} {XC : String → State → State → Prop} {free : Addr → Prop} {Ts : List Cond} {own C : String} {b : Addr} {As rest : List Value} {g : JFrame}
theorem vx_callBack (cb : CallB R s args own index y bytes maxL ret ws rm mc ms n) (hM : vx_Met l y ws rm Pc Qc XC mc ms free) (hbl : FrameBlind Pc) : vx_Back l R p e below s args y 3 8 (PreOf R mc ms Pc) (PostOf Qc mc ms free) (vx_Post XC mc ms free) := by
  obtain ⟨hrc, hrs, hfr, hlo, hws, hcw, -, hini, -⟩ := cb
  exact vx_back (bytes := bytes) (maxL := maxL) (ret := ret) hM hbl hrc hrs hfr hlo hws hcw (fun a' U hW => word_at hW (Or.inl (by first | rfl | simp [Cond.onTables, Cond.keeps, Cond.steady])) hini)
theorem vx_runV (S : CallFix p m c cc nL s args Ts own) (hM : vx_Met l y ws rm Pc Qc XC mc ms free) (cw : CallW R s args own C index y bytes maxL ret ws rm mc ms n) (hp : PreV s H C b Pc As)
    (hg : g.method = m) (hn : As.length = n) (hsize : g.locals.size = nL) (hstack : g.stack = As.reverse ++ .ref b :: rest) (hW : 2 * g.monitorRoom + (rest.map fun v => v.category).sum ≤ 8) (hdg : decode cc g.pc = .ok (.invokevirtual index, 3)) (hf : cells + mc ≤ R.cells ∧ slots + ms ≤ R.slots) :
    vx_Run p l e R s m args below meth c H locs cells slots mc ms g rest (Qc (Value.ref b :: As).toArray) XC free := by
  have hK : vx_Back l R p e below s args y 3 8 (PreOf R mc ms Pc) (PostOf Qc mc ms free) (vx_Post XC mc ms free) := vx_callBack cw.1 hM hp.1
  obtain ⟨⟨-, -, -, -, -, -, hcode, -, hy, hlen, hl⟩, hin, hse⟩ := cw
  obtain ⟨hx, hb, hml, ho, -⟩ := S
  obtain ⟨-, ⟨cellB, hcB, hoB, hclB⟩, hPc⟩ := hp
  intro T hT X
  rcases vx_callV X hx (C := C) (bytes := bytes) (maxL := maxL) (ret := ret) ho hl hin hse hcode hy hK (by rw [hT]; exact hcB) hoB hclB hg (hsize.trans hml.symm) (argsL := As) (rest := rest) (fun sig h => hn.trans (hlen sig h)) hstack hW (by rw [hb]; exact hdg)
    (fun vm₁ hW₁ => ⟨hf.1, hf.2, hPc (T.setVm vm₁) hT hW₁⟩) with ⟨v, vm₁, ⟨U', l2, c2, s2⟩, hW₁, X', ⟨g', mk, t, L, e1, e2, hq, h1, hL, h2, h3⟩, st⟩ | ⟨q, vm₁, ⟨U', l2, c2, s2⟩, hW₁, X', ⟨g', mk, t, L, E, ce, e1, e2, hq, hce, hcv, hcl, h1, hL, h2, h3⟩, st⟩
  · dsimp only [Pt.U, Pt.locs, Pt.cells, Pt.slots] at X' e1 e2 h1 h2 h3 st
    subst h1; subst h2; subst h3
    exact Or.inl ⟨v, (T.setVm vm₁).calling g' mk (Value.ref b :: As).toArray, t, U', L, hT, X', hL, e1, e2, hq, st⟩
  · dsimp only [Pt.U, Pt.locs, Pt.cells, Pt.slots] at X' e1 e2 h1 h2 h3 st hcl
    subst h1; subst h2; subst h3
    exact Or.inr ⟨q, (T.setVm vm₁).calling g' mk (Value.ref b :: As).toArray, t, U', L, E, ce, hT, X', hL, e1, e2, hq, hce, hcv, vx_cls hW₁ hcl, st⟩
theorem vx_runS (S : CallFix p m c cc nL s args Ts own) (hM : vx_Met l y ws rm Pc Qc XC mc ms free) (cw : CallB R s args own index y bytes maxL ret ws rm mc ms n ∧ (Cond.static y).before args s = true) (hp : PreS s H Pc As)
    (hg : g.method = m) (hn : As.length = n) (hsize : g.locals.size = nL) (hstack : g.stack = As.reverse ++ rest) (hW : 2 * g.monitorRoom + (rest.map fun v => v.category).sum ≤ 8) (hdg : decode cc g.pc = .ok (.invokestatic index, 3)) (hf : cells + mc ≤ R.cells ∧ slots + ms ≤ R.slots) :
    vx_Run p l e R s m args below meth c H locs cells slots mc ms g rest (Qc As.toArray) XC free := by
  have hK : vx_Back l R p e below s args y 3 8 (PreOf R mc ms Pc) (PostOf Qc mc ms free) (vx_Post XC mc ms free) := vx_callBack cw.1 hM hp.1
  obtain ⟨⟨-, -, -, -, -, -, hcode, hini, hy, hlen, hl⟩, hstt⟩ := cw
  obtain ⟨hx, hb, hml, ho, -⟩ := S
  intro T hT X
  rcases vx_callS X hx (bytes := bytes) (maxL := maxL) (ret := ret) ho hl hstt hini hcode hy hK hg (hsize.trans hml.symm) (argsL := As) (rest := rest) (fun sig h => hn.trans (hlen sig h)) hstack hW (by rw [hb]; exact hdg)
    (fun vm₁ hW₁ => ⟨hf.1, hf.2, hp.2 (T.setVm vm₁) hT hW₁⟩) with ⟨v, vm₁, ⟨U', l2, c2, s2⟩, hW₁, X', ⟨g', mk, t, L, e1, e2, hq, h1, hL, h2, h3⟩, st⟩ | ⟨q, vm₁, ⟨U', l2, c2, s2⟩, hW₁, X', ⟨g', mk, t, L, E, ce, e1, e2, hq, hce, hcv, hcl, h1, hL, h2, h3⟩, st⟩
  · dsimp only [Pt.U, Pt.locs, Pt.cells, Pt.slots] at X' e1 e2 h1 h2 h3 st
    subst h1; subst h2; subst h3
    exact Or.inl ⟨v, (T.setVm vm₁).calling g' mk As.toArray, t, U', L, hT, X', hL, e1, e2, hq, st⟩
  · dsimp only [Pt.U, Pt.locs, Pt.cells, Pt.slots] at X' e1 e2 h1 h2 h3 st hcl
    subst h1; subst h2; subst h3
    exact Or.inr ⟨q, (T.setVm vm₁).calling g' mk As.toArray, t, U', L, E, ce, hT, X', hL, e1, e2, hq, hce, hcv, vx_cls hW₁ hcl, st⟩
end Runs
section Rows
variable {p : Program} {l : Launch} {e : Env} {R : Room} {s : State} {m : MethodId} {args : Array Value} {below : List Frame} {meth : Method} {c : Code} {H : Heap} {locs : List Loc} {cells slots : Nat} {Q : State → Prop}
variable {mc ms : Nat} {free : Addr → Prop} {A0 A1 : Nat → Prop} {H0 : Heap} {a : Array Value} {pc : Nat} {ls : Array Slot} {st0 rest : List Value}
theorem vx_keep {st₀ t T' : State} {L : List Loc} (h0 : st₀.heap = H) (e1 : T'.heap = t.heap) (hS : va_S A0 H0 H locs) (hA : ∀ q, q < H.size → A1 q → A0 q) (hf : ∀ q, free q → A0 q) (hL : ∀ q ∈ L, free q.base) (hF : va_F A1 st₀ t) :
    H.size ≤ T'.heap.size ∧ (∀ q : Nat, q < H.size → ¬ A1 q → T'.heap[q]? = H[q]?) ∧ va_S A0 H0 T'.heap (locs ++ L) := by
  obtain ⟨hz, hk⟩ := hF
  rw [h0] at hz hk
  exact ⟨by rw [e1]; exact hz, fun q h1 h2 => by rw [e1]; exact hk q h1 h2,
    ⟨Nat.le_trans hS.1 (by rw [e1]; exact hz), fun q h1 h2 => by rw [e1, hk q (Nat.lt_of_lt_of_le h1 hS.1) (fun z => h2 (hA q (Nat.lt_of_lt_of_le h1 hS.1) z))]; exact hS.2.1 q h1 h2, fun q hq => by
      rcases List.mem_append.mp hq with h | h
      · exact hS.2.2 q h
      · exact hf _ (hL q h)⟩⟩
theorem vx_calli {S SX : Type} {post : Int32 → S → Prop} {px : SX → Prop} {B : S → State → Prop} {BX : String → SX → State → Prop} {AX : Nat → Prop} (hr : vx_Run p l e R s m args below meth c H locs cells slots mc ms (F0 m pc ls st0) rest (va_Qi post B A1 a) (vx_X px BX AX) free) (hS : va_S A0 H0 H locs) (hA : ∀ q, q < H.size → A1 q → A0 q) (hf : ∀ q, free q → A0 q) (hAX : ∀ q, q < H.size → AX q → A0 q)
    (kx : ∀ (E : String) (ce : Cell) (q9 : Addr) (u : SX) (t : State) (H1 : Heap) (locs1 : List Loc), t.heap = H1 → s.vm.Alike t.vm → px u → BX E u t → H.size ≤ H1.size → (∀ q : Nat, q < H.size → ¬ AX q → H1[q]? = H[q]?) → va_S A0 H0 H1 locs1 → H1[q9]? = some ce → ce.vm = .none → s.vm.findClass E = some ce.cls → vx_W p l e R s m args below meth c H1 locs1 (cells + mc) (slots + ms) Q (F0 m pc ls rest) q9)
    (kk : ∀ (r : Int32) (u : S) (t : State) (H1 : Heap) (locs1 : List Loc), t.heap = H1 → s.vm.Alike t.vm → post r u → B u t → H.size ≤ H1.size → (∀ q : Nat, q < H.size → ¬ A1 q → H1[q]? = H[q]?) → va_S A0 H0 H1 locs1 → W p l e R s m args below meth c H1 locs1 (cells + mc) (slots + ms) Q (F0 m (pc + 3) ls (.int r :: rest))) : W p l e R s m args below meth c H locs cells slots Q (F0 m pc ls st0) := by
  intro T hT X
  rcases hr T hT X with ⟨v, st₀, t, T', L, h0, X', hL, e1, e2, ⟨⟨r, u, hv, hp, hb⟩, hF⟩, st⟩ | ⟨q, st₀, t, T', L, E, ce, h0, X', hL, e1, e2, ⟨u, hp, hb, hF⟩, hce, hcv, hcl, st⟩
  · cases hv
    obtain ⟨k1, k2, k3⟩ := vx_keep h0 e1 hS hA hf hL hF
    obtain ⟨t2, a1, b1⟩ := kk r u t T'.heap (locs ++ L) e1.symm (by rw [← e2]; exact X'.warmed.alike) hp hb k1 k2 k3 T' rfl X'
    exact ⟨t2, st t2 a1, b1⟩
  · obtain ⟨k1, k2, k3⟩ := vx_keep h0 e1 hS hAX hf hL hF
    obtain ⟨t2, a1, b1⟩ := kx E ce q u t T'.heap (locs ++ L) e1.symm (by rw [← e2]; exact X'.warmed.alike) hp hb k1 k2 k3 (by rw [e1]; exact hce) hcv hcl T' rfl X'
    exact ⟨t2, st.trans a1, b1⟩
theorem vx_calll {S SX : Type} {post : Int64 → S → Prop} {px : SX → Prop} {B : S → State → Prop} {BX : String → SX → State → Prop} {AX : Nat → Prop} (hr : vx_Run p l e R s m args below meth c H locs cells slots mc ms (F0 m pc ls st0) rest (va_Ql post B A1 a) (vx_X px BX AX) free) (hS : va_S A0 H0 H locs) (hA : ∀ q, q < H.size → A1 q → A0 q) (hf : ∀ q, free q → A0 q) (hAX : ∀ q, q < H.size → AX q → A0 q)
    (kx : ∀ (E : String) (ce : Cell) (q9 : Addr) (u : SX) (t : State) (H1 : Heap) (locs1 : List Loc), t.heap = H1 → s.vm.Alike t.vm → px u → BX E u t → H.size ≤ H1.size → (∀ q : Nat, q < H.size → ¬ AX q → H1[q]? = H[q]?) → va_S A0 H0 H1 locs1 → H1[q9]? = some ce → ce.vm = .none → s.vm.findClass E = some ce.cls → vx_W p l e R s m args below meth c H1 locs1 (cells + mc) (slots + ms) Q (F0 m pc ls rest) q9)
    (kk : ∀ (r : Int64) (u : S) (t : State) (H1 : Heap) (locs1 : List Loc), t.heap = H1 → s.vm.Alike t.vm → post r u → B u t → H.size ≤ H1.size → (∀ q : Nat, q < H.size → ¬ A1 q → H1[q]? = H[q]?) → va_S A0 H0 H1 locs1 → W p l e R s m args below meth c H1 locs1 (cells + mc) (slots + ms) Q (F0 m (pc + 3) ls (.long r :: rest))) : W p l e R s m args below meth c H locs cells slots Q (F0 m pc ls st0) := by
  intro T hT X
  rcases hr T hT X with ⟨v, st₀, t, T', L, h0, X', hL, e1, e2, ⟨⟨r, u, hv, hp, hb⟩, hF⟩, st⟩ | ⟨q, st₀, t, T', L, E, ce, h0, X', hL, e1, e2, ⟨u, hp, hb, hF⟩, hce, hcv, hcl, st⟩
  · cases hv
    obtain ⟨k1, k2, k3⟩ := vx_keep h0 e1 hS hA hf hL hF
    obtain ⟨t2, a1, b1⟩ := kk r u t T'.heap (locs ++ L) e1.symm (by rw [← e2]; exact X'.warmed.alike) hp hb k1 k2 k3 T' rfl X'
    exact ⟨t2, st t2 a1, b1⟩
  · obtain ⟨k1, k2, k3⟩ := vx_keep h0 e1 hS hAX hf hL hF
    obtain ⟨t2, a1, b1⟩ := kx E ce q u t T'.heap (locs ++ L) e1.symm (by rw [← e2]; exact X'.warmed.alike) hp hb k1 k2 k3 (by rw [e1]; exact hce) hcv hcl T' rfl X'
    exact ⟨t2, st.trans a1, b1⟩
theorem vx_callf {S SX : Type} {post : UInt32 → S → Prop} {px : SX → Prop} {B : S → State → Prop} {BX : String → SX → State → Prop} {AX : Nat → Prop} (hr : vx_Run p l e R s m args below meth c H locs cells slots mc ms (F0 m pc ls st0) rest (va_Qf post B A1 a) (vx_X px BX AX) free) (hS : va_S A0 H0 H locs) (hA : ∀ q, q < H.size → A1 q → A0 q) (hf : ∀ q, free q → A0 q) (hAX : ∀ q, q < H.size → AX q → A0 q)
    (kx : ∀ (E : String) (ce : Cell) (q9 : Addr) (u : SX) (t : State) (H1 : Heap) (locs1 : List Loc), t.heap = H1 → s.vm.Alike t.vm → px u → BX E u t → H.size ≤ H1.size → (∀ q : Nat, q < H.size → ¬ AX q → H1[q]? = H[q]?) → va_S A0 H0 H1 locs1 → H1[q9]? = some ce → ce.vm = .none → s.vm.findClass E = some ce.cls → vx_W p l e R s m args below meth c H1 locs1 (cells + mc) (slots + ms) Q (F0 m pc ls rest) q9)
    (kk : ∀ (r : UInt32) (u : S) (t : State) (H1 : Heap) (locs1 : List Loc), t.heap = H1 → s.vm.Alike t.vm → post r u → B u t → H.size ≤ H1.size → (∀ q : Nat, q < H.size → ¬ A1 q → H1[q]? = H[q]?) → va_S A0 H0 H1 locs1 → W p l e R s m args below meth c H1 locs1 (cells + mc) (slots + ms) Q (F0 m (pc + 3) ls (.float r :: rest))) : W p l e R s m args below meth c H locs cells slots Q (F0 m pc ls st0) := by
  intro T hT X
  rcases hr T hT X with ⟨v, st₀, t, T', L, h0, X', hL, e1, e2, ⟨⟨r, u, hv, hp, hb⟩, hF⟩, st⟩ | ⟨q, st₀, t, T', L, E, ce, h0, X', hL, e1, e2, ⟨u, hp, hb, hF⟩, hce, hcv, hcl, st⟩
  · cases hv
    obtain ⟨k1, k2, k3⟩ := vx_keep h0 e1 hS hA hf hL hF
    obtain ⟨t2, a1, b1⟩ := kk r u t T'.heap (locs ++ L) e1.symm (by rw [← e2]; exact X'.warmed.alike) hp hb k1 k2 k3 T' rfl X'
    exact ⟨t2, st t2 a1, b1⟩
  · obtain ⟨k1, k2, k3⟩ := vx_keep h0 e1 hS hAX hf hL hF
    obtain ⟨t2, a1, b1⟩ := kx E ce q u t T'.heap (locs ++ L) e1.symm (by rw [← e2]; exact X'.warmed.alike) hp hb k1 k2 k3 (by rw [e1]; exact hce) hcv hcl T' rfl X'
    exact ⟨t2, st.trans a1, b1⟩
theorem vx_calld {S SX : Type} {post : UInt64 → S → Prop} {px : SX → Prop} {B : S → State → Prop} {BX : String → SX → State → Prop} {AX : Nat → Prop} (hr : vx_Run p l e R s m args below meth c H locs cells slots mc ms (F0 m pc ls st0) rest (va_Qd post B A1 a) (vx_X px BX AX) free) (hS : va_S A0 H0 H locs) (hA : ∀ q, q < H.size → A1 q → A0 q) (hf : ∀ q, free q → A0 q) (hAX : ∀ q, q < H.size → AX q → A0 q)
    (kx : ∀ (E : String) (ce : Cell) (q9 : Addr) (u : SX) (t : State) (H1 : Heap) (locs1 : List Loc), t.heap = H1 → s.vm.Alike t.vm → px u → BX E u t → H.size ≤ H1.size → (∀ q : Nat, q < H.size → ¬ AX q → H1[q]? = H[q]?) → va_S A0 H0 H1 locs1 → H1[q9]? = some ce → ce.vm = .none → s.vm.findClass E = some ce.cls → vx_W p l e R s m args below meth c H1 locs1 (cells + mc) (slots + ms) Q (F0 m pc ls rest) q9)
    (kk : ∀ (r : UInt64) (u : S) (t : State) (H1 : Heap) (locs1 : List Loc), t.heap = H1 → s.vm.Alike t.vm → post r u → B u t → H.size ≤ H1.size → (∀ q : Nat, q < H.size → ¬ A1 q → H1[q]? = H[q]?) → va_S A0 H0 H1 locs1 → W p l e R s m args below meth c H1 locs1 (cells + mc) (slots + ms) Q (F0 m (pc + 3) ls (.double r :: rest))) : W p l e R s m args below meth c H locs cells slots Q (F0 m pc ls st0) := by
  intro T hT X
  rcases hr T hT X with ⟨v, st₀, t, T', L, h0, X', hL, e1, e2, ⟨⟨r, u, hv, hp, hb⟩, hF⟩, st⟩ | ⟨q, st₀, t, T', L, E, ce, h0, X', hL, e1, e2, ⟨u, hp, hb, hF⟩, hce, hcv, hcl, st⟩
  · cases hv
    obtain ⟨k1, k2, k3⟩ := vx_keep h0 e1 hS hA hf hL hF
    obtain ⟨t2, a1, b1⟩ := kk r u t T'.heap (locs ++ L) e1.symm (by rw [← e2]; exact X'.warmed.alike) hp hb k1 k2 k3 T' rfl X'
    exact ⟨t2, st t2 a1, b1⟩
  · obtain ⟨k1, k2, k3⟩ := vx_keep h0 e1 hS hAX hf hL hF
    obtain ⟨t2, a1, b1⟩ := kx E ce q u t T'.heap (locs ++ L) e1.symm (by rw [← e2]; exact X'.warmed.alike) hp hb k1 k2 k3 (by rw [e1]; exact hce) hcv hcl T' rfl X'
    exact ⟨t2, st.trans a1, b1⟩
theorem vx_callv {S SX : Type} {post : S → Prop} {px : SX → Prop} {B : S → State → Prop} {BX : String → SX → State → Prop} {AX : Nat → Prop} (hr : vx_Run p l e R s m args below meth c H locs cells slots mc ms (F0 m pc ls st0) rest (va_Qv post B A1 a) (vx_X px BX AX) free) (hS : va_S A0 H0 H locs) (hA : ∀ q, q < H.size → A1 q → A0 q) (hf : ∀ q, free q → A0 q) (hAX : ∀ q, q < H.size → AX q → A0 q)
    (kx : ∀ (E : String) (ce : Cell) (q9 : Addr) (u : SX) (t : State) (H1 : Heap) (locs1 : List Loc), t.heap = H1 → s.vm.Alike t.vm → px u → BX E u t → H.size ≤ H1.size → (∀ q : Nat, q < H.size → ¬ AX q → H1[q]? = H[q]?) → va_S A0 H0 H1 locs1 → H1[q9]? = some ce → ce.vm = .none → s.vm.findClass E = some ce.cls → vx_W p l e R s m args below meth c H1 locs1 (cells + mc) (slots + ms) Q (F0 m pc ls rest) q9)
    (kk : ∀ (u : S) (t : State) (H1 : Heap) (locs1 : List Loc), t.heap = H1 → s.vm.Alike t.vm → post u → B u t → H.size ≤ H1.size → (∀ q : Nat, q < H.size → ¬ A1 q → H1[q]? = H[q]?) → va_S A0 H0 H1 locs1 → W p l e R s m args below meth c H1 locs1 (cells + mc) (slots + ms) Q (F0 m (pc + 3) ls (rest))) : W p l e R s m args below meth c H locs cells slots Q (F0 m pc ls st0) := by
  intro T hT X
  rcases hr T hT X with ⟨v, st₀, t, T', L, h0, X', hL, e1, e2, ⟨⟨u, hv, hp, hb⟩, hF⟩, st⟩ | ⟨q, st₀, t, T', L, E, ce, h0, X', hL, e1, e2, ⟨u, hp, hb, hF⟩, hce, hcv, hcl, st⟩
  · cases hv
    obtain ⟨k1, k2, k3⟩ := vx_keep h0 e1 hS hA hf hL hF
    obtain ⟨t2, a1, b1⟩ := kk u t T'.heap (locs ++ L) e1.symm (by rw [← e2]; exact X'.warmed.alike) hp hb k1 k2 k3 T' rfl X'
    exact ⟨t2, st t2 a1, b1⟩
  · obtain ⟨k1, k2, k3⟩ := vx_keep h0 e1 hS hAX hf hL hF
    obtain ⟨t2, a1, b1⟩ := kx E ce q u t T'.heap (locs ++ L) e1.symm (by rw [← e2]; exact X'.warmed.alike) hp hb k1 k2 k3 (by rw [e1]; exact hce) hcv hcl T' rfl X'
    exact ⟨t2, st.trans a1, b1⟩
/-- caught by the row x of this method's table; the rows ahead don't take it -/
theorem vx_catch {own name : String} {E : String} {ce : Cell} {q : Addr} (hown : s.vm.findClass own = some m.cls) (pre : List ExceptionTableEntry) (x : ExceptionTableEntry) (suf : List ExceptionTableEntry) (hsplit : c.exceptionTable.toList = pre ++ x :: suf)
    (hpass : ∀ z ∈ pre, covers z pc = false ∨ (z.catchType ≠ 0 ∧ ∃ nm : String, (Cond.classLink own z.catchType nm).before args s = true ∧ va_Nc E nm s)) (hx : covers x pc = true) (h0 : x.catchType ≠ 0)
    (hlink : (Cond.classLink own x.catchType name).before args s = true) (hcast : (Cond.castable E name).before args s = true) (hcell : H[q]? = some ce) (hv : ce.vm = .none) (hcl : s.vm.findClass E = some ce.cls)
    (kk : W p l e R s m args below meth c H locs cells slots Q (F0 m x.handlerPc ls [.ref q])) : vx_W p l e R s m args below meth c H locs cells slots Q (F0 m pc ls rest) q := by
  intro T hT X
  have hpl : e.platform.magicAccessors = ({} : Platform).magicAccessors := by rw [X.admits.platform]
  obtain ⟨c3, c4, hc3, hc4, hasg⟩ := Cond.castable_spec hcast
  cases Option.some.inj (hc3.symm.trans hcl)
  obtain ⟨c5, hc5, hcl5⟩ := Cond.classLink_spec hown hlink e.platform hpl
  cases Option.some.inj (hc4.symm.trans hc5)
  obtain ⟨vm', X', st⟩ := X.thenCaughtThrough q (g := F0 m pc ls rest) rfl (Steps.refl _) (by rw [hT]; exact hcell) (by rw [hv]; rfl) (by obtain ⟨k9, h9, -⟩ := Vm.findClass_spec hcl; exact ⟨k9, h9⟩) pre x suf hsplit
    (fun z hz => by
      rcases hpass z hz with h | ⟨hz0, nm, hl1, hn1⟩
      · exact Or.inl h
      · obtain ⟨c6, hc6, hcl6⟩ := Cond.classLink_spec hown hl1 e.platform hpl
        obtain ⟨a8, b8, h1, h2, h3⟩ := hn1
        cases Option.some.inj (h1.symm.trans hcl)
        cases Option.some.inj (h2.symm.trans hc6)
        exact Or.inr ⟨hz0, _, hcl6, h3⟩) hx (Or.inr ⟨h0, c4, hcl5, hasg⟩)
  obtain ⟨t, a1, b1⟩ := kk (T.setVm vm') hT X'
  exact ⟨t, st.trans a1, b1⟩
end Rows
section Ends
variable {p : Program} {l : Launch} {e : Env} {R : Room} {s : State} {m : MethodId} {args : Array Value} {below : List Frame} {meth : Method} {c : Code} {H : Heap} {locs : List Loc} {cells slots : Nat} {Q : State → Prop}
variable {mc ms : Nat} {free : Addr → Prop} {A0 A1 : Nat → Prop} {H0 : Heap} {a : Array Value} {ls : Array Slot} {st0 rest : List Value}
variable {Qc : Array Value → State → Outcome → State → Prop} {XC : String → State → State → Prop}
/-- what a body that may throw owes at its end -/
def vx_MQ (below : List Frame) (Qc : Array Value → State → Outcome → State → Prop) (XC : String → State → State → Prop) (a : Array Value) (s : State) (mc ms : Nat) (free : Addr → Prop) : State → Prop := fun t =>
  ∃ o, t.status = .running ∧ Ended t below o ∧ vx_Q Qc XC mc ms free a s o t
theorem vx_ret {g : JFrame} {mc ms : Nat} (k : W p l e R s m args below meth c H locs cells slots (MQ below Qc args s mc ms free) g) : W p l e R s m args below meth c H locs cells slots (vx_MQ below Qc XC args s mc ms free) g := by
  intro T hT X
  obtain ⟨t, a1, o, b1, b2, b3, b4⟩ := k T hT X
  exact ⟨t, a1, o, b1, b2, Or.inl ⟨b3, b4⟩⟩
/-- not caught here: it goes on to the caller -/
theorem vx_widen {g : JFrame} {q : Addr} {k n : Nat} (h1 : cells ≤ k) (h2 : slots ≤ n) (kk : vx_W p l e R s m args below meth c H locs k n Q g q) : vx_W p l e R s m args below meth c H locs cells slots Q g q := fun T hT X => kk T hT (stand_widen X h1 h2)
theorem vx_out {pc : Nat} {E : String} {ce : Cell} {q : Addr} {mc ms : Nat} (hout : ∀ x ∈ c.exceptionTable.toList, covers x pc = false) (hlocks : meth.locks = false) (hcell : H[q]? = some ce) (hv : ce.vm = .none) (hcl : s.vm.findClass E = some ce.cls)
    (hx : ∀ t : State, t.heap = H → s.vm.Alike t.vm → XC E s t) (hf : ∀ z ∈ locs, free z.base) (hc : cells ≤ mc) (hs : slots ≤ ms) :
    vx_W p l e R s m args below meth c H locs cells slots (vx_MQ below Qc XC args s mc ms free) (F0 m pc ls rest) q := by
  intro T hT X
  obtain ⟨st1, hrun, hend, hW, hsm⟩ := X.leaveThrown q (g := F0 m pc ls rest) rfl rfl rfl hout hlocks
  have hcell9 : (T.setFrames (.throwing q :: below)).heap[q]? = some ce := by
    show T.heap[q]? = some ce
    rw [hT]; exact hcell
  exact ⟨_, st1, .threw q, hrun, hend, Or.inr ⟨q, rfl, E, ce, locs, hx _ hT hW.alike, hcell9, hv, hcl, hW, hsm.mono hc hs, hf⟩⟩
theorem vx_frame {U : State} {k n : Nat} (h : s.sameButNew ({ U with vm := s.vm } : State) locs k n) : s.heap.size ≤ U.heap.size ∧ ∀ q : Nat, q < s.heap.size → (∀ z ∈ locs, z.base ≠ q) → U.heap[q]? = s.heap[q]? := by
  obtain ⟨-, h2, -, -, -, h6⟩ := h
  refine ⟨h2, fun q hq hz => ?_⟩
  obtain ⟨c9, e1, e2, e3, e4⟩ := h6 q _ (Array.getElem?_eq_getElem hq)
  have hs : c9.slots = (s.heap[q]).slots := Array.ext_getElem? fun i => e4 i fun hm => hz _ hm rfl
  have h9 : c9 = s.heap[q] := by
    rw [hs] at e2
    exact e2
  have e5 : U.heap[q]? = some c9 := e1
  rw [e5, h9, Array.getElem?_eq_getElem hq]
/-- the words of a throw but the four that speak of the heap -/
def vx_no (w : Cond) : Bool := decide (w ≠ .isRef (.static Bundle.tN "UNASSIGNED_STACK" Bundle.steD)) && decide (w ≠ .isRef (.static Bundle.tN "SUPPRESSED_SENTINEL" Bundle.listD)) && decide (w ≠ .laysStatic Bundle.tN "UNASSIGNED_STACK" Bundle.steD) && decide (w ≠ .laysStatic Bundle.tN "SUPPRESSED_SENTINEL" Bundle.listD)
def vx_at0 (own : String) (ic : Nat) (X : String) (names : List String) : List Cond := (Bundle.ownAtoms0 own ic X names).filter vx_no
def vx_atS (own : String) (ic : Nat) (X : String) (names : List String) : List Cond := (Bundle.ownAtoms own ic X names).filter vx_no
/-- a word that the tables alone decide, or a good one -/
def vx_ot (w : Cond) : Bool := w.onTables || goodWord w
theorem vx_ot_at {args a' : Array Value} {s U : State} {w : Cond} (hW : s.WarmedH U.vm) (hvm : s.vm = U.vm) (hg : vx_ot w = true) (h : w.before args s = true) : w.before a' U = true := by
  simp only [vx_ot, Bool.or_eq_true] at hg
  rcases hg with hg | hg
  · exact va_tabs hg hvm h
  · exact word_at hW (good_of_word hg) h
/-- a list's words: the good ones out of the method's own list, the others by premises of their own -/
theorem vx_hat {args : Array Value} {s : State} {L B : List Cond} (h1 : ∀ w ∈ L.filter goodWord, w.before args s = true) (h2 : ∀ w ∈ L.filter (fun w => !goodWord w), w ∈ B) (h3 : ∀ w ∈ B, w.before args s = true) : ∀ w ∈ L, w.before args s = true := by
  intro w hw
  by_cases g : goodWord w = true
  · exact h1 w (List.mem_filter.mpr ⟨hw, g⟩)
  · refine h3 w (h2 w (List.mem_filter.mpr ⟨hw, ?_⟩))
    show (!goodWord w) = true
    cases hgw : goodWord w
    · rfl
    · exact absurd hgw g
theorem vx_c {args : Array Value} {s : State} {w : Cond} {B : List Cond} (h : w.before args s = true) (t : ∀ w ∈ B, w.before args s = true) : ∀ w' ∈ w :: B, w'.before args s = true := fun w' h' => (List.mem_cons.mp h').elim (fun e => by rw [e]; exact h) (t w')
theorem vx_n {args : Array Value} {s : State} : ∀ w ∈ ([] : List Cond), w.before args s = true := fun _ h => nomatch h
theorem vx_own {args : Array Value} {s : State} {L : List Cond} (h1 : ∀ w ∈ L.filter vx_no, w.before args s = true)
    (hU : (Cond.isRef (.static Bundle.tN "UNASSIGNED_STACK" Bundle.steD)).before args s = true) (hN : (Cond.isRef (.static Bundle.tN "SUPPRESSED_SENTINEL" Bundle.listD)).before args s = true)
    (lU : (Cond.laysStatic Bundle.tN "UNASSIGNED_STACK" Bundle.steD).before args s = true) (lN : (Cond.laysStatic Bundle.tN "SUPPRESSED_SENTINEL" Bundle.listD).before args s = true) : ∀ w ∈ L, w.before args s = true := by
  intro w hw
  by_cases e1 : w = .isRef (.static Bundle.tN "UNASSIGNED_STACK" Bundle.steD)
  · rw [e1]; exact hU
  · by_cases e2 : w = .isRef (.static Bundle.tN "SUPPRESSED_SENTINEL" Bundle.listD)
    · rw [e2]; exact hN
    · by_cases e3 : w = .laysStatic Bundle.tN "UNASSIGNED_STACK" Bundle.steD
      · rw [e3]; exact lU
      · by_cases e4 : w = .laysStatic Bundle.tN "SUPPRESSED_SENTINEL" Bundle.listD
        · rw [e4]; exact lN
        · exact h1 w (List.mem_filter.mpr ⟨hw, by unfold vx_no; rw [decide_eq_true e1, decide_eq_true e2, decide_eq_true e3, decide_eq_true e4]; rfl⟩)
/-- where a static field lies, its class's statics cell in H -/
def vx_L (C n d : String) (A : Nat → Prop) (U : State) (H : Heap) : Prop := ∃ (c : ClassId) (k : Class) (i : Nat) (f : Field) (a : Nat) (cell : Cell), U.vm.findClass C = some c ∧ U.fieldFound? C n d = some (c, k, i, f) ∧ f.isStatic = true ∧ k.statics = some a ∧ H[a]? = some cell ∧ cell.vm.isStatics = true ∧ cell.cls = c ∧ f.slot < cell.slots.size ∧ k.staticTypes[f.slot]? = some f.type ∧ ¬ A a
theorem vx_L.moved {C n d : String} {A : Nat → Prop} {u U : State} {H : Heap} (hvm : u.vm.Alike U.vm) (h : vx_L C n d A u H) : vx_L C n d A U H := by
  obtain ⟨c, k, i, f, a, cell, h1, h2, h3, h4, h5, h6, h7, h8, h9, h10⟩ := h
  obtain ⟨k', hi', he⟩ := State.fieldFound?_setVm hvm h2
  exact ⟨c, k', i, f, a, cell, by rw [hvm.findClass]; exact h1, hi', h3, by rw [he]; exact h4, h5, h6, h7, h8, by rw [he]; exact h9, h10⟩
theorem vx_L.kept {C n d : String} {A : Nat → Prop} {U : State} {H H1 : Heap} (h : vx_L C n d A U H) (hq : ∀ a : Nat, a < H.size → ¬ A a → H1[a]? = H[a]?) : vx_L C n d A U H1 := by
  obtain ⟨c, k, i, f, a, cell, h1, h2, h3, h4, h5, h6, h7, h8, h9, h10⟩ := h
  exact ⟨c, k, i, f, a, cell, h1, h2, h3, h4, by rw [hq a (Array.getElem?_eq_some_iff.mp h5).1 h10]; exact h5, h6, h7, h8, h9, h10⟩
theorem vx_L.narrow {C n d : String} {A B : Nat → Prop} {U : State} {H : Heap} (h : vx_L C n d A U H) (hAB : ∀ q, B q → A q) : vx_L C n d B U H := by
  obtain ⟨c, k, i, f, a, cell, h1, h2, h3, h4, h5, h6, h7, h8, h9, h10⟩ := h
  exact ⟨c, k, i, f, a, cell, h1, h2, h3, h4, h5, h6, h7, h8, h9, fun z => h10 (hAB _ z)⟩
theorem vx_L.word {C n d : String} {A : Nat → Prop} {s : State} {args : Array Value} (h : vx_L C n d A s s.heap) : (Cond.laysStatic C n d).before args s = true := by
  obtain ⟨c, k, i, f, a, cell, h1, h2, h3, h4, h5, h6, h7, h8, h9, -⟩ := h
  show (Cond.laysStatic C n d).holds args s none s [] = true
  exact Cond.laysStatic_of h1 h2 h3 h4 h5 h6 h7 h8 h9
/-- .. and what it holds: null or some reference -/
def vx_Zq (C n d : String) (A : Nat → Prop) (U : State) (H : Heap) : Prop := va_Zq C n d A U H ∧ vx_L C n d A U H
theorem vx_Zq.moved {C n d : String} {A : Nat → Prop} {u U : State} {H : Heap} (hvm : u.vm.Alike U.vm) (h : vx_Zq C n d A u H) : vx_Zq C n d A U H := ⟨va_Zq.moved hvm h.1, vx_L.moved hvm h.2⟩
theorem vx_Zq.kept {C n d : String} {A : Nat → Prop} {U : State} {H H1 : Heap} (h : vx_Zq C n d A U H) (hq : ∀ a : Nat, a < H.size → ¬ A a → H1[a]? = H[a]?) : vx_Zq C n d A U H1 := ⟨va_Zq.kept h.1 hq, vx_L.kept h.2 hq⟩
theorem vx_Zq.narrow {C n d : String} {A B : Nat → Prop} {U : State} {H : Heap} (h : vx_Zq C n d A U H) (hAB : ∀ q, B q → A q) : vx_Zq C n d B U H := ⟨va_Zq.narrow h.1 hAB, vx_L.narrow h.2 hAB⟩
theorem vx_Zqof {args : Array Value} {s : State} {C n d : String} {A : Nat → Prop} (hl : (Cond.laysStatic C n d).before args s = true) (hini : (Cond.initialized C).before args s = true) (h : (Cond.isRef (.static C n d)).before args s = true) (hA : ∀ a : Nat, a < s.heap.size → ¬ A a) : vx_Zq C n d A s s.heap := by
  refine ⟨va_Zqof hl hini h hA, ?_⟩
  obtain ⟨c, k, i, f, a, cell, h1, h2, h3, h4, h5, h6, h7, h8, h9⟩ := Cond.laysStatic_spec hl
  exact ⟨c, k, i, f, a, cell, h1, h2, h3, h4, h5, h6, h7, h8, h9, hA a (Array.getElem?_eq_some_iff.mp h5).1⟩
theorem vx_isRef {C n d : String} {v : Value} {A : Nat → Prop} {s : State} {args : Array Value} (h : va_Z C n d v A s s.heap) (hv : v.isRef = true) : (Cond.isRef (.static C n d)).before args s = true := by
  obtain ⟨cf, kf, fi, f, a, cell, h1, h2, h3, h4, h5, h6, h7, -⟩ := h
  have he : (Term.static C n d).eval args s none [] s = some v := by
    simp [Term.eval, State.fieldNamed?, h1, h2, h4, h5, h6, h7]
  simp only [Cond.before, Cond.holds, Cond.value, he]
  cases v <;> simp_all [Value.isRef]
theorem vx_isRefq {C n d : String} {A : Nat → Prop} {s : State} {args : Array Value} (h : va_Zq C n d A s s.heap) : (Cond.isRef (.static C n d)).before args s = true := by
  rcases h with h | ⟨t, h⟩
  · exact vx_isRef h rfl
  · exact vx_isRef h rfl
/-- the same frame, seen from here: as if the method were called anew in this heap -/
theorem vx_rebase {T : State} (X : Stand p l e R s m args below meth c T locs cells slots) {R' : Room} (hf : R'.frames ≤ R.frames) (hl : R'.locals ≤ R.locals) (hc : cells + R'.cells ≤ R.cells) (hs : slots + R'.slots ≤ R.slots) :
    Stand p l e R' ((T.setVm s.vm).setFrames (.invoking m args :: below)) m args below meth c T [] 0 0 := by
  have htop : (T.setVm s.vm).topJava?.isSome := X.here.top
  have hF : ((T.setVm s.vm).setFrames (.invoking m args :: below)).frames = .invoking m args :: below := State.frames_setFrames _ (State.cur_lt_of_top htop)
  obtain ⟨g₀, hg0⟩ := Option.isSome_iff_exists.mp htop
  obtain ⟨r, hr⟩ := State.topJava?_eq_some.mp hg0
  have hl9 : e.platform.stackLimits (T.setVm s.vm).me = e.platform.stackLimits s.me := X.limits
  have hb9 : (T.setVm s.vm).me.stackBytes = s.me.stackBytes := X.bytes
  refine ⟨X.admits, X.cas, X.clock, hF, ?_, X.hears, X.method, X.code, X.here, X.tail, X.warmed, ?_, ?_, ?_⟩
  · have h := X.room
    have hU : ((T.setVm s.vm).setFrames (.invoking m args :: below)).localsInUse = s.localsInUse := by
      rw [State.localsInUse_invoking hF (meth := meth) (c := c) X.method X.code, State.localsInUse_invoking X.frames X.method X.code]
    simp only [State.hasRoom, Bool.and_eq_true, decide_eq_true_eq] at h ⊢
    obtain ⟨⟨⟨⟨h1, h2, h3, h4, h5, h6⟩, h7⟩, h8⟩, h9⟩ := h
    rw [X.frames, List.length_cons] at h2 h3
    have q1 := X.heapSize
    have q2 := X.used
    simp only [hF, hU, List.length_cons, State.stackLimits_setFrames, State.stackBytes_setFrames, hl9, hb9]
    refine ⟨⟨⟨⟨by omega, by omega, by omega, by omega, by omega, h6⟩, ?_⟩, ?_⟩, X.book⟩
    · show T.heap.size + R'.cells ≤ e.platform.maxCells
      omega
    · show T.slotsUsed + R'.slots ≤ e.platform.maxSlots
      omega
  · rw [State.stackLimits_setFrames]; rfl
  · rw [State.stackBytes_setFrames]; rfl
  · refine ⟨?_, Nat.le_refl _, Nat.le_refl _, ?_, ?_, fun a c9 h9 => ⟨c9, h9, rfl, rfl, fun _ _ => rfl⟩⟩
    · obtain ⟨t, ht, -⟩ := State.frames_cons hr
      show T.setVm s.vm = { ((T.setVm s.vm).setFrames (.invoking m args :: below)).setFrames (T.setVm s.vm).frames with heap := T.heap, slotsUsed := T.slotsUsed }
      rw [State.setFrames_setFrames, State.setFrames_self ht]
      rfl
    · show T.slotsUsed = T.slotsUsed + ((T.heap.toList.drop T.heap.size).map (·.slots.size)).sum
      rw [List.drop_eq_nil_of_le (Nat.le_of_eq Array.length_toList)]
      rfl
    · show ((T.heap.toList.drop T.heap.size).map (·.slots.size)).sum ≤ 0
      rw [List.drop_eq_nil_of_le (Nat.le_of_eq Array.length_toList)]
      exact Nat.le_refl _
/-- 'throw new E()': new; dup; invokespecial; athrow -/
theorem vx_throw0 {cc : ByteArray} {pc : Nat} (hexec : p.tables.exec = Jvm.exec) (hb : c.code = cc) (hl : l.stackTraces = false) {own cls : String} {names : List String} {ik ic mc ms : Nat} {A : Nat → Prop}
    (hown : s.vm.findClass own = some m.cls) (hcls : Bundle.fit cls = true) (hnames : ∀ n ∈ names, Bundle.fit n = true)
    (hk : (Cond.classLink own ik cls).before args s = true) (hini : (Cond.initialized cls).before args s = true) (hat : ∀ w ∈ vx_at0 own ic cls names, w.before args s = true)
    (hgood : ∀ w ∈ Cond.classLink own ik cls :: Cond.initialized cls :: vx_at0 own ic cls names, vx_ot w = true)
    (hU : vx_Zq Bundle.tN "UNASSIGNED_STACK" Bundle.steD A s s.heap) (hN : vx_Zq Bundle.tN "SUPPRESSED_SENTINEL" Bundle.listD A s s.heap) (hS : va_S A s.heap H locs) (hsize : ls.size = c.maxLocals)
    (d0 : decode cc pc = .ok (.new ik, 3)) (d3 : decode cc (pc + 3) = .ok (.dup, 1)) (d4 : decode cc (pc + 4) = .ok (.invokespecial ic, 3)) (d7 : decode cc (pc + 7) = .ok (.athrow, 1))
    (hout : ∀ x ∈ c.exceptionTable.toList, covers x (pc + 7) = false)
    (hRframes : names.length + 3 < R.frames) (hRlocals : (rest.map fun v => v.category).sum + (13 * (names.length + 1) + 42) ≤ R.locals) (hRcells : cells + 1 ≤ R.cells) (hRslots : slots + 6 ≤ R.slots) (hlocks : meth.locks = false)
    (hx : ∀ t : State, s.vm.Alike t.vm → H.size ≤ t.heap.size → (∀ q : Nat, q < H.size → t.heap[q]? = H[q]?) → XC cls s t)
    (hf : ∀ z ∈ locs, free z.base) (hc : cells + 1 ≤ mc) (hs : slots + 6 ≤ ms) :
    W p l e R s m args below meth c H locs cells slots (vx_MQ below Qc XC args s mc ms free) (F0 m pc ls rest) := by
  intro T hT X
  have htr : e.platform.stackTraces = false := (show e.platform.stackTraces = l.stackTraces by rw [X.admits.platform]).trans hl
  have Y := vx_rebase X (R' := { frames := R.frames, locals := R.locals, cells := 1, slots := 6 }) (Nat.le_refl _) (Nat.le_refl _) hRcells hRslots
  obtain ⟨s', hA⟩ : ∃ z, z = (T.setVm s.vm).setFrames (.invoking m args :: below) := ⟨_, rfl⟩
  rw [← hA] at Y
  have hvm : s'.vm = s.vm := by rw [hA]; rfl
  have hhp : s'.heap = H := by rw [hA]; exact hT
  have hW0 : s.WarmedH s'.vm := by rw [hvm]; exact State.WarmedH.refl s
  have hat' : ∀ w ∈ vx_at0 own ic cls names, w.before args s' = true := fun w hw => vx_ot_at hW0 hvm.symm (hgood w (List.mem_cons_of_mem _ (List.mem_cons_of_mem _ hw))) (hat w hw)
  have hk' : (Cond.classLink own ik cls).before args s' = true := vx_ot_at hW0 hvm.symm (hgood _ List.mem_cons_self) hk
  have hini' : (Cond.initialized cls).before args s' = true := vx_ot_at hW0 hvm.symm (hgood _ (List.mem_cons_of_mem _ List.mem_cons_self)) hini
  have hU' : vx_Zq Bundle.tN "UNASSIGNED_STACK" Bundle.steD A s' s'.heap := by rw [hhp]; exact vx_Zq.moved hW0.alike (hU.kept hS.2.1)
  have hN' : vx_Zq Bundle.tN "SUPPRESSED_SENTINEL" Bundle.listD A s' s'.heap := by rw [hhp]; exact vx_Zq.moved hW0.alike (hN.kept hS.2.1)
  have h : ∀ w ∈ Bundle.ownAtoms0 own ic cls names, w.before args s' = true := vx_own hat' (vx_isRefq hU'.1) (vx_isRefq hN'.1) hU'.2.word hN'.2.word
  have hown' : s'.vm.findClass own = some m.cls := by rw [hvm]; exact hown
  have hins : (Cond.instantiable cls 6).before args s' = true := h _ (by simp [Bundle.ownAtoms0])
  obtain ⟨vm₁, cX, kX, hfX, hkX, -, -, X₁, st1⟩ := Y.newCold hexec (own := own) (C := cls) (index := ik) (n := 6) hown' hk' hins hini'
    (g := F0 m pc ls rest) rfl (by rw [hb]; exact d0) (Nat.le_refl _) (Nat.le_refl _)
  generalize hT1 : (T.setVm vm₁).pushCell { cls := cX, slots := kX.instanceTypes.map defaultValue, vm := .none } = T1 at X₁ st1
  have hcat : (Value.ref T.heap.size).category = 1 := rfl
  have hcellA : T1.heap[T.heap.size]? = some (freshCell cX kX) := by rw [← hT1]; exact State.heap_pushCell_size _ _
  have d3' : decode c.code (pc + 3) = .ok (.dup, 1) := by rw [hb]; exact d3
  obtain ⟨U, hsteps, hrun, hend, hW, hsame, ce, hce, hO⟩ := X₁.ctorThrow0 hexec htr (own := own) (cls := cls) (names := names) (ic := ic) hown' hcls hnames h (fun x hx => nomatch hx) hfX hkX hcellA (by rw [hhp, hT]; exact Nat.le_refl _)
    (g := { method := m, pc := pc + 4, locals := ls, stack := .ref T.heap.size :: .ref T.heap.size :: rest, locked := none }) rfl hsize rfl rfl (rest := rest) rfl
    (by rw [hb]; exact d4) (by rw [hb]; exact d7) hout hRframes (by simp only [List.map_cons, List.sum_cons, hcat]; omega) hlocks
  obtain ⟨f1, f2⟩ := vx_frame hsame
  rw [hhp] at f1 f2
  have hWs : s.WarmedH U.vm := State.WarmedH.trans hW0 hW
  have hcl : s.vm.findClass cls = some ce.cls := by
    have h9 := hO.cls
    rw [hvm] at h9
    exact h9
  have hall : s.sameButNew ({ U with vm := s.vm } : State) locs mc ms := by
    subst hA
    obtain ⟨e1, e2⟩ := hsame
    rw [State.setFrames_setFrames] at e1
    have h2 : (T.setVm s.vm).sameButNew ({ U with vm := s.vm } : State) [] (0 + 1) (0 + 6) := ⟨e1, e2⟩
    have h3 := X.same.trans h2
    rw [List.append_nil] at h3
    exact h3.mono hc hs
  refine ⟨U, ?_, .threw T.heap.size, hrun, hend, Or.inr ⟨T.heap.size, rfl, cls, ce, locs, hx U hWs.alike f1 (fun q hq => f2 q hq (fun z hz => nomatch hz)), hce, hO.vm, hcl, hWs, hall, hf⟩⟩
  refine st1 _ ?_
  show Steps p.tables e below (T1.setTop { method := m, pc := pc + 3, locals := ls, stack := .ref T.heap.size :: rest, locked := none }) _
  jvm_step X₁.here [X₁.here.top, hexec, d3', Value.category]
  exact hsteps
/-- 'throw new E("text")': new; dup; ldc; invokespecial; athrow -/
theorem vx_throwS {cc : ByteArray} {pc : Nat} (hexec : p.tables.exec = Jvm.exec) (hb : c.code = cc) (hl : l.stackTraces = false) {own cls text : String} {names : List String} {ik is ic mc ms sa : Nat} {A : Nat → Prop}
    (hown : s.vm.findClass own = some m.cls) (hcls : Bundle.fit cls = true) (hnames : ∀ n ∈ names, Bundle.fit n = true)
    (hk : (Cond.classLink own ik cls).before args s = true) (hini : (Cond.initialized cls).before args s = true) (hstr : vk_R own is text sa s) (hat : ∀ w ∈ vx_atS own ic cls names, w.before args s = true)
    (hgood : ∀ w ∈ Cond.classLink own ik cls :: Cond.initialized cls :: vx_atS own ic cls names, vx_ot w = true)
    (hU : vx_Zq Bundle.tN "UNASSIGNED_STACK" Bundle.steD A s s.heap) (hN : vx_Zq Bundle.tN "SUPPRESSED_SENTINEL" Bundle.listD A s s.heap) (hS : va_S A s.heap H locs) (hsize : ls.size = c.maxLocals)
    (d0 : decode cc pc = .ok (.new ik, 3)) (d3 : decode cc (pc + 3) = .ok (.dup, 1)) (d4 : decode cc (pc + 4) = .ok (.ldc is, 2)) (d6 : decode cc (pc + 6) = .ok (.invokespecial ic, 3)) (d9 : decode cc (pc + 9) = .ok (.athrow, 1))
    (hout : ∀ x ∈ c.exceptionTable.toList, covers x (pc + 9) = false)
    (hRframes : names.length + 3 < R.frames) (hRlocals : (rest.map fun v => v.category).sum + (13 * (names.length + 1) + 43) ≤ R.locals) (hRcells : cells + 1 ≤ R.cells) (hRslots : slots + 6 ≤ R.slots) (hlocks : meth.locks = false)
    (hx : ∀ t : State, s.vm.Alike t.vm → H.size ≤ t.heap.size → (∀ q : Nat, q < H.size → t.heap[q]? = H[q]?) → XC cls s t)
    (hf : ∀ z ∈ locs, free z.base) (hc : cells + 1 ≤ mc) (hs : slots + 6 ≤ ms) :
    W p l e R s m args below meth c H locs cells slots (vx_MQ below Qc XC args s mc ms free) (F0 m pc ls rest) := by
  intro T hT X
  have htr : e.platform.stackTraces = false := (show e.platform.stackTraces = l.stackTraces by rw [X.admits.platform]).trans hl
  have Y := vx_rebase X (R' := { frames := R.frames, locals := R.locals, cells := 1, slots := 6 }) (Nat.le_refl _) (Nat.le_refl _) hRcells hRslots
  obtain ⟨s', hA⟩ : ∃ z, z = (T.setVm s.vm).setFrames (.invoking m args :: below) := ⟨_, rfl⟩
  rw [← hA] at Y
  have hvm : s'.vm = s.vm := by rw [hA]; rfl
  have hhp : s'.heap = H := by rw [hA]; exact hT
  have hW0 : s.WarmedH s'.vm := by rw [hvm]; exact State.WarmedH.refl s
  have hat' : ∀ w ∈ vx_atS own ic cls names, w.before args s' = true := fun w hw => vx_ot_at hW0 hvm.symm (hgood w (List.mem_cons_of_mem _ (List.mem_cons_of_mem _ hw))) (hat w hw)
  have hk' : (Cond.classLink own ik cls).before args s' = true := vx_ot_at hW0 hvm.symm (hgood _ List.mem_cons_self) hk
  have hini' : (Cond.initialized cls).before args s' = true := vx_ot_at hW0 hvm.symm (hgood _ (List.mem_cons_of_mem _ List.mem_cons_self)) hini
  have hU' : vx_Zq Bundle.tN "UNASSIGNED_STACK" Bundle.steD A s' s'.heap := by rw [hhp]; exact vx_Zq.moved hW0.alike (hU.kept hS.2.1)
  have hN' : vx_Zq Bundle.tN "SUPPRESSED_SENTINEL" Bundle.listD A s' s'.heap := by rw [hhp]; exact vx_Zq.moved hW0.alike (hN.kept hS.2.1)
  have h : ∀ w ∈ Bundle.ownAtoms own ic cls names, w.before args s' = true := vx_own hat' (vx_isRefq hU'.1) (vx_isRefq hN'.1) hU'.2.word hN'.2.word
  have hown' : s'.vm.findClass own = some m.cls := by rw [hvm]; exact hown
  have hins : (Cond.instantiable cls 6).before args s' = true := h _ (by simp [Bundle.ownAtoms])
  obtain ⟨vm₁, cX, kX, hfX, hkX, -, -, X₁, st1⟩ := Y.newCold hexec (own := own) (C := cls) (index := ik) (n := 6) hown' hk' hins hini'
    (g := F0 m pc ls rest) rfl (by rw [hb]; exact d0) (Nat.le_refl _) (Nat.le_refl _)
  generalize hT1 : (T.setVm vm₁).pushCell { cls := cX, slots := kX.instanceTypes.map defaultValue, vm := .none } = T1 at X₁ st1
  have hcat : (Value.ref T.heap.size).category = 1 := rfl
  have hcellA : T1.heap[T.heap.size]? = some (freshCell cX kX) := by rw [← hT1]; exact State.heap_pushCell_size _ _
  have d3' : decode c.code (pc + 3) = .ok (.dup, 1) := by rw [hb]; exact d3
  have d4' : decode c.code (pc + 4) = .ok (.ldc is, 2) := by rw [hb]; exact d4
  have hstr' : vk_R own is text sa s' := vk_R.warm hW0 hstr
  obtain ⟨U, hsteps, hrun, hend, hW, hsame, ce, hce, hO⟩ := X₁.ctorThrowS hexec htr (own := own) (cls := cls) (names := names) (ic := ic) hown' hcls hnames h (fun x hx => nomatch hx) hfX hkX hcellA (by rw [hhp, hT]; exact Nat.le_refl _) (msg := .ref sa) rfl
    (g := { method := m, pc := pc + 6, locals := ls, stack := .ref sa :: .ref T.heap.size :: .ref T.heap.size :: rest, locked := none }) rfl hsize rfl rfl (rest := rest) rfl
    (by rw [hb]; exact d6) (by rw [hb]; exact d9) hout hRframes (by simp only [List.map_cons, List.sum_cons, hcat]; omega) hlocks
  obtain ⟨f1, f2⟩ := vx_frame hsame
  rw [hhp] at f1 f2
  have hWs : s.WarmedH U.vm := State.WarmedH.trans hW0 hW
  have hcl : s.vm.findClass cls = some ce.cls := by
    have h9 := hO.cls
    rw [hvm] at h9
    exact h9
  have hall : s.sameButNew ({ U with vm := s.vm } : State) locs mc ms := by
    subst hA
    obtain ⟨e1, e2⟩ := hsame
    rw [State.setFrames_setFrames] at e1
    have h2 : (T.setVm s.vm).sameButNew ({ U with vm := s.vm } : State) [] (0 + 1) (0 + 6) := ⟨e1, e2⟩
    have h3 := X.same.trans h2
    rw [List.append_nil] at h3
    exact h3.mono hc hs
  refine ⟨U, ?_, .threw T.heap.size, hrun, hend, Or.inr ⟨T.heap.size, rfl, cls, ce, locs, hx U hWs.alike f1 (fun q hq => f2 q hq (fun z hz => nomatch hz)), hce, hO.vm, hcl, hWs, hall, hf⟩⟩
  refine st1 _ ?_
  show Steps p.tables e below (T1.setTop { method := m, pc := pc + 3, locals := ls, stack := .ref T.heap.size :: rest, locked := none }) _
  jvm_step X₁.here [X₁.here.top, hexec, d3', Value.category]
  exact X₁.ldcString hexec (own := own) (text := text) (index := is) (a := sa) hown' hstr'.1 hstr'.2
    (g := { method := m, pc := pc + 4, locals := ls, stack := .ref T.heap.size :: .ref T.heap.size :: rest, locked := none }) rfl d4' _ hsteps
/-- 'throw new E("text")', the text by a wide index -/
theorem vx_throwSW {cc : ByteArray} {pc : Nat} (hexec : p.tables.exec = Jvm.exec) (hb : c.code = cc) (hl : l.stackTraces = false) {own cls text : String} {names : List String} {ik is ic mc ms sa : Nat} {A : Nat → Prop}
    (hown : s.vm.findClass own = some m.cls) (hcls : Bundle.fit cls = true) (hnames : ∀ n ∈ names, Bundle.fit n = true)
    (hk : (Cond.classLink own ik cls).before args s = true) (hini : (Cond.initialized cls).before args s = true) (hstr : vk_R own is text sa s) (hat : ∀ w ∈ vx_atS own ic cls names, w.before args s = true)
    (hgood : ∀ w ∈ Cond.classLink own ik cls :: Cond.initialized cls :: vx_atS own ic cls names, vx_ot w = true)
    (hU : vx_Zq Bundle.tN "UNASSIGNED_STACK" Bundle.steD A s s.heap) (hN : vx_Zq Bundle.tN "SUPPRESSED_SENTINEL" Bundle.listD A s s.heap) (hS : va_S A s.heap H locs) (hsize : ls.size = c.maxLocals)
    (d0 : decode cc pc = .ok (.new ik, 3)) (d3 : decode cc (pc + 3) = .ok (.dup, 1)) (d4 : decode cc (pc + 4) = .ok (.ldc_w is, 3)) (d7 : decode cc (pc + 7) = .ok (.invokespecial ic, 3)) (d10 : decode cc (pc + 10) = .ok (.athrow, 1))
    (hout : ∀ x ∈ c.exceptionTable.toList, covers x (pc + 10) = false)
    (hRframes : names.length + 3 < R.frames) (hRlocals : (rest.map fun v => v.category).sum + (13 * (names.length + 1) + 43) ≤ R.locals) (hRcells : cells + 1 ≤ R.cells) (hRslots : slots + 6 ≤ R.slots) (hlocks : meth.locks = false)
    (hx : ∀ t : State, s.vm.Alike t.vm → H.size ≤ t.heap.size → (∀ q : Nat, q < H.size → t.heap[q]? = H[q]?) → XC cls s t)
    (hf : ∀ z ∈ locs, free z.base) (hc : cells + 1 ≤ mc) (hs : slots + 6 ≤ ms) :
    W p l e R s m args below meth c H locs cells slots (vx_MQ below Qc XC args s mc ms free) (F0 m pc ls rest) := by
  intro T hT X
  have htr : e.platform.stackTraces = false := (show e.platform.stackTraces = l.stackTraces by rw [X.admits.platform]).trans hl
  have Y := vx_rebase X (R' := { frames := R.frames, locals := R.locals, cells := 1, slots := 6 }) (Nat.le_refl _) (Nat.le_refl _) hRcells hRslots
  obtain ⟨s', hA⟩ : ∃ z, z = (T.setVm s.vm).setFrames (.invoking m args :: below) := ⟨_, rfl⟩
  rw [← hA] at Y
  have hvm : s'.vm = s.vm := by rw [hA]; rfl
  have hhp : s'.heap = H := by rw [hA]; exact hT
  have hW0 : s.WarmedH s'.vm := by rw [hvm]; exact State.WarmedH.refl s
  have hat' : ∀ w ∈ vx_atS own ic cls names, w.before args s' = true := fun w hw => vx_ot_at hW0 hvm.symm (hgood w (List.mem_cons_of_mem _ (List.mem_cons_of_mem _ hw))) (hat w hw)
  have hk' : (Cond.classLink own ik cls).before args s' = true := vx_ot_at hW0 hvm.symm (hgood _ List.mem_cons_self) hk
  have hini' : (Cond.initialized cls).before args s' = true := vx_ot_at hW0 hvm.symm (hgood _ (List.mem_cons_of_mem _ List.mem_cons_self)) hini
  have hU' : vx_Zq Bundle.tN "UNASSIGNED_STACK" Bundle.steD A s' s'.heap := by rw [hhp]; exact vx_Zq.moved hW0.alike (hU.kept hS.2.1)
  have hN' : vx_Zq Bundle.tN "SUPPRESSED_SENTINEL" Bundle.listD A s' s'.heap := by rw [hhp]; exact vx_Zq.moved hW0.alike (hN.kept hS.2.1)
  have h : ∀ w ∈ Bundle.ownAtoms own ic cls names, w.before args s' = true := vx_own hat' (vx_isRefq hU'.1) (vx_isRefq hN'.1) hU'.2.word hN'.2.word
  have hown' : s'.vm.findClass own = some m.cls := by rw [hvm]; exact hown
  have hins : (Cond.instantiable cls 6).before args s' = true := h _ (by simp [Bundle.ownAtoms])
  obtain ⟨vm₁, cX, kX, hfX, hkX, -, -, X₁, st1⟩ := Y.newCold hexec (own := own) (C := cls) (index := ik) (n := 6) hown' hk' hins hini'
    (g := F0 m pc ls rest) rfl (by rw [hb]; exact d0) (Nat.le_refl _) (Nat.le_refl _)
  generalize hT1 : (T.setVm vm₁).pushCell { cls := cX, slots := kX.instanceTypes.map defaultValue, vm := .none } = T1 at X₁ st1
  have hcat : (Value.ref T.heap.size).category = 1 := rfl
  have hcellA : T1.heap[T.heap.size]? = some (freshCell cX kX) := by rw [← hT1]; exact State.heap_pushCell_size _ _
  have d3' : decode c.code (pc + 3) = .ok (.dup, 1) := by rw [hb]; exact d3
  have d4' : decode c.code (pc + 4) = .ok (.ldc_w is, 3) := by rw [hb]; exact d4
  have hstr' : vk_R own is text sa s' := vk_R.warm hW0 hstr
  obtain ⟨U, hsteps, hrun, hend, hW, hsame, ce, hce, hO⟩ := X₁.ctorThrowS hexec htr (own := own) (cls := cls) (names := names) (ic := ic) hown' hcls hnames h (fun x hx => nomatch hx) hfX hkX hcellA (by rw [hhp, hT]; exact Nat.le_refl _) (msg := .ref sa) rfl
    (g := { method := m, pc := pc + 7, locals := ls, stack := .ref sa :: .ref T.heap.size :: .ref T.heap.size :: rest, locked := none }) rfl hsize rfl rfl (rest := rest) rfl
    (by rw [hb]; exact d7) (by rw [hb]; exact d10) hout hRframes (by simp only [List.map_cons, List.sum_cons, hcat]; omega) hlocks
  obtain ⟨f1, f2⟩ := vx_frame hsame
  rw [hhp] at f1 f2
  have hWs : s.WarmedH U.vm := State.WarmedH.trans hW0 hW
  have hcl : s.vm.findClass cls = some ce.cls := by
    have h9 := hO.cls
    rw [hvm] at h9
    exact h9
  have hall : s.sameButNew ({ U with vm := s.vm } : State) locs mc ms := by
    subst hA
    obtain ⟨e1, e2⟩ := hsame
    rw [State.setFrames_setFrames] at e1
    have h2 : (T.setVm s.vm).sameButNew ({ U with vm := s.vm } : State) [] (0 + 1) (0 + 6) := ⟨e1, e2⟩
    have h3 := X.same.trans h2
    rw [List.append_nil] at h3
    exact h3.mono hc hs
  refine ⟨U, ?_, .threw T.heap.size, hrun, hend, Or.inr ⟨T.heap.size, rfl, cls, ce, locs, hx U hWs.alike f1 (fun q hq => f2 q hq (fun z hz => nomatch hz)), hce, hO.vm, hcl, hWs, hall, hf⟩⟩
  refine st1 _ ?_
  show Steps p.tables e below (T1.setTop { method := m, pc := pc + 3, locals := ls, stack := .ref T.heap.size :: rest, locked := none }) _
  jvm_step X₁.here [X₁.here.top, hexec, d3', Value.category]
  exact X₁.ldcStringW hexec (own := own) (text := text) (index := is) (a := sa) hown' hstr'.1 hstr'.2
    (g := { method := m, pc := pc + 4, locals := ls, stack := .ref T.heap.size :: .ref T.heap.size :: rest, locked := none }) rfl d4' _ hsteps
end Ends
section Bodies
variable {l : Launch}
theorem vx_ofW {y : MethodName} {ws ws' : List Cond} {rm : Room} {Pc : Array Value → State → Prop} {Qc : Array Value → State → Outcome → State → Prop} {XC : String → State → State → Prop} {mc ms : Nat} {free : Addr → Prop} {cc : ByteArray} {maxL : Nat} {ret : Option FieldType}
    (hy : plainName y.cls = true) (hw : ws = Cond.code y cc maxL ret :: ws')
    (body : ∀ p e s m args below meth c s₁, BodyLoose p l y (headSpec ws rm) cc maxL ret e s m args below meth c s₁ → c.maxLocals = maxL → (∀ x ∈ c.exceptionTable.toList, False) → Pc args s →
      W p l e (headSpec ws rm).room s m args below meth c s.heap [] 0 0 (vx_MQ below Qc XC args s mc ms free) (entryFrame m args maxL)) : vx_Met l y ws rm Pc Qc XC mc ms free := by
  refine MetFree.of_bodyS (code := cc) (maxLocals := maxL) (ret := ret) hy ?_ ?_
  · intro args s m h hn
    obtain ⟨meth, c, h1, h2, h3, h4, h5, h6, -, -⟩ := Cond.code_spec hn (atoms_spec (ws := ws) h _ (by rw [hw]; exact List.mem_cons_self))
    exact ⟨meth, c, h1, h2, h3, h4, h5, h6⟩
  · intro p e s m args below meth c s₁ B hml hP _
    have hh0 : s₁.heap = s.heap := by rw [B.state]; rfl
    have ht : ∀ x ∈ c.exceptionTable.toList, False := by
      obtain ⟨meth9, c9, h1, h2, -, -, -, -, h7, -⟩ := Cond.code_spec B.named (atoms_spec (ws := ws) B.pre _ (by rw [hw]; exact List.mem_cons_self))
      cases Option.some.inj (h1.symm.trans B.method)
      cases Option.some.inj (h2.symm.trans (Stand.of_body B).code)
      intro x hx
      rw [Array.isEmpty_iff.mp h7] at hx
      cases hx
    obtain ⟨t, a1, o, b1, b2, b3⟩ := body p e s m args below meth c s₁ B hml ht hP s₁ hh0 (Stand.of_body B)
    exact ⟨t, o, a1, b1, b2, b3⟩
/-- the table of a body with handlers -/
theorem vx_table {p : Program} {x y : MethodName} {S : Spec} {cc bytes : ByteArray} {maxL maxL' : Nat} {ret ret' : Option FieldType} {e : Env} {s s₁ : State} {m : MethodId} {args : Array Value} {below : List Frame} {meth : Method} {c : Code} {hh : List (Nat × Nat × Nat × Nat)}
    (B : BodyLoose p l y S cc maxL ret e s m args below meth c s₁) (h : (Cond.codeWith y bytes maxL' ret' hh).before args s = true) : c.exceptionTable.toList = tableOf hh := by
  obtain ⟨m9, meth9, c9, hn9, h1, h2, -, -, h6, -⟩ := Cond.codeWith_spec h
  cases Option.some.inj (hn9.symm.trans B.named)
  cases Option.some.inj (h1.symm.trans B.method)
  cases Option.some.inj (h2.symm.trans (Stand.of_body B).code)
  rw [← h6, table_eq]
end Bodies
end VXA
/-! ===== END ===== -/
/-! ===== BEGIN a static call of a method with an exception table ===== -/
section VXS
variable {p : Program} {l : Launch} {e : Env} {R : Room} {s : State} {m : MethodId} {args : Array Value} {below : List Frame} {meth : Method} {c : Code} {T : State} {H : Heap} {locs : List Loc} {cells slots : Nat}
abbrev vx_CSW (R : Room) (s : State) (args : Array Value) (own : String) (index : Nat) (y : MethodName) (bytes : ByteArray) (maxL : Nat) (ret : Option FieldType) (hh : List (Nat × Nat × Nat × Nat)) (ws : List Cond) (rm : Room) (mc ms n : Nat) : Prop :=
  (rm.cells = mc ∧ rm.slots = ms ∧ rm.frames + 1 ≤ R.frames ∧ 8 + (maxL + 11) + rm.locals ≤ R.locals ∧ (∀ w ∈ ws, ∀ (a' : Array Value) (U : State), s.WarmedH U.vm → w.before a' U = true) ∧ Cond.codeWith y bytes maxL ret hh ∈ ws) ∧
  (Cond.codeWith y bytes maxL ret hh).before args s = true ∧ (Cond.initialized y.cls).before args s = true ∧ (y.cls ≠ "java/lang/invoke/MethodHandle" ∧ y.cls ≠ "java/lang/invoke/VarHandle") ∧
  (∀ sig, parseMethodDescriptor y.desc = some sig → n = sig.parameters.length) ∧ (Cond.methodLink own index y).before args s = true ∧ (Cond.static y).before args s = true
theorem vx_cwSW {own : String} {index maxL mc ms : Nat} {y : MethodName} {bytes : ByteArray} {ret : Option FieldType} {hh : List (Nat × Nat × Nat × Nat)} {Ts ws ws' : List Cond} {rm : Room} (n : Nat) (ht : ∀ w ∈ Ts, w.before args s = true) (hT : GoodIn Ts (va_wsS own index y ws)) (hw : ws = Cond.codeWith y bytes maxL ret hh :: ws') (hrc : rm.cells = mc) (hrs : rm.slots = ms)
    (hd : y.cls ≠ "java/lang/invoke/MethodHandle" ∧ y.cls ≠ "java/lang/invoke/VarHandle" ∧ (parseMethodDescriptor y.desc).map (fun d => d.parameters.length) = some n) (hR : rm.frames + 1 ≤ R.frames ∧ 8 + (maxL + 11) + rm.locals ≤ R.locals) :
    vx_CSW R s args own index y bytes maxL ret hh ws rm mc ms n := by
  have ok : ∀ w ∈ va_wsS own index y ws, w.before args s = true := fun w h => ht w (hT w h).1
  have hG : GoodIn Ts ws := fun w h => hT w (by unfold va_wsS; exact List.mem_append_right _ h)
  have hc : Cond.codeWith y bytes maxL ret hh ∈ ws := by rw [hw]; exact List.mem_cons_self
  refine ⟨⟨hrc, hrs, hR.1, hR.2, pay_in ht hG, hc⟩, ht _ (hG _ hc).1, ok _ (by simp [va_wsS]), ⟨hd.1, hd.2.1⟩, fun sig h => ?_, ok _ (by simp [va_wsS]), ok _ (by simp [va_wsS])⟩
  have h2 := hd.2.2
  rw [h] at h2
  exact (Option.some.inj h2).symm
theorem vx_callSW (X : Stand p l e R s m args below meth c T locs cells slots) (hexec : p.tables.exec = Jvm.exec) {own : String} {index : Nat} {y : MethodName} {bytes : ByteArray} {maxL : Nat} {ret : Option FieldType} {hh : List (Nat × Nat × Nat × Nat)}
    (hown : s.vm.findClass own = some m.cls) (hlink : (Cond.methodLink own index y).before args s = true) (hstat : (Cond.static y).before args s = true) (hinit : (Cond.initialized y.cls).before args s = true)
    (hcode : (Cond.codeWith y bytes maxL ret hh).before args s = true) (hy : y.cls ≠ "java/lang/invoke/MethodHandle" ∧ y.cls ≠ "java/lang/invoke/VarHandle")
    {W9 : Nat} {Pre : Pt → Array Value → Prop} {Post : Pt → Array Value → Option Value → Pt → Prop} (hK : Back l R p e below s args y 3 W9 Pre Post)
    {g : JFrame} (hg : g.method = m) (hsize : g.locals.size = c.maxLocals) {argsL rest : List Value} (hlen : ∀ sig, parseMethodDescriptor y.desc = some sig → argsL.length = sig.parameters.length)
    (hstack : g.stack = argsL.reverse ++ rest) (hW : 2 * g.monitorRoom + (rest.map fun v => v.category).sum ≤ W9) (hdg : decode c.code g.pc = .ok (.invokestatic index, 3))
    (hpre : ∀ vm₁, s.WarmedH vm₁ → Pre ⟨T.setVm vm₁, locs, cells, slots⟩ argsL.toArray) :
    ∃ (v : Option Value) (vm₁ : Vm) (B : Pt), s.WarmedH vm₁ ∧ Stand p l e R s m args below meth c B.U B.locs B.cells B.slots ∧ Post ⟨T.setVm vm₁, locs, cells, slots⟩ argsL.toArray v B ∧
      ∀ target, Steps p.tables e below (B.U.setTop { g with pc := g.pc + 3, stack := v.toList ++ rest }) target → Steps p.tables e below (T.setTop g) target := by
  obtain ⟨mk, methM, cM, hnamed, hmethM, -, -, -, -, -, -, hsigM⟩ := Cond.codeWith_spec hcode
  have hstatic : methM.isStatic = true := Cond.static_spec hnamed hmethM hstat
  obtain ⟨kP, hkP, -⟩ := className_of_methodNamed hnamed
  have hinitP : kP.init = .initialized := Cond.initialized_spec (findClass_of_methodNamed hnamed) hkP hinit
  obtain ⟨vm₁, X₁, hstep₁⟩ := X.invokestatic hexec hown hlink hnamed hmethM hstatic hkP hinitP hy (g := g) hg (argsL := argsL) (rest := rest) (hlen _ hsigM) hstack hdg
  obtain ⟨v, B, X', hpost, hsteps⟩ := hK m meth c ⟨T.setVm vm₁, locs, cells, slots⟩ { g with stack := rest } (.invokestatic index) mk argsL.toArray X₁ hg hsize hdg hW (X₁.named hnamed) (hpre vm₁ X₁.warmed)
  exact ⟨v, vm₁, B, X₁.warmed, X', hpost, fun target h => hstep₁ _ fun acts => by rw [doInvoke_state]; exact hsteps.trans h⟩
theorem vx_runSW {y : MethodName} {bytes cc : ByteArray} {maxL nL mc ms n index : Nat} {ret : Option FieldType} {hh : List (Nat × Nat × Nat × Nat)} {ws : List Cond} {rm : Room} {Pc : Array Value → State → Prop} {Qc : Array Value → State → Outcome → State → Prop} {free : Addr → Prop} {Ts : List Cond} {own : String} {As rest : List Value} {g : JFrame}
    (S : CallFix p m c cc nL s args Ts own) (hM : Met l y ws rm Pc Qc mc ms free) (cw : vx_CSW R s args own index y bytes maxL ret hh ws rm mc ms n) (hp : PreS s H Pc As)
    (hg : g.method = m) (hn : As.length = n) (hsize : g.locals.size = nL) (hstack : g.stack = As.reverse ++ rest) (hW : 2 * g.monitorRoom + (rest.map fun v => v.category).sum ≤ 8) (hdg : decode cc g.pc = .ok (.invokestatic index, 3)) (hf : cells + mc ≤ R.cells ∧ slots + ms ≤ R.slots) :
    va_Run p l e R s m args below meth c H locs cells slots mc ms g rest (Qc As.toArray) (free) := by
  obtain ⟨⟨hrc, hrs, hfr, hlo, hws, hcw⟩, hcode, hini, hy, hlen, hl, hstt⟩ := cw
  have hK : Back l R p e below s args y 3 8 (PreOf R mc ms Pc) (PostOf Qc mc ms free) := va_backW (hh := hh) (bytes := bytes) (maxL := maxL) (ret := ret) hM hp.1 hrc hrs hfr hlo hws hcw (fun a' U hW => word_at hW (Or.inl (by first | rfl | simp [Cond.onTables, Cond.keeps, Cond.steady])) hini)
  obtain ⟨hx, hb, hml, ho, -⟩ := S
  intro T hT X
  obtain ⟨v, vm₁, ⟨U', l2, c2, s2⟩, hW₁, X', ⟨g', mk, t, L, e1, e2, hq, h1, hL, h2, h3⟩, st⟩ := vx_callSW X hx (hh := hh) (bytes := bytes) (maxL := maxL) (ret := ret) ho hl hstt hini hcode hy hK hg (hsize.trans hml.symm) (argsL := As) (rest := rest) (fun sig h => hn.trans (hlen sig h)) hstack hW (by rw [hb]; exact hdg)
    (fun vm₁ hW₁ => ⟨hf.1, hf.2, hp.2 (T.setVm vm₁) hT hW₁⟩)
  dsimp only [Pt.U, Pt.locs, Pt.cells, Pt.slots] at X' e1 e2 h1 h2 h3 st
  subst h1; subst h2; subst h3
  exact ⟨v, (T.setVm vm₁).calling g' mk As.toArray, t, U', L, hT, X', hL, e1, e2, hq, st⟩
/-- not caught here, past rows that name other classes: it goes on to the caller -/
theorem vx_outP {p : Program} {l : Launch} {e : Env} {R : Room} {s : State} {m : MethodId} {args : Array Value} {below : List Frame} {meth : Method} {c : Code} {H : Heap} {locs : List Loc} {cells slots : Nat} {free : Addr → Prop} {ls : Array Slot} {rest : List Value} {Qc : Array Value → State → Outcome → State → Prop} {XC : String → State → State → Prop}
    {pc : Nat} {own E : String} {ce : Cell} {q : Addr} {mc ms : Nat} (hown : s.vm.findClass own = some m.cls) (hlocks : meth.locks = false)
    (hpass : ∀ z ∈ c.exceptionTable.toList, covers z pc = false ∨ (z.catchType ≠ 0 ∧ ∃ nm : String, (Cond.classLink own z.catchType nm).before args s = true ∧ va_Nc E nm s)) (hcell : H[q]? = some ce) (hv : ce.vm = .none) (hcl : s.vm.findClass E = some ce.cls)
    (hx : ∀ t : State, t.heap = H → s.vm.Alike t.vm → XC E s t) (hf : ∀ z ∈ locs, free z.base) (hc : cells ≤ mc) (hs : slots ≤ ms) :
    vx_W p l e R s m args below meth c H locs cells slots (vx_MQ below Qc XC args s mc ms free) (F0 m pc ls rest) q := by
  intro T hT X
  have hpl : e.platform.magicAccessors = ({} : Platform).magicAccessors := by rw [X.admits.platform]
  obtain ⟨vm', hW', X', st⟩ := X.outThrough hlocks q (g := F0 m pc ls rest) rfl rfl rfl (cell := ce) (by rw [hT]; exact hcell) (by rw [hv]; rfl)
    (by obtain ⟨k9, h9, -⟩ := Vm.findClass_spec hcl; exact ⟨k9, h9⟩) (fun z hz => by
      rcases hpass z hz with h | ⟨hz0, nm, hl1, hn1⟩
      · exact Or.inl h
      · obtain ⟨c6, hc6, hcl6⟩ := Cond.classLink_spec hown hl1 e.platform hpl
        obtain ⟨a8, b8, h1, h2, h3⟩ := hn1
        cases Option.some.inj (h1.symm.trans hcl)
        cases Option.some.inj (h2.symm.trans hc6)
        exact Or.inr ⟨hz0, _, hcl6, h3⟩)
  obtain ⟨g₀, hfr⟩ := X'.frames_eq
  have hcell9 : ((T.setVm vm').setFrames (.throwing q :: below)).heap[q]? = some ce := by
    show T.heap[q]? = some ce
    rw [hT]; exact hcell
  have hend : Ended ((T.setVm vm').setFrames (.throwing q :: below)) below (.threw q) := State.frames_setFrames _ (State.cur_lt_of_frames hfr)
  refine ⟨(T.setVm vm').setFrames (.throwing q :: below), ?_, .threw q, X'.here.running, hend, Or.inr ⟨q, rfl, E, ce, locs, hx _ hT (X'.ends _).1.alike, hcell9, hv, hcl, (X'.ends _).1, (X'.ends _).2.mono hc hs, hf⟩⟩
  rw [X.pushThrowing_eq]
  exact st
/-- a thing of a world lies in the heap -/
theorem vx_lt {D : va_G} {cl : List vw_C} {ws : va_W} {H1 : Heap} (h : va_P D cl ws H1) {k : Nat} {q : Nat × va_E} (hk : ws[k]? = some q) : q.1 < H1.size := (h k q hk).lt
end VXS
/-! ===== END ===== -/
/-! ===== BEGIN methods with a table of their own: called by a name, returning or throwing ===== -/
section VXH
/-! vx_backW, vx_callVX, vx_callSX, vx_callVW, vx_runVW, vx_runVX, vx_runSX, vx_ofWH follow the same proofs as their sisters above (Free/Laws.lean, Shelf42/LK1.lean); vx_outP calls Shelf42/NT130.lean (outThrough). -/
section
variable {l : Launch} {R : Room} {p : Program} {e : Env} {below : List Frame} {s : State} {sargs : Array Value} {y : MethodName} {len W9 : Nat}
theorem vx_backW {ws : List Cond} {rm : Room} {Pc : Array Value → State → Prop} {Qc : Array Value → State → Outcome → State → Prop} {XC : String → State → State → Prop} {mc ms : Nat} {free : Addr → Prop} {bytes : ByteArray} {maxL : Nat} {ret : Option FieldType} {hh : List (Nat × Nat × Nat × Nat)}
    (hM : vx_Met l y ws rm Pc Qc XC mc ms free) (hblind : FrameBlind Pc) (hrc : rm.cells = mc) (hrs : rm.slots = ms)
    (hframes : rm.frames + 1 ≤ R.frames) (hlocals : W9 + (maxL + 11) + rm.locals ≤ R.locals)
    (hws : ∀ w ∈ ws, ∀ a' U, s.WarmedH U.vm → w.before a' U = true) (hcode : Cond.codeWith y bytes maxL ret hh ∈ ws) (hinit : ∀ a' U, s.WarmedH U.vm → (Cond.initialized y.cls).before a' U = true) :
    vx_Back l R p e below s sargs y len W9 (PreOf R mc ms Pc) (PostOf Qc mc ms free) (vx_Post XC mc ms free) := by
  intro m meth c A g ig mk a X hg hsize hdg hW hn hp
  have h1 : (headSpec ws rm).pre.before a A.U = true := atoms_intro fun w hw => hws w hw _ _ X.warmed
  have h2 : (Cond.codeWith y bytes maxL ret hh).before a A.U = true := hws _ hcode _ _ X.warmed
  have h3 : (Cond.initialized y.cls).before a A.U = true := hinit _ _ X.warmed
  have h4 : A.cells + (headSpec ws rm).room.cells ≤ R.cells := by rw [show (headSpec ws rm).room.cells = mc from hrc]; exact hp.1
  have h5 : A.slots + (headSpec ws rm).room.slots ≤ R.slots := by rw [show (headSpec ws rm).room.slots = ms from hrs]; exact hp.2.1
  have hPc : Pc a (A.U.calling g mk a) := hblind _ _ _ _ hp.2.2
  obtain ⟨U, Ls, c0, s0⟩ := A
  dsimp only [Pt.U, Pt.locs, Pt.cells, Pt.slots] at h1 h2 h3 h4 h5 X hn hPc ⊢
  obtain ⟨m9, methY, cY, hn9, hmY, hcY, -, hlY, -⟩ := Cond.codeWith_spec h2
  cases Option.some.inj (hn9.symm.trans hn)
  obtain ⟨kY, hkY, -⟩ := className_of_methodNamed hn
  have hinitY : kY.init = .initialized := Cond.initialized_spec (findClass_of_methodNamed hn) hkY h3
  have h : At U g.method c below := by rw [hg]; exact X.here
  have hlocals9 : W9 + (maxL + 11) + (headSpec ws rm).room.locals ≤ R.locals := hlocals
  have happ : (headSpec ws rm).appliesLoose y e.platform (U.calling g mk a) = true :=
    Spec.appliesLoose_calling (g := g) h hdg hn hkY hinitY
      (X.room_calling (g := g) (R' := (headSpec ws rm).room) hsize hmY hcY hframes (by rw [hlY]; omega) h4 h5) h1
  obtain ⟨mid, hmid⟩ := h.above
  have hfr : (U.setTop g).frames = (.java g :: mid) ++ below := by rw [State.frames_setTop' g h.top, hmid]; rfl
  obtain ⟨o, s₂, hsteps, -, hend, hq⟩ := Steps.callFree hM p X.admits X.cas X.clock (acts := []) hfr happ hPc trivial
  have hq' : vx_Q Qc XC mc ms free a (U.calling g mk a) o s₂ := hq
  rw [State.frames_setTop' g h.top] at hend
  obtain ⟨g₀, hg0⟩ := Option.isSome_iff_exists.mp h.top
  obtain ⟨r, hr⟩ := State.topJava?_eq_some.mp hg0
  have hr' : (({ U with heap := s₂.heap, slotsUsed := s₂.slotsUsed } : State).setVm s₂.vm).frames = .java g₀ :: r := hr
  rcases hq' with ⟨hqc, L, hfe, hL⟩ | ⟨q, rfl, E, ce, L, hx, hce, hcv, hcl, hW₂, hsm, hL⟩
  · obtain ⟨⟨v, rfl⟩, hW₂, e2, q2, q3, q4, q5, q6⟩ := id hfe
    have e3 : s₂ = ({ (U.calling g mk a).setFrames s₂.frames with heap := s₂.heap, slotsUsed := s₂.slotsUsed } : State).setVm s₂.vm := by
      have : s₂ = ({ s₂ with vm := (U.calling g mk a).vm } : State).setVm s₂.vm := rfl
      rw [e2] at this
      exact this
    obtain ⟨c₂, i₂, len₂, hc₂, hd₂, hf₂⟩ := hend
    have hW' : U.WarmedH s₂.vm := hW₂
    have hcc : c₂ = c := by
      have h1 : s₂.code? g.method = U.code? g.method := by
        rw [State.code?_eq, State.code?_eq, hW'.alike.method?]
      exact Option.some.inj (hc₂.symm.trans (h1.trans h.code))
    subst hcc
    have hlen : len₂ = len := by rw [hdg] at hd₂; cases hd₂; rfl
    subst hlen
    have hs₂ : s₂ = (({ U with heap := s₂.heap, slotsUsed := s₂.slotsUsed } : State).setVm s₂.vm).setTop { g with pc := g.pc + len₂, stack := v.toList ++ g.stack } := by
      refine e3.trans ?_
      rw [hf₂, State.calling_eq h.top, State.setFrames_setFrames, State.setTop_of_frames _ hr', hr]
      rfl
    have hsame : U.sameButNew ({ U with heap := s₂.heap, slotsUsed := s₂.slotsUsed } : State) L mc ms := by
      refine ⟨?_, q2, q3, q4, q5, q6⟩
      obtain ⟨t, ht, -⟩ := State.frames_cons hr
      show ({ U with heap := s₂.heap, slotsUsed := s₂.slotsUsed } : State) = { U.setFrames U.frames with heap := s₂.heap, slotsUsed := s₂.slotsUsed }
      rw [State.setFrames_self ht]
    subst hg
    refine Or.inl ⟨v, ⟨(({ U with heap := s₂.heap, slotsUsed := s₂.slotsUsed } : State).setVm s₂.vm), Ls ++ L, c0 + mc, s0 + ms⟩,
      ⟨X.admits, X.cas, X.clock, X.frames, X.room, X.hears, X.method, X.code, (X.here.setHeapUsed s₂.heap s₂.slotsUsed).setVm hW'.alike, X.tail, State.WarmedH.trans X.warmed hW', X.limits, X.bytes, X.same.trans (hsame.setVm s.vm)⟩,
      ⟨g, mk, s₂, L, rfl, rfl, hqc, rfl, hL, rfl, rfl⟩, ?_⟩
    show Steps p.tables e below _ ((({ U with heap := s₂.heap, slotsUsed := s₂.slotsUsed } : State).setVm s₂.vm).setTop { g with pc := g.pc + len₂, stack := v.toList ++ g.stack })
    rw [← hs₂]
    exact hsteps
  · obtain ⟨e2, q2, q3, q4, q5, q6⟩ := id hsm
    have e3 : s₂ = ({ (U.calling g mk a).setFrames s₂.frames with heap := s₂.heap, slotsUsed := s₂.slotsUsed } : State).setVm s₂.vm := by
      have : s₂ = ({ s₂ with vm := (U.calling g mk a).vm } : State).setVm s₂.vm := rfl
      rw [e2] at this
      exact this
    have hf₂ : s₂.frames = .throwing q :: .java g :: U.frames.tail := hend
    have hW' : U.WarmedH s₂.vm := hW₂
    have hs₂ : s₂ = ((({ U with heap := s₂.heap, slotsUsed := s₂.slotsUsed } : State).setVm s₂.vm).setTop g).pushFrame (.throwing q) := by
      refine e3.trans ?_
      rw [hf₂, State.calling_eq h.top, State.setFrames_setFrames, State.pushFrame, State.frames_setTop _ hr', State.setTop_of_frames _ hr', State.setFrames_setFrames, hr]
      rfl
    have hsame : U.sameButNew ({ U with heap := s₂.heap, slotsUsed := s₂.slotsUsed } : State) L mc ms := by
      refine ⟨?_, q2, q3, q4, q5, q6⟩
      obtain ⟨t, ht, -⟩ := State.frames_cons hr
      show ({ U with heap := s₂.heap, slotsUsed := s₂.slotsUsed } : State) = { U.setFrames U.frames with heap := s₂.heap, slotsUsed := s₂.slotsUsed }
      rw [State.setFrames_self ht]
    subst hg
    refine Or.inr ⟨q, ⟨(({ U with heap := s₂.heap, slotsUsed := s₂.slotsUsed } : State).setVm s₂.vm), Ls ++ L, c0 + mc, s0 + ms⟩,
      ⟨X.admits, X.cas, X.clock, X.frames, X.room, X.hears, X.method, X.code, (X.here.setHeapUsed s₂.heap s₂.slotsUsed).setVm hW'.alike, X.tail, State.WarmedH.trans X.warmed hW', X.limits, X.bytes, X.same.trans (hsame.setVm s.vm)⟩,
      ⟨g, mk, s₂, L, E, ce, rfl, rfl, hx, hce, hcv, hcl, rfl, hL, rfl, rfl⟩, ?_⟩
    show Steps p.tables e below _ (((({ U with heap := s₂.heap, slotsUsed := s₂.slotsUsed } : State).setVm s₂.vm).setTop g).pushFrame (.throwing q))
    rw [← hs₂]
    exact hsteps
end
variable {p : Program} {l : Launch} {e : Env} {R : Room} {s : State} {m : MethodId} {args : Array Value} {below : List Frame} {meth : Method} {c : Code} {T : State} {H : Heap} {locs : List Loc} {cells slots : Nat}
theorem vx_callVX (X : Stand p l e R s m args below meth c T locs cells slots) (hexec : p.tables.exec = Jvm.exec) {own C : String} {index : Nat} {y : MethodName} {bytes : ByteArray} {maxL : Nat} {ret : Option FieldType} {hh : List (Nat × Nat × Nat × Nat)}
    (hown : s.vm.findClass own = some m.cls) (hlink : (Cond.methodLink own index y).before args s = true) (hinst : (Cond.instanceMethod y).before args s = true) (hsel : (Cond.selects C y y).before args s = true)
    (hcode : (Cond.codeWith y bytes maxL ret hh).before args s = true) (hy : y.cls ≠ "java/lang/invoke/MethodHandle" ∧ y.cls ≠ "java/lang/invoke/VarHandle")
    {W9 : Nat} {Pre : Pt → Array Value → Prop} {Post : Pt → Array Value → Option Value → Pt → Prop} {PostX : Pt → Array Value → Addr → Pt → Prop} (hK : vx_Back l R p e below s args y 3 W9 Pre Post PostX)
    {b : Addr} {cellB : Cell} (hcell : T.heap[b]? = some cellB) (hobj : cellB.vm.isStatics = false) (hcls : s.vm.findClass C = some cellB.cls)
    {g : JFrame} (hg : g.method = m) (hsize : g.locals.size = c.maxLocals) {argsL rest : List Value} (hlen : ∀ sig, parseMethodDescriptor y.desc = some sig → argsL.length = sig.parameters.length)
    (hstack : g.stack = argsL.reverse ++ .ref b :: rest) (hW : 2 * g.monitorRoom + (rest.map fun v => v.category).sum ≤ W9) (hdg : decode c.code g.pc = .ok (.invokevirtual index, 3))
    (hpre : ∀ vm₁, s.WarmedH vm₁ → Pre ⟨T.setVm vm₁, locs, cells, slots⟩ (Value.ref b :: argsL).toArray) :
    (∃ (v : Option Value) (vm₁ : Vm) (B : Pt), s.WarmedH vm₁ ∧ Stand p l e R s m args below meth c B.U B.locs B.cells B.slots ∧ Post ⟨T.setVm vm₁, locs, cells, slots⟩ (Value.ref b :: argsL).toArray v B ∧
      ∀ target, Steps p.tables e below (B.U.setTop { g with pc := g.pc + 3, stack := v.toList ++ rest }) target → Steps p.tables e below (T.setTop g) target) ∨
    (∃ (q : Addr) (vm₁ : Vm) (B : Pt), s.WarmedH vm₁ ∧ Stand p l e R s m args below meth c B.U B.locs B.cells B.slots ∧ PostX ⟨T.setVm vm₁, locs, cells, slots⟩ (Value.ref b :: argsL).toArray q B ∧
      Steps p.tables e below (T.setTop g) ((B.U.setTop { g with stack := rest }).pushFrame (.throwing q))) := by
  obtain ⟨mk, methM, hnamed, hmethM, hstM, habM⟩ := Cond.instanceMethod_spec hinst
  obtain ⟨m8, methM', cM, hn8, hmethM', -, -, -, -, -, -, hsigM⟩ := Cond.codeWith_spec hcode
  cases Option.some.inj (hn8.symm.trans hnamed)
  cases hmethM.symm.trans hmethM'
  obtain ⟨c2, r2, m2, q1, q2, q3, q4, kP, hkP, hkPi⟩ := Cond.selects_spec hsel
  cases hcls.symm.trans q1
  cases (State.methodFound?_of_named hnamed hy).symm.trans q2
  cases hnamed.symm.trans q3
  have hselP : selectMethod e.platform s.vm cellB.cls mk = .method mk := by rw [Launch.admits_selectMethod X.admits]; exact q4
  obtain ⟨vm₁, X₁, hstep₁⟩ := X.invokevirtual hexec hown hlink hnamed hmethM hstM hkP hkPi hy (a := b) (cell := cellB) hcell
    (fun z h => by rw [h] at hobj; cases hobj) hselP hmethM habM hkP hkPi (g := g) hg (argsL := argsL) (rest := rest) (hlen _ hsigM) hstack hdg
  rcases hK m meth c ⟨T.setVm vm₁, locs, cells, slots⟩ { g with stack := rest } (.invokevirtual index) mk (Value.ref b :: argsL).toArray X₁ hg hsize hdg hW (X₁.named hnamed) (hpre vm₁ X₁.warmed) with ⟨v, B, X', hpost, hsteps⟩ | ⟨q, B, X', hpost, hsteps⟩
  · exact Or.inl ⟨v, vm₁, B, X₁.warmed, X', hpost, fun target h => hstep₁ _ fun acts => by rw [doInvoke_state]; exact hsteps.trans h⟩
  · exact Or.inr ⟨q, vm₁, B, X₁.warmed, X', hpost, hstep₁ _ fun acts => by rw [doInvoke_state]; exact hsteps⟩
theorem vx_callSX (X : Stand p l e R s m args below meth c T locs cells slots) (hexec : p.tables.exec = Jvm.exec) {own : String} {index : Nat} {y : MethodName} {bytes : ByteArray} {maxL : Nat} {ret : Option FieldType} {hh : List (Nat × Nat × Nat × Nat)}
    (hown : s.vm.findClass own = some m.cls) (hlink : (Cond.methodLink own index y).before args s = true) (hstat : (Cond.static y).before args s = true) (hinit : (Cond.initialized y.cls).before args s = true)
    (hcode : (Cond.codeWith y bytes maxL ret hh).before args s = true) (hy : y.cls ≠ "java/lang/invoke/MethodHandle" ∧ y.cls ≠ "java/lang/invoke/VarHandle")
    {W9 : Nat} {Pre : Pt → Array Value → Prop} {Post : Pt → Array Value → Option Value → Pt → Prop} {PostX : Pt → Array Value → Addr → Pt → Prop} (hK : vx_Back l R p e below s args y 3 W9 Pre Post PostX)
    {g : JFrame} (hg : g.method = m) (hsize : g.locals.size = c.maxLocals) {argsL rest : List Value} (hlen : ∀ sig, parseMethodDescriptor y.desc = some sig → argsL.length = sig.parameters.length)
    (hstack : g.stack = argsL.reverse ++ rest) (hW : 2 * g.monitorRoom + (rest.map fun v => v.category).sum ≤ W9) (hdg : decode c.code g.pc = .ok (.invokestatic index, 3))
    (hpre : ∀ vm₁, s.WarmedH vm₁ → Pre ⟨T.setVm vm₁, locs, cells, slots⟩ argsL.toArray) :
    (∃ (v : Option Value) (vm₁ : Vm) (B : Pt), s.WarmedH vm₁ ∧ Stand p l e R s m args below meth c B.U B.locs B.cells B.slots ∧ Post ⟨T.setVm vm₁, locs, cells, slots⟩ argsL.toArray v B ∧
      ∀ target, Steps p.tables e below (B.U.setTop { g with pc := g.pc + 3, stack := v.toList ++ rest }) target → Steps p.tables e below (T.setTop g) target) ∨
    (∃ (q : Addr) (vm₁ : Vm) (B : Pt), s.WarmedH vm₁ ∧ Stand p l e R s m args below meth c B.U B.locs B.cells B.slots ∧ PostX ⟨T.setVm vm₁, locs, cells, slots⟩ argsL.toArray q B ∧
      Steps p.tables e below (T.setTop g) ((B.U.setTop { g with stack := rest }).pushFrame (.throwing q))) := by
  obtain ⟨mk, methM, cM, hnamed, hmethM, -, -, -, -, -, -, hsigM⟩ := Cond.codeWith_spec hcode
  have hstatic : methM.isStatic = true := Cond.static_spec hnamed hmethM hstat
  obtain ⟨kP, hkP, -⟩ := className_of_methodNamed hnamed
  have hinitP : kP.init = .initialized := Cond.initialized_spec (findClass_of_methodNamed hnamed) hkP hinit
  obtain ⟨vm₁, X₁, hstep₁⟩ := X.invokestatic hexec hown hlink hnamed hmethM hstatic hkP hinitP hy (g := g) hg (argsL := argsL) (rest := rest) (hlen _ hsigM) hstack hdg
  rcases hK m meth c ⟨T.setVm vm₁, locs, cells, slots⟩ { g with stack := rest } (.invokestatic index) mk argsL.toArray X₁ hg hsize hdg hW (X₁.named hnamed) (hpre vm₁ X₁.warmed) with ⟨v, B, X', hpost, hsteps⟩ | ⟨q, B, X', hpost, hsteps⟩
  · exact Or.inl ⟨v, vm₁, B, X₁.warmed, X', hpost, fun target h => hstep₁ _ fun acts => by rw [doInvoke_state]; exact hsteps.trans h⟩
  · exact Or.inr ⟨q, vm₁, B, X₁.warmed, X', hpost, hstep₁ _ fun acts => by rw [doInvoke_state]; exact hsteps⟩
theorem vx_callVW (X : Stand p l e R s m args below meth c T locs cells slots) (hexec : p.tables.exec = Jvm.exec) {own C : String} {index : Nat} {y : MethodName} {bytes : ByteArray} {maxL : Nat} {ret : Option FieldType} {hh : List (Nat × Nat × Nat × Nat)}
    (hown : s.vm.findClass own = some m.cls) (hlink : (Cond.methodLink own index y).before args s = true) (hinst : (Cond.instanceMethod y).before args s = true) (hsel : (Cond.selects C y y).before args s = true)
    (hcode : (Cond.codeWith y bytes maxL ret hh).before args s = true) (hy : y.cls ≠ "java/lang/invoke/MethodHandle" ∧ y.cls ≠ "java/lang/invoke/VarHandle")
    {W9 : Nat} {Pre : Pt → Array Value → Prop} {Post : Pt → Array Value → Option Value → Pt → Prop} (hK : Back l R p e below s args y 3 W9 Pre Post)
    {b : Addr} {cellB : Cell} (hcell : T.heap[b]? = some cellB) (hobj : cellB.vm.isStatics = false) (hcls : s.vm.findClass C = some cellB.cls)
    {g : JFrame} (hg : g.method = m) (hsize : g.locals.size = c.maxLocals) {argsL rest : List Value} (hlen : ∀ sig, parseMethodDescriptor y.desc = some sig → argsL.length = sig.parameters.length)
    (hstack : g.stack = argsL.reverse ++ .ref b :: rest) (hW : 2 * g.monitorRoom + (rest.map fun v => v.category).sum ≤ W9) (hdg : decode c.code g.pc = .ok (.invokevirtual index, 3))
    (hpre : ∀ vm₁, s.WarmedH vm₁ → Pre ⟨T.setVm vm₁, locs, cells, slots⟩ (Value.ref b :: argsL).toArray) :
    ∃ (v : Option Value) (vm₁ : Vm) (B : Pt), s.WarmedH vm₁ ∧ Stand p l e R s m args below meth c B.U B.locs B.cells B.slots ∧ Post ⟨T.setVm vm₁, locs, cells, slots⟩ (Value.ref b :: argsL).toArray v B ∧
      ∀ target, Steps p.tables e below (B.U.setTop { g with pc := g.pc + 3, stack := v.toList ++ rest }) target → Steps p.tables e below (T.setTop g) target := by
  obtain ⟨mk, methM, hnamed, hmethM, hstM, habM⟩ := Cond.instanceMethod_spec hinst
  obtain ⟨m8, methM', cM, hn8, hmethM', -, -, -, -, -, -, hsigM⟩ := Cond.codeWith_spec hcode
  cases Option.some.inj (hn8.symm.trans hnamed)
  cases hmethM.symm.trans hmethM'
  obtain ⟨c2, r2, m2, q1, q2, q3, q4, kP, hkP, hkPi⟩ := Cond.selects_spec hsel
  cases hcls.symm.trans q1
  cases (State.methodFound?_of_named hnamed hy).symm.trans q2
  cases hnamed.symm.trans q3
  have hselP : selectMethod e.platform s.vm cellB.cls mk = .method mk := by rw [Launch.admits_selectMethod X.admits]; exact q4
  obtain ⟨vm₁, X₁, hstep₁⟩ := X.invokevirtual hexec hown hlink hnamed hmethM hstM hkP hkPi hy (a := b) (cell := cellB) hcell
    (fun z h => by rw [h] at hobj; cases hobj) hselP hmethM habM hkP hkPi (g := g) hg (argsL := argsL) (rest := rest) (hlen _ hsigM) hstack hdg
  obtain ⟨v, B, X', hpost, hsteps⟩ := hK m meth c ⟨T.setVm vm₁, locs, cells, slots⟩ { g with stack := rest } (.invokevirtual index) mk (Value.ref b :: argsL).toArray X₁ hg hsize hdg hW (X₁.named hnamed) (hpre vm₁ X₁.warmed)
  exact ⟨v, vm₁, B, X₁.warmed, X', hpost, fun target h => hstep₁ _ fun acts => by rw [doInvoke_state]; exact hsteps.trans h⟩
abbrev vx_CVW (R : Room) (s : State) (args : Array Value) (own C : String) (index : Nat) (y : MethodName) (bytes : ByteArray) (maxL : Nat) (ret : Option FieldType) (hh : List (Nat × Nat × Nat × Nat)) (ws : List Cond) (rm : Room) (mc ms n : Nat) : Prop :=
  (rm.cells = mc ∧ rm.slots = ms ∧ rm.frames + 1 ≤ R.frames ∧ 8 + (maxL + 11) + rm.locals ≤ R.locals ∧ (∀ w ∈ ws, ∀ (a' : Array Value) (U : State), s.WarmedH U.vm → w.before a' U = true) ∧ Cond.codeWith y bytes maxL ret hh ∈ ws) ∧
  (Cond.codeWith y bytes maxL ret hh).before args s = true ∧ (Cond.initialized y.cls).before args s = true ∧ (y.cls ≠ "java/lang/invoke/MethodHandle" ∧ y.cls ≠ "java/lang/invoke/VarHandle") ∧
  (∀ sig, parseMethodDescriptor y.desc = some sig → n = sig.parameters.length) ∧ (Cond.methodLink own index y).before args s = true ∧ (Cond.instanceMethod y).before args s = true ∧ (Cond.selects C y y).before args s = true
theorem vx_cwVW {own C : String} {index maxL mc ms : Nat} {y : MethodName} {bytes : ByteArray} {ret : Option FieldType} {hh : List (Nat × Nat × Nat × Nat)} {Ts ws ws' : List Cond} {rm : Room} (n : Nat) (ht : ∀ w ∈ Ts, w.before args s = true) (hT : GoodIn Ts (wsV own index C y ws)) (hw : ws = Cond.codeWith y bytes maxL ret hh :: ws') (hrc : rm.cells = mc) (hrs : rm.slots = ms)
    (hd : y.cls = C ∧ y.cls ≠ "java/lang/invoke/MethodHandle" ∧ y.cls ≠ "java/lang/invoke/VarHandle" ∧ (parseMethodDescriptor y.desc).map (fun d => d.parameters.length) = some n) (hR : rm.frames + 1 ≤ R.frames ∧ 8 + (maxL + 11) + rm.locals ≤ R.locals) :
    vx_CVW R s args own C index y bytes maxL ret hh ws rm mc ms n := by
  obtain ⟨hC, hd⟩ := hd
  subst hC
  have ok : ∀ w ∈ wsV own index y.cls y ws, w.before args s = true := fun w h => ht w (hT w h).1
  have hG : GoodIn Ts ws := fun w h => hT w (by unfold wsV; exact List.mem_append_right _ h)
  have hc : Cond.codeWith y bytes maxL ret hh ∈ ws := by rw [hw]; exact List.mem_cons_self
  refine ⟨⟨hrc, hrs, hR.1, hR.2, pay_in ht hG, hc⟩, ht _ (hG _ hc).1, ok _ (by simp [wsV]), ⟨hd.1, hd.2.1⟩, fun sig h => ?_, ok _ (by simp [wsV]), ok _ (by simp [wsV]), ok _ (by simp [wsV])⟩
  have h2 := hd.2.2
  rw [h] at h2
  exact (Option.some.inj h2).symm
theorem vx_runVW {y : MethodName} {bytes cc : ByteArray} {maxL nL mc ms n index : Nat} {ret : Option FieldType} {hh : List (Nat × Nat × Nat × Nat)} {ws : List Cond} {rm : Room} {Pc : Array Value → State → Prop} {Qc : Array Value → State → Outcome → State → Prop} {free : Addr → Prop} {Ts : List Cond} {own C : String} {b : Addr} {As rest : List Value} {g : JFrame}
    (S : CallFix p m c cc nL s args Ts own) (hM : Met l y ws rm Pc Qc mc ms free) (cw : vx_CVW R s args own C index y bytes maxL ret hh ws rm mc ms n) (hp : PreV s H C b Pc As)
    (hg : g.method = m) (hn : As.length = n) (hsize : g.locals.size = nL) (hstack : g.stack = As.reverse ++ .ref b :: rest) (hW : 2 * g.monitorRoom + (rest.map fun v => v.category).sum ≤ 8) (hdg : decode cc g.pc = .ok (.invokevirtual index, 3)) (hf : cells + mc ≤ R.cells ∧ slots + ms ≤ R.slots) :
    va_Run p l e R s m args below meth c H locs cells slots mc ms g rest (Qc (Value.ref b :: As).toArray) free := by
  obtain ⟨⟨hrc, hrs, hfr, hlo, hws, hcw⟩, hcode, hini, hy, hlen, hl, hin, hse⟩ := cw
  have hK : Back l R p e below s args y 3 8 (PreOf R mc ms Pc) (PostOf Qc mc ms free) := va_backW (hh := hh) (bytes := bytes) (maxL := maxL) (ret := ret) hM hp.1 hrc hrs hfr hlo hws hcw (fun a' U hW => word_at hW (Or.inl (by first | rfl | simp [Cond.onTables, Cond.keeps, Cond.steady])) hini)
  obtain ⟨hx, hb, hml, ho, -⟩ := S
  obtain ⟨-, ⟨cellB, hcB, hoB, hclB⟩, hPc⟩ := hp
  intro T hT X
  obtain ⟨v, vm₁, ⟨U', l2, c2, s2⟩, hW₁, X', ⟨g', mk, t, L, e1, e2, hq, h1, hL, h2, h3⟩, st⟩ := vx_callVW X hx (C := C) (hh := hh) (bytes := bytes) (maxL := maxL) (ret := ret) ho hl hin hse hcode hy hK (by rw [hT]; exact hcB) hoB hclB hg (hsize.trans hml.symm) (argsL := As) (rest := rest) (fun sig h => hn.trans (hlen sig h)) hstack hW (by rw [hb]; exact hdg)
    (fun vm₁ hW₁ => ⟨hf.1, hf.2, hPc (T.setVm vm₁) hT hW₁⟩)
  dsimp only [Pt.U, Pt.locs, Pt.cells, Pt.slots] at X' e1 e2 h1 h2 h3 st
  subst h1; subst h2; subst h3
  exact ⟨v, (T.setVm vm₁).calling g' mk (Value.ref b :: As).toArray, t, U', L, hT, X', hL, e1, e2, hq, st⟩
section
variable {y : MethodName} {bytes cc : ByteArray} {maxL nL mc ms n index : Nat} {ret : Option FieldType} {ws : List Cond} {rm : Room} {Pc : Array Value → State → Prop} {Qc : Array Value → State → Outcome → State → Prop} {XC : String → State → State → Prop} {free : Addr → Prop} {Ts : List Cond} {own C : String} {b : Addr} {As rest : List Value} {g : JFrame}
theorem vx_runVX {hh : List (Nat × Nat × Nat × Nat)} (S : CallFix p m c cc nL s args Ts own) (hM : vx_Met l y ws rm Pc Qc XC mc ms free) (cw : vx_CVW R s args own C index y bytes maxL ret hh ws rm mc ms n) (hp : PreV s H C b Pc As)
    (hg : g.method = m) (hn : As.length = n) (hsize : g.locals.size = nL) (hstack : g.stack = As.reverse ++ .ref b :: rest) (hW : 2 * g.monitorRoom + (rest.map fun v => v.category).sum ≤ 8) (hdg : decode cc g.pc = .ok (.invokevirtual index, 3)) (hf : cells + mc ≤ R.cells ∧ slots + ms ≤ R.slots) :
    vx_Run p l e R s m args below meth c H locs cells slots mc ms g rest (Qc (Value.ref b :: As).toArray) XC free := by
  obtain ⟨⟨hrc, hrs, hfr, hlo, hws, hcw⟩, hcode, hini, hy, hlen, hl, hin, hse⟩ := cw
  have hK : vx_Back l R p e below s args y 3 8 (PreOf R mc ms Pc) (PostOf Qc mc ms free) (vx_Post XC mc ms free) := vx_backW (hh := hh) (bytes := bytes) (maxL := maxL) (ret := ret) hM hp.1 hrc hrs hfr hlo hws hcw (fun a' U hW => word_at hW (Or.inl (by first | rfl | simp [Cond.onTables, Cond.keeps, Cond.steady])) hini)
  obtain ⟨hx, hb, hml, ho, -⟩ := S
  obtain ⟨-, ⟨cellB, hcB, hoB, hclB⟩, hPc⟩ := hp
  intro T hT X
  rcases vx_callVX X hx (C := C) (hh := hh) (bytes := bytes) (maxL := maxL) (ret := ret) ho hl hin hse hcode hy hK (by rw [hT]; exact hcB) hoB hclB hg (hsize.trans hml.symm) (argsL := As) (rest := rest) (fun sig h => hn.trans (hlen sig h)) hstack hW (by rw [hb]; exact hdg)
    (fun vm₁ hW₁ => ⟨hf.1, hf.2, hPc (T.setVm vm₁) hT hW₁⟩) with ⟨v, vm₁, ⟨U', l2, c2, s2⟩, hW₁, X', ⟨g', mk, t, L, e1, e2, hq, h1, hL, h2, h3⟩, st⟩ | ⟨q, vm₁, ⟨U', l2, c2, s2⟩, hW₁, X', ⟨g', mk, t, L, E, ce, e1, e2, hq, hce, hcv, hcl, h1, hL, h2, h3⟩, st⟩
  · dsimp only [Pt.U, Pt.locs, Pt.cells, Pt.slots] at X' e1 e2 h1 h2 h3 st
    subst h1; subst h2; subst h3
    exact Or.inl ⟨v, (T.setVm vm₁).calling g' mk (Value.ref b :: As).toArray, t, U', L, hT, X', hL, e1, e2, hq, st⟩
  · dsimp only [Pt.U, Pt.locs, Pt.cells, Pt.slots] at X' e1 e2 h1 h2 h3 st hcl
    subst h1; subst h2; subst h3
    exact Or.inr ⟨q, (T.setVm vm₁).calling g' mk (Value.ref b :: As).toArray, t, U', L, E, ce, hT, X', hL, e1, e2, hq, hce, hcv, vx_cls hW₁ hcl, st⟩
theorem vx_runSX {hh : List (Nat × Nat × Nat × Nat)} (S : CallFix p m c cc nL s args Ts own) (hM : vx_Met l y ws rm Pc Qc XC mc ms free) (cw : vx_CSW R s args own index y bytes maxL ret hh ws rm mc ms n) (hp : PreS s H Pc As)
    (hg : g.method = m) (hn : As.length = n) (hsize : g.locals.size = nL) (hstack : g.stack = As.reverse ++ rest) (hW : 2 * g.monitorRoom + (rest.map fun v => v.category).sum ≤ 8) (hdg : decode cc g.pc = .ok (.invokestatic index, 3)) (hf : cells + mc ≤ R.cells ∧ slots + ms ≤ R.slots) :
    vx_Run p l e R s m args below meth c H locs cells slots mc ms g rest (Qc As.toArray) XC free := by
  obtain ⟨⟨hrc, hrs, hfr, hlo, hws, hcw⟩, hcode, hini, hy, hlen, hl, hstt⟩ := cw
  have hK : vx_Back l R p e below s args y 3 8 (PreOf R mc ms Pc) (PostOf Qc mc ms free) (vx_Post XC mc ms free) := vx_backW (hh := hh) (bytes := bytes) (maxL := maxL) (ret := ret) hM hp.1 hrc hrs hfr hlo hws hcw (fun a' U hW => word_at hW (Or.inl (by first | rfl | simp [Cond.onTables, Cond.keeps, Cond.steady])) hini)
  obtain ⟨hx, hb, hml, ho, -⟩ := S
  intro T hT X
  rcases vx_callSX X hx (hh := hh) (bytes := bytes) (maxL := maxL) (ret := ret) ho hl hstt hini hcode hy hK hg (hsize.trans hml.symm) (argsL := As) (rest := rest) (fun sig h => hn.trans (hlen sig h)) hstack hW (by rw [hb]; exact hdg)
    (fun vm₁ hW₁ => ⟨hf.1, hf.2, hp.2 (T.setVm vm₁) hT hW₁⟩) with ⟨v, vm₁, ⟨U', l2, c2, s2⟩, hW₁, X', ⟨g', mk, t, L, e1, e2, hq, h1, hL, h2, h3⟩, st⟩ | ⟨q, vm₁, ⟨U', l2, c2, s2⟩, hW₁, X', ⟨g', mk, t, L, E, ce, e1, e2, hq, hce, hcv, hcl, h1, hL, h2, h3⟩, st⟩
  · dsimp only [Pt.U, Pt.locs, Pt.cells, Pt.slots] at X' e1 e2 h1 h2 h3 st
    subst h1; subst h2; subst h3
    exact Or.inl ⟨v, (T.setVm vm₁).calling g' mk As.toArray, t, U', L, hT, X', hL, e1, e2, hq, st⟩
  · dsimp only [Pt.U, Pt.locs, Pt.cells, Pt.slots] at X' e1 e2 h1 h2 h3 st hcl
    subst h1; subst h2; subst h3
    exact Or.inr ⟨q, (T.setVm vm₁).calling g' mk As.toArray, t, U', L, E, ce, hT, X', hL, e1, e2, hq, hce, hcv, vx_cls hW₁ hcl, st⟩
end
end VXH
theorem vx_ofWH {l : Launch} {y : MethodName} {ws ws' : List Cond} {rm : Room} {Pc : Array Value → State → Prop} {Qc : Array Value → State → Outcome → State → Prop} {XC : String → State → State → Prop} {mc ms : Nat} {free : Addr → Prop} {cc : ByteArray} {maxL : Nat} {ret : Option FieldType} {hh : List (Nat × Nat × Nat × Nat)}
    (hy : plainName y.cls = true) (hw : ws = Cond.codeWith y cc maxL ret hh :: ws')
    (body : ∀ p e s m args below meth c s₁, BodyLoose p l y (headSpec ws rm) cc maxL ret e s m args below meth c s₁ → c.maxLocals = maxL → Pc args s →
      W p l e (headSpec ws rm).room s m args below meth c s.heap [] 0 0 (vx_MQ below Qc XC args s mc ms free) (entryFrame m args maxL)) : vx_Met l y ws rm Pc Qc XC mc ms free := by
  refine MetFree.of_bodyS (code := cc) (maxLocals := maxL) (ret := ret) hy ?_ ?_
  · intro args s m h hn
    obtain ⟨m9, meth, c, hn9, h1, h2, h3, h4, -, h5, h6, -⟩ := Cond.codeWith_spec (atoms_spec (ws := ws) h _ (by rw [hw]; exact List.mem_cons_self))
    cases hn.symm.trans hn9
    exact ⟨meth, c, h1, h2, h3, h4, h5, h6⟩
  · intro p e s m args below meth c s₁ B hml hP _
    have hh0 : s₁.heap = s.heap := by rw [B.state]; rfl
    obtain ⟨t, a1, o, b1, b2, b3⟩ := body p e s m args below meth c s₁ B hml hP s₁ hh0 (Stand.of_body B)
    exact ⟨t, o, a1, b1, b2, b3⟩
/-! ===== END ===== -/
end
section
/-! ===== BEGIN printed: names, fields, word lists, decode rows ===== -/
def RX0 : String := "FieldBook$Arrival"
def TX0 : u_T := fun k => match k with
  | 0 => ("FieldBook$Arrival", "firstPlaces", "[I", true)
  | 1 => ("FieldBook$Arrival", "groups", "[I", true)
  | 2 => ("FieldBook$Arrival", "places", "I", false)
  | 3 => ("FieldBook$Arrival", "arrived", "I", false)
  | _ => ("FieldBook$Arrival", "groupStart", "I", false)
def tyX0 : Nat → FieldType := fun k => match k with
  | 0 => .array .int
  | 1 => .array .int
  | 2 => .int
  | 3 => .int
  | _ => .int
abbrev wsX00 : List Cond := u_ws RX0 TX0 5
theorem nmX0 : ∀ a, a < 5 → ∀ b, b < 5 → a ≠ b → (TX0 a).2.1 ≠ (TX0 b).2.1 := by decide +kernel
theorem tyX0_ok : ∀ k, k < 5 → parseFieldDescriptor (TX0 k).2.2.1 = some (tyX0 k) := by decide +kernel
abbrev cX0_init : ByteArray := prog_2_method_1_code
def yX0_init : MethodName := ⟨RX0, "<init>", "()V"⟩
abbrev cX0_begin : ByteArray := prog_2_method_2_code
def yX0_begin : MethodName := ⟨RX0, "begin", "(I)V"⟩
abbrev cX0_arrive : ByteArray := prog_2_method_3_code
def yX0_arrive : MethodName := ⟨RX0, "arrive", "(IZ)V"⟩
abbrev cX0_places : ByteArray := prog_2_method_4_code
def yX0_places : MethodName := ⟨RX0, "places", "()I"⟩
abbrev cX0_placeOf : ByteArray := prog_2_method_5_code
def yX0_placeOf : MethodName := ⟨RX0, "placeOf", "(I)I"⟩
abbrev cX0_groupOf : ByteArray := prog_2_method_6_code
def yX0_groupOf : MethodName := ⟨RX0, "groupOf", "(I)I"⟩
def RX1 : String := "FieldBook$Book"
def TX1 : u_T := fun k => match k with
  | 0 => ("FieldBook$Book", "horses", "LFieldBook$Table;", true)
  | 1 => ("FieldBook$Book", "bets", "LFieldBook$Table;", true)
  | 2 => ("FieldBook$Book", "laid", "LFieldBook$Table;", true)
  | 3 => ("FieldBook$Book", "settled", "Z", false)
  | 4 => ("FieldBook$Book", "pricePart", "I", false)
  | _ => ("FieldBook$Book", "borneLoss", "I", false)
def tyX1 : Nat → FieldType := fun k => match k with
  | 0 => .object "FieldBook$Table"
  | 1 => .object "FieldBook$Table"
  | 2 => .object "FieldBook$Table"
  | 3 => .boolean
  | 4 => .int
  | _ => .int
abbrev wsX10 : List Cond := u_ws RX1 TX1 6
theorem nmX1 : ∀ a, a < 6 → ∀ b, b < 6 → a ≠ b → (TX1 a).2.1 ≠ (TX1 b).2.1 := by decide +kernel
theorem tyX1_ok : ∀ k, k < 6 → parseFieldDescriptor (TX1 k).2.2.1 = some (tyX1 k) := by decide +kernel
abbrev cX1_init : ByteArray := prog_3_method_1_code
def yX1_init : MethodName := ⟨RX1, "<init>", "()V"⟩
abbrev cX1_copyFrom : ByteArray := prog_3_method_2_code
def yX1_copyFrom : MethodName := ⟨RX1, "copyFrom", "(LFieldBook$Book;)V"⟩
abbrev cX1_addHorse : ByteArray := prog_3_method_3_code
def yX1_addHorse : MethodName := ⟨RX1, "addHorse", "(II)I"⟩
abbrev cX1_addBet : ByteArray := prog_3_method_4_code
def yX1_addBet : MethodName := ⟨RX1, "addBet", "(IIZ)I"⟩
abbrev cX1_addLaid : ByteArray := prog_3_method_5_code
def yX1_addLaid : MethodName := ⟨RX1, "addLaid", "(IIII)I"⟩
abbrev cX1_takeOut : ByteArray := prog_3_method_6_code
def yX1_takeOut : MethodName := ⟨RX1, "takeOut", "(I)I"⟩
abbrev cX1_partOfPrice : ByteArray := prog_3_method_7_code
def yX1_partOfPrice : MethodName := ⟨RX1, "partOfPrice", "(II)I"⟩
abbrev cX1_runs : ByteArray := prog_3_method_8_code
def yX1_runs : MethodName := ⟨RX1, "runs", "(I)Z"⟩
abbrev cX1_running : ByteArray := prog_3_method_9_code
def yX1_running : MethodName := ⟨RX1, "running", "()I"⟩
abbrev cX1_places : ByteArray := prog_3_method_10_code
def yX1_places : MethodName := ⟨RX1, "places", "()I"⟩
abbrev cX1_round : ByteArray := prog_3_method_11_code
def yX1_round : MethodName := ⟨RX1, "round", "()I"⟩
abbrev cX1_wholeStake : ByteArray := prog_3_method_12_code
def yX1_wholeStake : MethodName := ⟨RX1, "wholeStake", "(I)I"⟩
abbrev cX1_stakes : ByteArray := prog_3_method_13_code
def yX1_stakes : MethodName := ⟨RX1, "stakes", "()I"⟩
abbrev cX1_paid : ByteArray := prog_3_method_14_code
def yX1_paid : MethodName := ⟨RX1, "paid", "(IIII)I"⟩
abbrev cX1_winPart : ByteArray := prog_3_method_15_code
def yX1_winPart : MethodName := ⟨RX1, "winPart", "(ILFieldBook$Arrival;)I"⟩
abbrev cX1_placePart : ByteArray := prog_3_method_16_code
def yX1_placePart : MethodName := ⟨RX1, "placePart", "(ILFieldBook$Arrival;)I"⟩
abbrev cX1_returnOf : ByteArray := prog_3_method_17_code
def yX1_returnOf : MethodName := ⟨RX1, "returnOf", "(ILFieldBook$Arrival;)I"⟩
abbrev cX1_reasonOf : ByteArray := prog_3_method_18_code
def yX1_reasonOf : MethodName := ⟨RX1, "reasonOf", "(ILFieldBook$Arrival;)I"⟩
abbrev cX1_returnOfLaid : ByteArray := prog_3_method_19_code
def yX1_returnOfLaid : MethodName := ⟨RX1, "returnOfLaid", "(ILFieldBook$Arrival;)I"⟩
abbrev cX1_wouldWin : ByteArray := prog_3_method_20_code
def yX1_wouldWin : MethodName := ⟨RX1, "wouldWin", "(LFieldBook$Arrival;)I"⟩
abbrev cX1_settleBy : ByteArray := prog_3_method_21_code
def yX1_settleBy : MethodName := ⟨RX1, "settleBy", "(LFieldBook$Arrival;)V"⟩
abbrev cX1_won : ByteArray := prog_3_method_22_code
def yX1_won : MethodName := ⟨RX1, "won", "()I"⟩
abbrev cX1_wonByLosses : ByteArray := prog_3_method_23_code
def yX1_wonByLosses : MethodName := ⟨RX1, "wonByLosses", "()I"⟩
def RX2 : String := "FieldBook$History"
def TX2 : u_T := fun k => match k with
  | 0 => ("FieldBook$History", "states", "[LFieldBook$Book;", true)
  | 1 => ("FieldBook$History", "next", "I", false)
  | _ => ("FieldBook$History", "size", "I", false)
def tyX2 : Nat → FieldType := fun k => match k with
  | 0 => .array (.object "FieldBook$Book")
  | 1 => .int
  | _ => .int
abbrev wsX20 : List Cond := u_ws RX2 TX2 3
theorem nmX2 : ∀ a, a < 3 → ∀ b, b < 3 → a ≠ b → (TX2 a).2.1 ≠ (TX2 b).2.1 := by decide +kernel
theorem tyX2_ok : ∀ k, k < 3 → parseFieldDescriptor (TX2 k).2.2.1 = some (tyX2 k) := by decide +kernel
abbrev cX2_init : ByteArray := prog_4_method_1_code
def yX2_init : MethodName := ⟨RX2, "<init>", "()V"⟩
abbrev cX2_size : ByteArray := prog_4_method_2_code
def yX2_size : MethodName := ⟨RX2, "size", "()I"⟩
abbrev cX2_stateAt : ByteArray := prog_4_method_3_code
def yX2_stateAt : MethodName := ⟨RX2, "stateAt", "(I)LFieldBook$Book;"⟩
abbrev cX2_save : ByteArray := prog_4_method_4_code
def yX2_save : MethodName := ⟨RX2, "save", "(LFieldBook$Book;)V"⟩
abbrev cX2_restore : ByteArray := prog_4_method_5_code
def yX2_restore : MethodName := ⟨RX2, "restore", "(LFieldBook$Book;)V"⟩
def RX3 : String := "FieldBook$Slot"
def TX3 : u_T := fun k => match k with
  | 0 => ("FieldBook$Slot", "book", "LFieldBook$Book;", true)
  | _ => ("FieldBook$Slot", "full", "Z", false)
def tyX3 : Nat → FieldType := fun k => match k with
  | 0 => .object "FieldBook$Book"
  | _ => .boolean
abbrev wsX30 : List Cond := u_ws RX3 TX3 2
theorem nmX3 : ∀ a, a < 2 → ∀ b, b < 2 → a ≠ b → (TX3 a).2.1 ≠ (TX3 b).2.1 := by decide +kernel
theorem tyX3_ok : ∀ k, k < 2 → parseFieldDescriptor (TX3 k).2.2.1 = some (tyX3 k) := by decide +kernel
abbrev cX3_init : ByteArray := prog_5_method_1_code
def yX3_init : MethodName := ⟨RX3, "<init>", "()V"⟩
abbrev cX3_isFull : ByteArray := prog_5_method_2_code
def yX3_isFull : MethodName := ⟨RX3, "isFull", "()Z"⟩
abbrev cX3_fill : ByteArray := prog_5_method_3_code
def yX3_fill : MethodName := ⟨RX3, "fill", "(LFieldBook$Book;)V"⟩
abbrev cX3_bringBack : ByteArray := prog_5_method_4_code
def yX3_bringBack : MethodName := ⟨RX3, "bringBack", "(LFieldBook$Book;)V"⟩
def RX4 : String := "FieldBook$Table"
def TX4 : u_T := fun k => match k with
  | 0 => ("FieldBook$Table", "columns", "I", true)
  | 1 => ("FieldBook$Table", "cells", "[I", true)
  | _ => ("FieldBook$Table", "size", "I", false)
def tyX4 : Nat → FieldType := fun k => match k with
  | 0 => .int
  | 1 => .array .int
  | _ => .int
abbrev wsX40 : List Cond := u_ws RX4 TX4 3
theorem nmX4 : ∀ a, a < 3 → ∀ b, b < 3 → a ≠ b → (TX4 a).2.1 ≠ (TX4 b).2.1 := by decide +kernel
theorem tyX4_ok : ∀ k, k < 3 → parseFieldDescriptor (TX4 k).2.2.1 = some (tyX4 k) := by decide +kernel
abbrev cX4_init : ByteArray := prog_6_method_1_code
def yX4_init : MethodName := ⟨RX4, "<init>", "(I[I)V"⟩
abbrev cX4_columns : ByteArray := prog_6_method_2_code
def yX4_columns : MethodName := ⟨RX4, "columns", "()I"⟩
abbrev cX4_size : ByteArray := prog_6_method_3_code
def yX4_size : MethodName := ⟨RX4, "size", "()I"⟩
abbrev cX4_has : ByteArray := prog_6_method_4_code
def yX4_has : MethodName := ⟨RX4, "has", "(I)Z"⟩
abbrev cX4_isFull : ByteArray := prog_6_method_5_code
def yX4_isFull : MethodName := ⟨RX4, "isFull", "()Z"⟩
abbrev cX4_cell : ByteArray := prog_6_method_6_code
def yX4_cell : MethodName := ⟨RX4, "cell", "(II)I"⟩
abbrev cX4_put : ByteArray := prog_6_method_7_code
def yX4_put : MethodName := ⟨RX4, "put", "(III)V"⟩
abbrev cX4_raise : ByteArray := prog_6_method_8_code
def yX4_raise : MethodName := ⟨RX4, "raise", "(III)V"⟩
abbrev cX4_addRow : ByteArray := prog_6_method_9_code
def yX4_addRow : MethodName := ⟨RX4, "addRow", "()I"⟩
abbrev cX4_sum : ByteArray := prog_6_method_10_code
def yX4_sum : MethodName := ⟨RX4, "sum", "(I)I"⟩
abbrev cX4_copyFrom : ByteArray := prog_6_method_11_code
def yX4_copyFrom : MethodName := ⟨RX4, "copyFrom", "(LFieldBook$Table;)V"⟩
def RX5 : String := "FieldBook$Text"
def TX5 : u_T := fun k => match k with
  | 0 => ("FieldBook$Text", "codes", "[I", true)
  | _ => ("FieldBook$Text", "length", "I", false)
def tyX5 : Nat → FieldType := fun k => match k with
  | 0 => .array .int
  | _ => .int
abbrev wsX50 : List Cond := u_ws RX5 TX5 2
theorem nmX5 : ∀ a, a < 2 → ∀ b, b < 2 → a ≠ b → (TX5 a).2.1 ≠ (TX5 b).2.1 := by decide +kernel
theorem tyX5_ok : ∀ k, k < 2 → parseFieldDescriptor (TX5 k).2.2.1 = some (tyX5 k) := by decide +kernel
abbrev cX5_init : ByteArray := prog_7_method_1_code
def yX5_init : MethodName := ⟨RX5, "<init>", "()V"⟩
abbrev cX5_length : ByteArray := prog_7_method_2_code
def yX5_length : MethodName := ⟨RX5, "length", "()I"⟩
abbrev cX5_isFull : ByteArray := prog_7_method_3_code
def yX5_isFull : MethodName := ⟨RX5, "isFull", "()Z"⟩
abbrev cX5_add : ByteArray := prog_7_method_4_code
def yX5_add : MethodName := ⟨RX5, "add", "(I)V"⟩
abbrev cX5_empty : ByteArray := prog_7_method_5_code
def yX5_empty : MethodName := ⟨RX5, "empty", "()V"⟩
abbrev cX5_codeAt : ByteArray := prog_7_method_6_code
def yX5_codeAt : MethodName := ⟨RX5, "codeAt", "(I)I"⟩
abbrev cX5_firstWrong : ByteArray := prog_7_method_7_code
def yX5_firstWrong : MethodName := ⟨RX5, "firstWrong", "()I"⟩
abbrev cX5_isArrival : ByteArray := prog_7_method_8_code
def yX5_isArrival : MethodName := ⟨RX5, "isArrival", "()Z"⟩
def RX6 : String := "FieldBook"
def TX6 : u_T := fun k => match k with
  | 0 => ("FieldBook", "now", "LFieldBook$Book;", true)
  | 1 => ("FieldBook", "arrival", "LFieldBook$Arrival;", true)
  | 2 => ("FieldBook", "text", "LFieldBook$Text;", true)
  | 3 => ("FieldBook", "history", "LFieldBook$History;", true)
  | 4 => ("FieldBook", "slotZero", "LFieldBook$Slot;", true)
  | _ => ("FieldBook", "slotOne", "LFieldBook$Slot;", true)
def tyX6 : Nat → FieldType := fun k => match k with
  | 0 => .object "FieldBook$Book"
  | 1 => .object "FieldBook$Arrival"
  | 2 => .object "FieldBook$Text"
  | 3 => .object "FieldBook$History"
  | 4 => .object "FieldBook$Slot"
  | _ => .object "FieldBook$Slot"
abbrev wsX60 : List Cond := u_ws RX6 TX6 6
theorem nmX6 : ∀ a, a < 6 → ∀ b, b < 6 → a ≠ b → (TX6 a).2.1 ≠ (TX6 b).2.1 := by decide +kernel
theorem tyX6_ok : ∀ k, k < 6 → parseFieldDescriptor (TX6 k).2.2.1 = some (tyX6 k) := by decide +kernel
abbrev cX6_init : ByteArray := prog_1_method_1_code
def yX6_init : MethodName := ⟨RX6, "<init>", "()V"⟩
abbrev cX6_horse : ByteArray := prog_1_method_2_code
def yX6_horse : MethodName := ⟨RX6, "horse", "(II)I"⟩
abbrev cX6_price : ByteArray := prog_1_method_3_code
def yX6_price : MethodName := ⟨RX6, "price", "(III)I"⟩
abbrev cX6_take : ByteArray := prog_1_method_4_code
def yX6_take : MethodName := ⟨RX6, "take", "(IIZ)I"⟩
abbrev cX6_layOff : ByteArray := prog_1_method_5_code
def yX6_layOff : MethodName := ⟨RX6, "layOff", "(IIII)I"⟩
abbrev cX6_withdraw : ByteArray := prog_1_method_6_code
def yX6_withdraw : MethodName := ⟨RX6, "withdraw", "(I)I"⟩
abbrev cX6_settle : ByteArray := prog_1_method_7_code
def yX6_settle : MethodName := ⟨RX6, "settle", "()I"⟩
abbrev cX6_set : ByteArray := prog_1_method_8_code
def yX6_set : MethodName := ⟨RX6, "set", "(II)I"⟩
abbrev cX6_append : ByteArray := prog_1_method_9_code
def yX6_append : MethodName := ⟨RX6, "append", "(I)I"⟩
abbrev cX6_clearBuffer : ByteArray := prog_1_method_10_code
def yX6_clearBuffer : MethodName := ⟨RX6, "clearBuffer", "()I"⟩
abbrev cX6_firstError : ByteArray := prog_1_method_11_code
def yX6_firstError : MethodName := ⟨RX6, "firstError", "()I"⟩
abbrev cX6_keep : ByteArray := prog_1_method_12_code
def yX6_keep : MethodName := ⟨RX6, "keep", "(I)I"⟩
abbrev cX6_goBack : ByteArray := prog_1_method_13_code
def yX6_goBack : MethodName := ⟨RX6, "goBack", "(I)I"⟩
abbrev cX6_undo : ByteArray := prog_1_method_14_code
def yX6_undo : MethodName := ⟨RX6, "undo", "()I"⟩
abbrev cX6_horseOf : ByteArray := prog_1_method_15_code
def yX6_horseOf : MethodName := ⟨RX6, "horseOf", "(II)I"⟩
abbrev cX6_bet : ByteArray := prog_1_method_16_code
def yX6_bet : MethodName := ⟨RX6, "bet", "(II)I"⟩
abbrev cX6_laid : ByteArray := prog_1_method_17_code
def yX6_laid : MethodName := ⟨RX6, "laid", "(II)I"⟩
abbrev cX6_count : ByteArray := prog_1_method_18_code
def yX6_count : MethodName := ⟨RX6, "count", "(I)I"⟩
abbrev cX6_setting : ByteArray := prog_1_method_19_code
def yX6_setting : MethodName := ⟨RX6, "setting", "(I)I"⟩
abbrev cX6_ifArrived : ByteArray := prog_1_method_20_code
def yX6_ifArrived : MethodName := ⟨RX6, "ifArrived", "()I"⟩
abbrev cX6_ifWon : ByteArray := prog_1_method_21_code
def yX6_ifWon : MethodName := ⟨RX6, "ifWon", "(I)I"⟩
abbrev cX6_worst : ByteArray := prog_1_method_22_code
def yX6_worst : MethodName := ⟨RX6, "worst", "()I"⟩
abbrev cX6_cover : ByteArray := prog_1_method_23_code
def yX6_cover : MethodName := ⟨RX6, "cover", "(I)I"⟩
abbrev cX6_safeShare : ByteArray := prog_1_method_24_code
def yX6_safeShare : MethodName := ⟨RX6, "safeShare", "()D"⟩
abbrev cX6_digest : ByteArray := prog_1_method_25_code
def yX6_digest : MethodName := ⟨RX6, "digest", "()J"⟩
abbrev cX6_requirePrice : ByteArray := prog_1_method_26_code
def yX6_requirePrice : MethodName := ⟨RX6, "requirePrice", "(II)V"⟩
abbrev cX6_requireStake : ByteArray := prog_1_method_27_code
def yX6_requireStake : MethodName := ⟨RX6, "requireStake", "(I)V"⟩
abbrev cX6_requireProperty : ByteArray := prog_1_method_28_code
def yX6_requireProperty : MethodName := ⟨RX6, "requireProperty", "(II)V"⟩
abbrev cX6_requireSetting : ByteArray := prog_1_method_29_code
def yX6_requireSetting : MethodName := ⟨RX6, "requireSetting", "(I)V"⟩
abbrev cX6_requireSlot : ByteArray := prog_1_method_30_code
def yX6_requireSlot : MethodName := ⟨RX6, "requireSlot", "(I)V"⟩
abbrev cX6_requireRow : ByteArray := prog_1_method_31_code
def yX6_requireRow : MethodName := ⟨RX6, "requireRow", "(LFieldBook$Table;I)V"⟩
abbrev cX6_requireRoom : ByteArray := prog_1_method_32_code
def yX6_requireRoom : MethodName := ⟨RX6, "requireRoom", "(LFieldBook$Table;)V"⟩
abbrev cX6_requireHorse : ByteArray := prog_1_method_33_code
def yX6_requireHorse : MethodName := ⟨RX6, "requireHorse", "(I)V"⟩
abbrev cX6_requireRunning : ByteArray := prog_1_method_34_code
def yX6_requireRunning : MethodName := ⟨RX6, "requireRunning", "(I)V"⟩
abbrev cX6_requireOpen : ByteArray := prog_1_method_35_code
def yX6_requireOpen : MethodName := ⟨RX6, "requireOpen", "()V"⟩
abbrev cX6_fits : ByteArray := prog_1_method_36_code
def yX6_fits : MethodName := ⟨RX6, "fits", "(II)Z"⟩
abbrev cX6_settingNow : ByteArray := prog_1_method_37_code
def yX6_settingNow : MethodName := ⟨RX6, "settingNow", "(I)I"⟩
abbrev cX6_slotOf : ByteArray := prog_1_method_38_code
def yX6_slotOf : MethodName := ⟨RX6, "slotOf", "(I)LFieldBook$Slot;"⟩
abbrev cX6_counted : ByteArray := prog_1_method_39_code
def yX6_counted : MethodName := ⟨RX6, "counted", "(I)I"⟩
abbrev cX6_readArrival : ByteArray := prog_1_method_40_code
def yX6_readArrival : MethodName := ⟨RX6, "readArrival", "()Z"⟩
abbrev cX6_wouldWinWith : ByteArray := prog_1_method_41_code
def yX6_wouldWinWith : MethodName := ⟨RX6, "wouldWinWith", "(I)I"⟩
abbrev cX6_coveringStake : ByteArray := prog_1_method_42_code
def yX6_coveringStake : MethodName := ⟨RX6, "coveringStake", "(II)I"⟩
abbrev cX6_mixed : ByteArray := prog_1_method_43_code
def yX6_mixed : MethodName := ⟨RX6, "mixed", "(JJ)J"⟩
abbrev cX6_mixedRow : ByteArray := prog_1_method_44_code
def yX6_mixedRow : MethodName := ⟨RX6, "mixedRow", "(JLFieldBook$Table;I)J"⟩
abbrev cX6_mixedTable : ByteArray := prog_1_method_45_code
def yX6_mixedTable : MethodName := ⟨RX6, "mixedTable", "(JLFieldBook$Table;)J"⟩
abbrev cX6_mixedHorses : ByteArray := prog_1_method_46_code
def yX6_mixedHorses : MethodName := ⟨RX6, "mixedHorses", "(J)J"⟩
abbrev cX6_bitsOfShare : ByteArray := prog_1_method_47_code
def yX6_bitsOfShare : MethodName := ⟨RX6, "bitsOfShare", "(D)J"⟩
def RX7 : String := "FieldBookModel"
def TX7 : u_T := fun k => match k with
  | 0 => ("FieldBookModel", "s", "[I", true)
  | 1 => ("FieldBookModel", "states", "I", false)
  | 2 => ("FieldBookModel", "isKept", "[Z", true)
  | 3 => ("FieldBookModel", "thrown", "I", false)
  | 4 => ("FieldBookModel", "text", "[C", true)
  | 5 => ("FieldBookModel", "typed", "I", false)
  | 6 => ("FieldBookModel", "at", "I", false)
  | 7 => ("FieldBookModel", "first", "[I", true)
  | 8 => ("FieldBookModel", "group", "[I", true)
  | _ => ("FieldBookModel", "reason", "I", false)
def tyX7 : Nat → FieldType := fun k => match k with
  | 0 => .array .int
  | 1 => .int
  | 2 => .array .boolean
  | 3 => .int
  | 4 => .array .char
  | 5 => .int
  | 6 => .int
  | 7 => .array .int
  | 8 => .array .int
  | _ => .int
abbrev wsX70 : List Cond := u_ws RX7 TX7 10
theorem nmX7 : ∀ a, a < 10 → ∀ b, b < 10 → a ≠ b → (TX7 a).2.1 ≠ (TX7 b).2.1 := by decide +kernel
theorem tyX7_ok : ∀ k, k < 10 → parseFieldDescriptor (TX7 k).2.2.1 = some (tyX7 k) := by decide +kernel
abbrev cX7_init : ByteArray := prog_9_method_1_code
def yX7_init : MethodName := ⟨RX7, "<init>", "()V"⟩
abbrev cX7_thrown : ByteArray := prog_9_method_2_code
def yX7_thrown : MethodName := ⟨RX7, "thrown", "()I"⟩
abbrev cX7_in : ByteArray := prog_9_method_3_code
def yX7_in : MethodName := ⟨RX7, "in", "(III)Z"⟩
abbrev cX7_goes : ByteArray := prog_9_method_4_code
def yX7_goes : MethodName := ⟨RX7, "goes", "(ZZZ)Z"⟩
abbrev cX7_copies : ByteArray := prog_9_method_5_code
def yX7_copies : MethodName := ⟨RX7, "copies", "(II)V"⟩
abbrev cX7_saves : ByteArray := prog_9_method_6_code
def yX7_saves : MethodName := ⟨RX7, "saves", "()V"⟩
abbrev cX7_isHorse : ByteArray := prog_9_method_7_code
def yX7_isHorse : MethodName := ⟨RX7, "isHorse", "(I)Z"⟩
abbrev cX7_isOpen : ByteArray := prog_9_method_8_code
def yX7_isOpen : MethodName := ⟨RX7, "isOpen", "()Z"⟩
abbrev cX7_runs : ByteArray := prog_9_method_9_code
def yX7_runs : MethodName := ⟨RX7, "runs", "(I)Z"⟩
abbrev cX7_isPrice : ByteArray := prog_9_method_10_code
def yX7_isPrice : MethodName := ⟨RX7, "isPrice", "(II)Z"⟩
abbrev cX7_of : ByteArray := prog_9_method_11_code
def yX7_of : MethodName := ⟨RX7, "of", "(II)I"⟩
abbrev cX7_off : ByteArray := prog_9_method_12_code
def yX7_off : MethodName := ⟨RX7, "off", "(II)I"⟩
abbrev cX7_field : ByteArray := prog_9_method_13_code
def yX7_field : MethodName := ⟨RX7, "field", "()I"⟩
abbrev cX7_places : ByteArray := prog_9_method_14_code
def yX7_places : MethodName := ⟨RX7, "places", "()I"⟩
abbrev cX7_won : ByteArray := prog_9_method_15_code
def yX7_won : MethodName := ⟨RX7, "won", "(IIII)I"⟩
abbrev cX7_forWin : ByteArray := prog_9_method_16_code
def yX7_forWin : MethodName := ⟨RX7, "forWin", "(IIIII)I"⟩
abbrev cX7_forPlace : ByteArray := prog_9_method_17_code
def yX7_forPlace : MethodName := ⟨RX7, "forPlace", "(I)I"⟩
abbrev cX7_staked : ByteArray := prog_9_method_18_code
def yX7_staked : MethodName := ⟨RX7, "staked", "(I)I"⟩
abbrev cX7_returns : ByteArray := prog_9_method_19_code
def yX7_returns : MethodName := ⟨RX7, "returns", "(I)I"⟩
abbrev cX7_returnsOff : ByteArray := prog_9_method_20_code
def yX7_returnsOff : MethodName := ⟨RX7, "returnsOff", "(I)I"⟩
abbrev cX7_wins : ByteArray := prog_9_method_21_code
def yX7_wins : MethodName := ⟨RX7, "wins", "()I"⟩
abbrev cX7_forgets : ByteArray := prog_9_method_22_code
def yX7_forgets : MethodName := ⟨RX7, "forgets", "()V"⟩
abbrev cX7_isArrival : ByteArray := prog_9_method_23_code
def yX7_isArrival : MethodName := ⟨RX7, "isArrival", "()Z"⟩
abbrev cX7_lays : ByteArray := prog_9_method_24_code
def yX7_lays : MethodName := ⟨RX7, "lays", "()Z"⟩
abbrev cX7_horse : ByteArray := prog_9_method_25_code
def yX7_horse : MethodName := ⟨RX7, "horse", "(II)I"⟩
abbrev cX7_betsOn : ByteArray := prog_9_method_26_code
def yX7_betsOn : MethodName := ⟨RX7, "betsOn", "(I)I"⟩
abbrev cX7_price : ByteArray := prog_9_method_27_code
def yX7_price : MethodName := ⟨RX7, "price", "(III)I"⟩
abbrev cX7_take : ByteArray := prog_9_method_28_code
def yX7_take : MethodName := ⟨RX7, "take", "(IIZ)I"⟩
abbrev cX7_layOff : ByteArray := prog_9_method_29_code
def yX7_layOff : MethodName := ⟨RX7, "layOff", "(IIII)I"⟩
abbrev cX7_withdraw : ByteArray := prog_9_method_30_code
def yX7_withdraw : MethodName := ⟨RX7, "withdraw", "(I)I"⟩
abbrev cX7_settle : ByteArray := prog_9_method_31_code
def yX7_settle : MethodName := ⟨RX7, "settle", "()I"⟩
abbrev cX7_set : ByteArray := prog_9_method_32_code
def yX7_set : MethodName := ⟨RX7, "set", "(II)I"⟩
abbrev cX7_append : ByteArray := prog_9_method_33_code
def yX7_append : MethodName := ⟨RX7, "append", "(I)I"⟩
abbrev cX7_clearBuffer : ByteArray := prog_9_method_34_code
def yX7_clearBuffer : MethodName := ⟨RX7, "clearBuffer", "()I"⟩
abbrev cX7_firstError : ByteArray := prog_9_method_35_code
def yX7_firstError : MethodName := ⟨RX7, "firstError", "()I"⟩
abbrev cX7_keep : ByteArray := prog_9_method_36_code
def yX7_keep : MethodName := ⟨RX7, "keep", "(I)I"⟩
abbrev cX7_goBack : ByteArray := prog_9_method_37_code
def yX7_goBack : MethodName := ⟨RX7, "goBack", "(I)I"⟩
abbrev cX7_undo : ByteArray := prog_9_method_38_code
def yX7_undo : MethodName := ⟨RX7, "undo", "()I"⟩
abbrev cX7_stakes : ByteArray := prog_9_method_39_code
def yX7_stakes : MethodName := ⟨RX7, "stakes", "(IZ)I"⟩
abbrev cX7_horses : ByteArray := prog_9_method_40_code
def yX7_horses : MethodName := ⟨RX7, "horses", "(II)I"⟩
abbrev cX7_horseOf : ByteArray := prog_9_method_41_code
def yX7_horseOf : MethodName := ⟨RX7, "horseOf", "(II)I"⟩
abbrev cX7_bet : ByteArray := prog_9_method_42_code
def yX7_bet : MethodName := ⟨RX7, "bet", "(II)I"⟩
abbrev cX7_laid : ByteArray := prog_9_method_43_code
def yX7_laid : MethodName := ⟨RX7, "laid", "(II)I"⟩
abbrev cX7_stakedAll : ByteArray := prog_9_method_44_code
def yX7_stakedAll : MethodName := ⟨RX7, "stakedAll", "(Z)I"⟩
abbrev cX7_round : ByteArray := prog_9_method_45_code
def yX7_round : MethodName := ⟨RX7, "round", "()I"⟩
abbrev cX7_lost : ByteArray := prog_9_method_46_code
def yX7_lost : MethodName := ⟨RX7, "lost", "()I"⟩
abbrev cX7_counted : ByteArray := prog_9_method_47_code
def yX7_counted : MethodName := ⟨RX7, "counted", "(I)I"⟩
abbrev cX7_count : ByteArray := prog_9_method_48_code
def yX7_count : MethodName := ⟨RX7, "count", "(I)I"⟩
abbrev cX7_setting : ByteArray := prog_9_method_49_code
def yX7_setting : MethodName := ⟨RX7, "setting", "(I)I"⟩
abbrev cX7_byBuffer : ByteArray := prog_9_method_50_code
def yX7_byBuffer : MethodName := ⟨RX7, "byBuffer", "()I"⟩
abbrev cX7_ifArrived : ByteArray := prog_9_method_51_code
def yX7_ifArrived : MethodName := ⟨RX7, "ifArrived", "()I"⟩
abbrev cX7_winsWith : ByteArray := prog_9_method_52_code
def yX7_winsWith : MethodName := ⟨RX7, "winsWith", "(I)I"⟩
abbrev cX7_ifFirst : ByteArray := prog_9_method_53_code
def yX7_ifFirst : MethodName := ⟨RX7, "ifFirst", "(I)I"⟩
abbrev cX7_ifWon : ByteArray := prog_9_method_54_code
def yX7_ifWon : MethodName := ⟨RX7, "ifWon", "(I)I"⟩
abbrev cX7_worstOne : ByteArray := prog_9_method_55_code
def yX7_worstOne : MethodName := ⟨RX7, "worstOne", "()I"⟩
abbrev cX7_worst : ByteArray := prog_9_method_56_code
def yX7_worst : MethodName := ⟨RX7, "worst", "()I"⟩
abbrev cX7_covers : ByteArray := prog_9_method_57_code
def yX7_covers : MethodName := ⟨RX7, "covers", "(I)I"⟩
abbrev cX7_cover : ByteArray := prog_9_method_58_code
def yX7_cover : MethodName := ⟨RX7, "cover", "(I)I"⟩
abbrev cX7_safe : ByteArray := prog_9_method_59_code
def yX7_safe : MethodName := ⟨RX7, "safe", "()D"⟩
abbrev cX7_safeShare : ByteArray := prog_9_method_60_code
def yX7_safeShare : MethodName := ⟨RX7, "safeShare", "()D"⟩
abbrev cX7_digest : ByteArray := prog_9_method_61_code
def yX7_digest : MethodName := ⟨RX7, "digest", "()J"⟩
def RJxe99ae : String := "java/lang/Double"
def TJxe99ae : u_T := fun k => match k with
  | _ => ("", "", "", false)
def tyJxe99ae : Nat → FieldType := fun k => match k with
  | _ => .int
abbrev wsJxe99ae0 : List Cond := u_ws RJxe99ae TJxe99ae 0
theorem nmJxe99ae : ∀ a, a < 0 → ∀ b, b < 0 → a ≠ b → (TJxe99ae a).2.1 ≠ (TJxe99ae b).2.1 := by decide +kernel
theorem tyJxe99ae_ok : ∀ k, k < 0 → parseFieldDescriptor (TJxe99ae k).2.2.1 = some (tyJxe99ae k) := by decide +kernel
abbrev cJxe99ae_isNaN_b9ae7 : ByteArray := prog_10_method_6_code
def yJxe99ae_isNaN_b9ae7 : MethodName := ⟨RJxe99ae, "isNaN", "(D)Z"⟩
abbrev cJxe99ae_doubleToLongBits_ccdee : ByteArray := prog_10_method_23_code
def yJxe99ae_doubleToLongBits_ccdee : MethodName := ⟨RJxe99ae, "doubleToLongBits", "(D)J"⟩
def RJ9 : String := "java/lang/Math"
def TJ9 : u_T := fun k => match k with
  | _ => ("", "", "", false)
def tyJ9 : Nat → FieldType := fun k => match k with
  | _ => .int
abbrev wsJ90 : List Cond := u_ws RJ9 TJ9 0
theorem nmJ9 : ∀ a, a < 0 → ∀ b, b < 0 → a ≠ b → (TJ9 a).2.1 ≠ (TJ9 b).2.1 := by decide +kernel
theorem tyJ9_ok : ∀ k, k < 0 → parseFieldDescriptor (TJ9 k).2.2.1 = some (tyJ9 k) := by decide +kernel
abbrev cJ9_min_7cf53 : ByteArray := prog_15_method_69_code
def yJ9_min_7cf53 : MethodName := ⟨RJ9, "min", "(II)I"⟩
def RJ0 : String := "java/lang/String"
def TJ0 : u_T := fun k => match k with
  | _ => ("", "", "", false)
def tyJ0 : Nat → FieldType := fun k => match k with
  | _ => .int
abbrev wsJ00 : List Cond := u_ws RJ0 TJ0 0
theorem nmJ0 : ∀ a, a < 0 → ∀ b, b < 0 → a ≠ b → (TJ0 a).2.1 ≠ (TJ0 b).2.1 := by decide +kernel
theorem tyJ0_ok : ∀ k, k < 0 → parseFieldDescriptor (TJ0 k).2.2.1 = some (tyJ0 k) := by decide +kernel
def RJ10 : String := "java/lang/System"
def TJ10 : u_T := fun k => match k with
  | _ => ("", "", "", false)
def tyJ10 : Nat → FieldType := fun k => match k with
  | _ => .int
abbrev wsJ100 : List Cond := u_ws RJ10 TJ10 0
theorem nmJ10 : ∀ a, a < 0 → ∀ b, b < 0 → a ≠ b → (TJ10 a).2.1 ≠ (TJ10 b).2.1 := by decide +kernel
theorem tyJ10_ok : ∀ k, k < 0 → parseFieldDescriptor (TJ10 k).2.2.1 = some (tyJ10 k) := by decide +kernel
def RL : String := "FieldBookLaw"
abbrev cL_horse : ByteArray := method_3_code
def yL_horse : MethodName := ⟨RL, "horse", "(LFieldBook;II[J)I"⟩
abbrev cL_price : ByteArray := method_4_code
def yL_price : MethodName := ⟨RL, "price", "(LFieldBook;III[J)I"⟩
abbrev cL_take : ByteArray := method_5_code
def yL_take : MethodName := ⟨RL, "take", "(LFieldBook;IIZ[J)I"⟩
abbrev cL_layOff : ByteArray := method_6_code
def yL_layOff : MethodName := ⟨RL, "layOff", "(LFieldBook;IIII[J)I"⟩
abbrev cL_withdraw : ByteArray := method_7_code
def yL_withdraw : MethodName := ⟨RL, "withdraw", "(LFieldBook;I[J)I"⟩
abbrev cL_settle : ByteArray := method_8_code
def yL_settle : MethodName := ⟨RL, "settle", "(LFieldBook;[J)I"⟩
abbrev cL_set : ByteArray := method_9_code
def yL_set : MethodName := ⟨RL, "set", "(LFieldBook;II[J)I"⟩
abbrev cL_append : ByteArray := method_10_code
def yL_append : MethodName := ⟨RL, "append", "(LFieldBook;I[J)I"⟩
abbrev cL_keep : ByteArray := method_11_code
def yL_keep : MethodName := ⟨RL, "keep", "(LFieldBook;I[J)I"⟩
abbrev cL_goBack : ByteArray := method_12_code
def yL_goBack : MethodName := ⟨RL, "goBack", "(LFieldBook;I[J)I"⟩
abbrev cL_undo : ByteArray := method_13_code
def yL_undo : MethodName := ⟨RL, "undo", "(LFieldBook;[J)I"⟩
abbrev cL_horseOf : ByteArray := method_14_code
def yL_horseOf : MethodName := ⟨RL, "horseOf", "(LFieldBook;II[J)I"⟩
abbrev cL_bet : ByteArray := method_15_code
def yL_bet : MethodName := ⟨RL, "bet", "(LFieldBook;II[J)I"⟩
abbrev cL_laid : ByteArray := method_16_code
def yL_laid : MethodName := ⟨RL, "laid", "(LFieldBook;II[J)I"⟩
abbrev cL_count : ByteArray := method_17_code
def yL_count : MethodName := ⟨RL, "count", "(LFieldBook;I[J)I"⟩
abbrev cL_setting : ByteArray := method_18_code
def yL_setting : MethodName := ⟨RL, "setting", "(LFieldBook;I[J)I"⟩
abbrev cL_ifWon : ByteArray := method_19_code
def yL_ifWon : MethodName := ⟨RL, "ifWon", "(LFieldBook;I[J)I"⟩
abbrev cL_cover : ByteArray := method_20_code
def yL_cover : MethodName := ⟨RL, "cover", "(LFieldBook;I[J)I"⟩
abbrev cL_law : ByteArray := code
def yL_law : MethodName := ⟨RL, "law", "([I)Z"⟩
abbrev vwCl : List vw_C := [(RX0, TX0, 5), (RX1, TX1, 6), (RX2, TX2, 3), (RX3, TX3, 2), (RX4, TX4, 3), (RX5, TX5, 2), (RX6, TX6, 6), (RX7, TX7, 10)]
end
section
/-! THE POOL: all cells of the class and of the model in one row, by their index: cell i has the address ad i and holds G i.
A contract takes the whole pool and gives it back, so no call cuts or joins cells. kJ: from here on the machine comes to Q, whatever heap holds the pool G and whatever array holds the locals lv. -/
section GK
def pw (ad : Nat → Nat) (N : Nat) (G : Nat → va_E) : va_W := (List.range N).map (fun i => (ad i, G i))
theorem pw_get {ad : Nat → Nat} {N : Nat} {G : Nat → va_E} {i : Nat} (h : i < N) : (pw ad N G)[i]? = some (ad i, G i) := by
  rw [pw, List.getElem?_map, List.getElem?_range h]; rfl
theorem pw_len {ad : Nat → Nat} {N : Nat} {G : Nat → va_E} : (pw ad N G).length = N := by simp [pw]
theorem pw_of {ad : Nat → Nat} {N : Nat} {G : Nat → va_E} {k : Nat} {q : Nat × va_E} (h : (pw ad N G)[k]? = some q) : k < N ∧ q = (ad k, G k) := by
  have hk : k < N := by have := (List.getElem?_eq_some_iff.mp h).1; rwa [pw_len] at this
  rw [pw_get hk] at h
  exact ⟨hk, (Option.some.inj h).symm⟩
theorem pw_set {ad : Nat → Nat} {N : Nat} {G : Nat → va_E} {i : Nat} {e : va_E} (h : i < N) : (pw ad N G).set i (ad i, e) = pw ad N (va_up G i e) := by
  apply List.ext_getElem?
  intro k
  by_cases hik : i = k
  · subst hik
    rw [List.getElem?_set_self (by rw [pw_len]; exact h), pw_get h]
    simp [va_up]
  · rw [List.getElem?_set_ne hik]
    by_cases hk : k < N
    · rw [pw_get hk, pw_get hk]
      simp [va_up, Ne.symm hik]
    · rw [List.getElem?_eq_none (by rw [pw_len]; omega), List.getElem?_eq_none (by rw [pw_len]; omega)]
theorem pw_push {ad : Nat → Nat} {N : Nat} {G : Nat → va_E} {q : Nat} {e : va_E} : pw ad N G ++ [(q, e)] = pw (va_up ad N q) (N + 1) (va_up G N e) := by
  rw [pw, pw, List.range_succ, List.map_append]
  congr 1
  · apply List.map_congr_left
    intro a ha
    have : a < N := List.mem_range.mp ha
    simp [va_up, Nat.ne_of_lt this]
  · simp [va_up]
theorem pw_D {ad : Nat → Nat} {N : Nat} {G : Nat → va_E} (G' : Nat → va_E) {A : Nat → Prop} (h : va_D A (pw ad N G)) : va_D A (pw ad N G') := by
  refine ⟨fun i j x y hi hj hxy => ?_, fun k q hk => ?_⟩
  · obtain ⟨h1, rfl⟩ := pw_of hi
    obtain ⟨h2, rfl⟩ := pw_of hj
    exact h.1 i j _ _ (pw_get h1) (pw_get h2) hxy
  · obtain ⟨h1, rfl⟩ := pw_of hk
    exact h.2 k (ad k, G k) (pw_get h1)
theorem up_same {α : Type} {f : Nat → α} {k : Nat} {v : α} : va_up f k v k = v := if_pos rfl
theorem up_ne {α : Type} {f : Nat → α} {k j : Nat} {v : α} (h : j ≠ k) : va_up f k v j = f j := if_neg h
/-- a fact of the pool behind a write of another cell -/
theorem up_at {G G1 : Nat → va_E} {i j : Nat} {e e1 : va_E} (hG : G1 = va_up G i e1) (h : G j = e) (hn : j ≠ i) : G1 j = e := by rw [hG, up_ne hn, h]
theorem up_it {G G1 : Nat → va_E} {i : Nat} {e1 : va_E} (hG : G1 = va_up G i e1) : G1 i = e1 := by rw [hG, up_same]
def bI (b : Bool) : Int32 := if b then 1 else 0
theorem bI_nar (b : Bool) : narrow .boolean (.int (bI b)) = .int (bI b) := by cases b <;> decide +kernel
theorem bI_fit (b : Bool) : fits .boolean (.int (bI b)) = true := by cases b <;> decide +kernel
theorem bI_t {b : Bool} (h : ¬ bI b = 0) : b = true := by cases b with | true => rfl | false => exact absurd rfl h
theorem bI_f {b : Bool} (h : bI b = 0) : b = false := by cases b with | true => exact absurd h (by decide) | false => rfl
abbrev kTy (cI cC cZ cB : ClassId) : List (ClassId × FieldType) := [(cI, .int), (cC, .char), (cZ, .boolean), (cB, .object "FieldBook$Book")]
/-- what holds all through a method: the machine's part, and the pool's addresses -/
def kC (p : Program) (s : State) (args : Array Value) (m : MethodId) (meth : Method) (c : Code) (cc : ByteArray) (ret : Option FieldType) (own : String) (nL : Nat) (Ts : List Cond) (D : va_G) (tys : List (ClassId × FieldType)) (ad : Nat → Nat) (N : Nat) (A : Nat → Prop) : Prop :=
  (p.tables.exec = Jvm.exec ∧ c.code = cc ∧ meth.sig.returnType = ret ∧ c.maxLocals = nL ∧ meth.locks = false) ∧ s.vm.findClass own = some m.cls ∧ (∀ w ∈ Ts, w.before args s = true) ∧ va_K D vwCl tys s ∧ va_D A (pw ad N (fun _ => .inr (0, []))) ∧ (∀ q, s.heap.size ≤ q → A q) ∧ ad = ad
def kJ (p : Program) (l : Launch) (e : Env) (R : Room) (s : State) (m : MethodId) (args : Array Value) (below : List Frame) (meth : Method) (c : Code) (cells slots : Nat) (Q : State → Prop) (nL : Nat) (D : va_G) (ad : Nat → Nat) (N : Nat) (A : Nat → Prop) (G : Nat → va_E) (pc : Nat) (lv : List (Nat × Value)) (st : List Value) : Prop :=
  ∀ (H : Heap) (locs : List Loc) (ls : Array Slot), va_P D vwCl (pw ad N G) H → va_S A s.heap H locs → lv_has ls nL lv → W p l e R s m args below meth c H locs cells slots Q (F0 m pc ls st)
variable {p : Program} {l : Launch} {e : Env} {R : Room} {s : State} {m : MethodId} {args : Array Value} {below : List Frame} {meth : Method} {c : Code} {cells slots : Nat} {Q : State → Prop}
variable {cc : ByteArray} {ret : Option FieldType} {own : String} {nL : Nat} {Ts : List Cond} {D : va_G} {tys : List (ClassId × FieldType)} {ad : Nat → Nat} {N : Nat} {A : Nat → Prop} {G : Nat → va_E} {pc : Nat} {lv : List (Nat × Value)} {st : List Value}

theorem k_iload_n (C : kC p s args m meth c cc ret own nL Ts D tys ad N A) {k : Fin 4} {i j : Nat} {x : Int32} (hdg : decode cc pc = .ok (.iload_n k, 1)) (hi : (k : Nat) = i) (hl : lv[j]? = some (i, .int x)) (kk : kJ p l e R s m args below meth c cells slots Q nL D ad N A G (pc + 1) lv (.int x :: st)) : kJ p l e R s m args below meth c cells slots Q nL D ad N A G pc lv (st) := fun H locs ls hP hS h => lv_iload_n C.1.1 C.1.2.1 hdg hi (lv_at h j hl) (kk H locs ls hP hS h)
theorem k_iload (C : kC p s args m meth c cc ret own nL Ts D tys ad N A) {i j : Nat} {x : Int32} (hdg : decode cc pc = .ok (.iload i, 2)) (hl : lv[j]? = some (i, .int x)) (kk : kJ p l e R s m args below meth c cells slots Q nL D ad N A G (pc + 2) lv (.int x :: st)) : kJ p l e R s m args below meth c cells slots Q nL D ad N A G pc lv (st) := fun H locs ls hP hS h => lv_iload C.1.1 C.1.2.1 hdg (lv_at h j hl) (kk H locs ls hP hS h)
theorem k_lload_n (C : kC p s args m meth c cc ret own nL Ts D tys ad N A) {k : Fin 4} {i j : Nat} {x : Int64} (hdg : decode cc pc = .ok (.lload_n k, 1)) (hi : (k : Nat) = i) (hl : lv[j]? = some (i, .long x)) (kk : kJ p l e R s m args below meth c cells slots Q nL D ad N A G (pc + 1) lv (.long x :: st)) : kJ p l e R s m args below meth c cells slots Q nL D ad N A G pc lv (st) := fun H locs ls hP hS h => lv_lload_n C.1.1 C.1.2.1 hdg hi (lv_at h j hl) (kk H locs ls hP hS h)
theorem k_lload (C : kC p s args m meth c cc ret own nL Ts D tys ad N A) {i j : Nat} {x : Int64} (hdg : decode cc pc = .ok (.lload i, 2)) (hl : lv[j]? = some (i, .long x)) (kk : kJ p l e R s m args below meth c cells slots Q nL D ad N A G (pc + 2) lv (.long x :: st)) : kJ p l e R s m args below meth c cells slots Q nL D ad N A G pc lv (st) := fun H locs ls hP hS h => lv_lload C.1.1 C.1.2.1 hdg (lv_at h j hl) (kk H locs ls hP hS h)
theorem k_dload_n (C : kC p s args m meth c cc ret own nL Ts D tys ad N A) {k : Fin 4} {i j : Nat} {x : UInt64} (hdg : decode cc pc = .ok (.dload_n k, 1)) (hi : (k : Nat) = i) (hl : lv[j]? = some (i, .double x)) (kk : kJ p l e R s m args below meth c cells slots Q nL D ad N A G (pc + 1) lv (.double x :: st)) : kJ p l e R s m args below meth c cells slots Q nL D ad N A G pc lv (st) := fun H locs ls hP hS h => lv_dload_n C.1.1 C.1.2.1 hdg hi (lv_at h j hl) (kk H locs ls hP hS h)
theorem k_dload (C : kC p s args m meth c cc ret own nL Ts D tys ad N A) {i j : Nat} {x : UInt64} (hdg : decode cc pc = .ok (.dload i, 2)) (hl : lv[j]? = some (i, .double x)) (kk : kJ p l e R s m args below meth c cells slots Q nL D ad N A G (pc + 2) lv (.double x :: st)) : kJ p l e R s m args below meth c cells slots Q nL D ad N A G pc lv (st) := fun H locs ls hP hS h => lv_dload C.1.1 C.1.2.1 hdg (lv_at h j hl) (kk H locs ls hP hS h)
theorem k_aload_n (C : kC p s args m meth c cc ret own nL Ts D tys ad N A) {k : Fin 4} {i j : Nat} {x : Nat} (hdg : decode cc pc = .ok (.aload_n k, 1)) (hi : (k : Nat) = i) (hl : lv[j]? = some (i, .ref x)) (kk : kJ p l e R s m args below meth c cells slots Q nL D ad N A G (pc + 1) lv (.ref x :: st)) : kJ p l e R s m args below meth c cells slots Q nL D ad N A G pc lv (st) := fun H locs ls hP hS h => lv_aload_n C.1.1 C.1.2.1 hdg hi (lv_at h j hl) (kk H locs ls hP hS h)
theorem k_aload (C : kC p s args m meth c cc ret own nL Ts D tys ad N A) {i j : Nat} {x : Nat} (hdg : decode cc pc = .ok (.aload i, 2)) (hl : lv[j]? = some (i, .ref x)) (kk : kJ p l e R s m args below meth c cells slots Q nL D ad N A G (pc + 2) lv (.ref x :: st)) : kJ p l e R s m args below meth c cells slots Q nL D ad N A G pc lv (st) := fun H locs ls hP hS h => lv_aload C.1.1 C.1.2.1 hdg (lv_at h j hl) (kk H locs ls hP hS h)
theorem k_istore_n (C : kC p s args m meth c cc ret own nL Ts D tys ad N A) {k : Fin 4} {i : Nat} {x : Int32} {lv' : List (Nat × Value)} (hdg : decode cc pc = .ok (.istore_n k, 1)) (hi : (k : Nat) = i) (hn : i < nL) (hl : (i, Value.int x) :: lv.filter (fun q => !(q.1 == i) && !(q.1 + 1 == i && q.2.category == 2)) = lv') (kk : kJ p l e R s m args below meth c cells slots Q nL D ad N A G (pc + 1) lv' st) : kJ p l e R s m args below meth c cells slots Q nL D ad N A G pc lv (.int x :: st) := fun H locs ls hP hS h => lv_istore_n C.1.1 C.1.2.1 hdg hi h hn hl (fun ls' h' => kk H locs ls' hP hS h')
theorem k_istore (C : kC p s args m meth c cc ret own nL Ts D tys ad N A) {i : Nat} {x : Int32} {lv' : List (Nat × Value)} (hdg : decode cc pc = .ok (.istore i, 2)) (hn : i < nL) (hl : (i, Value.int x) :: lv.filter (fun q => !(q.1 == i) && !(q.1 + 1 == i && q.2.category == 2)) = lv') (kk : kJ p l e R s m args below meth c cells slots Q nL D ad N A G (pc + 2) lv' st) : kJ p l e R s m args below meth c cells slots Q nL D ad N A G pc lv (.int x :: st) := fun H locs ls hP hS h => lv_istore C.1.1 C.1.2.1 hdg h hn hl (fun ls' h' => kk H locs ls' hP hS h')
theorem k_astore_n (C : kC p s args m meth c cc ret own nL Ts D tys ad N A) {k : Fin 4} {i : Nat} {x : Nat} {lv' : List (Nat × Value)} (hdg : decode cc pc = .ok (.astore_n k, 1)) (hi : (k : Nat) = i) (hn : i < nL) (hl : (i, Value.ref x) :: lv.filter (fun q => !(q.1 == i) && !(q.1 + 1 == i && q.2.category == 2)) = lv') (kk : kJ p l e R s m args below meth c cells slots Q nL D ad N A G (pc + 1) lv' st) : kJ p l e R s m args below meth c cells slots Q nL D ad N A G pc lv (.ref x :: st) := fun H locs ls hP hS h => lv_astore_n C.1.1 C.1.2.1 hdg hi h hn hl (fun ls' h' => kk H locs ls' hP hS h')
theorem k_astore (C : kC p s args m meth c cc ret own nL Ts D tys ad N A) {i : Nat} {x : Nat} {lv' : List (Nat × Value)} (hdg : decode cc pc = .ok (.astore i, 2)) (hn : i < nL) (hl : (i, Value.ref x) :: lv.filter (fun q => !(q.1 == i) && !(q.1 + 1 == i && q.2.category == 2)) = lv') (kk : kJ p l e R s m args below meth c cells slots Q nL D ad N A G (pc + 2) lv' st) : kJ p l e R s m args below meth c cells slots Q nL D ad N A G pc lv (.ref x :: st) := fun H locs ls hP hS h => lv_astore C.1.1 C.1.2.1 hdg h hn hl (fun ls' h' => kk H locs ls' hP hS h')
theorem k_lstore_n (C : kC p s args m meth c cc ret own nL Ts D tys ad N A) {k : Fin 4} {i : Nat} {x : Int64} {lv' : List (Nat × Value)} (hdg : decode cc pc = .ok (.lstore_n k, 1)) (hi : (k : Nat) = i) (hn : i + 1 < nL) (hl : (i, Value.long x) :: lv.filter (fun q => !(q.1 == i) && (!(q.1 == i + 1) && !(q.1 + 1 == i && q.2.category == 2))) = lv') (kk : kJ p l e R s m args below meth c cells slots Q nL D ad N A G (pc + 1) lv' st) : kJ p l e R s m args below meth c cells slots Q nL D ad N A G pc lv (.long x :: st) := fun H locs ls hP hS h => lv_lstore_n C.1.1 C.1.2.1 hdg hi h hn hl (fun ls' h' => kk H locs ls' hP hS h')
theorem k_lstore (C : kC p s args m meth c cc ret own nL Ts D tys ad N A) {i : Nat} {x : Int64} {lv' : List (Nat × Value)} (hdg : decode cc pc = .ok (.lstore i, 2)) (hn : i + 1 < nL) (hl : (i, Value.long x) :: lv.filter (fun q => !(q.1 == i) && (!(q.1 == i + 1) && !(q.1 + 1 == i && q.2.category == 2))) = lv') (kk : kJ p l e R s m args below meth c cells slots Q nL D ad N A G (pc + 2) lv' st) : kJ p l e R s m args below meth c cells slots Q nL D ad N A G pc lv (.long x :: st) := fun H locs ls hP hS h => lv_lstore C.1.1 C.1.2.1 hdg h hn hl (fun ls' h' => kk H locs ls' hP hS h')
theorem k_dstore_n (C : kC p s args m meth c cc ret own nL Ts D tys ad N A) {k : Fin 4} {i : Nat} {x : UInt64} {lv' : List (Nat × Value)} (hdg : decode cc pc = .ok (.dstore_n k, 1)) (hi : (k : Nat) = i) (hn : i + 1 < nL) (hl : (i, Value.double x) :: lv.filter (fun q => !(q.1 == i) && (!(q.1 == i + 1) && !(q.1 + 1 == i && q.2.category == 2))) = lv') (kk : kJ p l e R s m args below meth c cells slots Q nL D ad N A G (pc + 1) lv' st) : kJ p l e R s m args below meth c cells slots Q nL D ad N A G pc lv (.double x :: st) := fun H locs ls hP hS h => lv_dstore_n C.1.1 C.1.2.1 hdg hi h hn hl (fun ls' h' => kk H locs ls' hP hS h')
theorem k_dstore (C : kC p s args m meth c cc ret own nL Ts D tys ad N A) {i : Nat} {x : UInt64} {lv' : List (Nat × Value)} (hdg : decode cc pc = .ok (.dstore i, 2)) (hn : i + 1 < nL) (hl : (i, Value.double x) :: lv.filter (fun q => !(q.1 == i) && (!(q.1 == i + 1) && !(q.1 + 1 == i && q.2.category == 2))) = lv') (kk : kJ p l e R s m args below meth c cells slots Q nL D ad N A G (pc + 2) lv' st) : kJ p l e R s m args below meth c cells slots Q nL D ad N A G pc lv (.double x :: st) := fun H locs ls hP hS h => lv_dstore C.1.1 C.1.2.1 hdg h hn hl (fun ls' h' => kk H locs ls' hP hS h')
theorem k_iinc (C : kC p s args m meth c cc ret own nL Ts D tys ad N A) {i j : Nat} {n : Int} {x v : Int32} {lv' : List (Nat × Value)} (hdg : decode cc pc = .ok (.iinc i n, 3)) (hk : lv[j]? = some (i, .int x)) (hv : x + Int32.ofInt n = v) (hn : i < nL) (hl : (i, Value.int v) :: lv.filter (fun q => !(q.1 == i) && !(q.1 + 1 == i && q.2.category == 2)) = lv') (kk : kJ p l e R s m args below meth c cells slots Q nL D ad N A G (pc + 3) lv' st) : kJ p l e R s m args below meth c cells slots Q nL D ad N A G pc lv st := fun H locs ls hP hS h => lv_iinc C.1.1 C.1.2.1 hdg h hk hv hn hl (fun ls' h' => kk H locs ls' hP hS h')
theorem k_iconst (C : kC p s args m meth c cc ret own nL Ts D tys ad N A) {n : Int} {v : Int32} (hdg : decode cc pc = .ok (.iconst n, 1)) (hv : Int32.ofInt n = v) (kk : kJ p l e R s m args below meth c cells slots Q nL D ad N A G (pc + 1) lv (.int v :: st)) : kJ p l e R s m args below meth c cells slots Q nL D ad N A G pc lv (st) := fun H locs ls hP hS h => lv_iconst C.1.1 C.1.2.1 hdg hv (kk H locs ls hP hS h)
theorem k_bipush (C : kC p s args m meth c cc ret own nL Ts D tys ad N A) {n : Int} {v : Int32} (hdg : decode cc pc = .ok (.bipush n, 2)) (hv : (Int8.ofInt n).toInt32 = v) (kk : kJ p l e R s m args below meth c cells slots Q nL D ad N A G (pc + 2) lv (.int v :: st)) : kJ p l e R s m args below meth c cells slots Q nL D ad N A G pc lv (st) := fun H locs ls hP hS h => lv_bipush C.1.1 C.1.2.1 hdg hv (kk H locs ls hP hS h)
theorem k_sipush (C : kC p s args m meth c cc ret own nL Ts D tys ad N A) {n : Int} {v : Int32} (hdg : decode cc pc = .ok (.sipush n, 3)) (hv : (Int16.ofInt n).toInt32 = v) (kk : kJ p l e R s m args below meth c cells slots Q nL D ad N A G (pc + 3) lv (.int v :: st)) : kJ p l e R s m args below meth c cells slots Q nL D ad N A G pc lv (st) := fun H locs ls hP hS h => lv_sipush C.1.1 C.1.2.1 hdg hv (kk H locs ls hP hS h)
theorem k_lconst (C : kC p s args m meth c cc ret own nL Ts D tys ad N A) {n : Fin 2} {v : Int64} (hdg : decode cc pc = .ok (.lconst n, 1)) (hv : Int64.ofNat (n : Nat) = v) (kk : kJ p l e R s m args below meth c cells slots Q nL D ad N A G (pc + 1) lv (.long v :: st)) : kJ p l e R s m args below meth c cells slots Q nL D ad N A G pc lv (st) := fun H locs ls hP hS h => lv_lconst C.1.1 C.1.2.1 hdg hv (kk H locs ls hP hS h)
theorem k_dconst0 (C : kC p s args m meth c cc ret own nL Ts D tys ad N A)  (hdg : decode cc pc = .ok (.dconst 0, 1))  (kk : kJ p l e R s m args below meth c cells slots Q nL D ad N A G (pc + 1) lv (.double FP.dconst0 :: st)) : kJ p l e R s m args below meth c cells slots Q nL D ad N A G pc lv (st) := fun H locs ls hP hS h => lv_dconst0 C.1.1 C.1.2.1 hdg (kk H locs ls hP hS h)
theorem k_dconst1 (C : kC p s args m meth c cc ret own nL Ts D tys ad N A)  (hdg : decode cc pc = .ok (.dconst 1, 1))  (kk : kJ p l e R s m args below meth c cells slots Q nL D ad N A G (pc + 1) lv (.double FP.dconst1 :: st)) : kJ p l e R s m args below meth c cells slots Q nL D ad N A G pc lv (st) := fun H locs ls hP hS h => lv_dconst1 C.1.1 C.1.2.1 hdg (kk H locs ls hP hS h)
theorem k_ldc (C : kC p s args m meth c cc ret own nL Ts D tys ad N A) {index : Nat} {v : Int32} (hdg : decode cc pc = .ok (.ldc index, 2)) (hc : Cond.constant own index v ∈ Ts) (kk : kJ p l e R s m args below meth c cells slots Q nL D ad N A G (pc + 2) lv (.int v :: st)) : kJ p l e R s m args below meth c cells slots Q nL D ad N A G pc lv (st) := fun H locs ls hP hS h => lv_ldc C.1.1 C.1.2.1 C.2.1 (C.2.2.1 _ hc) hdg (kk H locs ls hP hS h)
theorem k_ldc_w (C : kC p s args m meth c cc ret own nL Ts D tys ad N A) {index : Nat} {v : Int32} (hdg : decode cc pc = .ok (.ldc_w index, 3)) (hc : Cond.constant own index v ∈ Ts) (kk : kJ p l e R s m args below meth c cells slots Q nL D ad N A G (pc + 3) lv (.int v :: st)) : kJ p l e R s m args below meth c cells slots Q nL D ad N A G pc lv (st) := fun H locs ls hP hS h => lv_ldcw C.1.1 C.1.2.1 C.2.1 (C.2.2.1 _ hc) hdg (kk H locs ls hP hS h)
theorem k_ldc2l (C : kC p s args m meth c cc ret own nL Ts D tys ad N A) {index : Nat} {v : Int64} (hdg : decode cc pc = .ok (.ldc2_w index, 3)) (hc : Cond.constantLong own index v ∈ Ts) (kk : kJ p l e R s m args below meth c cells slots Q nL D ad N A G (pc + 3) lv (.long v :: st)) : kJ p l e R s m args below meth c cells slots Q nL D ad N A G pc lv (st) := fun H locs ls hP hS h => lv_ldc2 C.1.1 C.1.2.1 C.2.1 (C.2.2.1 _ hc) hdg (kk H locs ls hP hS h)
theorem k_ldc2d (C : kC p s args m meth c cc ret own nL Ts D tys ad N A) {index : Nat} {v : UInt64} (hdg : decode cc pc = .ok (.ldc2_w index, 3)) (hc : Cond.constantDouble own index v ∈ Ts) (kk : kJ p l e R s m args below meth c cells slots Q nL D ad N A G (pc + 3) lv (.double v :: st)) : kJ p l e R s m args below meth c cells slots Q nL D ad N A G pc lv (st) := fun H locs ls hP hS h => lv_ldc2d C.1.1 C.1.2.1 C.2.1 (C.2.2.1 _ hc) hdg (kk H locs ls hP hS h)
theorem k_null (C : kC p s args m meth c cc ret own nL Ts D tys ad N A)  (hdg : decode cc pc = .ok (.aconst_null, 1))  (kk : kJ p l e R s m args below meth c cells slots Q nL D ad N A G (pc + 1) lv (.null :: st)) : kJ p l e R s m args below meth c cells slots Q nL D ad N A G pc lv (st) := fun H locs ls hP hS h => lv_null C.1.1 C.1.2.1 hdg (kk H locs ls hP hS h)
theorem k_iadd (C : kC p s args m meth c cc ret own nL Ts D tys ad N A) {x y : Int32} (hdg : decode cc pc = .ok (.iadd, 1))  (kk : kJ p l e R s m args below meth c cells slots Q nL D ad N A G (pc + 1) lv (.int (x + y) :: st)) : kJ p l e R s m args below meth c cells slots Q nL D ad N A G pc lv (.int y :: .int x :: st) := fun H locs ls hP hS h => lv_iadd C.1.1 C.1.2.1 hdg (kk H locs ls hP hS h)
theorem k_isub (C : kC p s args m meth c cc ret own nL Ts D tys ad N A) {x y : Int32} (hdg : decode cc pc = .ok (.isub, 1))  (kk : kJ p l e R s m args below meth c cells slots Q nL D ad N A G (pc + 1) lv (.int (x - y) :: st)) : kJ p l e R s m args below meth c cells slots Q nL D ad N A G pc lv (.int y :: .int x :: st) := fun H locs ls hP hS h => lv_isub C.1.1 C.1.2.1 hdg (kk H locs ls hP hS h)
theorem k_imul (C : kC p s args m meth c cc ret own nL Ts D tys ad N A) {x y : Int32} (hdg : decode cc pc = .ok (.imul, 1))  (kk : kJ p l e R s m args below meth c cells slots Q nL D ad N A G (pc + 1) lv (.int (x * y) :: st)) : kJ p l e R s m args below meth c cells slots Q nL D ad N A G pc lv (.int y :: .int x :: st) := fun H locs ls hP hS h => lv_imul C.1.1 C.1.2.1 hdg (kk H locs ls hP hS h)
theorem k_iand (C : kC p s args m meth c cc ret own nL Ts D tys ad N A) {x y : Int32} (hdg : decode cc pc = .ok (.iand, 1))  (kk : kJ p l e R s m args below meth c cells slots Q nL D ad N A G (pc + 1) lv (.int (x &&& y) :: st)) : kJ p l e R s m args below meth c cells slots Q nL D ad N A G pc lv (.int y :: .int x :: st) := fun H locs ls hP hS h => lv_iand C.1.1 C.1.2.1 hdg (kk H locs ls hP hS h)
theorem k_ior (C : kC p s args m meth c cc ret own nL Ts D tys ad N A) {x y : Int32} (hdg : decode cc pc = .ok (.ior, 1))  (kk : kJ p l e R s m args below meth c cells slots Q nL D ad N A G (pc + 1) lv (.int (x ||| y) :: st)) : kJ p l e R s m args below meth c cells slots Q nL D ad N A G pc lv (.int y :: .int x :: st) := fun H locs ls hP hS h => lv_ior C.1.1 C.1.2.1 hdg (kk H locs ls hP hS h)
theorem k_ishl (C : kC p s args m meth c cc ret own nL Ts D tys ad N A) {x y : Int32} (hdg : decode cc pc = .ok (.ishl, 1))  (kk : kJ p l e R s m args below meth c cells slots Q nL D ad N A G (pc + 1) lv (.int (x <<< (y &&& 31)) :: st)) : kJ p l e R s m args below meth c cells slots Q nL D ad N A G pc lv (.int y :: .int x :: st) := fun H locs ls hP hS h => lv_ishl C.1.1 C.1.2.1 hdg (kk H locs ls hP hS h)
theorem k_ishr (C : kC p s args m meth c cc ret own nL Ts D tys ad N A) {x y : Int32} (hdg : decode cc pc = .ok (.ishr, 1))  (kk : kJ p l e R s m args below meth c cells slots Q nL D ad N A G (pc + 1) lv (.int (x >>> (y &&& 31)) :: st)) : kJ p l e R s m args below meth c cells slots Q nL D ad N A G pc lv (.int y :: .int x :: st) := fun H locs ls hP hS h => lv_ishr C.1.1 C.1.2.1 hdg (kk H locs ls hP hS h)
theorem k_ladd (C : kC p s args m meth c cc ret own nL Ts D tys ad N A) {x y : Int64} (hdg : decode cc pc = .ok (.ladd, 1))  (kk : kJ p l e R s m args below meth c cells slots Q nL D ad N A G (pc + 1) lv (.long (x + y) :: st)) : kJ p l e R s m args below meth c cells slots Q nL D ad N A G pc lv (.long y :: .long x :: st) := fun H locs ls hP hS h => lv_ladd C.1.1 C.1.2.1 hdg (kk H locs ls hP hS h)
theorem k_lsub (C : kC p s args m meth c cc ret own nL Ts D tys ad N A) {x y : Int64} (hdg : decode cc pc = .ok (.lsub, 1))  (kk : kJ p l e R s m args below meth c cells slots Q nL D ad N A G (pc + 1) lv (.long (x - y) :: st)) : kJ p l e R s m args below meth c cells slots Q nL D ad N A G pc lv (.long y :: .long x :: st) := fun H locs ls hP hS h => lv_lsub C.1.1 C.1.2.1 hdg (kk H locs ls hP hS h)
theorem k_lmul (C : kC p s args m meth c cc ret own nL Ts D tys ad N A) {x y : Int64} (hdg : decode cc pc = .ok (.lmul, 1))  (kk : kJ p l e R s m args below meth c cells slots Q nL D ad N A G (pc + 1) lv (.long (x * y) :: st)) : kJ p l e R s m args below meth c cells slots Q nL D ad N A G pc lv (.long y :: .long x :: st) := fun H locs ls hP hS h => lv_lmul C.1.1 C.1.2.1 hdg (kk H locs ls hP hS h)
theorem k_ineg (C : kC p s args m meth c cc ret own nL Ts D tys ad N A) {x : Int32} (hdg : decode cc pc = .ok (.ineg, 1))  (kk : kJ p l e R s m args below meth c cells slots Q nL D ad N A G (pc + 1) lv (.int (-x) :: st)) : kJ p l e R s m args below meth c cells slots Q nL D ad N A G pc lv (.int x :: st) := fun H locs ls hP hS h => lv_ineg C.1.1 C.1.2.1 hdg (kk H locs ls hP hS h)
theorem k_idiv (C : kC p s args m meth c cc ret own nL Ts D tys ad N A) {x y : Int32} (hdg : decode cc pc = .ok (.idiv, 1)) (hne : ¬ y = 0) (kk : kJ p l e R s m args below meth c cells slots Q nL D ad N A G (pc + 1) lv (.int (x / y) :: st)) : kJ p l e R s m args below meth c cells slots Q nL D ad N A G pc lv (.int y :: .int x :: st) := fun H locs ls hP hS h => lv_idiv C.1.1 C.1.2.1 hdg hne (kk H locs ls hP hS h)
theorem k_irem (C : kC p s args m meth c cc ret own nL Ts D tys ad N A) {x y : Int32} (hdg : decode cc pc = .ok (.irem, 1)) (hne : ¬ y = 0) (kk : kJ p l e R s m args below meth c cells slots Q nL D ad N A G (pc + 1) lv (.int (x - x / y * y) :: st)) : kJ p l e R s m args below meth c cells slots Q nL D ad N A G pc lv (.int y :: .int x :: st) := fun H locs ls hP hS h => lv_irem C.1.1 C.1.2.1 hdg hne (kk H locs ls hP hS h)
theorem k_ldiv (C : kC p s args m meth c cc ret own nL Ts D tys ad N A) {x y : Int64} (hdg : decode cc pc = .ok (.ldiv, 1)) (hne : ¬ y = 0) (kk : kJ p l e R s m args below meth c cells slots Q nL D ad N A G (pc + 1) lv (.long (x / y) :: st)) : kJ p l e R s m args below meth c cells slots Q nL D ad N A G pc lv (.long y :: .long x :: st) := fun H locs ls hP hS h => lv_ldiv C.1.1 C.1.2.1 hdg hne (kk H locs ls hP hS h)
theorem k_i2l (C : kC p s args m meth c cc ret own nL Ts D tys ad N A) {x : Int32} (hdg : decode cc pc = .ok (.i2l, 1))  (kk : kJ p l e R s m args below meth c cells slots Q nL D ad N A G (pc + 1) lv (.long x.toInt64 :: st)) : kJ p l e R s m args below meth c cells slots Q nL D ad N A G pc lv (.int x :: st) := fun H locs ls hP hS h => lv_i2l C.1.1 C.1.2.1 hdg rfl (kk H locs ls hP hS h)
theorem k_l2i (C : kC p s args m meth c cc ret own nL Ts D tys ad N A) {x : Int64} (hdg : decode cc pc = .ok (.l2i, 1))  (kk : kJ p l e R s m args below meth c cells slots Q nL D ad N A G (pc + 1) lv (.int x.toInt32 :: st)) : kJ p l e R s m args below meth c cells slots Q nL D ad N A G pc lv (.long x :: st) := fun H locs ls hP hS h => lv_l2i C.1.1 C.1.2.1 hdg rfl (kk H locs ls hP hS h)
theorem k_i2c (C : kC p s args m meth c cc ret own nL Ts D tys ad N A) {x : Int32} (hdg : decode cc pc = .ok (.i2c, 1))  (kk : kJ p l e R s m args below meth c cells slots Q nL D ad N A G (pc + 1) lv (.int (x.toUInt32 % 65536).toInt32 :: st)) : kJ p l e R s m args below meth c cells slots Q nL D ad N A G pc lv (.int x :: st) := fun H locs ls hP hS h => lv_i2c C.1.1 C.1.2.1 hdg rfl (kk H locs ls hP hS h)
theorem k_lshl (C : kC p s args m meth c cc ret own nL Ts D tys ad N A) {x : Int64} {y : Int32} (hdg : decode cc pc = .ok (.lshl, 1))  (kk : kJ p l e R s m args below meth c cells slots Q nL D ad N A G (pc + 1) lv (.long (x <<< (y.toInt64 &&& 63)) :: st)) : kJ p l e R s m args below meth c cells slots Q nL D ad N A G pc lv (.int y :: .long x :: st) := fun H locs ls hP hS h => lv_lshl C.1.1 C.1.2.1 hdg rfl (kk H locs ls hP hS h)
theorem k_lcmp (C : kC p s args m meth c cc ret own nL Ts D tys ad N A) {x y : Int64} (hdg : decode cc pc = .ok (.lcmp, 1))  (kk : kJ p l e R s m args below meth c cells slots Q nL D ad N A G (pc + 1) lv (.int (lg_cmp x y) :: st)) : kJ p l e R s m args below meth c cells slots Q nL D ad N A G pc lv (.long y :: .long x :: st) := fun H locs ls hP hS h => W.lcmp C.1.1 C.1.2.1 hdg (kk H locs ls hP hS h)
theorem k_dcmp (C : kC p s args m meth c cc ret own nL Ts D tys ad N A) {x y : UInt64} {op : CmpOp} (hdg : decode cc pc = .ok (.dcmp op, 1))  (kk : kJ p l e R s m args below meth c cells slots Q nL D ad N A G (pc + 1) lv (.int (Op.cmpValue (FP.dcmp x y) op) :: st)) : kJ p l e R s m args below meth c cells slots Q nL D ad N A G pc lv (.double y :: .double x :: st) := fun H locs ls hP hS h => lv_dcmp C.1.1 C.1.2.1 hdg (kk H locs ls hP hS h)
theorem k_i2d (C : kC p s args m meth c cc ret own nL Ts D tys ad N A) {x : Int32} (hdg : decode cc pc = .ok (.i2d, 1))  (kk : kJ p l e R s m args below meth c cells slots Q nL D ad N A G (pc + 1) lv (.double (FP.i2d x) :: st)) : kJ p l e R s m args below meth c cells slots Q nL D ad N A G pc lv (.int x :: st) := fun H locs ls hP hS h => lv_i2d C.1.1 C.1.2.1 hdg (kk H locs ls hP hS h)
theorem k_d2l (C : kC p s args m meth c cc ret own nL Ts D tys ad N A) {x : UInt64} (hdg : decode cc pc = .ok (.d2l, 1))  (kk : kJ p l e R s m args below meth c cells slots Q nL D ad N A G (pc + 1) lv (.long (FP.d2l x) :: st)) : kJ p l e R s m args below meth c cells slots Q nL D ad N A G pc lv (.double x :: st) := fun H locs ls hP hS h => lv_d2l C.1.1 C.1.2.1 hdg (kk H locs ls hP hS h)
theorem k_ddiv (C : kC p s args m meth c cc ret own nL Ts D tys ad N A) {x y : UInt64} (hdg : decode cc pc = .ok (.ddiv, 1)) (hne : vf_n64 (FP.ddiv x y)) (kk : kJ p l e R s m args below meth c cells slots Q nL D ad N A G (pc + 1) lv (.double (FP.ddiv x y) :: st)) : kJ p l e R s m args below meth c cells slots Q nL D ad N A G pc lv (.double y :: .double x :: st) := fun H locs ls hP hS h => lv_ddiv C.1.1 C.1.2.1 hdg hne (kk H locs ls hP hS h)
theorem k_dmul (C : kC p s args m meth c cc ret own nL Ts D tys ad N A) {x y : UInt64} (hdg : decode cc pc = .ok (.dmul, 1)) (hne : vf_n64 (FP.dmul x y)) (kk : kJ p l e R s m args below meth c cells slots Q nL D ad N A G (pc + 1) lv (.double (FP.dmul x y) :: st)) : kJ p l e R s m args below meth c cells slots Q nL D ad N A G pc lv (.double y :: .double x :: st) := fun H locs ls hP hS h => lv_dmul C.1.1 C.1.2.1 hdg hne (kk H locs ls hP hS h)
theorem k_dsub (C : kC p s args m meth c cc ret own nL Ts D tys ad N A) {x y : UInt64} (hdg : decode cc pc = .ok (.dsub, 1)) (hne : vf_n64 (FP.dsub x y)) (kk : kJ p l e R s m args below meth c cells slots Q nL D ad N A G (pc + 1) lv (.double (FP.dsub x y) :: st)) : kJ p l e R s m args below meth c cells slots Q nL D ad N A G pc lv (.double y :: .double x :: st) := fun H locs ls hP hS h => lv_dsub C.1.1 C.1.2.1 hdg hne (kk H locs ls hP hS h)
theorem k_dup (C : kC p s args m meth c cc ret own nL Ts D tys ad N A) {va : Value} (hdg : decode cc pc = .ok (.dup, 1)) (hva : va.category = 1) (kk : kJ p l e R s m args below meth c cells slots Q nL D ad N A G (pc + 1) lv (va :: va :: st)) : kJ p l e R s m args below meth c cells slots Q nL D ad N A G pc lv (va :: st) := fun H locs ls hP hS h => lv_dup C.1.1 C.1.2.1 hdg hva (kk H locs ls hP hS h)
theorem k_pop (C : kC p s args m meth c cc ret own nL Ts D tys ad N A) {va : Value} (hdg : decode cc pc = .ok (.pop, 1)) (hva : va.category = 1) (kk : kJ p l e R s m args below meth c cells slots Q nL D ad N A G (pc + 1) lv (st)) : kJ p l e R s m args below meth c cells slots Q nL D ad N A G pc lv (va :: st) := fun H locs ls hP hS h => lv_pop C.1.1 C.1.2.1 hdg hva (kk H locs ls hP hS h)
theorem k_dup2 (C : kC p s args m meth c cc ret own nL Ts D tys ad N A) {va vb : Value} (hdg : decode cc pc = .ok (.dup2, 1)) (hva : va.category = 1) (hvb : vb.category = 1) (kk : kJ p l e R s m args below meth c cells slots Q nL D ad N A G (pc + 1) lv (va :: vb :: va :: vb :: st)) : kJ p l e R s m args below meth c cells slots Q nL D ad N A G pc lv (va :: vb :: st) := fun H locs ls hP hS h => lv_dup2_11 C.1.1 C.1.2.1 hdg hva hvb (kk H locs ls hP hS h)
theorem k_if_eq (C : kC p s args m meth c cc ret own nL Ts D tys ad N A) {x : Int32} {off : Int} (tgt : Nat) (hdg : decode cc pc = .ok (.ifCond .eq off, 3)) (ht : (pc : Int) + off = (tgt : Int)) (kt : x = 0 → kJ p l e R s m args below meth c cells slots Q nL D ad N A G tgt lv st) (kf : ¬ x = 0 → kJ p l e R s m args below meth c cells slots Q nL D ad N A G (pc + 3) lv st) : kJ p l e R s m args below meth c cells slots Q nL D ad N A G pc lv (.int x :: st) := fun H locs ls hP hS h => lv_if_eq C.1.1 C.1.2.1 hdg ht (fun q => kt q H locs ls hP hS h) (fun q => kf q H locs ls hP hS h)
theorem k_if_ne (C : kC p s args m meth c cc ret own nL Ts D tys ad N A) {x : Int32} {off : Int} (tgt : Nat) (hdg : decode cc pc = .ok (.ifCond .ne off, 3)) (ht : (pc : Int) + off = (tgt : Int)) (kt : ¬ x = 0 → kJ p l e R s m args below meth c cells slots Q nL D ad N A G tgt lv st) (kf : x = 0 → kJ p l e R s m args below meth c cells slots Q nL D ad N A G (pc + 3) lv st) : kJ p l e R s m args below meth c cells slots Q nL D ad N A G pc lv (.int x :: st) := fun H locs ls hP hS h => lv_if_ne C.1.1 C.1.2.1 hdg ht (fun q => kt q H locs ls hP hS h) (fun q => kf q H locs ls hP hS h)
theorem k_if_lt (C : kC p s args m meth c cc ret own nL Ts D tys ad N A) {x : Int32} {off : Int} (tgt : Nat) (hdg : decode cc pc = .ok (.ifCond .lt off, 3)) (ht : (pc : Int) + off = (tgt : Int)) (kt : x < 0 → kJ p l e R s m args below meth c cells slots Q nL D ad N A G tgt lv st) (kf : ¬ x < 0 → kJ p l e R s m args below meth c cells slots Q nL D ad N A G (pc + 3) lv st) : kJ p l e R s m args below meth c cells slots Q nL D ad N A G pc lv (.int x :: st) := fun H locs ls hP hS h => lv_if_lt C.1.1 C.1.2.1 hdg ht (fun q => kt q H locs ls hP hS h) (fun q => kf q H locs ls hP hS h)
theorem k_if_ge (C : kC p s args m meth c cc ret own nL Ts D tys ad N A) {x : Int32} {off : Int} (tgt : Nat) (hdg : decode cc pc = .ok (.ifCond .ge off, 3)) (ht : (pc : Int) + off = (tgt : Int)) (kt : 0 ≤ x → kJ p l e R s m args below meth c cells slots Q nL D ad N A G tgt lv st) (kf : ¬ 0 ≤ x → kJ p l e R s m args below meth c cells slots Q nL D ad N A G (pc + 3) lv st) : kJ p l e R s m args below meth c cells slots Q nL D ad N A G pc lv (.int x :: st) := fun H locs ls hP hS h => lv_if_ge C.1.1 C.1.2.1 hdg ht (fun q => kt q H locs ls hP hS h) (fun q => kf q H locs ls hP hS h)
theorem k_if_gt (C : kC p s args m meth c cc ret own nL Ts D tys ad N A) {x : Int32} {off : Int} (tgt : Nat) (hdg : decode cc pc = .ok (.ifCond .gt off, 3)) (ht : (pc : Int) + off = (tgt : Int)) (kt : 0 < x → kJ p l e R s m args below meth c cells slots Q nL D ad N A G tgt lv st) (kf : ¬ 0 < x → kJ p l e R s m args below meth c cells slots Q nL D ad N A G (pc + 3) lv st) : kJ p l e R s m args below meth c cells slots Q nL D ad N A G pc lv (.int x :: st) := fun H locs ls hP hS h => lv_if_gt C.1.1 C.1.2.1 hdg ht (fun q => kt q H locs ls hP hS h) (fun q => kf q H locs ls hP hS h)
theorem k_if_le (C : kC p s args m meth c cc ret own nL Ts D tys ad N A) {x : Int32} {off : Int} (tgt : Nat) (hdg : decode cc pc = .ok (.ifCond .le off, 3)) (ht : (pc : Int) + off = (tgt : Int)) (kt : x ≤ 0 → kJ p l e R s m args below meth c cells slots Q nL D ad N A G tgt lv st) (kf : ¬ x ≤ 0 → kJ p l e R s m args below meth c cells slots Q nL D ad N A G (pc + 3) lv st) : kJ p l e R s m args below meth c cells slots Q nL D ad N A G pc lv (.int x :: st) := fun H locs ls hP hS h => lv_if_le C.1.1 C.1.2.1 hdg ht (fun q => kt q H locs ls hP hS h) (fun q => kf q H locs ls hP hS h)
theorem k_icmp_eq (C : kC p s args m meth c cc ret own nL Ts D tys ad N A) {x y : Int32} {off : Int} (tgt : Nat) (hdg : decode cc pc = .ok (.if_icmp .eq off, 3)) (ht : (pc : Int) + off = (tgt : Int)) (kt : x = y → kJ p l e R s m args below meth c cells slots Q nL D ad N A G tgt lv st) (kf : ¬ x = y → kJ p l e R s m args below meth c cells slots Q nL D ad N A G (pc + 3) lv st) : kJ p l e R s m args below meth c cells slots Q nL D ad N A G pc lv (.int y :: .int x :: st) := fun H locs ls hP hS h => lv_icmp_eq C.1.1 C.1.2.1 hdg ht (fun q => kt q H locs ls hP hS h) (fun q => kf q H locs ls hP hS h)
theorem k_icmp_ne (C : kC p s args m meth c cc ret own nL Ts D tys ad N A) {x y : Int32} {off : Int} (tgt : Nat) (hdg : decode cc pc = .ok (.if_icmp .ne off, 3)) (ht : (pc : Int) + off = (tgt : Int)) (kt : ¬ x = y → kJ p l e R s m args below meth c cells slots Q nL D ad N A G tgt lv st) (kf : x = y → kJ p l e R s m args below meth c cells slots Q nL D ad N A G (pc + 3) lv st) : kJ p l e R s m args below meth c cells slots Q nL D ad N A G pc lv (.int y :: .int x :: st) := fun H locs ls hP hS h => lv_icmp_ne C.1.1 C.1.2.1 hdg ht (fun q => kt q H locs ls hP hS h) (fun q => kf q H locs ls hP hS h)
theorem k_icmp_lt (C : kC p s args m meth c cc ret own nL Ts D tys ad N A) {x y : Int32} {off : Int} (tgt : Nat) (hdg : decode cc pc = .ok (.if_icmp .lt off, 3)) (ht : (pc : Int) + off = (tgt : Int)) (kt : x < y → kJ p l e R s m args below meth c cells slots Q nL D ad N A G tgt lv st) (kf : ¬ x < y → kJ p l e R s m args below meth c cells slots Q nL D ad N A G (pc + 3) lv st) : kJ p l e R s m args below meth c cells slots Q nL D ad N A G pc lv (.int y :: .int x :: st) := fun H locs ls hP hS h => lv_icmp_lt C.1.1 C.1.2.1 hdg ht (fun q => kt q H locs ls hP hS h) (fun q => kf q H locs ls hP hS h)
theorem k_icmp_ge (C : kC p s args m meth c cc ret own nL Ts D tys ad N A) {x y : Int32} {off : Int} (tgt : Nat) (hdg : decode cc pc = .ok (.if_icmp .ge off, 3)) (ht : (pc : Int) + off = (tgt : Int)) (kt : y ≤ x → kJ p l e R s m args below meth c cells slots Q nL D ad N A G tgt lv st) (kf : ¬ y ≤ x → kJ p l e R s m args below meth c cells slots Q nL D ad N A G (pc + 3) lv st) : kJ p l e R s m args below meth c cells slots Q nL D ad N A G pc lv (.int y :: .int x :: st) := fun H locs ls hP hS h => lv_icmp_ge C.1.1 C.1.2.1 hdg ht (fun q => kt q H locs ls hP hS h) (fun q => kf q H locs ls hP hS h)
theorem k_icmp_gt (C : kC p s args m meth c cc ret own nL Ts D tys ad N A) {x y : Int32} {off : Int} (tgt : Nat) (hdg : decode cc pc = .ok (.if_icmp .gt off, 3)) (ht : (pc : Int) + off = (tgt : Int)) (kt : y < x → kJ p l e R s m args below meth c cells slots Q nL D ad N A G tgt lv st) (kf : ¬ y < x → kJ p l e R s m args below meth c cells slots Q nL D ad N A G (pc + 3) lv st) : kJ p l e R s m args below meth c cells slots Q nL D ad N A G pc lv (.int y :: .int x :: st) := fun H locs ls hP hS h => lv_icmp_gt C.1.1 C.1.2.1 hdg ht (fun q => kt q H locs ls hP hS h) (fun q => kf q H locs ls hP hS h)
theorem k_icmp_le (C : kC p s args m meth c cc ret own nL Ts D tys ad N A) {x y : Int32} {off : Int} (tgt : Nat) (hdg : decode cc pc = .ok (.if_icmp .le off, 3)) (ht : (pc : Int) + off = (tgt : Int)) (kt : x ≤ y → kJ p l e R s m args below meth c cells slots Q nL D ad N A G tgt lv st) (kf : ¬ x ≤ y → kJ p l e R s m args below meth c cells slots Q nL D ad N A G (pc + 3) lv st) : kJ p l e R s m args below meth c cells slots Q nL D ad N A G pc lv (.int y :: .int x :: st) := fun H locs ls hP hS h => lv_icmp_le C.1.1 C.1.2.1 hdg ht (fun q => kt q H locs ls hP hS h) (fun q => kf q H locs ls hP hS h)
theorem k_goto (C : kC p s args m meth c cc ret own nL Ts D tys ad N A) {off : Int} (tgt : Nat) (hdg : decode cc pc = .ok (.goto off, 3)) (ht : (pc : Int) + off = (tgt : Int)) (kk : kJ p l e R s m args below meth c cells slots Q nL D ad N A G tgt lv st) : kJ p l e R s m args below meth c cells slots Q nL D ad N A G pc lv st := fun H locs ls hP hS h => lv_goto C.1.1 C.1.2.1 hdg ht (kk H locs ls hP hS h)
theorem k_tableOut (C : kC p s args m meth c cc ret own nL Ts D tys ad N A) {dflt lo hi : Int} {offs : Array Int} {len : Nat} {x : Int32} (tgt : Nat) (hdg : decode cc pc = .ok (.tableswitch dflt lo hi offs, len)) (hx : x.toInt < lo ∨ hi < x.toInt) (ht : (pc : Int) + dflt = (tgt : Int)) (kk : kJ p l e R s m args below meth c cells slots Q nL D ad N A G tgt lv st) : kJ p l e R s m args below meth c cells slots Q nL D ad N A G pc lv (.int x :: st) := fun H locs ls hP hS h => lv_tableOut C.1.1 C.1.2.1 hdg hx ht (kk H locs ls hP hS h)
theorem k_tableIn (C : kC p s args m meth c cc ret own nL Ts D tys ad N A) {dflt lo hi : Int} {offs : Array Int} {len : Nat} {x : Int32} {off : Int} (tgt : Nat) (hdg : decode cc pc = .ok (.tableswitch dflt lo hi offs, len)) (h1 : ¬ x.toInt < lo) (h2 : ¬ hi < x.toInt) (ho : offs[(x.toInt - lo).toNat]? = some off) (ht : (pc : Int) + off = (tgt : Int)) (kk : kJ p l e R s m args below meth c cells slots Q nL D ad N A G tgt lv st) : kJ p l e R s m args below meth c cells slots Q nL D ad N A G pc lv (.int x :: st) := fun H locs ls hP hS h => lv_tableIn C.1.1 C.1.2.1 hdg h1 h2 ho ht (kk H locs ls hP hS h)
theorem k_ifnull (C : kC p s args m meth c cc ret own nL Ts D tys ad N A) {x : Nat} {off : Int} (hdg : decode cc pc = .ok (.ifnull off, 3)) (kk : kJ p l e R s m args below meth c cells slots Q nL D ad N A G (pc + 3) lv st) : kJ p l e R s m args below meth c cells slots Q nL D ad N A G pc lv (.ref x :: st) := fun H locs ls hP hS h => lv_ifnull C.1.1 C.1.2.1 hdg (kk H locs ls hP hS h)
theorem k_ifnullN (C : kC p s args m meth c cc ret own nL Ts D tys ad N A) {off : Int} (tgt : Nat) (hdg : decode cc pc = .ok (.ifnull off, 3)) (ht : (pc : Int) + off = (tgt : Int)) (kk : kJ p l e R s m args below meth c cells slots Q nL D ad N A G tgt lv st) : kJ p l e R s m args below meth c cells slots Q nL D ad N A G pc lv (.null :: st) := fun H locs ls hP hS h => lv_ifnullN C.1.1 C.1.2.1 hdg ht (kk H locs ls hP hS h)
theorem k_get (C : kC p s args m meth c cc ret own nL Ts D tys ad N A) {ref Cn : String} {T : u_T} {Nf ci index : Nat} {fs : List Value} {v : Value} (i : Nat) (hin : ∀ w ∈ u_ws Cn T Nf, w ∈ Ts) (hi : i < N) (hG : G i = .inr (ci, fs)) (hc : vwCl[ci]? = some (Cn, T, Nf)) (k : Nat) (hk : k < Nf) (hlink : Cond.fieldLink own index ref (T k).2.1 (T k).2.2.1 ∈ Ts) (href : (T k).1 = ref) (hv : fs[k]? = some v) (hdg : decode cc pc = .ok (.getfield index, 3)) (kk : kJ p l e R s m args below meth c cells slots Q nL D ad N A G (pc + 3) lv (v :: st)) : kJ p l e R s m args below meth c cells slots Q nL D ad N A G pc lv (.ref (ad i) :: st) := fun H locs ls hP hS h =>
  va_get C.1.1 C.1.2.1 C.2.2.1 hin C.2.1 C.2.2.2.1 hP i (by rw [pw_get hi, hG]) hc k hk (C.2.2.1 _ hlink) (fun _ h9 => by rw [← href]; exact h9) hv hdg (kk H locs ls hP hS h)
theorem k_put (C : kC p s args m meth c cc ret own nL Ts D tys ad N A) {ref Cn : String} {T : u_T} {Nf ci index : Nat} {fs : List Value} {v : Value} (i : Nat) (hin : ∀ w ∈ u_ws Cn T Nf, w ∈ Ts) (ty0 : Nat → FieldType) (hty : ∀ k, k < Nf → parseFieldDescriptor (T k).2.2.1 = some (ty0 k)) (hnm : ∀ a, a < Nf → ∀ b, b < Nf → a ≠ b → (T a).2.1 ≠ (T b).2.1) (hi : i < N) (hG : G i = .inr (ci, fs)) (hc : vwCl[ci]? = some (Cn, T, Nf)) (k : Nat) (hk : k < Nf) (hlink : Cond.fieldLink own index ref (T k).2.1 (T k).2.2.1 ∈ Ts) (href : (T k).1 = ref) (hfin : (T k).2.2.2 = false) (hn : narrow (ty0 k) v = v) (hfit : fits (ty0 k) v = true) (hl : k < fs.length) (hdg : decode cc pc = .ok (.putfield index, 3))
    (kk : ∀ G', G' = va_up G i (.inr (ci, fs.set k v)) → kJ p l e R s m args below meth c cells slots Q nL D ad N A G' (pc + 3) lv st) : kJ p l e R s m args below meth c cells slots Q nL D ad N A G pc lv (v :: .ref (ad i) :: st) := fun H locs ls hP hS h =>
  va_put C.1.1 C.1.2.1 C.2.2.1 hin ty0 hty hnm C.2.1 C.2.2.2.1 hP (pw_D G C.2.2.2.2.1) hS i (by rw [pw_get hi, hG]) hc k hk (C.2.2.1 _ hlink) (fun _ h9 => by rw [← href]; exact h9) hfin (hty k hk) hn hfit hl hdg
    (fun H1 locs1 hP1 _ hS1 => kk _ rfl H1 locs1 ls (by rw [pw_set hi] at hP1; exact hP1) hS1 h)
theorem k_putF (C : kC p s args m meth c cc ret own nL Ts D tys ad N A) {ref Cn : String} {T : u_T} {Nf ci index : Nat} {fs : List Value} {v : Value} (i : Nat) (hin : ∀ w ∈ u_ws Cn T Nf, w ∈ Ts) (ty0 : Nat → FieldType) (hty : ∀ k, k < Nf → parseFieldDescriptor (T k).2.2.1 = some (ty0 k)) (hnm : ∀ a, a < Nf → ∀ b, b < Nf → a ≠ b → (T a).2.1 ≠ (T b).2.1) (hi : i < N) (hG : G i = .inr (ci, fs)) (hc : vwCl[ci]? = some (Cn, T, Nf)) (k : Nat) (hk : k < Nf) (hlink : Cond.fieldLink own index ref (T k).2.1 (T k).2.2.1 ∈ Ts) (href : (T k).1 = ref) (hfin : (T k).2.2.2 = true) (hin2 : meth.name = "<init>") (hdecl : (T k).1 = own) (hn : narrow (ty0 k) v = v) (hfit : fits (ty0 k) v = true) (hl : k < fs.length) (hdg : decode cc pc = .ok (.putfield index, 3))
    (kk : ∀ G', G' = va_up G i (.inr (ci, fs.set k v)) → kJ p l e R s m args below meth c cells slots Q nL D ad N A G' (pc + 3) lv st) : kJ p l e R s m args below meth c cells slots Q nL D ad N A G pc lv (v :: .ref (ad i) :: st) := fun H locs ls hP hS h =>
  va_putF C.1.1 C.1.2.1 C.2.2.1 hin ty0 hty hnm C.2.1 C.2.2.2.1 hP (pw_D G C.2.2.2.2.1) hS i (by rw [pw_get hi, hG]) hc k hk (C.2.2.1 _ hlink) (fun _ h9 => by rw [← href]; exact h9) hfin hin2 hdecl (hty k hk) hn hfit hl hdg
    (fun H1 locs1 hP1 _ hS1 => kk _ rfl H1 locs1 ls (by rw [pw_set hi] at hP1; exact hP1) hS1 h)
theorem k_iald (C : kC p s args m meth c cc ret own nL Ts D tys ad N A) {cA : ClassId} {n : Nat} {f : Nat → Int32} {i : Int32} (j t0 : Nat) (hj : j < N) (hG : G j = .inl (cA, n, .inl f)) (ht : tys[t0]? = some (cA, .int)) (hin : vp_in i n) (hdg : decode cc pc = .ok (.iaload, 1)) (kk : kJ p l e R s m args below meth c cells slots Q nL D ad N A G (pc + 1) lv (.int (f i.toNatClampNeg) :: st)) : kJ p l e R s m args below meth c cells slots Q nL D ad N A G pc lv (.int i :: .ref (ad j) :: st) := fun H locs ls hP hS h =>
  va_iald C.1.1 C.1.2.1 C.2.2.2.1 hP j t0 (by rw [pw_get hj, hG]) ht hin hdg (kk H locs ls hP hS h)
theorem k_cald (C : kC p s args m meth c cc ret own nL Ts D tys ad N A) {cA : ClassId} {n : Nat} {f : Nat → Int32} {i : Int32} (j t0 : Nat) (hj : j < N) (hG : G j = .inl (cA, n, .inl f)) (ht : tys[t0]? = some (cA, .char)) (hin : vp_in i n) (hdg : decode cc pc = .ok (.caload, 1)) (kk : kJ p l e R s m args below meth c cells slots Q nL D ad N A G (pc + 1) lv (.int (f i.toNatClampNeg) :: st)) : kJ p l e R s m args below meth c cells slots Q nL D ad N A G pc lv (.int i :: .ref (ad j) :: st) := fun H locs ls hP hS h =>
  va_cald C.1.1 C.1.2.1 C.2.2.2.1 hP j t0 (by rw [pw_get hj, hG]) ht hin hdg (kk H locs ls hP hS h)
theorem k_iast (C : kC p s args m meth c cc ret own nL Ts D tys ad N A) {cA : ClassId} {n : Nat} {f : Nat → Int32} {i x : Int32} (j t0 : Nat) (hj : j < N) (hG : G j = .inl (cA, n, .inl f)) (ht : tys[t0]? = some (cA, .int)) (hin : vp_in i n) (hdg : decode cc pc = .ok (.iastore, 1)) (kk : ∀ G', G' = va_up G j (.inl (cA, n, .inl (upd f i.toNatClampNeg x))) → kJ p l e R s m args below meth c cells slots Q nL D ad N A G' (pc + 1) lv st) : kJ p l e R s m args below meth c cells slots Q nL D ad N A G pc lv (.int x :: .int i :: .ref (ad j) :: st) := fun H locs ls hP hS h =>
  va_iast C.1.1 C.1.2.1 C.2.2.2.1 hP (pw_D G C.2.2.2.2.1) hS j t0 (by rw [pw_get hj, hG]) ht hin hdg (fun H1 locs1 hP1 _ hS1 => kk _ rfl H1 locs1 ls (by rw [pw_set hj] at hP1; exact hP1) hS1 h)
theorem k_cast (C : kC p s args m meth c cc ret own nL Ts D tys ad N A) {cA : ClassId} {n : Nat} {f : Nat → Int32} {i x : Int32} (j t0 : Nat) (hj : j < N) (hG : G j = .inl (cA, n, .inl f)) (ht : tys[t0]? = some (cA, .char)) (hin : vp_in i n) (hdg : decode cc pc = .ok (.castore, 1)) (kk : ∀ G', G' = va_up G j (.inl (cA, n, .inl (upd f i.toNatClampNeg (vp_nar .char x)))) → kJ p l e R s m args below meth c cells slots Q nL D ad N A G' (pc + 1) lv st) : kJ p l e R s m args below meth c cells slots Q nL D ad N A G pc lv (.int x :: .int i :: .ref (ad j) :: st) := fun H locs ls hP hS h =>
  va_cast C.1.1 C.1.2.1 C.2.2.2.1 hP (pw_D G C.2.2.2.2.1) hS j t0 (by rw [pw_get hj, hG]) ht hin hdg (fun H1 locs1 hP1 _ hS1 => kk _ rfl H1 locs1 ls (by rw [pw_set hj] at hP1; exact hP1) hS1 h)
theorem k_alen (C : kC p s args m meth c cc ret own nL Ts D tys ad N A) {cA : ClassId} {x : vp_A} {ty : FieldType} (j t0 : Nat) (hj : j < N) (hG : G j = .inl (cA, x)) (ht : tys[t0]? = some (cA, ty)) (hdg : decode cc pc = .ok (.arraylength, 1)) (kk : kJ p l e R s m args below meth c cells slots Q nL D ad N A G (pc + 1) lv (.int (nI x.1) :: st)) : kJ p l e R s m args below meth c cells slots Q nL D ad N A G pc lv (.ref (ad j) :: st) := fun H locs ls hP hS h =>
  va_alen C.1.1 C.1.2.1 C.2.2.2.1 hP j t0 (by rw [pw_get hj, hG]) ht (v := nI x.1) rfl hdg (kk H locs ls hP hS h)
theorem k_aldq (C : kC p s args m meth c cc ret own nL Ts D tys ad N A) {cA : ClassId} {Cn : String} {n : Nat} {f : Nat → Option Nat} {i : Int32} (j t0 : Nat) (hj : j < N) (hG : G j = .inl (cA, n, .inr (.inr (.inr (.inr f))))) (ht : tys[t0]? = some (cA, .object Cn)) (hin : vp_in i n) (hdg : decode cc pc = .ok (.aaload, 1)) (kk : kJ p l e R s m args below meth c cells slots Q nL D ad N A G (pc + 1) lv (va_rf (f i.toNatClampNeg) :: st)) : kJ p l e R s m args below meth c cells slots Q nL D ad N A G pc lv (.int i :: .ref (ad j) :: st) := fun H locs ls hP hS h =>
  va_aldq C.1.1 C.1.2.1 C.2.2.2.1 hP j t0 (by rw [pw_get hj, hG]) ht hin hdg (kk H locs ls hP hS h)
theorem k_mmin (C : kC p s args m meth c cc ret own nL Ts D tys ad N A) {index : Nat} {x y : Int32} (hlink : Cond.methodLink own index Lib.Math.min.name ∈ Ts) (hstat : Cond.static Lib.Math.min.name ∈ Ts) (hini : Cond.initialized "java/lang/Math" ∈ Ts) (hcode : Cond.code Lib.Math.min.name Lib.Math.min.code 2 (some .int) ∈ Ts) (hframes : 1 ≤ R.frames) (hlocals : (st.map fun v => v.category).sum + 13 ≤ R.locals) (hc : cells ≤ R.cells) (hs : slots ≤ R.slots) (hdg : decode cc pc = .ok (.invokestatic index, 3)) (kk : kJ p l e R s m args below meth c cells slots Q nL D ad N A G (pc + 3) lv (.int (if y < x then y else x) :: st)) : kJ p l e R s m args below meth c cells slots Q nL D ad N A G pc lv (.int y :: .int x :: st) := fun H locs ls hP hS h =>
  va_mmin C.1.1 C.1.2.1 (by rw [h.1]; exact C.1.2.2.2.1) C.2.1 (C.2.2.1 _ hlink) (C.2.2.1 _ hstat) (C.2.2.1 _ hini) (C.2.2.1 _ hcode) hframes hlocals hc hs hdg (kk H locs ls hP hS h)
theorem k_copyi (C : kC p s args m meth c cc ret own nL Ts D tys ad N A) {index : Nat} {c0 c1 : ClassId} {n0 n1 : Nat} {f g : Nat → Int32} {sp dp n : Int32} (j0 j1 t0 t1 : Nat) (hlink : Cond.methodLink own index arraycopyName ∈ Ts) (hnat : Cond.native arraycopyName ∈ Ts) (hstat : Cond.static arraycopyName ∈ Ts) (hini : Cond.initialized "java/lang/System" ∈ Ts) (hj0 : j0 < N) (hj1 : j1 < N) (hG0 : G j0 = .inl (c0, n0, .inl f)) (hG1 : G j1 = .inl (c1, n1, .inl g)) (ht0 : tys[t0]? = some (c0, .int)) (ht1 : tys[t1]? = some (c1, .int)) (h1 : ¬ sp < 0) (h2 : ¬ dp < 0) (h3 : ¬ n < 0) (h4 : sp.toNatClampNeg + n.toNatClampNeg ≤ n0) (h5 : dp.toNatClampNeg + n.toNatClampNeg ≤ n1) (hframes : 1 ≤ R.frames) (hlocals : (st.map fun v => v.category).sum + (nativeFrameWords "java/lang/System" "arraycopy" 5 + 11) ≤ R.locals) (hdg : decode cc pc = .ok (.invokestatic index, 3))
    (kk : ∀ G', G' = va_up G j1 (.inl (c1, n1, .inl (va_cpy f g sp.toNatClampNeg dp.toNatClampNeg n.toNatClampNeg))) → kJ p l e R s m args below meth c cells slots Q nL D ad N A G' (pc + 3) lv st) : kJ p l e R s m args below meth c cells slots Q nL D ad N A G pc lv (.int n :: .int dp :: .ref (ad j1) :: .int sp :: .ref (ad j0) :: st) := fun H locs ls hP hS h =>
  va_copyi C.1.1 C.1.2.1 (by rw [h.1]; exact C.1.2.2.2.1) C.2.1 (C.2.2.1 _ hlink) (C.2.2.1 _ hnat) (C.2.2.1 _ hstat) (C.2.2.1 _ hini) C.2.2.2.1 hP (pw_D G C.2.2.2.2.1) hS j0 j1 t0 t1 (by rw [pw_get hj0, hG0]) (by rw [pw_get hj1, hG1]) ht0 ht1 rfl h1 h2 h3 h4 h5 (fun _ _ => rfl) hframes hlocals hdg (fun H1 locs1 hP1 _ hS1 => kk _ rfl H1 locs1 ls (by rw [pw_set hj1] at hP1; exact hP1) hS1 h)
theorem k_sub {lv' : List (Nat × Value)} (ks : List Nat) (hl : lv_pick lv ks = lv') (kk : kJ p l e R s m args below meth c cells slots Q nL D ad N A G pc lv' st) : kJ p l e R s m args below meth c cells slots Q nL D ad N A G pc lv st := fun H locs ls hP hS h => kk H locs ls hP hS (lv_sub h ks hl)
def kA (ad : Nat → Nat) (N sz : Nat) : Nat → Prop := fun q => (∃ i, i < N ∧ q = ad i) ∨ sz ≤ q
def kB (D : va_G) (ad : Nat → Nat) (N : Nat) : (Nat → va_E) → State → Prop := fun G' t => va_P D vwCl (pw ad N G') t.heap
def kPc (D : va_G) (tys : List (ClassId × FieldType)) (ad : Nat → Nat) (N : Nat) (G : Nat → va_E) (sz : Nat) (av : List Value) : Array Value → State → Prop :=
  va_Pc av (fun U => U.heap.size = sz ∧ va_P D vwCl (pw ad N G) U.heap ∧ va_K D vwCl tys U ∧ va_D (fun _ => True) (pw ad N G))
theorem kPc_blind (sz : Nat) (av : List Value) : FrameBlind (kPc D tys ad N G sz av) := fun a U g mk q => by
  obtain ⟨q0, q1, qP, qK, qD⟩ := q
  exact ⟨q0, q1, qP, va_K.moved (u := U) (U := U.calling g mk a) (Vm.Alike.refl U.vm) qK, qD⟩
theorem kA_in {A : Nat → Prop} {s : State} {H : Heap} {locs : List Loc} (hD : va_D A (pw ad N G)) (hA : ∀ q, s.heap.size ≤ q → A q) (hS : va_S A s.heap H locs) : ∀ q, kA ad N H.size q → A q := by
  intro q h
  rcases h with ⟨i, hi, rfl⟩ | h
  · exact hD.2 i _ (pw_get hi)
  · exact hA q (Nat.le_trans hS.1 h)
/-- a method's contract over the pool, an int answered; of a long, a double, nothing; of a cell of the pool -/
def kMi (l : Launch) (y : MethodName) (ws : List Cond) (rm : Room) (D : va_G) (tys : List (ClassId × FieldType)) (ad : Nat → Nat) (N : Nat) (G : Nat → va_E) (av : List Value) (post : Int32 → (Nat → va_E) → Prop) : Prop :=
  ∀ sz, Met l y ws rm (kPc D tys ad N G sz av) (va_Qi post (kB D ad N) (kA ad N sz)) 0 0 (kA ad N sz)
def kMl (l : Launch) (y : MethodName) (ws : List Cond) (rm : Room) (D : va_G) (tys : List (ClassId × FieldType)) (ad : Nat → Nat) (N : Nat) (G : Nat → va_E) (av : List Value) (post : Int64 → (Nat → va_E) → Prop) : Prop :=
  ∀ sz, Met l y ws rm (kPc D tys ad N G sz av) (va_Ql post (kB D ad N) (kA ad N sz)) 0 0 (kA ad N sz)
def kMd (l : Launch) (y : MethodName) (ws : List Cond) (rm : Room) (D : va_G) (tys : List (ClassId × FieldType)) (ad : Nat → Nat) (N : Nat) (G : Nat → va_E) (av : List Value) (post : UInt64 → (Nat → va_E) → Prop) : Prop :=
  ∀ sz, Met l y ws rm (kPc D tys ad N G sz av) (va_Qd post (kB D ad N) (kA ad N sz)) 0 0 (kA ad N sz)
def kMv (l : Launch) (y : MethodName) (ws : List Cond) (rm : Room) (D : va_G) (tys : List (ClassId × FieldType)) (ad : Nat → Nat) (N : Nat) (G : Nat → va_E) (av : List Value) (post : (Nat → va_E) → Prop) : Prop :=
  ∀ sz, Met l y ws rm (kPc D tys ad N G sz av) (va_Qv post (kB D ad N) (kA ad N sz)) 0 0 (kA ad N sz)
def kMq (l : Launch) (y : MethodName) (ws : List Cond) (rm : Room) (D : va_G) (tys : List (ClassId × FieldType)) (ad : Nat → Nat) (N : Nat) (G : Nat → va_E) (av : List Value) (post : Option Nat → (Nat → va_E) → Prop) : Prop :=
  ∀ sz, Met l y ws rm (kPc D tys ad N G sz av) (va_Qq post (kB D ad N) (kA ad N sz)) 0 0 (kA ad N sz)

theorem k_starti {y : MethodName} {ws ws' : List Cond} {rm : Room} {maxL : Nat} {av : List Value} {lv0 : List (Nat × Value)} {post : Int32 → (Nat → va_E) → Prop} (hy : plainName y.cls = true) (hw : ws = Cond.code y cc maxL ret :: ws') (hlen : (lg_sl av).length ≤ maxL) (hlv : lv_args 0 av = lv0)
    (body : ∀ (p : Program) (e : Env) (s : State) (m : MethodId) (args : Array Value) (below : List Frame) (meth : Method) (c : Code) (A : Nat → Prop) (Q : State → Prop), kC p s args m meth c cc ret y.cls maxL ws D tys ad N A → Q = MQ below (va_Qi post (kB D ad N) A) args s 0 0 A → kJ p l e rm s m args below meth c 0 0 Q maxL D ad N A G 0 lv0 []) : kMi l y ws rm D tys ad N G av post := by
  intro sz
  refine Met.ofW (cc := cc) (maxL := maxL) (ret := ret) hy hw ?_
  intro p e s m args below meth c s₁ B hml hv
  obtain ⟨rfl, hsz, hP, hK, hD0⟩ := hv
  have hts := atoms_spec (ws := ws) B.pre
  have hown : s.vm.findClass y.cls = some m.cls := findClass_of_methodNamed B.named
  subst hsz
  have hD : va_D (kA ad N s.heap.size) (pw ad N G) := ⟨hD0.1, fun k q hk => by obtain ⟨h1, rfl⟩ := pw_of hk; exact Or.inl ⟨k, h1, rfl⟩⟩
  have hl := lv_entry av (n := maxL) hlen
  rw [lg_entry_eq]
  rw [hlv] at hl
  exact body p e s m _ below meth c (kA ad N s.heap.size) _ ⟨⟨B.exec, B.bytes, B.returns, hml, B.notSynchronized⟩, hown, hts, hK, pw_D _ hD, fun q h => Or.inr h, rfl⟩ rfl _ _ _ hP va_S.rf hl
theorem k_startl {y : MethodName} {ws ws' : List Cond} {rm : Room} {maxL : Nat} {av : List Value} {lv0 : List (Nat × Value)} {post : Int64 → (Nat → va_E) → Prop} (hy : plainName y.cls = true) (hw : ws = Cond.code y cc maxL ret :: ws') (hlen : (lg_sl av).length ≤ maxL) (hlv : lv_args 0 av = lv0)
    (body : ∀ (p : Program) (e : Env) (s : State) (m : MethodId) (args : Array Value) (below : List Frame) (meth : Method) (c : Code) (A : Nat → Prop) (Q : State → Prop), kC p s args m meth c cc ret y.cls maxL ws D tys ad N A → Q = MQ below (va_Ql post (kB D ad N) A) args s 0 0 A → kJ p l e rm s m args below meth c 0 0 Q maxL D ad N A G 0 lv0 []) : kMl l y ws rm D tys ad N G av post := by
  intro sz
  refine Met.ofW (cc := cc) (maxL := maxL) (ret := ret) hy hw ?_
  intro p e s m args below meth c s₁ B hml hv
  obtain ⟨rfl, hsz, hP, hK, hD0⟩ := hv
  have hts := atoms_spec (ws := ws) B.pre
  have hown : s.vm.findClass y.cls = some m.cls := findClass_of_methodNamed B.named
  subst hsz
  have hD : va_D (kA ad N s.heap.size) (pw ad N G) := ⟨hD0.1, fun k q hk => by obtain ⟨h1, rfl⟩ := pw_of hk; exact Or.inl ⟨k, h1, rfl⟩⟩
  have hl := lv_entry av (n := maxL) hlen
  rw [lg_entry_eq]
  rw [hlv] at hl
  exact body p e s m _ below meth c (kA ad N s.heap.size) _ ⟨⟨B.exec, B.bytes, B.returns, hml, B.notSynchronized⟩, hown, hts, hK, pw_D _ hD, fun q h => Or.inr h, rfl⟩ rfl _ _ _ hP va_S.rf hl
theorem k_startd {y : MethodName} {ws ws' : List Cond} {rm : Room} {maxL : Nat} {av : List Value} {lv0 : List (Nat × Value)} {post : UInt64 → (Nat → va_E) → Prop} (hy : plainName y.cls = true) (hw : ws = Cond.code y cc maxL ret :: ws') (hlen : (lg_sl av).length ≤ maxL) (hlv : lv_args 0 av = lv0)
    (body : ∀ (p : Program) (e : Env) (s : State) (m : MethodId) (args : Array Value) (below : List Frame) (meth : Method) (c : Code) (A : Nat → Prop) (Q : State → Prop), kC p s args m meth c cc ret y.cls maxL ws D tys ad N A → Q = MQ below (va_Qd post (kB D ad N) A) args s 0 0 A → kJ p l e rm s m args below meth c 0 0 Q maxL D ad N A G 0 lv0 []) : kMd l y ws rm D tys ad N G av post := by
  intro sz
  refine Met.ofW (cc := cc) (maxL := maxL) (ret := ret) hy hw ?_
  intro p e s m args below meth c s₁ B hml hv
  obtain ⟨rfl, hsz, hP, hK, hD0⟩ := hv
  have hts := atoms_spec (ws := ws) B.pre
  have hown : s.vm.findClass y.cls = some m.cls := findClass_of_methodNamed B.named
  subst hsz
  have hD : va_D (kA ad N s.heap.size) (pw ad N G) := ⟨hD0.1, fun k q hk => by obtain ⟨h1, rfl⟩ := pw_of hk; exact Or.inl ⟨k, h1, rfl⟩⟩
  have hl := lv_entry av (n := maxL) hlen
  rw [lg_entry_eq]
  rw [hlv] at hl
  exact body p e s m _ below meth c (kA ad N s.heap.size) _ ⟨⟨B.exec, B.bytes, B.returns, hml, B.notSynchronized⟩, hown, hts, hK, pw_D _ hD, fun q h => Or.inr h, rfl⟩ rfl _ _ _ hP va_S.rf hl
theorem k_startv {y : MethodName} {ws ws' : List Cond} {rm : Room} {maxL : Nat} {av : List Value} {lv0 : List (Nat × Value)} {post : (Nat → va_E) → Prop} (hy : plainName y.cls = true) (hw : ws = Cond.code y cc maxL ret :: ws') (hlen : (lg_sl av).length ≤ maxL) (hlv : lv_args 0 av = lv0)
    (body : ∀ (p : Program) (e : Env) (s : State) (m : MethodId) (args : Array Value) (below : List Frame) (meth : Method) (c : Code) (A : Nat → Prop) (Q : State → Prop), kC p s args m meth c cc ret y.cls maxL ws D tys ad N A → Q = MQ below (va_Qv post (kB D ad N) A) args s 0 0 A → kJ p l e rm s m args below meth c 0 0 Q maxL D ad N A G 0 lv0 []) : kMv l y ws rm D tys ad N G av post := by
  intro sz
  refine Met.ofW (cc := cc) (maxL := maxL) (ret := ret) hy hw ?_
  intro p e s m args below meth c s₁ B hml hv
  obtain ⟨rfl, hsz, hP, hK, hD0⟩ := hv
  have hts := atoms_spec (ws := ws) B.pre
  have hown : s.vm.findClass y.cls = some m.cls := findClass_of_methodNamed B.named
  subst hsz
  have hD : va_D (kA ad N s.heap.size) (pw ad N G) := ⟨hD0.1, fun k q hk => by obtain ⟨h1, rfl⟩ := pw_of hk; exact Or.inl ⟨k, h1, rfl⟩⟩
  have hl := lv_entry av (n := maxL) hlen
  rw [lg_entry_eq]
  rw [hlv] at hl
  exact body p e s m _ below meth c (kA ad N s.heap.size) _ ⟨⟨B.exec, B.bytes, B.returns, hml, B.notSynchronized⟩, hown, hts, hK, pw_D _ hD, fun q h => Or.inr h, rfl⟩ rfl _ _ _ hP va_S.rf hl
theorem k_startq {y : MethodName} {ws ws' : List Cond} {rm : Room} {maxL : Nat} {av : List Value} {lv0 : List (Nat × Value)} {post : Option Nat → (Nat → va_E) → Prop} (hy : plainName y.cls = true) (hw : ws = Cond.code y cc maxL ret :: ws') (hlen : (lg_sl av).length ≤ maxL) (hlv : lv_args 0 av = lv0)
    (body : ∀ (p : Program) (e : Env) (s : State) (m : MethodId) (args : Array Value) (below : List Frame) (meth : Method) (c : Code) (A : Nat → Prop) (Q : State → Prop), kC p s args m meth c cc ret y.cls maxL ws D tys ad N A → Q = MQ below (va_Qq post (kB D ad N) A) args s 0 0 A → kJ p l e rm s m args below meth c 0 0 Q maxL D ad N A G 0 lv0 []) : kMq l y ws rm D tys ad N G av post := by
  intro sz
  refine Met.ofW (cc := cc) (maxL := maxL) (ret := ret) hy hw ?_
  intro p e s m args below meth c s₁ B hml hv
  obtain ⟨rfl, hsz, hP, hK, hD0⟩ := hv
  have hts := atoms_spec (ws := ws) B.pre
  have hown : s.vm.findClass y.cls = some m.cls := findClass_of_methodNamed B.named
  subst hsz
  have hD : va_D (kA ad N s.heap.size) (pw ad N G) := ⟨hD0.1, fun k q hk => by obtain ⟨h1, rfl⟩ := pw_of hk; exact Or.inl ⟨k, h1, rfl⟩⟩
  have hl := lv_entry av (n := maxL) hlen
  rw [lg_entry_eq]
  rw [hlv] at hl
  exact body p e s m _ below meth c (kA ad N s.heap.size) _ ⟨⟨B.exec, B.bytes, B.returns, hml, B.notSynchronized⟩, hown, hts, hK, pw_D _ hD, fun q h => Or.inr h, rfl⟩ rfl _ _ _ hP va_S.rf hl
theorem k_iret (C : kC p s args m meth c cc ret own nL Ts D tys ad N A) {post : Int32 → (Nat → va_E) → Prop} {x : Int32} {ty : FieldType} (hQ : Q = MQ below (va_Qi post (kB D ad N) A) args s cells slots A) (hr : ret = some ty) (hn : narrow ty (.int x) = .int x) (hdg : decode cc pc = .ok (.ireturn, 1)) (hp : post x G) : kJ p l e R s m args below meth c cells slots Q nL D ad N A G pc lv [.int x] := by
  subst hQ
  exact fun H locs ls hP hS h => W.zret C.1.1 C.1.2.1 (by rw [C.1.2.2.1, hr]) hn (fun t ht hW => ⟨⟨x, G, rfl, hp, by rw [kB, ht]; exact hP⟩, hS.F ht⟩) hS.2.2 hdg C.1.2.2.2.2
theorem k_lret (C : kC p s args m meth c cc ret own nL Ts D tys ad N A) {post : Int64 → (Nat → va_E) → Prop} {x : Int64} (hQ : Q = MQ below (va_Ql post (kB D ad N) A) args s cells slots A) (hr : ret = some .long) (hdg : decode cc pc = .ok (.lreturn, 1)) (hp : post x G) : kJ p l e R s m args below meth c cells slots Q nL D ad N A G pc lv [.long x] := by
  subst hQ
  exact fun H locs ls hP hS h => W.lret C.1.1 C.1.2.1 (by rw [C.1.2.2.1, hr]) (fun t ht hW => ⟨⟨x, G, rfl, hp, by rw [kB, ht]; exact hP⟩, hS.F ht⟩) hS.2.2 hdg C.1.2.2.2.2
theorem k_dret (C : kC p s args m meth c cc ret own nL Ts D tys ad N A) {post : UInt64 → (Nat → va_E) → Prop} {x : UInt64} (hQ : Q = MQ below (va_Qd post (kB D ad N) A) args s cells slots A) (hr : ret = some .double) (hdg : decode cc pc = .ok (.dreturn, 1)) (hp : post x G) : kJ p l e R s m args below meth c cells slots Q nL D ad N A G pc lv [.double x] := by
  subst hQ
  exact fun H locs ls hP hS h => W.dret C.1.1 C.1.2.1 (by rw [C.1.2.2.1, hr]) (fun t ht hW => ⟨⟨x, G, rfl, hp, by rw [kB, ht]; exact hP⟩, hS.F ht⟩) hS.2.2 hdg C.1.2.2.2.2
theorem k_vret (C : kC p s args m meth c cc ret own nL Ts D tys ad N A) {post : (Nat → va_E) → Prop} (hQ : Q = MQ below (va_Qv post (kB D ad N) A) args s cells slots A) (hr : ret = none) (hdg : decode cc pc = .ok (.return_, 1)) (hp : post G) : kJ p l e R s m args below meth c cells slots Q nL D ad N A G pc lv [] := by
  subst hQ
  exact fun H locs ls hP hS h => W.vret C.1.1 C.1.2.1 (by rw [C.1.2.2.1, hr]) (fun t ht hW => ⟨⟨G, rfl, hp, by rw [kB, ht]; exact hP⟩, hS.F ht⟩) hS.2.2 hdg C.1.2.2.2.2
theorem k_aret (C : kC p s args m meth c cc ret own nL Ts D tys ad N A) {post : Option Nat → (Nat → va_E) → Prop} {n : String} {v : Value} (r : Option Nat) (hQ : Q = MQ below (va_Qq post (kB D ad N) A) args s cells slots A) (hv : va_rf r = v) (hr : ret = some (.object n)) (hdg : decode cc pc = .ok (.areturn, 1)) (hp : post r G) : kJ p l e R s m args below meth c cells slots Q nL D ad N A G pc lv [v] := by
  subst hQ
  subst hv
  exact fun H locs ls hP hS h => W.aret C.1.1 C.1.2.1 (by rw [C.1.2.2.1, hr]) (Or.inl ⟨n, rfl⟩) (by cases r with | none => exact Or.inl rfl | some a => exact Or.inr ⟨a, rfl⟩) (fun t ht hW => ⟨⟨r, G, rfl, hp, by rw [kB, ht]; exact hP⟩, hS.F ht⟩) hS.2.2 hdg C.1.2.2.2.2
theorem k_callVi (C : kC p s args m meth c cc ret own nL Ts D tys ad N A) {y : MethodName} {bytes : ByteArray} {maxL n index : Nat} {retY : Option FieldType} {wsY wsY' : List Cond} {rmY : Room} {As rest : List Value} {post : Int32 → (Nat → va_E) → Prop} {Cn : String} {Tq : u_T × Nat} {ci : Nat} {fs : List Value} (i : Nat) (hM : kMi l y wsY rmY D tys ad N G (.ref (ad i) :: As) post) (hT : GoodIn Ts (wsV own index Cn y wsY)) (hw : wsY = Cond.code y bytes maxL retY :: wsY') (hd : y.cls = Cn ∧ y.cls ≠ "java/lang/invoke/MethodHandle" ∧ y.cls ≠ "java/lang/invoke/VarHandle" ∧ (parseMethodDescriptor y.desc).map (fun d => d.parameters.length) = some n) (hrc : rmY.cells = 0) (hrs : rmY.slots = 0) (hR : rmY.frames + 1 ≤ R.frames ∧ 8 + (maxL + 11) + rmY.locals ≤ R.locals) (hi : i < N) (hG : G i = .inr (ci, fs)) (hcl : vwCl[ci]? = some (Cn, Tq)) (hn : As.length = n) (hst : st = As.reverse ++ .ref (ad i) :: rest) (hcat : (rest.map fun v => v.category).sum ≤ 8) (hf : cells ≤ R.cells ∧ slots ≤ R.slots) (hdg : decode cc pc = .ok (.invokevirtual index, 3))
    (kk : ∀ (r : Int32) (G' : Nat → va_E), post r G' → kJ p l e R s m args below meth c cells slots Q nL D ad N A G' (pc + 3) lv (.int r :: rest)) : kJ p l e R s m args below meth c cells slots Q nL D ad N A G pc lv st := fun H locs ls hP hS h => by
  subst hst
  have hD := pw_D G C.2.2.2.2.1
  have hin := kA_in (G := G) hD C.2.2.2.2.2.1 hS
  exact va_calli (va_runV (As := As) (rest := rest) ⟨C.1.1, C.1.2.1, C.1.2.2.2.1, C.2.1, C.2.2.1⟩ (hM H.size) (cwV n C.2.2.1 hT hw hrc hrs hd hR) ⟨kPc_blind _ _, va_recv C.2.2.2.1 hP (ci := ci) (q0 := i) hcl (by rw [pw_get hi, hG]), fun U hU hW => ⟨rfl, by rw [hU], by rw [hU]; exact hP, va_K.moved hW.alike C.2.2.2.1, hD.weaken (fun _ _ _ _ => trivial)⟩⟩ rfl hn h.1 rfl (lv_room hcat) hdg hf) hS (fun q _ z => hin q z) hin (fun r u t H1 locs1 ht hvm hw1 hB hz1 hk1 hS1 => kk r u hw1 H1 locs1 ls (by rw [kB, ht] at hB; exact hB) hS1 h)
theorem k_callSi (C : kC p s args m meth c cc ret own nL Ts D tys ad N A) {y : MethodName} {bytes : ByteArray} {maxL n index : Nat} {retY : Option FieldType} {wsY wsY' : List Cond} {rmY : Room} {As rest : List Value} {post : Int32 → (Nat → va_E) → Prop} (hM : kMi l y wsY rmY D tys ad N G As post) (hT : GoodIn Ts (va_wsS own index y wsY)) (hw : wsY = Cond.code y bytes maxL retY :: wsY') (hd : y.cls ≠ "java/lang/invoke/MethodHandle" ∧ y.cls ≠ "java/lang/invoke/VarHandle" ∧ (parseMethodDescriptor y.desc).map (fun d => d.parameters.length) = some n) (hrc : rmY.cells = 0) (hrs : rmY.slots = 0) (hR : rmY.frames + 1 ≤ R.frames ∧ 8 + (maxL + 11) + rmY.locals ≤ R.locals) (hn : As.length = n) (hst : st = As.reverse ++ rest) (hcat : (rest.map fun v => v.category).sum ≤ 8) (hf : cells ≤ R.cells ∧ slots ≤ R.slots) (hdg : decode cc pc = .ok (.invokestatic index, 3))
    (kk : ∀ (r : Int32) (G' : Nat → va_E), post r G' → kJ p l e R s m args below meth c cells slots Q nL D ad N A G' (pc + 3) lv (.int r :: rest)) : kJ p l e R s m args below meth c cells slots Q nL D ad N A G pc lv st := fun H locs ls hP hS h => by
  subst hst
  have hD := pw_D G C.2.2.2.2.1
  have hin := kA_in (G := G) hD C.2.2.2.2.2.1 hS
  exact va_calli (va_runS (As := As) (rest := rest) ⟨C.1.1, C.1.2.1, C.1.2.2.2.1, C.2.1, C.2.2.1⟩ (hM H.size) (va_cwS n C.2.2.1 hT hw hrc hrs hd hR) ⟨kPc_blind _ _, fun U hU hW => ⟨rfl, by rw [hU], by rw [hU]; exact hP, va_K.moved hW.alike C.2.2.2.1, hD.weaken (fun _ _ _ _ => trivial)⟩⟩ rfl hn h.1 rfl (lv_room hcat) hdg hf) hS (fun q _ z => hin q z) hin (fun r u t H1 locs1 ht hvm hw1 hB hz1 hk1 hS1 => kk r u hw1 H1 locs1 ls (by rw [kB, ht] at hB; exact hB) hS1 h)
theorem k_callVl (C : kC p s args m meth c cc ret own nL Ts D tys ad N A) {y : MethodName} {bytes : ByteArray} {maxL n index : Nat} {retY : Option FieldType} {wsY wsY' : List Cond} {rmY : Room} {As rest : List Value} {post : Int64 → (Nat → va_E) → Prop} {Cn : String} {Tq : u_T × Nat} {ci : Nat} {fs : List Value} (i : Nat) (hM : kMl l y wsY rmY D tys ad N G (.ref (ad i) :: As) post) (hT : GoodIn Ts (wsV own index Cn y wsY)) (hw : wsY = Cond.code y bytes maxL retY :: wsY') (hd : y.cls = Cn ∧ y.cls ≠ "java/lang/invoke/MethodHandle" ∧ y.cls ≠ "java/lang/invoke/VarHandle" ∧ (parseMethodDescriptor y.desc).map (fun d => d.parameters.length) = some n) (hrc : rmY.cells = 0) (hrs : rmY.slots = 0) (hR : rmY.frames + 1 ≤ R.frames ∧ 8 + (maxL + 11) + rmY.locals ≤ R.locals) (hi : i < N) (hG : G i = .inr (ci, fs)) (hcl : vwCl[ci]? = some (Cn, Tq)) (hn : As.length = n) (hst : st = As.reverse ++ .ref (ad i) :: rest) (hcat : (rest.map fun v => v.category).sum ≤ 8) (hf : cells ≤ R.cells ∧ slots ≤ R.slots) (hdg : decode cc pc = .ok (.invokevirtual index, 3))
    (kk : ∀ (r : Int64) (G' : Nat → va_E), post r G' → kJ p l e R s m args below meth c cells slots Q nL D ad N A G' (pc + 3) lv (.long r :: rest)) : kJ p l e R s m args below meth c cells slots Q nL D ad N A G pc lv st := fun H locs ls hP hS h => by
  subst hst
  have hD := pw_D G C.2.2.2.2.1
  have hin := kA_in (G := G) hD C.2.2.2.2.2.1 hS
  exact va_calll (va_runV (As := As) (rest := rest) ⟨C.1.1, C.1.2.1, C.1.2.2.2.1, C.2.1, C.2.2.1⟩ (hM H.size) (cwV n C.2.2.1 hT hw hrc hrs hd hR) ⟨kPc_blind _ _, va_recv C.2.2.2.1 hP (ci := ci) (q0 := i) hcl (by rw [pw_get hi, hG]), fun U hU hW => ⟨rfl, by rw [hU], by rw [hU]; exact hP, va_K.moved hW.alike C.2.2.2.1, hD.weaken (fun _ _ _ _ => trivial)⟩⟩ rfl hn h.1 rfl (lv_room hcat) hdg hf) hS (fun q _ z => hin q z) hin (fun r u t H1 locs1 ht hvm hw1 hB hz1 hk1 hS1 => kk r u hw1 H1 locs1 ls (by rw [kB, ht] at hB; exact hB) hS1 h)
theorem k_callSl (C : kC p s args m meth c cc ret own nL Ts D tys ad N A) {y : MethodName} {bytes : ByteArray} {maxL n index : Nat} {retY : Option FieldType} {wsY wsY' : List Cond} {rmY : Room} {As rest : List Value} {post : Int64 → (Nat → va_E) → Prop} (hM : kMl l y wsY rmY D tys ad N G As post) (hT : GoodIn Ts (va_wsS own index y wsY)) (hw : wsY = Cond.code y bytes maxL retY :: wsY') (hd : y.cls ≠ "java/lang/invoke/MethodHandle" ∧ y.cls ≠ "java/lang/invoke/VarHandle" ∧ (parseMethodDescriptor y.desc).map (fun d => d.parameters.length) = some n) (hrc : rmY.cells = 0) (hrs : rmY.slots = 0) (hR : rmY.frames + 1 ≤ R.frames ∧ 8 + (maxL + 11) + rmY.locals ≤ R.locals) (hn : As.length = n) (hst : st = As.reverse ++ rest) (hcat : (rest.map fun v => v.category).sum ≤ 8) (hf : cells ≤ R.cells ∧ slots ≤ R.slots) (hdg : decode cc pc = .ok (.invokestatic index, 3))
    (kk : ∀ (r : Int64) (G' : Nat → va_E), post r G' → kJ p l e R s m args below meth c cells slots Q nL D ad N A G' (pc + 3) lv (.long r :: rest)) : kJ p l e R s m args below meth c cells slots Q nL D ad N A G pc lv st := fun H locs ls hP hS h => by
  subst hst
  have hD := pw_D G C.2.2.2.2.1
  have hin := kA_in (G := G) hD C.2.2.2.2.2.1 hS
  exact va_calll (va_runS (As := As) (rest := rest) ⟨C.1.1, C.1.2.1, C.1.2.2.2.1, C.2.1, C.2.2.1⟩ (hM H.size) (va_cwS n C.2.2.1 hT hw hrc hrs hd hR) ⟨kPc_blind _ _, fun U hU hW => ⟨rfl, by rw [hU], by rw [hU]; exact hP, va_K.moved hW.alike C.2.2.2.1, hD.weaken (fun _ _ _ _ => trivial)⟩⟩ rfl hn h.1 rfl (lv_room hcat) hdg hf) hS (fun q _ z => hin q z) hin (fun r u t H1 locs1 ht hvm hw1 hB hz1 hk1 hS1 => kk r u hw1 H1 locs1 ls (by rw [kB, ht] at hB; exact hB) hS1 h)
theorem k_callVd (C : kC p s args m meth c cc ret own nL Ts D tys ad N A) {y : MethodName} {bytes : ByteArray} {maxL n index : Nat} {retY : Option FieldType} {wsY wsY' : List Cond} {rmY : Room} {As rest : List Value} {post : UInt64 → (Nat → va_E) → Prop} {Cn : String} {Tq : u_T × Nat} {ci : Nat} {fs : List Value} (i : Nat) (hM : kMd l y wsY rmY D tys ad N G (.ref (ad i) :: As) post) (hT : GoodIn Ts (wsV own index Cn y wsY)) (hw : wsY = Cond.code y bytes maxL retY :: wsY') (hd : y.cls = Cn ∧ y.cls ≠ "java/lang/invoke/MethodHandle" ∧ y.cls ≠ "java/lang/invoke/VarHandle" ∧ (parseMethodDescriptor y.desc).map (fun d => d.parameters.length) = some n) (hrc : rmY.cells = 0) (hrs : rmY.slots = 0) (hR : rmY.frames + 1 ≤ R.frames ∧ 8 + (maxL + 11) + rmY.locals ≤ R.locals) (hi : i < N) (hG : G i = .inr (ci, fs)) (hcl : vwCl[ci]? = some (Cn, Tq)) (hn : As.length = n) (hst : st = As.reverse ++ .ref (ad i) :: rest) (hcat : (rest.map fun v => v.category).sum ≤ 8) (hf : cells ≤ R.cells ∧ slots ≤ R.slots) (hdg : decode cc pc = .ok (.invokevirtual index, 3))
    (kk : ∀ (r : UInt64) (G' : Nat → va_E), post r G' → kJ p l e R s m args below meth c cells slots Q nL D ad N A G' (pc + 3) lv (.double r :: rest)) : kJ p l e R s m args below meth c cells slots Q nL D ad N A G pc lv st := fun H locs ls hP hS h => by
  subst hst
  have hD := pw_D G C.2.2.2.2.1
  have hin := kA_in (G := G) hD C.2.2.2.2.2.1 hS
  exact va_calld (va_runV (As := As) (rest := rest) ⟨C.1.1, C.1.2.1, C.1.2.2.2.1, C.2.1, C.2.2.1⟩ (hM H.size) (cwV n C.2.2.1 hT hw hrc hrs hd hR) ⟨kPc_blind _ _, va_recv C.2.2.2.1 hP (ci := ci) (q0 := i) hcl (by rw [pw_get hi, hG]), fun U hU hW => ⟨rfl, by rw [hU], by rw [hU]; exact hP, va_K.moved hW.alike C.2.2.2.1, hD.weaken (fun _ _ _ _ => trivial)⟩⟩ rfl hn h.1 rfl (lv_room hcat) hdg hf) hS (fun q _ z => hin q z) hin (fun r u t H1 locs1 ht hvm hw1 hB hz1 hk1 hS1 => kk r u hw1 H1 locs1 ls (by rw [kB, ht] at hB; exact hB) hS1 h)
theorem k_callSd (C : kC p s args m meth c cc ret own nL Ts D tys ad N A) {y : MethodName} {bytes : ByteArray} {maxL n index : Nat} {retY : Option FieldType} {wsY wsY' : List Cond} {rmY : Room} {As rest : List Value} {post : UInt64 → (Nat → va_E) → Prop} (hM : kMd l y wsY rmY D tys ad N G As post) (hT : GoodIn Ts (va_wsS own index y wsY)) (hw : wsY = Cond.code y bytes maxL retY :: wsY') (hd : y.cls ≠ "java/lang/invoke/MethodHandle" ∧ y.cls ≠ "java/lang/invoke/VarHandle" ∧ (parseMethodDescriptor y.desc).map (fun d => d.parameters.length) = some n) (hrc : rmY.cells = 0) (hrs : rmY.slots = 0) (hR : rmY.frames + 1 ≤ R.frames ∧ 8 + (maxL + 11) + rmY.locals ≤ R.locals) (hn : As.length = n) (hst : st = As.reverse ++ rest) (hcat : (rest.map fun v => v.category).sum ≤ 8) (hf : cells ≤ R.cells ∧ slots ≤ R.slots) (hdg : decode cc pc = .ok (.invokestatic index, 3))
    (kk : ∀ (r : UInt64) (G' : Nat → va_E), post r G' → kJ p l e R s m args below meth c cells slots Q nL D ad N A G' (pc + 3) lv (.double r :: rest)) : kJ p l e R s m args below meth c cells slots Q nL D ad N A G pc lv st := fun H locs ls hP hS h => by
  subst hst
  have hD := pw_D G C.2.2.2.2.1
  have hin := kA_in (G := G) hD C.2.2.2.2.2.1 hS
  exact va_calld (va_runS (As := As) (rest := rest) ⟨C.1.1, C.1.2.1, C.1.2.2.2.1, C.2.1, C.2.2.1⟩ (hM H.size) (va_cwS n C.2.2.1 hT hw hrc hrs hd hR) ⟨kPc_blind _ _, fun U hU hW => ⟨rfl, by rw [hU], by rw [hU]; exact hP, va_K.moved hW.alike C.2.2.2.1, hD.weaken (fun _ _ _ _ => trivial)⟩⟩ rfl hn h.1 rfl (lv_room hcat) hdg hf) hS (fun q _ z => hin q z) hin (fun r u t H1 locs1 ht hvm hw1 hB hz1 hk1 hS1 => kk r u hw1 H1 locs1 ls (by rw [kB, ht] at hB; exact hB) hS1 h)
theorem k_callVv (C : kC p s args m meth c cc ret own nL Ts D tys ad N A) {y : MethodName} {bytes : ByteArray} {maxL n index : Nat} {retY : Option FieldType} {wsY wsY' : List Cond} {rmY : Room} {As rest : List Value} {post : (Nat → va_E) → Prop} {Cn : String} {Tq : u_T × Nat} {ci : Nat} {fs : List Value} (i : Nat) (hM : kMv l y wsY rmY D tys ad N G (.ref (ad i) :: As) post) (hT : GoodIn Ts (wsV own index Cn y wsY)) (hw : wsY = Cond.code y bytes maxL retY :: wsY') (hd : y.cls = Cn ∧ y.cls ≠ "java/lang/invoke/MethodHandle" ∧ y.cls ≠ "java/lang/invoke/VarHandle" ∧ (parseMethodDescriptor y.desc).map (fun d => d.parameters.length) = some n) (hrc : rmY.cells = 0) (hrs : rmY.slots = 0) (hR : rmY.frames + 1 ≤ R.frames ∧ 8 + (maxL + 11) + rmY.locals ≤ R.locals) (hi : i < N) (hG : G i = .inr (ci, fs)) (hcl : vwCl[ci]? = some (Cn, Tq)) (hn : As.length = n) (hst : st = As.reverse ++ .ref (ad i) :: rest) (hcat : (rest.map fun v => v.category).sum ≤ 8) (hf : cells ≤ R.cells ∧ slots ≤ R.slots) (hdg : decode cc pc = .ok (.invokevirtual index, 3))
    (kk : ∀ G' : Nat → va_E, post G' → kJ p l e R s m args below meth c cells slots Q nL D ad N A G' (pc + 3) lv rest) : kJ p l e R s m args below meth c cells slots Q nL D ad N A G pc lv st := fun H locs ls hP hS h => by
  subst hst
  have hD := pw_D G C.2.2.2.2.1
  have hin := kA_in (G := G) hD C.2.2.2.2.2.1 hS
  exact va_callv (va_runV (As := As) (rest := rest) ⟨C.1.1, C.1.2.1, C.1.2.2.2.1, C.2.1, C.2.2.1⟩ (hM H.size) (cwV n C.2.2.1 hT hw hrc hrs hd hR) ⟨kPc_blind _ _, va_recv C.2.2.2.1 hP (ci := ci) (q0 := i) hcl (by rw [pw_get hi, hG]), fun U hU hW => ⟨rfl, by rw [hU], by rw [hU]; exact hP, va_K.moved hW.alike C.2.2.2.1, hD.weaken (fun _ _ _ _ => trivial)⟩⟩ rfl hn h.1 rfl (lv_room hcat) hdg hf) hS (fun q _ z => hin q z) hin (fun u t H1 locs1 ht hvm hw1 hB hz1 hk1 hS1 => kk u hw1 H1 locs1 ls (by rw [kB, ht] at hB; exact hB) hS1 h)
theorem k_callSv (C : kC p s args m meth c cc ret own nL Ts D tys ad N A) {y : MethodName} {bytes : ByteArray} {maxL n index : Nat} {retY : Option FieldType} {wsY wsY' : List Cond} {rmY : Room} {As rest : List Value} {post : (Nat → va_E) → Prop} (hM : kMv l y wsY rmY D tys ad N G As post) (hT : GoodIn Ts (va_wsS own index y wsY)) (hw : wsY = Cond.code y bytes maxL retY :: wsY') (hd : y.cls ≠ "java/lang/invoke/MethodHandle" ∧ y.cls ≠ "java/lang/invoke/VarHandle" ∧ (parseMethodDescriptor y.desc).map (fun d => d.parameters.length) = some n) (hrc : rmY.cells = 0) (hrs : rmY.slots = 0) (hR : rmY.frames + 1 ≤ R.frames ∧ 8 + (maxL + 11) + rmY.locals ≤ R.locals) (hn : As.length = n) (hst : st = As.reverse ++ rest) (hcat : (rest.map fun v => v.category).sum ≤ 8) (hf : cells ≤ R.cells ∧ slots ≤ R.slots) (hdg : decode cc pc = .ok (.invokestatic index, 3))
    (kk : ∀ G' : Nat → va_E, post G' → kJ p l e R s m args below meth c cells slots Q nL D ad N A G' (pc + 3) lv rest) : kJ p l e R s m args below meth c cells slots Q nL D ad N A G pc lv st := fun H locs ls hP hS h => by
  subst hst
  have hD := pw_D G C.2.2.2.2.1
  have hin := kA_in (G := G) hD C.2.2.2.2.2.1 hS
  exact va_callv (va_runS (As := As) (rest := rest) ⟨C.1.1, C.1.2.1, C.1.2.2.2.1, C.2.1, C.2.2.1⟩ (hM H.size) (va_cwS n C.2.2.1 hT hw hrc hrs hd hR) ⟨kPc_blind _ _, fun U hU hW => ⟨rfl, by rw [hU], by rw [hU]; exact hP, va_K.moved hW.alike C.2.2.2.1, hD.weaken (fun _ _ _ _ => trivial)⟩⟩ rfl hn h.1 rfl (lv_room hcat) hdg hf) hS (fun q _ z => hin q z) hin (fun u t H1 locs1 ht hvm hw1 hB hz1 hk1 hS1 => kk u hw1 H1 locs1 ls (by rw [kB, ht] at hB; exact hB) hS1 h)
theorem k_callVq (C : kC p s args m meth c cc ret own nL Ts D tys ad N A) {y : MethodName} {bytes : ByteArray} {maxL n index : Nat} {retY : Option FieldType} {wsY wsY' : List Cond} {rmY : Room} {As rest : List Value} {post : Option Nat → (Nat → va_E) → Prop} {Cn : String} {Tq : u_T × Nat} {ci : Nat} {fs : List Value} (i : Nat) (hM : kMq l y wsY rmY D tys ad N G (.ref (ad i) :: As) post) (hT : GoodIn Ts (wsV own index Cn y wsY)) (hw : wsY = Cond.code y bytes maxL retY :: wsY') (hd : y.cls = Cn ∧ y.cls ≠ "java/lang/invoke/MethodHandle" ∧ y.cls ≠ "java/lang/invoke/VarHandle" ∧ (parseMethodDescriptor y.desc).map (fun d => d.parameters.length) = some n) (hrc : rmY.cells = 0) (hrs : rmY.slots = 0) (hR : rmY.frames + 1 ≤ R.frames ∧ 8 + (maxL + 11) + rmY.locals ≤ R.locals) (hi : i < N) (hG : G i = .inr (ci, fs)) (hcl : vwCl[ci]? = some (Cn, Tq)) (hn : As.length = n) (hst : st = As.reverse ++ .ref (ad i) :: rest) (hcat : (rest.map fun v => v.category).sum ≤ 8) (hf : cells ≤ R.cells ∧ slots ≤ R.slots) (hdg : decode cc pc = .ok (.invokevirtual index, 3))
    (kk : ∀ (r : Option Nat) (G' : Nat → va_E), post r G' → kJ p l e R s m args below meth c cells slots Q nL D ad N A G' (pc + 3) lv (va_rf r :: rest)) : kJ p l e R s m args below meth c cells slots Q nL D ad N A G pc lv st := fun H locs ls hP hS h => by
  subst hst
  have hD := pw_D G C.2.2.2.2.1
  have hin := kA_in (G := G) hD C.2.2.2.2.2.1 hS
  exact va_callq (va_runV (As := As) (rest := rest) ⟨C.1.1, C.1.2.1, C.1.2.2.2.1, C.2.1, C.2.2.1⟩ (hM H.size) (cwV n C.2.2.1 hT hw hrc hrs hd hR) ⟨kPc_blind _ _, va_recv C.2.2.2.1 hP (ci := ci) (q0 := i) hcl (by rw [pw_get hi, hG]), fun U hU hW => ⟨rfl, by rw [hU], by rw [hU]; exact hP, va_K.moved hW.alike C.2.2.2.1, hD.weaken (fun _ _ _ _ => trivial)⟩⟩ rfl hn h.1 rfl (lv_room hcat) hdg hf) hS (fun q _ z => hin q z) hin (fun r u t H1 locs1 ht hvm hw1 hB hz1 hk1 hS1 => kk r u hw1 H1 locs1 ls (by rw [kB, ht] at hB; exact hB) hS1 h)
theorem k_callSq (C : kC p s args m meth c cc ret own nL Ts D tys ad N A) {y : MethodName} {bytes : ByteArray} {maxL n index : Nat} {retY : Option FieldType} {wsY wsY' : List Cond} {rmY : Room} {As rest : List Value} {post : Option Nat → (Nat → va_E) → Prop} (hM : kMq l y wsY rmY D tys ad N G As post) (hT : GoodIn Ts (va_wsS own index y wsY)) (hw : wsY = Cond.code y bytes maxL retY :: wsY') (hd : y.cls ≠ "java/lang/invoke/MethodHandle" ∧ y.cls ≠ "java/lang/invoke/VarHandle" ∧ (parseMethodDescriptor y.desc).map (fun d => d.parameters.length) = some n) (hrc : rmY.cells = 0) (hrs : rmY.slots = 0) (hR : rmY.frames + 1 ≤ R.frames ∧ 8 + (maxL + 11) + rmY.locals ≤ R.locals) (hn : As.length = n) (hst : st = As.reverse ++ rest) (hcat : (rest.map fun v => v.category).sum ≤ 8) (hf : cells ≤ R.cells ∧ slots ≤ R.slots) (hdg : decode cc pc = .ok (.invokestatic index, 3))
    (kk : ∀ (r : Option Nat) (G' : Nat → va_E), post r G' → kJ p l e R s m args below meth c cells slots Q nL D ad N A G' (pc + 3) lv (va_rf r :: rest)) : kJ p l e R s m args below meth c cells slots Q nL D ad N A G pc lv st := fun H locs ls hP hS h => by
  subst hst
  have hD := pw_D G C.2.2.2.2.1
  have hin := kA_in (G := G) hD C.2.2.2.2.2.1 hS
  exact va_callq (va_runS (As := As) (rest := rest) ⟨C.1.1, C.1.2.1, C.1.2.2.2.1, C.2.1, C.2.2.1⟩ (hM H.size) (va_cwS n C.2.2.1 hT hw hrc hrs hd hR) ⟨kPc_blind _ _, fun U hU hW => ⟨rfl, by rw [hU], by rw [hU]; exact hP, va_K.moved hW.alike C.2.2.2.1, hD.weaken (fun _ _ _ _ => trivial)⟩⟩ rfl hn h.1 rfl (lv_room hcat) hdg hf) hS (fun q _ z => hin q z) hin (fun r u t H1 locs1 ht hvm hw1 hB hz1 hk1 hS1 => kk r u hw1 H1 locs1 ls (by rw [kB, ht] at hB; exact hB) hS1 h)
end GK
end
