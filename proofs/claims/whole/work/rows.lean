section
-- ===== PART A: goes FIRST, ahead of the names: the tables' words, and 'selects' of the private methods out of them =====
/-- a private method of a class that the tables say can be made, by its rows of tables_1 -/
def lw_okq (q : MethodName × Nat) : Prop := (q.1.cls ≠ "java/lang/invoke/MethodHandle" ∧ q.1.cls ≠ "java/lang/invoke/VarHandle") ∧ Cond.instantiable q.1.cls q.2 ∈ tables_1 ∧ Cond.privateMethod q.1 ∈ tables_1 ∧ Cond.instanceMethod q.1 ∈ tables_1
theorem lw_p0 : lw_okq (⟨"BackFromBreakfast", "refuse", "(I)I"⟩, 10) := ⟨⟨by decide +kernel, by decide +kernel⟩, List.mem_of_getElem? (i := 10) (by decide +kernel), List.mem_of_getElem? (i := 123) (by decide +kernel), List.mem_of_getElem? (i := 124) (by decide +kernel)⟩
theorem lw_p1 : lw_okq (⟨"BackFromBreakfast", "think", "()V"⟩, 10) := ⟨⟨by decide +kernel, by decide +kernel⟩, List.mem_of_getElem? (i := 10) (by decide +kernel), List.mem_of_getElem? (i := 139) (by decide +kernel), List.mem_of_getElem? (i := 140) (by decide +kernel)⟩
theorem lw_p2 : lw_okq (⟨"BackFromBreakfast$Telling", "wrongLetter", "()I"⟩, 2) := ⟨⟨by decide +kernel, by decide +kernel⟩, List.mem_of_getElem? (i := 56) (by decide +kernel), List.mem_of_getElem? (i := 151) (by decide +kernel), List.mem_of_getElem? (i := 152) (by decide +kernel)⟩
theorem lw_p3 : lw_okq (⟨"BackFromBreakfast$Telling", "wrongInStatement", "(I)I"⟩, 2) := ⟨⟨by decide +kernel, by decide +kernel⟩, List.mem_of_getElem? (i := 56) (by decide +kernel), List.mem_of_getElem? (i := 155) (by decide +kernel), List.mem_of_getElem? (i := 156) (by decide +kernel)⟩
theorem lw_p4 : lw_okq (⟨"BackFromBreakfast$Telling", "letterAt", "(I)I"⟩, 2) := ⟨⟨by decide +kernel, by decide +kernel⟩, List.mem_of_getElem? (i := 56) (by decide +kernel), List.mem_of_getElem? (i := 159) (by decide +kernel), List.mem_of_getElem? (i := 160) (by decide +kernel)⟩
theorem lw_p5 : lw_okq (⟨"BackFromBreakfast$Telling", "isSign", "(II)Z"⟩, 2) := ⟨⟨by decide +kernel, by decide +kernel⟩, List.mem_of_getElem? (i := 56) (by decide +kernel), List.mem_of_getElem? (i := 166) (by decide +kernel), List.mem_of_getElem? (i := 167) (by decide +kernel)⟩
theorem lw_p6 : lw_okq (⟨"BackFromBreakfast$Telling", "behindStatement", "(I)I"⟩, 2) := ⟨⟨by decide +kernel, by decide +kernel⟩, List.mem_of_getElem? (i := 56) (by decide +kernel), List.mem_of_getElem? (i := 173) (by decide +kernel), List.mem_of_getElem? (i := 174) (by decide +kernel)⟩
theorem lw_p7 : lw_okq (⟨"BackFromBreakfast$Telling", "comes", "(ILBackFromBreakfast$Corridor;)Z"⟩, 2) := ⟨⟨by decide +kernel, by decide +kernel⟩, List.mem_of_getElem? (i := 56) (by decide +kernel), List.mem_of_getElem? (i := 177) (by decide +kernel), List.mem_of_getElem? (i := 178) (by decide +kernel)⟩
theorem lw_p8 : lw_okq (⟨"BackFromBreakfast$Corridor", "walkTo", "(II)V"⟩, 10) := ⟨⟨by decide +kernel, by decide +kernel⟩, List.mem_of_getElem? (i := 18) (by decide +kernel), List.mem_of_getElem? (i := 224) (by decide +kernel), List.mem_of_getElem? (i := 225) (by decide +kernel)⟩
theorem lw_p9 : lw_okq (⟨"BackFromBreakfast$Corridor", "knock", "(III)I"⟩, 10) := ⟨⟨by decide +kernel, by decide +kernel⟩, List.mem_of_getElem? (i := 18) (by decide +kernel), List.mem_of_getElem? (i := 255) (by decide +kernel), List.mem_of_getElem? (i := 256) (by decide +kernel)⟩
theorem lw_p10 : lw_okq (⟨"BackFromBreakfast$Corridor", "fetchLinen", "(I)V"⟩, 10) := ⟨⟨by decide +kernel, by decide +kernel⟩, List.mem_of_getElem? (i := 18) (by decide +kernel), List.mem_of_getElem? (i := 289) (by decide +kernel), List.mem_of_getElem? (i := 290) (by decide +kernel)⟩
theorem lw_p11 : lw_okq (⟨"BackFromBreakfast", "thoughtMinutes", "(I)I"⟩, 10) := ⟨⟨by decide +kernel, by decide +kernel⟩, List.mem_of_getElem? (i := 10) (by decide +kernel), List.mem_of_getElem? (i := 394) (by decide +kernel), List.mem_of_getElem? (i := 395) (by decide +kernel)⟩
theorem lw_p12 : lw_okq (⟨"BackFromBreakfast", "minuteRefusal", "(II)I"⟩, 10) := ⟨⟨by decide +kernel, by decide +kernel⟩, List.mem_of_getElem? (i := 10) (by decide +kernel), List.mem_of_getElem? (i := 402) (by decide +kernel), List.mem_of_getElem? (i := 403) (by decide +kernel)⟩
theorem lw_p13 : lw_okq (⟨"BackFromBreakfast", "thinkRow", "(I)V"⟩, 10) := ⟨⟨by decide +kernel, by decide +kernel⟩, List.mem_of_getElem? (i := 10) (by decide +kernel), List.mem_of_getElem? (i := 423) (by decide +kernel), List.mem_of_getElem? (i := 424) (by decide +kernel)⟩
theorem lw_p14 : lw_okq (⟨"BackFromBreakfast", "numberAt", "(I)I"⟩, 10) := ⟨⟨by decide +kernel, by decide +kernel⟩, List.mem_of_getElem? (i := 10) (by decide +kernel), List.mem_of_getElem? (i := 427) (by decide +kernel), List.mem_of_getElem? (i := 428) (by decide +kernel)⟩
theorem lw_p15 : lw_okq (⟨"BackFromBreakfast", "setRefusal", "(I)I"⟩, 10) := ⟨⟨by decide +kernel, by decide +kernel⟩, List.mem_of_getElem? (i := 10) (by decide +kernel), List.mem_of_getElem? (i := 458) (by decide +kernel), List.mem_of_getElem? (i := 459) (by decide +kernel)⟩
def lw_privs_1 : List (MethodName × Nat) := [(⟨"BackFromBreakfast", "refuse", "(I)I"⟩, 10), (⟨"BackFromBreakfast", "think", "()V"⟩, 10), (⟨"BackFromBreakfast$Telling", "wrongLetter", "()I"⟩, 2), (⟨"BackFromBreakfast$Telling", "wrongInStatement", "(I)I"⟩, 2), (⟨"BackFromBreakfast$Telling", "letterAt", "(I)I"⟩, 2), (⟨"BackFromBreakfast$Telling", "isSign", "(II)Z"⟩, 2), (⟨"BackFromBreakfast$Telling", "behindStatement", "(I)I"⟩, 2), (⟨"BackFromBreakfast$Telling", "comes", "(ILBackFromBreakfast$Corridor;)Z"⟩, 2), (⟨"BackFromBreakfast$Corridor", "walkTo", "(II)V"⟩, 10), (⟨"BackFromBreakfast$Corridor", "knock", "(III)I"⟩, 10), (⟨"BackFromBreakfast$Corridor", "fetchLinen", "(I)V"⟩, 10), (⟨"BackFromBreakfast", "thoughtMinutes", "(I)I"⟩, 10), (⟨"BackFromBreakfast", "minuteRefusal", "(II)I"⟩, 10), (⟨"BackFromBreakfast", "thinkRow", "(I)V"⟩, 10), (⟨"BackFromBreakfast", "numberAt", "(I)I"⟩, 10), (⟨"BackFromBreakfast", "setRefusal", "(I)I"⟩, 10)]
theorem lw_r1 : ∀ q ∈ lw_privs_1, lw_okq q := List.forall_mem_cons.mpr ⟨lw_p0, List.forall_mem_cons.mpr ⟨lw_p1, List.forall_mem_cons.mpr ⟨lw_p2, List.forall_mem_cons.mpr ⟨lw_p3, List.forall_mem_cons.mpr ⟨lw_p4, List.forall_mem_cons.mpr ⟨lw_p5, List.forall_mem_cons.mpr ⟨lw_p6, List.forall_mem_cons.mpr ⟨lw_p7, List.forall_mem_cons.mpr ⟨lw_p8, List.forall_mem_cons.mpr ⟨lw_p9, List.forall_mem_cons.mpr ⟨lw_p10, List.forall_mem_cons.mpr ⟨lw_p11, List.forall_mem_cons.mpr ⟨lw_p12, List.forall_mem_cons.mpr ⟨lw_p13, List.forall_mem_cons.mpr ⟨lw_p14, List.forall_mem_cons.mpr ⟨lw_p15, fun _ h => absurd h List.not_mem_nil⟩⟩⟩⟩⟩⟩⟩⟩⟩⟩⟩⟩⟩⟩⟩⟩
theorem lw_p16 : lw_okq (⟨"BackFromBreakfast", "seekOrder", "(II)V"⟩, 10) := ⟨⟨by decide +kernel, by decide +kernel⟩, List.mem_of_getElem? (i := 10) (by decide +kernel), List.mem_of_getElem? (i := 468) (by decide +kernel), List.mem_of_getElem? (i := 469) (by decide +kernel)⟩
theorem lw_p17 : lw_okq (⟨"BackFromBreakfast", "pathAt", "(I)I"⟩, 10) := ⟨⟨by decide +kernel, by decide +kernel⟩, List.mem_of_getElem? (i := 10) (by decide +kernel), List.mem_of_getElem? (i := 476) (by decide +kernel), List.mem_of_getElem? (i := 477) (by decide +kernel)⟩
theorem lw_p18 : lw_okq (⟨"BackFromBreakfast", "pathNumber", "(I)I"⟩, 10) := ⟨⟨by decide +kernel, by decide +kernel⟩, List.mem_of_getElem? (i := 10) (by decide +kernel), List.mem_of_getElem? (i := 480) (by decide +kernel), List.mem_of_getElem? (i := 481) (by decide +kernel)⟩
theorem lw_p19 : lw_okq (⟨"BackFromBreakfast", "nextPath", "(I)Z"⟩, 10) := ⟨⟨by decide +kernel, by decide +kernel⟩, List.mem_of_getElem? (i := 10) (by decide +kernel), List.mem_of_getElem? (i := 493) (by decide +kernel), List.mem_of_getElem? (i := 494) (by decide +kernel)⟩
theorem lw_p20 : lw_okq (⟨"BackFromBreakfast", "areTwoRooms", "(II)Z"⟩, 10) := ⟨⟨by decide +kernel, by decide +kernel⟩, List.mem_of_getElem? (i := 10) (by decide +kernel), List.mem_of_getElem? (i := 514) (by decide +kernel), List.mem_of_getElem? (i := 515) (by decide +kernel)⟩
theorem lw_p21 : lw_okq (⟨"BackFromBreakfast", "mostWork", "()I"⟩, 10) := ⟨⟨by decide +kernel, by decide +kernel⟩, List.mem_of_getElem? (i := 10) (by decide +kernel), List.mem_of_getElem? (i := 561) (by decide +kernel), List.mem_of_getElem? (i := 562) (by decide +kernel)⟩
theorem lw_p22 : lw_okq (⟨"BackFromBreakfast", "outNow", "()I"⟩, 10) := ⟨⟨by decide +kernel, by decide +kernel⟩, List.mem_of_getElem? (i := 10) (by decide +kernel), List.mem_of_getElem? (i := 565) (by decide +kernel), List.mem_of_getElem? (i := 566) (by decide +kernel)⟩
theorem lw_p23 : lw_okq (⟨"BackFromBreakfast", "linenLeft", "()I"⟩, 10) := ⟨⟨by decide +kernel, by decide +kernel⟩, List.mem_of_getElem? (i := 10) (by decide +kernel), List.mem_of_getElem? (i := 569) (by decide +kernel), List.mem_of_getElem? (i := 570) (by decide +kernel)⟩
theorem lw_p24 : lw_okq (⟨"BackFromBreakfast", "neitherWouldChange", "(IIII)Z"⟩, 10) := ⟨⟨by decide +kernel, by decide +kernel⟩, List.mem_of_getElem? (i := 10) (by decide +kernel), List.mem_of_getElem? (i := 581) (by decide +kernel), List.mem_of_getElem? (i := 582) (by decide +kernel)⟩
theorem lw_p25 : lw_okq (⟨"BackFromBreakfast", "clockBehind", "(III)I"⟩, 10) := ⟨⟨by decide +kernel, by decide +kernel⟩, List.mem_of_getElem? (i := 10) (by decide +kernel), List.mem_of_getElem? (i := 585) (by decide +kernel), List.mem_of_getElem? (i := 586) (by decide +kernel)⟩
theorem lw_p26 : lw_okq (⟨"BackFromBreakfast", "refuseLong", "(I)J"⟩, 10) := ⟨⟨by decide +kernel, by decide +kernel⟩, List.mem_of_getElem? (i := 10) (by decide +kernel), List.mem_of_getElem? (i := 593) (by decide +kernel), List.mem_of_getElem? (i := 594) (by decide +kernel)⟩
theorem lw_p27 : lw_okq (⟨"BackFromBreakfast", "kindsByRow", "(I)I"⟩, 10) := ⟨⟨by decide +kernel, by decide +kernel⟩, List.mem_of_getElem? (i := 10) (by decide +kernel), List.mem_of_getElem? (i := 626) (by decide +kernel), List.mem_of_getElem? (i := 627) (by decide +kernel)⟩
theorem lw_p28 : lw_okq (⟨"BackFromBreakfast", "rowIsSo", "(II)Z"⟩, 10) := ⟨⟨by decide +kernel, by decide +kernel⟩, List.mem_of_getElem? (i := 10) (by decide +kernel), List.mem_of_getElem? (i := 630) (by decide +kernel), List.mem_of_getElem? (i := 631) (by decide +kernel)⟩
theorem lw_p29 : lw_okq (⟨"BackFromBreakfast", "figuresByRow", "(I)I"⟩, 10) := ⟨⟨by decide +kernel, by decide +kernel⟩, List.mem_of_getElem? (i := 10) (by decide +kernel), List.mem_of_getElem? (i := 635) (by decide +kernel), List.mem_of_getElem? (i := 636) (by decide +kernel)⟩
theorem lw_p30 : lw_okq (⟨"BackFromBreakfastModel", "no", "(I)I"⟩, 36) := ⟨⟨by decide +kernel, by decide +kernel⟩, List.mem_of_getElem? (i := 684) (by decide +kernel), List.mem_of_getElem? (i := 806) (by decide +kernel), List.mem_of_getElem? (i := 807) (by decide +kernel)⟩
theorem lw_p31 : lw_okq (⟨"BackFromBreakfastModel", "statement", "()Z"⟩, 36) := ⟨⟨by decide +kernel, by decide +kernel⟩, List.mem_of_getElem? (i := 684) (by decide +kernel), List.mem_of_getElem? (i := 814) (by decide +kernel), List.mem_of_getElem? (i := 815) (by decide +kernel)⟩
def lw_privs_2 : List (MethodName × Nat) := [(⟨"BackFromBreakfast", "seekOrder", "(II)V"⟩, 10), (⟨"BackFromBreakfast", "pathAt", "(I)I"⟩, 10), (⟨"BackFromBreakfast", "pathNumber", "(I)I"⟩, 10), (⟨"BackFromBreakfast", "nextPath", "(I)Z"⟩, 10), (⟨"BackFromBreakfast", "areTwoRooms", "(II)Z"⟩, 10), (⟨"BackFromBreakfast", "mostWork", "()I"⟩, 10), (⟨"BackFromBreakfast", "outNow", "()I"⟩, 10), (⟨"BackFromBreakfast", "linenLeft", "()I"⟩, 10), (⟨"BackFromBreakfast", "neitherWouldChange", "(IIII)Z"⟩, 10), (⟨"BackFromBreakfast", "clockBehind", "(III)I"⟩, 10), (⟨"BackFromBreakfast", "refuseLong", "(I)J"⟩, 10), (⟨"BackFromBreakfast", "kindsByRow", "(I)I"⟩, 10), (⟨"BackFromBreakfast", "rowIsSo", "(II)Z"⟩, 10), (⟨"BackFromBreakfast", "figuresByRow", "(I)I"⟩, 10), (⟨"BackFromBreakfastModel", "no", "(I)I"⟩, 36), (⟨"BackFromBreakfastModel", "statement", "()Z"⟩, 36)]
theorem lw_r2 : ∀ q ∈ lw_privs_2, lw_okq q := List.forall_mem_cons.mpr ⟨lw_p16, List.forall_mem_cons.mpr ⟨lw_p17, List.forall_mem_cons.mpr ⟨lw_p18, List.forall_mem_cons.mpr ⟨lw_p19, List.forall_mem_cons.mpr ⟨lw_p20, List.forall_mem_cons.mpr ⟨lw_p21, List.forall_mem_cons.mpr ⟨lw_p22, List.forall_mem_cons.mpr ⟨lw_p23, List.forall_mem_cons.mpr ⟨lw_p24, List.forall_mem_cons.mpr ⟨lw_p25, List.forall_mem_cons.mpr ⟨lw_p26, List.forall_mem_cons.mpr ⟨lw_p27, List.forall_mem_cons.mpr ⟨lw_p28, List.forall_mem_cons.mpr ⟨lw_p29, List.forall_mem_cons.mpr ⟨lw_p30, List.forall_mem_cons.mpr ⟨lw_p31, fun _ h => absurd h List.not_mem_nil⟩⟩⟩⟩⟩⟩⟩⟩⟩⟩⟩⟩⟩⟩⟩⟩
theorem lw_p32 : lw_okq (⟨"BackFromBreakfastModel", "letterNow", "()I"⟩, 36) := ⟨⟨by decide +kernel, by decide +kernel⟩, List.mem_of_getElem? (i := 684) (by decide +kernel), List.mem_of_getElem? (i := 818) (by decide +kernel), List.mem_of_getElem? (i := 819) (by decide +kernel)⟩
theorem lw_p33 : lw_okq (⟨"BackFromBreakfastModel", "readsAll", "(I)Z"⟩, 36) := ⟨⟨by decide +kernel, by decide +kernel⟩, List.mem_of_getElem? (i := 684) (by decide +kernel), List.mem_of_getElem? (i := 822) (by decide +kernel), List.mem_of_getElem? (i := 823) (by decide +kernel)⟩
theorem lw_p34 : lw_okq (⟨"BackFromBreakfastModel", "readsKind", "()Z"⟩, 36) := ⟨⟨by decide +kernel, by decide +kernel⟩, List.mem_of_getElem? (i := 684) (by decide +kernel), List.mem_of_getElem? (i := 826) (by decide +kernel), List.mem_of_getElem? (i := 827) (by decide +kernel)⟩
theorem lw_p35 : lw_okq (⟨"BackFromBreakfastModel", "readsDigits", "(I)Z"⟩, 36) := ⟨⟨by decide +kernel, by decide +kernel⟩, List.mem_of_getElem? (i := 684) (by decide +kernel), List.mem_of_getElem? (i := 833) (by decide +kernel), List.mem_of_getElem? (i := 834) (by decide +kernel)⟩
theorem lw_p36 : lw_okq (⟨"BackFromBreakfastModel", "passesAll", "(IZ)V"⟩, 36) := ⟨⟨by decide +kernel, by decide +kernel⟩, List.mem_of_getElem? (i := 684) (by decide +kernel), List.mem_of_getElem? (i := 840) (by decide +kernel), List.mem_of_getElem? (i := 841) (by decide +kernel)⟩
theorem lw_p37 : lw_okq (⟨"BackFromBreakfastModel", "passes", "([I)V"⟩, 36) := ⟨⟨by decide +kernel, by decide +kernel⟩, List.mem_of_getElem? (i := 684) (by decide +kernel), List.mem_of_getElem? (i := 844) (by decide +kernel), List.mem_of_getElem? (i := 845) (by decide +kernel)⟩
theorem lw_p38 : lw_okq (⟨"BackFromBreakfastModel", "comesTold", "(I)Z"⟩, 36) := ⟨⟨by decide +kernel, by decide +kernel⟩, List.mem_of_getElem? (i := 684) (by decide +kernel), List.mem_of_getElem? (i := 848) (by decide +kernel), List.mem_of_getElem? (i := 849) (by decide +kernel)⟩
theorem lw_p39 : lw_okq (⟨"BackFromBreakfastModel", "comesRoom", "(II)Z"⟩, 36) := ⟨⟨by decide +kernel, by decide +kernel⟩, List.mem_of_getElem? (i := 684) (by decide +kernel), List.mem_of_getElem? (i := 852) (by decide +kernel), List.mem_of_getElem? (i := 853) (by decide +kernel)⟩
theorem lw_p40 : lw_okq (⟨"BackFromBreakfastModel", "comesOther", "([II)Z"⟩, 36) := ⟨⟨by decide +kernel, by decide +kernel⟩, List.mem_of_getElem? (i := 684) (by decide +kernel), List.mem_of_getElem? (i := 856) (by decide +kernel), List.mem_of_getElem? (i := 857) (by decide +kernel)⟩
theorem lw_p41 : lw_okq (⟨"BackFromBreakfastModel", "isRoom", "(I)Z"⟩, 36) := ⟨⟨by decide +kernel, by decide +kernel⟩, List.mem_of_getElem? (i := 684) (by decide +kernel), List.mem_of_getElem? (i := 860) (by decide +kernel), List.mem_of_getElem? (i := 861) (by decide +kernel)⟩
theorem lw_p42 : lw_okq (⟨"BackFromBreakfastModel", "comesMaid", "(III)Z"⟩, 36) := ⟨⟨by decide +kernel, by decide +kernel⟩, List.mem_of_getElem? (i := 684) (by decide +kernel), List.mem_of_getElem? (i := 864) (by decide +kernel), List.mem_of_getElem? (i := 865) (by decide +kernel)⟩
theorem lw_p43 : lw_okq (⟨"BackFromBreakfastModel", "comesClock", "(II)Z"⟩, 36) := ⟨⟨by decide +kernel, by decide +kernel⟩, List.mem_of_getElem? (i := 684) (by decide +kernel), List.mem_of_getElem? (i := 871) (by decide +kernel), List.mem_of_getElem? (i := 872) (by decide +kernel)⟩
theorem lw_p44 : lw_okq (⟨"BackFromBreakfastModel", "comesVisit", "(II)Z"⟩, 36) := ⟨⟨by decide +kernel, by decide +kernel⟩, List.mem_of_getElem? (i := 684) (by decide +kernel), List.mem_of_getElem? (i := 875) (by decide +kernel), List.mem_of_getElem? (i := 876) (by decide +kernel)⟩
theorem lw_p45 : lw_okq (⟨"BackFromBreakfastModel", "visit", "(II)I"⟩, 36) := ⟨⟨by decide +kernel, by decide +kernel⟩, List.mem_of_getElem? (i := 684) (by decide +kernel), List.mem_of_getElem? (i := 879) (by decide +kernel), List.mem_of_getElem? (i := 880) (by decide +kernel)⟩
theorem lw_p46 : lw_okq (⟨"BackFromBreakfastModel", "stepsTo", "(II)V"⟩, 36) := ⟨⟨by decide +kernel, by decide +kernel⟩, List.mem_of_getElem? (i := 684) (by decide +kernel), List.mem_of_getElem? (i := 883) (by decide +kernel), List.mem_of_getElem? (i := 884) (by decide +kernel)⟩
theorem lw_p47 : lw_okq (⟨"BackFromBreakfastModel", "work", "(I)I"⟩, 36) := ⟨⟨by decide +kernel, by decide +kernel⟩, List.mem_of_getElem? (i := 684) (by decide +kernel), List.mem_of_getElem? (i := 890) (by decide +kernel), List.mem_of_getElem? (i := 891) (by decide +kernel)⟩
def lw_privs_3 : List (MethodName × Nat) := [(⟨"BackFromBreakfastModel", "letterNow", "()I"⟩, 36), (⟨"BackFromBreakfastModel", "readsAll", "(I)Z"⟩, 36), (⟨"BackFromBreakfastModel", "readsKind", "()Z"⟩, 36), (⟨"BackFromBreakfastModel", "readsDigits", "(I)Z"⟩, 36), (⟨"BackFromBreakfastModel", "passesAll", "(IZ)V"⟩, 36), (⟨"BackFromBreakfastModel", "passes", "([I)V"⟩, 36), (⟨"BackFromBreakfastModel", "comesTold", "(I)Z"⟩, 36), (⟨"BackFromBreakfastModel", "comesRoom", "(II)Z"⟩, 36), (⟨"BackFromBreakfastModel", "comesOther", "([II)Z"⟩, 36), (⟨"BackFromBreakfastModel", "isRoom", "(I)Z"⟩, 36), (⟨"BackFromBreakfastModel", "comesMaid", "(III)Z"⟩, 36), (⟨"BackFromBreakfastModel", "comesClock", "(II)Z"⟩, 36), (⟨"BackFromBreakfastModel", "comesVisit", "(II)Z"⟩, 36), (⟨"BackFromBreakfastModel", "visit", "(II)I"⟩, 36), (⟨"BackFromBreakfastModel", "stepsTo", "(II)V"⟩, 36), (⟨"BackFromBreakfastModel", "work", "(I)I"⟩, 36)]
theorem lw_r3 : ∀ q ∈ lw_privs_3, lw_okq q := List.forall_mem_cons.mpr ⟨lw_p32, List.forall_mem_cons.mpr ⟨lw_p33, List.forall_mem_cons.mpr ⟨lw_p34, List.forall_mem_cons.mpr ⟨lw_p35, List.forall_mem_cons.mpr ⟨lw_p36, List.forall_mem_cons.mpr ⟨lw_p37, List.forall_mem_cons.mpr ⟨lw_p38, List.forall_mem_cons.mpr ⟨lw_p39, List.forall_mem_cons.mpr ⟨lw_p40, List.forall_mem_cons.mpr ⟨lw_p41, List.forall_mem_cons.mpr ⟨lw_p42, List.forall_mem_cons.mpr ⟨lw_p43, List.forall_mem_cons.mpr ⟨lw_p44, List.forall_mem_cons.mpr ⟨lw_p45, List.forall_mem_cons.mpr ⟨lw_p46, List.forall_mem_cons.mpr ⟨lw_p47, fun _ h => absurd h List.not_mem_nil⟩⟩⟩⟩⟩⟩⟩⟩⟩⟩⟩⟩⟩⟩⟩⟩
theorem lw_p48 : lw_okq (⟨"BackFromBreakfastModel", "atDoor", "(III)I"⟩, 36) := ⟨⟨by decide +kernel, by decide +kernel⟩, List.mem_of_getElem? (i := 684) (by decide +kernel), List.mem_of_getElem? (i := 894) (by decide +kernel), List.mem_of_getElem? (i := 895) (by decide +kernel)⟩
theorem lw_p49 : lw_okq (⟨"BackFromBreakfastModel", "isOut", "(II)Z"⟩, 36) := ⟨⟨by decide +kernel, by decide +kernel⟩, List.mem_of_getElem? (i := 684) (by decide +kernel), List.mem_of_getElem? (i := 898) (by decide +kernel), List.mem_of_getElem? (i := 899) (by decide +kernel)⟩
theorem lw_p50 : lw_okq (⟨"BackFromBreakfastModel", "linen", "(I)I"⟩, 36) := ⟨⟨by decide +kernel, by decide +kernel⟩, List.mem_of_getElem? (i := 684) (by decide +kernel), List.mem_of_getElem? (i := 908) (by decide +kernel), List.mem_of_getElem? (i := 909) (by decide +kernel)⟩
theorem lw_p51 : lw_okq (⟨"BackFromBreakfastModel", "comesBoth", "(I)Z"⟩, 36) := ⟨⟨by decide +kernel, by decide +kernel⟩, List.mem_of_getElem? (i := 684) (by decide +kernel), List.mem_of_getElem? (i := 912) (by decide +kernel), List.mem_of_getElem? (i := 913) (by decide +kernel)⟩
theorem lw_p52 : lw_okq (⟨"BackFromBreakfastModel", "visitBoth", "(I)I"⟩, 36) := ⟨⟨by decide +kernel, by decide +kernel⟩, List.mem_of_getElem? (i := 684) (by decide +kernel), List.mem_of_getElem? (i := 916) (by decide +kernel), List.mem_of_getElem? (i := 917) (by decide +kernel)⟩
theorem lw_p53 : lw_okq (⟨"BackFromBreakfastModel", "later", "()I"⟩, 36) := ⟨⟨by decide +kernel, by decide +kernel⟩, List.mem_of_getElem? (i := 684) (by decide +kernel), List.mem_of_getElem? (i := 920) (by decide +kernel), List.mem_of_getElem? (i := 921) (by decide +kernel)⟩
theorem lw_p54 : lw_okq (⟨"BackFromBreakfastModel", "manyDone", "()I"⟩, 36) := ⟨⟨by decide +kernel, by decide +kernel⟩, List.mem_of_getElem? (i := 684) (by decide +kernel), List.mem_of_getElem? (i := 928) (by decide +kernel), List.mem_of_getElem? (i := 929) (by decide +kernel)⟩
theorem lw_p55 : lw_okq (⟨"BackFromBreakfastModel", "setOf", "([I)I"⟩, 36) := ⟨⟨by decide +kernel, by decide +kernel⟩, List.mem_of_getElem? (i := 684) (by decide +kernel), List.mem_of_getElem? (i := 932) (by decide +kernel), List.mem_of_getElem? (i := 933) (by decide +kernel)⟩
theorem lw_p56 : lw_okq (⟨"BackFromBreakfastModel", "tip", "(I)I"⟩, 36) := ⟨⟨by decide +kernel, by decide +kernel⟩, List.mem_of_getElem? (i := 684) (by decide +kernel), List.mem_of_getElem? (i := 947) (by decide +kernel), List.mem_of_getElem? (i := 948) (by decide +kernel)⟩
theorem lw_p57 : lw_okq (⟨"BackFromBreakfastModel", "other", "([II)I"⟩, 36) := ⟨⟨by decide +kernel, by decide +kernel⟩, List.mem_of_getElem? (i := 684) (by decide +kernel), List.mem_of_getElem? (i := 959) (by decide +kernel), List.mem_of_getElem? (i := 960) (by decide +kernel)⟩
theorem lw_p58 : lw_okq (⟨"BackFromBreakfastModel", "goesDown", "(I)V"⟩, 36) := ⟨⟨by decide +kernel, by decide +kernel⟩, List.mem_of_getElem? (i := 684) (by decide +kernel), List.mem_of_getElem? (i := 991) (by decide +kernel), List.mem_of_getElem? (i := 992) (by decide +kernel)⟩
theorem lw_p59 : lw_okq (⟨"BackFromBreakfastModel", "visitThought", "(III)I"⟩, 36) := ⟨⟨by decide +kernel, by decide +kernel⟩, List.mem_of_getElem? (i := 684) (by decide +kernel), List.mem_of_getElem? (i := 1010) (by decide +kernel), List.mem_of_getElem? (i := 1011) (by decide +kernel)⟩
theorem lw_p60 : lw_okq (⟨"BackFromBreakfastModel", "minds", "()V"⟩, 36) := ⟨⟨by decide +kernel, by decide +kernel⟩, List.mem_of_getElem? (i := 684) (by decide +kernel), List.mem_of_getElem? (i := 1014) (by decide +kernel), List.mem_of_getElem? (i := 1015) (by decide +kernel)⟩
theorem lw_p61 : lw_okq (⟨"BackFromBreakfastModel", "forgets", "()V"⟩, 36) := ⟨⟨by decide +kernel, by decide +kernel⟩, List.mem_of_getElem? (i := 684) (by decide +kernel), List.mem_of_getElem? (i := 1018) (by decide +kernel), List.mem_of_getElem? (i := 1019) (by decide +kernel)⟩
theorem lw_p62 : lw_okq (⟨"BackFromBreakfastModel", "roundMinutes", "(I)I"⟩, 36) := ⟨⟨by decide +kernel, by decide +kernel⟩, List.mem_of_getElem? (i := 684) (by decide +kernel), List.mem_of_getElem? (i := 1030) (by decide +kernel), List.mem_of_getElem? (i := 1031) (by decide +kernel)⟩
theorem lw_p63 : lw_okq (⟨"BackFromBreakfastModel", "changesPlaces", "(II)V"⟩, 36) := ⟨⟨by decide +kernel, by decide +kernel⟩, List.mem_of_getElem? (i := 684) (by decide +kernel), List.mem_of_getElem? (i := 1038) (by decide +kernel), List.mem_of_getElem? (i := 1039) (by decide +kernel)⟩
def lw_privs_4 : List (MethodName × Nat) := [(⟨"BackFromBreakfastModel", "atDoor", "(III)I"⟩, 36), (⟨"BackFromBreakfastModel", "isOut", "(II)Z"⟩, 36), (⟨"BackFromBreakfastModel", "linen", "(I)I"⟩, 36), (⟨"BackFromBreakfastModel", "comesBoth", "(I)Z"⟩, 36), (⟨"BackFromBreakfastModel", "visitBoth", "(I)I"⟩, 36), (⟨"BackFromBreakfastModel", "later", "()I"⟩, 36), (⟨"BackFromBreakfastModel", "manyDone", "()I"⟩, 36), (⟨"BackFromBreakfastModel", "setOf", "([I)I"⟩, 36), (⟨"BackFromBreakfastModel", "tip", "(I)I"⟩, 36), (⟨"BackFromBreakfastModel", "other", "([II)I"⟩, 36), (⟨"BackFromBreakfastModel", "goesDown", "(I)V"⟩, 36), (⟨"BackFromBreakfastModel", "visitThought", "(III)I"⟩, 36), (⟨"BackFromBreakfastModel", "minds", "()V"⟩, 36), (⟨"BackFromBreakfastModel", "forgets", "()V"⟩, 36), (⟨"BackFromBreakfastModel", "roundMinutes", "(I)I"⟩, 36), (⟨"BackFromBreakfastModel", "changesPlaces", "(II)V"⟩, 36)]
theorem lw_r4 : ∀ q ∈ lw_privs_4, lw_okq q := List.forall_mem_cons.mpr ⟨lw_p48, List.forall_mem_cons.mpr ⟨lw_p49, List.forall_mem_cons.mpr ⟨lw_p50, List.forall_mem_cons.mpr ⟨lw_p51, List.forall_mem_cons.mpr ⟨lw_p52, List.forall_mem_cons.mpr ⟨lw_p53, List.forall_mem_cons.mpr ⟨lw_p54, List.forall_mem_cons.mpr ⟨lw_p55, List.forall_mem_cons.mpr ⟨lw_p56, List.forall_mem_cons.mpr ⟨lw_p57, List.forall_mem_cons.mpr ⟨lw_p58, List.forall_mem_cons.mpr ⟨lw_p59, List.forall_mem_cons.mpr ⟨lw_p60, List.forall_mem_cons.mpr ⟨lw_p61, List.forall_mem_cons.mpr ⟨lw_p62, List.forall_mem_cons.mpr ⟨lw_p63, fun _ h => absurd h List.not_mem_nil⟩⟩⟩⟩⟩⟩⟩⟩⟩⟩⟩⟩⟩⟩⟩⟩
theorem lw_p64 : lw_okq (⟨"BackFromBreakfastModel", "lists", "(I)V"⟩, 36) := ⟨⟨by decide +kernel, by decide +kernel⟩, List.mem_of_getElem? (i := 684) (by decide +kernel), List.mem_of_getElem? (i := 1050) (by decide +kernel), List.mem_of_getElem? (i := 1051) (by decide +kernel)⟩
theorem lw_p65 : lw_okq (⟨"BackFromBreakfastModel", "codes", "()I"⟩, 36) := ⟨⟨by decide +kernel, by decide +kernel⟩, List.mem_of_getElem? (i := 684) (by decide +kernel), List.mem_of_getElem? (i := 1055) (by decide +kernel), List.mem_of_getElem? (i := 1056) (by decide +kernel)⟩
theorem lw_p66 : lw_okq (⟨"BackFromBreakfastModel", "orderOf", "(I)I"⟩, 36) := ⟨⟨by decide +kernel, by decide +kernel⟩, List.mem_of_getElem? (i := 684) (by decide +kernel), List.mem_of_getElem? (i := 1059) (by decide +kernel), List.mem_of_getElem? (i := 1060) (by decide +kernel)⟩
theorem lw_p67 : lw_okq (⟨"BackFromBreakfastModel", "orderMinutes", "(II)I"⟩, 36) := ⟨⟨by decide +kernel, by decide +kernel⟩, List.mem_of_getElem? (i := 684) (by decide +kernel), List.mem_of_getElem? (i := 1063) (by decide +kernel), List.mem_of_getElem? (i := 1064) (by decide +kernel)⟩
theorem lw_p68 : lw_okq (⟨"BackFromBreakfastModel", "shares", "(II)V"⟩, 36) := ⟨⟨by decide +kernel, by decide +kernel⟩, List.mem_of_getElem? (i := 684) (by decide +kernel), List.mem_of_getElem? (i := 1071) (by decide +kernel), List.mem_of_getElem? (i := 1072) (by decide +kernel)⟩
theorem lw_p69 : lw_okq (⟨"BackFromBreakfastModel", "areTwo", "(II)Z"⟩, 36) := ⟨⟨by decide +kernel, by decide +kernel⟩, List.mem_of_getElem? (i := 684) (by decide +kernel), List.mem_of_getElem? (i := 1079) (by decide +kernel), List.mem_of_getElem? (i := 1080) (by decide +kernel)⟩
theorem lw_p70 : lw_okq (⟨"BackFromBreakfastModel", "longMinutes", "(I)I"⟩, 36) := ⟨⟨by decide +kernel, by decide +kernel⟩, List.mem_of_getElem? (i := 684) (by decide +kernel), List.mem_of_getElem? (i := 1087) (by decide +kernel), List.mem_of_getElem? (i := 1088) (by decide +kernel)⟩
theorem lw_p71 : lw_okq (⟨"BackFromBreakfastModel", "tipsOf", "(I)I"⟩, 36) := ⟨⟨by decide +kernel, by decide +kernel⟩, List.mem_of_getElem? (i := 684) (by decide +kernel), List.mem_of_getElem? (i := 1111) (by decide +kernel), List.mem_of_getElem? (i := 1112) (by decide +kernel)⟩
theorem lw_p72 : lw_okq (⟨"BackFromBreakfastModel", "dearestNow", "()I"⟩, 36) := ⟨⟨by decide +kernel, by decide +kernel⟩, List.mem_of_getElem? (i := 684) (by decide +kernel), List.mem_of_getElem? (i := 1119) (by decide +kernel), List.mem_of_getElem? (i := 1120) (by decide +kernel)⟩
theorem lw_p73 : lw_okq (⟨"BackFromBreakfastModel", "outNow", "()I"⟩, 36) := ⟨⟨by decide +kernel, by decide +kernel⟩, List.mem_of_getElem? (i := 684) (by decide +kernel), List.mem_of_getElem? (i := 1123) (by decide +kernel), List.mem_of_getElem? (i := 1124) (by decide +kernel)⟩
theorem lw_p74 : lw_okq (⟨"BackFromBreakfastModel", "linenLeft", "()I"⟩, 36) := ⟨⟨by decide +kernel, by decide +kernel⟩, List.mem_of_getElem? (i := 684) (by decide +kernel), List.mem_of_getElem? (i := 1127) (by decide +kernel), List.mem_of_getElem? (i := 1128) (by decide +kernel)⟩
theorem lw_p75 : lw_okq (⟨"BackFromBreakfastModel", "findEnds", "(II)V"⟩, 36) := ⟨⟨by decide +kernel, by decide +kernel⟩, List.mem_of_getElem? (i := 684) (by decide +kernel), List.mem_of_getElem? (i := 1139) (by decide +kernel), List.mem_of_getElem? (i := 1140) (by decide +kernel)⟩
theorem lw_p76 : lw_okq (⟨"BackFromBreakfastModel", "lowestOf", "(I)J"⟩, 36) := ⟨⟨by decide +kernel, by decide +kernel⟩, List.mem_of_getElem? (i := 684) (by decide +kernel), List.mem_of_getElem? (i := 1147) (by decide +kernel), List.mem_of_getElem? (i := 1148) (by decide +kernel)⟩
theorem lw_p77 : lw_okq (⟨"BackFromBreakfastModel", "isToldSo", "(II)Z"⟩, 36) := ⟨⟨by decide +kernel, by decide +kernel⟩, List.mem_of_getElem? (i := 684) (by decide +kernel), List.mem_of_getElem? (i := 1173) (by decide +kernel), List.mem_of_getElem? (i := 1174) (by decide +kernel)⟩
theorem lw_p78 : lw_okq (⟨"BackFromBreakfastModel", "draw", "(I)I"⟩, 36) := ⟨⟨by decide +kernel, by decide +kernel⟩, List.mem_of_getElem? (i := 684) (by decide +kernel), List.mem_of_getElem? (i := 1193) (by decide +kernel), List.mem_of_getElem? (i := 1194) (by decide +kernel)⟩
theorem lw_p79 : lw_okq (⟨"BackFromBreakfastModel", "longRound", "(I)V"⟩, 36) := ⟨⟨by decide +kernel, by decide +kernel⟩, List.mem_of_getElem? (i := 684) (by decide +kernel), List.mem_of_getElem? (i := 1200) (by decide +kernel), List.mem_of_getElem? (i := 1201) (by decide +kernel)⟩
def lw_privs_5 : List (MethodName × Nat) := [(⟨"BackFromBreakfastModel", "lists", "(I)V"⟩, 36), (⟨"BackFromBreakfastModel", "codes", "()I"⟩, 36), (⟨"BackFromBreakfastModel", "orderOf", "(I)I"⟩, 36), (⟨"BackFromBreakfastModel", "orderMinutes", "(II)I"⟩, 36), (⟨"BackFromBreakfastModel", "shares", "(II)V"⟩, 36), (⟨"BackFromBreakfastModel", "areTwo", "(II)Z"⟩, 36), (⟨"BackFromBreakfastModel", "longMinutes", "(I)I"⟩, 36), (⟨"BackFromBreakfastModel", "tipsOf", "(I)I"⟩, 36), (⟨"BackFromBreakfastModel", "dearestNow", "()I"⟩, 36), (⟨"BackFromBreakfastModel", "outNow", "()I"⟩, 36), (⟨"BackFromBreakfastModel", "linenLeft", "()I"⟩, 36), (⟨"BackFromBreakfastModel", "findEnds", "(II)V"⟩, 36), (⟨"BackFromBreakfastModel", "lowestOf", "(I)J"⟩, 36), (⟨"BackFromBreakfastModel", "isToldSo", "(II)Z"⟩, 36), (⟨"BackFromBreakfastModel", "draw", "(I)I"⟩, 36), (⟨"BackFromBreakfastModel", "longRound", "(I)V"⟩, 36)]
theorem lw_r5 : ∀ q ∈ lw_privs_5, lw_okq q := List.forall_mem_cons.mpr ⟨lw_p64, List.forall_mem_cons.mpr ⟨lw_p65, List.forall_mem_cons.mpr ⟨lw_p66, List.forall_mem_cons.mpr ⟨lw_p67, List.forall_mem_cons.mpr ⟨lw_p68, List.forall_mem_cons.mpr ⟨lw_p69, List.forall_mem_cons.mpr ⟨lw_p70, List.forall_mem_cons.mpr ⟨lw_p71, List.forall_mem_cons.mpr ⟨lw_p72, List.forall_mem_cons.mpr ⟨lw_p73, List.forall_mem_cons.mpr ⟨lw_p74, List.forall_mem_cons.mpr ⟨lw_p75, List.forall_mem_cons.mpr ⟨lw_p76, List.forall_mem_cons.mpr ⟨lw_p77, List.forall_mem_cons.mpr ⟨lw_p78, List.forall_mem_cons.mpr ⟨lw_p79, fun _ h => absurd h List.not_mem_nil⟩⟩⟩⟩⟩⟩⟩⟩⟩⟩⟩⟩⟩⟩⟩⟩
def lw_privs : List (MethodName × Nat) := lw_privs_1 ++ (lw_privs_2 ++ (lw_privs_3 ++ (lw_privs_4 ++ (lw_privs_5))))
def lw_tbl : List Cond := k2_sels lw_privs ++ tables_1
theorem lw_privs_ok : ∀ q ∈ lw_privs, lw_okq q := by
  show ∀ q ∈ lw_privs_1 ++ (lw_privs_2 ++ (lw_privs_3 ++ (lw_privs_4 ++ (lw_privs_5)))), lw_okq q
  exact List.forall_mem_append.mpr ⟨lw_r1, List.forall_mem_append.mpr ⟨lw_r2, List.forall_mem_append.mpr ⟨lw_r3, List.forall_mem_append.mpr ⟨lw_r4, lw_r5⟩⟩⟩⟩
end
section
def RX0 : String := "BackFromBreakfast$Best"
def TX0 : u_T := fun k => match k with
  | 0 => ("BackFromBreakfast$Best", "some", "Z", false)
  | 1 => ("BackFromBreakfast$Best", "name", "I", false)
  | 2 => ("BackFromBreakfast$Best", "done", "I", false)
  | _ => ("BackFromBreakfast$Best", "time", "I", false)
def tyX0 : Nat → FieldType := fun k => match k with
  | 0 => .boolean
  | 1 => .int
  | 2 => .int
  | _ => .int
abbrev wsX00 : List Cond := u_ws RX0 TX0 4
theorem nmX0 : ∀ a, a < 4 → ∀ b, b < 4 → a ≠ b → (TX0 a).2.1 ≠ (TX0 b).2.1 := by decide +kernel
theorem tyX0_ok : ∀ k, k < 4 → parseFieldDescriptor (TX0 k).2.2.1 = some (tyX0 k) := by decide +kernel
abbrev cX0_init : ByteArray := prog_2_method_1_code
def yX0_init : MethodName := ⟨RX0, "<init>", "()V"⟩
abbrev cX0_forget : ByteArray := prog_2_method_2_code
def yX0_forget : MethodName := ⟨RX0, "forget", "()V"⟩
abbrev cX0_offer : ByteArray := prog_2_method_3_code
def yX0_offer : MethodName := ⟨RX0, "offer", "(III)V"⟩
abbrev cX0_answer : ByteArray := prog_2_method_4_code
def yX0_answer : MethodName := ⟨RX0, "answer", "(I)I"⟩
def RX1 : String := "BackFromBreakfast$Corridor"
def TX1 : u_T := fun k => match k with
  | 0 => ("BackFromBreakfast$Corridor", "rooms", "I", false)
  | 1 => ("BackFromBreakfast$Corridor", "done", "I", false)
  | 2 => ("BackFromBreakfast$Corridor", "cards", "I", false)
  | 3 => ("BackFromBreakfast$Corridor", "staying", "I", false)
  | 4 => ("BackFromBreakfast$Corridor", "downs", "I", false)
  | 5 => ("BackFromBreakfast$Corridor", "kinds", "[I", true)
  | 6 => ("BackFromBreakfast$Corridor", "figures", "[I", true)
  | 7 => ("BackFromBreakfast$Corridor", "at", "[I", true)
  | 8 => ("BackFromBreakfast$Corridor", "loads", "[I", true)
  | _ => ("BackFromBreakfast$Corridor", "clocks", "[I", true)
def tyX1 : Nat → FieldType := fun k => match k with
  | 0 => .int
  | 1 => .int
  | 2 => .int
  | 3 => .int
  | 4 => .int
  | 5 => .array .int
  | 6 => .array .int
  | 7 => .array .int
  | 8 => .array .int
  | _ => .array .int
abbrev wsX10 : List Cond := u_ws RX1 TX1 10
theorem nmX1 : ∀ a, a < 10 → ∀ b, b < 10 → a ≠ b → (TX1 a).2.1 ≠ (TX1 b).2.1 := by decide +kernel
theorem tyX1_ok : ∀ k, k < 10 → parseFieldDescriptor (TX1 k).2.2.1 = some (tyX1 k) := by decide +kernel
abbrev cX1_init : ByteArray := prog_3_method_1_code
def yX1_init : MethodName := ⟨RX1, "<init>", "()V"⟩
abbrev cX1_become : ByteArray := prog_3_method_2_code
def yX1_become : MethodName := ⟨RX1, "become", "(LBackFromBreakfast$Corridor;)V"⟩
abbrev cX1_rooms : ByteArray := prog_3_method_3_code
def yX1_rooms : MethodName := ⟨RX1, "rooms", "()I"⟩
abbrev cX1_hasRoom : ByteArray := prog_3_method_4_code
def yX1_hasRoom : MethodName := ⟨RX1, "hasRoom", "(I)Z"⟩
abbrev cX1_addRoom : ByteArray := prog_3_method_5_code
def yX1_addRoom : MethodName := ⟨RX1, "addRoom", "(II)Z"⟩
abbrev cX1_kindOf : ByteArray := prog_3_method_6_code
def yX1_kindOf : MethodName := ⟨RX1, "kindOf", "(I)I"⟩
abbrev cX1_figureOf : ByteArray := prog_3_method_7_code
def yX1_figureOf : MethodName := ⟨RX1, "figureOf", "(I)I"⟩
abbrev cX1_setKind : ByteArray := prog_3_method_8_code
def yX1_setKind : MethodName := ⟨RX1, "setKind", "(II)V"⟩
abbrev cX1_setFigure : ByteArray := prog_3_method_9_code
def yX1_setFigure : MethodName := ⟨RX1, "setFigure", "(II)V"⟩
abbrev cX1_isDone : ByteArray := prog_3_method_10_code
def yX1_isDone : MethodName := ⟨RX1, "isDone", "(I)Z"⟩
abbrev cX1_hasCard : ByteArray := prog_3_method_11_code
def yX1_hasCard : MethodName := ⟨RX1, "hasCard", "(I)Z"⟩
abbrev cX1_changeDone : ByteArray := prog_3_method_12_code
def yX1_changeDone : MethodName := ⟨RX1, "changeDone", "(I)V"⟩
abbrev cX1_changeCard : ByteArray := prog_3_method_13_code
def yX1_changeCard : MethodName := ⟨RX1, "changeCard", "(I)V"⟩
abbrev cX1_doneBits : ByteArray := prog_3_method_14_code
def yX1_doneBits : MethodName := ⟨RX1, "doneBits", "()I"⟩
abbrev cX1_cardBits : ByteArray := prog_3_method_15_code
def yX1_cardBits : MethodName := ⟨RX1, "cardBits", "()I"⟩
abbrev cX1_doneCount : ByteArray := prog_3_method_16_code
def yX1_doneCount : MethodName := ⟨RX1, "doneCount", "()I"⟩
abbrev cX1_workOf : ByteArray := prog_3_method_17_code
def yX1_workOf : MethodName := ⟨RX1, "workOf", "(I)I"⟩
abbrev cX1_linenOf : ByteArray := prog_3_method_18_code
def yX1_linenOf : MethodName := ⟨RX1, "linenOf", "(I)I"⟩
abbrev cX1_tipOf : ByteArray := prog_3_method_19_code
def yX1_tipOf : MethodName := ⟨RX1, "tipOf", "(I)I"⟩
abbrev cX1_tipsOf : ByteArray := prog_3_method_20_code
def yX1_tipsOf : MethodName := ⟨RX1, "tipsOf", "(I)I"⟩
abbrev cX1_keepIn : ByteArray := prog_3_method_21_code
def yX1_keepIn : MethodName := ⟨RX1, "keepIn", "(I)V"⟩
abbrev cX1_guestOut : ByteArray := prog_3_method_22_code
def yX1_guestOut : MethodName := ⟨RX1, "guestOut", "(II)Z"⟩
abbrev cX1_hasMaid : ByteArray := prog_3_method_23_code
def yX1_hasMaid : MethodName := ⟨RX1, "hasMaid", "(I)Z"⟩
abbrev cX1_hasPlace : ByteArray := prog_3_method_24_code
def yX1_hasPlace : MethodName := ⟨RX1, "hasPlace", "(I)Z"⟩
abbrev cX1_placeOf : ByteArray := prog_3_method_25_code
def yX1_placeOf : MethodName := ⟨RX1, "placeOf", "(I)I"⟩
abbrev cX1_loadOf : ByteArray := prog_3_method_26_code
def yX1_loadOf : MethodName := ⟨RX1, "loadOf", "(I)I"⟩
abbrev cX1_clockOf : ByteArray := prog_3_method_27_code
def yX1_clockOf : MethodName := ⟨RX1, "clockOf", "(I)I"⟩
abbrev cX1_laterClock : ByteArray := prog_3_method_28_code
def yX1_laterClock : MethodName := ⟨RX1, "laterClock", "()I"⟩
abbrev cX1_timesDown : ByteArray := prog_3_method_29_code
def yX1_timesDown : MethodName := ⟨RX1, "timesDown", "()I"⟩
abbrev cX1_setPlace : ByteArray := prog_3_method_30_code
def yX1_setPlace : MethodName := ⟨RX1, "setPlace", "(II)V"⟩
abbrev cX1_setLoad : ByteArray := prog_3_method_31_code
def yX1_setLoad : MethodName := ⟨RX1, "setLoad", "(II)V"⟩
abbrev cX1_setClock : ByteArray := prog_3_method_32_code
def yX1_setClock : MethodName := ⟨RX1, "setClock", "(II)V"⟩
abbrev cX1_pass : ByteArray := prog_3_method_33_code
def yX1_pass : MethodName := ⟨RX1, "pass", "(II)V"⟩
abbrev cX1_goDown : ByteArray := prog_3_method_34_code
def yX1_goDown : MethodName := ⟨RX1, "goDown", "(I)V"⟩
abbrev cX1_walkTo : ByteArray := prog_3_method_35_code
def yX1_walkTo : MethodName := ⟨RX1, "walkTo", "(II)V"⟩
abbrev cX1_visitBy : ByteArray := prog_3_method_36_code
def yX1_visitBy : MethodName := ⟨RX1, "visitBy", "(II)I"⟩
abbrev cX1_visitByBoth : ByteArray := prog_3_method_37_code
def yX1_visitByBoth : MethodName := ⟨RX1, "visitByBoth", "(I)I"⟩
abbrev cX1_knock : ByteArray := prog_3_method_38_code
def yX1_knock : MethodName := ⟨RX1, "knock", "(III)I"⟩
abbrev cX1_fetchLinen : ByteArray := prog_3_method_39_code
def yX1_fetchLinen : MethodName := ⟨RX1, "fetchLinen", "(I)V"⟩
abbrev cX1_roundOver : ByteArray := prog_3_method_40_code
def yX1_roundOver : MethodName := ⟨RX1, "roundOver", "(II)V"⟩
abbrev cX1_longRound : ByteArray := prog_3_method_41_code
def yX1_longRound : MethodName := ⟨RX1, "longRound", "(I)V"⟩
def RX2 : String := "BackFromBreakfast$Kinds"
def TX2 : u_T := fun k => match k with
  | _ => ("", "", "", false)
def tyX2 : Nat → FieldType := fun k => match k with
  | _ => .int
abbrev wsX20 : List Cond := u_ws RX2 TX2 0
theorem nmX2 : ∀ a, a < 0 → ∀ b, b < 0 → a ≠ b → (TX2 a).2.1 ≠ (TX2 b).2.1 := by decide +kernel
theorem tyX2_ok : ∀ k, k < 0 → parseFieldDescriptor (TX2 k).2.2.1 = some (tyX2 k) := by decide +kernel
abbrev cX2_isKind : ByteArray := prog_4_method_2_code
def yX2_isKind : MethodName := ⟨RX2, "isKind", "(I)Z"⟩
abbrev cX2_ofLetter : ByteArray := prog_4_method_3_code
def yX2_ofLetter : MethodName := ⟨RX2, "ofLetter", "(I)I"⟩
abbrev cX2_isUnderLeft : ByteArray := prog_4_method_4_code
def yX2_isUnderLeft : MethodName := ⟨RX2, "isUnderLeft", "(I)Z"⟩
abbrev cX2_isOut : ByteArray := prog_4_method_5_code
def yX2_isOut : MethodName := ⟨RX2, "isOut", "(III)Z"⟩
abbrev cX2_work : ByteArray := prog_4_method_6_code
def yX2_work : MethodName := ⟨RX2, "work", "(II)I"⟩
abbrev cX2_linen : ByteArray := prog_4_method_7_code
def yX2_linen : MethodName := ⟨RX2, "linen", "(I)I"⟩
abbrev cX2_tip : ByteArray := prog_4_method_8_code
def yX2_tip : MethodName := ⟨RX2, "tip", "(II)I"⟩
def RX3 : String := "BackFromBreakfast$Telling"
def TX3 : u_T := fun k => match k with
  | 0 => ("BackFromBreakfast$Telling", "letters", "[I", true)
  | _ => ("BackFromBreakfast$Telling", "length", "I", false)
def tyX3 : Nat → FieldType := fun k => match k with
  | 0 => .array .int
  | _ => .int
abbrev wsX30 : List Cond := u_ws RX3 TX3 2
theorem nmX3 : ∀ a, a < 2 → ∀ b, b < 2 → a ≠ b → (TX3 a).2.1 ≠ (TX3 b).2.1 := by decide +kernel
theorem tyX3_ok : ∀ k, k < 2 → parseFieldDescriptor (TX3 k).2.2.1 = some (tyX3 k) := by decide +kernel
abbrev cX3_init : ByteArray := prog_5_method_1_code
def yX3_init : MethodName := ⟨RX3, "<init>", "()V"⟩
abbrev cX3_length : ByteArray := prog_5_method_2_code
def yX3_length : MethodName := ⟨RX3, "length", "()I"⟩
abbrev cX3_isFull : ByteArray := prog_5_method_3_code
def yX3_isFull : MethodName := ⟨RX3, "isFull", "()Z"⟩
abbrev cX3_take : ByteArray := prog_5_method_4_code
def yX3_take : MethodName := ⟨RX3, "take", "(I)I"⟩
abbrev cX3_forget : ByteArray := prog_5_method_5_code
def yX3_forget : MethodName := ⟨RX3, "forget", "()V"⟩
abbrev cX3_tellTo : ByteArray := prog_5_method_6_code
def yX3_tellTo : MethodName := ⟨RX3, "tellTo", "(LBackFromBreakfast$Corridor;)I"⟩
abbrev cX3_wrongLetter : ByteArray := prog_5_method_7_code
def yX3_wrongLetter : MethodName := ⟨RX3, "wrongLetter", "()I"⟩
abbrev cX3_behindStatement : ByteArray := prog_5_method_8_code
def yX3_behindStatement : MethodName := ⟨RX3, "behindStatement", "(I)I"⟩
abbrev cX3_wrongInStatement : ByteArray := prog_5_method_9_code
def yX3_wrongInStatement : MethodName := ⟨RX3, "wrongInStatement", "(I)I"⟩
abbrev cX3_signsOf : ByteArray := prog_5_method_10_code
def yX3_signsOf : MethodName := ⟨RX3, "signsOf", "(I)I"⟩
abbrev cX3_isSign : ByteArray := prog_5_method_11_code
def yX3_isSign : MethodName := ⟨RX3, "isSign", "(II)Z"⟩
abbrev cX3_letterAt : ByteArray := prog_5_method_12_code
def yX3_letterAt : MethodName := ⟨RX3, "letterAt", "(I)I"⟩
abbrev cX3_comes : ByteArray := prog_5_method_13_code
def yX3_comes : MethodName := ⟨RX3, "comes", "(ILBackFromBreakfast$Corridor;)Z"⟩
abbrev cX3_maidComes : ByteArray := prog_5_method_14_code
def yX3_maidComes : MethodName := ⟨RX3, "maidComes", "(LBackFromBreakfast$Corridor;III)Z"⟩
def RX4 : String := "BackFromBreakfast"
def TX4 : u_T := fun k => match k with
  | 0 => ("BackFromBreakfast", "now", "LBackFromBreakfast$Corridor;", true)
  | 1 => ("BackFromBreakfast", "mind", "LBackFromBreakfast$Corridor;", true)
  | 2 => ("BackFromBreakfast", "kept", "LBackFromBreakfast$Corridor;", true)
  | 3 => ("BackFromBreakfast", "hasImage", "Z", false)
  | 4 => ("BackFromBreakfast", "telling", "LBackFromBreakfast$Telling;", true)
  | 5 => ("BackFromBreakfast", "numbers", "[I", true)
  | 6 => ("BackFromBreakfast", "inRow", "I", false)
  | 7 => ("BackFromBreakfast", "refusals", "[I", true)
  | 8 => ("BackFromBreakfast", "path", "[I", true)
  | _ => ("BackFromBreakfast", "best", "LBackFromBreakfast$Best;", true)
def tyX4 : Nat → FieldType := fun k => match k with
  | 0 => .object "BackFromBreakfast$Corridor"
  | 1 => .object "BackFromBreakfast$Corridor"
  | 2 => .object "BackFromBreakfast$Corridor"
  | 3 => .boolean
  | 4 => .object "BackFromBreakfast$Telling"
  | 5 => .array .int
  | 6 => .int
  | 7 => .array .int
  | 8 => .array .int
  | _ => .object "BackFromBreakfast$Best"
abbrev wsX40 : List Cond := u_ws RX4 TX4 10
theorem nmX4 : ∀ a, a < 10 → ∀ b, b < 10 → a ≠ b → (TX4 a).2.1 ≠ (TX4 b).2.1 := by decide +kernel
theorem tyX4_ok : ∀ k, k < 10 → parseFieldDescriptor (TX4 k).2.2.1 = some (tyX4 k) := by decide +kernel
abbrev cX4_init : ByteArray := prog_1_method_1_code
def yX4_init : MethodName := ⟨RX4, "<init>", "()V"⟩
abbrev cX4_letter : ByteArray := prog_1_method_2_code
def yX4_letter : MethodName := ⟨RX4, "letter", "(I)I"⟩
abbrev cX4_corridor : ByteArray := prog_1_method_3_code
def yX4_corridor : MethodName := ⟨RX4, "corridor", "()I"⟩
abbrev cX4_room : ByteArray := prog_1_method_4_code
def yX4_room : MethodName := ⟨RX4, "room", "(II)I"⟩
abbrev cX4_maid : ByteArray := prog_1_method_5_code
def yX4_maid : MethodName := ⟨RX4, "maid", "(II)I"⟩
abbrev cX4_card : ByteArray := prog_1_method_6_code
def yX4_card : MethodName := ⟨RX4, "card", "(I)I"⟩
abbrev cX4_undo : ByteArray := prog_1_method_7_code
def yX4_undo : MethodName := ⟨RX4, "undo", "(I)I"⟩
abbrev cX4_turn : ByteArray := prog_1_method_8_code
def yX4_turn : MethodName := ⟨RX4, "turn", "(III)I"⟩
abbrev cX4_places : ByteArray := prog_1_method_9_code
def yX4_places : MethodName := ⟨RX4, "places", "(III)I"⟩
abbrev cX4_stays : ByteArray := prog_1_method_10_code
def yX4_stays : MethodName := ⟨RX4, "stays", "(II)I"⟩
abbrev cX4_visits : ByteArray := prog_1_method_11_code
def yX4_visits : MethodName := ⟨RX4, "visits", "(II)I"⟩
abbrev cX4_both : ByteArray := prog_1_method_12_code
def yX4_both : MethodName := ⟨RX4, "both", "(I)I"⟩
abbrev cX4_down : ByteArray := prog_1_method_13_code
def yX4_down : MethodName := ⟨RX4, "down", "(I)I"⟩
abbrev cX4_out : ByteArray := prog_1_method_14_code
def yX4_out : MethodName := ⟨RX4, "out", "(II)I"⟩
abbrev cX4_nextOut : ByteArray := prog_1_method_15_code
def yX4_nextOut : MethodName := ⟨RX4, "nextOut", "(II)I"⟩
abbrev cX4_howLong : ByteArray := prog_1_method_16_code
def yX4_howLong : MethodName := ⟨RX4, "howLong", "(III)I"⟩
abbrev cX4_bothLong : ByteArray := prog_1_method_17_code
def yX4_bothLong : MethodName := ⟨RX4, "bothLong", "(II)I"⟩
abbrev cX4_round : ByteArray := prog_1_method_18_code
def yX4_round : MethodName := ⟨RX4, "round", "(II)I"⟩
abbrev cX4_swap : ByteArray := prog_1_method_19_code
def yX4_swap : MethodName := ⟨RX4, "swap", "(I)I"⟩
abbrev cX4_nearest : ByteArray := prog_1_method_20_code
def yX4_nearest : MethodName := ⟨RX4, "nearest", "(I)I"⟩
abbrev cX4_order : ByteArray := prog_1_method_21_code
def yX4_order : MethodName := ⟨RX4, "order", "(III)I"⟩
abbrev cX4_share : ByteArray := prog_1_method_22_code
def yX4_share : MethodName := ⟨RX4, "share", "(II)I"⟩
abbrev cX4_together : ByteArray := prog_1_method_23_code
def yX4_together : MethodName := ⟨RX4, "together", "(II)I"⟩
abbrev cX4_leastLoad : ByteArray := prog_1_method_24_code
def yX4_leastLoad : MethodName := ⟨RX4, "leastLoad", "(I)I"⟩
abbrev cX4_saves : ByteArray := prog_1_method_25_code
def yX4_saves : MethodName := ⟨RX4, "saves", "(I)I"⟩
abbrev cX4_waitFor : ByteArray := prog_1_method_26_code
def yX4_waitFor : MethodName := ⟨RX4, "waitFor", "(III)I"⟩
abbrev cX4_first : ByteArray := prog_1_method_27_code
def yX4_first : MethodName := ⟨RX4, "first", "(I)I"⟩
abbrev cX4_cardBest : ByteArray := prog_1_method_28_code
def yX4_cardBest : MethodName := ⟨RX4, "cardBest", "(I)I"⟩
abbrev cX4_tips : ByteArray := prog_1_method_29_code
def yX4_tips : MethodName := ⟨RX4, "tips", "(I)I"⟩
abbrev cX4_dearest : ByteArray := prog_1_method_30_code
def yX4_dearest : MethodName := ⟨RX4, "dearest", "(I)I"⟩
abbrev cX4_overlap : ByteArray := prog_1_method_31_code
def yX4_overlap : MethodName := ⟨RX4, "overlap", "(III)I"⟩
abbrev cX4_two : ByteArray := prog_1_method_32_code
def yX4_two : MethodName := ⟨RX4, "two", "(II)I"⟩
abbrev cX4_inspected : ByteArray := prog_1_method_33_code
def yX4_inspected : MethodName := ⟨RX4, "inspected", "(II)J"⟩
abbrev cX4_likely : ByteArray := prog_1_method_34_code
def yX4_likely : MethodName := ⟨RX4, "likely", "(IIII)J"⟩
abbrev cX4_mean : ByteArray := prog_1_method_35_code
def yX4_mean : MethodName := ⟨RX4, "mean", "(I)J"⟩
abbrev cX4_whatIs : ByteArray := prog_1_method_36_code
def yX4_whatIs : MethodName := ⟨RX4, "whatIs", "(II)I"⟩
abbrev cX4_row : ByteArray := prog_1_method_37_code
def yX4_row : MethodName := ⟨RX4, "row", "(I)I"⟩
abbrev cX4_judge : ByteArray := prog_1_method_38_code
def yX4_judge : MethodName := ⟨RX4, "judge", "()I"⟩
abbrev cX4_clear : ByteArray := prog_1_method_39_code
def yX4_clear : MethodName := ⟨RX4, "clear", "()I"⟩
abbrev cX4_lots : ByteArray := prog_1_method_40_code
def yX4_lots : MethodName := ⟨RX4, "lots", "(III)I"⟩
abbrev cX4_image : ByteArray := prog_1_method_41_code
def yX4_image : MethodName := ⟨RX4, "image", "()I"⟩
abbrev cX4_on : ByteArray := prog_1_method_42_code
def yX4_on : MethodName := ⟨RX4, "on", "()I"⟩
abbrev cX4_count : ByteArray := prog_1_method_43_code
def yX4_count : MethodName := ⟨RX4, "count", "(I)I"⟩
abbrev cX4_refuse : ByteArray := prog_1_method_44_code
def yX4_refuse : MethodName := ⟨RX4, "refuse", "(I)I"⟩
abbrev cX4_refuseLong : ByteArray := prog_1_method_45_code
def yX4_refuseLong : MethodName := ⟨RX4, "refuseLong", "(I)J"⟩
abbrev cX4_minuteRefusal : ByteArray := prog_1_method_46_code
def yX4_minuteRefusal : MethodName := ⟨RX4, "minuteRefusal", "(II)I"⟩
abbrev cX4_setRefusal : ByteArray := prog_1_method_47_code
def yX4_setRefusal : MethodName := ⟨RX4, "setRefusal", "(I)I"⟩
abbrev cX4_areTwoRooms : ByteArray := prog_1_method_48_code
def yX4_areTwoRooms : MethodName := ⟨RX4, "areTwoRooms", "(II)Z"⟩
abbrev cX4_think : ByteArray := prog_1_method_49_code
def yX4_think : MethodName := ⟨RX4, "think", "()V"⟩
abbrev cX4_thoughtMinutes : ByteArray := prog_1_method_50_code
def yX4_thoughtMinutes : MethodName := ⟨RX4, "thoughtMinutes", "(I)I"⟩
abbrev cX4_thinkRow : ByteArray := prog_1_method_51_code
def yX4_thinkRow : MethodName := ⟨RX4, "thinkRow", "(I)V"⟩
abbrev cX4_numberAt : ByteArray := prog_1_method_52_code
def yX4_numberAt : MethodName := ⟨RX4, "numberAt", "(I)I"⟩
abbrev cX4_seekOrder : ByteArray := prog_1_method_53_code
def yX4_seekOrder : MethodName := ⟨RX4, "seekOrder", "(II)V"⟩
abbrev cX4_pathNumber : ByteArray := prog_1_method_54_code
def yX4_pathNumber : MethodName := ⟨RX4, "pathNumber", "(I)I"⟩
abbrev cX4_pathAt : ByteArray := prog_1_method_55_code
def yX4_pathAt : MethodName := ⟨RX4, "pathAt", "(I)I"⟩
abbrev cX4_nextPath : ByteArray := prog_1_method_56_code
def yX4_nextPath : MethodName := ⟨RX4, "nextPath", "(I)Z"⟩
abbrev cX4_exchange : ByteArray := prog_1_method_57_code
def yX4_exchange : MethodName := ⟨RX4, "exchange", "([III)V"⟩
abbrev cX4_neitherWouldChange : ByteArray := prog_1_method_58_code
def yX4_neitherWouldChange : MethodName := ⟨RX4, "neitherWouldChange", "(IIII)Z"⟩
abbrev cX4_clockBehind : ByteArray := prog_1_method_59_code
def yX4_clockBehind : MethodName := ⟨RX4, "clockBehind", "(III)I"⟩
abbrev cX4_mostWork : ByteArray := prog_1_method_60_code
def yX4_mostWork : MethodName := ⟨RX4, "mostWork", "()I"⟩
abbrev cX4_outNow : ByteArray := prog_1_method_61_code
def yX4_outNow : MethodName := ⟨RX4, "outNow", "()I"⟩
abbrev cX4_linenLeft : ByteArray := prog_1_method_62_code
def yX4_linenLeft : MethodName := ⟨RX4, "linenLeft", "()I"⟩
abbrev cX4_kindsByRow : ByteArray := prog_1_method_63_code
def yX4_kindsByRow : MethodName := ⟨RX4, "kindsByRow", "(I)I"⟩
abbrev cX4_figuresByRow : ByteArray := prog_1_method_64_code
def yX4_figuresByRow : MethodName := ⟨RX4, "figuresByRow", "(I)I"⟩
abbrev cX4_rowIsSo : ByteArray := prog_1_method_65_code
def yX4_rowIsSo : MethodName := ⟨RX4, "rowIsSo", "(II)Z"⟩
abbrev cX4_nextSeed : ByteArray := prog_1_method_66_code
def yX4_nextSeed : MethodName := ⟨RX4, "nextSeed", "(I)I"⟩
abbrev cX4_drawBelowTen : ByteArray := prog_1_method_67_code
def yX4_drawBelowTen : MethodName := ⟨RX4, "drawBelowTen", "(I)I"⟩
abbrev cX4_waysToTake : ByteArray := prog_1_method_68_code
def yX4_waysToTake : MethodName := ⟨RX4, "waysToTake", "(II)J"⟩
abbrev cX4_power : ByteArray := prog_1_method_69_code
def yX4_power : MethodName := ⟨RX4, "power", "(JI)J"⟩
abbrev cX4_partOf : ByteArray := prog_1_method_70_code
def yX4_partOf : MethodName := ⟨RX4, "partOf", "(JJI)J"⟩
abbrev cX4_commonDivisor : ByteArray := prog_1_method_71_code
def yX4_commonDivisor : MethodName := ⟨RX4, "commonDivisor", "(JJ)J"⟩
def RX5 : String := "BackFromBreakfastModel"
def TX5 : u_T := fun k => match k with
  | 0 => ("BackFromBreakfastModel", "refused", "[I", true)
  | 1 => ("BackFromBreakfastModel", "kind", "[I", true)
  | 2 => ("BackFromBreakfastModel", "figure", "[I", true)
  | 3 => ("BackFromBreakfastModel", "done", "[I", true)
  | 4 => ("BackFromBreakfastModel", "carded", "[I", true)
  | 5 => ("BackFromBreakfastModel", "place", "[I", true)
  | 6 => ("BackFromBreakfastModel", "load", "[I", true)
  | 7 => ("BackFromBreakfastModel", "clock", "[I", true)
  | 8 => ("BackFromBreakfastModel", "rooms", "I", false)
  | 9 => ("BackFromBreakfastModel", "tape", "[I", true)
  | 10 => ("BackFromBreakfastModel", "sort", "[I", true)
  | 11 => ("BackFromBreakfastModel", "sortAt", "[I", true)
  | 12 => ("BackFromBreakfastModel", "told", "[I", true)
  | 13 => ("BackFromBreakfastModel", "taped", "I", false)
  | 14 => ("BackFromBreakfastModel", "reading", "I", false)
  | 15 => ("BackFromBreakfastModel", "statements", "I", false)
  | 16 => ("BackFromBreakfastModel", "telling", "I", false)
  | 17 => ("BackFromBreakfastModel", "kept", "[I", true)
  | 18 => ("BackFromBreakfastModel", "hasImage", "Z", false)
  | 19 => ("BackFromBreakfastModel", "isKeeping", "Z", false)
  | 20 => ("BackFromBreakfastModel", "cursor", "I", false)
  | 21 => ("BackFromBreakfastModel", "stayingIn", "I", false)
  | 22 => ("BackFromBreakfastModel", "downs", "I", false)
  | 23 => ("BackFromBreakfastModel", "tookMinutes", "I", false)
  | 24 => ("BackFromBreakfastModel", "row", "[I", true)
  | 25 => ("BackFromBreakfastModel", "rowMany", "I", false)
  | 26 => ("BackFromBreakfastModel", "doneBy", "I", false)
  | 27 => ("BackFromBreakfastModel", "listed", "[I", true)
  | 28 => ("BackFromBreakfastModel", "listedMany", "I", false)
  | 29 => ("BackFromBreakfastModel", "orderDone", "I", false)
  | 30 => ("BackFromBreakfastModel", "shareDone", "I", false)
  | 31 => ("BackFromBreakfastModel", "shareClock", "I", false)
  | 32 => ("BackFromBreakfastModel", "longDone", "I", false)
  | 33 => ("BackFromBreakfastModel", "longFirst", "I", false)
  | 34 => ("BackFromBreakfastModel", "ends", "[I", true)
  | _ => ("BackFromBreakfastModel", "lots", "I", false)
def tyX5 : Nat → FieldType := fun k => match k with
  | 0 => .array .int
  | 1 => .array .int
  | 2 => .array .int
  | 3 => .array .int
  | 4 => .array .int
  | 5 => .array .int
  | 6 => .array .int
  | 7 => .array .int
  | 8 => .int
  | 9 => .array .int
  | 10 => .array .int
  | 11 => .array .int
  | 12 => .array .int
  | 13 => .int
  | 14 => .int
  | 15 => .int
  | 16 => .int
  | 17 => .array .int
  | 18 => .boolean
  | 19 => .boolean
  | 20 => .int
  | 21 => .int
  | 22 => .int
  | 23 => .int
  | 24 => .array .int
  | 25 => .int
  | 26 => .int
  | 27 => .array .int
  | 28 => .int
  | 29 => .int
  | 30 => .int
  | 31 => .int
  | 32 => .int
  | 33 => .int
  | 34 => .array .int
  | _ => .int
abbrev wsX50 : List Cond := u_ws RX5 TX5 36
theorem nmX5 : ∀ a, a < 36 → ∀ b, b < 36 → a ≠ b → (TX5 a).2.1 ≠ (TX5 b).2.1 := by decide +kernel
theorem tyX5_ok : ∀ k, k < 36 → parseFieldDescriptor (TX5 k).2.2.1 = some (tyX5 k) := by decide +kernel
abbrev cX5_init : ByteArray := prog_7_method_1_code
def yX5_init : MethodName := ⟨RX5, "<init>", "()V"⟩
abbrev cX5_no : ByteArray := prog_7_method_2_code
def yX5_no : MethodName := ⟨RX5, "no", "(I)I"⟩
abbrev cX5_lowestOf : ByteArray := prog_7_method_3_code
def yX5_lowestOf : MethodName := ⟨RX5, "lowestOf", "(I)J"⟩
abbrev cX5_isIn : ByteArray := prog_7_method_4_code
def yX5_isIn : MethodName := ⟨RX5, "isIn", "(III)Z"⟩
abbrev cX5_bound : ByteArray := prog_7_method_5_code
def yX5_bound : MethodName := ⟨RX5, "bound", "(III)I"⟩
abbrev cX5_has : ByteArray := prog_7_method_6_code
def yX5_has : MethodName := ⟨RX5, "has", "(II)Z"⟩
abbrev cX5_bits : ByteArray := prog_7_method_7_code
def yX5_bits : MethodName := ⟨RX5, "bits", "(I)I"⟩
abbrev cX5_apart : ByteArray := prog_7_method_8_code
def yX5_apart : MethodName := ⟨RX5, "apart", "(II)I"⟩
abbrev cX5_isRoom : ByteArray := prog_7_method_9_code
def yX5_isRoom : MethodName := ⟨RX5, "isRoom", "(I)Z"⟩
abbrev cX5_isMaid : ByteArray := prog_7_method_10_code
def yX5_isMaid : MethodName := ⟨RX5, "isMaid", "(I)Z"⟩
abbrev cX5_areTwo : ByteArray := prog_7_method_11_code
def yX5_areTwo : MethodName := ⟨RX5, "areTwo", "(II)Z"⟩
abbrev cX5_letter : ByteArray := prog_7_method_12_code
def yX5_letter : MethodName := ⟨RX5, "letter", "(I)I"⟩
abbrev cX5_letterNow : ByteArray := prog_7_method_13_code
def yX5_letterNow : MethodName := ⟨RX5, "letterNow", "()I"⟩
abbrev cX5_readsDigits : ByteArray := prog_7_method_14_code
def yX5_readsDigits : MethodName := ⟨RX5, "readsDigits", "(I)Z"⟩
abbrev cX5_kindTold : ByteArray := prog_7_method_15_code
def yX5_kindTold : MethodName := ⟨RX5, "kindTold", "(I)I"⟩
abbrev cX5_readsKind : ByteArray := prog_7_method_16_code
def yX5_readsKind : MethodName := ⟨RX5, "readsKind", "()Z"⟩
abbrev cX5_readsAll : ByteArray := prog_7_method_17_code
def yX5_readsAll : MethodName := ⟨RX5, "readsAll", "(I)Z"⟩
abbrev cX5_statement : ByteArray := prog_7_method_18_code
def yX5_statement : MethodName := ⟨RX5, "statement", "()Z"⟩
abbrev cX5_comesRoom : ByteArray := prog_7_method_19_code
def yX5_comesRoom : MethodName := ⟨RX5, "comesRoom", "(II)Z"⟩
abbrev cX5_comesOther : ByteArray := prog_7_method_20_code
def yX5_comesOther : MethodName := ⟨RX5, "comesOther", "([II)Z"⟩
abbrev cX5_comesMaid : ByteArray := prog_7_method_21_code
def yX5_comesMaid : MethodName := ⟨RX5, "comesMaid", "(III)Z"⟩
abbrev cX5_comesClock : ByteArray := prog_7_method_22_code
def yX5_comesClock : MethodName := ⟨RX5, "comesClock", "(II)Z"⟩
abbrev cX5_comesVisit : ByteArray := prog_7_method_23_code
def yX5_comesVisit : MethodName := ⟨RX5, "comesVisit", "(II)Z"⟩
abbrev cX5_comesBoth : ByteArray := prog_7_method_24_code
def yX5_comesBoth : MethodName := ⟨RX5, "comesBoth", "(I)Z"⟩
abbrev cX5_comesTold : ByteArray := prog_7_method_25_code
def yX5_comesTold : MethodName := ⟨RX5, "comesTold", "(I)Z"⟩
abbrev cX5_corridor : ByteArray := prog_7_method_26_code
def yX5_corridor : MethodName := ⟨RX5, "corridor", "()I"⟩
abbrev cX5_passes : ByteArray := prog_7_method_27_code
def yX5_passes : MethodName := ⟨RX5, "passes", "([I)V"⟩
abbrev cX5_passesAll : ByteArray := prog_7_method_28_code
def yX5_passesAll : MethodName := ⟨RX5, "passesAll", "(IZ)V"⟩
abbrev cX5_minds : ByteArray := prog_7_method_29_code
def yX5_minds : MethodName := ⟨RX5, "minds", "()V"⟩
abbrev cX5_forgets : ByteArray := prog_7_method_30_code
def yX5_forgets : MethodName := ⟨RX5, "forgets", "()V"⟩
abbrev cX5_image : ByteArray := prog_7_method_31_code
def yX5_image : MethodName := ⟨RX5, "image", "()I"⟩
abbrev cX5_on : ByteArray := prog_7_method_32_code
def yX5_on : MethodName := ⟨RX5, "on", "()I"⟩
abbrev cX5_isOutBy : ByteArray := prog_7_method_33_code
def yX5_isOutBy : MethodName := ⟨RX5, "isOutBy", "(III)Z"⟩
abbrev cX5_isOut : ByteArray := prog_7_method_34_code
def yX5_isOut : MethodName := ⟨RX5, "isOut", "(II)Z"⟩
abbrev cX5_work : ByteArray := prog_7_method_35_code
def yX5_work : MethodName := ⟨RX5, "work", "(I)I"⟩
abbrev cX5_linen : ByteArray := prog_7_method_36_code
def yX5_linen : MethodName := ⟨RX5, "linen", "(I)I"⟩
abbrev cX5_tip : ByteArray := prog_7_method_37_code
def yX5_tip : MethodName := ⟨RX5, "tip", "(I)I"⟩
abbrev cX5_setOf : ByteArray := prog_7_method_38_code
def yX5_setOf : MethodName := ⟨RX5, "setOf", "([I)I"⟩
abbrev cX5_manyDone : ByteArray := prog_7_method_39_code
def yX5_manyDone : MethodName := ⟨RX5, "manyDone", "()I"⟩
abbrev cX5_stepsTo : ByteArray := prog_7_method_40_code
def yX5_stepsTo : MethodName := ⟨RX5, "stepsTo", "(II)V"⟩
abbrev cX5_atDoor : ByteArray := prog_7_method_41_code
def yX5_atDoor : MethodName := ⟨RX5, "atDoor", "(III)I"⟩
abbrev cX5_visit : ByteArray := prog_7_method_42_code
def yX5_visit : MethodName := ⟨RX5, "visit", "(II)I"⟩
abbrev cX5_later : ByteArray := prog_7_method_43_code
def yX5_later : MethodName := ⟨RX5, "later", "()I"⟩
abbrev cX5_visitBoth : ByteArray := prog_7_method_44_code
def yX5_visitBoth : MethodName := ⟨RX5, "visitBoth", "(I)I"⟩
abbrev cX5_longRound : ByteArray := prog_7_method_45_code
def yX5_longRound : MethodName := ⟨RX5, "longRound", "(I)V"⟩
abbrev cX5_room : ByteArray := prog_7_method_46_code
def yX5_room : MethodName := ⟨RX5, "room", "(II)I"⟩
abbrev cX5_maid : ByteArray := prog_7_method_47_code
def yX5_maid : MethodName := ⟨RX5, "maid", "(II)I"⟩
abbrev cX5_other : ByteArray := prog_7_method_48_code
def yX5_other : MethodName := ⟨RX5, "other", "([II)I"⟩
abbrev cX5_card : ByteArray := prog_7_method_49_code
def yX5_card : MethodName := ⟨RX5, "card", "(I)I"⟩
abbrev cX5_undo : ByteArray := prog_7_method_50_code
def yX5_undo : MethodName := ⟨RX5, "undo", "(I)I"⟩
abbrev cX5_turn : ByteArray := prog_7_method_51_code
def yX5_turn : MethodName := ⟨RX5, "turn", "(III)I"⟩
abbrev cX5_places : ByteArray := prog_7_method_52_code
def yX5_places : MethodName := ⟨RX5, "places", "(III)I"⟩
abbrev cX5_stays : ByteArray := prog_7_method_53_code
def yX5_stays : MethodName := ⟨RX5, "stays", "(II)I"⟩
abbrev cX5_visits : ByteArray := prog_7_method_54_code
def yX5_visits : MethodName := ⟨RX5, "visits", "(II)I"⟩
abbrev cX5_both : ByteArray := prog_7_method_55_code
def yX5_both : MethodName := ⟨RX5, "both", "(I)I"⟩
abbrev cX5_down : ByteArray := prog_7_method_56_code
def yX5_down : MethodName := ⟨RX5, "down", "(I)I"⟩
abbrev cX5_goesDown : ByteArray := prog_7_method_57_code
def yX5_goesDown : MethodName := ⟨RX5, "goesDown", "(I)V"⟩
abbrev cX5_notMinute : ByteArray := prog_7_method_58_code
def yX5_notMinute : MethodName := ⟨RX5, "notMinute", "(I)I"⟩
abbrev cX5_out : ByteArray := prog_7_method_59_code
def yX5_out : MethodName := ⟨RX5, "out", "(II)I"⟩
abbrev cX5_nextOut : ByteArray := prog_7_method_60_code
def yX5_nextOut : MethodName := ⟨RX5, "nextOut", "(II)I"⟩
abbrev cX5_visitThought : ByteArray := prog_7_method_61_code
def yX5_visitThought : MethodName := ⟨RX5, "visitThought", "(III)I"⟩
abbrev cX5_howLong : ByteArray := prog_7_method_62_code
def yX5_howLong : MethodName := ⟨RX5, "howLong", "(III)I"⟩
abbrev cX5_bothLong : ByteArray := prog_7_method_63_code
def yX5_bothLong : MethodName := ⟨RX5, "bothLong", "(II)I"⟩
abbrev cX5_roundMinutes : ByteArray := prog_7_method_64_code
def yX5_roundMinutes : MethodName := ⟨RX5, "roundMinutes", "(I)I"⟩
abbrev cX5_round : ByteArray := prog_7_method_65_code
def yX5_round : MethodName := ⟨RX5, "round", "(II)I"⟩
abbrev cX5_changesPlaces : ByteArray := prog_7_method_66_code
def yX5_changesPlaces : MethodName := ⟨RX5, "changesPlaces", "(II)V"⟩
abbrev cX5_swap : ByteArray := prog_7_method_67_code
def yX5_swap : MethodName := ⟨RX5, "swap", "(I)I"⟩
abbrev cX5_nearest : ByteArray := prog_7_method_68_code
def yX5_nearest : MethodName := ⟨RX5, "nearest", "(I)I"⟩
abbrev cX5_lists : ByteArray := prog_7_method_69_code
def yX5_lists : MethodName := ⟨RX5, "lists", "(I)V"⟩
abbrev cX5_codes : ByteArray := prog_7_method_70_code
def yX5_codes : MethodName := ⟨RX5, "codes", "()I"⟩
abbrev cX5_orderOf : ByteArray := prog_7_method_71_code
def yX5_orderOf : MethodName := ⟨RX5, "orderOf", "(I)I"⟩
abbrev cX5_orderMinutes : ByteArray := prog_7_method_72_code
def yX5_orderMinutes : MethodName := ⟨RX5, "orderMinutes", "(II)I"⟩
abbrev cX5_order : ByteArray := prog_7_method_73_code
def yX5_order : MethodName := ⟨RX5, "order", "(III)I"⟩
abbrev cX5_shares : ByteArray := prog_7_method_74_code
def yX5_shares : MethodName := ⟨RX5, "shares", "(II)V"⟩
abbrev cX5_share : ByteArray := prog_7_method_75_code
def yX5_share : MethodName := ⟨RX5, "share", "(II)I"⟩
abbrev cX5_together : ByteArray := prog_7_method_76_code
def yX5_together : MethodName := ⟨RX5, "together", "(II)I"⟩
abbrev cX5_longMinutes : ByteArray := prog_7_method_77_code
def yX5_longMinutes : MethodName := ⟨RX5, "longMinutes", "(I)I"⟩
abbrev cX5_leastLoad : ByteArray := prog_7_method_78_code
def yX5_leastLoad : MethodName := ⟨RX5, "leastLoad", "(I)I"⟩
abbrev cX5_saves : ByteArray := prog_7_method_79_code
def yX5_saves : MethodName := ⟨RX5, "saves", "(I)I"⟩
abbrev cX5_waitFor : ByteArray := prog_7_method_80_code
def yX5_waitFor : MethodName := ⟨RX5, "waitFor", "(III)I"⟩
abbrev cX5_first : ByteArray := prog_7_method_81_code
def yX5_first : MethodName := ⟨RX5, "first", "(I)I"⟩
abbrev cX5_cardBest : ByteArray := prog_7_method_82_code
def yX5_cardBest : MethodName := ⟨RX5, "cardBest", "(I)I"⟩
abbrev cX5_tipsOf : ByteArray := prog_7_method_83_code
def yX5_tipsOf : MethodName := ⟨RX5, "tipsOf", "(I)I"⟩
abbrev cX5_tips : ByteArray := prog_7_method_84_code
def yX5_tips : MethodName := ⟨RX5, "tips", "(I)I"⟩
abbrev cX5_dearestNow : ByteArray := prog_7_method_85_code
def yX5_dearestNow : MethodName := ⟨RX5, "dearestNow", "()I"⟩
abbrev cX5_outNow : ByteArray := prog_7_method_86_code
def yX5_outNow : MethodName := ⟨RX5, "outNow", "()I"⟩
abbrev cX5_linenLeft : ByteArray := prog_7_method_87_code
def yX5_linenLeft : MethodName := ⟨RX5, "linenLeft", "()I"⟩
abbrev cX5_dearest : ByteArray := prog_7_method_88_code
def yX5_dearest : MethodName := ⟨RX5, "dearest", "(I)I"⟩
abbrev cX5_overlap : ByteArray := prog_7_method_89_code
def yX5_overlap : MethodName := ⟨RX5, "overlap", "(III)I"⟩
abbrev cX5_findEnds : ByteArray := prog_7_method_90_code
def yX5_findEnds : MethodName := ⟨RX5, "findEnds", "(II)V"⟩
abbrev cX5_two : ByteArray := prog_7_method_91_code
def yX5_two : MethodName := ⟨RX5, "two", "(II)I"⟩
abbrev cX5_divisor : ByteArray := prog_7_method_92_code
def yX5_divisor : MethodName := ⟨RX5, "divisor", "(JJ)J"⟩
abbrev cX5_partOf : ByteArray := prog_7_method_93_code
def yX5_partOf : MethodName := ⟨RX5, "partOf", "(JJI)J"⟩
abbrev cX5_choose : ByteArray := prog_7_method_94_code
def yX5_choose : MethodName := ⟨RX5, "choose", "(II)J"⟩
abbrev cX5_inspected : ByteArray := prog_7_method_95_code
def yX5_inspected : MethodName := ⟨RX5, "inspected", "(II)J"⟩
abbrev cX5_likely : ByteArray := prog_7_method_96_code
def yX5_likely : MethodName := ⟨RX5, "likely", "(IIII)J"⟩
abbrev cX5_mean : ByteArray := prog_7_method_97_code
def yX5_mean : MethodName := ⟨RX5, "mean", "(I)J"⟩
abbrev cX5_isToldSo : ByteArray := prog_7_method_98_code
def yX5_isToldSo : MethodName := ⟨RX5, "isToldSo", "(II)Z"⟩
abbrev cX5_whatIs : ByteArray := prog_7_method_99_code
def yX5_whatIs : MethodName := ⟨RX5, "whatIs", "(II)I"⟩
abbrev cX5_row : ByteArray := prog_7_method_100_code
def yX5_row : MethodName := ⟨RX5, "row", "(I)I"⟩
abbrev cX5_judge : ByteArray := prog_7_method_101_code
def yX5_judge : MethodName := ⟨RX5, "judge", "()I"⟩
abbrev cX5_clear : ByteArray := prog_7_method_102_code
def yX5_clear : MethodName := ⟨RX5, "clear", "()I"⟩
abbrev cX5_draw : ByteArray := prog_7_method_103_code
def yX5_draw : MethodName := ⟨RX5, "draw", "(I)I"⟩
abbrev cX5_lots : ByteArray := prog_7_method_104_code
def yX5_lots : MethodName := ⟨RX5, "lots", "(III)I"⟩
abbrev cX5_count : ByteArray := prog_7_method_105_code
def yX5_count : MethodName := ⟨RX5, "count", "(I)I"⟩
def RJ6 : String := "java/lang/Integer"
def TJ6 : u_T := fun k => match k with
  | _ => ("", "", "", false)
def tyJ6 : Nat → FieldType := fun k => match k with
  | _ => .int
abbrev wsJ60 : List Cond := u_ws RJ6 TJ6 0
theorem nmJ6 : ∀ a, a < 0 → ∀ b, b < 0 → a ≠ b → (TJ6 a).2.1 ≠ (TJ6 b).2.1 := by decide +kernel
theorem tyJ6_ok : ∀ k, k < 0 → parseFieldDescriptor (TJ6 k).2.2.1 = some (tyJ6 k) := by decide +kernel
abbrev cJ6_bitCount_0f7a4 : ByteArray := prog_8_method_49_code
def yJ6_bitCount_0f7a4 : MethodName := ⟨RJ6, "bitCount", "(I)I"⟩
def RJ9 : String := "java/lang/Math"
def TJ9 : u_T := fun k => match k with
  | _ => ("", "", "", false)
def tyJ9 : Nat → FieldType := fun k => match k with
  | _ => .int
abbrev wsJ90 : List Cond := u_ws RJ9 TJ9 0
theorem nmJ9 : ∀ a, a < 0 → ∀ b, b < 0 → a ≠ b → (TJ9 a).2.1 ≠ (TJ9 b).2.1 := by decide +kernel
theorem tyJ9_ok : ∀ k, k < 0 → parseFieldDescriptor (TJ9 k).2.2.1 = some (tyJ9 k) := by decide +kernel
abbrev cJ9_abs_0f7a4 : ByteArray := prog_9_method_59_code
def yJ9_abs_0f7a4 : MethodName := ⟨RJ9, "abs", "(I)I"⟩
abbrev cJ9_max_7cf53 : ByteArray := prog_9_method_65_code
def yJ9_max_7cf53 : MethodName := ⟨RJ9, "max", "(II)I"⟩
def RL : String := "BackFromBreakfastLaw"
abbrev cL_law : ByteArray := code
def yL_law : MethodName := ⟨RL, "law", "([I)Z"⟩
abbrev vwCl : List vw_C := [(RX0, TX0, 4), (RX1, TX1, 10), (RX3, TX3, 2), (RX4, TX4, 10), (RX5, TX5, 36)]
end
section
/-! THE PURE MACHINE: one method's bytecode over a fixed world of 42 cells; the memory is a function; calls are a relation -/
abbrev Mem : Type := Nat → Nat → Int32
abbrev Lcs : Type := List (Option Value)
abbrev Pst : Type := Option Value → Mem → Prop
abbrev Cst : Type := Nat → List Value → Mem → Pst → Prop
/-- an instruction with what it needs resolved: next place, target or index, count, links, constant, switch -/
abbrev PO : Type := Instr × Nat × Nat × Nat × Nat × Nat × Int32 × List (Int32 × Nat)
def up (S : Mem) (k j : Nat) (v : Int32) : Mem := fun a b => if a = k ∧ b = j then v else S a b
abbrev Shp : Type := Nat ⊕ (Nat × List (Option Nat))
def shCo (c : Nat) : Shp := .inr (1, [none, none, none, none, none, some (c + 1), some (c + 2), some (c + 3), some (c + 4), some (c + 5)])
/-- the cells: 0 the class's object, 1, 7, 13 its corridors with five rows each, 19 20 its letters, 21 22 23 its rows, 24 its best; 25 the reference's object, 26 .. 41 its rows -/
def shps : List Shp := [
  .inr (3, [some 1, some 7, some 13, none, some 19, some 21, none, some 22, some 23, some 24]),
  shCo 1, .inl 8, .inl 8, .inl 2, .inl 2, .inl 2,
  shCo 7, .inl 8, .inl 8, .inl 2, .inl 2, .inl 2,
  shCo 13, .inl 8, .inl 8, .inl 2, .inl 2, .inl 2,
  .inr (2, [some 20, none]), .inl 96, .inl 16, .inl 7, .inl 5, .inr (0, [none, none, none, none]),
  .inr (4, [some 26, some 27, some 28, some 29, some 30, some 31, some 32, some 33, none, some 34, some 35, some 36, some 37, none, none, none, none, some 38, none, none, none, none, none, none, some 39, none, none, some 40, none, none, none, none, none, none, some 41, none]), .inl 7, .inl 8, .inl 8, .inl 8, .inl 8, .inl 2, .inl 2, .inl 2, .inl 96, .inl 33, .inl 33, .inl 99, .inl 117, .inl 16, .inl 5, .inl 8]
def fld (k ci j : Nat) : Option (Option Nat) := match shps[k]? with
  | some (.inr (c, ts)) => cond (Nat.beq c ci) (ts[j]?) none
  | _ => none
def alen (k : Nat) : Option Nat := match shps[k]? with
  | some (.inl n) => some n
  | _ => none
def cls (k : Nat) : Option Nat := match shps[k]? with
  | some (.inr (c, _)) => some c
  | _ => none
def kl (L : Lcs) : Nat → Lcs
  | 0 => L
  | j + 1 => match L[j]? with
    | some (some (.long _)) => L.set j none
    | some (some (.double _)) => L.set j none
    | _ => L
def st1 (L : Lcs) (i : Nat) (v : Value) : Lcs := (kl L i).set i (some v)
def st2 (L : Lcs) (i : Nat) (v : Value) : Lcs := ((kl L i).set i (some v)).set (i + 1) none
def tk : Nat → List Value → List Value → Option (List Value × List Value)
  | 0, acc, st => some (acc, st)
  | n + 1, acc, v :: st => tk n (v :: acc) st
  | _ + 1, _, [] => none
def rp : Option Value → List Value → List Value
  | some v, st => v :: st
  | none, st => st
def sle : Nat → List Value → Bool
  | _, [] => true
  | 0, _ :: _ => false
  | n + 1, _ :: r => sle n r
def swx (x : Int32) (nx : Nat → Prop) (d : Nat) : List (Int32 × Nat) → Prop
  | [] => nx d
  | (v, t) :: r => (x = v → nx t) ∧ (¬ x = v → swx x nx d r)
def xs1 (st : List Value) (k : Int32 → List Value → Prop) : Prop := match st with
  | .int x :: r => k x r
  | _ => False
def xs2 (st : List Value) (k : Int32 → Int32 → List Value → Prop) : Prop := match st with
  | .int y :: .int x :: r => k x y r
  | _ => False
def xl1 (st : List Value) (k : Int64 → List Value → Prop) : Prop := match st with
  | .long x :: r => k x r
  | _ => False
def xl2 (st : List Value) (k : Int64 → Int64 → List Value → Prop) : Prop := match st with
  | .long y :: .long x :: r => k x y r
  | _ => False
def xr1 (st : List Value) (k : Nat → List Value → Prop) : Prop := match st with
  | .ref x :: r => k x r
  | _ => False
def xir (st : List Value) (k : Nat → Int32 → List Value → Prop) : Prop := match st with
  | .int x :: .ref q :: r => k q x r
  | _ => False
def xiir (st : List Value) (k : Nat → Int32 → Int32 → List Value → Prop) : Prop := match st with
  | .int x :: .int j :: .ref q :: r => k q j x r
  | _ => False
def xdup (st : List Value) (k : List Value → Prop) : Prop := match st with
  | .int x :: r => k (.int x :: .int x :: r)
  | .ref x :: r => k (.ref x :: .ref x :: r)
  | _ => False
def xldi (v : Option (Option Value)) (k : Int32 → Prop) : Prop := match v with
  | some (some (.int x)) => k x
  | _ => False
def xldl (v : Option (Option Value)) (k : Int64 → Prop) : Prop := match v with
  | some (some (.long x)) => k x
  | _ => False
def xlda (v : Option (Option Value)) (k : Nat → Prop) : Prop := match v with
  | some (some (.ref x)) => k x
  | _ => False
def xfld (f : Option (Option Nat)) (k0 : Prop) (k1 : Nat → Prop) : Prop := match f with
  | some none => k0
  | some (some t) => k1 t
  | none => False
def xlen (f : Option Nat) (sc : Option (Nat × (Nat → Int32))) (k0 : Nat → Prop) (k1 : Nat → (Nat → Int32) → Prop) : Prop := match f with
  | some n => k0 n
  | none => match sc with
    | some (n, xs) => k1 n xs
    | none => False
def xvir (t : Option (List Value × List Value)) (e : Nat) (k : List Value → List Value → Prop) : Prop := match t with
  | some (.ref q :: as, r) => match cls q with
    | some c => cond (Nat.beq c e && sle 4 r) (k (.ref q :: as) r) False
    | none => False
  | _ => False
def xsta (t : Option (List Value × List Value)) (k : List Value → List Value → Prop) : Prop := match t with
  | some (as, r) => cond (sle 4 r) (k as r) False
  | none => False
def xri (st : List Value) (a : Nat) (k : Int32 → Prop) : Prop := match st with
  | [.int x] => match a with
    | 0 => k x
    | _ + 1 => (x = 0 ∨ x = 1) ∧ k x
  | _ => False
def xrl (st : List Value) (k : Int64 → Prop) : Prop := match st with
  | [.long x] => k x
  | _ => False
def xrv (st : List Value) (k : Prop) : Prop := match st with
  | [] => k
  | _ => False
def xbo (e : Nat) (x : Int32) (k : Prop) : Prop := match e with
  | 0 => k
  | _ + 1 => (x = 0 ∨ x = 1) ∧ k
/-- the machine's remainders -/
def irm (x y : Int32) : Int32 := x - x / y * y
def lrm (x y : Int64) : Int64 := x - x / y * y
def exec (C : Cst) (sc : Option (Nat × (Nat → Int32))) (o : PO) (L : Lcs) (st : List Value) (S : Mem) (Q : Pst) (nx : Nat → Lcs → List Value → Mem → Prop) : Prop := match o with
  | (i, n, a, b, _d, e, v, sw) => match i with
    | .iconst _ => nx n L (.int v :: st) S
    | .bipush _ => nx n L (.int v :: st) S
    | .sipush _ => nx n L (.int v :: st) S
    | .ldc _ => nx n L (.int v :: st) S
    | .ldc_w _ => nx n L (.int v :: st) S
    | .lconst _ => nx n L (.long (Int64.ofNat a) :: st) S
    | .ldc2_w _ => nx n L (.long (Int64.ofNat a) :: st) S
    | .iload _ => xldi (L[a]?) fun x => nx n L (.int x :: st) S
    | .iload_n _ => xldi (L[a]?) fun x => nx n L (.int x :: st) S
    | .lload _ => xldl (L[a]?) fun x => nx n L (.long x :: st) S
    | .lload_n _ => xldl (L[a]?) fun x => nx n L (.long x :: st) S
    | .aload_n _ => xlda (L[a]?) fun x => nx n L (.ref x :: st) S
    | .istore _ => xs1 st fun x r => nx n (st1 L a (.int x)) r S
    | .istore_n _ => xs1 st fun x r => nx n (st1 L a (.int x)) r S
    | .lstore _ => xl1 st fun x r => nx n (st2 L a (.long x)) r S
    | .lstore_n _ => xl1 st fun x r => nx n (st2 L a (.long x)) r S
    | .astore_n _ => xr1 st fun x r => nx n (st1 L a (.ref x)) r S
    | .iinc _ _ => xldi (L[a]?) fun x => nx n (st1 L a (.int (x + v))) st S
    | .iadd => xs2 st fun x y r => nx n L (.int (x + y) :: r) S
    | .isub => xs2 st fun x y r => nx n L (.int (x - y) :: r) S
    | .imul => xs2 st fun x y r => nx n L (.int (x * y) :: r) S
    | .iand => xs2 st fun x y r => nx n L (.int (x &&& y) :: r) S
    | .ior => xs2 st fun x y r => nx n L (.int (x ||| y) :: r) S
    | .ixor => xs2 st fun x y r => nx n L (.int (x ^^^ y) :: r) S
    | .ishl => xs2 st fun x y r => nx n L (.int (x <<< (y &&& 31)) :: r) S
    | .ishr => xs2 st fun x y r => nx n L (.int (x >>> (y &&& 31)) :: r) S
    | .iushr => xs2 st fun x y r => nx n L (.int (x.toUInt32 >>> (y.toUInt32 &&& Int32.toUInt32 31)).toInt32 :: r) S
    | .idiv => xs2 st fun x y r => ¬ y = 0 ∧ nx n L (.int (x / y) :: r) S
    | .irem => xs2 st fun x y r => ¬ y = 0 ∧ nx n L (.int (irm x y) :: r) S
    | .ineg => xs1 st fun x r => nx n L (.int (-x) :: r) S
    | .ladd => xl2 st fun x y r => nx n L (.long (x + y) :: r) S
    | .lsub => xl2 st fun x y r => nx n L (.long (x - y) :: r) S
    | .lmul => xl2 st fun x y r => nx n L (.long (x * y) :: r) S
    | .ldiv => xl2 st fun x y r => ¬ y = 0 ∧ nx n L (.long (x / y) :: r) S
    | .lrem => xl2 st fun x y r => ¬ y = 0 ∧ nx n L (.long (lrm x y) :: r) S
    | .lcmp => xl2 st fun x y r => nx n L (.int (lg_cmp x y) :: r) S
    | .i2l => xs1 st fun x r => nx n L (.long x.toInt64 :: r) S
    | .dup => xdup st fun r => nx n L r S
    | .dup2 => xir st fun q x r => nx n L (.int x :: .ref q :: .int x :: .ref q :: r) S
    | .pop => xs1 st fun _ r => nx n L r S
    | .goto _ => nx a L st S
    | .ifCond .eq _ => xs1 st fun x r => (x = 0 → nx a L r S) ∧ (¬ x = 0 → nx n L r S)
    | .ifCond .ne _ => xs1 st fun x r => (x = 0 → nx n L r S) ∧ (¬ x = 0 → nx a L r S)
    | .ifCond .lt _ => xs1 st fun x r => (x < 0 → nx a L r S) ∧ (¬ x < 0 → nx n L r S)
    | .ifCond .ge _ => xs1 st fun x r => (0 ≤ x → nx a L r S) ∧ (¬ 0 ≤ x → nx n L r S)
    | .ifCond .gt _ => xs1 st fun x r => (0 < x → nx a L r S) ∧ (¬ 0 < x → nx n L r S)
    | .ifCond .le _ => xs1 st fun x r => (x ≤ 0 → nx a L r S) ∧ (¬ x ≤ 0 → nx n L r S)
    | .if_icmp .eq _ => xs2 st fun x y r => (x = y → nx a L r S) ∧ (¬ x = y → nx n L r S)
    | .if_icmp .ne _ => xs2 st fun x y r => (x = y → nx n L r S) ∧ (¬ x = y → nx a L r S)
    | .if_icmp .lt _ => xs2 st fun x y r => (x < y → nx a L r S) ∧ (¬ x < y → nx n L r S)
    | .if_icmp .ge _ => xs2 st fun x y r => (y ≤ x → nx a L r S) ∧ (¬ y ≤ x → nx n L r S)
    | .if_icmp .gt _ => xs2 st fun x y r => (y < x → nx a L r S) ∧ (¬ y < x → nx n L r S)
    | .if_icmp .le _ => xs2 st fun x y r => (x ≤ y → nx a L r S) ∧ (¬ x ≤ y → nx n L r S)
    | .tableswitch _ _ _ _ => xs1 st fun x r => swx x (fun t => nx t L r S) a sw
    | .lookupswitch _ _ => xs1 st fun x r => swx x (fun t => nx t L r S) a sw
    | .getfield _ => xr1 st fun q r => xfld (fld q a b) (nx n L (.int (S q b) :: r) S) fun t => nx n L (.ref t :: r) S
    | .putfield _ => xir st fun q x r => xfld (fld q a b) (xbo e x (nx n L r (up S q b x))) fun _ => False
    | .iaload => xir st fun q j r => xlen (alen q) sc (fun m => vp_in j m ∧ nx n L (.int (S q j.toNatClampNeg) :: r) S) fun m xs => q = 99 ∧ vp_in j m ∧ nx n L (.int (xs j.toNatClampNeg) :: r) S
    | .iastore => xiir st fun q j x r => xlen (alen q) none (fun m => vp_in j m ∧ nx n L r (up S q j.toNatClampNeg x)) fun _ _ => False
    | .arraylength => xr1 st fun q r => xlen (alen q) sc (fun m => nx n L (.int (Int32.ofNat m) :: r) S) fun m _ => q = 99 ∧ nx n L (.int (Int32.ofNat m) :: r) S
    | .invokevirtual _ => xvir (tk (b + 1) [] st) e fun as r => C a as S fun v S' => nx n L (rp v r) S'
    | .invokestatic _ => match e with
      | 0 => xsta (tk b [] st) fun as r => C a as S fun v S' => nx n L (rp v r) S'
      | 1 => xs1 st fun x r => cond (sle 4 r) (nx n L (.int (if 0 ≤ x then x else 0 - x) :: r) S) False
      | _ + 2 => xs2 st fun x y r => cond (sle 4 r) (nx n L (.int (if x < y then y else x) :: r) S) False
    | .ireturn => xri st a fun x => Q (some (.int x)) S
    | .lreturn => xrl st fun x => Q (some (.long x)) S
    | .return_ => xrv st (Q none S)
    | _ => False
def stp {α : Type} (pc : Nat) (A B : α) : List Nat → α
  | [] => B
  | p :: r => cond (Nat.beq pc p) A (stp pc A B r)
def entL : List Value → Lcs
  | [] => []
  | .long x :: r => some (.long x) :: none :: entL r
  | .double x :: r => some (.double x) :: none :: entL r
  | v :: r => some v :: entL r
def ent (n : Nat) (as : List Value) : Lcs := entL as ++ List.replicate (n - (entL as).length) none
def cdg (n : Nat) (f : Nat → Option PO) (pc : Nat) : Option PO := cond (Nat.blt pc n) (f pc) none
end
section
/-! THE TABLES: methods by number, links of fields and of calls; each word by its place among the tables -/
abbrev mX0_init : Nat := 0
abbrev mX0_forget : Nat := 1
abbrev mX0_offer : Nat := 2
abbrev mX0_answer : Nat := 3
abbrev mX1_init : Nat := 4
abbrev mX1_become : Nat := 5
abbrev mX1_rooms : Nat := 6
abbrev mX1_hasRoom : Nat := 7
abbrev mX1_addRoom : Nat := 8
abbrev mX1_kindOf : Nat := 9
abbrev mX1_figureOf : Nat := 10
abbrev mX1_setKind : Nat := 11
abbrev mX1_setFigure : Nat := 12
abbrev mX1_isDone : Nat := 13
abbrev mX1_hasCard : Nat := 14
abbrev mX1_changeDone : Nat := 15
abbrev mX1_changeCard : Nat := 16
abbrev mX1_doneBits : Nat := 17
abbrev mX1_cardBits : Nat := 18
abbrev mX1_doneCount : Nat := 19
abbrev mX1_workOf : Nat := 20
abbrev mX1_linenOf : Nat := 21
abbrev mX1_tipOf : Nat := 22
abbrev mX1_tipsOf : Nat := 23
abbrev mX1_keepIn : Nat := 24
abbrev mX1_guestOut : Nat := 25
abbrev mX1_hasMaid : Nat := 26
abbrev mX1_hasPlace : Nat := 27
abbrev mX1_placeOf : Nat := 28
abbrev mX1_loadOf : Nat := 29
abbrev mX1_clockOf : Nat := 30
abbrev mX1_laterClock : Nat := 31
abbrev mX1_timesDown : Nat := 32
abbrev mX1_setPlace : Nat := 33
abbrev mX1_setLoad : Nat := 34
abbrev mX1_setClock : Nat := 35
abbrev mX1_pass : Nat := 36
abbrev mX1_goDown : Nat := 37
abbrev mX1_walkTo : Nat := 38
abbrev mX1_visitBy : Nat := 39
abbrev mX1_visitByBoth : Nat := 40
abbrev mX1_knock : Nat := 41
abbrev mX1_fetchLinen : Nat := 42
abbrev mX1_roundOver : Nat := 43
abbrev mX1_longRound : Nat := 44
abbrev mX2_isKind : Nat := 45
abbrev mX2_ofLetter : Nat := 46
abbrev mX2_isUnderLeft : Nat := 47
abbrev mX2_isOut : Nat := 48
abbrev mX2_work : Nat := 49
abbrev mX2_linen : Nat := 50
abbrev mX2_tip : Nat := 51
abbrev mX3_init : Nat := 52
abbrev mX3_length : Nat := 53
abbrev mX3_isFull : Nat := 54
abbrev mX3_take : Nat := 55
abbrev mX3_forget : Nat := 56
abbrev mX3_tellTo : Nat := 57
abbrev mX3_wrongLetter : Nat := 58
abbrev mX3_behindStatement : Nat := 59
abbrev mX3_wrongInStatement : Nat := 60
abbrev mX3_signsOf : Nat := 61
abbrev mX3_isSign : Nat := 62
abbrev mX3_letterAt : Nat := 63
abbrev mX3_comes : Nat := 64
abbrev mX3_maidComes : Nat := 65
abbrev mX4_init : Nat := 66
abbrev mX4_letter : Nat := 67
abbrev mX4_corridor : Nat := 68
abbrev mX4_room : Nat := 69
abbrev mX4_maid : Nat := 70
abbrev mX4_card : Nat := 71
abbrev mX4_undo : Nat := 72
abbrev mX4_turn : Nat := 73
abbrev mX4_places : Nat := 74
abbrev mX4_stays : Nat := 75
abbrev mX4_visits : Nat := 76
abbrev mX4_both : Nat := 77
abbrev mX4_down : Nat := 78
abbrev mX4_out : Nat := 79
abbrev mX4_nextOut : Nat := 80
abbrev mX4_howLong : Nat := 81
abbrev mX4_bothLong : Nat := 82
abbrev mX4_round : Nat := 83
abbrev mX4_swap : Nat := 84
abbrev mX4_nearest : Nat := 85
abbrev mX4_order : Nat := 86
abbrev mX4_share : Nat := 87
abbrev mX4_together : Nat := 88
abbrev mX4_leastLoad : Nat := 89
abbrev mX4_saves : Nat := 90
abbrev mX4_waitFor : Nat := 91
abbrev mX4_first : Nat := 92
abbrev mX4_cardBest : Nat := 93
abbrev mX4_tips : Nat := 94
abbrev mX4_dearest : Nat := 95
abbrev mX4_overlap : Nat := 96
abbrev mX4_two : Nat := 97
abbrev mX4_inspected : Nat := 98
abbrev mX4_likely : Nat := 99
abbrev mX4_mean : Nat := 100
abbrev mX4_whatIs : Nat := 101
abbrev mX4_row : Nat := 102
abbrev mX4_judge : Nat := 103
abbrev mX4_clear : Nat := 104
abbrev mX4_lots : Nat := 105
abbrev mX4_image : Nat := 106
abbrev mX4_on : Nat := 107
abbrev mX4_count : Nat := 108
abbrev mX4_refuse : Nat := 109
abbrev mX4_refuseLong : Nat := 110
abbrev mX4_minuteRefusal : Nat := 111
abbrev mX4_setRefusal : Nat := 112
abbrev mX4_areTwoRooms : Nat := 113
abbrev mX4_think : Nat := 114
abbrev mX4_thoughtMinutes : Nat := 115
abbrev mX4_thinkRow : Nat := 116
abbrev mX4_numberAt : Nat := 117
abbrev mX4_seekOrder : Nat := 118
abbrev mX4_pathNumber : Nat := 119
abbrev mX4_pathAt : Nat := 120
abbrev mX4_nextPath : Nat := 121
abbrev mX4_exchange : Nat := 122
abbrev mX4_neitherWouldChange : Nat := 123
abbrev mX4_clockBehind : Nat := 124
abbrev mX4_mostWork : Nat := 125
abbrev mX4_outNow : Nat := 126
abbrev mX4_linenLeft : Nat := 127
abbrev mX4_kindsByRow : Nat := 128
abbrev mX4_figuresByRow : Nat := 129
abbrev mX4_rowIsSo : Nat := 130
abbrev mX4_nextSeed : Nat := 131
abbrev mX4_drawBelowTen : Nat := 132
abbrev mX4_waysToTake : Nat := 133
abbrev mX4_power : Nat := 134
abbrev mX4_partOf : Nat := 135
abbrev mX4_commonDivisor : Nat := 136
abbrev mX5_init : Nat := 137
abbrev mX5_no : Nat := 138
abbrev mX5_lowestOf : Nat := 139
abbrev mX5_isIn : Nat := 140
abbrev mX5_bound : Nat := 141
abbrev mX5_has : Nat := 142
abbrev mX5_bits : Nat := 143
abbrev mX5_apart : Nat := 144
abbrev mX5_isRoom : Nat := 145
abbrev mX5_isMaid : Nat := 146
abbrev mX5_areTwo : Nat := 147
abbrev mX5_letter : Nat := 148
abbrev mX5_letterNow : Nat := 149
abbrev mX5_readsDigits : Nat := 150
abbrev mX5_kindTold : Nat := 151
abbrev mX5_readsKind : Nat := 152
abbrev mX5_readsAll : Nat := 153
abbrev mX5_statement : Nat := 154
abbrev mX5_comesRoom : Nat := 155
abbrev mX5_comesOther : Nat := 156
abbrev mX5_comesMaid : Nat := 157
abbrev mX5_comesClock : Nat := 158
abbrev mX5_comesVisit : Nat := 159
abbrev mX5_comesBoth : Nat := 160
abbrev mX5_comesTold : Nat := 161
abbrev mX5_corridor : Nat := 162
abbrev mX5_passes : Nat := 163
abbrev mX5_passesAll : Nat := 164
abbrev mX5_minds : Nat := 165
abbrev mX5_forgets : Nat := 166
abbrev mX5_image : Nat := 167
abbrev mX5_on : Nat := 168
abbrev mX5_isOutBy : Nat := 169
abbrev mX5_isOut : Nat := 170
abbrev mX5_work : Nat := 171
abbrev mX5_linen : Nat := 172
abbrev mX5_tip : Nat := 173
abbrev mX5_setOf : Nat := 174
abbrev mX5_manyDone : Nat := 175
abbrev mX5_stepsTo : Nat := 176
abbrev mX5_atDoor : Nat := 177
abbrev mX5_visit : Nat := 178
abbrev mX5_later : Nat := 179
abbrev mX5_visitBoth : Nat := 180
abbrev mX5_longRound : Nat := 181
abbrev mX5_room : Nat := 182
abbrev mX5_maid : Nat := 183
abbrev mX5_other : Nat := 184
abbrev mX5_card : Nat := 185
abbrev mX5_undo : Nat := 186
abbrev mX5_turn : Nat := 187
abbrev mX5_places : Nat := 188
abbrev mX5_stays : Nat := 189
abbrev mX5_visits : Nat := 190
abbrev mX5_both : Nat := 191
abbrev mX5_down : Nat := 192
abbrev mX5_goesDown : Nat := 193
abbrev mX5_notMinute : Nat := 194
abbrev mX5_out : Nat := 195
abbrev mX5_nextOut : Nat := 196
abbrev mX5_visitThought : Nat := 197
abbrev mX5_howLong : Nat := 198
abbrev mX5_bothLong : Nat := 199
abbrev mX5_roundMinutes : Nat := 200
abbrev mX5_round : Nat := 201
abbrev mX5_changesPlaces : Nat := 202
abbrev mX5_swap : Nat := 203
abbrev mX5_nearest : Nat := 204
abbrev mX5_lists : Nat := 205
abbrev mX5_codes : Nat := 206
abbrev mX5_orderOf : Nat := 207
abbrev mX5_orderMinutes : Nat := 208
abbrev mX5_order : Nat := 209
abbrev mX5_shares : Nat := 210
abbrev mX5_share : Nat := 211
abbrev mX5_together : Nat := 212
abbrev mX5_longMinutes : Nat := 213
abbrev mX5_leastLoad : Nat := 214
abbrev mX5_saves : Nat := 215
abbrev mX5_waitFor : Nat := 216
abbrev mX5_first : Nat := 217
abbrev mX5_cardBest : Nat := 218
abbrev mX5_tipsOf : Nat := 219
abbrev mX5_tips : Nat := 220
abbrev mX5_dearestNow : Nat := 221
abbrev mX5_outNow : Nat := 222
abbrev mX5_linenLeft : Nat := 223
abbrev mX5_dearest : Nat := 224
abbrev mX5_overlap : Nat := 225
abbrev mX5_findEnds : Nat := 226
abbrev mX5_two : Nat := 227
abbrev mX5_divisor : Nat := 228
abbrev mX5_partOf : Nat := 229
abbrev mX5_choose : Nat := 230
abbrev mX5_inspected : Nat := 231
abbrev mX5_likely : Nat := 232
abbrev mX5_mean : Nat := 233
abbrev mX5_isToldSo : Nat := 234
abbrev mX5_whatIs : Nat := 235
abbrev mX5_row : Nat := 236
abbrev mX5_judge : Nat := 237
abbrev mX5_clear : Nat := 238
abbrev mX5_draw : Nat := 239
abbrev mX5_lots : Nat := 240
abbrev mX5_count : Nat := 241
abbrev mL_law : Nat := 242
abbrev mJ6_bitCount_0f7a4 : Nat := 243
abbrev mJ9_abs_0f7a4 : Nat := 244
abbrev mJ9_max_7cf53 : Nat := 245
abbrev MI : Type := MethodName × ByteArray × Nat × Option FieldType × Nat × Bool × Nat × Nat × Nat
def mtab_0 : List MI := [(yX0_init, cX0_init, 1, none, 0, false, 0, 0, 0), (yX0_forget, cX0_forget, 1, none, 0, false, 0, 0, 0), (yX0_offer, cX0_offer, 5, none, 0, false, 3, 0, 0), (yX0_answer, cX0_answer, 2, (some .int), 0, false, 1, 0, 0), (yX1_init, cX1_init, 1, none, 1, false, 0, 0, 0), (yX1_become, cX1_become, 3, none, 1, false, 1, 0, 0), (yX1_rooms, cX1_rooms, 1, (some .int), 1, false, 0, 0, 0), (yX1_hasRoom, cX1_hasRoom, 2, (some .boolean), 1, false, 1, 0, 0), (yX1_addRoom, cX1_addRoom, 3, (some .boolean), 1, false, 2, 0, 0), (yX1_kindOf, cX1_kindOf, 2, (some .int), 1, false, 1, 0, 0), (yX1_figureOf, cX1_figureOf, 2, (some .int), 1, false, 1, 0, 0), (yX1_setKind, cX1_setKind, 3, none, 1, false, 2, 0, 0), (yX1_setFigure, cX1_setFigure, 3, none, 1, false, 2, 0, 0), (yX1_isDone, cX1_isDone, 2, (some .boolean), 1, false, 1, 0, 0), (yX1_hasCard, cX1_hasCard, 2, (some .boolean), 1, false, 1, 0, 0), (yX1_changeDone, cX1_changeDone, 2, none, 1, false, 1, 0, 0), (yX1_changeCard, cX1_changeCard, 2, none, 1, false, 1, 0, 0), (yX1_doneBits, cX1_doneBits, 1, (some .int), 1, false, 0, 0, 0), (yX1_cardBits, cX1_cardBits, 1, (some .int), 1, false, 0, 0, 0), (yX1_doneCount, cX1_doneCount, 1, (some .int), 1, false, 0, 1, 20), (yX1_workOf, cX1_workOf, 2, (some .int), 1, false, 1, 1, 21), (yX1_linenOf, cX1_linenOf, 2, (some .int), 1, false, 1, 1, 21), (yX1_tipOf, cX1_tipOf, 2, (some .int), 1, false, 1, 1, 21), (yX1_tipsOf, cX1_tipsOf, 4, (some .int), 1, false, 1, 2, 42), (yX1_keepIn, cX1_keepIn, 2, none, 1, false, 1, 0, 0), (yX1_guestOut, cX1_guestOut, 3, (some .boolean), 1, false, 2, 1, 22), (yX1_hasMaid, cX1_hasMaid, 2, (some .boolean), 1, false, 1, 0, 0), (yX1_hasPlace, cX1_hasPlace, 2, (some .boolean), 1, false, 1, 0, 0), (yX1_placeOf, cX1_placeOf, 2, (some .int), 1, false, 1, 0, 0), (yX1_loadOf, cX1_loadOf, 2, (some .int), 1, false, 1, 0, 0), (yX1_clockOf, cX1_clockOf, 2, (some .int), 1, false, 1, 0, 0), (yX1_laterClock, cX1_laterClock, 1, (some .int), 1, false, 0, 1, 21), (yX1_timesDown, cX1_timesDown, 1, (some .int), 1, false, 0, 0, 0), (yX1_setPlace, cX1_setPlace, 3, none, 1, false, 2, 0, 0), (yX1_setLoad, cX1_setLoad, 3, none, 1, false, 2, 0, 0), (yX1_setClock, cX1_setClock, 3, none, 1, false, 2, 0, 0), (yX1_pass, cX1_pass, 3, none, 1, false, 2, 0, 0), (yX1_goDown, cX1_goDown, 2, none, 1, false, 1, 2, 44), (yX1_walkTo, cX1_walkTo, 3, none, 1, false, 2, 1, 22), (yX1_visitBy, cX1_visitBy, 3, (some .int), 1, false, 2, 3, 67), (yX1_visitByBoth, cX1_visitByBoth, 3, (some .int), 1, false, 1, 3, 67)]
def mtab_1 : List MI := [(yX1_knock, cX1_knock, 4, (some .int), 1, false, 3, 2, 44), (yX1_fetchLinen, cX1_fetchLinen, 2, none, 1, false, 1, 1, 22), (yX1_roundOver, cX1_roundOver, 4, none, 1, false, 2, 4, 89), (yX1_longRound, cX1_longRound, 2, none, 1, false, 1, 5, 112), (yX2_isKind, cX2_isKind, 1, (some .boolean), 2, true, 1, 0, 0), (yX2_ofLetter, cX2_ofLetter, 1, (some .int), 2, true, 1, 0, 0), (yX2_isUnderLeft, cX2_isUnderLeft, 1, (some .boolean), 2, true, 1, 0, 0), (yX2_isOut, cX2_isOut, 3, (some .boolean), 2, true, 3, 0, 0), (yX2_work, cX2_work, 2, (some .int), 2, true, 2, 0, 0), (yX2_linen, cX2_linen, 1, (some .int), 2, true, 1, 0, 0), (yX2_tip, cX2_tip, 2, (some .int), 2, true, 2, 0, 0), (yX3_init, cX3_init, 1, none, 3, false, 0, 0, 0), (yX3_length, cX3_length, 1, (some .int), 3, false, 0, 0, 0), (yX3_isFull, cX3_isFull, 1, (some .boolean), 3, false, 0, 0, 0), (yX3_take, cX3_take, 2, (some .int), 3, false, 1, 0, 0), (yX3_forget, cX3_forget, 1, none, 3, false, 0, 0, 0), (yX3_tellTo, cX3_tellTo, 5, (some .int), 3, false, 1, 5, 115), (yX3_wrongLetter, cX3_wrongLetter, 4, (some .int), 3, false, 0, 3, 67), (yX3_behindStatement, cX3_behindStatement, 2, (some .int), 3, false, 1, 1, 21), (yX3_wrongInStatement, cX3_wrongInStatement, 4, (some .int), 3, false, 1, 2, 44), (yX3_signsOf, cX3_signsOf, 1, (some .int), 3, true, 1, 0, 0), (yX3_isSign, cX3_isSign, 4, (some .boolean), 3, false, 2, 1, 21), (yX3_letterAt, cX3_letterAt, 2, (some .int), 3, false, 1, 0, 0), (yX3_comes, cX3_comes, 7, (some .boolean), 3, false, 2, 4, 89), (yX3_maidComes, cX3_maidComes, 4, (some .boolean), 3, true, 4, 1, 22), (yX4_init, cX4_init, 1, none, 4, false, 0, 0, 0), (yX4_letter, cX4_letter, 2, (some .int), 4, false, 1, 1, 22), (yX4_corridor, cX4_corridor, 2, (some .int), 4, false, 0, 6, 139), (yX4_room, cX4_room, 3, (some .int), 4, false, 2, 2, 42), (yX4_maid, cX4_maid, 3, (some .int), 4, false, 2, 1, 22), (yX4_card, cX4_card, 2, (some .int), 4, false, 1, 1, 22), (yX4_undo, cX4_undo, 2, (some .int), 4, false, 1, 1, 22), (yX4_turn, cX4_turn, 5, (some .int), 4, false, 3, 1, 22), (yX4_places, cX4_places, 5, (some .int), 4, false, 3, 1, 22), (yX4_stays, cX4_stays, 3, (some .int), 4, false, 2, 1, 22), (yX4_visits, cX4_visits, 4, (some .int), 4, false, 2, 4, 89), (yX4_both, cX4_both, 3, (some .int), 4, false, 1, 4, 89), (yX4_down, cX4_down, 3, (some .int), 4, false, 1, 3, 65), (yX4_out, cX4_out, 4, (some .int), 4, false, 2, 2, 44), (yX4_nextOut, cX4_nextOut, 5, (some .int), 4, false, 2, 2, 44), (yX4_howLong, cX4_howLong, 5, (some .int), 4, false, 3, 4, 89)]
def mtab_2 : List MI := [(yX4_bothLong, cX4_bothLong, 4, (some .int), 4, false, 2, 4, 89), (yX4_round, cX4_round, 3, (some .int), 4, false, 2, 5, 112), (yX4_swap, cX4_swap, 6, (some .int), 4, false, 1, 5, 112), (yX4_nearest, cX4_nearest, 7, (some .int), 4, false, 1, 4, 89), (yX4_order, cX4_order, 5, (some .int), 4, false, 3, 5, 115), (yX4_share, cX4_share, 5, (some .int), 4, false, 2, 5, 112), (yX4_together, cX4_together, 5, (some .int), 4, false, 2, 4, 89), (yX4_leastLoad, cX4_leastLoad, 3, (some .int), 4, false, 1, 6, 133), (yX4_saves, cX4_saves, 4, (some .int), 4, false, 1, 6, 133), (yX4_waitFor, cX4_waitFor, 9, (some .int), 4, false, 3, 4, 89), (yX4_first, cX4_first, 4, (some .int), 4, false, 1, 4, 89), (yX4_cardBest, cX4_cardBest, 6, (some .int), 4, false, 1, 6, 133), (yX4_tips, cX4_tips, 8, (some .int), 4, false, 1, 3, 65), (yX4_dearest, cX4_dearest, 2, (some .int), 4, false, 1, 3, 66), (yX4_overlap, cX4_overlap, 7, (some .int), 4, false, 3, 2, 44), (yX4_two, cX4_two, 3, (some .int), 4, false, 2, 6, 136), (yX4_inspected, cX4_inspected, 7, (some .long), 4, false, 2, 2, 56), (yX4_likely, cX4_likely, 9, (some .long), 4, false, 4, 6, 133), (yX4_mean, cX4_mean, 7, (some .long), 4, false, 1, 2, 56), (yX4_whatIs, cX4_whatIs, 3, (some .int), 4, false, 2, 3, 69), (yX4_row, cX4_row, 2, (some .int), 4, false, 1, 1, 22), (yX4_judge, cX4_judge, 4, (some .int), 4, false, 0, 5, 112), (yX4_clear, cX4_clear, 2, (some .int), 4, false, 0, 0, 0), (yX4_lots, cX4_lots, 9, (some .int), 4, false, 3, 6, 133), (yX4_image, cX4_image, 1, (some .int), 4, false, 0, 2, 40), (yX4_on, cX4_on, 1, (some .int), 4, false, 0, 2, 40), (yX4_count, cX4_count, 2, (some .int), 4, false, 1, 2, 41), (yX4_refuse, cX4_refuse, 3, (some .int), 4, false, 1, 0, 0), (yX4_refuseLong, cX4_refuseLong, 2, (some .long), 4, false, 1, 1, 22), (yX4_minuteRefusal, cX4_minuteRefusal, 3, (some .int), 4, false, 2, 1, 21), (yX4_setRefusal, cX4_setRefusal, 2, (some .int), 4, false, 1, 1, 20), (yX4_areTwoRooms, cX4_areTwoRooms, 3, (some .boolean), 4, false, 2, 1, 21), (yX4_think, cX4_think, 1, none, 4, false, 0, 1, 22), (yX4_thoughtMinutes, cX4_thoughtMinutes, 2, (some .int), 4, false, 1, 1, 21), (yX4_thinkRow, cX4_thinkRow, 4, none, 4, false, 1, 4, 89), (yX4_numberAt, cX4_numberAt, 2, (some .int), 4, false, 1, 0, 0), (yX4_seekOrder, cX4_seekOrder, 7, none, 4, false, 2, 4, 89), (yX4_pathNumber, cX4_pathNumber, 4, (some .int), 4, false, 1, 1, 21), (yX4_pathAt, cX4_pathAt, 2, (some .int), 4, false, 1, 0, 0), (yX4_nextPath, cX4_nextPath, 6, (some .boolean), 4, false, 1, 1, 23), (yX4_exchange, cX4_exchange, 4, none, 4, true, 3, 0, 0)]
def mtab_3 : List MI := [(yX4_neitherWouldChange, cX4_neitherWouldChange, 5, (some .boolean), 4, false, 4, 5, 112), (yX4_clockBehind, cX4_clockBehind, 4, (some .int), 4, false, 3, 4, 89), (yX4_mostWork, cX4_mostWork, 4, (some .int), 4, false, 0, 2, 42), (yX4_outNow, cX4_outNow, 3, (some .int), 4, false, 0, 2, 44), (yX4_linenLeft, cX4_linenLeft, 3, (some .int), 4, false, 0, 2, 42), (yX4_kindsByRow, cX4_kindsByRow, 4, (some .int), 4, false, 1, 2, 46), (yX4_figuresByRow, cX4_figuresByRow, 4, (some .int), 4, false, 1, 2, 46), (yX4_rowIsSo, cX4_rowIsSo, 5, (some .boolean), 4, false, 2, 1, 22), (yX4_nextSeed, cX4_nextSeed, 1, (some .int), 4, true, 1, 0, 0), (yX4_drawBelowTen, cX4_drawBelowTen, 1, (some .int), 4, true, 1, 0, 0), (yX4_waysToTake, cX4_waysToTake, 5, (some .long), 4, true, 2, 0, 0), (yX4_power, cX4_power, 6, (some .long), 4, true, 2, 0, 0), (yX4_partOf, cX4_partOf, 7, (some .long), 4, true, 3, 1, 30), (yX4_commonDivisor, cX4_commonDivisor, 11, (some .long), 4, true, 2, 0, 0), (yX5_init, cX5_init, 1, none, 5, false, 0, 0, 0), (yX5_no, cX5_no, 2, (some .int), 5, false, 1, 0, 0), (yX5_lowestOf, cX5_lowestOf, 2, (some .long), 5, false, 1, 0, 0), (yX5_isIn, cX5_isIn, 3, (some .boolean), 5, true, 3, 0, 0), (yX5_bound, cX5_bound, 3, (some .int), 5, true, 3, 0, 0), (yX5_has, cX5_has, 2, (some .boolean), 5, true, 2, 0, 0), (yX5_bits, cX5_bits, 3, (some .int), 5, true, 1, 0, 0), (yX5_apart, cX5_apart, 2, (some .int), 5, true, 2, 0, 0), (yX5_isRoom, cX5_isRoom, 2, (some .boolean), 5, false, 1, 1, 22), (yX5_isMaid, cX5_isMaid, 1, (some .boolean), 5, true, 1, 1, 22), (yX5_areTwo, cX5_areTwo, 3, (some .boolean), 5, false, 2, 2, 43), (yX5_letter, cX5_letter, 3, (some .int), 5, false, 1, 1, 22), (yX5_letterNow, cX5_letterNow, 1, (some .int), 5, false, 0, 0, 0), (yX5_readsDigits, cX5_readsDigits, 4, (some .boolean), 5, false, 1, 1, 22), (yX5_kindTold, cX5_kindTold, 1, (some .int), 5, true, 1, 0, 0), (yX5_readsKind, cX5_readsKind, 2, (some .boolean), 5, false, 0, 1, 20), (yX5_readsAll, cX5_readsAll, 2, (some .boolean), 5, false, 1, 2, 45), (yX5_statement, cX5_statement, 2, (some .boolean), 5, false, 0, 3, 66), (yX5_comesRoom, cX5_comesRoom, 3, (some .boolean), 5, false, 2, 0, 0), (yX5_comesOther, cX5_comesOther, 3, (some .boolean), 5, false, 2, 2, 43), (yX5_comesMaid, cX5_comesMaid, 4, (some .boolean), 5, false, 3, 2, 42), (yX5_comesClock, cX5_comesClock, 3, (some .boolean), 5, false, 2, 2, 42), (yX5_comesVisit, cX5_comesVisit, 3, (some .boolean), 5, false, 2, 4, 89), (yX5_comesBoth, cX5_comesBoth, 2, (some .boolean), 5, false, 1, 4, 89), (yX5_comesTold, cX5_comesTold, 3, (some .boolean), 5, false, 1, 5, 111), (yX5_corridor, cX5_corridor, 3, (some .int), 5, false, 0, 6, 133), (yX5_passes, cX5_passes, 3, none, 5, false, 1, 0, 0)]
def mtab_4 : List MI := [(yX5_passesAll, cX5_passesAll, 3, none, 5, false, 2, 1, 22), (yX5_minds, cX5_minds, 1, none, 5, false, 0, 2, 44), (yX5_forgets, cX5_forgets, 1, none, 5, false, 0, 2, 44), (yX5_image, cX5_image, 1, (some .int), 5, false, 0, 2, 44), (yX5_on, cX5_on, 1, (some .int), 5, false, 0, 2, 44), (yX5_isOutBy, cX5_isOutBy, 3, (some .boolean), 5, true, 3, 0, 0), (yX5_isOut, cX5_isOut, 3, (some .boolean), 5, false, 2, 1, 22), (yX5_work, cX5_work, 2, (some .int), 5, false, 1, 0, 0), (yX5_linen, cX5_linen, 2, (some .int), 5, false, 1, 0, 0), (yX5_tip, cX5_tip, 2, (some .int), 5, false, 1, 0, 0), (yX5_setOf, cX5_setOf, 4, (some .int), 5, false, 1, 0, 0), (yX5_manyDone, cX5_manyDone, 1, (some .int), 5, false, 0, 1, 23), (yX5_stepsTo, cX5_stepsTo, 3, none, 5, false, 2, 1, 21), (yX5_atDoor, cX5_atDoor, 4, (some .int), 5, false, 3, 2, 44), (yX5_visit, cX5_visit, 3, (some .int), 5, false, 2, 3, 67), (yX5_later, cX5_later, 1, (some .int), 5, false, 0, 0, 0), (yX5_visitBoth, cX5_visitBoth, 3, (some .int), 5, false, 1, 3, 67), (yX5_longRound, cX5_longRound, 3, none, 5, false, 1, 4, 89), (yX5_room, cX5_room, 3, (some .int), 5, false, 2, 2, 43), (yX5_maid, cX5_maid, 3, (some .int), 5, false, 2, 2, 42), (yX5_other, cX5_other, 3, (some .int), 5, false, 2, 2, 43), (yX5_card, cX5_card, 2, (some .int), 5, false, 1, 3, 65), (yX5_undo, cX5_undo, 2, (some .int), 5, false, 1, 3, 65), (yX5_turn, cX5_turn, 6, (some .int), 5, false, 3, 2, 43), (yX5_places, cX5_places, 6, (some .int), 5, false, 3, 2, 42), (yX5_stays, cX5_stays, 4, (some .int), 5, false, 2, 2, 42), (yX5_visits, cX5_visits, 4, (some .int), 5, false, 2, 4, 89), (yX5_both, cX5_both, 3, (some .int), 5, false, 1, 4, 89), (yX5_down, cX5_down, 3, (some .int), 5, false, 1, 2, 42), (yX5_goesDown, cX5_goesDown, 2, none, 5, false, 1, 0, 0), (yX5_notMinute, cX5_notMinute, 1, (some .int), 5, true, 1, 1, 22), (yX5_out, cX5_out, 4, (some .int), 5, false, 2, 2, 44), (yX5_nextOut, cX5_nextOut, 5, (some .int), 5, false, 2, 2, 44), (yX5_visitThought, cX5_visitThought, 6, (some .int), 5, false, 3, 4, 89), (yX5_howLong, cX5_howLong, 6, (some .int), 5, false, 3, 5, 114), (yX5_bothLong, cX5_bothLong, 7, (some .int), 5, false, 2, 4, 89), (yX5_roundMinutes, cX5_roundMinutes, 4, (some .int), 5, false, 1, 4, 89), (yX5_round, cX5_round, 5, (some .int), 5, false, 2, 5, 112), (yX5_changesPlaces, cX5_changesPlaces, 4, none, 5, false, 2, 0, 0), (yX5_swap, cX5_swap, 7, (some .int), 5, false, 1, 5, 112), (yX5_nearest, cX5_nearest, 5, (some .int), 5, false, 1, 5, 114)]
def mtab_5 : List MI := [(yX5_lists, cX5_lists, 3, none, 5, false, 1, 1, 21), (yX5_codes, cX5_codes, 3, (some .int), 5, false, 0, 0, 0), (yX5_orderOf, cX5_orderOf, 7, (some .int), 5, false, 1, 1, 22), (yX5_orderMinutes, cX5_orderMinutes, 6, (some .int), 5, false, 2, 4, 89), (yX5_order, cX5_order, 11, (some .int), 5, false, 3, 5, 114), (yX5_shares, cX5_shares, 4, none, 5, false, 2, 4, 89), (yX5_share, cX5_share, 8, (some .int), 5, false, 2, 5, 112), (yX5_together, cX5_together, 7, (some .int), 5, false, 2, 4, 89), (yX5_longMinutes, cX5_longMinutes, 5, (some .int), 5, false, 1, 4, 89), (yX5_leastLoad, cX5_leastLoad, 5, (some .int), 5, false, 1, 5, 113), (yX5_saves, cX5_saves, 7, (some .int), 5, false, 1, 5, 113), (yX5_waitFor, cX5_waitFor, 8, (some .int), 5, false, 3, 5, 114), (yX5_first, cX5_first, 2, (some .int), 5, false, 1, 5, 113), (yX5_cardBest, cX5_cardBest, 7, (some .int), 5, false, 1, 5, 113), (yX5_tipsOf, cX5_tipsOf, 4, (some .int), 5, false, 1, 1, 21), (yX5_tips, cX5_tips, 6, (some .int), 5, false, 1, 2, 44), (yX5_dearestNow, cX5_dearestNow, 3, (some .int), 5, false, 0, 1, 21), (yX5_outNow, cX5_outNow, 3, (some .int), 5, false, 0, 2, 44), (yX5_linenLeft, cX5_linenLeft, 3, (some .int), 5, false, 0, 1, 21), (yX5_dearest, cX5_dearest, 2, (some .int), 5, false, 1, 3, 66), (yX5_overlap, cX5_overlap, 7, (some .int), 5, false, 3, 3, 65), (yX5_findEnds, cX5_findEnds, 6, none, 5, false, 2, 4, 89), (yX5_two, cX5_two, 4, (some .int), 5, false, 2, 5, 114), (yX5_divisor, cX5_divisor, 10, (some .long), 5, true, 2, 0, 0), (yX5_partOf, cX5_partOf, 5, (some .long), 5, true, 3, 1, 29), (yX5_choose, cX5_choose, 5, (some .long), 5, true, 2, 0, 0), (yX5_inspected, cX5_inspected, 4, (some .long), 5, false, 2, 2, 53), (yX5_likely, cX5_likely, 14, (some .long), 5, false, 4, 5, 113), (yX5_mean, cX5_mean, 6, (some .long), 5, false, 1, 2, 53), (yX5_isToldSo, cX5_isToldSo, 4, (some .boolean), 5, false, 2, 1, 22), (yX5_whatIs, cX5_whatIs, 7, (some .int), 5, false, 2, 2, 45), (yX5_row, cX5_row, 3, (some .int), 5, false, 1, 1, 22), (yX5_judge, cX5_judge, 3, (some .int), 5, false, 0, 5, 112), (yX5_clear, cX5_clear, 2, (some .int), 5, false, 0, 0, 0), (yX5_draw, cX5_draw, 2, (some .int), 5, false, 1, 0, 0), (yX5_lots, cX5_lots, 9, (some .int), 5, false, 3, 5, 111), (yX5_count, cX5_count, 2, (some .int), 5, false, 1, 2, 43), (yL_law, cL_law, 4, (some .boolean), 6, true, 1, 9, 324), (yJ6_bitCount_0f7a4, cJ6_bitCount_0f7a4, 1, (some .int), 7, true, 1, 0, 0), (yJ9_abs_0f7a4, cJ9_abs_0f7a4, 1, (some .int), 8, true, 1, 0, 0), (yJ9_max_7cf53, cJ9_max_7cf53, 2, (some .int), 8, true, 2, 0, 0)]
def mtab : List MI := mtab_0 ++ (mtab_1 ++ (mtab_2 ++ (mtab_3 ++ (mtab_4 ++ (mtab_5)))))
def mi (k : Nat) : MI := mtab.getD k (yL_law, cL_law, 0, none, 0, false, 0, 0, 0)
def mY (k : Nat) : MethodName := (mi k).1
def mB (k : Nat) : ByteArray := (mi k).2.1
def mL (k : Nat) : Nat := (mi k).2.2.1
def mR (k : Nat) : Option FieldType := (mi k).2.2.2.1
def mO (k : Nat) : Nat := (mi k).2.2.2.2.1
def mS (k : Nat) : Bool := (mi k).2.2.2.2.2.1
def mA (k : Nat) : Nat := (mi k).2.2.2.2.2.2.1
def mF (k : Nat) : Nat := (mi k).2.2.2.2.2.2.2.1
def mQ (k : Nat) : Nat := (mi k).2.2.2.2.2.2.2.2
def cN (k : Nat) : String := match k with
  | 0 => RX0
  | 1 => RX1
  | 2 => RX2
  | 3 => RX3
  | 4 => RX4
  | 5 => RX5
  | 6 => RL
  | 7 => RJ6
  | _ => RJ9
/-- the class table of the worlds for a class number -/
def ciO (k : Nat) : Nat := match k with
  | 0 => 0
  | 1 => 1
  | 3 => 2
  | 4 => 3
  | 5 => 4
  | _ => 99
/-- the methods that instructions of the walked ones may call: all but the constructors and the law -/
def mks : List Nat := [1, 2, 3, 5, 6, 7, 8, 9, 10, 11, 12, 13, 14, 15, 16, 17, 18, 19, 20, 21, 22, 23, 24, 25, 26, 27, 28, 29, 30, 31, 32, 33, 34, 35, 36, 37, 38, 39, 40, 41] ++ ([42, 43, 44, 45, 46, 47, 48, 49, 50, 51, 53, 54, 55, 56, 57, 58, 59, 60, 61, 62, 63, 64, 65, 67, 68, 69, 70, 71, 72, 73, 74, 75, 76, 77, 78, 79, 80, 81, 82, 83] ++ ([84, 85, 86, 87, 88, 89, 90, 91, 92, 93, 94, 95, 96, 97, 98, 99, 100, 101, 102, 103, 104, 105, 106, 107, 108, 109, 110, 111, 112, 113, 114, 115, 116, 117, 118, 119, 120, 121, 122, 123] ++ ([124, 125, 126, 127, 128, 129, 130, 131, 132, 133, 134, 135, 136, 138, 139, 140, 141, 142, 143, 144, 145, 146, 147, 148, 149, 150, 151, 152, 153, 154, 155, 156, 157, 158, 159, 160, 161, 162, 163, 164] ++ ([165, 166, 167, 168, 169, 170, 171, 172, 173, 174, 175, 176, 177, 178, 179, 180, 181, 182, 183, 184, 185, 186, 187, 188, 189, 190, 191, 192, 193, 194, 195, 196, 197, 198, 199, 200, 201, 202, 203, 204] ++ ([205, 206, 207, 208, 209, 210, 211, 212, 213, 214, 215, 216, 217, 218, 219, 220, 221, 222, 223, 224, 225, 226, 227, 228, 229, 230, 231, 232, 233, 234, 235, 236, 237, 238, 239, 240, 241, 243])))))
def clk : List (Nat × Nat × Nat) := [(6, 13, 67), (4, 54, 109), (4, 58, 54), (4, 62, 55), (6, 18, 68), (4, 65, 114), (4, 72, 5), (4, 68, 57), (3, 19, 58), (3, 31, 60), (3, 34, 63), (3, 37, 61), (3, 40, 62), (3, 44, 46), (3, 27, 59), (3, 23, 64), (3, 49, 8), (3, 54, 7), (3, 58, 16), (3, 62, 15), (3, 65, 65), (3, 69, 26), (3, 86, 27), (3, 89, 33), (3, 92, 34), (3, 72, 35), (3, 76, 39), (1, 77, 38), (1, 87, 28), (1, 90, 244), (1, 81, 36), (1, 93, 33), (1, 96, 20), (1, 47, 9), (1, 50, 10), (1, 53, 49), (1, 99, 41), (1, 113, 13), (1, 117, 14), (1, 110, 30)] ++ ([(1, 120, 25), (1, 68, 48), (1, 124, 29), (1, 127, 21), (1, 59, 50), (1, 130, 42), (1, 84, 34), (1, 134, 15), (3, 80, 31), (1, 72, 245), (3, 83, 40), (1, 103, 31), (1, 107, 35), (4, 76, 56), (6, 23, 69), (4, 79, 7), (4, 83, 9), (4, 86, 10), (4, 89, 13), (4, 92, 14), (4, 95, 20), (4, 98, 21), (4, 101, 22), (1, 62, 51), (6, 28, 70), (4, 104, 26), (4, 107, 28), (4, 110, 29), (4, 113, 30), (6, 32, 71), (4, 116, 16), (6, 36, 72), (4, 120, 15), (6, 40, 73), (4, 123, 45), (4, 128, 11), (4, 132, 12), (6, 45, 74), (4, 135, 27), (4, 138, 33)] ++ ([(4, 141, 34), (6, 49, 75), (4, 144, 36), (6, 53, 76), (4, 147, 39), (6, 57, 77), (4, 151, 40), (4, 154, 31), (6, 61, 78), (4, 158, 37), (4, 161, 115), (6, 65, 79), (4, 164, 111), (4, 167, 25), (6, 69, 80), (6, 73, 81), (6, 77, 82), (6, 81, 83), (4, 171, 116), (4, 270, 117), (4, 174, 17), (4, 177, 32), (6, 85, 84), (4, 180, 122), (6, 89, 85), (4, 184, 6), (6, 93, 86), (4, 187, 112), (4, 190, 243), (4, 195, 118), (4, 201, 1), (4, 287, 120), (4, 290, 119), (4, 205, 19), (1, 41, 243), (4, 208, 2), (4, 293, 121), (4, 198, 3), (6, 97, 87), (4, 202, 43)] ++ ([(1, 137, 39), (6, 101, 88), (4, 212, 113), (6, 105, 89), (4, 215, 44), (1, 140, 43), (6, 109, 90), (4, 218, 245), (6, 113, 91), (6, 117, 92), (4, 223, 47), (6, 121, 93), (6, 125, 94), (4, 226, 23), (1, 65, 22), (4, 229, 244), (6, 129, 95), (4, 232, 125), (4, 235, 126), (4, 238, 127), (6, 133, 96), (6, 137, 97), (4, 241, 123), (4, 296, 124), (6, 141, 98), (4, 245, 110), (4, 249, 133), (4, 253, 135), (4, 310, 136), (6, 146, 99), (4, 257, 24), (4, 260, 134), (6, 151, 100), (6, 156, 101), (4, 264, 128), (4, 300, 130), (4, 303, 48), (4, 267, 129), (6, 160, 102), (6, 164, 103)] ++ ([(6, 168, 104), (6, 172, 105), (4, 273, 131), (4, 276, 132), (6, 176, 106), (6, 180, 107), (6, 184, 108), (4, 279, 18), (4, 282, 53), (6, 17, 148), (5, 72, 141), (5, 79, 138), (6, 22, 162), (5, 142, 154), (5, 86, 149), (5, 106, 153), (5, 96, 152), (5, 93, 151), (5, 100, 150), (5, 64, 140), (5, 145, 164), (5, 159, 163), (5, 149, 161), (5, 122, 155), (5, 126, 156), (5, 68, 145), (5, 130, 157), (5, 109, 146), (5, 133, 158), (5, 136, 159), (5, 112, 178), (5, 197, 176), (5, 185, 144), (5, 201, 171), (5, 204, 177), (5, 188, 170), (5, 172, 142), (5, 175, 169), (5, 191, 172), (5, 139, 160)] ++ ([(5, 116, 180), (5, 119, 179), (6, 179, 167), (5, 166, 175), (5, 178, 174), (5, 182, 143), (6, 183, 168), (6, 27, 182), (5, 207, 173), (6, 31, 183), (6, 35, 185), (5, 210, 184), (6, 39, 186), (6, 44, 187), (6, 48, 188), (6, 52, 189), (6, 56, 190), (6, 60, 191), (6, 64, 192), (5, 214, 193), (6, 68, 195), (5, 218, 194), (6, 72, 196), (6, 76, 198), (5, 230, 197), (5, 221, 165), (5, 227, 166), (6, 80, 199), (6, 84, 201), (5, 239, 200), (6, 88, 203), (5, 242, 202), (6, 92, 204), (6, 96, 209), (5, 251, 205), (5, 255, 206), (5, 258, 207), (5, 261, 208), (6, 100, 211), (5, 270, 210)] ++ ([(6, 104, 212), (5, 273, 147), (6, 108, 214), (5, 282, 213), (6, 112, 215), (6, 116, 216), (6, 120, 217), (6, 124, 218), (6, 128, 220), (5, 285, 219), (6, 132, 224), (5, 288, 221), (5, 291, 222), (5, 294, 223), (6, 136, 225), (6, 140, 227), (5, 297, 226), (6, 145, 231), (5, 304, 139), (5, 308, 230), (5, 312, 229), (5, 300, 228), (6, 150, 232), (6, 155, 233), (6, 159, 235), (5, 316, 234), (6, 163, 236), (6, 167, 237), (6, 171, 238), (6, 175, 240), (5, 325, 239), (5, 328, 181), (6, 187, 241)]))))))
def flk : List (Nat × Nat × Nat × Nat) := [(1, 7, 1, 0), (1, 13, 1, 1), (1, 16, 1, 2), (1, 19, 1, 3), (1, 22, 1, 4), (1, 25, 1, 5), (1, 29, 1, 6), (1, 32, 1, 7), (1, 35, 1, 8), (1, 38, 1, 9), (3, 11, 2, 0), (3, 15, 2, 1), (0, 7, 0, 0), (0, 13, 0, 1), (0, 17, 0, 2), (0, 20, 0, 3), (4, 10, 3, 0), (4, 16, 3, 1), (4, 19, 3, 2), (4, 22, 3, 3), (4, 29, 3, 4), (4, 33, 3, 5), (4, 37, 3, 6), (4, 41, 3, 7), (4, 44, 3, 8), (4, 50, 3, 9), (5, 7, 4, 0), (5, 13, 4, 1), (5, 16, 4, 2), (5, 19, 4, 3), (5, 22, 4, 4), (5, 25, 4, 5), (5, 28, 4, 6), (5, 31, 4, 7), (5, 60, 4, 8), (5, 34, 4, 9), (5, 37, 4, 10), (5, 40, 4, 11), (5, 43, 4, 12), (5, 76, 4, 13)] ++ ([(5, 83, 4, 14), (5, 103, 4, 15), (5, 90, 4, 16), (5, 46, 4, 17), (5, 163, 4, 18), (5, 152, 4, 19), (5, 156, 4, 20), (5, 169, 4, 21), (5, 194, 4, 22), (5, 224, 4, 23), (5, 49, 4, 24), (5, 233, 4, 25), (5, 236, 4, 26), (5, 52, 4, 27), (5, 245, 4, 28), (5, 248, 4, 29), (5, 264, 4, 30), (5, 267, 4, 31), (5, 279, 4, 32), (5, 276, 4, 33), (5, 55, 4, 34), (5, 319, 4, 35)])
def Wt : List Cond := lw_tbl.filter goodWord
theorem Wt_of {w : Cond} (h : w ∈ lw_tbl) (hg : goodWord w = true) : w ∈ Wt := List.mem_filter.mpr ⟨h, hg⟩
theorem tb1_in {i : Nat} {w : Cond} (h : tables_1_1[i]? = some w) (hg : goodWord w = true) : w ∈ Wt := Wt_of (List.mem_append_right _ (List.mem_append_left _ (List.mem_of_getElem? h))) hg
theorem tb2_in {i : Nat} {w : Cond} (h : tables_1_2[i]? = some w) (hg : goodWord w = true) : w ∈ Wt := Wt_of (List.mem_append_right _ (List.mem_append_right _ (List.mem_append_left _ (List.mem_of_getElem? h)))) hg
theorem tb3_in {i : Nat} {w : Cond} (h : tables_1_3[i]? = some w) (hg : goodWord w = true) : w ∈ Wt := Wt_of (List.mem_append_right _ (List.mem_append_right _ (List.mem_append_right _ (List.mem_append_left _ (List.mem_of_getElem? h))))) hg
theorem tb4_in {i : Nat} {w : Cond} (h : tables_1_4[i]? = some w) (hg : goodWord w = true) : w ∈ Wt := Wt_of (List.mem_append_right _ (List.mem_append_right _ (List.mem_append_right _ (List.mem_append_right _ (List.mem_append_left _ (List.mem_of_getElem? h)))))) hg
theorem tb5_in {i : Nat} {w : Cond} (h : tables_1_5[i]? = some w) (hg : goodWord w = true) : w ∈ Wt := Wt_of (List.mem_append_right _ (List.mem_append_right _ (List.mem_append_right _ (List.mem_append_right _ (List.mem_append_right _ (List.mem_append_left _ (List.mem_of_getElem? h))))))) hg
theorem tb6_in {i : Nat} {w : Cond} (h : tables_1_6[i]? = some w) (hg : goodWord w = true) : w ∈ Wt := Wt_of (List.mem_append_right _ (List.mem_append_right _ (List.mem_append_right _ (List.mem_append_right _ (List.mem_append_right _ (List.mem_append_right _ (List.mem_of_getElem? h))))))) hg
theorem pr1_in {i n : Nat} {y : MethodName} (h : lw_privs_1[i]? = some (y, n)) : Cond.selects y.cls y y ∈ Wt := Wt_of (List.mem_append_left _ (List.mem_map.mpr ⟨(y, n), List.mem_append_left _ (List.mem_of_getElem? h), rfl⟩)) rfl
theorem pr2_in {i n : Nat} {y : MethodName} (h : lw_privs_2[i]? = some (y, n)) : Cond.selects y.cls y y ∈ Wt := Wt_of (List.mem_append_left _ (List.mem_map.mpr ⟨(y, n), List.mem_append_right _ (List.mem_append_left _ (List.mem_of_getElem? h)), rfl⟩)) rfl
theorem pr3_in {i n : Nat} {y : MethodName} (h : lw_privs_3[i]? = some (y, n)) : Cond.selects y.cls y y ∈ Wt := Wt_of (List.mem_append_left _ (List.mem_map.mpr ⟨(y, n), List.mem_append_right _ (List.mem_append_right _ (List.mem_append_left _ (List.mem_of_getElem? h))), rfl⟩)) rfl
theorem pr4_in {i n : Nat} {y : MethodName} (h : lw_privs_4[i]? = some (y, n)) : Cond.selects y.cls y y ∈ Wt := Wt_of (List.mem_append_left _ (List.mem_map.mpr ⟨(y, n), List.mem_append_right _ (List.mem_append_right _ (List.mem_append_right _ (List.mem_append_left _ (List.mem_of_getElem? h)))), rfl⟩)) rfl
theorem pr5_in {i n : Nat} {y : MethodName} (h : lw_privs_5[i]? = some (y, n)) : Cond.selects y.cls y y ∈ Wt := Wt_of (List.mem_append_left _ (List.mem_map.mpr ⟨(y, n), List.mem_append_right _ (List.mem_append_right _ (List.mem_append_right _ (List.mem_append_right _ (List.mem_of_getElem? h)))), rfl⟩)) rfl
def FOK (q : Nat × Nat × Nat × Nat) : Prop := ∃ (C : String) (T : u_T) (N : Nat), vwCl[q.2.2.1]? = some (C, T, N) ∧ q.2.2.2 < N ∧ (T q.2.2.2).1 = C ∧ Cond.fieldLink (cN q.1) q.2.1 C (T q.2.2.2).2.1 (T q.2.2.2).2.2.1 ∈ Wt
def COK (q : Nat × Nat × Nat) : Prop := Cond.methodLink (cN q.1) q.2.1 (mY q.2.2) ∈ Wt
def plainC (C : String) : Prop := (C ≠ "java/lang/invoke/MethodHandle" ∧ C ≠ "java/lang/invoke/VarHandle") ∧ plainName C = true
def pdn (d : String) (n : Nat) : Prop := (parseMethodDescriptor d).map (fun d => d.parameters.length) = some n
def MOK (k : Nat) : Prop := Cond.code (mY k) (mB k) (mL k) (mR k) ∈ Wt ∧ cond (mS k) (Cond.static (mY k)) (Cond.instanceMethod (mY k)) ∈ Wt ∧ Cond.initialized (mY k).cls ∈ Wt ∧ (mS k = true ∨ (Cond.selects (mY k).cls (mY k) (mY k) ∈ Wt ∧ ∃ (T : u_T) (N : Nat), vwCl[ciO (mO k)]? = some ((mY k).cls, T, N))) ∧ (mY k).cls = cN (mO k) ∧ plainC (mY k).cls ∧ pdn (mY k).desc (mA k)
theorem pl_RX0 : plainC RX0 := by unfold plainC; decide +kernel
theorem pl_RX1 : plainC RX1 := by unfold plainC; decide +kernel
theorem pl_RX2 : plainC RX2 := by unfold plainC; decide +kernel
theorem pl_RX3 : plainC RX3 := by unfold plainC; decide +kernel
theorem pl_RX4 : plainC RX4 := by unfold plainC; decide +kernel
theorem pl_RX5 : plainC RX5 := by unfold plainC; decide +kernel
theorem pl_RL : plainC RL := by unfold plainC; decide +kernel
theorem pl_RJ6 : plainC RJ6 := by unfold plainC; decide +kernel
theorem pd_0 : pdn "()I" 0 := by unfold pdn; decide +kernel
theorem pd_1 : pdn "()V" 0 := by unfold pdn; decide +kernel
theorem pd_2 : pdn "()Z" 0 := by unfold pdn; decide +kernel
theorem pd_3 : pdn "(I)I" 1 := by unfold pdn; decide +kernel
theorem pd_4 : pdn "(I)J" 1 := by unfold pdn; decide +kernel
theorem pd_5 : pdn "(I)V" 1 := by unfold pdn; decide +kernel
theorem pd_6 : pdn "(I)Z" 1 := by unfold pdn; decide +kernel
theorem pd_7 : pdn "(II)I" 2 := by unfold pdn; decide +kernel
theorem pd_8 : pdn "(II)J" 2 := by unfold pdn; decide +kernel
theorem pd_9 : pdn "(II)V" 2 := by unfold pdn; decide +kernel
theorem pd_10 : pdn "(II)Z" 2 := by unfold pdn; decide +kernel
theorem pd_11 : pdn "(III)I" 3 := by unfold pdn; decide +kernel
theorem pd_12 : pdn "(III)V" 3 := by unfold pdn; decide +kernel
theorem pd_13 : pdn "(III)Z" 3 := by unfold pdn; decide +kernel
theorem pd_14 : pdn "(IIII)J" 4 := by unfold pdn; decide +kernel
theorem pd_15 : pdn "(IIII)Z" 4 := by unfold pdn; decide +kernel
theorem pd_16 : pdn "(ILBackFromBreakfast$Corridor;)Z" 2 := by unfold pdn; decide +kernel
theorem pd_17 : pdn "(IZ)V" 2 := by unfold pdn; decide +kernel
theorem pd_18 : pdn "(JI)J" 2 := by unfold pdn; decide +kernel
theorem pd_19 : pdn "(JJ)J" 2 := by unfold pdn; decide +kernel
theorem pd_20 : pdn "(JJI)J" 3 := by unfold pdn; decide +kernel
theorem pd_21 : pdn "(LBackFromBreakfast$Corridor;)I" 1 := by unfold pdn; decide +kernel
theorem pd_22 : pdn "(LBackFromBreakfast$Corridor;)V" 1 := by unfold pdn; decide +kernel
theorem pd_23 : pdn "(LBackFromBreakfast$Corridor;III)Z" 4 := by unfold pdn; decide +kernel
theorem pd_24 : pdn "([I)I" 1 := by unfold pdn; decide +kernel
theorem pd_25 : pdn "([I)V" 1 := by unfold pdn; decide +kernel
theorem pd_26 : pdn "([I)Z" 1 := by unfold pdn; decide +kernel
theorem pd_27 : pdn "([II)I" 2 := by unfold pdn; decide +kernel
theorem pd_28 : pdn "([II)Z" 2 := by unfold pdn; decide +kernel
theorem pd_29 : pdn "([III)V" 3 := by unfold pdn; decide +kernel
theorem fko_0 : FOK (1, 7, 1, 0) := ⟨_, _, _, rfl, Nat.le_of_ble_eq_true rfl, rfl, tb1_in (i := 23) rfl rfl⟩
theorem fko_1 : FOK (1, 13, 1, 1) := ⟨_, _, _, rfl, Nat.le_of_ble_eq_true rfl, rfl, tb1_in (i := 24) rfl rfl⟩
theorem fko_2 : FOK (1, 16, 1, 2) := ⟨_, _, _, rfl, Nat.le_of_ble_eq_true rfl, rfl, tb1_in (i := 25) rfl rfl⟩
theorem fko_3 : FOK (1, 19, 1, 3) := ⟨_, _, _, rfl, Nat.le_of_ble_eq_true rfl, rfl, tb1_in (i := 26) rfl rfl⟩
theorem fko_4 : FOK (1, 22, 1, 4) := ⟨_, _, _, rfl, Nat.le_of_ble_eq_true rfl, rfl, tb1_in (i := 27) rfl rfl⟩
theorem fko_5 : FOK (1, 25, 1, 5) := ⟨_, _, _, rfl, Nat.le_of_ble_eq_true rfl, rfl, tb1_in (i := 28) rfl rfl⟩
theorem fko_6 : FOK (1, 29, 1, 6) := ⟨_, _, _, rfl, Nat.le_of_ble_eq_true rfl, rfl, tb1_in (i := 29) rfl rfl⟩
theorem fko_7 : FOK (1, 32, 1, 7) := ⟨_, _, _, rfl, Nat.le_of_ble_eq_true rfl, rfl, tb1_in (i := 30) rfl rfl⟩
theorem fko_8 : FOK (1, 35, 1, 8) := ⟨_, _, _, rfl, Nat.le_of_ble_eq_true rfl, rfl, tb1_in (i := 31) rfl rfl⟩
theorem fko_9 : FOK (1, 38, 1, 9) := ⟨_, _, _, rfl, Nat.le_of_ble_eq_true rfl, rfl, tb1_in (i := 32) rfl rfl⟩
theorem fko_10 : FOK (3, 11, 2, 0) := ⟨_, _, _, rfl, Nat.le_of_ble_eq_true rfl, rfl, tb1_in (i := 61) rfl rfl⟩
theorem fko_11 : FOK (3, 15, 2, 1) := ⟨_, _, _, rfl, Nat.le_of_ble_eq_true rfl, rfl, tb1_in (i := 62) rfl rfl⟩
theorem fko_12 : FOK (0, 7, 0, 0) := ⟨_, _, _, rfl, Nat.le_of_ble_eq_true rfl, rfl, tb1_in (i := 74) rfl rfl⟩
theorem fko_13 : FOK (0, 13, 0, 1) := ⟨_, _, _, rfl, Nat.le_of_ble_eq_true rfl, rfl, tb1_in (i := 75) rfl rfl⟩
theorem fko_14 : FOK (0, 17, 0, 2) := ⟨_, _, _, rfl, Nat.le_of_ble_eq_true rfl, rfl, tb1_in (i := 76) rfl rfl⟩
theorem fko_15 : FOK (0, 20, 0, 3) := ⟨_, _, _, rfl, Nat.le_of_ble_eq_true rfl, rfl, tb1_in (i := 77) rfl rfl⟩
theorem fko_16 : FOK (4, 10, 3, 0) := ⟨_, _, _, rfl, Nat.le_of_ble_eq_true rfl, rfl, tb1_in (i := 87) rfl rfl⟩
theorem fko_17 : FOK (4, 16, 3, 1) := ⟨_, _, _, rfl, Nat.le_of_ble_eq_true rfl, rfl, tb1_in (i := 88) rfl rfl⟩
theorem fko_18 : FOK (4, 19, 3, 2) := ⟨_, _, _, rfl, Nat.le_of_ble_eq_true rfl, rfl, tb1_in (i := 89) rfl rfl⟩
theorem fko_19 : FOK (4, 22, 3, 3) := ⟨_, _, _, rfl, Nat.le_of_ble_eq_true rfl, rfl, tb1_in (i := 90) rfl rfl⟩
theorem fko_20 : FOK (4, 29, 3, 4) := ⟨_, _, _, rfl, Nat.le_of_ble_eq_true rfl, rfl, tb1_in (i := 91) rfl rfl⟩
theorem fko_21 : FOK (4, 33, 3, 5) := ⟨_, _, _, rfl, Nat.le_of_ble_eq_true rfl, rfl, tb1_in (i := 92) rfl rfl⟩
theorem fko_22 : FOK (4, 37, 3, 6) := ⟨_, _, _, rfl, Nat.le_of_ble_eq_true rfl, rfl, tb1_in (i := 93) rfl rfl⟩
theorem fko_23 : FOK (4, 41, 3, 7) := ⟨_, _, _, rfl, Nat.le_of_ble_eq_true rfl, rfl, tb1_in (i := 94) rfl rfl⟩
theorem fko_24 : FOK (4, 44, 3, 8) := ⟨_, _, _, rfl, Nat.le_of_ble_eq_true rfl, rfl, tb1_in (i := 95) rfl rfl⟩
theorem fko_25 : FOK (4, 50, 3, 9) := ⟨_, _, _, rfl, Nat.le_of_ble_eq_true rfl, rfl, tb1_in (i := 96) rfl rfl⟩
theorem fko_26 : FOK (5, 7, 4, 0) := ⟨_, _, _, rfl, Nat.le_of_ble_eq_true rfl, rfl, tb3_in (i := 209) rfl rfl⟩
theorem fko_27 : FOK (5, 13, 4, 1) := ⟨_, _, _, rfl, Nat.le_of_ble_eq_true rfl, rfl, tb3_in (i := 210) rfl rfl⟩
theorem fko_28 : FOK (5, 16, 4, 2) := ⟨_, _, _, rfl, Nat.le_of_ble_eq_true rfl, rfl, tb3_in (i := 211) rfl rfl⟩
theorem fko_29 : FOK (5, 19, 4, 3) := ⟨_, _, _, rfl, Nat.le_of_ble_eq_true rfl, rfl, tb3_in (i := 212) rfl rfl⟩
theorem fko_30 : FOK (5, 22, 4, 4) := ⟨_, _, _, rfl, Nat.le_of_ble_eq_true rfl, rfl, tb3_in (i := 213) rfl rfl⟩
theorem fko_31 : FOK (5, 25, 4, 5) := ⟨_, _, _, rfl, Nat.le_of_ble_eq_true rfl, rfl, tb3_in (i := 214) rfl rfl⟩
theorem fko_32 : FOK (5, 28, 4, 6) := ⟨_, _, _, rfl, Nat.le_of_ble_eq_true rfl, rfl, tb3_in (i := 215) rfl rfl⟩
theorem fko_33 : FOK (5, 31, 4, 7) := ⟨_, _, _, rfl, Nat.le_of_ble_eq_true rfl, rfl, tb3_in (i := 216) rfl rfl⟩
theorem fko_34 : FOK (5, 60, 4, 8) := ⟨_, _, _, rfl, Nat.le_of_ble_eq_true rfl, rfl, tb3_in (i := 217) rfl rfl⟩
theorem fko_35 : FOK (5, 34, 4, 9) := ⟨_, _, _, rfl, Nat.le_of_ble_eq_true rfl, rfl, tb3_in (i := 218) rfl rfl⟩
theorem fko_36 : FOK (5, 37, 4, 10) := ⟨_, _, _, rfl, Nat.le_of_ble_eq_true rfl, rfl, tb3_in (i := 219) rfl rfl⟩
theorem fko_37 : FOK (5, 40, 4, 11) := ⟨_, _, _, rfl, Nat.le_of_ble_eq_true rfl, rfl, tb3_in (i := 220) rfl rfl⟩
theorem fko_38 : FOK (5, 43, 4, 12) := ⟨_, _, _, rfl, Nat.le_of_ble_eq_true rfl, rfl, tb3_in (i := 221) rfl rfl⟩
theorem fko_39 : FOK (5, 76, 4, 13) := ⟨_, _, _, rfl, Nat.le_of_ble_eq_true rfl, rfl, tb3_in (i := 222) rfl rfl⟩
theorem fko_40 : FOK (5, 83, 4, 14) := ⟨_, _, _, rfl, Nat.le_of_ble_eq_true rfl, rfl, tb3_in (i := 223) rfl rfl⟩
theorem fko_41 : FOK (5, 103, 4, 15) := ⟨_, _, _, rfl, Nat.le_of_ble_eq_true rfl, rfl, tb3_in (i := 224) rfl rfl⟩
theorem fko_42 : FOK (5, 90, 4, 16) := ⟨_, _, _, rfl, Nat.le_of_ble_eq_true rfl, rfl, tb3_in (i := 225) rfl rfl⟩
theorem fko_43 : FOK (5, 46, 4, 17) := ⟨_, _, _, rfl, Nat.le_of_ble_eq_true rfl, rfl, tb3_in (i := 226) rfl rfl⟩
theorem fko_44 : FOK (5, 163, 4, 18) := ⟨_, _, _, rfl, Nat.le_of_ble_eq_true rfl, rfl, tb3_in (i := 227) rfl rfl⟩
theorem fko_45 : FOK (5, 152, 4, 19) := ⟨_, _, _, rfl, Nat.le_of_ble_eq_true rfl, rfl, tb3_in (i := 228) rfl rfl⟩
theorem fko_46 : FOK (5, 156, 4, 20) := ⟨_, _, _, rfl, Nat.le_of_ble_eq_true rfl, rfl, tb3_in (i := 229) rfl rfl⟩
theorem fko_47 : FOK (5, 169, 4, 21) := ⟨_, _, _, rfl, Nat.le_of_ble_eq_true rfl, rfl, tb3_in (i := 230) rfl rfl⟩
theorem fko_48 : FOK (5, 194, 4, 22) := ⟨_, _, _, rfl, Nat.le_of_ble_eq_true rfl, rfl, tb3_in (i := 231) rfl rfl⟩
theorem fko_49 : FOK (5, 224, 4, 23) := ⟨_, _, _, rfl, Nat.le_of_ble_eq_true rfl, rfl, tb3_in (i := 232) rfl rfl⟩
theorem fko_50 : FOK (5, 49, 4, 24) := ⟨_, _, _, rfl, Nat.le_of_ble_eq_true rfl, rfl, tb3_in (i := 233) rfl rfl⟩
theorem fko_51 : FOK (5, 233, 4, 25) := ⟨_, _, _, rfl, Nat.le_of_ble_eq_true rfl, rfl, tb3_in (i := 234) rfl rfl⟩
theorem fko_52 : FOK (5, 236, 4, 26) := ⟨_, _, _, rfl, Nat.le_of_ble_eq_true rfl, rfl, tb3_in (i := 235) rfl rfl⟩
theorem fko_53 : FOK (5, 52, 4, 27) := ⟨_, _, _, rfl, Nat.le_of_ble_eq_true rfl, rfl, tb3_in (i := 236) rfl rfl⟩
theorem fko_54 : FOK (5, 245, 4, 28) := ⟨_, _, _, rfl, Nat.le_of_ble_eq_true rfl, rfl, tb3_in (i := 237) rfl rfl⟩
theorem fko_55 : FOK (5, 248, 4, 29) := ⟨_, _, _, rfl, Nat.le_of_ble_eq_true rfl, rfl, tb3_in (i := 238) rfl rfl⟩
theorem fko_56 : FOK (5, 264, 4, 30) := ⟨_, _, _, rfl, Nat.le_of_ble_eq_true rfl, rfl, tb3_in (i := 239) rfl rfl⟩
theorem fko_57 : FOK (5, 267, 4, 31) := ⟨_, _, _, rfl, Nat.le_of_ble_eq_true rfl, rfl, tb4_in (i := 0) rfl rfl⟩
theorem fko_58 : FOK (5, 279, 4, 32) := ⟨_, _, _, rfl, Nat.le_of_ble_eq_true rfl, rfl, tb4_in (i := 1) rfl rfl⟩
theorem fko_59 : FOK (5, 276, 4, 33) := ⟨_, _, _, rfl, Nat.le_of_ble_eq_true rfl, rfl, tb4_in (i := 2) rfl rfl⟩
theorem fko_60 : FOK (5, 55, 4, 34) := ⟨_, _, _, rfl, Nat.le_of_ble_eq_true rfl, rfl, tb4_in (i := 3) rfl rfl⟩
theorem fko_61 : FOK (5, 319, 4, 35) := ⟨_, _, _, rfl, Nat.le_of_ble_eq_true rfl, rfl, tb4_in (i := 4) rfl rfl⟩
theorem cko_0 : COK (6, 13, 67) := tb1_in (i := 118) rfl rfl
theorem cko_1 : COK (4, 54, 109) := tb1_in (i := 122) rfl rfl
theorem cko_2 : COK (4, 58, 54) := tb1_in (i := 126) rfl rfl
theorem cko_3 : COK (4, 62, 55) := tb1_in (i := 130) rfl rfl
theorem cko_4 : COK (6, 18, 68) := tb1_in (i := 134) rfl rfl
theorem cko_5 : COK (4, 65, 114) := tb1_in (i := 138) rfl rfl
theorem cko_6 : COK (4, 72, 5) := tb1_in (i := 142) rfl rfl
theorem cko_7 : COK (4, 68, 57) := tb1_in (i := 146) rfl rfl
theorem cko_8 : COK (3, 19, 58) := tb1_in (i := 150) rfl rfl
theorem cko_9 : COK (3, 31, 60) := tb1_in (i := 154) rfl rfl
theorem cko_10 : COK (3, 34, 63) := tb1_in (i := 158) rfl rfl
theorem cko_11 : COK (3, 37, 61) := tb1_in (i := 162) rfl rfl
theorem cko_12 : COK (3, 40, 62) := tb1_in (i := 165) rfl rfl
theorem cko_13 : COK (3, 44, 46) := tb1_in (i := 169) rfl rfl
theorem cko_14 : COK (3, 27, 59) := tb1_in (i := 172) rfl rfl
theorem cko_15 : COK (3, 23, 64) := tb1_in (i := 176) rfl rfl
theorem cko_16 : COK (3, 49, 8) := tb1_in (i := 180) rfl rfl
theorem cko_17 : COK (3, 54, 7) := tb1_in (i := 184) rfl rfl
theorem cko_18 : COK (3, 58, 16) := tb1_in (i := 188) rfl rfl
theorem cko_19 : COK (3, 62, 15) := tb1_in (i := 192) rfl rfl
theorem cko_20 : COK (3, 65, 65) := tb1_in (i := 196) rfl rfl
theorem cko_21 : COK (3, 69, 26) := tb1_in (i := 199) rfl rfl
theorem cko_22 : COK (3, 86, 27) := tb1_in (i := 203) rfl rfl
theorem cko_23 : COK (3, 89, 33) := tb1_in (i := 207) rfl rfl
theorem cko_24 : COK (3, 92, 34) := tb1_in (i := 211) rfl rfl
theorem cko_25 : COK (3, 72, 35) := tb1_in (i := 215) rfl rfl
theorem cko_26 : COK (3, 76, 39) := tb1_in (i := 219) rfl rfl
theorem cko_27 : COK (1, 77, 38) := tb1_in (i := 223) rfl rfl
theorem cko_28 : COK (1, 87, 28) := tb1_in (i := 227) rfl rfl
theorem cko_29 : COK (1, 90, 244) := tb1_in (i := 231) rfl rfl
theorem cko_30 : COK (1, 81, 36) := tb1_in (i := 234) rfl rfl
theorem cko_31 : COK (1, 93, 33) := tb1_in (i := 238) rfl rfl
theorem cko_32 : COK (1, 96, 20) := tb1_in (i := 239) rfl rfl
theorem cko_33 : COK (1, 47, 9) := tb2_in (i := 3) rfl rfl
theorem cko_34 : COK (1, 50, 10) := tb2_in (i := 7) rfl rfl
theorem cko_35 : COK (1, 53, 49) := tb2_in (i := 11) rfl rfl
theorem cko_36 : COK (1, 99, 41) := tb2_in (i := 14) rfl rfl
theorem cko_37 : COK (1, 113, 13) := tb2_in (i := 18) rfl rfl
theorem cko_38 : COK (1, 117, 14) := tb2_in (i := 22) rfl rfl
theorem cko_39 : COK (1, 110, 30) := tb2_in (i := 26) rfl rfl
theorem cko_40 : COK (1, 120, 25) := tb2_in (i := 30) rfl rfl
theorem cko_41 : COK (1, 68, 48) := tb2_in (i := 34) rfl rfl
theorem cko_42 : COK (1, 124, 29) := tb2_in (i := 37) rfl rfl
theorem cko_43 : COK (1, 127, 21) := tb2_in (i := 41) rfl rfl
theorem cko_44 : COK (1, 59, 50) := tb2_in (i := 45) rfl rfl
theorem cko_45 : COK (1, 130, 42) := tb2_in (i := 48) rfl rfl
theorem cko_46 : COK (1, 84, 34) := tb2_in (i := 52) rfl rfl
theorem cko_47 : COK (1, 134, 15) := tb2_in (i := 53) rfl rfl
theorem cko_48 : COK (3, 80, 31) := tb2_in (i := 54) rfl rfl
theorem cko_49 : COK (1, 72, 245) := tb2_in (i := 58) rfl rfl
theorem cko_50 : COK (3, 83, 40) := tb2_in (i := 61) rfl rfl
theorem cko_51 : COK (1, 103, 31) := tb2_in (i := 65) rfl rfl
theorem cko_52 : COK (1, 107, 35) := tb2_in (i := 66) rfl rfl
theorem cko_53 : COK (4, 76, 56) := tb2_in (i := 67) rfl rfl
theorem cko_54 : COK (6, 23, 69) := tb2_in (i := 71) rfl rfl
theorem cko_55 : COK (4, 79, 7) := tb2_in (i := 75) rfl rfl
theorem cko_56 : COK (4, 83, 9) := tb2_in (i := 76) rfl rfl
theorem cko_57 : COK (4, 86, 10) := tb2_in (i := 77) rfl rfl
theorem cko_58 : COK (4, 89, 13) := tb2_in (i := 78) rfl rfl
theorem cko_59 : COK (4, 92, 14) := tb2_in (i := 79) rfl rfl
theorem cko_60 : COK (4, 95, 20) := tb2_in (i := 80) rfl rfl
theorem cko_61 : COK (4, 98, 21) := tb2_in (i := 81) rfl rfl
theorem cko_62 : COK (4, 101, 22) := tb2_in (i := 82) rfl rfl
theorem cko_63 : COK (1, 62, 51) := tb2_in (i := 86) rfl rfl
theorem cko_64 : COK (6, 28, 70) := tb2_in (i := 89) rfl rfl
theorem cko_65 : COK (4, 104, 26) := tb2_in (i := 93) rfl rfl
theorem cko_66 : COK (4, 107, 28) := tb2_in (i := 94) rfl rfl
theorem cko_67 : COK (4, 110, 29) := tb2_in (i := 95) rfl rfl
theorem cko_68 : COK (4, 113, 30) := tb2_in (i := 96) rfl rfl
theorem cko_69 : COK (6, 32, 71) := tb2_in (i := 97) rfl rfl
theorem cko_70 : COK (4, 116, 16) := tb2_in (i := 101) rfl rfl
theorem cko_71 : COK (6, 36, 72) := tb2_in (i := 102) rfl rfl
theorem cko_72 : COK (4, 120, 15) := tb2_in (i := 106) rfl rfl
theorem cko_73 : COK (6, 40, 73) := tb2_in (i := 107) rfl rfl
theorem cko_74 : COK (4, 123, 45) := tb2_in (i := 111) rfl rfl
theorem cko_75 : COK (4, 128, 11) := tb2_in (i := 114) rfl rfl
theorem cko_76 : COK (4, 132, 12) := tb2_in (i := 118) rfl rfl
theorem cko_77 : COK (6, 45, 74) := tb2_in (i := 122) rfl rfl
theorem cko_78 : COK (4, 135, 27) := tb2_in (i := 126) rfl rfl
theorem cko_79 : COK (4, 138, 33) := tb2_in (i := 127) rfl rfl
theorem cko_80 : COK (4, 141, 34) := tb2_in (i := 128) rfl rfl
theorem cko_81 : COK (6, 49, 75) := tb2_in (i := 129) rfl rfl
theorem cko_82 : COK (4, 144, 36) := tb2_in (i := 133) rfl rfl
theorem cko_83 : COK (6, 53, 76) := tb2_in (i := 134) rfl rfl
theorem cko_84 : COK (4, 147, 39) := tb2_in (i := 138) rfl rfl
theorem cko_85 : COK (6, 57, 77) := tb2_in (i := 139) rfl rfl
theorem cko_86 : COK (4, 151, 40) := tb2_in (i := 143) rfl rfl
theorem cko_87 : COK (4, 154, 31) := tb2_in (i := 144) rfl rfl
theorem cko_88 : COK (6, 61, 78) := tb2_in (i := 145) rfl rfl
theorem cko_89 : COK (4, 158, 37) := tb2_in (i := 149) rfl rfl
theorem cko_90 : COK (4, 161, 115) := tb2_in (i := 153) rfl rfl
theorem cko_91 : COK (6, 65, 79) := tb2_in (i := 157) rfl rfl
theorem cko_92 : COK (4, 164, 111) := tb2_in (i := 161) rfl rfl
theorem cko_93 : COK (4, 167, 25) := tb2_in (i := 165) rfl rfl
theorem cko_94 : COK (6, 69, 80) := tb2_in (i := 166) rfl rfl
theorem cko_95 : COK (6, 73, 81) := tb2_in (i := 170) rfl rfl
theorem cko_96 : COK (6, 77, 82) := tb2_in (i := 174) rfl rfl
theorem cko_97 : COK (6, 81, 83) := tb2_in (i := 178) rfl rfl
theorem cko_98 : COK (4, 171, 116) := tb2_in (i := 182) rfl rfl
theorem cko_99 : COK (4, 270, 117) := tb2_in (i := 186) rfl rfl
theorem cko_100 : COK (4, 174, 17) := tb2_in (i := 190) rfl rfl
theorem cko_101 : COK (4, 177, 32) := tb2_in (i := 194) rfl rfl
theorem cko_102 : COK (6, 85, 84) := tb2_in (i := 198) rfl rfl
theorem cko_103 : COK (4, 180, 122) := tb2_in (i := 202) rfl rfl
theorem cko_104 : COK (6, 89, 85) := tb2_in (i := 205) rfl rfl
theorem cko_105 : COK (4, 184, 6) := tb2_in (i := 209) rfl rfl
theorem cko_106 : COK (6, 93, 86) := tb2_in (i := 213) rfl rfl
theorem cko_107 : COK (4, 187, 112) := tb2_in (i := 217) rfl rfl
theorem cko_108 : COK (4, 190, 243) := tb2_in (i := 221) rfl rfl
theorem cko_109 : COK (4, 195, 118) := tb2_in (i := 227) rfl rfl
theorem cko_110 : COK (4, 201, 1) := tb2_in (i := 231) rfl rfl
theorem cko_111 : COK (4, 287, 120) := tb2_in (i := 235) rfl rfl
theorem cko_112 : COK (4, 290, 119) := tb2_in (i := 239) rfl rfl
theorem cko_113 : COK (4, 205, 19) := tb3_in (i := 3) rfl rfl
theorem cko_114 : COK (1, 41, 243) := tb3_in (i := 7) rfl rfl
theorem cko_115 : COK (4, 208, 2) := tb3_in (i := 8) rfl rfl
theorem cko_116 : COK (4, 293, 121) := tb3_in (i := 12) rfl rfl
theorem cko_117 : COK (4, 198, 3) := tb3_in (i := 16) rfl rfl
theorem cko_118 : COK (6, 97, 87) := tb3_in (i := 20) rfl rfl
theorem cko_119 : COK (4, 202, 43) := tb3_in (i := 24) rfl rfl
theorem cko_120 : COK (1, 137, 39) := tb3_in (i := 28) rfl rfl
theorem cko_121 : COK (6, 101, 88) := tb3_in (i := 29) rfl rfl
theorem cko_122 : COK (4, 212, 113) := tb3_in (i := 33) rfl rfl
theorem cko_123 : COK (6, 105, 89) := tb3_in (i := 37) rfl rfl
theorem cko_124 : COK (4, 215, 44) := tb3_in (i := 41) rfl rfl
theorem cko_125 : COK (1, 140, 43) := tb3_in (i := 45) rfl rfl
theorem cko_126 : COK (6, 109, 90) := tb3_in (i := 46) rfl rfl
theorem cko_127 : COK (4, 218, 245) := tb3_in (i := 50) rfl rfl
theorem cko_128 : COK (6, 113, 91) := tb3_in (i := 51) rfl rfl
theorem cko_129 : COK (6, 117, 92) := tb3_in (i := 55) rfl rfl
theorem cko_130 : COK (4, 223, 47) := tb3_in (i := 59) rfl rfl
theorem cko_131 : COK (6, 121, 93) := tb3_in (i := 62) rfl rfl
theorem cko_132 : COK (6, 125, 94) := tb3_in (i := 66) rfl rfl
theorem cko_133 : COK (4, 226, 23) := tb3_in (i := 70) rfl rfl
theorem cko_134 : COK (1, 65, 22) := tb3_in (i := 74) rfl rfl
theorem cko_135 : COK (4, 229, 244) := tb3_in (i := 75) rfl rfl
theorem cko_136 : COK (6, 129, 95) := tb3_in (i := 76) rfl rfl
theorem cko_137 : COK (4, 232, 125) := tb3_in (i := 80) rfl rfl
theorem cko_138 : COK (4, 235, 126) := tb3_in (i := 84) rfl rfl
theorem cko_139 : COK (4, 238, 127) := tb3_in (i := 88) rfl rfl
theorem cko_140 : COK (6, 133, 96) := tb3_in (i := 92) rfl rfl
theorem cko_141 : COK (6, 137, 97) := tb3_in (i := 96) rfl rfl
theorem cko_142 : COK (4, 241, 123) := tb3_in (i := 100) rfl rfl
theorem cko_143 : COK (4, 296, 124) := tb3_in (i := 104) rfl rfl
theorem cko_144 : COK (6, 141, 98) := tb3_in (i := 108) rfl rfl
theorem cko_145 : COK (4, 245, 110) := tb3_in (i := 112) rfl rfl
theorem cko_146 : COK (4, 249, 133) := tb3_in (i := 117) rfl rfl
theorem cko_147 : COK (4, 253, 135) := tb3_in (i := 120) rfl rfl
theorem cko_148 : COK (4, 310, 136) := tb3_in (i := 123) rfl rfl
theorem cko_149 : COK (6, 146, 99) := tb3_in (i := 126) rfl rfl
theorem cko_150 : COK (4, 257, 24) := tb3_in (i := 130) rfl rfl
theorem cko_151 : COK (4, 260, 134) := tb3_in (i := 134) rfl rfl
theorem cko_152 : COK (6, 151, 100) := tb3_in (i := 137) rfl rfl
theorem cko_153 : COK (6, 156, 101) := tb3_in (i := 141) rfl rfl
theorem cko_154 : COK (4, 264, 128) := tb3_in (i := 145) rfl rfl
theorem cko_155 : COK (4, 300, 130) := tb3_in (i := 149) rfl rfl
theorem cko_156 : COK (4, 303, 48) := tb3_in (i := 153) rfl rfl
theorem cko_157 : COK (4, 267, 129) := tb3_in (i := 154) rfl rfl
theorem cko_158 : COK (6, 160, 102) := tb3_in (i := 158) rfl rfl
theorem cko_159 : COK (6, 164, 103) := tb3_in (i := 162) rfl rfl
theorem cko_160 : COK (6, 168, 104) := tb3_in (i := 166) rfl rfl
theorem cko_161 : COK (6, 172, 105) := tb3_in (i := 170) rfl rfl
theorem cko_162 : COK (4, 273, 131) := tb3_in (i := 174) rfl rfl
theorem cko_163 : COK (4, 276, 132) := tb3_in (i := 179) rfl rfl
theorem cko_164 : COK (6, 176, 106) := tb3_in (i := 183) rfl rfl
theorem cko_165 : COK (6, 180, 107) := tb3_in (i := 187) rfl rfl
theorem cko_166 : COK (6, 184, 108) := tb3_in (i := 191) rfl rfl
theorem cko_167 : COK (4, 279, 18) := tb3_in (i := 195) rfl rfl
theorem cko_168 : COK (4, 282, 53) := tb3_in (i := 199) rfl rfl
theorem cko_169 : COK (6, 17, 148) := tb4_in (i := 78) rfl rfl
theorem cko_170 : COK (5, 72, 141) := tb4_in (i := 82) rfl rfl
theorem cko_171 : COK (5, 79, 138) := tb4_in (i := 85) rfl rfl
theorem cko_172 : COK (6, 22, 162) := tb4_in (i := 89) rfl rfl
theorem cko_173 : COK (5, 142, 154) := tb4_in (i := 93) rfl rfl
theorem cko_174 : COK (5, 86, 149) := tb4_in (i := 97) rfl rfl
theorem cko_175 : COK (5, 106, 153) := tb4_in (i := 101) rfl rfl
theorem cko_176 : COK (5, 96, 152) := tb4_in (i := 105) rfl rfl
theorem cko_177 : COK (5, 93, 151) := tb4_in (i := 109) rfl rfl
theorem cko_178 : COK (5, 100, 150) := tb4_in (i := 112) rfl rfl
theorem cko_179 : COK (5, 64, 140) := tb4_in (i := 116) rfl rfl
theorem cko_180 : COK (5, 145, 164) := tb4_in (i := 119) rfl rfl
theorem cko_181 : COK (5, 159, 163) := tb4_in (i := 123) rfl rfl
theorem cko_182 : COK (5, 149, 161) := tb4_in (i := 127) rfl rfl
theorem cko_183 : COK (5, 122, 155) := tb4_in (i := 131) rfl rfl
theorem cko_184 : COK (5, 126, 156) := tb4_in (i := 135) rfl rfl
theorem cko_185 : COK (5, 68, 145) := tb4_in (i := 139) rfl rfl
theorem cko_186 : COK (5, 130, 157) := tb4_in (i := 143) rfl rfl
theorem cko_187 : COK (5, 109, 146) := tb4_in (i := 147) rfl rfl
theorem cko_188 : COK (5, 133, 158) := tb4_in (i := 150) rfl rfl
theorem cko_189 : COK (5, 136, 159) := tb4_in (i := 154) rfl rfl
theorem cko_190 : COK (5, 112, 178) := tb4_in (i := 158) rfl rfl
theorem cko_191 : COK (5, 197, 176) := tb4_in (i := 162) rfl rfl
theorem cko_192 : COK (5, 185, 144) := tb4_in (i := 166) rfl rfl
theorem cko_193 : COK (5, 201, 171) := tb4_in (i := 169) rfl rfl
theorem cko_194 : COK (5, 204, 177) := tb4_in (i := 173) rfl rfl
theorem cko_195 : COK (5, 188, 170) := tb4_in (i := 177) rfl rfl
theorem cko_196 : COK (5, 172, 142) := tb4_in (i := 181) rfl rfl
theorem cko_197 : COK (5, 175, 169) := tb4_in (i := 184) rfl rfl
theorem cko_198 : COK (5, 191, 172) := tb4_in (i := 187) rfl rfl
theorem cko_199 : COK (5, 139, 160) := tb4_in (i := 191) rfl rfl
theorem cko_200 : COK (5, 116, 180) := tb4_in (i := 195) rfl rfl
theorem cko_201 : COK (5, 119, 179) := tb4_in (i := 199) rfl rfl
theorem cko_202 : COK (6, 179, 167) := tb4_in (i := 203) rfl rfl
theorem cko_203 : COK (5, 166, 175) := tb4_in (i := 207) rfl rfl
theorem cko_204 : COK (5, 178, 174) := tb4_in (i := 211) rfl rfl
theorem cko_205 : COK (5, 182, 143) := tb4_in (i := 215) rfl rfl
theorem cko_206 : COK (6, 183, 168) := tb4_in (i := 218) rfl rfl
theorem cko_207 : COK (6, 27, 182) := tb4_in (i := 222) rfl rfl
theorem cko_208 : COK (5, 207, 173) := tb4_in (i := 226) rfl rfl
theorem cko_209 : COK (6, 31, 183) := tb4_in (i := 230) rfl rfl
theorem cko_210 : COK (6, 35, 185) := tb4_in (i := 234) rfl rfl
theorem cko_211 : COK (5, 210, 184) := tb4_in (i := 238) rfl rfl
theorem cko_212 : COK (6, 39, 186) := tb5_in (i := 2) rfl rfl
theorem cko_213 : COK (6, 44, 187) := tb5_in (i := 6) rfl rfl
theorem cko_214 : COK (6, 48, 188) := tb5_in (i := 10) rfl rfl
theorem cko_215 : COK (6, 52, 189) := tb5_in (i := 14) rfl rfl
theorem cko_216 : COK (6, 56, 190) := tb5_in (i := 18) rfl rfl
theorem cko_217 : COK (6, 60, 191) := tb5_in (i := 22) rfl rfl
theorem cko_218 : COK (6, 64, 192) := tb5_in (i := 26) rfl rfl
theorem cko_219 : COK (5, 214, 193) := tb5_in (i := 30) rfl rfl
theorem cko_220 : COK (6, 68, 195) := tb5_in (i := 34) rfl rfl
theorem cko_221 : COK (5, 218, 194) := tb5_in (i := 38) rfl rfl
theorem cko_222 : COK (6, 72, 196) := tb5_in (i := 41) rfl rfl
theorem cko_223 : COK (6, 76, 198) := tb5_in (i := 45) rfl rfl
theorem cko_224 : COK (5, 230, 197) := tb5_in (i := 49) rfl rfl
theorem cko_225 : COK (5, 221, 165) := tb5_in (i := 53) rfl rfl
theorem cko_226 : COK (5, 227, 166) := tb5_in (i := 57) rfl rfl
theorem cko_227 : COK (6, 80, 199) := tb5_in (i := 61) rfl rfl
theorem cko_228 : COK (6, 84, 201) := tb5_in (i := 65) rfl rfl
theorem cko_229 : COK (5, 239, 200) := tb5_in (i := 69) rfl rfl
theorem cko_230 : COK (6, 88, 203) := tb5_in (i := 73) rfl rfl
theorem cko_231 : COK (5, 242, 202) := tb5_in (i := 77) rfl rfl
theorem cko_232 : COK (6, 92, 204) := tb5_in (i := 81) rfl rfl
theorem cko_233 : COK (6, 96, 209) := tb5_in (i := 85) rfl rfl
theorem cko_234 : COK (5, 251, 205) := tb5_in (i := 89) rfl rfl
theorem cko_235 : COK (5, 255, 206) := tb5_in (i := 94) rfl rfl
theorem cko_236 : COK (5, 258, 207) := tb5_in (i := 98) rfl rfl
theorem cko_237 : COK (5, 261, 208) := tb5_in (i := 102) rfl rfl
theorem cko_238 : COK (6, 100, 211) := tb5_in (i := 106) rfl rfl
theorem cko_239 : COK (5, 270, 210) := tb5_in (i := 110) rfl rfl
theorem cko_240 : COK (6, 104, 212) := tb5_in (i := 114) rfl rfl
theorem cko_241 : COK (5, 273, 147) := tb5_in (i := 118) rfl rfl
theorem cko_242 : COK (6, 108, 214) := tb5_in (i := 122) rfl rfl
theorem cko_243 : COK (5, 282, 213) := tb5_in (i := 126) rfl rfl
theorem cko_244 : COK (6, 112, 215) := tb5_in (i := 130) rfl rfl
theorem cko_245 : COK (6, 116, 216) := tb5_in (i := 134) rfl rfl
theorem cko_246 : COK (6, 120, 217) := tb5_in (i := 138) rfl rfl
theorem cko_247 : COK (6, 124, 218) := tb5_in (i := 142) rfl rfl
theorem cko_248 : COK (6, 128, 220) := tb5_in (i := 146) rfl rfl
theorem cko_249 : COK (5, 285, 219) := tb5_in (i := 150) rfl rfl
theorem cko_250 : COK (6, 132, 224) := tb5_in (i := 154) rfl rfl
theorem cko_251 : COK (5, 288, 221) := tb5_in (i := 158) rfl rfl
theorem cko_252 : COK (5, 291, 222) := tb5_in (i := 162) rfl rfl
theorem cko_253 : COK (5, 294, 223) := tb5_in (i := 166) rfl rfl
theorem cko_254 : COK (6, 136, 225) := tb5_in (i := 170) rfl rfl
theorem cko_255 : COK (6, 140, 227) := tb5_in (i := 174) rfl rfl
theorem cko_256 : COK (5, 297, 226) := tb5_in (i := 178) rfl rfl
theorem cko_257 : COK (6, 145, 231) := tb5_in (i := 182) rfl rfl
theorem cko_258 : COK (5, 304, 139) := tb5_in (i := 186) rfl rfl
theorem cko_259 : COK (5, 308, 230) := tb5_in (i := 191) rfl rfl
theorem cko_260 : COK (5, 312, 229) := tb5_in (i := 194) rfl rfl
theorem cko_261 : COK (5, 300, 228) := tb5_in (i := 197) rfl rfl
theorem cko_262 : COK (6, 150, 232) := tb5_in (i := 200) rfl rfl
theorem cko_263 : COK (6, 155, 233) := tb5_in (i := 204) rfl rfl
theorem cko_264 : COK (6, 159, 235) := tb5_in (i := 208) rfl rfl
theorem cko_265 : COK (5, 316, 234) := tb5_in (i := 212) rfl rfl
theorem cko_266 : COK (6, 163, 236) := tb5_in (i := 216) rfl rfl
theorem cko_267 : COK (6, 167, 237) := tb5_in (i := 220) rfl rfl
theorem cko_268 : COK (6, 171, 238) := tb5_in (i := 224) rfl rfl
theorem cko_269 : COK (6, 175, 240) := tb5_in (i := 228) rfl rfl
theorem cko_270 : COK (5, 325, 239) := tb5_in (i := 232) rfl rfl
theorem cko_271 : COK (5, 328, 181) := tb5_in (i := 239) rfl rfl
theorem cko_272 : COK (6, 187, 241) := tb6_in (i := 3) rfl rfl
theorem mko_1 : MOK 1 := ⟨tb2_in (i := 234) rfl rfl, tb2_in (i := 232) rfl rfl, tb1_in (i := 4) rfl rfl, Or.inr ⟨tb2_in (i := 233) rfl rfl, _, _, rfl⟩, rfl, pl_RX0, pd_1⟩
theorem mko_2 : MOK 2 := ⟨tb3_in (i := 11) rfl rfl, tb3_in (i := 9) rfl rfl, tb1_in (i := 4) rfl rfl, Or.inr ⟨tb3_in (i := 10) rfl rfl, _, _, rfl⟩, rfl, pl_RX0, pd_12⟩
theorem mko_3 : MOK 3 := ⟨tb3_in (i := 19) rfl rfl, tb3_in (i := 17) rfl rfl, tb1_in (i := 4) rfl rfl, Or.inr ⟨tb3_in (i := 18) rfl rfl, _, _, rfl⟩, rfl, pl_RX0, pd_3⟩
theorem mko_5 : MOK 5 := ⟨tb1_in (i := 145) rfl rfl, tb1_in (i := 143) rfl rfl, tb1_in (i := 2) rfl rfl, Or.inr ⟨tb1_in (i := 144) rfl rfl, _, _, rfl⟩, rfl, pl_RX1, pd_22⟩
theorem mko_6 : MOK 6 := ⟨tb2_in (i := 212) rfl rfl, tb2_in (i := 210) rfl rfl, tb1_in (i := 2) rfl rfl, Or.inr ⟨tb2_in (i := 211) rfl rfl, _, _, rfl⟩, rfl, pl_RX1, pd_0⟩
theorem mko_7 : MOK 7 := ⟨tb1_in (i := 187) rfl rfl, tb1_in (i := 185) rfl rfl, tb1_in (i := 2) rfl rfl, Or.inr ⟨tb1_in (i := 186) rfl rfl, _, _, rfl⟩, rfl, pl_RX1, pd_6⟩
theorem mko_8 : MOK 8 := ⟨tb1_in (i := 183) rfl rfl, tb1_in (i := 181) rfl rfl, tb1_in (i := 2) rfl rfl, Or.inr ⟨tb1_in (i := 182) rfl rfl, _, _, rfl⟩, rfl, pl_RX1, pd_10⟩
theorem mko_9 : MOK 9 := ⟨tb2_in (i := 6) rfl rfl, tb2_in (i := 4) rfl rfl, tb1_in (i := 2) rfl rfl, Or.inr ⟨tb2_in (i := 5) rfl rfl, _, _, rfl⟩, rfl, pl_RX1, pd_3⟩
theorem mko_10 : MOK 10 := ⟨tb2_in (i := 10) rfl rfl, tb2_in (i := 8) rfl rfl, tb1_in (i := 2) rfl rfl, Or.inr ⟨tb2_in (i := 9) rfl rfl, _, _, rfl⟩, rfl, pl_RX1, pd_3⟩
theorem mko_11 : MOK 11 := ⟨tb2_in (i := 117) rfl rfl, tb2_in (i := 115) rfl rfl, tb1_in (i := 2) rfl rfl, Or.inr ⟨tb2_in (i := 116) rfl rfl, _, _, rfl⟩, rfl, pl_RX1, pd_9⟩
theorem mko_12 : MOK 12 := ⟨tb2_in (i := 121) rfl rfl, tb2_in (i := 119) rfl rfl, tb1_in (i := 2) rfl rfl, Or.inr ⟨tb2_in (i := 120) rfl rfl, _, _, rfl⟩, rfl, pl_RX1, pd_9⟩
theorem mko_13 : MOK 13 := ⟨tb2_in (i := 21) rfl rfl, tb2_in (i := 19) rfl rfl, tb1_in (i := 2) rfl rfl, Or.inr ⟨tb2_in (i := 20) rfl rfl, _, _, rfl⟩, rfl, pl_RX1, pd_6⟩
theorem mko_14 : MOK 14 := ⟨tb2_in (i := 25) rfl rfl, tb2_in (i := 23) rfl rfl, tb1_in (i := 2) rfl rfl, Or.inr ⟨tb2_in (i := 24) rfl rfl, _, _, rfl⟩, rfl, pl_RX1, pd_6⟩
theorem mko_15 : MOK 15 := ⟨tb1_in (i := 195) rfl rfl, tb1_in (i := 193) rfl rfl, tb1_in (i := 2) rfl rfl, Or.inr ⟨tb1_in (i := 194) rfl rfl, _, _, rfl⟩, rfl, pl_RX1, pd_5⟩
theorem mko_16 : MOK 16 := ⟨tb1_in (i := 191) rfl rfl, tb1_in (i := 189) rfl rfl, tb1_in (i := 2) rfl rfl, Or.inr ⟨tb1_in (i := 190) rfl rfl, _, _, rfl⟩, rfl, pl_RX1, pd_5⟩
theorem mko_17 : MOK 17 := ⟨tb2_in (i := 193) rfl rfl, tb2_in (i := 191) rfl rfl, tb1_in (i := 2) rfl rfl, Or.inr ⟨tb2_in (i := 192) rfl rfl, _, _, rfl⟩, rfl, pl_RX1, pd_0⟩
theorem mko_18 : MOK 18 := ⟨tb3_in (i := 198) rfl rfl, tb3_in (i := 196) rfl rfl, tb1_in (i := 2) rfl rfl, Or.inr ⟨tb3_in (i := 197) rfl rfl, _, _, rfl⟩, rfl, pl_RX1, pd_0⟩
theorem mko_19 : MOK 19 := ⟨tb3_in (i := 6) rfl rfl, tb3_in (i := 4) rfl rfl, tb1_in (i := 2) rfl rfl, Or.inr ⟨tb3_in (i := 5) rfl rfl, _, _, rfl⟩, rfl, pl_RX1, pd_0⟩
theorem mko_20 : MOK 20 := ⟨tb2_in (i := 2) rfl rfl, tb2_in (i := 0) rfl rfl, tb1_in (i := 2) rfl rfl, Or.inr ⟨tb2_in (i := 1) rfl rfl, _, _, rfl⟩, rfl, pl_RX1, pd_3⟩
theorem mko_21 : MOK 21 := ⟨tb2_in (i := 44) rfl rfl, tb2_in (i := 42) rfl rfl, tb1_in (i := 2) rfl rfl, Or.inr ⟨tb2_in (i := 43) rfl rfl, _, _, rfl⟩, rfl, pl_RX1, pd_3⟩
theorem mko_22 : MOK 22 := ⟨tb2_in (i := 85) rfl rfl, tb2_in (i := 83) rfl rfl, tb1_in (i := 2) rfl rfl, Or.inr ⟨tb2_in (i := 84) rfl rfl, _, _, rfl⟩, rfl, pl_RX1, pd_3⟩
theorem mko_23 : MOK 23 := ⟨tb3_in (i := 73) rfl rfl, tb3_in (i := 71) rfl rfl, tb1_in (i := 2) rfl rfl, Or.inr ⟨tb3_in (i := 72) rfl rfl, _, _, rfl⟩, rfl, pl_RX1, pd_3⟩
theorem mko_24 : MOK 24 := ⟨tb3_in (i := 133) rfl rfl, tb3_in (i := 131) rfl rfl, tb1_in (i := 2) rfl rfl, Or.inr ⟨tb3_in (i := 132) rfl rfl, _, _, rfl⟩, rfl, pl_RX1, pd_5⟩
theorem mko_25 : MOK 25 := ⟨tb2_in (i := 33) rfl rfl, tb2_in (i := 31) rfl rfl, tb1_in (i := 2) rfl rfl, Or.inr ⟨tb2_in (i := 32) rfl rfl, _, _, rfl⟩, rfl, pl_RX1, pd_10⟩
theorem mko_26 : MOK 26 := ⟨tb1_in (i := 202) rfl rfl, tb1_in (i := 200) rfl rfl, tb1_in (i := 2) rfl rfl, Or.inr ⟨tb1_in (i := 201) rfl rfl, _, _, rfl⟩, rfl, pl_RX1, pd_6⟩
theorem mko_27 : MOK 27 := ⟨tb1_in (i := 206) rfl rfl, tb1_in (i := 204) rfl rfl, tb1_in (i := 2) rfl rfl, Or.inr ⟨tb1_in (i := 205) rfl rfl, _, _, rfl⟩, rfl, pl_RX1, pd_6⟩
theorem mko_28 : MOK 28 := ⟨tb1_in (i := 230) rfl rfl, tb1_in (i := 228) rfl rfl, tb1_in (i := 2) rfl rfl, Or.inr ⟨tb1_in (i := 229) rfl rfl, _, _, rfl⟩, rfl, pl_RX1, pd_3⟩
theorem mko_29 : MOK 29 := ⟨tb2_in (i := 40) rfl rfl, tb2_in (i := 38) rfl rfl, tb1_in (i := 2) rfl rfl, Or.inr ⟨tb2_in (i := 39) rfl rfl, _, _, rfl⟩, rfl, pl_RX1, pd_3⟩
theorem mko_30 : MOK 30 := ⟨tb2_in (i := 29) rfl rfl, tb2_in (i := 27) rfl rfl, tb1_in (i := 2) rfl rfl, Or.inr ⟨tb2_in (i := 28) rfl rfl, _, _, rfl⟩, rfl, pl_RX1, pd_3⟩
theorem mko_31 : MOK 31 := ⟨tb2_in (i := 57) rfl rfl, tb2_in (i := 55) rfl rfl, tb1_in (i := 2) rfl rfl, Or.inr ⟨tb2_in (i := 56) rfl rfl, _, _, rfl⟩, rfl, pl_RX1, pd_0⟩
theorem mko_32 : MOK 32 := ⟨tb2_in (i := 197) rfl rfl, tb2_in (i := 195) rfl rfl, tb1_in (i := 2) rfl rfl, Or.inr ⟨tb2_in (i := 196) rfl rfl, _, _, rfl⟩, rfl, pl_RX1, pd_0⟩
theorem mko_33 : MOK 33 := ⟨tb1_in (i := 210) rfl rfl, tb1_in (i := 208) rfl rfl, tb1_in (i := 2) rfl rfl, Or.inr ⟨tb1_in (i := 209) rfl rfl, _, _, rfl⟩, rfl, pl_RX1, pd_9⟩
theorem mko_34 : MOK 34 := ⟨tb1_in (i := 214) rfl rfl, tb1_in (i := 212) rfl rfl, tb1_in (i := 2) rfl rfl, Or.inr ⟨tb1_in (i := 213) rfl rfl, _, _, rfl⟩, rfl, pl_RX1, pd_9⟩
theorem mko_35 : MOK 35 := ⟨tb1_in (i := 218) rfl rfl, tb1_in (i := 216) rfl rfl, tb1_in (i := 2) rfl rfl, Or.inr ⟨tb1_in (i := 217) rfl rfl, _, _, rfl⟩, rfl, pl_RX1, pd_9⟩
theorem mko_36 : MOK 36 := ⟨tb1_in (i := 237) rfl rfl, tb1_in (i := 235) rfl rfl, tb1_in (i := 2) rfl rfl, Or.inr ⟨tb1_in (i := 236) rfl rfl, _, _, rfl⟩, rfl, pl_RX1, pd_9⟩
theorem mko_37 : MOK 37 := ⟨tb2_in (i := 152) rfl rfl, tb2_in (i := 150) rfl rfl, tb1_in (i := 2) rfl rfl, Or.inr ⟨tb2_in (i := 151) rfl rfl, _, _, rfl⟩, rfl, pl_RX1, pd_5⟩
theorem mko_38 : MOK 38 := ⟨tb1_in (i := 226) rfl rfl, tb1_in (i := 225) rfl rfl, tb1_in (i := 2) rfl rfl, Or.inr ⟨pr1_in (i := 8) rfl, _, _, rfl⟩, rfl, pl_RX1, pd_9⟩
theorem mko_39 : MOK 39 := ⟨tb1_in (i := 222) rfl rfl, tb1_in (i := 220) rfl rfl, tb1_in (i := 2) rfl rfl, Or.inr ⟨tb1_in (i := 221) rfl rfl, _, _, rfl⟩, rfl, pl_RX1, pd_7⟩
theorem mko_40 : MOK 40 := ⟨tb2_in (i := 64) rfl rfl, tb2_in (i := 62) rfl rfl, tb1_in (i := 2) rfl rfl, Or.inr ⟨tb2_in (i := 63) rfl rfl, _, _, rfl⟩, rfl, pl_RX1, pd_3⟩
theorem mko_41 : MOK 41 := ⟨tb2_in (i := 17) rfl rfl, tb2_in (i := 16) rfl rfl, tb1_in (i := 2) rfl rfl, Or.inr ⟨pr1_in (i := 9) rfl, _, _, rfl⟩, rfl, pl_RX1, pd_11⟩
theorem mko_42 : MOK 42 := ⟨tb2_in (i := 51) rfl rfl, tb2_in (i := 50) rfl rfl, tb1_in (i := 2) rfl rfl, Or.inr ⟨pr1_in (i := 10) rfl, _, _, rfl⟩, rfl, pl_RX1, pd_5⟩
theorem mko_43 : MOK 43 := ⟨tb3_in (i := 27) rfl rfl, tb3_in (i := 25) rfl rfl, tb1_in (i := 2) rfl rfl, Or.inr ⟨tb3_in (i := 26) rfl rfl, _, _, rfl⟩, rfl, pl_RX1, pd_9⟩
theorem mko_44 : MOK 44 := ⟨tb3_in (i := 44) rfl rfl, tb3_in (i := 42) rfl rfl, tb1_in (i := 2) rfl rfl, Or.inr ⟨tb3_in (i := 43) rfl rfl, _, _, rfl⟩, rfl, pl_RX1, pd_5⟩
theorem mko_45 : MOK 45 := ⟨tb2_in (i := 113) rfl rfl, tb2_in (i := 112) rfl rfl, tb1_in (i := 6) rfl rfl, Or.inl rfl, rfl, pl_RX2, pd_6⟩
theorem mko_46 : MOK 46 := ⟨tb1_in (i := 171) rfl rfl, tb1_in (i := 170) rfl rfl, tb1_in (i := 6) rfl rfl, Or.inl rfl, rfl, pl_RX2, pd_3⟩
theorem mko_47 : MOK 47 := ⟨tb3_in (i := 61) rfl rfl, tb3_in (i := 60) rfl rfl, tb1_in (i := 6) rfl rfl, Or.inl rfl, rfl, pl_RX2, pd_6⟩
theorem mko_48 : MOK 48 := ⟨tb2_in (i := 36) rfl rfl, tb2_in (i := 35) rfl rfl, tb1_in (i := 6) rfl rfl, Or.inl rfl, rfl, pl_RX2, pd_13⟩
theorem mko_49 : MOK 49 := ⟨tb2_in (i := 13) rfl rfl, tb2_in (i := 12) rfl rfl, tb1_in (i := 6) rfl rfl, Or.inl rfl, rfl, pl_RX2, pd_7⟩
theorem mko_50 : MOK 50 := ⟨tb2_in (i := 47) rfl rfl, tb2_in (i := 46) rfl rfl, tb1_in (i := 6) rfl rfl, Or.inl rfl, rfl, pl_RX2, pd_3⟩
theorem mko_51 : MOK 51 := ⟨tb2_in (i := 88) rfl rfl, tb2_in (i := 87) rfl rfl, tb1_in (i := 6) rfl rfl, Or.inl rfl, rfl, pl_RX2, pd_7⟩
theorem mko_53 : MOK 53 := ⟨tb3_in (i := 202) rfl rfl, tb3_in (i := 200) rfl rfl, tb1_in (i := 3) rfl rfl, Or.inr ⟨tb3_in (i := 201) rfl rfl, _, _, rfl⟩, rfl, pl_RX3, pd_0⟩
theorem mko_54 : MOK 54 := ⟨tb1_in (i := 129) rfl rfl, tb1_in (i := 127) rfl rfl, tb1_in (i := 3) rfl rfl, Or.inr ⟨tb1_in (i := 128) rfl rfl, _, _, rfl⟩, rfl, pl_RX3, pd_2⟩
theorem mko_55 : MOK 55 := ⟨tb1_in (i := 133) rfl rfl, tb1_in (i := 131) rfl rfl, tb1_in (i := 3) rfl rfl, Or.inr ⟨tb1_in (i := 132) rfl rfl, _, _, rfl⟩, rfl, pl_RX3, pd_3⟩
theorem mko_56 : MOK 56 := ⟨tb2_in (i := 70) rfl rfl, tb2_in (i := 68) rfl rfl, tb1_in (i := 3) rfl rfl, Or.inr ⟨tb2_in (i := 69) rfl rfl, _, _, rfl⟩, rfl, pl_RX3, pd_1⟩
theorem mko_57 : MOK 57 := ⟨tb1_in (i := 149) rfl rfl, tb1_in (i := 147) rfl rfl, tb1_in (i := 3) rfl rfl, Or.inr ⟨tb1_in (i := 148) rfl rfl, _, _, rfl⟩, rfl, pl_RX3, pd_21⟩
theorem mko_58 : MOK 58 := ⟨tb1_in (i := 153) rfl rfl, tb1_in (i := 152) rfl rfl, tb1_in (i := 3) rfl rfl, Or.inr ⟨pr1_in (i := 2) rfl, _, _, rfl⟩, rfl, pl_RX3, pd_0⟩
theorem mko_59 : MOK 59 := ⟨tb1_in (i := 175) rfl rfl, tb1_in (i := 174) rfl rfl, tb1_in (i := 3) rfl rfl, Or.inr ⟨pr1_in (i := 6) rfl, _, _, rfl⟩, rfl, pl_RX3, pd_3⟩
theorem mko_60 : MOK 60 := ⟨tb1_in (i := 157) rfl rfl, tb1_in (i := 156) rfl rfl, tb1_in (i := 3) rfl rfl, Or.inr ⟨pr1_in (i := 3) rfl, _, _, rfl⟩, rfl, pl_RX3, pd_3⟩
theorem mko_61 : MOK 61 := ⟨tb1_in (i := 164) rfl rfl, tb1_in (i := 163) rfl rfl, tb1_in (i := 3) rfl rfl, Or.inl rfl, rfl, pl_RX3, pd_3⟩
theorem mko_62 : MOK 62 := ⟨tb1_in (i := 168) rfl rfl, tb1_in (i := 167) rfl rfl, tb1_in (i := 3) rfl rfl, Or.inr ⟨pr1_in (i := 5) rfl, _, _, rfl⟩, rfl, pl_RX3, pd_10⟩
theorem mko_63 : MOK 63 := ⟨tb1_in (i := 161) rfl rfl, tb1_in (i := 160) rfl rfl, tb1_in (i := 3) rfl rfl, Or.inr ⟨pr1_in (i := 4) rfl, _, _, rfl⟩, rfl, pl_RX3, pd_3⟩
theorem mko_64 : MOK 64 := ⟨tb1_in (i := 179) rfl rfl, tb1_in (i := 178) rfl rfl, tb1_in (i := 3) rfl rfl, Or.inr ⟨pr1_in (i := 7) rfl, _, _, rfl⟩, rfl, pl_RX3, pd_16⟩
theorem mko_65 : MOK 65 := ⟨tb1_in (i := 198) rfl rfl, tb1_in (i := 197) rfl rfl, tb1_in (i := 3) rfl rfl, Or.inl rfl, rfl, pl_RX3, pd_23⟩
theorem mko_67 : MOK 67 := ⟨tb1_in (i := 121) rfl rfl, tb1_in (i := 119) rfl rfl, tb1_in (i := 1) rfl rfl, Or.inr ⟨tb1_in (i := 120) rfl rfl, _, _, rfl⟩, rfl, pl_RX4, pd_3⟩
theorem mko_68 : MOK 68 := ⟨tb1_in (i := 137) rfl rfl, tb1_in (i := 135) rfl rfl, tb1_in (i := 1) rfl rfl, Or.inr ⟨tb1_in (i := 136) rfl rfl, _, _, rfl⟩, rfl, pl_RX4, pd_0⟩
theorem mko_69 : MOK 69 := ⟨tb2_in (i := 74) rfl rfl, tb2_in (i := 72) rfl rfl, tb1_in (i := 1) rfl rfl, Or.inr ⟨tb2_in (i := 73) rfl rfl, _, _, rfl⟩, rfl, pl_RX4, pd_7⟩
theorem mko_70 : MOK 70 := ⟨tb2_in (i := 92) rfl rfl, tb2_in (i := 90) rfl rfl, tb1_in (i := 1) rfl rfl, Or.inr ⟨tb2_in (i := 91) rfl rfl, _, _, rfl⟩, rfl, pl_RX4, pd_7⟩
theorem mko_71 : MOK 71 := ⟨tb2_in (i := 100) rfl rfl, tb2_in (i := 98) rfl rfl, tb1_in (i := 1) rfl rfl, Or.inr ⟨tb2_in (i := 99) rfl rfl, _, _, rfl⟩, rfl, pl_RX4, pd_3⟩
theorem mko_72 : MOK 72 := ⟨tb2_in (i := 105) rfl rfl, tb2_in (i := 103) rfl rfl, tb1_in (i := 1) rfl rfl, Or.inr ⟨tb2_in (i := 104) rfl rfl, _, _, rfl⟩, rfl, pl_RX4, pd_3⟩
theorem mko_73 : MOK 73 := ⟨tb2_in (i := 110) rfl rfl, tb2_in (i := 108) rfl rfl, tb1_in (i := 1) rfl rfl, Or.inr ⟨tb2_in (i := 109) rfl rfl, _, _, rfl⟩, rfl, pl_RX4, pd_11⟩
theorem mko_74 : MOK 74 := ⟨tb2_in (i := 125) rfl rfl, tb2_in (i := 123) rfl rfl, tb1_in (i := 1) rfl rfl, Or.inr ⟨tb2_in (i := 124) rfl rfl, _, _, rfl⟩, rfl, pl_RX4, pd_11⟩
theorem mko_75 : MOK 75 := ⟨tb2_in (i := 132) rfl rfl, tb2_in (i := 130) rfl rfl, tb1_in (i := 1) rfl rfl, Or.inr ⟨tb2_in (i := 131) rfl rfl, _, _, rfl⟩, rfl, pl_RX4, pd_7⟩
theorem mko_76 : MOK 76 := ⟨tb2_in (i := 137) rfl rfl, tb2_in (i := 135) rfl rfl, tb1_in (i := 1) rfl rfl, Or.inr ⟨tb2_in (i := 136) rfl rfl, _, _, rfl⟩, rfl, pl_RX4, pd_7⟩
theorem mko_77 : MOK 77 := ⟨tb2_in (i := 142) rfl rfl, tb2_in (i := 140) rfl rfl, tb1_in (i := 1) rfl rfl, Or.inr ⟨tb2_in (i := 141) rfl rfl, _, _, rfl⟩, rfl, pl_RX4, pd_3⟩
theorem mko_78 : MOK 78 := ⟨tb2_in (i := 148) rfl rfl, tb2_in (i := 146) rfl rfl, tb1_in (i := 1) rfl rfl, Or.inr ⟨tb2_in (i := 147) rfl rfl, _, _, rfl⟩, rfl, pl_RX4, pd_3⟩
theorem mko_79 : MOK 79 := ⟨tb2_in (i := 160) rfl rfl, tb2_in (i := 158) rfl rfl, tb1_in (i := 1) rfl rfl, Or.inr ⟨tb2_in (i := 159) rfl rfl, _, _, rfl⟩, rfl, pl_RX4, pd_7⟩
theorem mko_80 : MOK 80 := ⟨tb2_in (i := 169) rfl rfl, tb2_in (i := 167) rfl rfl, tb1_in (i := 1) rfl rfl, Or.inr ⟨tb2_in (i := 168) rfl rfl, _, _, rfl⟩, rfl, pl_RX4, pd_7⟩
theorem mko_81 : MOK 81 := ⟨tb2_in (i := 173) rfl rfl, tb2_in (i := 171) rfl rfl, tb1_in (i := 1) rfl rfl, Or.inr ⟨tb2_in (i := 172) rfl rfl, _, _, rfl⟩, rfl, pl_RX4, pd_11⟩
theorem mko_82 : MOK 82 := ⟨tb2_in (i := 177) rfl rfl, tb2_in (i := 175) rfl rfl, tb1_in (i := 1) rfl rfl, Or.inr ⟨tb2_in (i := 176) rfl rfl, _, _, rfl⟩, rfl, pl_RX4, pd_7⟩
theorem mko_83 : MOK 83 := ⟨tb2_in (i := 181) rfl rfl, tb2_in (i := 179) rfl rfl, tb1_in (i := 1) rfl rfl, Or.inr ⟨tb2_in (i := 180) rfl rfl, _, _, rfl⟩, rfl, pl_RX4, pd_7⟩
theorem mko_84 : MOK 84 := ⟨tb2_in (i := 201) rfl rfl, tb2_in (i := 199) rfl rfl, tb1_in (i := 1) rfl rfl, Or.inr ⟨tb2_in (i := 200) rfl rfl, _, _, rfl⟩, rfl, pl_RX4, pd_3⟩
theorem mko_85 : MOK 85 := ⟨tb2_in (i := 208) rfl rfl, tb2_in (i := 206) rfl rfl, tb1_in (i := 1) rfl rfl, Or.inr ⟨tb2_in (i := 207) rfl rfl, _, _, rfl⟩, rfl, pl_RX4, pd_3⟩
theorem mko_86 : MOK 86 := ⟨tb2_in (i := 216) rfl rfl, tb2_in (i := 214) rfl rfl, tb1_in (i := 1) rfl rfl, Or.inr ⟨tb2_in (i := 215) rfl rfl, _, _, rfl⟩, rfl, pl_RX4, pd_11⟩
theorem mko_87 : MOK 87 := ⟨tb3_in (i := 23) rfl rfl, tb3_in (i := 21) rfl rfl, tb1_in (i := 1) rfl rfl, Or.inr ⟨tb3_in (i := 22) rfl rfl, _, _, rfl⟩, rfl, pl_RX4, pd_7⟩
theorem mko_88 : MOK 88 := ⟨tb3_in (i := 32) rfl rfl, tb3_in (i := 30) rfl rfl, tb1_in (i := 1) rfl rfl, Or.inr ⟨tb3_in (i := 31) rfl rfl, _, _, rfl⟩, rfl, pl_RX4, pd_7⟩
theorem mko_89 : MOK 89 := ⟨tb3_in (i := 40) rfl rfl, tb3_in (i := 38) rfl rfl, tb1_in (i := 1) rfl rfl, Or.inr ⟨tb3_in (i := 39) rfl rfl, _, _, rfl⟩, rfl, pl_RX4, pd_3⟩
theorem mko_90 : MOK 90 := ⟨tb3_in (i := 49) rfl rfl, tb3_in (i := 47) rfl rfl, tb1_in (i := 1) rfl rfl, Or.inr ⟨tb3_in (i := 48) rfl rfl, _, _, rfl⟩, rfl, pl_RX4, pd_3⟩
theorem mko_91 : MOK 91 := ⟨tb3_in (i := 54) rfl rfl, tb3_in (i := 52) rfl rfl, tb1_in (i := 1) rfl rfl, Or.inr ⟨tb3_in (i := 53) rfl rfl, _, _, rfl⟩, rfl, pl_RX4, pd_11⟩
theorem mko_92 : MOK 92 := ⟨tb3_in (i := 58) rfl rfl, tb3_in (i := 56) rfl rfl, tb1_in (i := 1) rfl rfl, Or.inr ⟨tb3_in (i := 57) rfl rfl, _, _, rfl⟩, rfl, pl_RX4, pd_3⟩
theorem mko_93 : MOK 93 := ⟨tb3_in (i := 65) rfl rfl, tb3_in (i := 63) rfl rfl, tb1_in (i := 1) rfl rfl, Or.inr ⟨tb3_in (i := 64) rfl rfl, _, _, rfl⟩, rfl, pl_RX4, pd_3⟩
theorem mko_94 : MOK 94 := ⟨tb3_in (i := 69) rfl rfl, tb3_in (i := 67) rfl rfl, tb1_in (i := 1) rfl rfl, Or.inr ⟨tb3_in (i := 68) rfl rfl, _, _, rfl⟩, rfl, pl_RX4, pd_3⟩
theorem mko_95 : MOK 95 := ⟨tb3_in (i := 79) rfl rfl, tb3_in (i := 77) rfl rfl, tb1_in (i := 1) rfl rfl, Or.inr ⟨tb3_in (i := 78) rfl rfl, _, _, rfl⟩, rfl, pl_RX4, pd_3⟩
theorem mko_96 : MOK 96 := ⟨tb3_in (i := 95) rfl rfl, tb3_in (i := 93) rfl rfl, tb1_in (i := 1) rfl rfl, Or.inr ⟨tb3_in (i := 94) rfl rfl, _, _, rfl⟩, rfl, pl_RX4, pd_11⟩
theorem mko_97 : MOK 97 := ⟨tb3_in (i := 99) rfl rfl, tb3_in (i := 97) rfl rfl, tb1_in (i := 1) rfl rfl, Or.inr ⟨tb3_in (i := 98) rfl rfl, _, _, rfl⟩, rfl, pl_RX4, pd_7⟩
theorem mko_98 : MOK 98 := ⟨tb3_in (i := 111) rfl rfl, tb3_in (i := 109) rfl rfl, tb1_in (i := 1) rfl rfl, Or.inr ⟨tb3_in (i := 110) rfl rfl, _, _, rfl⟩, rfl, pl_RX4, pd_8⟩
theorem mko_99 : MOK 99 := ⟨tb3_in (i := 129) rfl rfl, tb3_in (i := 127) rfl rfl, tb1_in (i := 1) rfl rfl, Or.inr ⟨tb3_in (i := 128) rfl rfl, _, _, rfl⟩, rfl, pl_RX4, pd_14⟩
theorem mko_100 : MOK 100 := ⟨tb3_in (i := 140) rfl rfl, tb3_in (i := 138) rfl rfl, tb1_in (i := 1) rfl rfl, Or.inr ⟨tb3_in (i := 139) rfl rfl, _, _, rfl⟩, rfl, pl_RX4, pd_4⟩
theorem mko_101 : MOK 101 := ⟨tb3_in (i := 144) rfl rfl, tb3_in (i := 142) rfl rfl, tb1_in (i := 1) rfl rfl, Or.inr ⟨tb3_in (i := 143) rfl rfl, _, _, rfl⟩, rfl, pl_RX4, pd_7⟩
theorem mko_102 : MOK 102 := ⟨tb3_in (i := 161) rfl rfl, tb3_in (i := 159) rfl rfl, tb1_in (i := 1) rfl rfl, Or.inr ⟨tb3_in (i := 160) rfl rfl, _, _, rfl⟩, rfl, pl_RX4, pd_3⟩
theorem mko_103 : MOK 103 := ⟨tb3_in (i := 165) rfl rfl, tb3_in (i := 163) rfl rfl, tb1_in (i := 1) rfl rfl, Or.inr ⟨tb3_in (i := 164) rfl rfl, _, _, rfl⟩, rfl, pl_RX4, pd_0⟩
theorem mko_104 : MOK 104 := ⟨tb3_in (i := 169) rfl rfl, tb3_in (i := 167) rfl rfl, tb1_in (i := 1) rfl rfl, Or.inr ⟨tb3_in (i := 168) rfl rfl, _, _, rfl⟩, rfl, pl_RX4, pd_0⟩
theorem mko_105 : MOK 105 := ⟨tb3_in (i := 173) rfl rfl, tb3_in (i := 171) rfl rfl, tb1_in (i := 1) rfl rfl, Or.inr ⟨tb3_in (i := 172) rfl rfl, _, _, rfl⟩, rfl, pl_RX4, pd_11⟩
theorem mko_106 : MOK 106 := ⟨tb3_in (i := 186) rfl rfl, tb3_in (i := 184) rfl rfl, tb1_in (i := 1) rfl rfl, Or.inr ⟨tb3_in (i := 185) rfl rfl, _, _, rfl⟩, rfl, pl_RX4, pd_0⟩
theorem mko_107 : MOK 107 := ⟨tb3_in (i := 190) rfl rfl, tb3_in (i := 188) rfl rfl, tb1_in (i := 1) rfl rfl, Or.inr ⟨tb3_in (i := 189) rfl rfl, _, _, rfl⟩, rfl, pl_RX4, pd_0⟩
theorem mko_108 : MOK 108 := ⟨tb3_in (i := 194) rfl rfl, tb3_in (i := 192) rfl rfl, tb1_in (i := 1) rfl rfl, Or.inr ⟨tb3_in (i := 193) rfl rfl, _, _, rfl⟩, rfl, pl_RX4, pd_3⟩
theorem mko_109 : MOK 109 := ⟨tb1_in (i := 125) rfl rfl, tb1_in (i := 124) rfl rfl, tb1_in (i := 1) rfl rfl, Or.inr ⟨pr1_in (i := 0) rfl, _, _, rfl⟩, rfl, pl_RX4, pd_3⟩
theorem mko_110 : MOK 110 := ⟨tb3_in (i := 115) rfl rfl, tb3_in (i := 114) rfl rfl, tb1_in (i := 1) rfl rfl, Or.inr ⟨pr2_in (i := 10) rfl, _, _, rfl⟩, rfl, pl_RX4, pd_4⟩
theorem mko_111 : MOK 111 := ⟨tb2_in (i := 164) rfl rfl, tb2_in (i := 163) rfl rfl, tb1_in (i := 1) rfl rfl, Or.inr ⟨pr1_in (i := 12) rfl, _, _, rfl⟩, rfl, pl_RX4, pd_7⟩
theorem mko_112 : MOK 112 := ⟨tb2_in (i := 220) rfl rfl, tb2_in (i := 219) rfl rfl, tb1_in (i := 1) rfl rfl, Or.inr ⟨pr1_in (i := 15) rfl, _, _, rfl⟩, rfl, pl_RX4, pd_3⟩
theorem mko_113 : MOK 113 := ⟨tb3_in (i := 36) rfl rfl, tb3_in (i := 35) rfl rfl, tb1_in (i := 1) rfl rfl, Or.inr ⟨pr2_in (i := 4) rfl, _, _, rfl⟩, rfl, pl_RX4, pd_10⟩
theorem mko_114 : MOK 114 := ⟨tb1_in (i := 141) rfl rfl, tb1_in (i := 140) rfl rfl, tb1_in (i := 1) rfl rfl, Or.inr ⟨pr1_in (i := 1) rfl, _, _, rfl⟩, rfl, pl_RX4, pd_1⟩
theorem mko_115 : MOK 115 := ⟨tb2_in (i := 156) rfl rfl, tb2_in (i := 155) rfl rfl, tb1_in (i := 1) rfl rfl, Or.inr ⟨pr1_in (i := 11) rfl, _, _, rfl⟩, rfl, pl_RX4, pd_3⟩
theorem mko_116 : MOK 116 := ⟨tb2_in (i := 185) rfl rfl, tb2_in (i := 184) rfl rfl, tb1_in (i := 1) rfl rfl, Or.inr ⟨pr1_in (i := 13) rfl, _, _, rfl⟩, rfl, pl_RX4, pd_5⟩
theorem mko_117 : MOK 117 := ⟨tb2_in (i := 189) rfl rfl, tb2_in (i := 188) rfl rfl, tb1_in (i := 1) rfl rfl, Or.inr ⟨pr1_in (i := 14) rfl, _, _, rfl⟩, rfl, pl_RX4, pd_3⟩
theorem mko_118 : MOK 118 := ⟨tb2_in (i := 230) rfl rfl, tb2_in (i := 229) rfl rfl, tb1_in (i := 1) rfl rfl, Or.inr ⟨pr2_in (i := 0) rfl, _, _, rfl⟩, rfl, pl_RX4, pd_9⟩
theorem mko_119 : MOK 119 := ⟨tb3_in (i := 2) rfl rfl, tb3_in (i := 1) rfl rfl, tb1_in (i := 1) rfl rfl, Or.inr ⟨pr2_in (i := 2) rfl, _, _, rfl⟩, rfl, pl_RX4, pd_3⟩
theorem mko_120 : MOK 120 := ⟨tb2_in (i := 238) rfl rfl, tb2_in (i := 237) rfl rfl, tb1_in (i := 1) rfl rfl, Or.inr ⟨pr2_in (i := 1) rfl, _, _, rfl⟩, rfl, pl_RX4, pd_3⟩
theorem mko_121 : MOK 121 := ⟨tb3_in (i := 15) rfl rfl, tb3_in (i := 14) rfl rfl, tb1_in (i := 1) rfl rfl, Or.inr ⟨pr2_in (i := 3) rfl, _, _, rfl⟩, rfl, pl_RX4, pd_6⟩
theorem mko_122 : MOK 122 := ⟨tb2_in (i := 204) rfl rfl, tb2_in (i := 203) rfl rfl, tb1_in (i := 1) rfl rfl, Or.inl rfl, rfl, pl_RX4, pd_29⟩
theorem mko_123 : MOK 123 := ⟨tb3_in (i := 103) rfl rfl, tb3_in (i := 102) rfl rfl, tb1_in (i := 1) rfl rfl, Or.inr ⟨pr2_in (i := 8) rfl, _, _, rfl⟩, rfl, pl_RX4, pd_15⟩
theorem mko_124 : MOK 124 := ⟨tb3_in (i := 107) rfl rfl, tb3_in (i := 106) rfl rfl, tb1_in (i := 1) rfl rfl, Or.inr ⟨pr2_in (i := 9) rfl, _, _, rfl⟩, rfl, pl_RX4, pd_11⟩
theorem mko_125 : MOK 125 := ⟨tb3_in (i := 83) rfl rfl, tb3_in (i := 82) rfl rfl, tb1_in (i := 1) rfl rfl, Or.inr ⟨pr2_in (i := 5) rfl, _, _, rfl⟩, rfl, pl_RX4, pd_0⟩
theorem mko_126 : MOK 126 := ⟨tb3_in (i := 87) rfl rfl, tb3_in (i := 86) rfl rfl, tb1_in (i := 1) rfl rfl, Or.inr ⟨pr2_in (i := 6) rfl, _, _, rfl⟩, rfl, pl_RX4, pd_0⟩
theorem mko_127 : MOK 127 := ⟨tb3_in (i := 91) rfl rfl, tb3_in (i := 90) rfl rfl, tb1_in (i := 1) rfl rfl, Or.inr ⟨pr2_in (i := 7) rfl, _, _, rfl⟩, rfl, pl_RX4, pd_0⟩
theorem mko_128 : MOK 128 := ⟨tb3_in (i := 148) rfl rfl, tb3_in (i := 147) rfl rfl, tb1_in (i := 1) rfl rfl, Or.inr ⟨pr2_in (i := 11) rfl, _, _, rfl⟩, rfl, pl_RX4, pd_3⟩
theorem mko_129 : MOK 129 := ⟨tb3_in (i := 157) rfl rfl, tb3_in (i := 156) rfl rfl, tb1_in (i := 1) rfl rfl, Or.inr ⟨pr2_in (i := 13) rfl, _, _, rfl⟩, rfl, pl_RX4, pd_3⟩
theorem mko_130 : MOK 130 := ⟨tb3_in (i := 152) rfl rfl, tb3_in (i := 151) rfl rfl, tb1_in (i := 1) rfl rfl, Or.inr ⟨pr2_in (i := 12) rfl, _, _, rfl⟩, rfl, pl_RX4, pd_10⟩
theorem mko_131 : MOK 131 := ⟨tb3_in (i := 176) rfl rfl, tb3_in (i := 175) rfl rfl, tb1_in (i := 1) rfl rfl, Or.inl rfl, rfl, pl_RX4, pd_3⟩
theorem mko_132 : MOK 132 := ⟨tb3_in (i := 181) rfl rfl, tb3_in (i := 180) rfl rfl, tb1_in (i := 1) rfl rfl, Or.inl rfl, rfl, pl_RX4, pd_3⟩
theorem mko_133 : MOK 133 := ⟨tb3_in (i := 119) rfl rfl, tb3_in (i := 118) rfl rfl, tb1_in (i := 1) rfl rfl, Or.inl rfl, rfl, pl_RX4, pd_8⟩
theorem mko_134 : MOK 134 := ⟨tb3_in (i := 136) rfl rfl, tb3_in (i := 135) rfl rfl, tb1_in (i := 1) rfl rfl, Or.inl rfl, rfl, pl_RX4, pd_18⟩
theorem mko_135 : MOK 135 := ⟨tb3_in (i := 122) rfl rfl, tb3_in (i := 121) rfl rfl, tb1_in (i := 1) rfl rfl, Or.inl rfl, rfl, pl_RX4, pd_20⟩
theorem mko_136 : MOK 136 := ⟨tb3_in (i := 125) rfl rfl, tb3_in (i := 124) rfl rfl, tb1_in (i := 1) rfl rfl, Or.inl rfl, rfl, pl_RX4, pd_19⟩
theorem mko_138 : MOK 138 := ⟨tb4_in (i := 88) rfl rfl, tb4_in (i := 87) rfl rfl, tb1_in (i := 5) rfl rfl, Or.inr ⟨pr2_in (i := 14) rfl, _, _, rfl⟩, rfl, pl_RX5, pd_3⟩
theorem mko_139 : MOK 139 := ⟨tb5_in (i := 189) rfl rfl, tb5_in (i := 188) rfl rfl, tb1_in (i := 5) rfl rfl, Or.inr ⟨pr5_in (i := 12) rfl, _, _, rfl⟩, rfl, pl_RX5, pd_4⟩
theorem mko_140 : MOK 140 := ⟨tb4_in (i := 118) rfl rfl, tb4_in (i := 117) rfl rfl, tb1_in (i := 5) rfl rfl, Or.inl rfl, rfl, pl_RX5, pd_13⟩
theorem mko_141 : MOK 141 := ⟨tb4_in (i := 84) rfl rfl, tb4_in (i := 83) rfl rfl, tb1_in (i := 5) rfl rfl, Or.inl rfl, rfl, pl_RX5, pd_11⟩
theorem mko_142 : MOK 142 := ⟨tb4_in (i := 183) rfl rfl, tb4_in (i := 182) rfl rfl, tb1_in (i := 5) rfl rfl, Or.inl rfl, rfl, pl_RX5, pd_10⟩
theorem mko_143 : MOK 143 := ⟨tb4_in (i := 217) rfl rfl, tb4_in (i := 216) rfl rfl, tb1_in (i := 5) rfl rfl, Or.inl rfl, rfl, pl_RX5, pd_3⟩
theorem mko_144 : MOK 144 := ⟨tb4_in (i := 168) rfl rfl, tb4_in (i := 167) rfl rfl, tb1_in (i := 5) rfl rfl, Or.inl rfl, rfl, pl_RX5, pd_7⟩
theorem mko_145 : MOK 145 := ⟨tb4_in (i := 142) rfl rfl, tb4_in (i := 141) rfl rfl, tb1_in (i := 5) rfl rfl, Or.inr ⟨pr3_in (i := 9) rfl, _, _, rfl⟩, rfl, pl_RX5, pd_6⟩
theorem mko_146 : MOK 146 := ⟨tb4_in (i := 149) rfl rfl, tb4_in (i := 148) rfl rfl, tb1_in (i := 5) rfl rfl, Or.inl rfl, rfl, pl_RX5, pd_6⟩
theorem mko_147 : MOK 147 := ⟨tb5_in (i := 121) rfl rfl, tb5_in (i := 120) rfl rfl, tb1_in (i := 5) rfl rfl, Or.inr ⟨pr5_in (i := 5) rfl, _, _, rfl⟩, rfl, pl_RX5, pd_10⟩
theorem mko_148 : MOK 148 := ⟨tb4_in (i := 81) rfl rfl, tb4_in (i := 79) rfl rfl, tb1_in (i := 5) rfl rfl, Or.inr ⟨tb4_in (i := 80) rfl rfl, _, _, rfl⟩, rfl, pl_RX5, pd_3⟩
theorem mko_149 : MOK 149 := ⟨tb4_in (i := 100) rfl rfl, tb4_in (i := 99) rfl rfl, tb1_in (i := 5) rfl rfl, Or.inr ⟨pr3_in (i := 0) rfl, _, _, rfl⟩, rfl, pl_RX5, pd_0⟩
theorem mko_150 : MOK 150 := ⟨tb4_in (i := 115) rfl rfl, tb4_in (i := 114) rfl rfl, tb1_in (i := 5) rfl rfl, Or.inr ⟨pr3_in (i := 3) rfl, _, _, rfl⟩, rfl, pl_RX5, pd_6⟩
theorem mko_151 : MOK 151 := ⟨tb4_in (i := 111) rfl rfl, tb4_in (i := 110) rfl rfl, tb1_in (i := 5) rfl rfl, Or.inl rfl, rfl, pl_RX5, pd_3⟩
theorem mko_152 : MOK 152 := ⟨tb4_in (i := 108) rfl rfl, tb4_in (i := 107) rfl rfl, tb1_in (i := 5) rfl rfl, Or.inr ⟨pr3_in (i := 2) rfl, _, _, rfl⟩, rfl, pl_RX5, pd_2⟩
theorem mko_153 : MOK 153 := ⟨tb4_in (i := 104) rfl rfl, tb4_in (i := 103) rfl rfl, tb1_in (i := 5) rfl rfl, Or.inr ⟨pr3_in (i := 1) rfl, _, _, rfl⟩, rfl, pl_RX5, pd_6⟩
theorem mko_154 : MOK 154 := ⟨tb4_in (i := 96) rfl rfl, tb4_in (i := 95) rfl rfl, tb1_in (i := 5) rfl rfl, Or.inr ⟨pr2_in (i := 15) rfl, _, _, rfl⟩, rfl, pl_RX5, pd_2⟩
theorem mko_155 : MOK 155 := ⟨tb4_in (i := 134) rfl rfl, tb4_in (i := 133) rfl rfl, tb1_in (i := 5) rfl rfl, Or.inr ⟨pr3_in (i := 7) rfl, _, _, rfl⟩, rfl, pl_RX5, pd_10⟩
theorem mko_156 : MOK 156 := ⟨tb4_in (i := 138) rfl rfl, tb4_in (i := 137) rfl rfl, tb1_in (i := 5) rfl rfl, Or.inr ⟨pr3_in (i := 8) rfl, _, _, rfl⟩, rfl, pl_RX5, pd_28⟩
theorem mko_157 : MOK 157 := ⟨tb4_in (i := 146) rfl rfl, tb4_in (i := 145) rfl rfl, tb1_in (i := 5) rfl rfl, Or.inr ⟨pr3_in (i := 10) rfl, _, _, rfl⟩, rfl, pl_RX5, pd_13⟩
theorem mko_158 : MOK 158 := ⟨tb4_in (i := 153) rfl rfl, tb4_in (i := 152) rfl rfl, tb1_in (i := 5) rfl rfl, Or.inr ⟨pr3_in (i := 11) rfl, _, _, rfl⟩, rfl, pl_RX5, pd_10⟩
theorem mko_159 : MOK 159 := ⟨tb4_in (i := 157) rfl rfl, tb4_in (i := 156) rfl rfl, tb1_in (i := 5) rfl rfl, Or.inr ⟨pr3_in (i := 12) rfl, _, _, rfl⟩, rfl, pl_RX5, pd_10⟩
theorem mko_160 : MOK 160 := ⟨tb4_in (i := 194) rfl rfl, tb4_in (i := 193) rfl rfl, tb1_in (i := 5) rfl rfl, Or.inr ⟨pr4_in (i := 3) rfl, _, _, rfl⟩, rfl, pl_RX5, pd_6⟩
theorem mko_161 : MOK 161 := ⟨tb4_in (i := 130) rfl rfl, tb4_in (i := 129) rfl rfl, tb1_in (i := 5) rfl rfl, Or.inr ⟨pr3_in (i := 6) rfl, _, _, rfl⟩, rfl, pl_RX5, pd_6⟩
theorem mko_162 : MOK 162 := ⟨tb4_in (i := 92) rfl rfl, tb4_in (i := 90) rfl rfl, tb1_in (i := 5) rfl rfl, Or.inr ⟨tb4_in (i := 91) rfl rfl, _, _, rfl⟩, rfl, pl_RX5, pd_0⟩
theorem mko_163 : MOK 163 := ⟨tb4_in (i := 126) rfl rfl, tb4_in (i := 125) rfl rfl, tb1_in (i := 5) rfl rfl, Or.inr ⟨pr3_in (i := 5) rfl, _, _, rfl⟩, rfl, pl_RX5, pd_25⟩
theorem mko_164 : MOK 164 := ⟨tb4_in (i := 122) rfl rfl, tb4_in (i := 121) rfl rfl, tb1_in (i := 5) rfl rfl, Or.inr ⟨pr3_in (i := 4) rfl, _, _, rfl⟩, rfl, pl_RX5, pd_17⟩
theorem mko_165 : MOK 165 := ⟨tb5_in (i := 56) rfl rfl, tb5_in (i := 55) rfl rfl, tb1_in (i := 5) rfl rfl, Or.inr ⟨pr4_in (i := 12) rfl, _, _, rfl⟩, rfl, pl_RX5, pd_1⟩
theorem mko_166 : MOK 166 := ⟨tb5_in (i := 60) rfl rfl, tb5_in (i := 59) rfl rfl, tb1_in (i := 5) rfl rfl, Or.inr ⟨pr4_in (i := 13) rfl, _, _, rfl⟩, rfl, pl_RX5, pd_1⟩
theorem mko_167 : MOK 167 := ⟨tb4_in (i := 206) rfl rfl, tb4_in (i := 204) rfl rfl, tb1_in (i := 5) rfl rfl, Or.inr ⟨tb4_in (i := 205) rfl rfl, _, _, rfl⟩, rfl, pl_RX5, pd_0⟩
theorem mko_168 : MOK 168 := ⟨tb4_in (i := 221) rfl rfl, tb4_in (i := 219) rfl rfl, tb1_in (i := 5) rfl rfl, Or.inr ⟨tb4_in (i := 220) rfl rfl, _, _, rfl⟩, rfl, pl_RX5, pd_0⟩
theorem mko_169 : MOK 169 := ⟨tb4_in (i := 186) rfl rfl, tb4_in (i := 185) rfl rfl, tb1_in (i := 5) rfl rfl, Or.inl rfl, rfl, pl_RX5, pd_13⟩
theorem mko_170 : MOK 170 := ⟨tb4_in (i := 180) rfl rfl, tb4_in (i := 179) rfl rfl, tb1_in (i := 5) rfl rfl, Or.inr ⟨pr4_in (i := 1) rfl, _, _, rfl⟩, rfl, pl_RX5, pd_10⟩
theorem mko_171 : MOK 171 := ⟨tb4_in (i := 172) rfl rfl, tb4_in (i := 171) rfl rfl, tb1_in (i := 5) rfl rfl, Or.inr ⟨pr3_in (i := 15) rfl, _, _, rfl⟩, rfl, pl_RX5, pd_3⟩
theorem mko_172 : MOK 172 := ⟨tb4_in (i := 190) rfl rfl, tb4_in (i := 189) rfl rfl, tb1_in (i := 5) rfl rfl, Or.inr ⟨pr4_in (i := 2) rfl, _, _, rfl⟩, rfl, pl_RX5, pd_3⟩
theorem mko_173 : MOK 173 := ⟨tb4_in (i := 229) rfl rfl, tb4_in (i := 228) rfl rfl, tb1_in (i := 5) rfl rfl, Or.inr ⟨pr4_in (i := 8) rfl, _, _, rfl⟩, rfl, pl_RX5, pd_3⟩
theorem mko_174 : MOK 174 := ⟨tb4_in (i := 214) rfl rfl, tb4_in (i := 213) rfl rfl, tb1_in (i := 5) rfl rfl, Or.inr ⟨pr4_in (i := 7) rfl, _, _, rfl⟩, rfl, pl_RX5, pd_24⟩
theorem mko_175 : MOK 175 := ⟨tb4_in (i := 210) rfl rfl, tb4_in (i := 209) rfl rfl, tb1_in (i := 5) rfl rfl, Or.inr ⟨pr4_in (i := 6) rfl, _, _, rfl⟩, rfl, pl_RX5, pd_0⟩
theorem mko_176 : MOK 176 := ⟨tb4_in (i := 165) rfl rfl, tb4_in (i := 164) rfl rfl, tb1_in (i := 5) rfl rfl, Or.inr ⟨pr3_in (i := 14) rfl, _, _, rfl⟩, rfl, pl_RX5, pd_9⟩
theorem mko_177 : MOK 177 := ⟨tb4_in (i := 176) rfl rfl, tb4_in (i := 175) rfl rfl, tb1_in (i := 5) rfl rfl, Or.inr ⟨pr4_in (i := 0) rfl, _, _, rfl⟩, rfl, pl_RX5, pd_11⟩
theorem mko_178 : MOK 178 := ⟨tb4_in (i := 161) rfl rfl, tb4_in (i := 160) rfl rfl, tb1_in (i := 5) rfl rfl, Or.inr ⟨pr3_in (i := 13) rfl, _, _, rfl⟩, rfl, pl_RX5, pd_7⟩
theorem mko_179 : MOK 179 := ⟨tb4_in (i := 202) rfl rfl, tb4_in (i := 201) rfl rfl, tb1_in (i := 5) rfl rfl, Or.inr ⟨pr4_in (i := 5) rfl, _, _, rfl⟩, rfl, pl_RX5, pd_0⟩
theorem mko_180 : MOK 180 := ⟨tb4_in (i := 198) rfl rfl, tb4_in (i := 197) rfl rfl, tb1_in (i := 5) rfl rfl, Or.inr ⟨pr4_in (i := 4) rfl, _, _, rfl⟩, rfl, pl_RX5, pd_3⟩
theorem mko_181 : MOK 181 := ⟨tb6_in (i := 2) rfl rfl, tb6_in (i := 1) rfl rfl, tb1_in (i := 5) rfl rfl, Or.inr ⟨pr5_in (i := 15) rfl, _, _, rfl⟩, rfl, pl_RX5, pd_5⟩
theorem mko_182 : MOK 182 := ⟨tb4_in (i := 225) rfl rfl, tb4_in (i := 223) rfl rfl, tb1_in (i := 5) rfl rfl, Or.inr ⟨tb4_in (i := 224) rfl rfl, _, _, rfl⟩, rfl, pl_RX5, pd_7⟩
theorem mko_183 : MOK 183 := ⟨tb4_in (i := 233) rfl rfl, tb4_in (i := 231) rfl rfl, tb1_in (i := 5) rfl rfl, Or.inr ⟨tb4_in (i := 232) rfl rfl, _, _, rfl⟩, rfl, pl_RX5, pd_7⟩
theorem mko_184 : MOK 184 := ⟨tb5_in (i := 1) rfl rfl, tb5_in (i := 0) rfl rfl, tb1_in (i := 5) rfl rfl, Or.inr ⟨pr4_in (i := 9) rfl, _, _, rfl⟩, rfl, pl_RX5, pd_27⟩
theorem mko_185 : MOK 185 := ⟨tb4_in (i := 237) rfl rfl, tb4_in (i := 235) rfl rfl, tb1_in (i := 5) rfl rfl, Or.inr ⟨tb4_in (i := 236) rfl rfl, _, _, rfl⟩, rfl, pl_RX5, pd_3⟩
theorem mko_186 : MOK 186 := ⟨tb5_in (i := 5) rfl rfl, tb5_in (i := 3) rfl rfl, tb1_in (i := 5) rfl rfl, Or.inr ⟨tb5_in (i := 4) rfl rfl, _, _, rfl⟩, rfl, pl_RX5, pd_3⟩
theorem mko_187 : MOK 187 := ⟨tb5_in (i := 9) rfl rfl, tb5_in (i := 7) rfl rfl, tb1_in (i := 5) rfl rfl, Or.inr ⟨tb5_in (i := 8) rfl rfl, _, _, rfl⟩, rfl, pl_RX5, pd_11⟩
theorem mko_188 : MOK 188 := ⟨tb5_in (i := 13) rfl rfl, tb5_in (i := 11) rfl rfl, tb1_in (i := 5) rfl rfl, Or.inr ⟨tb5_in (i := 12) rfl rfl, _, _, rfl⟩, rfl, pl_RX5, pd_11⟩
theorem mko_189 : MOK 189 := ⟨tb5_in (i := 17) rfl rfl, tb5_in (i := 15) rfl rfl, tb1_in (i := 5) rfl rfl, Or.inr ⟨tb5_in (i := 16) rfl rfl, _, _, rfl⟩, rfl, pl_RX5, pd_7⟩
theorem mko_190 : MOK 190 := ⟨tb5_in (i := 21) rfl rfl, tb5_in (i := 19) rfl rfl, tb1_in (i := 5) rfl rfl, Or.inr ⟨tb5_in (i := 20) rfl rfl, _, _, rfl⟩, rfl, pl_RX5, pd_7⟩
theorem mko_191 : MOK 191 := ⟨tb5_in (i := 25) rfl rfl, tb5_in (i := 23) rfl rfl, tb1_in (i := 5) rfl rfl, Or.inr ⟨tb5_in (i := 24) rfl rfl, _, _, rfl⟩, rfl, pl_RX5, pd_3⟩
theorem mko_192 : MOK 192 := ⟨tb5_in (i := 29) rfl rfl, tb5_in (i := 27) rfl rfl, tb1_in (i := 5) rfl rfl, Or.inr ⟨tb5_in (i := 28) rfl rfl, _, _, rfl⟩, rfl, pl_RX5, pd_3⟩
theorem mko_193 : MOK 193 := ⟨tb5_in (i := 33) rfl rfl, tb5_in (i := 32) rfl rfl, tb1_in (i := 5) rfl rfl, Or.inr ⟨pr4_in (i := 10) rfl, _, _, rfl⟩, rfl, pl_RX5, pd_5⟩
theorem mko_194 : MOK 194 := ⟨tb5_in (i := 40) rfl rfl, tb5_in (i := 39) rfl rfl, tb1_in (i := 5) rfl rfl, Or.inl rfl, rfl, pl_RX5, pd_3⟩
theorem mko_195 : MOK 195 := ⟨tb5_in (i := 37) rfl rfl, tb5_in (i := 35) rfl rfl, tb1_in (i := 5) rfl rfl, Or.inr ⟨tb5_in (i := 36) rfl rfl, _, _, rfl⟩, rfl, pl_RX5, pd_7⟩
theorem mko_196 : MOK 196 := ⟨tb5_in (i := 44) rfl rfl, tb5_in (i := 42) rfl rfl, tb1_in (i := 5) rfl rfl, Or.inr ⟨tb5_in (i := 43) rfl rfl, _, _, rfl⟩, rfl, pl_RX5, pd_7⟩
theorem mko_197 : MOK 197 := ⟨tb5_in (i := 52) rfl rfl, tb5_in (i := 51) rfl rfl, tb1_in (i := 5) rfl rfl, Or.inr ⟨pr4_in (i := 11) rfl, _, _, rfl⟩, rfl, pl_RX5, pd_11⟩
theorem mko_198 : MOK 198 := ⟨tb5_in (i := 48) rfl rfl, tb5_in (i := 46) rfl rfl, tb1_in (i := 5) rfl rfl, Or.inr ⟨tb5_in (i := 47) rfl rfl, _, _, rfl⟩, rfl, pl_RX5, pd_11⟩
theorem mko_199 : MOK 199 := ⟨tb5_in (i := 64) rfl rfl, tb5_in (i := 62) rfl rfl, tb1_in (i := 5) rfl rfl, Or.inr ⟨tb5_in (i := 63) rfl rfl, _, _, rfl⟩, rfl, pl_RX5, pd_7⟩
theorem mko_200 : MOK 200 := ⟨tb5_in (i := 72) rfl rfl, tb5_in (i := 71) rfl rfl, tb1_in (i := 5) rfl rfl, Or.inr ⟨pr4_in (i := 14) rfl, _, _, rfl⟩, rfl, pl_RX5, pd_3⟩
theorem mko_201 : MOK 201 := ⟨tb5_in (i := 68) rfl rfl, tb5_in (i := 66) rfl rfl, tb1_in (i := 5) rfl rfl, Or.inr ⟨tb5_in (i := 67) rfl rfl, _, _, rfl⟩, rfl, pl_RX5, pd_7⟩
theorem mko_202 : MOK 202 := ⟨tb5_in (i := 80) rfl rfl, tb5_in (i := 79) rfl rfl, tb1_in (i := 5) rfl rfl, Or.inr ⟨pr4_in (i := 15) rfl, _, _, rfl⟩, rfl, pl_RX5, pd_9⟩
theorem mko_203 : MOK 203 := ⟨tb5_in (i := 76) rfl rfl, tb5_in (i := 74) rfl rfl, tb1_in (i := 5) rfl rfl, Or.inr ⟨tb5_in (i := 75) rfl rfl, _, _, rfl⟩, rfl, pl_RX5, pd_3⟩
theorem mko_204 : MOK 204 := ⟨tb5_in (i := 84) rfl rfl, tb5_in (i := 82) rfl rfl, tb1_in (i := 5) rfl rfl, Or.inr ⟨tb5_in (i := 83) rfl rfl, _, _, rfl⟩, rfl, pl_RX5, pd_3⟩
theorem mko_205 : MOK 205 := ⟨tb5_in (i := 92) rfl rfl, tb5_in (i := 91) rfl rfl, tb1_in (i := 5) rfl rfl, Or.inr ⟨pr5_in (i := 0) rfl, _, _, rfl⟩, rfl, pl_RX5, pd_5⟩
theorem mko_206 : MOK 206 := ⟨tb5_in (i := 97) rfl rfl, tb5_in (i := 96) rfl rfl, tb1_in (i := 5) rfl rfl, Or.inr ⟨pr5_in (i := 1) rfl, _, _, rfl⟩, rfl, pl_RX5, pd_0⟩
theorem mko_207 : MOK 207 := ⟨tb5_in (i := 101) rfl rfl, tb5_in (i := 100) rfl rfl, tb1_in (i := 5) rfl rfl, Or.inr ⟨pr5_in (i := 2) rfl, _, _, rfl⟩, rfl, pl_RX5, pd_3⟩
theorem mko_208 : MOK 208 := ⟨tb5_in (i := 105) rfl rfl, tb5_in (i := 104) rfl rfl, tb1_in (i := 5) rfl rfl, Or.inr ⟨pr5_in (i := 3) rfl, _, _, rfl⟩, rfl, pl_RX5, pd_7⟩
theorem mko_209 : MOK 209 := ⟨tb5_in (i := 88) rfl rfl, tb5_in (i := 86) rfl rfl, tb1_in (i := 5) rfl rfl, Or.inr ⟨tb5_in (i := 87) rfl rfl, _, _, rfl⟩, rfl, pl_RX5, pd_11⟩
theorem mko_210 : MOK 210 := ⟨tb5_in (i := 113) rfl rfl, tb5_in (i := 112) rfl rfl, tb1_in (i := 5) rfl rfl, Or.inr ⟨pr5_in (i := 4) rfl, _, _, rfl⟩, rfl, pl_RX5, pd_9⟩
theorem mko_211 : MOK 211 := ⟨tb5_in (i := 109) rfl rfl, tb5_in (i := 107) rfl rfl, tb1_in (i := 5) rfl rfl, Or.inr ⟨tb5_in (i := 108) rfl rfl, _, _, rfl⟩, rfl, pl_RX5, pd_7⟩
theorem mko_212 : MOK 212 := ⟨tb5_in (i := 117) rfl rfl, tb5_in (i := 115) rfl rfl, tb1_in (i := 5) rfl rfl, Or.inr ⟨tb5_in (i := 116) rfl rfl, _, _, rfl⟩, rfl, pl_RX5, pd_7⟩
theorem mko_213 : MOK 213 := ⟨tb5_in (i := 129) rfl rfl, tb5_in (i := 128) rfl rfl, tb1_in (i := 5) rfl rfl, Or.inr ⟨pr5_in (i := 6) rfl, _, _, rfl⟩, rfl, pl_RX5, pd_3⟩
theorem mko_214 : MOK 214 := ⟨tb5_in (i := 125) rfl rfl, tb5_in (i := 123) rfl rfl, tb1_in (i := 5) rfl rfl, Or.inr ⟨tb5_in (i := 124) rfl rfl, _, _, rfl⟩, rfl, pl_RX5, pd_3⟩
theorem mko_215 : MOK 215 := ⟨tb5_in (i := 133) rfl rfl, tb5_in (i := 131) rfl rfl, tb1_in (i := 5) rfl rfl, Or.inr ⟨tb5_in (i := 132) rfl rfl, _, _, rfl⟩, rfl, pl_RX5, pd_3⟩
theorem mko_216 : MOK 216 := ⟨tb5_in (i := 137) rfl rfl, tb5_in (i := 135) rfl rfl, tb1_in (i := 5) rfl rfl, Or.inr ⟨tb5_in (i := 136) rfl rfl, _, _, rfl⟩, rfl, pl_RX5, pd_11⟩
theorem mko_217 : MOK 217 := ⟨tb5_in (i := 141) rfl rfl, tb5_in (i := 139) rfl rfl, tb1_in (i := 5) rfl rfl, Or.inr ⟨tb5_in (i := 140) rfl rfl, _, _, rfl⟩, rfl, pl_RX5, pd_3⟩
theorem mko_218 : MOK 218 := ⟨tb5_in (i := 145) rfl rfl, tb5_in (i := 143) rfl rfl, tb1_in (i := 5) rfl rfl, Or.inr ⟨tb5_in (i := 144) rfl rfl, _, _, rfl⟩, rfl, pl_RX5, pd_3⟩
theorem mko_219 : MOK 219 := ⟨tb5_in (i := 153) rfl rfl, tb5_in (i := 152) rfl rfl, tb1_in (i := 5) rfl rfl, Or.inr ⟨pr5_in (i := 7) rfl, _, _, rfl⟩, rfl, pl_RX5, pd_3⟩
theorem mko_220 : MOK 220 := ⟨tb5_in (i := 149) rfl rfl, tb5_in (i := 147) rfl rfl, tb1_in (i := 5) rfl rfl, Or.inr ⟨tb5_in (i := 148) rfl rfl, _, _, rfl⟩, rfl, pl_RX5, pd_3⟩
theorem mko_221 : MOK 221 := ⟨tb5_in (i := 161) rfl rfl, tb5_in (i := 160) rfl rfl, tb1_in (i := 5) rfl rfl, Or.inr ⟨pr5_in (i := 8) rfl, _, _, rfl⟩, rfl, pl_RX5, pd_0⟩
theorem mko_222 : MOK 222 := ⟨tb5_in (i := 165) rfl rfl, tb5_in (i := 164) rfl rfl, tb1_in (i := 5) rfl rfl, Or.inr ⟨pr5_in (i := 9) rfl, _, _, rfl⟩, rfl, pl_RX5, pd_0⟩
theorem mko_223 : MOK 223 := ⟨tb5_in (i := 169) rfl rfl, tb5_in (i := 168) rfl rfl, tb1_in (i := 5) rfl rfl, Or.inr ⟨pr5_in (i := 10) rfl, _, _, rfl⟩, rfl, pl_RX5, pd_0⟩
theorem mko_224 : MOK 224 := ⟨tb5_in (i := 157) rfl rfl, tb5_in (i := 155) rfl rfl, tb1_in (i := 5) rfl rfl, Or.inr ⟨tb5_in (i := 156) rfl rfl, _, _, rfl⟩, rfl, pl_RX5, pd_3⟩
theorem mko_225 : MOK 225 := ⟨tb5_in (i := 173) rfl rfl, tb5_in (i := 171) rfl rfl, tb1_in (i := 5) rfl rfl, Or.inr ⟨tb5_in (i := 172) rfl rfl, _, _, rfl⟩, rfl, pl_RX5, pd_11⟩
theorem mko_226 : MOK 226 := ⟨tb5_in (i := 181) rfl rfl, tb5_in (i := 180) rfl rfl, tb1_in (i := 5) rfl rfl, Or.inr ⟨pr5_in (i := 11) rfl, _, _, rfl⟩, rfl, pl_RX5, pd_9⟩
theorem mko_227 : MOK 227 := ⟨tb5_in (i := 177) rfl rfl, tb5_in (i := 175) rfl rfl, tb1_in (i := 5) rfl rfl, Or.inr ⟨tb5_in (i := 176) rfl rfl, _, _, rfl⟩, rfl, pl_RX5, pd_7⟩
theorem mko_228 : MOK 228 := ⟨tb5_in (i := 199) rfl rfl, tb5_in (i := 198) rfl rfl, tb1_in (i := 5) rfl rfl, Or.inl rfl, rfl, pl_RX5, pd_19⟩
theorem mko_229 : MOK 229 := ⟨tb5_in (i := 196) rfl rfl, tb5_in (i := 195) rfl rfl, tb1_in (i := 5) rfl rfl, Or.inl rfl, rfl, pl_RX5, pd_20⟩
theorem mko_230 : MOK 230 := ⟨tb5_in (i := 193) rfl rfl, tb5_in (i := 192) rfl rfl, tb1_in (i := 5) rfl rfl, Or.inl rfl, rfl, pl_RX5, pd_8⟩
theorem mko_231 : MOK 231 := ⟨tb5_in (i := 185) rfl rfl, tb5_in (i := 183) rfl rfl, tb1_in (i := 5) rfl rfl, Or.inr ⟨tb5_in (i := 184) rfl rfl, _, _, rfl⟩, rfl, pl_RX5, pd_8⟩
theorem mko_232 : MOK 232 := ⟨tb5_in (i := 203) rfl rfl, tb5_in (i := 201) rfl rfl, tb1_in (i := 5) rfl rfl, Or.inr ⟨tb5_in (i := 202) rfl rfl, _, _, rfl⟩, rfl, pl_RX5, pd_14⟩
theorem mko_233 : MOK 233 := ⟨tb5_in (i := 207) rfl rfl, tb5_in (i := 205) rfl rfl, tb1_in (i := 5) rfl rfl, Or.inr ⟨tb5_in (i := 206) rfl rfl, _, _, rfl⟩, rfl, pl_RX5, pd_4⟩
theorem mko_234 : MOK 234 := ⟨tb5_in (i := 215) rfl rfl, tb5_in (i := 214) rfl rfl, tb1_in (i := 5) rfl rfl, Or.inr ⟨pr5_in (i := 13) rfl, _, _, rfl⟩, rfl, pl_RX5, pd_10⟩
theorem mko_235 : MOK 235 := ⟨tb5_in (i := 211) rfl rfl, tb5_in (i := 209) rfl rfl, tb1_in (i := 5) rfl rfl, Or.inr ⟨tb5_in (i := 210) rfl rfl, _, _, rfl⟩, rfl, pl_RX5, pd_7⟩
theorem mko_236 : MOK 236 := ⟨tb5_in (i := 219) rfl rfl, tb5_in (i := 217) rfl rfl, tb1_in (i := 5) rfl rfl, Or.inr ⟨tb5_in (i := 218) rfl rfl, _, _, rfl⟩, rfl, pl_RX5, pd_3⟩
theorem mko_237 : MOK 237 := ⟨tb5_in (i := 223) rfl rfl, tb5_in (i := 221) rfl rfl, tb1_in (i := 5) rfl rfl, Or.inr ⟨tb5_in (i := 222) rfl rfl, _, _, rfl⟩, rfl, pl_RX5, pd_0⟩
theorem mko_238 : MOK 238 := ⟨tb5_in (i := 227) rfl rfl, tb5_in (i := 225) rfl rfl, tb1_in (i := 5) rfl rfl, Or.inr ⟨tb5_in (i := 226) rfl rfl, _, _, rfl⟩, rfl, pl_RX5, pd_0⟩
theorem mko_239 : MOK 239 := ⟨tb5_in (i := 235) rfl rfl, tb5_in (i := 234) rfl rfl, tb1_in (i := 5) rfl rfl, Or.inr ⟨pr5_in (i := 14) rfl, _, _, rfl⟩, rfl, pl_RX5, pd_3⟩
theorem mko_240 : MOK 240 := ⟨tb5_in (i := 231) rfl rfl, tb5_in (i := 229) rfl rfl, tb1_in (i := 5) rfl rfl, Or.inr ⟨tb5_in (i := 230) rfl rfl, _, _, rfl⟩, rfl, pl_RX5, pd_11⟩
theorem mko_241 : MOK 241 := ⟨tb6_in (i := 6) rfl rfl, tb6_in (i := 4) rfl rfl, tb1_in (i := 5) rfl rfl, Or.inr ⟨tb6_in (i := 5) rfl rfl, _, _, rfl⟩, rfl, pl_RX5, pd_3⟩
theorem mko_243 : MOK 243 := ⟨tb2_in (i := 223) rfl rfl, tb2_in (i := 222) rfl rfl, tb1_in (i := 8) rfl rfl, Or.inl rfl, rfl, pl_RJ6, pd_3⟩
theorem flc_0 : ∀ q ∈ ([(1, 7, 1, 0), (1, 13, 1, 1), (1, 16, 1, 2), (1, 19, 1, 3), (1, 22, 1, 4), (1, 25, 1, 5), (1, 29, 1, 6), (1, 32, 1, 7), (1, 35, 1, 8), (1, 38, 1, 9), (3, 11, 2, 0), (3, 15, 2, 1), (0, 7, 0, 0), (0, 13, 0, 1), (0, 17, 0, 2), (0, 20, 0, 3), (4, 10, 3, 0), (4, 16, 3, 1), (4, 19, 3, 2), (4, 22, 3, 3), (4, 29, 3, 4), (4, 33, 3, 5), (4, 37, 3, 6), (4, 41, 3, 7), (4, 44, 3, 8), (4, 50, 3, 9), (5, 7, 4, 0), (5, 13, 4, 1), (5, 16, 4, 2), (5, 19, 4, 3), (5, 22, 4, 4), (5, 25, 4, 5), (5, 28, 4, 6), (5, 31, 4, 7), (5, 60, 4, 8), (5, 34, 4, 9), (5, 37, 4, 10), (5, 40, 4, 11), (5, 43, 4, 12), (5, 76, 4, 13)] : List (Nat × Nat × Nat × Nat)), FOK q := List.forall_mem_cons.mpr ⟨fko_0, List.forall_mem_cons.mpr ⟨fko_1, List.forall_mem_cons.mpr ⟨fko_2, List.forall_mem_cons.mpr ⟨fko_3, List.forall_mem_cons.mpr ⟨fko_4, List.forall_mem_cons.mpr ⟨fko_5, List.forall_mem_cons.mpr ⟨fko_6, List.forall_mem_cons.mpr ⟨fko_7, List.forall_mem_cons.mpr ⟨fko_8, List.forall_mem_cons.mpr ⟨fko_9, List.forall_mem_cons.mpr ⟨fko_10, List.forall_mem_cons.mpr ⟨fko_11, List.forall_mem_cons.mpr ⟨fko_12, List.forall_mem_cons.mpr ⟨fko_13, List.forall_mem_cons.mpr ⟨fko_14, List.forall_mem_cons.mpr ⟨fko_15, List.forall_mem_cons.mpr ⟨fko_16, List.forall_mem_cons.mpr ⟨fko_17, List.forall_mem_cons.mpr ⟨fko_18, List.forall_mem_cons.mpr ⟨fko_19, List.forall_mem_cons.mpr ⟨fko_20, List.forall_mem_cons.mpr ⟨fko_21, List.forall_mem_cons.mpr ⟨fko_22, List.forall_mem_cons.mpr ⟨fko_23, List.forall_mem_cons.mpr ⟨fko_24, List.forall_mem_cons.mpr ⟨fko_25, List.forall_mem_cons.mpr ⟨fko_26, List.forall_mem_cons.mpr ⟨fko_27, List.forall_mem_cons.mpr ⟨fko_28, List.forall_mem_cons.mpr ⟨fko_29, List.forall_mem_cons.mpr ⟨fko_30, List.forall_mem_cons.mpr ⟨fko_31, List.forall_mem_cons.mpr ⟨fko_32, List.forall_mem_cons.mpr ⟨fko_33, List.forall_mem_cons.mpr ⟨fko_34, List.forall_mem_cons.mpr ⟨fko_35, List.forall_mem_cons.mpr ⟨fko_36, List.forall_mem_cons.mpr ⟨fko_37, List.forall_mem_cons.mpr ⟨fko_38, List.forall_mem_cons.mpr ⟨fko_39, fun _ h => absurd h List.not_mem_nil⟩⟩⟩⟩⟩⟩⟩⟩⟩⟩⟩⟩⟩⟩⟩⟩⟩⟩⟩⟩⟩⟩⟩⟩⟩⟩⟩⟩⟩⟩⟩⟩⟩⟩⟩⟩⟩⟩⟩⟩
theorem flc_1 : ∀ q ∈ ([(5, 83, 4, 14), (5, 103, 4, 15), (5, 90, 4, 16), (5, 46, 4, 17), (5, 163, 4, 18), (5, 152, 4, 19), (5, 156, 4, 20), (5, 169, 4, 21), (5, 194, 4, 22), (5, 224, 4, 23), (5, 49, 4, 24), (5, 233, 4, 25), (5, 236, 4, 26), (5, 52, 4, 27), (5, 245, 4, 28), (5, 248, 4, 29), (5, 264, 4, 30), (5, 267, 4, 31), (5, 279, 4, 32), (5, 276, 4, 33), (5, 55, 4, 34), (5, 319, 4, 35)] : List (Nat × Nat × Nat × Nat)), FOK q := List.forall_mem_cons.mpr ⟨fko_40, List.forall_mem_cons.mpr ⟨fko_41, List.forall_mem_cons.mpr ⟨fko_42, List.forall_mem_cons.mpr ⟨fko_43, List.forall_mem_cons.mpr ⟨fko_44, List.forall_mem_cons.mpr ⟨fko_45, List.forall_mem_cons.mpr ⟨fko_46, List.forall_mem_cons.mpr ⟨fko_47, List.forall_mem_cons.mpr ⟨fko_48, List.forall_mem_cons.mpr ⟨fko_49, List.forall_mem_cons.mpr ⟨fko_50, List.forall_mem_cons.mpr ⟨fko_51, List.forall_mem_cons.mpr ⟨fko_52, List.forall_mem_cons.mpr ⟨fko_53, List.forall_mem_cons.mpr ⟨fko_54, List.forall_mem_cons.mpr ⟨fko_55, List.forall_mem_cons.mpr ⟨fko_56, List.forall_mem_cons.mpr ⟨fko_57, List.forall_mem_cons.mpr ⟨fko_58, List.forall_mem_cons.mpr ⟨fko_59, List.forall_mem_cons.mpr ⟨fko_60, List.forall_mem_cons.mpr ⟨fko_61, fun _ h => absurd h List.not_mem_nil⟩⟩⟩⟩⟩⟩⟩⟩⟩⟩⟩⟩⟩⟩⟩⟩⟩⟩⟩⟩⟩⟩
theorem clc_0 : ∀ q ∈ ([(6, 13, 67), (4, 54, 109), (4, 58, 54), (4, 62, 55), (6, 18, 68), (4, 65, 114), (4, 72, 5), (4, 68, 57), (3, 19, 58), (3, 31, 60), (3, 34, 63), (3, 37, 61), (3, 40, 62), (3, 44, 46), (3, 27, 59), (3, 23, 64), (3, 49, 8), (3, 54, 7), (3, 58, 16), (3, 62, 15), (3, 65, 65), (3, 69, 26), (3, 86, 27), (3, 89, 33), (3, 92, 34), (3, 72, 35), (3, 76, 39), (1, 77, 38), (1, 87, 28), (1, 90, 244), (1, 81, 36), (1, 93, 33), (1, 96, 20), (1, 47, 9), (1, 50, 10), (1, 53, 49), (1, 99, 41), (1, 113, 13), (1, 117, 14), (1, 110, 30)] : List (Nat × Nat × Nat)), COK q := List.forall_mem_cons.mpr ⟨cko_0, List.forall_mem_cons.mpr ⟨cko_1, List.forall_mem_cons.mpr ⟨cko_2, List.forall_mem_cons.mpr ⟨cko_3, List.forall_mem_cons.mpr ⟨cko_4, List.forall_mem_cons.mpr ⟨cko_5, List.forall_mem_cons.mpr ⟨cko_6, List.forall_mem_cons.mpr ⟨cko_7, List.forall_mem_cons.mpr ⟨cko_8, List.forall_mem_cons.mpr ⟨cko_9, List.forall_mem_cons.mpr ⟨cko_10, List.forall_mem_cons.mpr ⟨cko_11, List.forall_mem_cons.mpr ⟨cko_12, List.forall_mem_cons.mpr ⟨cko_13, List.forall_mem_cons.mpr ⟨cko_14, List.forall_mem_cons.mpr ⟨cko_15, List.forall_mem_cons.mpr ⟨cko_16, List.forall_mem_cons.mpr ⟨cko_17, List.forall_mem_cons.mpr ⟨cko_18, List.forall_mem_cons.mpr ⟨cko_19, List.forall_mem_cons.mpr ⟨cko_20, List.forall_mem_cons.mpr ⟨cko_21, List.forall_mem_cons.mpr ⟨cko_22, List.forall_mem_cons.mpr ⟨cko_23, List.forall_mem_cons.mpr ⟨cko_24, List.forall_mem_cons.mpr ⟨cko_25, List.forall_mem_cons.mpr ⟨cko_26, List.forall_mem_cons.mpr ⟨cko_27, List.forall_mem_cons.mpr ⟨cko_28, List.forall_mem_cons.mpr ⟨cko_29, List.forall_mem_cons.mpr ⟨cko_30, List.forall_mem_cons.mpr ⟨cko_31, List.forall_mem_cons.mpr ⟨cko_32, List.forall_mem_cons.mpr ⟨cko_33, List.forall_mem_cons.mpr ⟨cko_34, List.forall_mem_cons.mpr ⟨cko_35, List.forall_mem_cons.mpr ⟨cko_36, List.forall_mem_cons.mpr ⟨cko_37, List.forall_mem_cons.mpr ⟨cko_38, List.forall_mem_cons.mpr ⟨cko_39, fun _ h => absurd h List.not_mem_nil⟩⟩⟩⟩⟩⟩⟩⟩⟩⟩⟩⟩⟩⟩⟩⟩⟩⟩⟩⟩⟩⟩⟩⟩⟩⟩⟩⟩⟩⟩⟩⟩⟩⟩⟩⟩⟩⟩⟩⟩
theorem clc_1 : ∀ q ∈ ([(1, 120, 25), (1, 68, 48), (1, 124, 29), (1, 127, 21), (1, 59, 50), (1, 130, 42), (1, 84, 34), (1, 134, 15), (3, 80, 31), (1, 72, 245), (3, 83, 40), (1, 103, 31), (1, 107, 35), (4, 76, 56), (6, 23, 69), (4, 79, 7), (4, 83, 9), (4, 86, 10), (4, 89, 13), (4, 92, 14), (4, 95, 20), (4, 98, 21), (4, 101, 22), (1, 62, 51), (6, 28, 70), (4, 104, 26), (4, 107, 28), (4, 110, 29), (4, 113, 30), (6, 32, 71), (4, 116, 16), (6, 36, 72), (4, 120, 15), (6, 40, 73), (4, 123, 45), (4, 128, 11), (4, 132, 12), (6, 45, 74), (4, 135, 27), (4, 138, 33)] : List (Nat × Nat × Nat)), COK q := List.forall_mem_cons.mpr ⟨cko_40, List.forall_mem_cons.mpr ⟨cko_41, List.forall_mem_cons.mpr ⟨cko_42, List.forall_mem_cons.mpr ⟨cko_43, List.forall_mem_cons.mpr ⟨cko_44, List.forall_mem_cons.mpr ⟨cko_45, List.forall_mem_cons.mpr ⟨cko_46, List.forall_mem_cons.mpr ⟨cko_47, List.forall_mem_cons.mpr ⟨cko_48, List.forall_mem_cons.mpr ⟨cko_49, List.forall_mem_cons.mpr ⟨cko_50, List.forall_mem_cons.mpr ⟨cko_51, List.forall_mem_cons.mpr ⟨cko_52, List.forall_mem_cons.mpr ⟨cko_53, List.forall_mem_cons.mpr ⟨cko_54, List.forall_mem_cons.mpr ⟨cko_55, List.forall_mem_cons.mpr ⟨cko_56, List.forall_mem_cons.mpr ⟨cko_57, List.forall_mem_cons.mpr ⟨cko_58, List.forall_mem_cons.mpr ⟨cko_59, List.forall_mem_cons.mpr ⟨cko_60, List.forall_mem_cons.mpr ⟨cko_61, List.forall_mem_cons.mpr ⟨cko_62, List.forall_mem_cons.mpr ⟨cko_63, List.forall_mem_cons.mpr ⟨cko_64, List.forall_mem_cons.mpr ⟨cko_65, List.forall_mem_cons.mpr ⟨cko_66, List.forall_mem_cons.mpr ⟨cko_67, List.forall_mem_cons.mpr ⟨cko_68, List.forall_mem_cons.mpr ⟨cko_69, List.forall_mem_cons.mpr ⟨cko_70, List.forall_mem_cons.mpr ⟨cko_71, List.forall_mem_cons.mpr ⟨cko_72, List.forall_mem_cons.mpr ⟨cko_73, List.forall_mem_cons.mpr ⟨cko_74, List.forall_mem_cons.mpr ⟨cko_75, List.forall_mem_cons.mpr ⟨cko_76, List.forall_mem_cons.mpr ⟨cko_77, List.forall_mem_cons.mpr ⟨cko_78, List.forall_mem_cons.mpr ⟨cko_79, fun _ h => absurd h List.not_mem_nil⟩⟩⟩⟩⟩⟩⟩⟩⟩⟩⟩⟩⟩⟩⟩⟩⟩⟩⟩⟩⟩⟩⟩⟩⟩⟩⟩⟩⟩⟩⟩⟩⟩⟩⟩⟩⟩⟩⟩⟩
theorem clc_2 : ∀ q ∈ ([(4, 141, 34), (6, 49, 75), (4, 144, 36), (6, 53, 76), (4, 147, 39), (6, 57, 77), (4, 151, 40), (4, 154, 31), (6, 61, 78), (4, 158, 37), (4, 161, 115), (6, 65, 79), (4, 164, 111), (4, 167, 25), (6, 69, 80), (6, 73, 81), (6, 77, 82), (6, 81, 83), (4, 171, 116), (4, 270, 117), (4, 174, 17), (4, 177, 32), (6, 85, 84), (4, 180, 122), (6, 89, 85), (4, 184, 6), (6, 93, 86), (4, 187, 112), (4, 190, 243), (4, 195, 118), (4, 201, 1), (4, 287, 120), (4, 290, 119), (4, 205, 19), (1, 41, 243), (4, 208, 2), (4, 293, 121), (4, 198, 3), (6, 97, 87), (4, 202, 43)] : List (Nat × Nat × Nat)), COK q := List.forall_mem_cons.mpr ⟨cko_80, List.forall_mem_cons.mpr ⟨cko_81, List.forall_mem_cons.mpr ⟨cko_82, List.forall_mem_cons.mpr ⟨cko_83, List.forall_mem_cons.mpr ⟨cko_84, List.forall_mem_cons.mpr ⟨cko_85, List.forall_mem_cons.mpr ⟨cko_86, List.forall_mem_cons.mpr ⟨cko_87, List.forall_mem_cons.mpr ⟨cko_88, List.forall_mem_cons.mpr ⟨cko_89, List.forall_mem_cons.mpr ⟨cko_90, List.forall_mem_cons.mpr ⟨cko_91, List.forall_mem_cons.mpr ⟨cko_92, List.forall_mem_cons.mpr ⟨cko_93, List.forall_mem_cons.mpr ⟨cko_94, List.forall_mem_cons.mpr ⟨cko_95, List.forall_mem_cons.mpr ⟨cko_96, List.forall_mem_cons.mpr ⟨cko_97, List.forall_mem_cons.mpr ⟨cko_98, List.forall_mem_cons.mpr ⟨cko_99, List.forall_mem_cons.mpr ⟨cko_100, List.forall_mem_cons.mpr ⟨cko_101, List.forall_mem_cons.mpr ⟨cko_102, List.forall_mem_cons.mpr ⟨cko_103, List.forall_mem_cons.mpr ⟨cko_104, List.forall_mem_cons.mpr ⟨cko_105, List.forall_mem_cons.mpr ⟨cko_106, List.forall_mem_cons.mpr ⟨cko_107, List.forall_mem_cons.mpr ⟨cko_108, List.forall_mem_cons.mpr ⟨cko_109, List.forall_mem_cons.mpr ⟨cko_110, List.forall_mem_cons.mpr ⟨cko_111, List.forall_mem_cons.mpr ⟨cko_112, List.forall_mem_cons.mpr ⟨cko_113, List.forall_mem_cons.mpr ⟨cko_114, List.forall_mem_cons.mpr ⟨cko_115, List.forall_mem_cons.mpr ⟨cko_116, List.forall_mem_cons.mpr ⟨cko_117, List.forall_mem_cons.mpr ⟨cko_118, List.forall_mem_cons.mpr ⟨cko_119, fun _ h => absurd h List.not_mem_nil⟩⟩⟩⟩⟩⟩⟩⟩⟩⟩⟩⟩⟩⟩⟩⟩⟩⟩⟩⟩⟩⟩⟩⟩⟩⟩⟩⟩⟩⟩⟩⟩⟩⟩⟩⟩⟩⟩⟩⟩
theorem clc_3 : ∀ q ∈ ([(1, 137, 39), (6, 101, 88), (4, 212, 113), (6, 105, 89), (4, 215, 44), (1, 140, 43), (6, 109, 90), (4, 218, 245), (6, 113, 91), (6, 117, 92), (4, 223, 47), (6, 121, 93), (6, 125, 94), (4, 226, 23), (1, 65, 22), (4, 229, 244), (6, 129, 95), (4, 232, 125), (4, 235, 126), (4, 238, 127), (6, 133, 96), (6, 137, 97), (4, 241, 123), (4, 296, 124), (6, 141, 98), (4, 245, 110), (4, 249, 133), (4, 253, 135), (4, 310, 136), (6, 146, 99), (4, 257, 24), (4, 260, 134), (6, 151, 100), (6, 156, 101), (4, 264, 128), (4, 300, 130), (4, 303, 48), (4, 267, 129), (6, 160, 102), (6, 164, 103)] : List (Nat × Nat × Nat)), COK q := List.forall_mem_cons.mpr ⟨cko_120, List.forall_mem_cons.mpr ⟨cko_121, List.forall_mem_cons.mpr ⟨cko_122, List.forall_mem_cons.mpr ⟨cko_123, List.forall_mem_cons.mpr ⟨cko_124, List.forall_mem_cons.mpr ⟨cko_125, List.forall_mem_cons.mpr ⟨cko_126, List.forall_mem_cons.mpr ⟨cko_127, List.forall_mem_cons.mpr ⟨cko_128, List.forall_mem_cons.mpr ⟨cko_129, List.forall_mem_cons.mpr ⟨cko_130, List.forall_mem_cons.mpr ⟨cko_131, List.forall_mem_cons.mpr ⟨cko_132, List.forall_mem_cons.mpr ⟨cko_133, List.forall_mem_cons.mpr ⟨cko_134, List.forall_mem_cons.mpr ⟨cko_135, List.forall_mem_cons.mpr ⟨cko_136, List.forall_mem_cons.mpr ⟨cko_137, List.forall_mem_cons.mpr ⟨cko_138, List.forall_mem_cons.mpr ⟨cko_139, List.forall_mem_cons.mpr ⟨cko_140, List.forall_mem_cons.mpr ⟨cko_141, List.forall_mem_cons.mpr ⟨cko_142, List.forall_mem_cons.mpr ⟨cko_143, List.forall_mem_cons.mpr ⟨cko_144, List.forall_mem_cons.mpr ⟨cko_145, List.forall_mem_cons.mpr ⟨cko_146, List.forall_mem_cons.mpr ⟨cko_147, List.forall_mem_cons.mpr ⟨cko_148, List.forall_mem_cons.mpr ⟨cko_149, List.forall_mem_cons.mpr ⟨cko_150, List.forall_mem_cons.mpr ⟨cko_151, List.forall_mem_cons.mpr ⟨cko_152, List.forall_mem_cons.mpr ⟨cko_153, List.forall_mem_cons.mpr ⟨cko_154, List.forall_mem_cons.mpr ⟨cko_155, List.forall_mem_cons.mpr ⟨cko_156, List.forall_mem_cons.mpr ⟨cko_157, List.forall_mem_cons.mpr ⟨cko_158, List.forall_mem_cons.mpr ⟨cko_159, fun _ h => absurd h List.not_mem_nil⟩⟩⟩⟩⟩⟩⟩⟩⟩⟩⟩⟩⟩⟩⟩⟩⟩⟩⟩⟩⟩⟩⟩⟩⟩⟩⟩⟩⟩⟩⟩⟩⟩⟩⟩⟩⟩⟩⟩⟩
theorem clc_4 : ∀ q ∈ ([(6, 168, 104), (6, 172, 105), (4, 273, 131), (4, 276, 132), (6, 176, 106), (6, 180, 107), (6, 184, 108), (4, 279, 18), (4, 282, 53), (6, 17, 148), (5, 72, 141), (5, 79, 138), (6, 22, 162), (5, 142, 154), (5, 86, 149), (5, 106, 153), (5, 96, 152), (5, 93, 151), (5, 100, 150), (5, 64, 140), (5, 145, 164), (5, 159, 163), (5, 149, 161), (5, 122, 155), (5, 126, 156), (5, 68, 145), (5, 130, 157), (5, 109, 146), (5, 133, 158), (5, 136, 159), (5, 112, 178), (5, 197, 176), (5, 185, 144), (5, 201, 171), (5, 204, 177), (5, 188, 170), (5, 172, 142), (5, 175, 169), (5, 191, 172), (5, 139, 160)] : List (Nat × Nat × Nat)), COK q := List.forall_mem_cons.mpr ⟨cko_160, List.forall_mem_cons.mpr ⟨cko_161, List.forall_mem_cons.mpr ⟨cko_162, List.forall_mem_cons.mpr ⟨cko_163, List.forall_mem_cons.mpr ⟨cko_164, List.forall_mem_cons.mpr ⟨cko_165, List.forall_mem_cons.mpr ⟨cko_166, List.forall_mem_cons.mpr ⟨cko_167, List.forall_mem_cons.mpr ⟨cko_168, List.forall_mem_cons.mpr ⟨cko_169, List.forall_mem_cons.mpr ⟨cko_170, List.forall_mem_cons.mpr ⟨cko_171, List.forall_mem_cons.mpr ⟨cko_172, List.forall_mem_cons.mpr ⟨cko_173, List.forall_mem_cons.mpr ⟨cko_174, List.forall_mem_cons.mpr ⟨cko_175, List.forall_mem_cons.mpr ⟨cko_176, List.forall_mem_cons.mpr ⟨cko_177, List.forall_mem_cons.mpr ⟨cko_178, List.forall_mem_cons.mpr ⟨cko_179, List.forall_mem_cons.mpr ⟨cko_180, List.forall_mem_cons.mpr ⟨cko_181, List.forall_mem_cons.mpr ⟨cko_182, List.forall_mem_cons.mpr ⟨cko_183, List.forall_mem_cons.mpr ⟨cko_184, List.forall_mem_cons.mpr ⟨cko_185, List.forall_mem_cons.mpr ⟨cko_186, List.forall_mem_cons.mpr ⟨cko_187, List.forall_mem_cons.mpr ⟨cko_188, List.forall_mem_cons.mpr ⟨cko_189, List.forall_mem_cons.mpr ⟨cko_190, List.forall_mem_cons.mpr ⟨cko_191, List.forall_mem_cons.mpr ⟨cko_192, List.forall_mem_cons.mpr ⟨cko_193, List.forall_mem_cons.mpr ⟨cko_194, List.forall_mem_cons.mpr ⟨cko_195, List.forall_mem_cons.mpr ⟨cko_196, List.forall_mem_cons.mpr ⟨cko_197, List.forall_mem_cons.mpr ⟨cko_198, List.forall_mem_cons.mpr ⟨cko_199, fun _ h => absurd h List.not_mem_nil⟩⟩⟩⟩⟩⟩⟩⟩⟩⟩⟩⟩⟩⟩⟩⟩⟩⟩⟩⟩⟩⟩⟩⟩⟩⟩⟩⟩⟩⟩⟩⟩⟩⟩⟩⟩⟩⟩⟩⟩
theorem clc_5 : ∀ q ∈ ([(5, 116, 180), (5, 119, 179), (6, 179, 167), (5, 166, 175), (5, 178, 174), (5, 182, 143), (6, 183, 168), (6, 27, 182), (5, 207, 173), (6, 31, 183), (6, 35, 185), (5, 210, 184), (6, 39, 186), (6, 44, 187), (6, 48, 188), (6, 52, 189), (6, 56, 190), (6, 60, 191), (6, 64, 192), (5, 214, 193), (6, 68, 195), (5, 218, 194), (6, 72, 196), (6, 76, 198), (5, 230, 197), (5, 221, 165), (5, 227, 166), (6, 80, 199), (6, 84, 201), (5, 239, 200), (6, 88, 203), (5, 242, 202), (6, 92, 204), (6, 96, 209), (5, 251, 205), (5, 255, 206), (5, 258, 207), (5, 261, 208), (6, 100, 211), (5, 270, 210)] : List (Nat × Nat × Nat)), COK q := List.forall_mem_cons.mpr ⟨cko_200, List.forall_mem_cons.mpr ⟨cko_201, List.forall_mem_cons.mpr ⟨cko_202, List.forall_mem_cons.mpr ⟨cko_203, List.forall_mem_cons.mpr ⟨cko_204, List.forall_mem_cons.mpr ⟨cko_205, List.forall_mem_cons.mpr ⟨cko_206, List.forall_mem_cons.mpr ⟨cko_207, List.forall_mem_cons.mpr ⟨cko_208, List.forall_mem_cons.mpr ⟨cko_209, List.forall_mem_cons.mpr ⟨cko_210, List.forall_mem_cons.mpr ⟨cko_211, List.forall_mem_cons.mpr ⟨cko_212, List.forall_mem_cons.mpr ⟨cko_213, List.forall_mem_cons.mpr ⟨cko_214, List.forall_mem_cons.mpr ⟨cko_215, List.forall_mem_cons.mpr ⟨cko_216, List.forall_mem_cons.mpr ⟨cko_217, List.forall_mem_cons.mpr ⟨cko_218, List.forall_mem_cons.mpr ⟨cko_219, List.forall_mem_cons.mpr ⟨cko_220, List.forall_mem_cons.mpr ⟨cko_221, List.forall_mem_cons.mpr ⟨cko_222, List.forall_mem_cons.mpr ⟨cko_223, List.forall_mem_cons.mpr ⟨cko_224, List.forall_mem_cons.mpr ⟨cko_225, List.forall_mem_cons.mpr ⟨cko_226, List.forall_mem_cons.mpr ⟨cko_227, List.forall_mem_cons.mpr ⟨cko_228, List.forall_mem_cons.mpr ⟨cko_229, List.forall_mem_cons.mpr ⟨cko_230, List.forall_mem_cons.mpr ⟨cko_231, List.forall_mem_cons.mpr ⟨cko_232, List.forall_mem_cons.mpr ⟨cko_233, List.forall_mem_cons.mpr ⟨cko_234, List.forall_mem_cons.mpr ⟨cko_235, List.forall_mem_cons.mpr ⟨cko_236, List.forall_mem_cons.mpr ⟨cko_237, List.forall_mem_cons.mpr ⟨cko_238, List.forall_mem_cons.mpr ⟨cko_239, fun _ h => absurd h List.not_mem_nil⟩⟩⟩⟩⟩⟩⟩⟩⟩⟩⟩⟩⟩⟩⟩⟩⟩⟩⟩⟩⟩⟩⟩⟩⟩⟩⟩⟩⟩⟩⟩⟩⟩⟩⟩⟩⟩⟩⟩⟩
theorem clc_6 : ∀ q ∈ ([(6, 104, 212), (5, 273, 147), (6, 108, 214), (5, 282, 213), (6, 112, 215), (6, 116, 216), (6, 120, 217), (6, 124, 218), (6, 128, 220), (5, 285, 219), (6, 132, 224), (5, 288, 221), (5, 291, 222), (5, 294, 223), (6, 136, 225), (6, 140, 227), (5, 297, 226), (6, 145, 231), (5, 304, 139), (5, 308, 230), (5, 312, 229), (5, 300, 228), (6, 150, 232), (6, 155, 233), (6, 159, 235), (5, 316, 234), (6, 163, 236), (6, 167, 237), (6, 171, 238), (6, 175, 240), (5, 325, 239), (5, 328, 181), (6, 187, 241)] : List (Nat × Nat × Nat)), COK q := List.forall_mem_cons.mpr ⟨cko_240, List.forall_mem_cons.mpr ⟨cko_241, List.forall_mem_cons.mpr ⟨cko_242, List.forall_mem_cons.mpr ⟨cko_243, List.forall_mem_cons.mpr ⟨cko_244, List.forall_mem_cons.mpr ⟨cko_245, List.forall_mem_cons.mpr ⟨cko_246, List.forall_mem_cons.mpr ⟨cko_247, List.forall_mem_cons.mpr ⟨cko_248, List.forall_mem_cons.mpr ⟨cko_249, List.forall_mem_cons.mpr ⟨cko_250, List.forall_mem_cons.mpr ⟨cko_251, List.forall_mem_cons.mpr ⟨cko_252, List.forall_mem_cons.mpr ⟨cko_253, List.forall_mem_cons.mpr ⟨cko_254, List.forall_mem_cons.mpr ⟨cko_255, List.forall_mem_cons.mpr ⟨cko_256, List.forall_mem_cons.mpr ⟨cko_257, List.forall_mem_cons.mpr ⟨cko_258, List.forall_mem_cons.mpr ⟨cko_259, List.forall_mem_cons.mpr ⟨cko_260, List.forall_mem_cons.mpr ⟨cko_261, List.forall_mem_cons.mpr ⟨cko_262, List.forall_mem_cons.mpr ⟨cko_263, List.forall_mem_cons.mpr ⟨cko_264, List.forall_mem_cons.mpr ⟨cko_265, List.forall_mem_cons.mpr ⟨cko_266, List.forall_mem_cons.mpr ⟨cko_267, List.forall_mem_cons.mpr ⟨cko_268, List.forall_mem_cons.mpr ⟨cko_269, List.forall_mem_cons.mpr ⟨cko_270, List.forall_mem_cons.mpr ⟨cko_271, List.forall_mem_cons.mpr ⟨cko_272, fun _ h => absurd h List.not_mem_nil⟩⟩⟩⟩⟩⟩⟩⟩⟩⟩⟩⟩⟩⟩⟩⟩⟩⟩⟩⟩⟩⟩⟩⟩⟩⟩⟩⟩⟩⟩⟩⟩⟩
theorem mlc_0 : ∀ q ∈ ([1, 2, 3, 5, 6, 7, 8, 9, 10, 11, 12, 13, 14, 15, 16, 17, 18, 19, 20, 21, 22, 23, 24, 25, 26, 27, 28, 29, 30, 31, 32, 33, 34, 35, 36, 37, 38, 39, 40, 41] : List Nat), MOK q := List.forall_mem_cons.mpr ⟨mko_1, List.forall_mem_cons.mpr ⟨mko_2, List.forall_mem_cons.mpr ⟨mko_3, List.forall_mem_cons.mpr ⟨mko_5, List.forall_mem_cons.mpr ⟨mko_6, List.forall_mem_cons.mpr ⟨mko_7, List.forall_mem_cons.mpr ⟨mko_8, List.forall_mem_cons.mpr ⟨mko_9, List.forall_mem_cons.mpr ⟨mko_10, List.forall_mem_cons.mpr ⟨mko_11, List.forall_mem_cons.mpr ⟨mko_12, List.forall_mem_cons.mpr ⟨mko_13, List.forall_mem_cons.mpr ⟨mko_14, List.forall_mem_cons.mpr ⟨mko_15, List.forall_mem_cons.mpr ⟨mko_16, List.forall_mem_cons.mpr ⟨mko_17, List.forall_mem_cons.mpr ⟨mko_18, List.forall_mem_cons.mpr ⟨mko_19, List.forall_mem_cons.mpr ⟨mko_20, List.forall_mem_cons.mpr ⟨mko_21, List.forall_mem_cons.mpr ⟨mko_22, List.forall_mem_cons.mpr ⟨mko_23, List.forall_mem_cons.mpr ⟨mko_24, List.forall_mem_cons.mpr ⟨mko_25, List.forall_mem_cons.mpr ⟨mko_26, List.forall_mem_cons.mpr ⟨mko_27, List.forall_mem_cons.mpr ⟨mko_28, List.forall_mem_cons.mpr ⟨mko_29, List.forall_mem_cons.mpr ⟨mko_30, List.forall_mem_cons.mpr ⟨mko_31, List.forall_mem_cons.mpr ⟨mko_32, List.forall_mem_cons.mpr ⟨mko_33, List.forall_mem_cons.mpr ⟨mko_34, List.forall_mem_cons.mpr ⟨mko_35, List.forall_mem_cons.mpr ⟨mko_36, List.forall_mem_cons.mpr ⟨mko_37, List.forall_mem_cons.mpr ⟨mko_38, List.forall_mem_cons.mpr ⟨mko_39, List.forall_mem_cons.mpr ⟨mko_40, List.forall_mem_cons.mpr ⟨mko_41, fun _ h => absurd h List.not_mem_nil⟩⟩⟩⟩⟩⟩⟩⟩⟩⟩⟩⟩⟩⟩⟩⟩⟩⟩⟩⟩⟩⟩⟩⟩⟩⟩⟩⟩⟩⟩⟩⟩⟩⟩⟩⟩⟩⟩⟩⟩
theorem mlc_1 : ∀ q ∈ ([42, 43, 44, 45, 46, 47, 48, 49, 50, 51, 53, 54, 55, 56, 57, 58, 59, 60, 61, 62, 63, 64, 65, 67, 68, 69, 70, 71, 72, 73, 74, 75, 76, 77, 78, 79, 80, 81, 82, 83] : List Nat), MOK q := List.forall_mem_cons.mpr ⟨mko_42, List.forall_mem_cons.mpr ⟨mko_43, List.forall_mem_cons.mpr ⟨mko_44, List.forall_mem_cons.mpr ⟨mko_45, List.forall_mem_cons.mpr ⟨mko_46, List.forall_mem_cons.mpr ⟨mko_47, List.forall_mem_cons.mpr ⟨mko_48, List.forall_mem_cons.mpr ⟨mko_49, List.forall_mem_cons.mpr ⟨mko_50, List.forall_mem_cons.mpr ⟨mko_51, List.forall_mem_cons.mpr ⟨mko_53, List.forall_mem_cons.mpr ⟨mko_54, List.forall_mem_cons.mpr ⟨mko_55, List.forall_mem_cons.mpr ⟨mko_56, List.forall_mem_cons.mpr ⟨mko_57, List.forall_mem_cons.mpr ⟨mko_58, List.forall_mem_cons.mpr ⟨mko_59, List.forall_mem_cons.mpr ⟨mko_60, List.forall_mem_cons.mpr ⟨mko_61, List.forall_mem_cons.mpr ⟨mko_62, List.forall_mem_cons.mpr ⟨mko_63, List.forall_mem_cons.mpr ⟨mko_64, List.forall_mem_cons.mpr ⟨mko_65, List.forall_mem_cons.mpr ⟨mko_67, List.forall_mem_cons.mpr ⟨mko_68, List.forall_mem_cons.mpr ⟨mko_69, List.forall_mem_cons.mpr ⟨mko_70, List.forall_mem_cons.mpr ⟨mko_71, List.forall_mem_cons.mpr ⟨mko_72, List.forall_mem_cons.mpr ⟨mko_73, List.forall_mem_cons.mpr ⟨mko_74, List.forall_mem_cons.mpr ⟨mko_75, List.forall_mem_cons.mpr ⟨mko_76, List.forall_mem_cons.mpr ⟨mko_77, List.forall_mem_cons.mpr ⟨mko_78, List.forall_mem_cons.mpr ⟨mko_79, List.forall_mem_cons.mpr ⟨mko_80, List.forall_mem_cons.mpr ⟨mko_81, List.forall_mem_cons.mpr ⟨mko_82, List.forall_mem_cons.mpr ⟨mko_83, fun _ h => absurd h List.not_mem_nil⟩⟩⟩⟩⟩⟩⟩⟩⟩⟩⟩⟩⟩⟩⟩⟩⟩⟩⟩⟩⟩⟩⟩⟩⟩⟩⟩⟩⟩⟩⟩⟩⟩⟩⟩⟩⟩⟩⟩⟩
theorem mlc_2 : ∀ q ∈ ([84, 85, 86, 87, 88, 89, 90, 91, 92, 93, 94, 95, 96, 97, 98, 99, 100, 101, 102, 103, 104, 105, 106, 107, 108, 109, 110, 111, 112, 113, 114, 115, 116, 117, 118, 119, 120, 121, 122, 123] : List Nat), MOK q := List.forall_mem_cons.mpr ⟨mko_84, List.forall_mem_cons.mpr ⟨mko_85, List.forall_mem_cons.mpr ⟨mko_86, List.forall_mem_cons.mpr ⟨mko_87, List.forall_mem_cons.mpr ⟨mko_88, List.forall_mem_cons.mpr ⟨mko_89, List.forall_mem_cons.mpr ⟨mko_90, List.forall_mem_cons.mpr ⟨mko_91, List.forall_mem_cons.mpr ⟨mko_92, List.forall_mem_cons.mpr ⟨mko_93, List.forall_mem_cons.mpr ⟨mko_94, List.forall_mem_cons.mpr ⟨mko_95, List.forall_mem_cons.mpr ⟨mko_96, List.forall_mem_cons.mpr ⟨mko_97, List.forall_mem_cons.mpr ⟨mko_98, List.forall_mem_cons.mpr ⟨mko_99, List.forall_mem_cons.mpr ⟨mko_100, List.forall_mem_cons.mpr ⟨mko_101, List.forall_mem_cons.mpr ⟨mko_102, List.forall_mem_cons.mpr ⟨mko_103, List.forall_mem_cons.mpr ⟨mko_104, List.forall_mem_cons.mpr ⟨mko_105, List.forall_mem_cons.mpr ⟨mko_106, List.forall_mem_cons.mpr ⟨mko_107, List.forall_mem_cons.mpr ⟨mko_108, List.forall_mem_cons.mpr ⟨mko_109, List.forall_mem_cons.mpr ⟨mko_110, List.forall_mem_cons.mpr ⟨mko_111, List.forall_mem_cons.mpr ⟨mko_112, List.forall_mem_cons.mpr ⟨mko_113, List.forall_mem_cons.mpr ⟨mko_114, List.forall_mem_cons.mpr ⟨mko_115, List.forall_mem_cons.mpr ⟨mko_116, List.forall_mem_cons.mpr ⟨mko_117, List.forall_mem_cons.mpr ⟨mko_118, List.forall_mem_cons.mpr ⟨mko_119, List.forall_mem_cons.mpr ⟨mko_120, List.forall_mem_cons.mpr ⟨mko_121, List.forall_mem_cons.mpr ⟨mko_122, List.forall_mem_cons.mpr ⟨mko_123, fun _ h => absurd h List.not_mem_nil⟩⟩⟩⟩⟩⟩⟩⟩⟩⟩⟩⟩⟩⟩⟩⟩⟩⟩⟩⟩⟩⟩⟩⟩⟩⟩⟩⟩⟩⟩⟩⟩⟩⟩⟩⟩⟩⟩⟩⟩
theorem mlc_3 : ∀ q ∈ ([124, 125, 126, 127, 128, 129, 130, 131, 132, 133, 134, 135, 136, 138, 139, 140, 141, 142, 143, 144, 145, 146, 147, 148, 149, 150, 151, 152, 153, 154, 155, 156, 157, 158, 159, 160, 161, 162, 163, 164] : List Nat), MOK q := List.forall_mem_cons.mpr ⟨mko_124, List.forall_mem_cons.mpr ⟨mko_125, List.forall_mem_cons.mpr ⟨mko_126, List.forall_mem_cons.mpr ⟨mko_127, List.forall_mem_cons.mpr ⟨mko_128, List.forall_mem_cons.mpr ⟨mko_129, List.forall_mem_cons.mpr ⟨mko_130, List.forall_mem_cons.mpr ⟨mko_131, List.forall_mem_cons.mpr ⟨mko_132, List.forall_mem_cons.mpr ⟨mko_133, List.forall_mem_cons.mpr ⟨mko_134, List.forall_mem_cons.mpr ⟨mko_135, List.forall_mem_cons.mpr ⟨mko_136, List.forall_mem_cons.mpr ⟨mko_138, List.forall_mem_cons.mpr ⟨mko_139, List.forall_mem_cons.mpr ⟨mko_140, List.forall_mem_cons.mpr ⟨mko_141, List.forall_mem_cons.mpr ⟨mko_142, List.forall_mem_cons.mpr ⟨mko_143, List.forall_mem_cons.mpr ⟨mko_144, List.forall_mem_cons.mpr ⟨mko_145, List.forall_mem_cons.mpr ⟨mko_146, List.forall_mem_cons.mpr ⟨mko_147, List.forall_mem_cons.mpr ⟨mko_148, List.forall_mem_cons.mpr ⟨mko_149, List.forall_mem_cons.mpr ⟨mko_150, List.forall_mem_cons.mpr ⟨mko_151, List.forall_mem_cons.mpr ⟨mko_152, List.forall_mem_cons.mpr ⟨mko_153, List.forall_mem_cons.mpr ⟨mko_154, List.forall_mem_cons.mpr ⟨mko_155, List.forall_mem_cons.mpr ⟨mko_156, List.forall_mem_cons.mpr ⟨mko_157, List.forall_mem_cons.mpr ⟨mko_158, List.forall_mem_cons.mpr ⟨mko_159, List.forall_mem_cons.mpr ⟨mko_160, List.forall_mem_cons.mpr ⟨mko_161, List.forall_mem_cons.mpr ⟨mko_162, List.forall_mem_cons.mpr ⟨mko_163, List.forall_mem_cons.mpr ⟨mko_164, fun _ h => absurd h List.not_mem_nil⟩⟩⟩⟩⟩⟩⟩⟩⟩⟩⟩⟩⟩⟩⟩⟩⟩⟩⟩⟩⟩⟩⟩⟩⟩⟩⟩⟩⟩⟩⟩⟩⟩⟩⟩⟩⟩⟩⟩⟩
theorem mlc_4 : ∀ q ∈ ([165, 166, 167, 168, 169, 170, 171, 172, 173, 174, 175, 176, 177, 178, 179, 180, 181, 182, 183, 184, 185, 186, 187, 188, 189, 190, 191, 192, 193, 194, 195, 196, 197, 198, 199, 200, 201, 202, 203, 204] : List Nat), MOK q := List.forall_mem_cons.mpr ⟨mko_165, List.forall_mem_cons.mpr ⟨mko_166, List.forall_mem_cons.mpr ⟨mko_167, List.forall_mem_cons.mpr ⟨mko_168, List.forall_mem_cons.mpr ⟨mko_169, List.forall_mem_cons.mpr ⟨mko_170, List.forall_mem_cons.mpr ⟨mko_171, List.forall_mem_cons.mpr ⟨mko_172, List.forall_mem_cons.mpr ⟨mko_173, List.forall_mem_cons.mpr ⟨mko_174, List.forall_mem_cons.mpr ⟨mko_175, List.forall_mem_cons.mpr ⟨mko_176, List.forall_mem_cons.mpr ⟨mko_177, List.forall_mem_cons.mpr ⟨mko_178, List.forall_mem_cons.mpr ⟨mko_179, List.forall_mem_cons.mpr ⟨mko_180, List.forall_mem_cons.mpr ⟨mko_181, List.forall_mem_cons.mpr ⟨mko_182, List.forall_mem_cons.mpr ⟨mko_183, List.forall_mem_cons.mpr ⟨mko_184, List.forall_mem_cons.mpr ⟨mko_185, List.forall_mem_cons.mpr ⟨mko_186, List.forall_mem_cons.mpr ⟨mko_187, List.forall_mem_cons.mpr ⟨mko_188, List.forall_mem_cons.mpr ⟨mko_189, List.forall_mem_cons.mpr ⟨mko_190, List.forall_mem_cons.mpr ⟨mko_191, List.forall_mem_cons.mpr ⟨mko_192, List.forall_mem_cons.mpr ⟨mko_193, List.forall_mem_cons.mpr ⟨mko_194, List.forall_mem_cons.mpr ⟨mko_195, List.forall_mem_cons.mpr ⟨mko_196, List.forall_mem_cons.mpr ⟨mko_197, List.forall_mem_cons.mpr ⟨mko_198, List.forall_mem_cons.mpr ⟨mko_199, List.forall_mem_cons.mpr ⟨mko_200, List.forall_mem_cons.mpr ⟨mko_201, List.forall_mem_cons.mpr ⟨mko_202, List.forall_mem_cons.mpr ⟨mko_203, List.forall_mem_cons.mpr ⟨mko_204, fun _ h => absurd h List.not_mem_nil⟩⟩⟩⟩⟩⟩⟩⟩⟩⟩⟩⟩⟩⟩⟩⟩⟩⟩⟩⟩⟩⟩⟩⟩⟩⟩⟩⟩⟩⟩⟩⟩⟩⟩⟩⟩⟩⟩⟩⟩
theorem mlc_5 : ∀ q ∈ ([205, 206, 207, 208, 209, 210, 211, 212, 213, 214, 215, 216, 217, 218, 219, 220, 221, 222, 223, 224, 225, 226, 227, 228, 229, 230, 231, 232, 233, 234, 235, 236, 237, 238, 239, 240, 241, 243] : List Nat), MOK q := List.forall_mem_cons.mpr ⟨mko_205, List.forall_mem_cons.mpr ⟨mko_206, List.forall_mem_cons.mpr ⟨mko_207, List.forall_mem_cons.mpr ⟨mko_208, List.forall_mem_cons.mpr ⟨mko_209, List.forall_mem_cons.mpr ⟨mko_210, List.forall_mem_cons.mpr ⟨mko_211, List.forall_mem_cons.mpr ⟨mko_212, List.forall_mem_cons.mpr ⟨mko_213, List.forall_mem_cons.mpr ⟨mko_214, List.forall_mem_cons.mpr ⟨mko_215, List.forall_mem_cons.mpr ⟨mko_216, List.forall_mem_cons.mpr ⟨mko_217, List.forall_mem_cons.mpr ⟨mko_218, List.forall_mem_cons.mpr ⟨mko_219, List.forall_mem_cons.mpr ⟨mko_220, List.forall_mem_cons.mpr ⟨mko_221, List.forall_mem_cons.mpr ⟨mko_222, List.forall_mem_cons.mpr ⟨mko_223, List.forall_mem_cons.mpr ⟨mko_224, List.forall_mem_cons.mpr ⟨mko_225, List.forall_mem_cons.mpr ⟨mko_226, List.forall_mem_cons.mpr ⟨mko_227, List.forall_mem_cons.mpr ⟨mko_228, List.forall_mem_cons.mpr ⟨mko_229, List.forall_mem_cons.mpr ⟨mko_230, List.forall_mem_cons.mpr ⟨mko_231, List.forall_mem_cons.mpr ⟨mko_232, List.forall_mem_cons.mpr ⟨mko_233, List.forall_mem_cons.mpr ⟨mko_234, List.forall_mem_cons.mpr ⟨mko_235, List.forall_mem_cons.mpr ⟨mko_236, List.forall_mem_cons.mpr ⟨mko_237, List.forall_mem_cons.mpr ⟨mko_238, List.forall_mem_cons.mpr ⟨mko_239, List.forall_mem_cons.mpr ⟨mko_240, List.forall_mem_cons.mpr ⟨mko_241, List.forall_mem_cons.mpr ⟨mko_243, fun _ h => absurd h List.not_mem_nil⟩⟩⟩⟩⟩⟩⟩⟩⟩⟩⟩⟩⟩⟩⟩⟩⟩⟩⟩⟩⟩⟩⟩⟩⟩⟩⟩⟩⟩⟩⟩⟩⟩⟩⟩⟩⟩⟩
theorem fl_ok : ∀ q ∈ flk, FOK q := fun _ h => ((List.mem_append.mp h).elim (flc_0 _) (fun h => (flc_1 _ h)))
theorem cl_ok : ∀ q ∈ clk, COK q := fun _ h => ((List.mem_append.mp h).elim (clc_0 _) (fun h => ((List.mem_append.mp h).elim (clc_1 _) (fun h => ((List.mem_append.mp h).elim (clc_2 _) (fun h => ((List.mem_append.mp h).elim (clc_3 _) (fun h => ((List.mem_append.mp h).elim (clc_4 _) (fun h => ((List.mem_append.mp h).elim (clc_5 _) (fun h => (clc_6 _ h)))))))))))))
theorem mo_ok : ∀ q ∈ mks, MOK q := fun _ h => ((List.mem_append.mp h).elim (mlc_0 _) (fun h => ((List.mem_append.mp h).elim (mlc_1 _) (fun h => ((List.mem_append.mp h).elim (mlc_2 _) (fun h => ((List.mem_append.mp h).elim (mlc_3 _) (fun h => ((List.mem_append.mp h).elim (mlc_4 _) (fun h => (mlc_5 _ h)))))))))))
theorem absW_c : Cond.code Lib.Math.abs.name Lib.Math.abs.code 1 (some .int) ∈ Wt := tb1_in (i := 233) rfl rfl
theorem absW_s : Cond.static Lib.Math.abs.name ∈ Wt := tb1_in (i := 232) rfl rfl
theorem absW_l {o i : Nat} (h : COK (o, i, mJ9_abs_0f7a4)) : Cond.methodLink (cN o) i Lib.Math.abs.name ∈ Wt := h
theorem maxW_c : Cond.code Lib.Math.max.name Lib.Math.max.code 2 (some .int) ∈ Wt := tb2_in (i := 60) rfl rfl
theorem maxW_s : Cond.static Lib.Math.max.name ∈ Wt := tb2_in (i := 59) rfl rfl
theorem maxW_l {o i : Nat} (h : COK (o, i, mJ9_max_7cf53)) : Cond.methodLink (cN o) i Lib.Math.max.name ∈ Wt := h
theorem mathW_i : Cond.initialized "java/lang/Math" ∈ Wt := tb1_in (i := 7) rfl rfl
def kon : List (Nat × Nat × Int32) := [(7, 265, 1431655765), (7, 266, 858993459), (7, 267, 252645135), (4, 307, 1664525), (4, 308, 1013904223), (4, 309, 2147483647), (5, 254, 1000000), (5, 322, 1664525), (5, 323, 1013904223), (5, 324, 2147483647)]
def konL : List (Nat × Nat × Nat) := [(4, 285, 4000000000000000000), (5, 58, 4000000000000000000)]
def NOK (q : Nat × Nat × Int32) : Prop := Cond.constant (cN q.1) q.2.1 q.2.2 ∈ Wt
def LOK (q : Nat × Nat × Nat) : Prop := Cond.constantLong (cN q.1) q.2.1 (Int64.ofNat q.2.2) ∈ Wt
theorem nko_0 : NOK (7, 265, 1431655765) := tb2_in (i := 224) rfl rfl
theorem nko_1 : NOK (7, 266, 858993459) := tb2_in (i := 225) rfl rfl
theorem nko_2 : NOK (7, 267, 252645135) := tb2_in (i := 226) rfl rfl
theorem nko_3 : NOK (4, 307, 1664525) := tb3_in (i := 177) rfl rfl
theorem nko_4 : NOK (4, 308, 1013904223) := tb3_in (i := 178) rfl rfl
theorem nko_5 : NOK (4, 309, 2147483647) := tb3_in (i := 182) rfl rfl
theorem nko_6 : NOK (5, 254, 1000000) := tb5_in (i := 93) rfl rfl
theorem nko_7 : NOK (5, 322, 1664525) := tb5_in (i := 236) rfl rfl
theorem nko_8 : NOK (5, 323, 1013904223) := tb5_in (i := 237) rfl rfl
theorem nko_9 : NOK (5, 324, 2147483647) := tb5_in (i := 238) rfl rfl
theorem lko_0 : LOK (4, 285, 4000000000000000000) := tb3_in (i := 116) rfl rfl
theorem lko_1 : LOK (5, 58, 4000000000000000000) := tb5_in (i := 190) rfl rfl
theorem kon_ok : ∀ q ∈ kon, NOK q := List.forall_mem_cons.mpr ⟨nko_0, List.forall_mem_cons.mpr ⟨nko_1, List.forall_mem_cons.mpr ⟨nko_2, List.forall_mem_cons.mpr ⟨nko_3, List.forall_mem_cons.mpr ⟨nko_4, List.forall_mem_cons.mpr ⟨nko_5, List.forall_mem_cons.mpr ⟨nko_6, List.forall_mem_cons.mpr ⟨nko_7, List.forall_mem_cons.mpr ⟨nko_8, List.forall_mem_cons.mpr ⟨nko_9, fun _ h => absurd h List.not_mem_nil⟩⟩⟩⟩⟩⟩⟩⟩⟩⟩
theorem konL_ok : ∀ q ∈ konL, LOK q := List.forall_mem_cons.mpr ⟨lko_0, List.forall_mem_cons.mpr ⟨lko_1, fun _ h => absurd h List.not_mem_nil⟩⟩
theorem uw_X0 : ∀ w ∈ u_ws RX0 TX0 4, w ∈ Wt := by
  have h : u_ws RX0 TX0 4 = [Cond.lays RX0 "BackFromBreakfast$Best" "some" "Z", Cond.lays RX0 "BackFromBreakfast$Best" "name" "I", Cond.lays RX0 "BackFromBreakfast$Best" "done" "I", Cond.lays RX0 "BackFromBreakfast$Best" "time" "I"] := rfl
  rw [h]
  exact List.forall_mem_cons.mpr ⟨tb1_in (i := 78) rfl rfl, List.forall_mem_cons.mpr ⟨tb1_in (i := 80) rfl rfl, List.forall_mem_cons.mpr ⟨tb1_in (i := 82) rfl rfl, List.forall_mem_cons.mpr ⟨tb1_in (i := 84) rfl rfl, fun _ h => absurd h List.not_mem_nil⟩⟩⟩⟩
theorem uw_X1 : ∀ w ∈ u_ws RX1 TX1 10, w ∈ Wt := by
  have h : u_ws RX1 TX1 10 = [Cond.lays RX1 "BackFromBreakfast$Corridor" "rooms" "I", Cond.lays RX1 "BackFromBreakfast$Corridor" "done" "I", Cond.lays RX1 "BackFromBreakfast$Corridor" "cards" "I", Cond.lays RX1 "BackFromBreakfast$Corridor" "staying" "I", Cond.lays RX1 "BackFromBreakfast$Corridor" "downs" "I", Cond.laysFinal RX1 "BackFromBreakfast$Corridor" "kinds" "[I", Cond.laysFinal RX1 "BackFromBreakfast$Corridor" "figures" "[I", Cond.laysFinal RX1 "BackFromBreakfast$Corridor" "at" "[I", Cond.laysFinal RX1 "BackFromBreakfast$Corridor" "loads" "[I", Cond.laysFinal RX1 "BackFromBreakfast$Corridor" "clocks" "[I"] := rfl
  rw [h]
  exact List.forall_mem_cons.mpr ⟨tb1_in (i := 33) rfl rfl, List.forall_mem_cons.mpr ⟨tb1_in (i := 35) rfl rfl, List.forall_mem_cons.mpr ⟨tb1_in (i := 37) rfl rfl, List.forall_mem_cons.mpr ⟨tb1_in (i := 39) rfl rfl, List.forall_mem_cons.mpr ⟨tb1_in (i := 41) rfl rfl, List.forall_mem_cons.mpr ⟨tb1_in (i := 43) rfl rfl, List.forall_mem_cons.mpr ⟨tb1_in (i := 45) rfl rfl, List.forall_mem_cons.mpr ⟨tb1_in (i := 47) rfl rfl, List.forall_mem_cons.mpr ⟨tb1_in (i := 49) rfl rfl, List.forall_mem_cons.mpr ⟨tb1_in (i := 51) rfl rfl, fun _ h => absurd h List.not_mem_nil⟩⟩⟩⟩⟩⟩⟩⟩⟩⟩
theorem uw_X3 : ∀ w ∈ u_ws RX3 TX3 2, w ∈ Wt := by
  have h : u_ws RX3 TX3 2 = [Cond.laysFinal RX3 "BackFromBreakfast$Telling" "letters" "[I", Cond.lays RX3 "BackFromBreakfast$Telling" "length" "I"] := rfl
  rw [h]
  exact List.forall_mem_cons.mpr ⟨tb1_in (i := 63) rfl rfl, List.forall_mem_cons.mpr ⟨tb1_in (i := 65) rfl rfl, fun _ h => absurd h List.not_mem_nil⟩⟩
theorem uw_X4 : ∀ w ∈ u_ws RX4 TX4 10, w ∈ Wt := by
  have h : u_ws RX4 TX4 10 = [Cond.laysFinal RX4 "BackFromBreakfast" "now" "LBackFromBreakfast$Corridor;", Cond.laysFinal RX4 "BackFromBreakfast" "mind" "LBackFromBreakfast$Corridor;", Cond.laysFinal RX4 "BackFromBreakfast" "kept" "LBackFromBreakfast$Corridor;", Cond.lays RX4 "BackFromBreakfast" "hasImage" "Z", Cond.laysFinal RX4 "BackFromBreakfast" "telling" "LBackFromBreakfast$Telling;", Cond.laysFinal RX4 "BackFromBreakfast" "numbers" "[I", Cond.lays RX4 "BackFromBreakfast" "inRow" "I", Cond.laysFinal RX4 "BackFromBreakfast" "refusals" "[I", Cond.laysFinal RX4 "BackFromBreakfast" "path" "[I", Cond.laysFinal RX4 "BackFromBreakfast" "best" "LBackFromBreakfast$Best;"] := rfl
  rw [h]
  exact List.forall_mem_cons.mpr ⟨tb1_in (i := 97) rfl rfl, List.forall_mem_cons.mpr ⟨tb1_in (i := 99) rfl rfl, List.forall_mem_cons.mpr ⟨tb1_in (i := 101) rfl rfl, List.forall_mem_cons.mpr ⟨tb1_in (i := 103) rfl rfl, List.forall_mem_cons.mpr ⟨tb1_in (i := 105) rfl rfl, List.forall_mem_cons.mpr ⟨tb1_in (i := 107) rfl rfl, List.forall_mem_cons.mpr ⟨tb1_in (i := 109) rfl rfl, List.forall_mem_cons.mpr ⟨tb1_in (i := 111) rfl rfl, List.forall_mem_cons.mpr ⟨tb1_in (i := 113) rfl rfl, List.forall_mem_cons.mpr ⟨tb1_in (i := 115) rfl rfl, fun _ h => absurd h List.not_mem_nil⟩⟩⟩⟩⟩⟩⟩⟩⟩⟩
theorem uw_X5 : ∀ w ∈ u_ws RX5 TX5 36, w ∈ Wt := by
  have h : u_ws RX5 TX5 36 = [Cond.laysFinal RX5 "BackFromBreakfastModel" "refused" "[I", Cond.laysFinal RX5 "BackFromBreakfastModel" "kind" "[I", Cond.laysFinal RX5 "BackFromBreakfastModel" "figure" "[I", Cond.laysFinal RX5 "BackFromBreakfastModel" "done" "[I", Cond.laysFinal RX5 "BackFromBreakfastModel" "carded" "[I", Cond.laysFinal RX5 "BackFromBreakfastModel" "place" "[I", Cond.laysFinal RX5 "BackFromBreakfastModel" "load" "[I", Cond.laysFinal RX5 "BackFromBreakfastModel" "clock" "[I", Cond.lays RX5 "BackFromBreakfastModel" "rooms" "I", Cond.laysFinal RX5 "BackFromBreakfastModel" "tape" "[I", Cond.laysFinal RX5 "BackFromBreakfastModel" "sort" "[I", Cond.laysFinal RX5 "BackFromBreakfastModel" "sortAt" "[I", Cond.laysFinal RX5 "BackFromBreakfastModel" "told" "[I", Cond.lays RX5 "BackFromBreakfastModel" "taped" "I", Cond.lays RX5 "BackFromBreakfastModel" "reading" "I", Cond.lays RX5 "BackFromBreakfastModel" "statements" "I", Cond.lays RX5 "BackFromBreakfastModel" "telling" "I", Cond.laysFinal RX5 "BackFromBreakfastModel" "kept" "[I", Cond.lays RX5 "BackFromBreakfastModel" "hasImage" "Z", Cond.lays RX5 "BackFromBreakfastModel" "isKeeping" "Z", Cond.lays RX5 "BackFromBreakfastModel" "cursor" "I", Cond.lays RX5 "BackFromBreakfastModel" "stayingIn" "I", Cond.lays RX5 "BackFromBreakfastModel" "downs" "I", Cond.lays RX5 "BackFromBreakfastModel" "tookMinutes" "I", Cond.laysFinal RX5 "BackFromBreakfastModel" "row" "[I", Cond.lays RX5 "BackFromBreakfastModel" "rowMany" "I", Cond.lays RX5 "BackFromBreakfastModel" "doneBy" "I", Cond.laysFinal RX5 "BackFromBreakfastModel" "listed" "[I", Cond.lays RX5 "BackFromBreakfastModel" "listedMany" "I", Cond.lays RX5 "BackFromBreakfastModel" "orderDone" "I", Cond.lays RX5 "BackFromBreakfastModel" "shareDone" "I", Cond.lays RX5 "BackFromBreakfastModel" "shareClock" "I", Cond.lays RX5 "BackFromBreakfastModel" "longDone" "I", Cond.lays RX5 "BackFromBreakfastModel" "longFirst" "I", Cond.laysFinal RX5 "BackFromBreakfastModel" "ends" "[I", Cond.lays RX5 "BackFromBreakfastModel" "lots" "I"] := rfl
  rw [h]
  exact List.forall_mem_cons.mpr ⟨tb4_in (i := 5) rfl rfl, List.forall_mem_cons.mpr ⟨tb4_in (i := 7) rfl rfl, List.forall_mem_cons.mpr ⟨tb4_in (i := 9) rfl rfl, List.forall_mem_cons.mpr ⟨tb4_in (i := 11) rfl rfl, List.forall_mem_cons.mpr ⟨tb4_in (i := 13) rfl rfl, List.forall_mem_cons.mpr ⟨tb4_in (i := 15) rfl rfl, List.forall_mem_cons.mpr ⟨tb4_in (i := 17) rfl rfl, List.forall_mem_cons.mpr ⟨tb4_in (i := 19) rfl rfl, List.forall_mem_cons.mpr ⟨tb4_in (i := 21) rfl rfl, List.forall_mem_cons.mpr ⟨tb4_in (i := 23) rfl rfl, List.forall_mem_cons.mpr ⟨tb4_in (i := 25) rfl rfl, List.forall_mem_cons.mpr ⟨tb4_in (i := 27) rfl rfl, List.forall_mem_cons.mpr ⟨tb4_in (i := 29) rfl rfl, List.forall_mem_cons.mpr ⟨tb4_in (i := 31) rfl rfl, List.forall_mem_cons.mpr ⟨tb4_in (i := 33) rfl rfl, List.forall_mem_cons.mpr ⟨tb4_in (i := 35) rfl rfl, List.forall_mem_cons.mpr ⟨tb4_in (i := 37) rfl rfl, List.forall_mem_cons.mpr ⟨tb4_in (i := 39) rfl rfl, List.forall_mem_cons.mpr ⟨tb4_in (i := 41) rfl rfl, List.forall_mem_cons.mpr ⟨tb4_in (i := 43) rfl rfl, List.forall_mem_cons.mpr ⟨tb4_in (i := 45) rfl rfl, List.forall_mem_cons.mpr ⟨tb4_in (i := 47) rfl rfl, List.forall_mem_cons.mpr ⟨tb4_in (i := 49) rfl rfl, List.forall_mem_cons.mpr ⟨tb4_in (i := 51) rfl rfl, List.forall_mem_cons.mpr ⟨tb4_in (i := 53) rfl rfl, List.forall_mem_cons.mpr ⟨tb4_in (i := 55) rfl rfl, List.forall_mem_cons.mpr ⟨tb4_in (i := 57) rfl rfl, List.forall_mem_cons.mpr ⟨tb4_in (i := 59) rfl rfl, List.forall_mem_cons.mpr ⟨tb4_in (i := 61) rfl rfl, List.forall_mem_cons.mpr ⟨tb4_in (i := 63) rfl rfl, List.forall_mem_cons.mpr ⟨tb4_in (i := 65) rfl rfl, List.forall_mem_cons.mpr ⟨tb4_in (i := 67) rfl rfl, List.forall_mem_cons.mpr ⟨tb4_in (i := 69) rfl rfl, List.forall_mem_cons.mpr ⟨tb4_in (i := 71) rfl rfl, List.forall_mem_cons.mpr ⟨tb4_in (i := 73) rfl rfl, List.forall_mem_cons.mpr ⟨tb4_in (i := 75) rfl rfl, fun _ h => absurd h List.not_mem_nil⟩⟩⟩⟩⟩⟩⟩⟩⟩⟩⟩⟩⟩⟩⟩⟩⟩⟩⟩⟩⟩⟩⟩⟩⟩⟩⟩⟩⟩⟩⟩⟩⟩⟩⟩⟩
theorem KOK {ci : Nat} {C : String} {T : u_T} {N : Nat} (h : vwCl[ci]? = some (C, T, N)) : (∀ w ∈ u_ws C T N, w ∈ Wt) ∧ (∃ ty0 : Nat → FieldType, ∀ k, k < N → parseFieldDescriptor (T k).2.2.1 = some (ty0 k)) ∧ ∀ a, a < N → ∀ b, b < N → a ≠ b → (T a).2.1 ≠ (T b).2.1 := by
  match ci, h with
  | 0, h => cases h; exact ⟨uw_X0, ⟨tyX0, tyX0_ok⟩, nmX0⟩
  | 1, h => cases h; exact ⟨uw_X1, ⟨tyX1, tyX1_ok⟩, nmX1⟩
  | 2, h => cases h; exact ⟨uw_X3, ⟨tyX3, tyX3_ok⟩, nmX3⟩
  | 3, h => cases h; exact ⟨uw_X4, ⟨tyX4, tyX4_ok⟩, nmX4⟩
  | 4, h => cases h; exact ⟨uw_X5, ⟨tyX5, tyX5_ok⟩, nmX5⟩
  | k + 5, h => simp [vwCl] at h
def tyE : Nat → FieldType
  | 0 => .int
  | _ + 1 => .boolean
def ptk (a b e : Nat) : Bool := match vwCl[a]? with
  | some (_, T, _) => decide ((T b).2.2.2 = false ∧ parseFieldDescriptor (T b).2.2.1 = some (tyE e))
  | none => false
end
section
/-! THE PURE MACHINE STANDS FOR THE MACHINE: worlds and locals -/
def tv (ad : Nat → Nat) : Value → Value
  | .ref k => .ref (ad k)
  | v => v
def celf (ad : Nat → Nat) (f : Nat → Int32) (ts : List (Option Nat)) : List Value := (List.range ts.length).map fun j => match ts[j]? with
  | some (some t) => .ref (ad t)
  | _ => .int (f j)
def cel (cA : ClassId) (ad : Nat → Nat) (f : Nat → Int32) : Shp → va_E
  | .inl n => .inl (cA, n, .inl f)
  | .inr (ci, ts) => .inr (ci, celf ad f ts)
def wld (cA : ClassId) (ad : Nat → Nat) (S : Mem) : va_W := (List.range 42).map fun k => (ad k, cel cA ad (S k) (shps.getD k (.inl 0)))
theorem shps_len : shps.length = 42 := rfl
theorem wld_at {cA : ClassId} {ad : Nat → Nat} {S : Mem} (k : Nat) : (wld cA ad S)[k]? = if k < 42 then some (ad k, cel cA ad (S k) (shps.getD k (.inl 0))) else none := by
  unfold wld
  rw [List.getElem?_map]
  by_cases h : k < 42
  · rw [List.getElem?_range h, if_pos h]; rfl
  · rw [if_neg h, List.getElem?_eq_none (by simp; omega)]; rfl
theorem shp_lt {k : Nat} {sh : Shp} (h : shps[k]? = some sh) : k < 42 := by rw [← shps_len]; exact (List.getElem?_eq_some_iff.mp h).1
theorem shp_d {k : Nat} {sh : Shp} (h : shps[k]? = some sh) : shps.getD k (.inl 0) = sh := by rw [List.getD_eq_getElem?_getD, h]; rfl
theorem wld_get {cA : ClassId} {ad : Nat → Nat} {S : Mem} {k : Nat} {sh : Shp} (h : shps[k]? = some sh) : (wld cA ad S)[k]? = some (ad k, cel cA ad (S k) sh) := by
  rw [wld_at, if_pos (shp_lt h), shp_d h]
theorem cls_inv {k c : Nat} (h : cls k = some c) : ∃ ts, shps[k]? = some (.inr (c, ts)) := by
  unfold cls at h
  split at h
  · next c' ts' he => cases h; exact ⟨_, he⟩
  · cases h
theorem alen_inv {k n : Nat} (h : alen k = some n) : shps[k]? = some (.inl n) := by
  unfold alen at h
  split at h
  · next n' he => cases h; exact he
  · cases h
theorem fld_inv {k a b : Nat} {r : Option Nat} (h : fld k a b = some r) : ∃ ts, shps[k]? = some (.inr (a, ts)) ∧ ts[b]? = some r := by
  unfold fld at h
  split at h
  · next c' ts' he =>
    cases hb : Nat.beq c' a
    · rw [hb] at h; cases h
    · rw [hb] at h
      have := Nat.eq_of_beq_eq_true hb
      subst this
      exact ⟨_, he, h⟩
  · cases h
theorem up_same {S : Mem} {k b : Nat} {x : Int32} : up S k b x k = upd (S k) b x := by funext j; simp [up, upd]
theorem up_other {S : Mem} {k b i : Nat} {x : Int32} (h : i ≠ k) : up S k b x i = S i := by funext j; simp [up, h]
theorem wld_set_of {cA : ClassId} {ad : Nat → Nat} {S : Mem} {k b : Nat} {x : Int32} {sh : Shp} {q : va_E} (h : shps[k]? = some sh) (hq : cel cA ad (upd (S k) b x) sh = q) : (wld cA ad S).set k (ad k, q) = wld cA ad (up S k b x) := by
  have hk := shp_lt h
  apply List.ext_getElem?
  intro i
  by_cases hi : i = k
  · subst hi
    rw [List.getElem?_set_self (by simp [wld, hk]), wld_get h, up_same, hq]
  · rw [List.getElem?_set_ne (Ne.symm hi), wld_at, wld_at, up_other hi]
def lvL (ad : Nat → Nat) (ls : Array Slot) (nL : Nat) (L : Lcs) : Prop := lv_wf ls ∧ ls.size = nL ∧ ∀ (i : Nat) (v : Value), L[i]? = some (some v) → ls[i]? = some (.val (tv ad v))
def asl (ad : Nat → Nat) (L : Lcs) : List (Nat × Value) := (List.range L.length).filterMap fun i => match L[i]? with
  | some (some v) => some (i, tv ad v)
  | _ => none
theorem asl_mem {ad : Nat → Nat} {L : Lcs} {i : Nat} {v : Value} (h : L[i]? = some (some v)) : (i, tv ad v) ∈ asl ad L := by
  refine List.mem_filterMap.mpr ⟨i, List.mem_range.mpr (List.getElem?_eq_some_iff.mp h).1, ?_⟩
  rw [h]
theorem lvL_has {ad : Nat → Nat} {ls : Array Slot} {nL : Nat} {L : Lcs} (h : lvL ad ls nL L) : lv_has ls nL (asl ad L) := by
  refine ⟨h.2.1, h.1, fun q hq => ?_⟩
  obtain ⟨i, -, hi⟩ := List.mem_filterMap.mp hq
  split at hi
  · next v hv => cases hi; exact h.2.2 i v hv
  · cases hi
theorem kl_at {ad : Nat → Nat} {L : Lcs} {a i : Nat} {w : Value} (h : (kl L a)[i]? = some (some w)) : L[i]? = some (some w) ∧ ¬ (i + 1 = a ∧ (tv ad w).category = 2) := by
  cases a with
  | zero => exact ⟨h, fun q => by omega⟩
  | succ j =>
    have key : ∀ (hj : (L.set j none)[i]? = some (some w)), L[i]? = some (some w) ∧ ¬ (i + 1 = j + 1 ∧ (tv ad w).category = 2) := by
      intro hj
      by_cases hij : j = i
      · subst hij
        rw [List.getElem?_set] at hj
        simp at hj
      · rw [List.getElem?_set_ne hij] at hj
        exact ⟨hj, fun q => hij (by omega)⟩
    have fin : L[i]? = some (some w) → (∀ x, ¬ L[j]? = some (some (.long x))) → (∀ x, ¬ L[j]? = some (some (.double x))) → L[i]? = some (some w) ∧ ¬ (i + 1 = j + 1 ∧ (tv ad w).category = 2) := by
      intro h9 h1 h2
      refine ⟨h9, fun q => ?_⟩
      have hij : i = j := by omega
      subst hij
      cases w with
      | long v => exact h1 v h9
      | double v => exact h2 v h9
      | _ => simp [tv, Value.category] at q
    have hk : kl L (j + 1) = (match L[j]? with
      | some (some (.long _)) => L.set j none
      | some (some (.double _)) => L.set j none
      | _ => L) := rfl
    rw [hk] at h
    rcases hj : L[j]? with _ | _ | u
    · rw [hj] at h; exact fin h (fun x q => by rw [hj] at q; cases q) (fun x q => by rw [hj] at q; cases q)
    · rw [hj] at h; exact fin h (fun x q => by rw [hj] at q; cases q) (fun x q => by rw [hj] at q; cases q)
    · cases u with
      | long x => rw [hj] at h; exact key h
      | double x => rw [hj] at h; exact key h
      | _ => rw [hj] at h; exact fin h (fun x q => by rw [hj] at q; cases q) (fun x q => by rw [hj] at q; cases q)
theorem lvL_st1 {ad : Nat → Nat} {ls' : Array Slot} {nL a : Nat} {L : Lcs} {v : Value} (h : lv_has ls' nL ((a, tv ad v) :: (asl ad L).filter (fun q => !(q.1 == a) && !(q.1 + 1 == a && q.2.category == 2)))) : lvL ad ls' nL (st1 L a v) := by
  refine ⟨h.2.1, h.1, fun i w hi => ?_⟩
  unfold st1 at hi
  by_cases hia : a = i
  · subst hia
    rw [List.getElem?_set] at hi
    simp at hi
    rw [← hi.2]
    exact h.2.2 (a, tv ad v) List.mem_cons_self
  · rw [List.getElem?_set_ne hia] at hi
    obtain ⟨h1, h2⟩ := kl_at (ad := ad) hi
    refine h.2.2 (i, tv ad w) (List.mem_cons_of_mem _ (List.mem_filter.mpr ⟨asl_mem h1, ?_⟩))
    simp
    exact ⟨fun q => hia q.symm, Decidable.not_and_iff_or_not.mp h2⟩
theorem lvL_st2 {ad : Nat → Nat} {ls' : Array Slot} {nL a : Nat} {L : Lcs} {v : Value} (h : lv_has ls' nL ((a, tv ad v) :: (asl ad L).filter (fun q => !(q.1 == a) && (!(q.1 == a + 1) && !(q.1 + 1 == a && q.2.category == 2))))) : lvL ad ls' nL (st2 L a v) := by
  refine ⟨h.2.1, h.1, fun i w hi => ?_⟩
  unfold st2 at hi
  by_cases hib : a + 1 = i
  · subst hib
    rw [List.getElem?_set] at hi
    simp at hi
  · rw [List.getElem?_set_ne hib] at hi
    by_cases hia : a = i
    · subst hia
      rw [List.getElem?_set] at hi
      simp at hi
      rw [← hi.2]
      exact h.2.2 (a, tv ad v) List.mem_cons_self
    · rw [List.getElem?_set_ne hia] at hi
      obtain ⟨h1, h2⟩ := kl_at (ad := ad) hi
      refine h.2.2 (i, tv ad w) (List.mem_cons_of_mem _ (List.mem_filter.mpr ⟨asl_mem h1, ?_⟩))
      simp
      exact ⟨fun q => hia q.symm, fun q => hib q.symm, Decidable.not_and_iff_or_not.mp h2⟩
theorem tv_cat {ad : Nat → Nat} (v : Value) : (tv ad v).category = v.category := by cases v <;> rfl
theorem entL_at {ad : Nat → Nat} : ∀ (as : List Value) (k i : Nat) (v : Value), (entL as)[i]? = some (some v) → (k + i, tv ad v) ∈ lv_args k (as.map (tv ad))
  | [], k, i, v, h => by simp [entL] at h
  | w :: as, k, i, v, h => by
    have one : ∀ (hh : entL (w :: as) = some w :: entL as) (hc : ¬ (tv ad w).category = 2), (k + i, tv ad v) ∈ lv_args k ((w :: as).map (tv ad)) := by
      intro hh hc
      rw [hh] at h
      show _ ∈ (k, tv ad w) :: lv_args (if (tv ad w).category = 2 then k + 2 else k + 1) (as.map (tv ad))
      rw [if_neg hc]
      cases i with
      | zero => simp at h; subst h; exact List.mem_cons_self
      | succ i =>
        rw [List.getElem?_cons_succ] at h
        have := entL_at (ad := ad) as (k + 1) i v h
        rw [show k + 1 + i = k + (i + 1) by omega] at this
        exact List.mem_cons_of_mem _ this
    have two : ∀ (hh : entL (w :: as) = some w :: none :: entL as) (hc : (tv ad w).category = 2), (k + i, tv ad v) ∈ lv_args k ((w :: as).map (tv ad)) := by
      intro hh hc
      rw [hh] at h
      show _ ∈ (k, tv ad w) :: lv_args (if (tv ad w).category = 2 then k + 2 else k + 1) (as.map (tv ad))
      rw [if_pos hc]
      match i, h with
      | 0, h => simp at h; subst h; exact List.mem_cons_self
      | 1, h => simp at h
      | i + 2, h =>
        rw [List.getElem?_cons_succ, List.getElem?_cons_succ] at h
        have := entL_at (ad := ad) as (k + 2) i v h
        rw [show k + 2 + i = k + (i + 2) by omega] at this
        exact List.mem_cons_of_mem _ this
    cases w with
    | long x => exact two rfl rfl
    | double x => exact two rfl rfl
    | int x => exact one rfl (by simp [tv, Value.category])
    | float x => exact one rfl (by simp [tv, Value.category])
    | null => exact one rfl (by simp [tv, Value.category])
    | ref x => exact one rfl (by simp [tv, Value.category])
    | retAddr x => exact one rfl (by simp [tv, Value.category])
theorem entL_len {ad : Nat → Nat} (as : List Value) : (lg_sl (as.map (tv ad))).length = (entL as).length := by
  induction as with
  | nil => rfl
  | cons v as ih =>
    have h0 : lg_sl ((v :: as).map (tv ad)) = (if (tv ad v).category = 2 then [.val (tv ad v), .second] else [.val (tv ad v)]) ++ lg_sl (as.map (tv ad)) := by simp [lg_sl]
    rw [h0, List.length_append, ih]
    cases v <;> simp [entL, tv, Value.category] <;> omega
theorem lvL_ent {ad : Nat → Nat} {as : List Value} {n : Nat} (h : (entL as).length ≤ n) : lvL ad ((lg_sl (as.map (tv ad)) ++ List.replicate (n - (lg_sl (as.map (tv ad))).length) Slot.unset).toArray) n (ent n as) := by
  have h0 := lv_entry (as.map (tv ad)) (n := n) (by rw [entL_len]; exact h)
  refine ⟨h0.2.1, h0.1, fun i v hi => ?_⟩
  unfold ent at hi
  by_cases hl : i < (entL as).length
  · rw [List.getElem?_append_left hl] at hi
    have := h0.2.2 (0 + i, tv ad v) (entL_at as 0 i v hi)
    rw [Nat.zero_add] at this
    exact this
  · rw [List.getElem?_append_right (by omega)] at hi
    rw [List.getElem?_replicate] at hi
    split at hi <;> simp at hi
end
section
/-! THE PURE MACHINE STANDS FOR THE MACHINE: one instruction -/
def chkI (M pc : Nat) (i : Instr) (n a b d e : Nat) (v : Int32) (sw : List (Int32 × Nat)) : Bool := match i with
  | .iconst k => decide (n = pc + 1 ∧ Int32.ofInt k = v)
  | .bipush k => decide (n = pc + 2 ∧ (Int8.ofInt k).toInt32 = v)
  | .sipush k => decide (n = pc + 3 ∧ (Int16.ofInt k).toInt32 = v)
  | .ldc x => decide (n = pc + 2 ∧ kon[d]? = some (mO M, x, v))
  | .ldc_w x => decide (n = pc + 3 ∧ kon[d]? = some (mO M, x, v))
  | .lconst k => decide (n = pc + 1 ∧ a = k.val)
  | .ldc2_w x => decide (n = pc + 3 ∧ konL[d]? = some (mO M, x, a))
  | .iload k => decide (n = pc + 2 ∧ a = k)
  | .iload_n k => decide (n = pc + 1 ∧ a = k.val)
  | .lload k => decide (n = pc + 2 ∧ a = k)
  | .lload_n k => decide (n = pc + 1 ∧ a = k.val)
  | .aload_n k => decide (n = pc + 1 ∧ a = k.val)
  | .istore k => decide (n = pc + 2 ∧ a = k ∧ a < mL M)
  | .istore_n k => decide (n = pc + 1 ∧ a = k.val ∧ a < mL M)
  | .lstore k => decide (n = pc + 2 ∧ a = k ∧ a + 1 < mL M)
  | .lstore_n k => decide (n = pc + 1 ∧ a = k.val ∧ a + 1 < mL M)
  | .astore_n k => decide (n = pc + 1 ∧ a = k.val ∧ a < mL M)
  | .iinc k c => decide (n = pc + 3 ∧ a = k ∧ Int32.ofInt c = v ∧ a < mL M)
  | .goto off => decide (n = pc + 3 ∧ (pc : Int) + off = (a : Int))
  | .ifCond _ off => decide (n = pc + 3 ∧ (pc : Int) + off = (a : Int))
  | .if_icmp _ off => decide (n = pc + 3 ∧ (pc : Int) + off = (a : Int))
  | .tableswitch dflt lo hi offs => decide ((pc : Int) + dflt = (a : Int) ∧ hi + 1 = lo + (offs.size : Int) ∧ -2147483648 ≤ lo ∧ hi ≤ 2147483647 ∧ sw = (List.range offs.size).map (fun j : Nat => (Int32.ofInt (lo + (j : Int)), ((pc : Int) + offs.getD j 0).toNat)) ∧ (List.range offs.size).all (fun j : Nat => decide (0 ≤ (pc : Int) + offs.getD j 0)) = true)
  | .lookupswitch dflt ps => decide ((pc : Int) + dflt = (a : Int) ∧ (ps.toList.zip (ps.toList.drop 1)).all (fun (a, next) => a.1 < next.1) = true ∧ sw = ps.toList.map (fun q => (Int32.ofInt q.1, ((pc : Int) + q.2).toNat)) ∧ ps.toList.all (fun q => decide (-2147483648 ≤ q.1 ∧ q.1 ≤ 2147483647 ∧ 0 ≤ (pc : Int) + q.2)) = true)
  | .getfield x => decide (n = pc + 3 ∧ flk[d]? = some (mO M, x, a, b))
  | .putfield x => decide (n = pc + 3 ∧ flk[d]? = some (mO M, x, a, b)) && ptk a b e
  | .invokevirtual x => decide (n = pc + 3 ∧ clk[d]? = some (mO M, x, a) ∧ a ∈ mks ∧ mS a = false ∧ b = mA a ∧ e = ciO (mO a) ∧ mF a + 1 ≤ mF M ∧ 19 + mL a + mQ a ≤ mQ M)
  | .invokestatic x => decide (n = pc + 3 ∧ clk[d]? = some (mO M, x, a)) && (match e with
    | 0 => decide (a ∈ mks ∧ mS a = true ∧ b = mA a ∧ mF a + 1 ≤ mF M ∧ 19 + mL a + mQ a ≤ mQ M)
    | 1 => decide (a = mJ9_abs_0f7a4 ∧ 1 ≤ mF M ∧ 21 ≤ mQ M)
    | 2 => decide (a = mJ9_max_7cf53 ∧ 1 ≤ mF M ∧ 21 ≤ mQ M)
    | _ => false)
  | .ireturn => decide (n = pc + 1 ∧ ((a = 0 ∧ mR M = some .int) ∨ (a = 1 ∧ mR M = some .boolean)))
  | .lreturn => decide (n = pc + 1 ∧ mR M = some .long)
  | .return_ => decide (n = pc + 1 ∧ mR M = none)
  | _ => decide (n = pc + 1)
def chk (M pc : Nat) (o : PO) : Bool := match o with
  | (i, n, a, b, d, e, v, sw) => decide (decode (mB M) pc = .ok (i, n - pc)) && chkI M pc i n a b d e v sw
section SIM
variable {p : Program} {l : Launch} {e : Env} {R : Room} {s : State} {m : MethodId} {args : Array Value} {below : List Frame} {meth : Method} {c : Code} {cells slots : Nat} {Z : State → Prop} {dC : Nat → ClassId} {dI : Nat → Nat → Nat} {cA : ClassId} {ad : Nat → Nat} {A : Nat → Prop}
/-- at a place of a method, with these locals, stack and memory, the machine comes to Z -/
def Wd (p : Program) (l : Launch) (e : Env) (R : Room) (s : State) (m : MethodId) (args : Array Value) (below : List Frame) (meth : Method) (c : Code) (cells slots : Nat) (Z : State → Prop) (dC : Nat → ClassId) (dI : Nat → Nat → Nat) (cA : ClassId) (ad : Nat → Nat) (A : Nat → Prop) (nL pc : Nat) (L : Lcs) (st : List Value) (S : Mem) : Prop :=
  ∀ (H : Heap) (locs : List Loc) (ls : Array Slot), va_P (dC, dI) vwCl (wld cA ad S) H → va_D A (wld cA ad S) → va_S A s.heap H locs → lvL ad ls nL L → W p l e R s m args below meth c H locs cells slots Z (F0 m pc ls (st.map (tv ad)))
def QX (r : Option FieldType) (Q : Pst) (B : Mem → State → Prop) (A : Nat → Prop) : Array Value → State → Outcome → State → Prop := match r with
  | none => va_Qv (fun u : Mem => Q none u) B A
  | some .long => va_Ql (fun (x : Int64) (u : Mem) => Q (some (.long x)) u) B A
  | some _ => va_Qi (fun (x : Int32) (u : Mem) => Q (some (.int x)) u) B A
def BX (dC : Nat → ClassId) (dI : Nat → Nat → Nat) (cA : ClassId) (ad : Nat → Nat) (A : Nat → Prop) (u : Mem) (t : State) : Prop := va_P (dC, dI) vwCl (wld cA ad u) t.heap ∧ va_K (dC, dI) vwCl [(cA, .int)] t ∧ va_D A (wld cA ad u)
def mW (k : Nat) : List Cond := .code (mY k) (mB k) (mL k) (mR k) :: Wt
def PX (dC : Nat → ClassId) (dI : Nat → Nat → Nat) (cA : ClassId) (ad : Nat → Nat) (sz : Nat) (S : Mem) (U : State) : Prop := U.heap.size = sz ∧ va_P (dC, dI) vwCl (wld cA ad S) U.heap ∧ va_K (dC, dI) vwCl [(cA, .int)] U ∧ va_D (fun _ => True) (wld cA ad S)
/-- THE CONTRACT of a method over the whole world: called so, it returns so that Q -/
def OK (k : Nat) (as : List Value) (S : Mem) (Q : Pst) : Prop := ∀ (l : Launch) (dC : Nat → ClassId) (dI : Nat → Nat → Nat) (cA : ClassId) (ad : Nat → Nat) (sz : Nat),
  Met l (mY k) (mW k) ({ frames := mF k, cells := 0, slots := 0, locals := mQ k }) (va_Pc (as.map (tv ad)) (PX dC dI cA ad sz S)) (QX (mR k) Q (BX dC dI cA ad (va_A (wld cA ad S) sz)) (va_A (wld cA ad S) sz)) 0 0 (va_A (wld cA ad S) sz)
theorem Wt_code {k : Nat} (h : k ∈ mks) : ∀ w ∈ mW k, w ∈ Wt := fun w hw => (List.mem_cons.mp hw).elim (fun q => q ▸ (mo_ok k h).1) id
theorem Wt_good {ws : List Cond} (h : ∀ w ∈ ws, w ∈ Wt) : GoodIn Wt ws := fun w hw => ⟨h w hw, good_of_word (List.mem_filter.mp (h w hw)).2⟩
theorem PX_blind {dC : Nat → ClassId} {dI : Nat → Nat → Nat} {cA : ClassId} {ad : Nat → Nat} {sz : Nat} {S : Mem} {as : List Value} : FrameBlind (va_Pc as (PX dC dI cA ad sz S)) := fun a U g mk q => by
  obtain ⟨q0, q1, qP, qK, qD⟩ := q
  exact ⟨q0, q1, qP, va_K.moved (u := U) (U := U.calling g mk a) (Vm.Alike.refl U.vm) qK, qD⟩
theorem sle_cat {ad : Nat → Nat} : ∀ (n : Nat) (r : List Value), sle n r = true → ((r.map (tv ad)).map fun v => v.category).sum ≤ 2 * n
  | n, [], _ => by simp
  | 0, _ :: _, h => by cases h
  | n + 1, v :: r, h => by
    have := sle_cat (ad := ad) n r h
    have h2 : (tv ad v).category ≤ 2 := by cases v <;> simp [tv, Value.category]
    simp only [List.map_cons, List.sum_cons]
    omega
theorem tk_inv : ∀ (n : Nat) (acc st as r : List Value), tk n acc st = some (as, r) → ∃ hd, as = hd ++ acc ∧ hd.length = n ∧ st = hd.reverse ++ r
  | 0, acc, st, as, r, h => by
    unfold tk at h
    cases h
    exact ⟨[], rfl, rfl, rfl⟩
  | n + 1, acc, [], as, r, h => by unfold tk at h; cases h
  | n + 1, acc, v :: st, as, r, h => by
    unfold tk at h
    obtain ⟨hd, h1, h2, h3⟩ := tk_inv n (v :: acc) st as r h
    exact ⟨hd ++ [v], by rw [h1]; simp, by simp [h2], by rw [h3]; simp⟩
end SIM
end
section
theorem xs1_inv {st : List Value} {k : Int32 → List Value → Prop} (h : xs1 st k) : ∃ x r, st = .int x :: r ∧ k x r := by
  unfold xs1 at h
  split at h
  · exact ⟨_, _, rfl, h⟩
  · exact h.elim
theorem xs2_inv {st : List Value} {k : Int32 → Int32 → List Value → Prop} (h : xs2 st k) : ∃ x y r, st = .int y :: .int x :: r ∧ k x y r := by
  unfold xs2 at h
  split at h
  · exact ⟨_, _, _, rfl, h⟩
  · exact h.elim
theorem xl1_inv {st : List Value} {k : Int64 → List Value → Prop} (h : xl1 st k) : ∃ x r, st = .long x :: r ∧ k x r := by
  unfold xl1 at h
  split at h
  · exact ⟨_, _, rfl, h⟩
  · exact h.elim
theorem xl2_inv {st : List Value} {k : Int64 → Int64 → List Value → Prop} (h : xl2 st k) : ∃ x y r, st = .long y :: .long x :: r ∧ k x y r := by
  unfold xl2 at h
  split at h
  · exact ⟨_, _, _, rfl, h⟩
  · exact h.elim
theorem xr1_inv {st : List Value} {k : Nat → List Value → Prop} (h : xr1 st k) : ∃ x r, st = .ref x :: r ∧ k x r := by
  unfold xr1 at h
  split at h
  · exact ⟨_, _, rfl, h⟩
  · exact h.elim
theorem xir_inv {st : List Value} {k : Nat → Int32 → List Value → Prop} (h : xir st k) : ∃ q x r, st = .int x :: .ref q :: r ∧ k q x r := by
  unfold xir at h
  split at h
  · exact ⟨_, _, _, rfl, h⟩
  · exact h.elim
theorem xiir_inv {st : List Value} {k : Nat → Int32 → Int32 → List Value → Prop} (h : xiir st k) : ∃ q j x r, st = .int x :: .int j :: .ref q :: r ∧ k q j x r := by
  unfold xiir at h
  split at h
  · exact ⟨_, _, _, _, rfl, h⟩
  · exact h.elim
theorem xdup_inv {st : List Value} {k : List Value → Prop} (h : xdup st k) : ∃ v r, st = v :: r ∧ v.category = 1 ∧ k (v :: v :: r) := by
  unfold xdup at h
  split at h
  · exact ⟨_, _, rfl, rfl, h⟩
  · exact ⟨_, _, rfl, rfl, h⟩
  · exact h.elim
theorem xldi_inv {v : Option (Option Value)} {k : Int32 → Prop} (h : xldi v k) : ∃ x, v = some (some (.int x)) ∧ k x := by
  unfold xldi at h
  split at h
  · exact ⟨_, rfl, h⟩
  · exact h.elim
theorem xldl_inv {v : Option (Option Value)} {k : Int64 → Prop} (h : xldl v k) : ∃ x, v = some (some (.long x)) ∧ k x := by
  unfold xldl at h
  split at h
  · exact ⟨_, rfl, h⟩
  · exact h.elim
theorem xlda_inv {v : Option (Option Value)} {k : Nat → Prop} (h : xlda v k) : ∃ x, v = some (some (.ref x)) ∧ k x := by
  unfold xlda at h
  split at h
  · exact ⟨_, rfl, h⟩
  · exact h.elim
theorem xfld_inv {f : Option (Option Nat)} {k0 : Prop} {k1 : Nat → Prop} (h : xfld f k0 k1) : (f = some none ∧ k0) ∨ ∃ t, f = some (some t) ∧ k1 t := by
  unfold xfld at h
  split at h
  · exact Or.inl ⟨rfl, h⟩
  · exact Or.inr ⟨_, rfl, h⟩
  · exact h.elim
theorem xlen_inv {f : Option Nat} {sc : Option (Nat × (Nat → Int32))} {k0 : Nat → Prop} {k1 : Nat → (Nat → Int32) → Prop} (h : xlen f sc k0 k1) : (∃ n, f = some n ∧ k0 n) ∨ ∃ n xs, sc = some (n, xs) ∧ k1 n xs := by
  unfold xlen at h
  split at h
  · exact Or.inl ⟨_, rfl, h⟩
  · split at h
    · exact Or.inr ⟨_, _, rfl, h⟩
    · exact h.elim
theorem xvir_inv {t : Option (List Value × List Value)} {e : Nat} {k : List Value → List Value → Prop} (h : xvir t e k) : ∃ q as r, t = some (.ref q :: as, r) ∧ cls q = some e ∧ sle 4 r = true ∧ k (.ref q :: as) r := by
  unfold xvir at h
  split at h
  · next q as r =>
    cases hc : cls q with
    | none => rw [hc] at h; exact h.elim
    | some c =>
      rw [hc] at h
      cases hb : (Nat.beq c e && sle 4 r) with
      | false => simp only [hb, cond_false] at h
      | true =>
        simp only [hb, cond_true] at h
        obtain ⟨h1, h2⟩ := (Bool.and_eq_true _ _).mp hb
        exact ⟨q, as, r, rfl, by rw [hc, Nat.eq_of_beq_eq_true h1], h2, h⟩
  · exact h.elim
theorem xsta_inv {t : Option (List Value × List Value)} {k : List Value → List Value → Prop} (h : xsta t k) : ∃ as r, t = some (as, r) ∧ sle 4 r = true ∧ k as r := by
  unfold xsta at h
  split at h
  · next as r =>
    cases hb : sle 4 r with
    | false => simp only [hb, cond_false] at h
    | true =>
      simp only [hb, cond_true] at h
      exact ⟨as, r, rfl, hb, h⟩
  · exact h.elim
theorem xri_inv {st : List Value} {a : Nat} {k : Int32 → Prop} (h : xri st a k) : ∃ x, st = [.int x] ∧ (¬ a = 0 → x = 0 ∨ x = 1) ∧ k x := by
  unfold xri at h
  split at h
  · split at h
    · exact ⟨_, rfl, fun q => absurd rfl q, h⟩
    · exact ⟨_, rfl, fun _ => h.1, h.2⟩
  · exact h.elim
theorem xrl_inv {st : List Value} {k : Int64 → Prop} (h : xrl st k) : ∃ x, st = [.long x] ∧ k x := by
  unfold xrl at h
  split at h
  · exact ⟨_, rfl, h⟩
  · exact h.elim
theorem xrv_inv {st : List Value} {k : Prop} (h : xrv st k) : st = [] ∧ k := by
  unfold xrv at h
  split at h
  · exact ⟨rfl, h⟩
  · exact h.elim
theorem xbo_inv {e : Nat} {x : Int32} {k : Prop} (h : xbo e x k) : (¬ e = 0 → x = 0 ∨ x = 1) ∧ k := by
  unfold xbo at h
  split at h
  · exact ⟨fun q => absurd rfl q, h⟩
  · exact ⟨fun _ => h.1, h.2⟩
theorem swx_inv {x : Int32} {nx : Nat → Prop} {d : Nat} : ∀ {sw : List (Int32 × Nat)}, swx x nx d sw → (∃ t, (x, t) ∈ sw ∧ nx t) ∨ ((∀ q ∈ sw, ¬ x = q.1) ∧ nx d)
  | [], h => Or.inr ⟨fun _ q => absurd q List.not_mem_nil, h⟩
  | (v, t) :: r, h => by
    unfold swx at h
    by_cases hx : x = v
    · subst hx
      exact Or.inl ⟨t, List.mem_cons_self, h.1 rfl⟩
    · rcases swx_inv (h.2 hx) with ⟨t', h1, h2⟩ | ⟨h1, h2⟩
      · exact Or.inl ⟨t', List.mem_cons_of_mem _ h1, h2⟩
      · exact Or.inr ⟨fun q hq => (List.mem_cons.mp hq).elim (fun z => by rw [z]; exact hx) (h1 q), h2⟩
/-- the first key that fits -/
def swf (x : Int32) (d : Nat) : List (Int32 × Nat) → Nat
  | [] => d
  | (v, t) :: r => if x = v then t else swf x d r
theorem swx_fst {x : Int32} {nx : Nat → Prop} {d : Nat} : ∀ {sw : List (Int32 × Nat)}, swx x nx d sw → nx (swf x d sw)
  | [], h => h
  | (v, t) :: r, h => by
    unfold swx at h
    unfold swf
    by_cases hx : x = v
    · rw [if_pos hx]; exact h.1 hx
    · rw [if_neg hx]; exact swx_fst (h.2 hx)
theorem i32_ofInt_toInt {k : Int} (h1 : -2147483648 ≤ k) (h2 : k ≤ 2147483647) : (Int32.ofInt k).toInt = k := by
  exact Int32.toInt_ofInt_of_le (by omega) (by omega)
theorem swf_ne {x v : Int32} {d t : Nat} {r : List (Int32 × Nat)} (h : ¬ x = v) : swf x d ((v, t) :: r) = swf x d r := by simp [swf, h]
theorem swf_eq {x v : Int32} {d t : Nat} {r : List (Int32 × Nat)} (h : x = v) : swf x d ((v, t) :: r) = t := by simp [swf, h]
theorem swf_look {x : Int32} {d : Nat} {pc : Nat} {dflt : Int} (hd : (pc : Int) + dflt = (d : Int)) : ∀ (ps : List (Int × Int)), ps.all (fun q => decide (-2147483648 ≤ q.1 ∧ q.1 ≤ 2147483647 ∧ 0 ≤ (pc : Int) + q.2)) = true → (pc : Int) + Op.lookupswitch.offset ps dflt x.toInt = ((swf x d (ps.map (fun q => (Int32.ofInt q.1, ((pc : Int) + q.2).toNat))) : Nat) : Int)
  | [], _ => hd
  | (k, o) :: ps, h => by
    simp only [List.all_cons, Bool.and_eq_true, decide_eq_true_eq] at h
    obtain ⟨⟨h1, h2, h3⟩, h4⟩ := h
    have ih := swf_look (x := x) hd ps (by simpa using h4)
    have e1 : (x = Int32.ofInt k) ↔ (k = x.toInt) := by
      rw [← Int32.toInt_inj, i32_ofInt_toInt h1 h2]
      exact eq_comm
    simp only [List.map_cons]
    by_cases hk : k = x.toInt
    · rw [swf_eq (e1.mpr hk)]
      unfold Op.lookupswitch.offset
      rw [if_pos hk]; omega
    · rw [swf_ne (fun q => hk (e1.mp q))]
      unfold Op.lookupswitch.offset
      rw [if_neg hk]; exact ih
theorem swf_table {x : Int32} {d : Nat} {pc : Nat} {dflt lo hi : Int} {offs : Array Int} (hd : (pc : Int) + dflt = (d : Int)) (hs : hi + 1 = lo + (offs.size : Int)) (h1 : -2147483648 ≤ lo) (h2 : hi ≤ 2147483647)
    (hp : (List.range offs.size).all (fun j : Nat => decide (0 ≤ (pc : Int) + offs.getD j 0)) = true) :
    ((x.toInt < lo ∨ hi < x.toInt) ∧ swf x d ((List.range offs.size).map (fun j : Nat => (Int32.ofInt (lo + (j : Int)), ((pc : Int) + offs.getD j 0).toNat))) = d) ∨
    (¬ x.toInt < lo ∧ ¬ hi < x.toInt ∧ ∃ off, offs[(x.toInt - lo).toNat]? = some off ∧ (pc : Int) + off = ((swf x d ((List.range offs.size).map (fun j : Nat => (Int32.ofInt (lo + (j : Int)), ((pc : Int) + offs.getD j 0).toNat))) : Nat) : Int)) := by
  have key : ∀ (n : Nat), n ≤ offs.size → ∀ (r : List (Int32 × Nat)), (∀ j : Nat, j < n → ¬ x.toInt = lo + (j : Int)) → swf x d ((List.range n).map (fun j : Nat => (Int32.ofInt (lo + (j : Int)), ((pc : Int) + offs.getD j 0).toNat)) ++ r) = swf x d r := by
    intro n
    induction n with
    | zero => intro _ r _; rfl
    | succ n ih =>
      intro hn r hj
      rw [List.range_succ, List.map_append, List.append_assoc, ih (by omega) _ (fun j h => hj j (by omega))]
      refine swf_ne fun q => ?_
      refine hj n (by omega) ?_
      rw [q, i32_ofInt_toInt (by omega) (by omega)]
  by_cases hlo : x.toInt < lo
  · left
    refine ⟨Or.inl hlo, ?_⟩
    have := key offs.size (Nat.le_refl _) [] (fun j _ => by omega)
    rw [List.append_nil] at this
    exact this
  · by_cases hhi : hi < x.toInt
    · left
      refine ⟨Or.inr hhi, ?_⟩
      have := key offs.size (Nat.le_refl _) [] (fun j h => by omega)
      rw [List.append_nil] at this
      exact this
    · right
      refine ⟨hlo, hhi, ?_⟩
      obtain ⟨n, hn⟩ : ∃ n : Nat, x.toInt - lo = (n : Int) := ⟨(x.toInt - lo).toNat, by omega⟩
      have hlt : n < offs.size := by omega
      have e0 : (x.toInt - lo).toNat = n := by omega
      rw [e0]
      refine ⟨offs.getD n 0, ?_, ?_⟩
      · rw [Array.getD_eq_getD_getElem?, Array.getElem?_eq_getElem hlt]; rfl
      · have hz := List.all_eq_true.mp hp n (List.mem_range.mpr hlt)
        have hz := of_decide_eq_true hz
        obtain ⟨k, hk⟩ : ∃ k, offs.size = (n + 1) + k := ⟨offs.size - (n + 1), by omega⟩
        have hx : x = Int32.ofInt (lo + (n : Int)) := by
          rw [← Int32.toInt_inj, i32_ofInt_toInt (by omega) (by omega)]
          omega
        rw [hk, List.range_add, List.map_append, List.range_succ, List.map_append, List.append_assoc, key n (by omega) _ (fun j h => by omega)]
        refine Eq.trans ?_ (congrArg Nat.cast (swf_eq (r := _) hx).symm)
        omega
end
section
theorem cnd_inv {b : Bool} {A : Prop} (h : cond b A False) : b = true ∧ A := by
  cases b with
  | false => exact h.elim
  | true => exact ⟨rfl, h⟩
theorem ptk_inv {a b e : Nat} (h : ptk a b e = true) {C : String} {T : u_T} {N : Nat} (hc : vwCl[a]? = some (C, T, N)) : (T b).2.2.2 = false ∧ parseFieldDescriptor (T b).2.2.1 = some (tyE e) := by
  unfold ptk at h
  rw [hc] at h
  exact of_decide_eq_true h
theorem bo_narrow {e : Nat} {x : Int32} (h : ¬ e = 0 → x = 0 ∨ x = 1) : narrow (tyE e) (.int x) = .int x := by
  cases e with
  | zero => rfl
  | succ e => rcases h (by omega) with rfl | rfl <;> rfl
theorem bo_fits {e : Nat} {x : Int32} (h : ¬ e = 0 → x = 0 ∨ x = 1) : fits (tyE e) (.int x) = true := by
  cases e with
  | zero => rfl
  | succ e => rcases h (by omega) with rfl | rfl <;> rfl
theorem cel_i {ad : Nat → Nat} {f : Nat → Int32} {ts : List (Option Nat)} {b : Nat} (h : ts[b]? = some none) : (celf ad f ts)[b]? = some (.int (f b)) := by
  have hb := (List.getElem?_eq_some_iff.mp h).1
  unfold celf
  rw [List.getElem?_map, List.getElem?_range hb]
  simp [h]
theorem cel_r {ad : Nat → Nat} {f : Nat → Int32} {ts : List (Option Nat)} {b t : Nat} (h : ts[b]? = some (some t)) : (celf ad f ts)[b]? = some (.ref (ad t)) := by
  have hb := (List.getElem?_eq_some_iff.mp h).1
  unfold celf
  rw [List.getElem?_map, List.getElem?_range hb]
  simp [h]
theorem cel_l {ad : Nat → Nat} {f : Nat → Int32} {ts : List (Option Nat)} {b : Nat} {r : Option Nat} (h : ts[b]? = some r) : b < (celf ad f ts).length := by
  have hb := (List.getElem?_eq_some_iff.mp h).1
  unfold celf
  simpa using hb
theorem cel_set {cA : ClassId} {ad : Nat → Nat} {f : Nat → Int32} {ci : Nat} {ts : List (Option Nat)} {b : Nat} {x : Int32} (h : ts[b]? = some none) : cel cA ad (upd f b x) (.inr (ci, ts)) = .inr (ci, (celf ad f ts).set b (.int x)) := by
  have key : celf ad (upd f b x) ts = (celf ad f ts).set b (.int x) := by
    apply List.ext_getElem?
    intro i
    have hb := (List.getElem?_eq_some_iff.mp h).1
    by_cases hi : i = b
    · subst hi
      rw [List.getElem?_set_self (cel_l h), cel_i h]
      simp [upd]
    · rw [List.getElem?_set_ne (Ne.symm hi)]
      unfold celf
      rw [List.getElem?_map, List.getElem?_map]
      by_cases hr : i < ts.length
      · rw [List.getElem?_range hr]
        simp [upd, hi]
      · rw [List.getElem?_eq_none (by simp; omega)]; rfl
  unfold cel
  rw [← key]
section SIMC
variable {p : Program} {l : Launch} {e : Env} {R : Room} {s : State} {m : MethodId} {args : Array Value} {below : List Frame} {meth : Method} {c : Code} {cells slots : Nat} {Z : State → Prop} {dC : Nat → ClassId} {dI : Nat → Nat → Nat} {cA : ClassId} {ad : Nat → Nat} {A : Nat → Prop}
/-- behind a call: the world that came back, under the caller's frame -/
theorem call_back {S S' : Mem} {H H1 : Heap} {t : State} (hFc : ∀ q, va_A (wld cA ad S) H.size q → A q) (ht : t.heap = H1) (hB : BX dC dI cA ad (va_A (wld cA ad S) H.size) S' t) : va_P (dC, dI) vwCl (wld cA ad S') H1 ∧ va_D A (wld cA ad S') := by
  obtain ⟨h1, -, h3⟩ := hB
  exact ⟨by rw [← ht]; exact h1, h3.weaken fun k q _ h => hFc _ h⟩
set_option maxHeartbeats 4000000 in
theorem sim_call {M x a d pc : Nat} {nx : Nat → Lcs → List Value → Mem → Prop} (hx : p.tables.exec = Jvm.exec) (hb : c.code = mB M) (hml : c.maxLocals = mL M) (hown : s.vm.findClass (cN (mO M)) = some m.cls) (hts : ∀ w ∈ Wt, w.before args s = true)
    (hK : va_K (dC, dI) vwCl [(cA, .int)] s) (hA : ∀ q, s.heap.size ≤ q → A q) (hR1 : mF M ≤ R.frames) (hR2 : mQ M ≤ R.locals) (hR3 : cells ≤ R.cells) (hR4 : slots ≤ R.slots)
    (hnx : ∀ pc L st S, nx pc L st S → Wd p l e R s m args below meth c cells slots Z dC dI cA ad A (mL M) pc L st S)
    (hlk : clk[d]? = some (mO M, x, a)) (hin : a ∈ mks) (hf1 : mF a + 1 ≤ mF M) (hf2 : 19 + mL a + mQ a ≤ mQ M) {as r st : List Value} {L : Lcs} {S : Mem}
    (hkind : (mS a = false ∧ ∃ (q : Nat) (bs : List Value), as = .ref q :: bs ∧ cls q = some (ciO (mO a)) ∧ decode (mB M) pc = .ok (.invokevirtual x, 3)) ∨ (mS a = true ∧ decode (mB M) pc = .ok (.invokestatic x, 3)))
    (htk : tk (cond (mS a) (mA a) (mA a + 1)) [] st = some (as, r)) (hsl : sle 4 r = true) (h : OK a as S fun v S' => nx (pc + 3) L (rp v r) S')
    (H : Heap) (locs : List Loc) (ls : Array Slot) (hP : va_P (dC, dI) vwCl (wld cA ad S) H) (hD : va_D A (wld cA ad S)) (hS : va_S A s.heap H locs) (hl : lvL ad ls (mL M) L) : W p l e R s m args below meth c H locs cells slots Z (F0 m pc ls (st.map (tv ad))) := by
  obtain ⟨hcode, hkw, hini, hsel, hcls, hpl, hpd⟩ := mo_ok a hin
  have hC : CallB R s args (cN (mO M)) x (mY a) (mB a) (mL a) (mR a) (mW a) ({ frames := mF a, cells := 0, slots := 0, locals := mQ a }) 0 0 (mA a) :=
    callB_of (mA a) hts (Wt_good (Wt_code hin)) rfl rfl rfl (hts _ hini) (hts _ (cl_ok _ (List.mem_of_getElem? hlk))) ⟨hpl.1.1, hpl.1.2, hpd⟩ ⟨Nat.le_trans hf1 hR1, (show 8 + (mL a + 11) + mQ a ≤ R.locals by omega)⟩
  have hM := h l dC dI cA ad H.size
  obtain ⟨hd1, e1, e2, e3⟩ := tk_inv _ _ _ _ _ htk
  rw [List.append_nil] at e1
  subst e1
  have hFc : ∀ q, va_A (wld cA ad S) H.size q → A q := by
    intro q hq
    rcases hq with ⟨k, e0, hk⟩ | hq
    · exact hD.2 k (q, e0) hk
    · exact hA q (Nat.le_trans hS.1 hq)
  have hU : ∀ (av : List Value) (U : State), U.heap = H → s.WarmedH U.vm → va_Pc av (PX dC dI cA ad H.size S) av.toArray U := fun av U hU hW => ⟨rfl, by rw [hU], by rw [hU]; exact hP, va_K.moved hW.alike hK, hD.weaken (fun _ _ _ _ => trivial)⟩
  have hcat : 2 * (F0 m pc ls (st.map (tv ad))).monitorRoom + ((r.map (tv ad)).map fun v => v.category).sum ≤ 8 := lv_room (sle_cat 4 r hsl)
  have fin : ∀ (aa : Array Value), va_Run p l e R s m args below meth c H locs cells slots 0 0 (F0 m pc ls (st.map (tv ad))) (r.map (tv ad)) (QX (mR a) (fun v S' => nx (pc + 3) L (rp v r) S') (BX dC dI cA ad (va_A (wld cA ad S) H.size)) (va_A (wld cA ad S) H.size) aa) (va_A (wld cA ad S) H.size) → W p l e R s m args below meth c H locs cells slots Z (F0 m pc ls (st.map (tv ad))) := by
    intro aa hr
    cases hret : mR a with
    | none =>
      rw [hret] at hr
      refine va_callv (a := aa) hr hS (fun q _ h => hFc q h) hFc (fun u t H1 locs1 ht hvm hw hB hz1 hk1 hS1 => ?_)
      obtain ⟨g1, g2⟩ := call_back hFc ht hB
      exact hnx _ _ _ _ hw H1 locs1 ls g1 g2 hS1 hl
    | some ty =>
      rw [hret] at hr
      cases ty with
      | long =>
        refine va_calll (a := aa) hr hS (fun q _ h => hFc q h) hFc (fun rv u t H1 locs1 ht hvm hw hB hz1 hk1 hS1 => ?_)
        obtain ⟨g1, g2⟩ := call_back hFc ht hB
        exact hnx _ _ _ _ hw H1 locs1 ls g1 g2 hS1 hl
      | _ =>
        refine va_calli (a := aa) hr hS (fun q _ h => hFc q h) hFc (fun rv u t H1 locs1 ht hvm hw hB hz1 hk1 hS1 => ?_)
        obtain ⟨g1, g2⟩ := call_back hFc ht hB
        exact hnx _ _ _ _ hw H1 locs1 ls g1 g2 hS1 hl
  rcases hkind with ⟨hst, q, bs, rfl, hcl, hd⟩ | ⟨hst, hd⟩
  · rw [hst] at e2 hkw
    obtain ⟨hsw, T, N, hvw⟩ : Cond.selects (mY a).cls (mY a) (mY a) ∈ Wt ∧ ∃ (T : u_T) (N : Nat), vwCl[ciO (mO a)]? = some ((mY a).cls, T, N) := hsel.elim (fun z => by rw [hst] at z; cases z) id
    obtain ⟨ts, hts1⟩ := cls_inv hcl
    refine fin _ (va_runV (As := bs.map (tv ad)) (rest := r.map (tv ad)) (b := ad q) ⟨hx, hb, hml, hown, hts⟩ hM ⟨hC, hts _ hkw, hts _ hsw⟩ ⟨PX_blind, va_recv hK hP hvw (wld_get hts1), fun U h1 h2 => hU _ U h1 h2⟩ rfl ?_ hl.2.1 ?_ hcat hd ⟨hR3, hR4⟩)
    · rw [List.length_map]
      simpa using e2
    · show st.map (tv ad) = _
      rw [e3]
      simp [tv]
  · rw [hst] at e2 hkw
    refine fin _ (va_runS (As := as.map (tv ad)) (rest := r.map (tv ad)) ⟨hx, hb, hml, hown, hts⟩ hM ⟨hC, hts _ hkw⟩ ⟨PX_blind, fun U h1 h2 => hU _ U h1 h2⟩ rfl ?_ hl.2.1 ?_ hcat hd ⟨hR3, hR4⟩)
    · rw [List.length_map]
      exact e2
    · show st.map (tv ad) = _
      rw [e3]
      simp
end SIMC
section SIM4
variable {p : Program} {l : Launch} {e : Env} {R : Room} {s : State} {m : MethodId} {args : Array Value} {below : List Frame} {meth : Method} {c : Code} {cells slots : Nat} {Z : State → Prop} {dC : Nat → ClassId} {dI : Nat → Nat → Nat} {cA : ClassId} {ad : Nat → Nat} {A : Nat → Prop}
set_option maxHeartbeats 4000000 in
/-- ONE INSTRUCTION -/
theorem sim1 {M : Nat} {sc : Option (Nat × (Nat → Int32))} {Q : Pst} {nx : Nat → Lcs → List Value → Mem → Prop} (hx : p.tables.exec = Jvm.exec) (hb : c.code = mB M) (hml : c.maxLocals = mL M) (hown : s.vm.findClass (cN (mO M)) = some m.cls) (hts : ∀ w ∈ Wt, w.before args s = true)
    (hK : va_K (dC, dI) vwCl [(cA, .int)] s) (hA : ∀ q, s.heap.size ≤ q → A q) (hR1 : mF M ≤ R.frames) (hR2 : mQ M ≤ R.locals) (hR3 : cells ≤ R.cells) (hR4 : slots ≤ R.slots)
    (hsc : ∀ n xs, sc = some (n, xs) → va_X (ad 99) n xs s s.heap ∧ ad 99 < s.heap.size ∧ ¬ A (ad 99))
    (hri : ∀ pc L S (x : Int32), decode (mB M) pc = .ok (.ireturn, 1) → ((mR M = some .int) ∨ (mR M = some .boolean ∧ (x = 0 ∨ x = 1))) → Q (some (.int x)) S → Wd p l e R s m args below meth c cells slots Z dC dI cA ad A (mL M) pc L [.int x] S)
    (hrl : ∀ pc L S (x : Int64), decode (mB M) pc = .ok (.lreturn, 1) → mR M = some .long → Q (some (.long x)) S → Wd p l e R s m args below meth c cells slots Z dC dI cA ad A (mL M) pc L [.long x] S)
    (hrv : ∀ pc L S, decode (mB M) pc = .ok (.return_, 1) → mR M = none → Q none S → Wd p l e R s m args below meth c cells slots Z dC dI cA ad A (mL M) pc L [] S)
    (hnx : ∀ pc L st S, nx pc L st S → Wd p l e R s m args below meth c cells slots Z dC dI cA ad A (mL M) pc L st S)
    {pc : Nat} {o : PO} (hq : chk M pc o = true) {L : Lcs} {st : List Value} {S : Mem} (h : exec OK sc o L st S Q nx) : Wd p l e R s m args below meth c cells slots Z dC dI cA ad A (mL M) pc L st S := by
  obtain ⟨i, n, a, b, d, e', v, sw⟩ := o
  obtain ⟨hd0, hc⟩ := (Bool.and_eq_true _ _).mp hq
  have hd := of_decide_eq_true hd0
  clear hq hd0
  cases i with
  | iconst k =>
    obtain ⟨rfl, hv⟩ := of_decide_eq_true hc
    rw [Nat.add_sub_cancel_left] at hd
    intro H locs ls hP hD hS hl
    exact lv_iconst hx hb hd hv (hnx _ _ _ _ h H locs ls hP hD hS hl)
  | bipush k =>
    obtain ⟨rfl, hv⟩ := of_decide_eq_true hc
    rw [Nat.add_sub_cancel_left] at hd
    intro H locs ls hP hD hS hl
    exact lv_bipush hx hb hd hv (hnx _ _ _ _ h H locs ls hP hD hS hl)
  | sipush k =>
    obtain ⟨rfl, hv⟩ := of_decide_eq_true hc
    rw [Nat.add_sub_cancel_left] at hd
    intro H locs ls hP hD hS hl
    exact lv_sipush hx hb hd hv (hnx _ _ _ _ h H locs ls hP hD hS hl)
  | ldc x =>
    obtain ⟨rfl, hv⟩ := of_decide_eq_true hc
    rw [Nat.add_sub_cancel_left] at hd
    intro H locs ls hP hD hS hl
    exact lv_ldc hx hb hown (hts _ (kon_ok _ (List.mem_of_getElem? hv))) hd (hnx _ _ _ _ h H locs ls hP hD hS hl)
  | ldc_w x =>
    obtain ⟨rfl, hv⟩ := of_decide_eq_true hc
    rw [Nat.add_sub_cancel_left] at hd
    intro H locs ls hP hD hS hl
    exact lv_ldcw hx hb hown (hts _ (kon_ok _ (List.mem_of_getElem? hv))) hd (hnx _ _ _ _ h H locs ls hP hD hS hl)
  | lconst k =>
    obtain ⟨rfl, rfl⟩ := of_decide_eq_true hc
    rw [Nat.add_sub_cancel_left] at hd
    intro H locs ls hP hD hS hl
    exact lv_lconst hx hb hd rfl (hnx _ _ _ _ h H locs ls hP hD hS hl)
  | ldc2_w x =>
    obtain ⟨rfl, hv⟩ := of_decide_eq_true hc
    rw [Nat.add_sub_cancel_left] at hd
    intro H locs ls hP hD hS hl
    exact lv_ldc2 hx hb hown (hts _ (konL_ok _ (List.mem_of_getElem? hv))) hd (hnx _ _ _ _ h H locs ls hP hD hS hl)
  | iload k =>
    obtain ⟨rfl, rfl⟩ := of_decide_eq_true hc
    rw [Nat.add_sub_cancel_left] at hd
    obtain ⟨x, hv, h9⟩ := xldi_inv h
    have h := h9
    intro H locs ls hP hD hS hl
    exact lv_iload hx hb hd (hl.2.2 _ _ hv) (hnx _ _ _ _ h H locs ls hP hD hS hl)
  | iload_n k =>
    obtain ⟨rfl, rfl⟩ := of_decide_eq_true hc
    rw [Nat.add_sub_cancel_left] at hd
    obtain ⟨x, hv, h9⟩ := xldi_inv h
    have h := h9
    intro H locs ls hP hD hS hl
    exact lv_iload_n hx hb hd rfl (hl.2.2 _ _ hv) (hnx _ _ _ _ h H locs ls hP hD hS hl)
  | lload k =>
    obtain ⟨rfl, rfl⟩ := of_decide_eq_true hc
    rw [Nat.add_sub_cancel_left] at hd
    obtain ⟨x, hv, h9⟩ := xldl_inv h
    have h := h9
    intro H locs ls hP hD hS hl
    exact lv_lload hx hb hd (hl.2.2 _ _ hv) (hnx _ _ _ _ h H locs ls hP hD hS hl)
  | lload_n k =>
    obtain ⟨rfl, rfl⟩ := of_decide_eq_true hc
    rw [Nat.add_sub_cancel_left] at hd
    obtain ⟨x, hv, h9⟩ := xldl_inv h
    have h := h9
    intro H locs ls hP hD hS hl
    exact lv_lload_n hx hb hd rfl (hl.2.2 _ _ hv) (hnx _ _ _ _ h H locs ls hP hD hS hl)
  | aload_n k =>
    obtain ⟨rfl, rfl⟩ := of_decide_eq_true hc
    rw [Nat.add_sub_cancel_left] at hd
    obtain ⟨x, hv, h9⟩ := xlda_inv h
    have h := h9
    intro H locs ls hP hD hS hl
    exact lv_aload_n hx hb hd rfl (hl.2.2 _ _ hv) (hnx _ _ _ _ h H locs ls hP hD hS hl)
  | istore k =>
    obtain ⟨rfl, rfl, hn⟩ := of_decide_eq_true hc
    rw [Nat.add_sub_cancel_left] at hd
    obtain ⟨x, r, rfl, h9⟩ := xs1_inv h
    have h := h9
    intro H locs ls hP hD hS hl
    exact lv_istore hx hb hd (lvL_has hl) hn rfl (fun ls1 h1 => hnx _ _ _ _ h H locs ls1 hP hD hS (lvL_st1 h1))
  | istore_n k =>
    obtain ⟨rfl, rfl, hn⟩ := of_decide_eq_true hc
    rw [Nat.add_sub_cancel_left] at hd
    obtain ⟨x, r, rfl, h9⟩ := xs1_inv h
    have h := h9
    intro H locs ls hP hD hS hl
    exact lv_istore_n hx hb hd rfl (lvL_has hl) hn rfl (fun ls1 h1 => hnx _ _ _ _ h H locs ls1 hP hD hS (lvL_st1 h1))
  | lstore k =>
    obtain ⟨rfl, rfl, hn⟩ := of_decide_eq_true hc
    rw [Nat.add_sub_cancel_left] at hd
    obtain ⟨x, r, rfl, h9⟩ := xl1_inv h
    have h := h9
    intro H locs ls hP hD hS hl
    exact lv_lstore hx hb hd (lvL_has hl) hn rfl (fun ls1 h1 => hnx _ _ _ _ h H locs ls1 hP hD hS (lvL_st2 h1))
  | lstore_n k =>
    obtain ⟨rfl, rfl, hn⟩ := of_decide_eq_true hc
    rw [Nat.add_sub_cancel_left] at hd
    obtain ⟨x, r, rfl, h9⟩ := xl1_inv h
    have h := h9
    intro H locs ls hP hD hS hl
    exact lv_lstore_n hx hb hd rfl (lvL_has hl) hn rfl (fun ls1 h1 => hnx _ _ _ _ h H locs ls1 hP hD hS (lvL_st2 h1))
  | astore_n k =>
    obtain ⟨rfl, rfl, hn⟩ := of_decide_eq_true hc
    rw [Nat.add_sub_cancel_left] at hd
    obtain ⟨x, r, rfl, h9⟩ := xr1_inv h
    have h := h9
    intro H locs ls hP hD hS hl
    exact lv_astore_n hx hb hd rfl (lvL_has hl) hn rfl (fun ls1 h1 => hnx _ _ _ _ h H locs ls1 hP hD hS (lvL_st1 h1))
  | iinc k j =>
    obtain ⟨rfl, rfl, hv, hn⟩ := of_decide_eq_true hc
    rw [Nat.add_sub_cancel_left] at hd
    obtain ⟨x, hg, h9⟩ := xldi_inv h
    have h := h9
    intro H locs ls hP hD hS hl
    obtain ⟨k0, hk0⟩ := List.getElem?_of_mem (asl_mem (ad := ad) hg)
    exact lv_iinc hx hb hd (lvL_has hl) hk0 (v := x + v) (by rw [hv]) hn rfl (fun ls1 h1 => hnx _ _ _ _ h H locs ls1 hP hD hS (lvL_st1 (v := .int (x + v)) h1))
  | iadd =>
    have hn : n = pc + 1 := of_decide_eq_true hc
    subst hn
    rw [Nat.add_sub_cancel_left] at hd
    obtain ⟨x, y, r, rfl, h9⟩ := xs2_inv h
    have h := h9
    intro H locs ls hP hD hS hl
    exact lv_iadd hx hb hd (hnx _ _ _ _ h H locs ls hP hD hS hl)
  | isub =>
    have hn : n = pc + 1 := of_decide_eq_true hc
    subst hn
    rw [Nat.add_sub_cancel_left] at hd
    obtain ⟨x, y, r, rfl, h9⟩ := xs2_inv h
    have h := h9
    intro H locs ls hP hD hS hl
    exact lv_isub hx hb hd (hnx _ _ _ _ h H locs ls hP hD hS hl)
  | imul =>
    have hn : n = pc + 1 := of_decide_eq_true hc
    subst hn
    rw [Nat.add_sub_cancel_left] at hd
    obtain ⟨x, y, r, rfl, h9⟩ := xs2_inv h
    have h := h9
    intro H locs ls hP hD hS hl
    exact lv_imul hx hb hd (hnx _ _ _ _ h H locs ls hP hD hS hl)
  | iand =>
    have hn : n = pc + 1 := of_decide_eq_true hc
    subst hn
    rw [Nat.add_sub_cancel_left] at hd
    obtain ⟨x, y, r, rfl, h9⟩ := xs2_inv h
    have h := h9
    intro H locs ls hP hD hS hl
    exact lv_iand hx hb hd (hnx _ _ _ _ h H locs ls hP hD hS hl)
  | ior =>
    have hn : n = pc + 1 := of_decide_eq_true hc
    subst hn
    rw [Nat.add_sub_cancel_left] at hd
    obtain ⟨x, y, r, rfl, h9⟩ := xs2_inv h
    have h := h9
    intro H locs ls hP hD hS hl
    exact lv_ior hx hb hd (hnx _ _ _ _ h H locs ls hP hD hS hl)
  | ixor =>
    have hn : n = pc + 1 := of_decide_eq_true hc
    subst hn
    rw [Nat.add_sub_cancel_left] at hd
    obtain ⟨x, y, r, rfl, h9⟩ := xs2_inv h
    have h := h9
    intro H locs ls hP hD hS hl
    exact lv_ixor hx hb hd (hnx _ _ _ _ h H locs ls hP hD hS hl)
  | ishl =>
    have hn : n = pc + 1 := of_decide_eq_true hc
    subst hn
    rw [Nat.add_sub_cancel_left] at hd
    obtain ⟨x, y, r, rfl, h9⟩ := xs2_inv h
    have h := h9
    intro H locs ls hP hD hS hl
    exact lv_ishl hx hb hd (hnx _ _ _ _ h H locs ls hP hD hS hl)
  | ishr =>
    have hn : n = pc + 1 := of_decide_eq_true hc
    subst hn
    rw [Nat.add_sub_cancel_left] at hd
    obtain ⟨x, y, r, rfl, h9⟩ := xs2_inv h
    have h := h9
    intro H locs ls hP hD hS hl
    exact lv_ishr hx hb hd (hnx _ _ _ _ h H locs ls hP hD hS hl)
  | iushr =>
    have hn : n = pc + 1 := of_decide_eq_true hc
    subst hn
    rw [Nat.add_sub_cancel_left] at hd
    obtain ⟨x, y, r, rfl, h9⟩ := xs2_inv h
    have h := h9
    intro H locs ls hP hD hS hl
    exact lv_iushr hx hb hd rfl (hnx _ _ _ _ h H locs ls hP hD hS hl)
  | idiv =>
    have hn : n = pc + 1 := of_decide_eq_true hc
    subst hn
    rw [Nat.add_sub_cancel_left] at hd
    obtain ⟨x, y, r, rfl, hne, h9⟩ := xs2_inv h
    have h := h9
    intro H locs ls hP hD hS hl
    exact lv_idiv hx hb hd hne (hnx _ _ _ _ h H locs ls hP hD hS hl)
  | irem =>
    have hn : n = pc + 1 := of_decide_eq_true hc
    subst hn
    rw [Nat.add_sub_cancel_left] at hd
    obtain ⟨x, y, r, rfl, hne, h9⟩ := xs2_inv h
    have h := h9
    intro H locs ls hP hD hS hl
    exact lv_irem hx hb hd hne (hnx _ _ _ _ h H locs ls hP hD hS hl)
  | ineg =>
    have hn : n = pc + 1 := of_decide_eq_true hc
    subst hn
    rw [Nat.add_sub_cancel_left] at hd
    obtain ⟨x, r, rfl, h9⟩ := xs1_inv h
    have h := h9
    intro H locs ls hP hD hS hl
    exact lv_ineg hx hb hd (hnx _ _ _ _ h H locs ls hP hD hS hl)
  | ladd =>
    have hn : n = pc + 1 := of_decide_eq_true hc
    subst hn
    rw [Nat.add_sub_cancel_left] at hd
    obtain ⟨x, y, r, rfl, h9⟩ := xl2_inv h
    have h := h9
    intro H locs ls hP hD hS hl
    exact lv_ladd hx hb hd (hnx _ _ _ _ h H locs ls hP hD hS hl)
  | lsub =>
    have hn : n = pc + 1 := of_decide_eq_true hc
    subst hn
    rw [Nat.add_sub_cancel_left] at hd
    obtain ⟨x, y, r, rfl, h9⟩ := xl2_inv h
    have h := h9
    intro H locs ls hP hD hS hl
    exact lv_lsub hx hb hd (hnx _ _ _ _ h H locs ls hP hD hS hl)
  | lmul =>
    have hn : n = pc + 1 := of_decide_eq_true hc
    subst hn
    rw [Nat.add_sub_cancel_left] at hd
    obtain ⟨x, y, r, rfl, h9⟩ := xl2_inv h
    have h := h9
    intro H locs ls hP hD hS hl
    exact lv_lmul hx hb hd (hnx _ _ _ _ h H locs ls hP hD hS hl)
  | ldiv =>
    have hn : n = pc + 1 := of_decide_eq_true hc
    subst hn
    rw [Nat.add_sub_cancel_left] at hd
    obtain ⟨x, y, r, rfl, hne, h9⟩ := xl2_inv h
    have h := h9
    intro H locs ls hP hD hS hl
    exact lv_ldiv hx hb hd hne (hnx _ _ _ _ h H locs ls hP hD hS hl)
  | lrem =>
    have hn : n = pc + 1 := of_decide_eq_true hc
    subst hn
    rw [Nat.add_sub_cancel_left] at hd
    obtain ⟨x, y, r, rfl, hne, h9⟩ := xl2_inv h
    have h := h9
    intro H locs ls hP hD hS hl
    exact lv_lrem hx hb hd hne (hnx _ _ _ _ h H locs ls hP hD hS hl)
  | lcmp =>
    have hn : n = pc + 1 := of_decide_eq_true hc
    subst hn
    rw [Nat.add_sub_cancel_left] at hd
    obtain ⟨x, y, r, rfl, h9⟩ := xl2_inv h
    have h := h9
    intro H locs ls hP hD hS hl
    exact W.lcmp hx hb hd (hnx _ _ _ _ h H locs ls hP hD hS hl)
  | i2l =>
    have hn : n = pc + 1 := of_decide_eq_true hc
    subst hn
    rw [Nat.add_sub_cancel_left] at hd
    obtain ⟨x, r, rfl, h9⟩ := xs1_inv h
    have h := h9
    intro H locs ls hP hD hS hl
    exact lv_i2l hx hb hd rfl (hnx _ _ _ _ h H locs ls hP hD hS hl)
  | dup =>
    have hn : n = pc + 1 := of_decide_eq_true hc
    subst hn
    rw [Nat.add_sub_cancel_left] at hd
    have h : xdup st (fun r => nx (pc + 1) L r S) := h
    obtain ⟨x, r, rfl, hcat, h9⟩ := xdup_inv h
    have h := h9
    intro H locs ls hP hD hS hl
    exact lv_dup hx hb hd (by rw [tv_cat]; exact hcat) (hnx _ _ _ _ h H locs ls hP hD hS hl)
  | dup2 =>
    have hn : n = pc + 1 := of_decide_eq_true hc
    subst hn
    rw [Nat.add_sub_cancel_left] at hd
    obtain ⟨q, x, r, rfl, h9⟩ := xir_inv h
    have h := h9
    intro H locs ls hP hD hS hl
    exact lv_dup2_11 hx hb hd rfl rfl (hnx _ _ _ _ h H locs ls hP hD hS hl)
  | pop =>
    have hn : n = pc + 1 := of_decide_eq_true hc
    subst hn
    rw [Nat.add_sub_cancel_left] at hd
    obtain ⟨x, r, rfl, h9⟩ := xs1_inv h
    have h := h9
    intro H locs ls hP hD hS hl
    exact lv_pop hx hb hd rfl (hnx _ _ _ _ h H locs ls hP hD hS hl)
  | goto off =>
    obtain ⟨rfl, ht⟩ := of_decide_eq_true hc
    rw [Nat.add_sub_cancel_left] at hd
    intro H locs ls hP hD hS hl
    exact lv_goto hx hb hd ht (hnx _ _ _ _ h H locs ls hP hD hS hl)
  | ifCond cnd off =>
    obtain ⟨rfl, ht⟩ := of_decide_eq_true hc
    rw [Nat.add_sub_cancel_left] at hd
    cases cnd with
    | eq =>
      obtain ⟨x, r, rfl, h1, h2⟩ := xs1_inv h
      intro H locs ls hP hD hS hl
      exact lv_if_eq hx hb hd ht (fun q => hnx _ _ _ _ (h1 q) H locs ls hP hD hS hl) (fun q => hnx _ _ _ _ (h2 q) H locs ls hP hD hS hl)
    | ne =>
      obtain ⟨x, r, rfl, h1, h2⟩ := xs1_inv h
      intro H locs ls hP hD hS hl
      exact lv_if_ne hx hb hd ht (fun q => hnx _ _ _ _ (h2 q) H locs ls hP hD hS hl) (fun q => hnx _ _ _ _ (h1 q) H locs ls hP hD hS hl)
    | lt =>
      obtain ⟨x, r, rfl, h1, h2⟩ := xs1_inv h
      intro H locs ls hP hD hS hl
      exact lv_if_lt hx hb hd ht (fun q => hnx _ _ _ _ (h1 q) H locs ls hP hD hS hl) (fun q => hnx _ _ _ _ (h2 q) H locs ls hP hD hS hl)
    | ge =>
      obtain ⟨x, r, rfl, h1, h2⟩ := xs1_inv h
      intro H locs ls hP hD hS hl
      exact lv_if_ge hx hb hd ht (fun q => hnx _ _ _ _ (h1 q) H locs ls hP hD hS hl) (fun q => hnx _ _ _ _ (h2 q) H locs ls hP hD hS hl)
    | gt =>
      obtain ⟨x, r, rfl, h1, h2⟩ := xs1_inv h
      intro H locs ls hP hD hS hl
      exact lv_if_gt hx hb hd ht (fun q => hnx _ _ _ _ (h1 q) H locs ls hP hD hS hl) (fun q => hnx _ _ _ _ (h2 q) H locs ls hP hD hS hl)
    | le =>
      obtain ⟨x, r, rfl, h1, h2⟩ := xs1_inv h
      intro H locs ls hP hD hS hl
      exact lv_if_le hx hb hd ht (fun q => hnx _ _ _ _ (h1 q) H locs ls hP hD hS hl) (fun q => hnx _ _ _ _ (h2 q) H locs ls hP hD hS hl)
  | if_icmp cnd off =>
    obtain ⟨rfl, ht⟩ := of_decide_eq_true hc
    rw [Nat.add_sub_cancel_left] at hd
    cases cnd with
    | eq =>
      obtain ⟨x, y, r, rfl, h1, h2⟩ := xs2_inv h
      intro H locs ls hP hD hS hl
      exact lv_icmp_eq hx hb hd ht (fun q => hnx _ _ _ _ (h1 q) H locs ls hP hD hS hl) (fun q => hnx _ _ _ _ (h2 q) H locs ls hP hD hS hl)
    | ne =>
      obtain ⟨x, y, r, rfl, h1, h2⟩ := xs2_inv h
      intro H locs ls hP hD hS hl
      exact lv_icmp_ne hx hb hd ht (fun q => hnx _ _ _ _ (h2 q) H locs ls hP hD hS hl) (fun q => hnx _ _ _ _ (h1 q) H locs ls hP hD hS hl)
    | lt =>
      obtain ⟨x, y, r, rfl, h1, h2⟩ := xs2_inv h
      intro H locs ls hP hD hS hl
      exact lv_icmp_lt hx hb hd ht (fun q => hnx _ _ _ _ (h1 q) H locs ls hP hD hS hl) (fun q => hnx _ _ _ _ (h2 q) H locs ls hP hD hS hl)
    | ge =>
      obtain ⟨x, y, r, rfl, h1, h2⟩ := xs2_inv h
      intro H locs ls hP hD hS hl
      exact lv_icmp_ge hx hb hd ht (fun q => hnx _ _ _ _ (h1 q) H locs ls hP hD hS hl) (fun q => hnx _ _ _ _ (h2 q) H locs ls hP hD hS hl)
    | gt =>
      obtain ⟨x, y, r, rfl, h1, h2⟩ := xs2_inv h
      intro H locs ls hP hD hS hl
      exact lv_icmp_gt hx hb hd ht (fun q => hnx _ _ _ _ (h1 q) H locs ls hP hD hS hl) (fun q => hnx _ _ _ _ (h2 q) H locs ls hP hD hS hl)
    | le =>
      obtain ⟨x, y, r, rfl, h1, h2⟩ := xs2_inv h
      intro H locs ls hP hD hS hl
      exact lv_icmp_le hx hb hd ht (fun q => hnx _ _ _ _ (h1 q) H locs ls hP hD hS hl) (fun q => hnx _ _ _ _ (h2 q) H locs ls hP hD hS hl)
  | tableswitch dflt lo hi offs =>
    obtain ⟨hdf, hsz, h1, h2, rfl, hp⟩ := of_decide_eq_true hc
    obtain ⟨x, r, rfl, h9⟩ := xs1_inv h
    have h := h9
    have h := swx_fst h
    intro H locs ls hP hD hS hl
    rcases swf_table (x := x) hdf hsz h1 h2 hp with ⟨g1, g2⟩ | ⟨g1, g2, off, g3, g4⟩
    · rw [g2] at h
      exact lv_tableOut hx hb hd g1 hdf (hnx _ _ _ _ h H locs ls hP hD hS hl)
    · exact lv_tableIn hx hb hd g1 g2 g3 g4 (hnx _ _ _ _ h H locs ls hP hD hS hl)
  | lookupswitch dflt ps =>
    obtain ⟨hdf, hso, rfl, hp⟩ := of_decide_eq_true hc
    obtain ⟨x, r, rfl, h9⟩ := xs1_inv h
    have h := h9
    have h := swx_fst h
    intro H locs ls hP hD hS hl
    exact lv_lookup hx hb hd hso rfl (swf_look hdf _ hp) (hnx _ _ _ _ h H locs ls hP hD hS hl)
  | getfield x =>
    obtain ⟨rfl, hf⟩ := of_decide_eq_true hc
    rw [Nat.add_sub_cancel_left] at hd
    obtain ⟨q, r, rfl, h9⟩ := xr1_inv h
    have h := h9
    obtain ⟨C, T, N, hc1, hc2, hc3, hc4⟩ := fl_ok _ (List.mem_of_getElem? hf)
    intro H locs ls hP hD hS hl
    rcases xfld_inv h with ⟨hf1, h⟩ | ⟨t, hf1, h⟩
    · obtain ⟨ts, g1, g2⟩ := fld_inv hf1
      exact va_get hx hb hts (KOK hc1).1 hown hK hP q (wld_get g1) hc1 b hc2 (hts _ hc4) (fun z hz => hc3 ▸ hz) (cel_i g2) hd (hnx _ _ _ _ h H locs ls hP hD hS hl)
    · obtain ⟨ts, g1, g2⟩ := fld_inv hf1
      exact va_get hx hb hts (KOK hc1).1 hown hK hP q (wld_get g1) hc1 b hc2 (hts _ hc4) (fun z hz => hc3 ▸ hz) (cel_r g2) hd (hnx _ _ _ _ h H locs ls hP hD hS hl)
  | putfield x =>
    obtain ⟨hc, hpt⟩ := (Bool.and_eq_true _ _).mp hc
    obtain ⟨rfl, hf⟩ := of_decide_eq_true hc
    rw [Nat.add_sub_cancel_left] at hd
    obtain ⟨q, x, r, rfl, h9⟩ := xir_inv h
    have h := h9
    obtain ⟨C, T, N, hc1, hc2, hc3, hc4⟩ := fl_ok _ (List.mem_of_getElem? hf)
    obtain ⟨hp1, hp2⟩ := ptk_inv hpt hc1
    intro H locs ls hP hD hS hl
    rcases xfld_inv h with ⟨hf1, h⟩ | ⟨t, hf1, h⟩
    · obtain ⟨ts, g1, g2⟩ := fld_inv hf1
      obtain ⟨hb1, h9⟩ := xbo_inv h
      have h := h9
      obtain ⟨ty0, hty0⟩ := (KOK hc1).2.1
      exact va_put hx hb hts (KOK hc1).1 ty0 hty0 (KOK hc1).2.2 hown hK hP hD hS q (wld_get g1) hc1 b hc2 (hts _ hc4) (fun z hz => hc3 ▸ hz) hp1 hp2 (bo_narrow hb1) (bo_fits hb1) (cel_l g2) hd (fun H1 locs1 hP1 hD1 hS1 => hnx _ _ _ _ h H1 locs1 ls (by rw [← wld_set_of g1 (cel_set g2)]; exact hP1) (by rw [← wld_set_of g1 (cel_set g2)]; exact hD1) hS1 hl)
    · exact h.elim
  | iaload =>
    have hn : n = pc + 1 := of_decide_eq_true hc
    subst hn
    rw [Nat.add_sub_cancel_left] at hd
    obtain ⟨q, j, r, rfl, h9⟩ := xir_inv h
    have h := h9
    intro H locs ls hP hD hS hl
    rcases xlen_inv h with ⟨k, hk, hin, h⟩ | ⟨k, xs, hk, rfl, hin, h⟩
    · exact va_iald hx hb hK hP q 0 (wld_get (alen_inv hk)) rfl hin hd (hnx _ _ _ _ h H locs ls hP hD hS hl)
    · obtain ⟨g1, g2, g3⟩ := hsc k xs hk
      exact va_sld hx hb g1 g2 g3 hS hin hd (hnx _ _ _ _ h H locs ls hP hD hS hl)
  | iastore =>
    have hn : n = pc + 1 := of_decide_eq_true hc
    subst hn
    rw [Nat.add_sub_cancel_left] at hd
    obtain ⟨q, j, x, r, rfl, h9⟩ := xiir_inv h
    have h := h9
    intro H locs ls hP hD hS hl
    rcases xlen_inv h with ⟨k, hk, hin, h⟩ | ⟨k, xs, hk, h⟩
    · exact va_iast hx hb hK hP hD hS q 0 (wld_get (alen_inv hk)) rfl hin hd (fun H1 locs1 hP1 hD1 hS1 => hnx _ _ _ _ h H1 locs1 ls (by rw [← wld_set_of (alen_inv hk) rfl]; exact hP1) (by rw [← wld_set_of (alen_inv hk) rfl]; exact hD1) hS1 hl)
    · exact h.elim
  | arraylength =>
    have hn : n = pc + 1 := of_decide_eq_true hc
    subst hn
    rw [Nat.add_sub_cancel_left] at hd
    obtain ⟨q, r, rfl, h9⟩ := xr1_inv h
    have h := h9
    intro H locs ls hP hD hS hl
    rcases xlen_inv h with ⟨k, hk, h8⟩ | ⟨k, xs, hk, rfl, h8⟩
    · exact va_alen hx hb hK hP q 0 (wld_get (alen_inv hk)) rfl rfl hd (hnx _ _ _ _ h8 H locs ls hP hD hS hl)
    · obtain ⟨g1, g2, g3⟩ := hsc k xs hk
      exact va_slen hx hb g1 g2 g3 hS hd (hnx _ _ _ _ h8 H locs ls hP hD hS hl)
  | invokevirtual x =>
    obtain ⟨rfl, hlk, hin, hst, rfl, rfl, hf1, hf2⟩ := of_decide_eq_true hc
    rw [Nat.add_sub_cancel_left] at hd
    have h : xvir (tk (mA a + 1) [] st) (ciO (mO a)) (fun as r => OK a as S fun v S' => nx (pc + 3) L (rp v r) S') := h
    obtain ⟨q, as, r, htk, hcl, hsl, h9⟩ := xvir_inv h
    have h := h9
    intro H locs ls hP hD hS hl
    exact sim_call hx hb hml hown hts hK hA hR1 hR2 hR3 hR4 hnx hlk hin hf1 hf2 (Or.inl ⟨hst, q, as, rfl, hcl, hd⟩) (by rw [hst]; exact htk) hsl h H locs ls hP hD hS hl
  | invokestatic x =>
    obtain ⟨hc, hc2⟩ := (Bool.and_eq_true _ _).mp hc
    obtain ⟨rfl, hlk⟩ := of_decide_eq_true hc
    rw [Nat.add_sub_cancel_left] at hd
    match e', hc2, h with
    | 0, hc2, h =>
      obtain ⟨hin, hst, rfl, hf1, hf2⟩ := of_decide_eq_true hc2
      obtain ⟨as, r, htk, hsl, h9⟩ := xsta_inv h
      have h := h9
      intro H locs ls hP hD hS hl
      exact sim_call hx hb hml hown hts hK hA hR1 hR2 hR3 hR4 hnx hlk hin hf1 hf2 (Or.inr ⟨hst, hd⟩) (by rw [hst]; exact htk) hsl h H locs ls hP hD hS hl
    | 1, hc2, h =>
      obtain ⟨rfl, hf1, hf2⟩ := of_decide_eq_true hc2
      obtain ⟨x, r, rfl, h9⟩ := xs1_inv h
      have h := h9
      obtain ⟨hsl, h9⟩ := cnd_inv h
      have h := h9
      intro H locs ls hP hD hS hl
      have hcat := sle_cat (ad := ad) 4 r hsl
      exact va_mabs hx hb (hml.trans hl.2.1.symm) hown (hts _ (absW_l (cl_ok _ (List.mem_of_getElem? hlk)))) (hts _ absW_s) (hts _ mathW_i) (hts _ absW_c) (by omega) (by omega) hR3 hR4 hd (hnx _ _ _ _ h H locs ls hP hD hS hl)
    | 2, hc2, h =>
      obtain ⟨rfl, hf1, hf2⟩ := of_decide_eq_true hc2
      obtain ⟨x, y, r, rfl, h9⟩ := xs2_inv h
      have h := h9
      obtain ⟨hsl, h9⟩ := cnd_inv h
      have h := h9
      intro H locs ls hP hD hS hl
      have hcat := sle_cat (ad := ad) 4 r hsl
      exact va_mmax hx hb (hml.trans hl.2.1.symm) hown (hts _ (maxW_l (cl_ok _ (List.mem_of_getElem? hlk)))) (hts _ maxW_s) (hts _ mathW_i) (hts _ maxW_c) (by omega) (by omega) hR3 hR4 hd (hnx _ _ _ _ h H locs ls hP hD hS hl)
    | k + 3, hc2, h => cases hc2
  | ireturn =>
    obtain ⟨rfl, hr⟩ := of_decide_eq_true hc
    rw [Nat.add_sub_cancel_left] at hd
    obtain ⟨x, rfl, hb2, h9⟩ := xri_inv h
    have h := h9
    refine hri _ _ _ _ hd ?_ h
    rcases hr with ⟨-, h1⟩ | ⟨h0, h1⟩
    · exact Or.inl h1
    · exact Or.inr ⟨h1, hb2 (by omega)⟩
  | lreturn =>
    obtain ⟨rfl, hr⟩ := of_decide_eq_true hc
    rw [Nat.add_sub_cancel_left] at hd
    obtain ⟨x, rfl, h9⟩ := xrl_inv h
    have h := h9
    exact hrl _ _ _ _ hd hr h
  | return_ =>
    obtain ⟨rfl, hr⟩ := of_decide_eq_true hc
    rw [Nat.add_sub_cancel_left] at hd
    obtain ⟨rfl, h9⟩ := xrv_inv h
    have h := h9
    exact hrv _ _ _ hd hr h
  | _ =>
    exact h.elim
end SIM4
end
section
/-! THE PURE MACHINE STANDS FOR THE MACHINE: a method -/
def chkAll (M : Nat) (cd : Nat → Option PO) : Prop := ∀ pc o, cd pc = some o → chk M pc o = true
theorem chk_of {M n : Nat} {f : Nat → Option PO} (h : ((List.range n).all fun pc => match f pc with
    | none => true
    | some o => chk M pc o) = true) : chkAll M (cdg n f) := by
  intro pc o ho
  unfold cdg at ho
  cases hb : Nat.blt pc n with
  | false => rw [hb] at ho; cases ho
  | true =>
    rw [hb] at ho
    have hlt : pc < n := Nat.le_of_ble_eq_true hb
    have := List.all_eq_true.mp h pc (List.mem_range.mpr hlt)
    have ho : f pc = some o := ho
    rw [ho] at this
    exact this
/-- what a method's body knows of the machine -/
def Cx (M : Nat) (p : Program) (s : State) (m : MethodId) (args : Array Value) (meth : Method) (c : Code) : Prop :=
  p.tables.exec = Jvm.exec ∧ c.code = mB M ∧ c.maxLocals = mL M ∧ s.vm.findClass (cN (mO M)) = some m.cls ∧ (∀ w ∈ Wt, w.before args s = true) ∧ meth.sig.returnType = mR M ∧ meth.locks = false
/-- AT A PLACE of a method, with these locals, stack and memory: it returns so that Q -/
def Tm (M : Nat) (Q : Pst) (pc : Nat) (L : Lcs) (st : List Value) (S : Mem) : Prop :=
  ∀ (p : Program) (l : Launch) (e : Env) (R : Room) (s : State) (m : MethodId) (args : Array Value) (below : List Frame) (meth : Method) (c : Code) (dC : Nat → ClassId) (dI : Nat → Nat → Nat) (cA : ClassId) (ad : Nat → Nat) (A : Nat → Prop),
    Cx M p s m args meth c → va_K (dC, dI) vwCl [(cA, .int)] s → (∀ q, s.heap.size ≤ q → A q) → mF M ≤ R.frames → mQ M ≤ R.locals →
    Wd p l e R s m args below meth c 0 0 (MQ below (QX (mR M) Q (BX dC dI cA ad A) A) args s 0 0 A) dC dI cA ad A (mL M) pc L st S
theorem QX_i {M : Nat} {Q : Pst} {B : Mem → State → Prop} {A : Nat → Prop} {args : Array Value} {s t : State} {x : Int32} {S : Mem} (hr : mR M = some .int ∨ mR M = some .boolean) (h : Q (some (.int x)) S) (hB : B S t) (hF : va_F A s t) : QX (mR M) Q B A args s (.returned (some (.int x))) t := by
  rcases hr with hr | hr <;> rw [hr] <;> exact ⟨⟨x, S, rfl, h, hB⟩, hF⟩
theorem QX_l {M : Nat} {Q : Pst} {B : Mem → State → Prop} {A : Nat → Prop} {args : Array Value} {s t : State} {x : Int64} {S : Mem} (hr : mR M = some .long) (h : Q (some (.long x)) S) (hB : B S t) (hF : va_F A s t) : QX (mR M) Q B A args s (.returned (some (.long x))) t := by
  rw [hr]; exact ⟨⟨x, S, rfl, h, hB⟩, hF⟩
theorem QX_v {M : Nat} {Q : Pst} {B : Mem → State → Prop} {A : Nat → Prop} {args : Array Value} {s t : State} {S : Mem} (hr : mR M = none) (h : Q none S) (hB : B S t) (hF : va_F A s t) : QX (mR M) Q B A args s (.returned none) t := by
  rw [hr]; exact ⟨⟨S, rfl, h, hB⟩, hF⟩
/-- one instruction of a method's code, and then K -/
def exec1 (C : Cst) (cd : Nat → Option PO) (Q : Pst) (K : Nat → Lcs → List Value → Mem → Prop) (pc : Nat) (L : Lcs) (st : List Value) (S : Mem) : Prop := match cd pc with
  | none => False
  | some o => exec C none o L st S Q K
set_option maxHeartbeats 4000000 in
theorem T_go {M : Nat} {cd : Nat → Option PO} (hcd : chkAll M cd) {Q : Pst} {K : Nat → Lcs → List Value → Mem → Prop} (hKT : ∀ pc L st S, K pc L st S → Tm M Q pc L st S) {pc : Nat} {L : Lcs} {st : List Value} {S : Mem} (h : exec1 OK cd Q K pc L st S) : Tm M Q pc L st S := by
  intro p l e R s m args below meth c dC dI cA ad A hCx hK hA hR1 hR2
  unfold exec1 at h
  cases hc : cd pc with
  | none => rw [hc] at h; exact h.elim
  | some o =>
    rw [hc] at h
    obtain ⟨hx, hb, hml, hown, hts, hret, hlk⟩ := hCx
    refine sim1 (M := M) hx hb hml hown hts hK hA hR1 hR2 (Nat.zero_le _) (Nat.zero_le _) (fun n xs q => by cases q) ?_ ?_ ?_ ?_ (hcd pc o hc) h
    · intro pc L S x hd hr hQ H locs ls hP hD hS hl
      rcases hr with hr | ⟨hr, h01⟩
      · exact W.iret hx hb (hret.trans hr) (fun t ht hW => QX_i (Or.inl hr) hQ ⟨by rw [ht]; exact hP, va_K.moved hW.alike hK, hD⟩ (hS.F ht)) hS.2.2 hd (hlocks := hlk)
      · exact W.zret hx hb (hret.trans hr) (by rcases h01 with rfl | rfl <;> rfl) (fun t ht hW => QX_i (Or.inr hr) hQ ⟨by rw [ht]; exact hP, va_K.moved hW.alike hK, hD⟩ (hS.F ht)) hS.2.2 hd (hlocks := hlk)
    · intro pc L S x hd hr hQ H locs ls hP hD hS hl
      exact W.lret hx hb (hret.trans hr) (fun t ht hW => QX_l hr hQ ⟨by rw [ht]; exact hP, va_K.moved hW.alike hK, hD⟩ (hS.F ht)) hS.2.2 hd (hlocks := hlk)
    · intro pc L S hd hr hQ H locs ls hP hD hS hl
      exact W.vret hx hb (hret.trans hr) (fun t ht hW => QX_v hr hQ ⟨by rw [ht]; exact hP, va_K.moved hW.alike hK, hD⟩ (hS.F ht)) hS.2.2 hd (hlocks := hlk)
    · intro pc L st S hs
      exact hKT pc L st S hs p l e R s m args below meth c dC dI cA ad A ⟨hx, hb, hml, hown, hts, hret, hlk⟩ hK hA hR1 hR2
set_option maxHeartbeats 4000000 in
theorem OK_go {M : Nat} {as : List Value} {S : Mem} {Q : Pst} (hM : M ∈ mks) (hn : (entL as).length ≤ mL M) (h : Tm M Q 0 (ent (mL M) as) [] S) : OK M as S Q := by
  intro l dC dI cA ad sz
  obtain ⟨hcode, hkw, hini, hsel, hcls, hpl, hpd⟩ := mo_ok M hM
  refine Met.ofW (cc := mB M) (maxL := mL M) (ret := mR M) hpl.2 rfl ?_
  intro p e s m args below meth c s₁ B hml hv
  obtain ⟨rfl, hsz, hP, hK, hD0⟩ := hv
  have hts := atoms_spec (ws := mW M) B.pre
  have hown : s.vm.findClass (mY M).cls = some m.cls := findClass_of_methodNamed B.named
  subst hsz
  have hl := lvL_ent (ad := ad) hn
  rw [lg_entry_eq]
  exact h p l e _ s m _ below meth c dC dI cA ad _ ⟨B.exec, B.bytes, hml, by rw [← hcls]; exact hown, fun w hw => hts w (List.mem_cons_of_mem _ hw), B.returns, B.notSynchronized⟩ hK (fun q hq => Or.inr hq) (Nat.le_refl _) (Nat.le_refl _) s.heap [] _ hP hD0.self va_S.rf hl
/-- THE TWO RULES, over any relation that has them: what is proved of methods below rests on these alone -/
def Rules (C : Cst) (T : Nat → Pst → Nat → Lcs → List Value → Mem → Prop) : Prop :=
  (∀ (M : Nat) (cd : Nat → Option PO), chkAll M cd → ∀ (Q : Pst) (K : Nat → Lcs → List Value → Mem → Prop), (∀ pc L st S, K pc L st S → T M Q pc L st S) → ∀ (pc : Nat) (L : Lcs) (st : List Value) (S : Mem), exec1 C cd Q K pc L st S → T M Q pc L st S) ∧
  ∀ (M : Nat) (as : List Value) (S : Mem) (Q : Pst), M ∈ mks → (entL as).length ≤ mL M → T M Q 0 (ent (mL M) as) [] S → C M as S Q
theorem rules_hold : Rules OK Tm := ⟨fun _ _ hcd _ _ hK _ _ _ _ h => T_go hcd hK h, fun _ _ _ _ hM hn h => OK_go hM hn h⟩
end
section
def kX0_forget : Nat → Option PO := cdg 21 (fun pc => cond (Nat.blt pc 10) (cond (Nat.blt pc 5) (cond (Nat.blt pc 1) (cond (Nat.beq pc 0) (some (.aload_n 0, 1, 0, 0, 0, 0, 0, [])) none) (cond (Nat.blt pc 2) (cond (Nat.beq pc 1) (some (.iconst 0, 2, 0, 0, 0, 0, 0, [])) none) (cond (Nat.beq pc 2) (some (.putfield 7, 5, 0, 0, 12, 1, 0, [])) none))) (cond (Nat.blt pc 6) (cond (Nat.beq pc 5) (some (.aload_n 0, 6, 0, 0, 0, 0, 0, [])) none) (cond (Nat.blt pc 7) (cond (Nat.beq pc 6) (some (.iconst 0, 7, 0, 0, 0, 0, 0, [])) none) (cond (Nat.beq pc 7) (some (.putfield 13, 10, 0, 1, 13, 0, 0, [])) none)))) (cond (Nat.blt pc 15) (cond (Nat.blt pc 11) (cond (Nat.beq pc 10) (some (.aload_n 0, 11, 0, 0, 0, 0, 0, [])) none) (cond (Nat.blt pc 12) (cond (Nat.beq pc 11) (some (.iconst 0, 12, 0, 0, 0, 0, 0, [])) none) (cond (Nat.beq pc 12) (some (.putfield 17, 15, 0, 2, 14, 0, 0, [])) none))) (cond (Nat.blt pc 17) (cond (Nat.blt pc 16) (cond (Nat.beq pc 15) (some (.aload_n 0, 16, 0, 0, 0, 0, 0, [])) none) (cond (Nat.beq pc 16) (some (.iconst 0, 17, 0, 0, 0, 0, 0, [])) none)) (cond (Nat.blt pc 20) (cond (Nat.beq pc 17) (some (.putfield 20, 20, 0, 3, 15, 0, 0, [])) none) (cond (Nat.beq pc 20) (some (.return_, 21, 0, 0, 0, 0, 0, [])) none)))))
set_option maxRecDepth 100000 in
theorem okX0_forget : chkAll mX0_forget kX0_forget := chk_of (by decide +kernel)
def kX0_offer : Nat → Option PO := cdg 64 (fun pc => cond (Nat.blt pc 32) (cond (Nat.blt pc 16) (cond (Nat.blt pc 8) (cond (Nat.blt pc 2) (cond (Nat.blt pc 1) (cond (Nat.beq pc 0) (some (.iload_n 2, 1, 2, 0, 0, 0, 0, [])) none) (cond (Nat.beq pc 1) (some (.aload_n 0, 2, 0, 0, 0, 0, 0, [])) none)) (cond (Nat.blt pc 5) (cond (Nat.beq pc 2) (some (.getfield 17, 5, 0, 2, 14, 0, 0, [])) none) (cond (Nat.beq pc 5) (some (.if_icmp .gt 19, 8, 24, 0, 0, 0, 0, [])) none))) (cond (Nat.blt pc 10) (cond (Nat.blt pc 9) (cond (Nat.beq pc 8) (some (.iload_n 2, 9, 2, 0, 0, 0, 0, [])) none) (cond (Nat.beq pc 9) (some (.aload_n 0, 10, 0, 0, 0, 0, 0, [])) none)) (cond (Nat.blt pc 13) (cond (Nat.beq pc 10) (some (.getfield 17, 13, 0, 2, 14, 0, 0, [])) none) (cond (Nat.beq pc 13) (some (.if_icmp .ne 15, 16, 28, 0, 0, 0, 0, [])) none)))) (cond (Nat.blt pc 24) (cond (Nat.blt pc 18) (cond (Nat.blt pc 17) (cond (Nat.beq pc 16) (some (.iload_n 3, 17, 3, 0, 0, 0, 0, [])) none) (cond (Nat.beq pc 17) (some (.aload_n 0, 18, 0, 0, 0, 0, 0, [])) none)) (cond (Nat.blt pc 21) (cond (Nat.beq pc 18) (some (.getfield 20, 21, 0, 3, 15, 0, 0, [])) none) (cond (Nat.beq pc 21) (some (.if_icmp .ge 7, 24, 28, 0, 0, 0, 0, [])) none))) (cond (Nat.blt pc 28) (cond (Nat.blt pc 25) (cond (Nat.beq pc 24) (some (.iconst 1, 25, 0, 0, 0, 0, 1, [])) none) (cond (Nat.beq pc 25) (some (.goto 4, 28, 29, 0, 0, 0, 0, [])) none)) (cond (Nat.blt pc 29) (cond (Nat.beq pc 28) (some (.iconst 0, 29, 0, 0, 0, 0, 0, [])) none) (cond (Nat.blt pc 31) (cond (Nat.beq pc 29) (some (.istore 4, 31, 4, 0, 0, 0, 0, [])) none) (cond (Nat.beq pc 31) (some (.aload_n 0, 32, 0, 0, 0, 0, 0, [])) none)))))) (cond (Nat.blt pc 49) (cond (Nat.blt pc 43) (cond (Nat.blt pc 38) (cond (Nat.blt pc 35) (cond (Nat.beq pc 32) (some (.getfield 7, 35, 0, 0, 12, 0, 0, [])) none) (cond (Nat.beq pc 35) (some (.ifCond .eq 8, 38, 43, 0, 0, 0, 0, [])) none)) (cond (Nat.blt pc 40) (cond (Nat.beq pc 38) (some (.iload 4, 40, 4, 0, 0, 0, 0, [])) none) (cond (Nat.beq pc 40) (some (.ifCond .eq 23, 43, 63, 0, 0, 0, 0, [])) none))) (cond (Nat.blt pc 45) (cond (Nat.blt pc 44) (cond (Nat.beq pc 43) (some (.aload_n 0, 44, 0, 0, 0, 0, 0, [])) none) (cond (Nat.beq pc 44) (some (.iconst 1, 45, 0, 0, 0, 0, 1, [])) none)) (cond (Nat.blt pc 48) (cond (Nat.beq pc 45) (some (.putfield 7, 48, 0, 0, 12, 1, 0, [])) none) (cond (Nat.beq pc 48) (some (.aload_n 0, 49, 0, 0, 0, 0, 0, [])) none)))) (cond (Nat.blt pc 55) (cond (Nat.blt pc 53) (cond (Nat.blt pc 50) (cond (Nat.beq pc 49) (some (.iload_n 1, 50, 1, 0, 0, 0, 0, [])) none) (cond (Nat.beq pc 50) (some (.putfield 13, 53, 0, 1, 13, 0, 0, [])) none)) (cond (Nat.blt pc 54) (cond (Nat.beq pc 53) (some (.aload_n 0, 54, 0, 0, 0, 0, 0, [])) none) (cond (Nat.beq pc 54) (some (.iload_n 2, 55, 2, 0, 0, 0, 0, [])) none))) (cond (Nat.blt pc 59) (cond (Nat.blt pc 58) (cond (Nat.beq pc 55) (some (.putfield 17, 58, 0, 2, 14, 0, 0, [])) none) (cond (Nat.beq pc 58) (some (.aload_n 0, 59, 0, 0, 0, 0, 0, [])) none)) (cond (Nat.blt pc 60) (cond (Nat.beq pc 59) (some (.iload_n 3, 60, 3, 0, 0, 0, 0, [])) none) (cond (Nat.blt pc 63) (cond (Nat.beq pc 60) (some (.putfield 20, 63, 0, 3, 15, 0, 0, [])) none) (cond (Nat.beq pc 63) (some (.return_, 64, 0, 0, 0, 0, 0, [])) none)))))))
set_option maxRecDepth 100000 in
theorem okX0_offer : chkAll mX0_offer kX0_offer := chk_of (by decide +kernel)
def kX0_answer : Nat → Option PO := cdg 43 (fun pc => cond (Nat.blt pc 33) (cond (Nat.blt pc 28) (cond (Nat.blt pc 1) (cond (Nat.beq pc 0) (some (.iload_n 1, 1, 1, 0, 0, 0, 0, [])) none) (cond (Nat.beq pc 1) (some (.lookupswitch 37 #[(0, 27), (1, 32)], 28, 38, 0, 0, 0, 0, [(0, 28), (1, 33)])) none)) (cond (Nat.blt pc 29) (cond (Nat.beq pc 28) (some (.aload_n 0, 29, 0, 0, 0, 0, 0, [])) none) (cond (Nat.blt pc 32) (cond (Nat.beq pc 29) (some (.getfield 13, 32, 0, 1, 13, 0, 0, [])) none) (cond (Nat.beq pc 32) (some (.ireturn, 33, 0, 0, 0, 0, 0, [])) none)))) (cond (Nat.blt pc 38) (cond (Nat.blt pc 34) (cond (Nat.beq pc 33) (some (.aload_n 0, 34, 0, 0, 0, 0, 0, [])) none) (cond (Nat.blt pc 37) (cond (Nat.beq pc 34) (some (.getfield 17, 37, 0, 2, 14, 0, 0, [])) none) (cond (Nat.beq pc 37) (some (.ireturn, 38, 0, 0, 0, 0, 0, [])) none))) (cond (Nat.blt pc 39) (cond (Nat.beq pc 38) (some (.aload_n 0, 39, 0, 0, 0, 0, 0, [])) none) (cond (Nat.blt pc 42) (cond (Nat.beq pc 39) (some (.getfield 20, 42, 0, 3, 15, 0, 0, [])) none) (cond (Nat.beq pc 42) (some (.ireturn, 43, 0, 0, 0, 0, 0, [])) none)))))
set_option maxRecDepth 100000 in
theorem okX0_answer : chkAll mX0_answer kX0_answer := chk_of (by decide +kernel)
def kX1_become : Nat → Option PO := cdg 122 (fun pc => cond (Nat.blt pc 63) (cond (Nat.blt pc 34) (cond (Nat.blt pc 17) (cond (Nat.blt pc 8) (cond (Nat.blt pc 2) (cond (Nat.blt pc 1) (cond (Nat.beq pc 0) (some (.aload_n 0, 1, 0, 0, 0, 0, 0, [])) none) (cond (Nat.beq pc 1) (some (.aload_n 1, 2, 1, 0, 0, 0, 0, [])) none)) (cond (Nat.blt pc 5) (cond (Nat.beq pc 2) (some (.getfield 7, 5, 1, 0, 0, 0, 0, [])) none) (cond (Nat.beq pc 5) (some (.putfield 7, 8, 1, 0, 0, 0, 0, [])) none))) (cond (Nat.blt pc 10) (cond (Nat.blt pc 9) (cond (Nat.beq pc 8) (some (.aload_n 0, 9, 0, 0, 0, 0, 0, [])) none) (cond (Nat.beq pc 9) (some (.aload_n 1, 10, 1, 0, 0, 0, 0, [])) none)) (cond (Nat.blt pc 13) (cond (Nat.beq pc 10) (some (.getfield 13, 13, 1, 1, 1, 0, 0, [])) none) (cond (Nat.blt pc 16) (cond (Nat.beq pc 13) (some (.putfield 13, 16, 1, 1, 1, 0, 0, [])) none) (cond (Nat.beq pc 16) (some (.aload_n 0, 17, 0, 0, 0, 0, 0, [])) none))))) (cond (Nat.blt pc 25) (cond (Nat.blt pc 21) (cond (Nat.blt pc 18) (cond (Nat.beq pc 17) (some (.aload_n 1, 18, 1, 0, 0, 0, 0, [])) none) (cond (Nat.beq pc 18) (some (.getfield 16, 21, 1, 2, 2, 0, 0, [])) none)) (cond (Nat.blt pc 24) (cond (Nat.beq pc 21) (some (.putfield 16, 24, 1, 2, 2, 0, 0, [])) none) (cond (Nat.beq pc 24) (some (.aload_n 0, 25, 0, 0, 0, 0, 0, [])) none))) (cond (Nat.blt pc 29) (cond (Nat.blt pc 26) (cond (Nat.beq pc 25) (some (.iconst 0, 26, 0, 0, 0, 0, 0, [])) none) (cond (Nat.beq pc 26) (some (.putfield 19, 29, 1, 3, 3, 0, 0, [])) none)) (cond (Nat.blt pc 30) (cond (Nat.beq pc 29) (some (.aload_n 0, 30, 0, 0, 0, 0, 0, [])) none) (cond (Nat.blt pc 31) (cond (Nat.beq pc 30) (some (.iconst 0, 31, 0, 0, 0, 0, 0, [])) none) (cond (Nat.beq pc 31) (some (.putfield 22, 34, 1, 4, 4, 0, 0, [])) none)))))) (cond (Nat.blt pc 48) (cond (Nat.blt pc 39) (cond (Nat.blt pc 36) (cond (Nat.blt pc 35) (cond (Nat.beq pc 34) (some (.iconst 0, 35, 0, 0, 0, 0, 0, [])) none) (cond (Nat.beq pc 35) (some (.istore_n 2, 36, 2, 0, 0, 0, 0, [])) none)) (cond (Nat.blt pc 37) (cond (Nat.beq pc 36) (some (.iload_n 2, 37, 2, 0, 0, 0, 0, [])) none) (cond (Nat.beq pc 37) (some (.bipush 8, 39, 0, 0, 0, 0, 8, [])) none))) (cond (Nat.blt pc 43) (cond (Nat.blt pc 42) (cond (Nat.beq pc 39) (some (.if_icmp .ge 33, 42, 72, 0, 0, 0, 0, [])) none) (cond (Nat.beq pc 42) (some (.aload_n 0, 43, 0, 0, 0, 0, 0, [])) none)) (cond (Nat.blt pc 46) (cond (Nat.beq pc 43) (some (.getfield 25, 46, 1, 5, 5, 0, 0, [])) none) (cond (Nat.blt pc 47) (cond (Nat.beq pc 46) (some (.iload_n 2, 47, 2, 0, 0, 0, 0, [])) none) (cond (Nat.beq pc 47) (some (.aload_n 1, 48, 1, 0, 0, 0, 0, [])) none))))) (cond (Nat.blt pc 54) (cond (Nat.blt pc 52) (cond (Nat.blt pc 51) (cond (Nat.beq pc 48) (some (.getfield 25, 51, 1, 5, 5, 0, 0, [])) none) (cond (Nat.beq pc 51) (some (.iload_n 2, 52, 2, 0, 0, 0, 0, [])) none)) (cond (Nat.blt pc 53) (cond (Nat.beq pc 52) (some (.iaload, 53, 0, 0, 0, 0, 0, [])) none) (cond (Nat.beq pc 53) (some (.iastore, 54, 0, 0, 0, 0, 0, [])) none))) (cond (Nat.blt pc 58) (cond (Nat.blt pc 55) (cond (Nat.beq pc 54) (some (.aload_n 0, 55, 0, 0, 0, 0, 0, [])) none) (cond (Nat.beq pc 55) (some (.getfield 29, 58, 1, 6, 6, 0, 0, [])) none)) (cond (Nat.blt pc 59) (cond (Nat.beq pc 58) (some (.iload_n 2, 59, 2, 0, 0, 0, 0, [])) none) (cond (Nat.blt pc 60) (cond (Nat.beq pc 59) (some (.aload_n 1, 60, 1, 0, 0, 0, 0, [])) none) (cond (Nat.beq pc 60) (some (.getfield 29, 63, 1, 6, 6, 0, 0, [])) none))))))) (cond (Nat.blt pc 91) (cond (Nat.blt pc 76) (cond (Nat.blt pc 69) (cond (Nat.blt pc 65) (cond (Nat.blt pc 64) (cond (Nat.beq pc 63) (some (.iload_n 2, 64, 2, 0, 0, 0, 0, [])) none) (cond (Nat.beq pc 64) (some (.iaload, 65, 0, 0, 0, 0, 0, [])) none)) (cond (Nat.blt pc 66) (cond (Nat.beq pc 65) (some (.iastore, 66, 0, 0, 0, 0, 0, [])) none) (cond (Nat.beq pc 66) (some (.iinc 2 1, 69, 2, 0, 0, 0, 1, [])) none))) (cond (Nat.blt pc 73) (cond (Nat.blt pc 72) (cond (Nat.beq pc 69) (some (.goto (-33), 72, 36, 0, 0, 0, 0, [])) none) (cond (Nat.beq pc 72) (some (.iconst 0, 73, 0, 0, 0, 0, 0, [])) none)) (cond (Nat.blt pc 74) (cond (Nat.beq pc 73) (some (.istore_n 2, 74, 2, 0, 0, 0, 0, [])) none) (cond (Nat.blt pc 75) (cond (Nat.beq pc 74) (some (.iload_n 2, 75, 2, 0, 0, 0, 0, [])) none) (cond (Nat.beq pc 75) (some (.iconst 2, 76, 0, 0, 0, 0, 2, [])) none))))) (cond (Nat.blt pc 84) (cond (Nat.blt pc 80) (cond (Nat.blt pc 79) (cond (Nat.beq pc 76) (some (.if_icmp .ge 45, 79, 121, 0, 0, 0, 0, [])) none) (cond (Nat.beq pc 79) (some (.aload_n 0, 80, 0, 0, 0, 0, 0, [])) none)) (cond (Nat.blt pc 83) (cond (Nat.beq pc 80) (some (.getfield 32, 83, 1, 7, 7, 0, 0, [])) none) (cond (Nat.beq pc 83) (some (.iload_n 2, 84, 2, 0, 0, 0, 0, [])) none))) (cond (Nat.blt pc 88) (cond (Nat.blt pc 85) (cond (Nat.beq pc 84) (some (.aload_n 1, 85, 1, 0, 0, 0, 0, [])) none) (cond (Nat.beq pc 85) (some (.getfield 32, 88, 1, 7, 7, 0, 0, [])) none)) (cond (Nat.blt pc 89) (cond (Nat.beq pc 88) (some (.iload_n 2, 89, 2, 0, 0, 0, 0, [])) none) (cond (Nat.blt pc 90) (cond (Nat.beq pc 89) (some (.iaload, 90, 0, 0, 0, 0, 0, [])) none) (cond (Nat.beq pc 90) (some (.iastore, 91, 0, 0, 0, 0, 0, [])) none)))))) (cond (Nat.blt pc 104) (cond (Nat.blt pc 97) (cond (Nat.blt pc 95) (cond (Nat.blt pc 92) (cond (Nat.beq pc 91) (some (.aload_n 0, 92, 0, 0, 0, 0, 0, [])) none) (cond (Nat.beq pc 92) (some (.getfield 35, 95, 1, 8, 8, 0, 0, [])) none)) (cond (Nat.blt pc 96) (cond (Nat.beq pc 95) (some (.iload_n 2, 96, 2, 0, 0, 0, 0, [])) none) (cond (Nat.beq pc 96) (some (.aload_n 1, 97, 1, 0, 0, 0, 0, [])) none))) (cond (Nat.blt pc 101) (cond (Nat.blt pc 100) (cond (Nat.beq pc 97) (some (.getfield 35, 100, 1, 8, 8, 0, 0, [])) none) (cond (Nat.beq pc 100) (some (.iload_n 2, 101, 2, 0, 0, 0, 0, [])) none)) (cond (Nat.blt pc 102) (cond (Nat.beq pc 101) (some (.iaload, 102, 0, 0, 0, 0, 0, [])) none) (cond (Nat.blt pc 103) (cond (Nat.beq pc 102) (some (.iastore, 103, 0, 0, 0, 0, 0, [])) none) (cond (Nat.beq pc 103) (some (.aload_n 0, 104, 0, 0, 0, 0, 0, [])) none))))) (cond (Nat.blt pc 113) (cond (Nat.blt pc 108) (cond (Nat.blt pc 107) (cond (Nat.beq pc 104) (some (.getfield 38, 107, 1, 9, 9, 0, 0, [])) none) (cond (Nat.beq pc 107) (some (.iload_n 2, 108, 2, 0, 0, 0, 0, [])) none)) (cond (Nat.blt pc 109) (cond (Nat.beq pc 108) (some (.aload_n 1, 109, 1, 0, 0, 0, 0, [])) none) (cond (Nat.blt pc 112) (cond (Nat.beq pc 109) (some (.getfield 38, 112, 1, 9, 9, 0, 0, [])) none) (cond (Nat.beq pc 112) (some (.iload_n 2, 113, 2, 0, 0, 0, 0, [])) none)))) (cond (Nat.blt pc 115) (cond (Nat.blt pc 114) (cond (Nat.beq pc 113) (some (.iaload, 114, 0, 0, 0, 0, 0, [])) none) (cond (Nat.beq pc 114) (some (.iastore, 115, 0, 0, 0, 0, 0, [])) none)) (cond (Nat.blt pc 118) (cond (Nat.beq pc 115) (some (.iinc 2 1, 118, 2, 0, 0, 0, 1, [])) none) (cond (Nat.blt pc 121) (cond (Nat.beq pc 118) (some (.goto (-44), 121, 74, 0, 0, 0, 0, [])) none) (cond (Nat.beq pc 121) (some (.return_, 122, 0, 0, 0, 0, 0, [])) none))))))))
set_option maxRecDepth 100000 in
theorem okX1_become : chkAll mX1_become kX1_become := chk_of (by decide +kernel)
def kX1_rooms : Nat → Option PO := cdg 5 (fun pc => cond (Nat.blt pc 1) (cond (Nat.beq pc 0) (some (.aload_n 0, 1, 0, 0, 0, 0, 0, [])) none) (cond (Nat.blt pc 4) (cond (Nat.beq pc 1) (some (.getfield 7, 4, 1, 0, 0, 0, 0, [])) none) (cond (Nat.beq pc 4) (some (.ireturn, 5, 0, 0, 0, 0, 0, [])) none)))
set_option maxRecDepth 100000 in
theorem okX1_rooms : chkAll mX1_rooms kX1_rooms := chk_of (by decide +kernel)
def kX1_hasRoom : Nat → Option PO := cdg 24 (fun pc => cond (Nat.blt pc 12) (cond (Nat.blt pc 5) (cond (Nat.blt pc 1) (cond (Nat.beq pc 0) (some (.iload_n 1, 1, 1, 0, 0, 0, 0, [])) none) (cond (Nat.blt pc 4) (cond (Nat.beq pc 1) (some (.ifCond .lt 21, 4, 22, 0, 0, 0, 0, [])) none) (cond (Nat.beq pc 4) (some (.iload_n 1, 5, 1, 0, 0, 0, 0, [])) none))) (cond (Nat.blt pc 6) (cond (Nat.beq pc 5) (some (.aload_n 0, 6, 0, 0, 0, 0, 0, [])) none) (cond (Nat.blt pc 9) (cond (Nat.beq pc 6) (some (.getfield 7, 9, 1, 0, 0, 0, 0, [])) none) (cond (Nat.beq pc 9) (some (.if_icmp .ge 13, 12, 22, 0, 0, 0, 0, [])) none)))) (cond (Nat.blt pc 18) (cond (Nat.blt pc 13) (cond (Nat.beq pc 12) (some (.iload_n 1, 13, 1, 0, 0, 0, 0, [])) none) (cond (Nat.blt pc 15) (cond (Nat.beq pc 13) (some (.bipush 8, 15, 0, 0, 0, 0, 8, [])) none) (cond (Nat.beq pc 15) (some (.if_icmp .ge 7, 18, 22, 0, 0, 0, 0, [])) none))) (cond (Nat.blt pc 22) (cond (Nat.blt pc 19) (cond (Nat.beq pc 18) (some (.iconst 1, 19, 0, 0, 0, 0, 1, [])) none) (cond (Nat.beq pc 19) (some (.goto 4, 22, 23, 0, 0, 0, 0, [])) none)) (cond (Nat.blt pc 23) (cond (Nat.beq pc 22) (some (.iconst 0, 23, 0, 0, 0, 0, 0, [])) none) (cond (Nat.beq pc 23) (some (.ireturn, 24, 1, 0, 0, 0, 0, [])) none)))))
set_option maxRecDepth 100000 in
theorem okX1_hasRoom : chkAll mX1_hasRoom kX1_hasRoom := chk_of (by decide +kernel)
def kX1_addRoom : Nat → Option PO := cdg 50 (fun pc => cond (Nat.blt pc 27) (cond (Nat.blt pc 16) (cond (Nat.blt pc 7) (cond (Nat.blt pc 1) (cond (Nat.beq pc 0) (some (.aload_n 0, 1, 0, 0, 0, 0, 0, [])) none) (cond (Nat.blt pc 4) (cond (Nat.beq pc 1) (some (.getfield 7, 4, 1, 0, 0, 0, 0, [])) none) (cond (Nat.beq pc 4) (some (.ifCond .lt 12, 7, 16, 0, 0, 0, 0, [])) none))) (cond (Nat.blt pc 11) (cond (Nat.blt pc 8) (cond (Nat.beq pc 7) (some (.aload_n 0, 8, 0, 0, 0, 0, 0, [])) none) (cond (Nat.beq pc 8) (some (.getfield 7, 11, 1, 0, 0, 0, 0, [])) none)) (cond (Nat.blt pc 13) (cond (Nat.beq pc 11) (some (.bipush 8, 13, 0, 0, 0, 0, 8, [])) none) (cond (Nat.beq pc 13) (some (.if_icmp .lt 5, 16, 18, 0, 0, 0, 0, [])) none)))) (cond (Nat.blt pc 19) (cond (Nat.blt pc 17) (cond (Nat.beq pc 16) (some (.iconst 0, 17, 0, 0, 0, 0, 0, [])) none) (cond (Nat.blt pc 18) (cond (Nat.beq pc 17) (some (.ireturn, 18, 1, 0, 0, 0, 0, [])) none) (cond (Nat.beq pc 18) (some (.aload_n 0, 19, 0, 0, 0, 0, 0, [])) none))) (cond (Nat.blt pc 23) (cond (Nat.blt pc 22) (cond (Nat.beq pc 19) (some (.getfield 25, 22, 1, 5, 5, 0, 0, [])) none) (cond (Nat.beq pc 22) (some (.aload_n 0, 23, 0, 0, 0, 0, 0, [])) none)) (cond (Nat.blt pc 26) (cond (Nat.beq pc 23) (some (.getfield 7, 26, 1, 0, 0, 0, 0, [])) none) (cond (Nat.beq pc 26) (some (.iload_n 1, 27, 1, 0, 0, 0, 0, [])) none))))) (cond (Nat.blt pc 38) (cond (Nat.blt pc 32) (cond (Nat.blt pc 28) (cond (Nat.beq pc 27) (some (.iastore, 28, 0, 0, 0, 0, 0, [])) none) (cond (Nat.blt pc 29) (cond (Nat.beq pc 28) (some (.aload_n 0, 29, 0, 0, 0, 0, 0, [])) none) (cond (Nat.beq pc 29) (some (.getfield 29, 32, 1, 6, 6, 0, 0, [])) none))) (cond (Nat.blt pc 36) (cond (Nat.blt pc 33) (cond (Nat.beq pc 32) (some (.aload_n 0, 33, 0, 0, 0, 0, 0, [])) none) (cond (Nat.beq pc 33) (some (.getfield 7, 36, 1, 0, 0, 0, 0, [])) none)) (cond (Nat.blt pc 37) (cond (Nat.beq pc 36) (some (.iload_n 2, 37, 2, 0, 0, 0, 0, [])) none) (cond (Nat.beq pc 37) (some (.iastore, 38, 0, 0, 0, 0, 0, [])) none)))) (cond (Nat.blt pc 44) (cond (Nat.blt pc 40) (cond (Nat.blt pc 39) (cond (Nat.beq pc 38) (some (.aload_n 0, 39, 0, 0, 0, 0, 0, [])) none) (cond (Nat.beq pc 39) (some (.dup, 40, 0, 0, 0, 0, 0, [])) none)) (cond (Nat.blt pc 43) (cond (Nat.beq pc 40) (some (.getfield 7, 43, 1, 0, 0, 0, 0, [])) none) (cond (Nat.beq pc 43) (some (.iconst 1, 44, 0, 0, 0, 0, 1, [])) none))) (cond (Nat.blt pc 48) (cond (Nat.blt pc 45) (cond (Nat.beq pc 44) (some (.iadd, 45, 0, 0, 0, 0, 0, [])) none) (cond (Nat.beq pc 45) (some (.putfield 7, 48, 1, 0, 0, 0, 0, [])) none)) (cond (Nat.blt pc 49) (cond (Nat.beq pc 48) (some (.iconst 1, 49, 0, 0, 0, 0, 1, [])) none) (cond (Nat.beq pc 49) (some (.ireturn, 50, 1, 0, 0, 0, 0, [])) none))))))
set_option maxRecDepth 100000 in
theorem okX1_addRoom : chkAll mX1_addRoom kX1_addRoom := chk_of (by decide +kernel)
def kX1_kindOf : Nat → Option PO := cdg 24 (fun pc => cond (Nat.blt pc 13) (cond (Nat.blt pc 5) (cond (Nat.blt pc 1) (cond (Nat.beq pc 0) (some (.iload_n 1, 1, 1, 0, 0, 0, 0, [])) none) (cond (Nat.blt pc 4) (cond (Nat.beq pc 1) (some (.ifCond .lt 21, 4, 22, 0, 0, 0, 0, [])) none) (cond (Nat.beq pc 4) (some (.iload_n 1, 5, 1, 0, 0, 0, 0, [])) none))) (cond (Nat.blt pc 9) (cond (Nat.blt pc 6) (cond (Nat.beq pc 5) (some (.aload_n 0, 6, 0, 0, 0, 0, 0, [])) none) (cond (Nat.beq pc 6) (some (.getfield 25, 9, 1, 5, 5, 0, 0, [])) none)) (cond (Nat.blt pc 10) (cond (Nat.beq pc 9) (some (.arraylength, 10, 0, 0, 0, 0, 0, [])) none) (cond (Nat.beq pc 10) (some (.if_icmp .ge 12, 13, 22, 0, 0, 0, 0, [])) none)))) (cond (Nat.blt pc 18) (cond (Nat.blt pc 14) (cond (Nat.beq pc 13) (some (.aload_n 0, 14, 0, 0, 0, 0, 0, [])) none) (cond (Nat.blt pc 17) (cond (Nat.beq pc 14) (some (.getfield 25, 17, 1, 5, 5, 0, 0, [])) none) (cond (Nat.beq pc 17) (some (.iload_n 1, 18, 1, 0, 0, 0, 0, [])) none))) (cond (Nat.blt pc 22) (cond (Nat.blt pc 19) (cond (Nat.beq pc 18) (some (.iaload, 19, 0, 0, 0, 0, 0, [])) none) (cond (Nat.beq pc 19) (some (.goto 4, 22, 23, 0, 0, 0, 0, [])) none)) (cond (Nat.blt pc 23) (cond (Nat.beq pc 22) (some (.iconst 0, 23, 0, 0, 0, 0, 0, [])) none) (cond (Nat.beq pc 23) (some (.ireturn, 24, 0, 0, 0, 0, 0, [])) none)))))
set_option maxRecDepth 100000 in
theorem okX1_kindOf : chkAll mX1_kindOf kX1_kindOf := chk_of (by decide +kernel)
def kX1_figureOf : Nat → Option PO := cdg 24 (fun pc => cond (Nat.blt pc 13) (cond (Nat.blt pc 5) (cond (Nat.blt pc 1) (cond (Nat.beq pc 0) (some (.iload_n 1, 1, 1, 0, 0, 0, 0, [])) none) (cond (Nat.blt pc 4) (cond (Nat.beq pc 1) (some (.ifCond .lt 21, 4, 22, 0, 0, 0, 0, [])) none) (cond (Nat.beq pc 4) (some (.iload_n 1, 5, 1, 0, 0, 0, 0, [])) none))) (cond (Nat.blt pc 9) (cond (Nat.blt pc 6) (cond (Nat.beq pc 5) (some (.aload_n 0, 6, 0, 0, 0, 0, 0, [])) none) (cond (Nat.beq pc 6) (some (.getfield 29, 9, 1, 6, 6, 0, 0, [])) none)) (cond (Nat.blt pc 10) (cond (Nat.beq pc 9) (some (.arraylength, 10, 0, 0, 0, 0, 0, [])) none) (cond (Nat.beq pc 10) (some (.if_icmp .ge 12, 13, 22, 0, 0, 0, 0, [])) none)))) (cond (Nat.blt pc 18) (cond (Nat.blt pc 14) (cond (Nat.beq pc 13) (some (.aload_n 0, 14, 0, 0, 0, 0, 0, [])) none) (cond (Nat.blt pc 17) (cond (Nat.beq pc 14) (some (.getfield 29, 17, 1, 6, 6, 0, 0, [])) none) (cond (Nat.beq pc 17) (some (.iload_n 1, 18, 1, 0, 0, 0, 0, [])) none))) (cond (Nat.blt pc 22) (cond (Nat.blt pc 19) (cond (Nat.beq pc 18) (some (.iaload, 19, 0, 0, 0, 0, 0, [])) none) (cond (Nat.beq pc 19) (some (.goto 4, 22, 23, 0, 0, 0, 0, [])) none)) (cond (Nat.blt pc 23) (cond (Nat.beq pc 22) (some (.iconst 0, 23, 0, 0, 0, 0, 0, [])) none) (cond (Nat.beq pc 23) (some (.ireturn, 24, 0, 0, 0, 0, 0, [])) none)))))
set_option maxRecDepth 100000 in
theorem okX1_figureOf : chkAll mX1_figureOf kX1_figureOf := chk_of (by decide +kernel)
def kX1_setKind : Nat → Option PO := cdg 21 (fun pc => cond (Nat.blt pc 10) (cond (Nat.blt pc 5) (cond (Nat.blt pc 1) (cond (Nat.beq pc 0) (some (.iload_n 1, 1, 1, 0, 0, 0, 0, [])) none) (cond (Nat.blt pc 4) (cond (Nat.beq pc 1) (some (.ifCond .lt 19, 4, 20, 0, 0, 0, 0, [])) none) (cond (Nat.beq pc 4) (some (.iload_n 1, 5, 1, 0, 0, 0, 0, [])) none))) (cond (Nat.blt pc 6) (cond (Nat.beq pc 5) (some (.aload_n 0, 6, 0, 0, 0, 0, 0, [])) none) (cond (Nat.blt pc 9) (cond (Nat.beq pc 6) (some (.getfield 25, 9, 1, 5, 5, 0, 0, [])) none) (cond (Nat.beq pc 9) (some (.arraylength, 10, 0, 0, 0, 0, 0, [])) none)))) (cond (Nat.blt pc 17) (cond (Nat.blt pc 13) (cond (Nat.beq pc 10) (some (.if_icmp .ge 10, 13, 20, 0, 0, 0, 0, [])) none) (cond (Nat.blt pc 14) (cond (Nat.beq pc 13) (some (.aload_n 0, 14, 0, 0, 0, 0, 0, [])) none) (cond (Nat.beq pc 14) (some (.getfield 25, 17, 1, 5, 5, 0, 0, [])) none))) (cond (Nat.blt pc 19) (cond (Nat.blt pc 18) (cond (Nat.beq pc 17) (some (.iload_n 1, 18, 1, 0, 0, 0, 0, [])) none) (cond (Nat.beq pc 18) (some (.iload_n 2, 19, 2, 0, 0, 0, 0, [])) none)) (cond (Nat.blt pc 20) (cond (Nat.beq pc 19) (some (.iastore, 20, 0, 0, 0, 0, 0, [])) none) (cond (Nat.beq pc 20) (some (.return_, 21, 0, 0, 0, 0, 0, [])) none)))))
set_option maxRecDepth 100000 in
theorem okX1_setKind : chkAll mX1_setKind kX1_setKind := chk_of (by decide +kernel)
def kX1_setFigure : Nat → Option PO := cdg 21 (fun pc => cond (Nat.blt pc 10) (cond (Nat.blt pc 5) (cond (Nat.blt pc 1) (cond (Nat.beq pc 0) (some (.iload_n 1, 1, 1, 0, 0, 0, 0, [])) none) (cond (Nat.blt pc 4) (cond (Nat.beq pc 1) (some (.ifCond .lt 19, 4, 20, 0, 0, 0, 0, [])) none) (cond (Nat.beq pc 4) (some (.iload_n 1, 5, 1, 0, 0, 0, 0, [])) none))) (cond (Nat.blt pc 6) (cond (Nat.beq pc 5) (some (.aload_n 0, 6, 0, 0, 0, 0, 0, [])) none) (cond (Nat.blt pc 9) (cond (Nat.beq pc 6) (some (.getfield 29, 9, 1, 6, 6, 0, 0, [])) none) (cond (Nat.beq pc 9) (some (.arraylength, 10, 0, 0, 0, 0, 0, [])) none)))) (cond (Nat.blt pc 17) (cond (Nat.blt pc 13) (cond (Nat.beq pc 10) (some (.if_icmp .ge 10, 13, 20, 0, 0, 0, 0, [])) none) (cond (Nat.blt pc 14) (cond (Nat.beq pc 13) (some (.aload_n 0, 14, 0, 0, 0, 0, 0, [])) none) (cond (Nat.beq pc 14) (some (.getfield 29, 17, 1, 6, 6, 0, 0, [])) none))) (cond (Nat.blt pc 19) (cond (Nat.blt pc 18) (cond (Nat.beq pc 17) (some (.iload_n 1, 18, 1, 0, 0, 0, 0, [])) none) (cond (Nat.beq pc 18) (some (.iload_n 2, 19, 2, 0, 0, 0, 0, [])) none)) (cond (Nat.blt pc 20) (cond (Nat.beq pc 19) (some (.iastore, 20, 0, 0, 0, 0, 0, [])) none) (cond (Nat.beq pc 20) (some (.return_, 21, 0, 0, 0, 0, 0, [])) none)))))
set_option maxRecDepth 100000 in
theorem okX1_setFigure : chkAll mX1_setFigure kX1_setFigure := chk_of (by decide +kernel)
def kX1_isDone : Nat → Option PO := cdg 17 (fun pc => cond (Nat.blt pc 7) (cond (Nat.blt pc 4) (cond (Nat.blt pc 1) (cond (Nat.beq pc 0) (some (.aload_n 0, 1, 0, 0, 0, 0, 0, [])) none) (cond (Nat.beq pc 1) (some (.getfield 13, 4, 1, 1, 1, 0, 0, [])) none)) (cond (Nat.blt pc 5) (cond (Nat.beq pc 4) (some (.iload_n 1, 5, 1, 0, 0, 0, 0, [])) none) (cond (Nat.blt pc 6) (cond (Nat.beq pc 5) (some (.ishr, 6, 0, 0, 0, 0, 0, [])) none) (cond (Nat.beq pc 6) (some (.iconst 1, 7, 0, 0, 0, 0, 1, [])) none)))) (cond (Nat.blt pc 12) (cond (Nat.blt pc 8) (cond (Nat.beq pc 7) (some (.iand, 8, 0, 0, 0, 0, 0, [])) none) (cond (Nat.blt pc 11) (cond (Nat.beq pc 8) (some (.ifCond .eq 7, 11, 15, 0, 0, 0, 0, [])) none) (cond (Nat.beq pc 11) (some (.iconst 1, 12, 0, 0, 0, 0, 1, [])) none))) (cond (Nat.blt pc 15) (cond (Nat.beq pc 12) (some (.goto 4, 15, 16, 0, 0, 0, 0, [])) none) (cond (Nat.blt pc 16) (cond (Nat.beq pc 15) (some (.iconst 0, 16, 0, 0, 0, 0, 0, [])) none) (cond (Nat.beq pc 16) (some (.ireturn, 17, 1, 0, 0, 0, 0, [])) none)))))
set_option maxRecDepth 100000 in
theorem okX1_isDone : chkAll mX1_isDone kX1_isDone := chk_of (by decide +kernel)
def kX1_hasCard : Nat → Option PO := cdg 17 (fun pc => cond (Nat.blt pc 7) (cond (Nat.blt pc 4) (cond (Nat.blt pc 1) (cond (Nat.beq pc 0) (some (.aload_n 0, 1, 0, 0, 0, 0, 0, [])) none) (cond (Nat.beq pc 1) (some (.getfield 16, 4, 1, 2, 2, 0, 0, [])) none)) (cond (Nat.blt pc 5) (cond (Nat.beq pc 4) (some (.iload_n 1, 5, 1, 0, 0, 0, 0, [])) none) (cond (Nat.blt pc 6) (cond (Nat.beq pc 5) (some (.ishr, 6, 0, 0, 0, 0, 0, [])) none) (cond (Nat.beq pc 6) (some (.iconst 1, 7, 0, 0, 0, 0, 1, [])) none)))) (cond (Nat.blt pc 12) (cond (Nat.blt pc 8) (cond (Nat.beq pc 7) (some (.iand, 8, 0, 0, 0, 0, 0, [])) none) (cond (Nat.blt pc 11) (cond (Nat.beq pc 8) (some (.ifCond .eq 7, 11, 15, 0, 0, 0, 0, [])) none) (cond (Nat.beq pc 11) (some (.iconst 1, 12, 0, 0, 0, 0, 1, [])) none))) (cond (Nat.blt pc 15) (cond (Nat.beq pc 12) (some (.goto 4, 15, 16, 0, 0, 0, 0, [])) none) (cond (Nat.blt pc 16) (cond (Nat.beq pc 15) (some (.iconst 0, 16, 0, 0, 0, 0, 0, [])) none) (cond (Nat.beq pc 16) (some (.ireturn, 17, 1, 0, 0, 0, 0, [])) none)))))
set_option maxRecDepth 100000 in
theorem okX1_hasCard : chkAll mX1_hasCard kX1_hasCard := chk_of (by decide +kernel)
def kX1_changeDone : Nat → Option PO := cdg 13 (fun pc => cond (Nat.blt pc 6) (cond (Nat.blt pc 2) (cond (Nat.blt pc 1) (cond (Nat.beq pc 0) (some (.aload_n 0, 1, 0, 0, 0, 0, 0, [])) none) (cond (Nat.beq pc 1) (some (.dup, 2, 0, 0, 0, 0, 0, [])) none)) (cond (Nat.blt pc 5) (cond (Nat.beq pc 2) (some (.getfield 13, 5, 1, 1, 1, 0, 0, [])) none) (cond (Nat.beq pc 5) (some (.iconst 1, 6, 0, 0, 0, 0, 1, [])) none))) (cond (Nat.blt pc 8) (cond (Nat.blt pc 7) (cond (Nat.beq pc 6) (some (.iload_n 1, 7, 1, 0, 0, 0, 0, [])) none) (cond (Nat.beq pc 7) (some (.ishl, 8, 0, 0, 0, 0, 0, [])) none)) (cond (Nat.blt pc 9) (cond (Nat.beq pc 8) (some (.ixor, 9, 0, 0, 0, 0, 0, [])) none) (cond (Nat.blt pc 12) (cond (Nat.beq pc 9) (some (.putfield 13, 12, 1, 1, 1, 0, 0, [])) none) (cond (Nat.beq pc 12) (some (.return_, 13, 0, 0, 0, 0, 0, [])) none)))))
set_option maxRecDepth 100000 in
theorem okX1_changeDone : chkAll mX1_changeDone kX1_changeDone := chk_of (by decide +kernel)
def kX1_changeCard : Nat → Option PO := cdg 13 (fun pc => cond (Nat.blt pc 6) (cond (Nat.blt pc 2) (cond (Nat.blt pc 1) (cond (Nat.beq pc 0) (some (.aload_n 0, 1, 0, 0, 0, 0, 0, [])) none) (cond (Nat.beq pc 1) (some (.dup, 2, 0, 0, 0, 0, 0, [])) none)) (cond (Nat.blt pc 5) (cond (Nat.beq pc 2) (some (.getfield 16, 5, 1, 2, 2, 0, 0, [])) none) (cond (Nat.beq pc 5) (some (.iconst 1, 6, 0, 0, 0, 0, 1, [])) none))) (cond (Nat.blt pc 8) (cond (Nat.blt pc 7) (cond (Nat.beq pc 6) (some (.iload_n 1, 7, 1, 0, 0, 0, 0, [])) none) (cond (Nat.beq pc 7) (some (.ishl, 8, 0, 0, 0, 0, 0, [])) none)) (cond (Nat.blt pc 9) (cond (Nat.beq pc 8) (some (.ixor, 9, 0, 0, 0, 0, 0, [])) none) (cond (Nat.blt pc 12) (cond (Nat.beq pc 9) (some (.putfield 16, 12, 1, 2, 2, 0, 0, [])) none) (cond (Nat.beq pc 12) (some (.return_, 13, 0, 0, 0, 0, 0, [])) none)))))
set_option maxRecDepth 100000 in
theorem okX1_changeCard : chkAll mX1_changeCard kX1_changeCard := chk_of (by decide +kernel)
def kX1_doneBits : Nat → Option PO := cdg 5 (fun pc => cond (Nat.blt pc 1) (cond (Nat.beq pc 0) (some (.aload_n 0, 1, 0, 0, 0, 0, 0, [])) none) (cond (Nat.blt pc 4) (cond (Nat.beq pc 1) (some (.getfield 13, 4, 1, 1, 1, 0, 0, [])) none) (cond (Nat.beq pc 4) (some (.ireturn, 5, 0, 0, 0, 0, 0, [])) none)))
set_option maxRecDepth 100000 in
theorem okX1_doneBits : chkAll mX1_doneBits kX1_doneBits := chk_of (by decide +kernel)
def kX1_cardBits : Nat → Option PO := cdg 5 (fun pc => cond (Nat.blt pc 1) (cond (Nat.beq pc 0) (some (.aload_n 0, 1, 0, 0, 0, 0, 0, [])) none) (cond (Nat.blt pc 4) (cond (Nat.beq pc 1) (some (.getfield 16, 4, 1, 2, 2, 0, 0, [])) none) (cond (Nat.beq pc 4) (some (.ireturn, 5, 0, 0, 0, 0, 0, [])) none)))
set_option maxRecDepth 100000 in
theorem okX1_cardBits : chkAll mX1_cardBits kX1_cardBits := chk_of (by decide +kernel)
def kX1_doneCount : Nat → Option PO := cdg 8 (fun pc => cond (Nat.blt pc 4) (cond (Nat.blt pc 1) (cond (Nat.beq pc 0) (some (.aload_n 0, 1, 0, 0, 0, 0, 0, [])) none) (cond (Nat.beq pc 1) (some (.getfield 13, 4, 1, 1, 1, 0, 0, [])) none)) (cond (Nat.blt pc 7) (cond (Nat.beq pc 4) (some (.invokestatic 41, 7, 243, 1, 114, 0, 0, [])) none) (cond (Nat.beq pc 7) (some (.ireturn, 8, 0, 0, 0, 0, 0, [])) none)))
set_option maxRecDepth 100000 in
theorem okX1_doneCount : chkAll mX1_doneCount kX1_doneCount := chk_of (by decide +kernel)
def kX1_workOf : Nat → Option PO := cdg 14 (fun pc => cond (Nat.blt pc 6) (cond (Nat.blt pc 2) (cond (Nat.blt pc 1) (cond (Nat.beq pc 0) (some (.aload_n 0, 1, 0, 0, 0, 0, 0, [])) none) (cond (Nat.beq pc 1) (some (.iload_n 1, 2, 1, 0, 0, 0, 0, [])) none)) (cond (Nat.blt pc 5) (cond (Nat.beq pc 2) (some (.invokevirtual 47, 5, 9, 1, 33, 1, 0, [])) none) (cond (Nat.beq pc 5) (some (.aload_n 0, 6, 0, 0, 0, 0, 0, [])) none))) (cond (Nat.blt pc 10) (cond (Nat.blt pc 7) (cond (Nat.beq pc 6) (some (.iload_n 1, 7, 1, 0, 0, 0, 0, [])) none) (cond (Nat.beq pc 7) (some (.invokevirtual 50, 10, 10, 1, 34, 1, 0, [])) none)) (cond (Nat.blt pc 13) (cond (Nat.beq pc 10) (some (.invokestatic 53, 13, 49, 2, 35, 0, 0, [])) none) (cond (Nat.beq pc 13) (some (.ireturn, 14, 0, 0, 0, 0, 0, [])) none))))
set_option maxRecDepth 100000 in
theorem okX1_workOf : chkAll mX1_workOf kX1_workOf := chk_of (by decide +kernel)
def kX1_linenOf : Nat → Option PO := cdg 9 (fun pc => cond (Nat.blt pc 2) (cond (Nat.blt pc 1) (cond (Nat.beq pc 0) (some (.aload_n 0, 1, 0, 0, 0, 0, 0, [])) none) (cond (Nat.beq pc 1) (some (.iload_n 1, 2, 1, 0, 0, 0, 0, [])) none)) (cond (Nat.blt pc 5) (cond (Nat.beq pc 2) (some (.invokevirtual 47, 5, 9, 1, 33, 1, 0, [])) none) (cond (Nat.blt pc 8) (cond (Nat.beq pc 5) (some (.invokestatic 59, 8, 50, 1, 44, 0, 0, [])) none) (cond (Nat.beq pc 8) (some (.ireturn, 9, 0, 0, 0, 0, 0, [])) none))))
set_option maxRecDepth 100000 in
theorem okX1_linenOf : chkAll mX1_linenOf kX1_linenOf := chk_of (by decide +kernel)
def kX1_tipOf : Nat → Option PO := cdg 14 (fun pc => cond (Nat.blt pc 6) (cond (Nat.blt pc 2) (cond (Nat.blt pc 1) (cond (Nat.beq pc 0) (some (.aload_n 0, 1, 0, 0, 0, 0, 0, [])) none) (cond (Nat.beq pc 1) (some (.iload_n 1, 2, 1, 0, 0, 0, 0, [])) none)) (cond (Nat.blt pc 5) (cond (Nat.beq pc 2) (some (.invokevirtual 47, 5, 9, 1, 33, 1, 0, [])) none) (cond (Nat.beq pc 5) (some (.aload_n 0, 6, 0, 0, 0, 0, 0, [])) none))) (cond (Nat.blt pc 10) (cond (Nat.blt pc 7) (cond (Nat.beq pc 6) (some (.iload_n 1, 7, 1, 0, 0, 0, 0, [])) none) (cond (Nat.beq pc 7) (some (.invokevirtual 50, 10, 10, 1, 34, 1, 0, [])) none)) (cond (Nat.blt pc 13) (cond (Nat.beq pc 10) (some (.invokestatic 62, 13, 51, 2, 63, 0, 0, [])) none) (cond (Nat.beq pc 13) (some (.ireturn, 14, 0, 0, 0, 0, 0, [])) none))))
set_option maxRecDepth 100000 in
theorem okX1_tipOf : chkAll mX1_tipOf kX1_tipOf := chk_of (by decide +kernel)
def kX1_tipsOf : Nat → Option PO := cdg 36 (fun pc => cond (Nat.blt pc 16) (cond (Nat.blt pc 6) (cond (Nat.blt pc 3) (cond (Nat.blt pc 1) (cond (Nat.beq pc 0) (some (.iconst 0, 1, 0, 0, 0, 0, 0, [])) none) (cond (Nat.blt pc 2) (cond (Nat.beq pc 1) (some (.istore_n 2, 2, 2, 0, 0, 0, 0, [])) none) (cond (Nat.beq pc 2) (some (.iconst 0, 3, 0, 0, 0, 0, 0, [])) none))) (cond (Nat.blt pc 4) (cond (Nat.beq pc 3) (some (.istore_n 3, 4, 3, 0, 0, 0, 0, [])) none) (cond (Nat.blt pc 5) (cond (Nat.beq pc 4) (some (.iload_n 3, 5, 3, 0, 0, 0, 0, [])) none) (cond (Nat.beq pc 5) (some (.aload_n 0, 6, 0, 0, 0, 0, 0, [])) none)))) (cond (Nat.blt pc 13) (cond (Nat.blt pc 9) (cond (Nat.beq pc 6) (some (.getfield 7, 9, 1, 0, 0, 0, 0, [])) none) (cond (Nat.blt pc 12) (cond (Nat.beq pc 9) (some (.if_icmp .ge 25, 12, 34, 0, 0, 0, 0, [])) none) (cond (Nat.beq pc 12) (some (.iload_n 1, 13, 1, 0, 0, 0, 0, [])) none))) (cond (Nat.blt pc 14) (cond (Nat.beq pc 13) (some (.iload_n 3, 14, 3, 0, 0, 0, 0, [])) none) (cond (Nat.blt pc 15) (cond (Nat.beq pc 14) (some (.ishr, 15, 0, 0, 0, 0, 0, [])) none) (cond (Nat.beq pc 15) (some (.iconst 1, 16, 0, 0, 0, 0, 1, [])) none))))) (cond (Nat.blt pc 26) (cond (Nat.blt pc 21) (cond (Nat.blt pc 17) (cond (Nat.beq pc 16) (some (.iand, 17, 0, 0, 0, 0, 0, [])) none) (cond (Nat.blt pc 20) (cond (Nat.beq pc 17) (some (.ifCond .eq 11, 20, 28, 0, 0, 0, 0, [])) none) (cond (Nat.beq pc 20) (some (.iload_n 2, 21, 2, 0, 0, 0, 0, [])) none))) (cond (Nat.blt pc 22) (cond (Nat.beq pc 21) (some (.aload_n 0, 22, 0, 0, 0, 0, 0, [])) none) (cond (Nat.blt pc 23) (cond (Nat.beq pc 22) (some (.iload_n 3, 23, 3, 0, 0, 0, 0, [])) none) (cond (Nat.beq pc 23) (some (.invokevirtual 65, 26, 22, 1, 134, 1, 0, [])) none)))) (cond (Nat.blt pc 31) (cond (Nat.blt pc 27) (cond (Nat.beq pc 26) (some (.iadd, 27, 0, 0, 0, 0, 0, [])) none) (cond (Nat.blt pc 28) (cond (Nat.beq pc 27) (some (.istore_n 2, 28, 2, 0, 0, 0, 0, [])) none) (cond (Nat.beq pc 28) (some (.iinc 3 1, 31, 3, 0, 0, 0, 1, [])) none))) (cond (Nat.blt pc 34) (cond (Nat.beq pc 31) (some (.goto (-27), 34, 4, 0, 0, 0, 0, [])) none) (cond (Nat.blt pc 35) (cond (Nat.beq pc 34) (some (.iload_n 2, 35, 2, 0, 0, 0, 0, [])) none) (cond (Nat.beq pc 35) (some (.ireturn, 36, 0, 0, 0, 0, 0, [])) none))))))
set_option maxRecDepth 100000 in
theorem okX1_tipsOf : chkAll mX1_tipsOf kX1_tipsOf := chk_of (by decide +kernel)
def kX1_keepIn : Nat → Option PO := cdg 6 (fun pc => cond (Nat.blt pc 2) (cond (Nat.blt pc 1) (cond (Nat.beq pc 0) (some (.aload_n 0, 1, 0, 0, 0, 0, 0, [])) none) (cond (Nat.beq pc 1) (some (.iload_n 1, 2, 1, 0, 0, 0, 0, [])) none)) (cond (Nat.blt pc 5) (cond (Nat.beq pc 2) (some (.putfield 19, 5, 1, 3, 3, 0, 0, [])) none) (cond (Nat.beq pc 5) (some (.return_, 6, 0, 0, 0, 0, 0, [])) none)))
set_option maxRecDepth 100000 in
theorem okX1_keepIn : chkAll mX1_keepIn kX1_keepIn := chk_of (by decide +kernel)
def kX1_guestOut : Nat → Option PO := cdg 28 (fun pc => cond (Nat.blt pc 13) (cond (Nat.blt pc 6) (cond (Nat.blt pc 4) (cond (Nat.blt pc 1) (cond (Nat.beq pc 0) (some (.aload_n 0, 1, 0, 0, 0, 0, 0, [])) none) (cond (Nat.beq pc 1) (some (.getfield 19, 4, 1, 3, 3, 0, 0, [])) none)) (cond (Nat.blt pc 5) (cond (Nat.beq pc 4) (some (.iload_n 1, 5, 1, 0, 0, 0, 0, [])) none) (cond (Nat.beq pc 5) (some (.ishr, 6, 0, 0, 0, 0, 0, [])) none))) (cond (Nat.blt pc 8) (cond (Nat.blt pc 7) (cond (Nat.beq pc 6) (some (.iconst 1, 7, 0, 0, 0, 0, 1, [])) none) (cond (Nat.beq pc 7) (some (.iand, 8, 0, 0, 0, 0, 0, [])) none)) (cond (Nat.blt pc 11) (cond (Nat.beq pc 8) (some (.ifCond .eq 5, 11, 13, 0, 0, 0, 0, [])) none) (cond (Nat.blt pc 12) (cond (Nat.beq pc 11) (some (.iconst 0, 12, 0, 0, 0, 0, 0, [])) none) (cond (Nat.beq pc 12) (some (.ireturn, 13, 1, 0, 0, 0, 0, [])) none))))) (cond (Nat.blt pc 19) (cond (Nat.blt pc 15) (cond (Nat.blt pc 14) (cond (Nat.beq pc 13) (some (.aload_n 0, 14, 0, 0, 0, 0, 0, [])) none) (cond (Nat.beq pc 14) (some (.iload_n 1, 15, 1, 0, 0, 0, 0, [])) none)) (cond (Nat.blt pc 18) (cond (Nat.beq pc 15) (some (.invokevirtual 47, 18, 9, 1, 33, 1, 0, [])) none) (cond (Nat.beq pc 18) (some (.aload_n 0, 19, 0, 0, 0, 0, 0, [])) none))) (cond (Nat.blt pc 23) (cond (Nat.blt pc 20) (cond (Nat.beq pc 19) (some (.iload_n 1, 20, 1, 0, 0, 0, 0, [])) none) (cond (Nat.beq pc 20) (some (.invokevirtual 50, 23, 10, 1, 34, 1, 0, [])) none)) (cond (Nat.blt pc 24) (cond (Nat.beq pc 23) (some (.iload_n 2, 24, 2, 0, 0, 0, 0, [])) none) (cond (Nat.blt pc 27) (cond (Nat.beq pc 24) (some (.invokestatic 68, 27, 48, 3, 41, 0, 0, [])) none) (cond (Nat.beq pc 27) (some (.ireturn, 28, 1, 0, 0, 0, 0, [])) none))))))
set_option maxRecDepth 100000 in
theorem okX1_guestOut : chkAll mX1_guestOut kX1_guestOut := chk_of (by decide +kernel)
def kX1_hasMaid : Nat → Option PO := cdg 15 (fun pc => cond (Nat.blt pc 6) (cond (Nat.blt pc 4) (cond (Nat.blt pc 1) (cond (Nat.beq pc 0) (some (.iload_n 1, 1, 1, 0, 0, 0, 0, [])) none) (cond (Nat.beq pc 1) (some (.ifCond .eq 8, 4, 9, 0, 0, 0, 0, [])) none)) (cond (Nat.blt pc 5) (cond (Nat.beq pc 4) (some (.iload_n 1, 5, 1, 0, 0, 0, 0, [])) none) (cond (Nat.beq pc 5) (some (.iconst 1, 6, 0, 0, 0, 0, 1, [])) none))) (cond (Nat.blt pc 10) (cond (Nat.blt pc 9) (cond (Nat.beq pc 6) (some (.if_icmp .ne 7, 9, 13, 0, 0, 0, 0, [])) none) (cond (Nat.beq pc 9) (some (.iconst 1, 10, 0, 0, 0, 0, 1, [])) none)) (cond (Nat.blt pc 13) (cond (Nat.beq pc 10) (some (.goto 4, 13, 14, 0, 0, 0, 0, [])) none) (cond (Nat.blt pc 14) (cond (Nat.beq pc 13) (some (.iconst 0, 14, 0, 0, 0, 0, 0, [])) none) (cond (Nat.beq pc 14) (some (.ireturn, 15, 1, 0, 0, 0, 0, [])) none)))))
set_option maxRecDepth 100000 in
theorem okX1_hasMaid : chkAll mX1_hasMaid kX1_hasMaid := chk_of (by decide +kernel)
def kX1_hasPlace : Nat → Option PO := cdg 18 (fun pc => cond (Nat.blt pc 9) (cond (Nat.blt pc 4) (cond (Nat.blt pc 1) (cond (Nat.beq pc 0) (some (.iload_n 1, 1, 1, 0, 0, 0, 0, [])) none) (cond (Nat.beq pc 1) (some (.ifCond .lt 15, 4, 16, 0, 0, 0, 0, [])) none)) (cond (Nat.blt pc 5) (cond (Nat.beq pc 4) (some (.iload_n 1, 5, 1, 0, 0, 0, 0, [])) none) (cond (Nat.blt pc 6) (cond (Nat.beq pc 5) (some (.aload_n 0, 6, 0, 0, 0, 0, 0, [])) none) (cond (Nat.beq pc 6) (some (.getfield 7, 9, 1, 0, 0, 0, 0, [])) none)))) (cond (Nat.blt pc 13) (cond (Nat.blt pc 12) (cond (Nat.beq pc 9) (some (.if_icmp .gt 7, 12, 16, 0, 0, 0, 0, [])) none) (cond (Nat.beq pc 12) (some (.iconst 1, 13, 0, 0, 0, 0, 1, [])) none)) (cond (Nat.blt pc 16) (cond (Nat.beq pc 13) (some (.goto 4, 16, 17, 0, 0, 0, 0, [])) none) (cond (Nat.blt pc 17) (cond (Nat.beq pc 16) (some (.iconst 0, 17, 0, 0, 0, 0, 0, [])) none) (cond (Nat.beq pc 17) (some (.ireturn, 18, 1, 0, 0, 0, 0, [])) none)))))
set_option maxRecDepth 100000 in
theorem okX1_hasPlace : chkAll mX1_hasPlace kX1_hasPlace := chk_of (by decide +kernel)
def kX1_placeOf : Nat → Option PO := cdg 24 (fun pc => cond (Nat.blt pc 13) (cond (Nat.blt pc 5) (cond (Nat.blt pc 1) (cond (Nat.beq pc 0) (some (.iload_n 1, 1, 1, 0, 0, 0, 0, [])) none) (cond (Nat.blt pc 4) (cond (Nat.beq pc 1) (some (.ifCond .lt 21, 4, 22, 0, 0, 0, 0, [])) none) (cond (Nat.beq pc 4) (some (.iload_n 1, 5, 1, 0, 0, 0, 0, [])) none))) (cond (Nat.blt pc 9) (cond (Nat.blt pc 6) (cond (Nat.beq pc 5) (some (.aload_n 0, 6, 0, 0, 0, 0, 0, [])) none) (cond (Nat.beq pc 6) (some (.getfield 32, 9, 1, 7, 7, 0, 0, [])) none)) (cond (Nat.blt pc 10) (cond (Nat.beq pc 9) (some (.arraylength, 10, 0, 0, 0, 0, 0, [])) none) (cond (Nat.beq pc 10) (some (.if_icmp .ge 12, 13, 22, 0, 0, 0, 0, [])) none)))) (cond (Nat.blt pc 18) (cond (Nat.blt pc 14) (cond (Nat.beq pc 13) (some (.aload_n 0, 14, 0, 0, 0, 0, 0, [])) none) (cond (Nat.blt pc 17) (cond (Nat.beq pc 14) (some (.getfield 32, 17, 1, 7, 7, 0, 0, [])) none) (cond (Nat.beq pc 17) (some (.iload_n 1, 18, 1, 0, 0, 0, 0, [])) none))) (cond (Nat.blt pc 22) (cond (Nat.blt pc 19) (cond (Nat.beq pc 18) (some (.iaload, 19, 0, 0, 0, 0, 0, [])) none) (cond (Nat.beq pc 19) (some (.goto 4, 22, 23, 0, 0, 0, 0, [])) none)) (cond (Nat.blt pc 23) (cond (Nat.beq pc 22) (some (.iconst 0, 23, 0, 0, 0, 0, 0, [])) none) (cond (Nat.beq pc 23) (some (.ireturn, 24, 0, 0, 0, 0, 0, [])) none)))))
set_option maxRecDepth 100000 in
theorem okX1_placeOf : chkAll mX1_placeOf kX1_placeOf := chk_of (by decide +kernel)
def kX1_loadOf : Nat → Option PO := cdg 24 (fun pc => cond (Nat.blt pc 13) (cond (Nat.blt pc 5) (cond (Nat.blt pc 1) (cond (Nat.beq pc 0) (some (.iload_n 1, 1, 1, 0, 0, 0, 0, [])) none) (cond (Nat.blt pc 4) (cond (Nat.beq pc 1) (some (.ifCond .lt 21, 4, 22, 0, 0, 0, 0, [])) none) (cond (Nat.beq pc 4) (some (.iload_n 1, 5, 1, 0, 0, 0, 0, [])) none))) (cond (Nat.blt pc 9) (cond (Nat.blt pc 6) (cond (Nat.beq pc 5) (some (.aload_n 0, 6, 0, 0, 0, 0, 0, [])) none) (cond (Nat.beq pc 6) (some (.getfield 35, 9, 1, 8, 8, 0, 0, [])) none)) (cond (Nat.blt pc 10) (cond (Nat.beq pc 9) (some (.arraylength, 10, 0, 0, 0, 0, 0, [])) none) (cond (Nat.beq pc 10) (some (.if_icmp .ge 12, 13, 22, 0, 0, 0, 0, [])) none)))) (cond (Nat.blt pc 18) (cond (Nat.blt pc 14) (cond (Nat.beq pc 13) (some (.aload_n 0, 14, 0, 0, 0, 0, 0, [])) none) (cond (Nat.blt pc 17) (cond (Nat.beq pc 14) (some (.getfield 35, 17, 1, 8, 8, 0, 0, [])) none) (cond (Nat.beq pc 17) (some (.iload_n 1, 18, 1, 0, 0, 0, 0, [])) none))) (cond (Nat.blt pc 22) (cond (Nat.blt pc 19) (cond (Nat.beq pc 18) (some (.iaload, 19, 0, 0, 0, 0, 0, [])) none) (cond (Nat.beq pc 19) (some (.goto 4, 22, 23, 0, 0, 0, 0, [])) none)) (cond (Nat.blt pc 23) (cond (Nat.beq pc 22) (some (.iconst 0, 23, 0, 0, 0, 0, 0, [])) none) (cond (Nat.beq pc 23) (some (.ireturn, 24, 0, 0, 0, 0, 0, [])) none)))))
set_option maxRecDepth 100000 in
theorem okX1_loadOf : chkAll mX1_loadOf kX1_loadOf := chk_of (by decide +kernel)
def kX1_clockOf : Nat → Option PO := cdg 24 (fun pc => cond (Nat.blt pc 13) (cond (Nat.blt pc 5) (cond (Nat.blt pc 1) (cond (Nat.beq pc 0) (some (.iload_n 1, 1, 1, 0, 0, 0, 0, [])) none) (cond (Nat.blt pc 4) (cond (Nat.beq pc 1) (some (.ifCond .lt 21, 4, 22, 0, 0, 0, 0, [])) none) (cond (Nat.beq pc 4) (some (.iload_n 1, 5, 1, 0, 0, 0, 0, [])) none))) (cond (Nat.blt pc 9) (cond (Nat.blt pc 6) (cond (Nat.beq pc 5) (some (.aload_n 0, 6, 0, 0, 0, 0, 0, [])) none) (cond (Nat.beq pc 6) (some (.getfield 38, 9, 1, 9, 9, 0, 0, [])) none)) (cond (Nat.blt pc 10) (cond (Nat.beq pc 9) (some (.arraylength, 10, 0, 0, 0, 0, 0, [])) none) (cond (Nat.beq pc 10) (some (.if_icmp .ge 12, 13, 22, 0, 0, 0, 0, [])) none)))) (cond (Nat.blt pc 18) (cond (Nat.blt pc 14) (cond (Nat.beq pc 13) (some (.aload_n 0, 14, 0, 0, 0, 0, 0, [])) none) (cond (Nat.blt pc 17) (cond (Nat.beq pc 14) (some (.getfield 38, 17, 1, 9, 9, 0, 0, [])) none) (cond (Nat.beq pc 17) (some (.iload_n 1, 18, 1, 0, 0, 0, 0, [])) none))) (cond (Nat.blt pc 22) (cond (Nat.blt pc 19) (cond (Nat.beq pc 18) (some (.iaload, 19, 0, 0, 0, 0, 0, [])) none) (cond (Nat.beq pc 19) (some (.goto 4, 22, 23, 0, 0, 0, 0, [])) none)) (cond (Nat.blt pc 23) (cond (Nat.beq pc 22) (some (.iconst 0, 23, 0, 0, 0, 0, 0, [])) none) (cond (Nat.beq pc 23) (some (.ireturn, 24, 0, 0, 0, 0, 0, [])) none)))))
set_option maxRecDepth 100000 in
theorem okX1_clockOf : chkAll mX1_clockOf kX1_clockOf := chk_of (by decide +kernel)
def kX1_laterClock : Nat → Option PO := cdg 16 (fun pc => cond (Nat.blt pc 7) (cond (Nat.blt pc 4) (cond (Nat.blt pc 1) (cond (Nat.beq pc 0) (some (.aload_n 0, 1, 0, 0, 0, 0, 0, [])) none) (cond (Nat.beq pc 1) (some (.getfield 38, 4, 1, 9, 9, 0, 0, [])) none)) (cond (Nat.blt pc 5) (cond (Nat.beq pc 4) (some (.iconst 0, 5, 0, 0, 0, 0, 0, [])) none) (cond (Nat.blt pc 6) (cond (Nat.beq pc 5) (some (.iaload, 6, 0, 0, 0, 0, 0, [])) none) (cond (Nat.beq pc 6) (some (.aload_n 0, 7, 0, 0, 0, 0, 0, [])) none)))) (cond (Nat.blt pc 11) (cond (Nat.blt pc 10) (cond (Nat.beq pc 7) (some (.getfield 38, 10, 1, 9, 9, 0, 0, [])) none) (cond (Nat.beq pc 10) (some (.iconst 1, 11, 0, 0, 0, 0, 1, [])) none)) (cond (Nat.blt pc 12) (cond (Nat.beq pc 11) (some (.iaload, 12, 0, 0, 0, 0, 0, [])) none) (cond (Nat.blt pc 15) (cond (Nat.beq pc 12) (some (.invokestatic 72, 15, 245, 2, 49, 2, 0, [])) none) (cond (Nat.beq pc 15) (some (.ireturn, 16, 0, 0, 0, 0, 0, [])) none)))))
set_option maxRecDepth 100000 in
theorem okX1_laterClock : chkAll mX1_laterClock kX1_laterClock := chk_of (by decide +kernel)
def kX1_timesDown : Nat → Option PO := cdg 5 (fun pc => cond (Nat.blt pc 1) (cond (Nat.beq pc 0) (some (.aload_n 0, 1, 0, 0, 0, 0, 0, [])) none) (cond (Nat.blt pc 4) (cond (Nat.beq pc 1) (some (.getfield 22, 4, 1, 4, 4, 0, 0, [])) none) (cond (Nat.beq pc 4) (some (.ireturn, 5, 0, 0, 0, 0, 0, [])) none)))
set_option maxRecDepth 100000 in
theorem okX1_timesDown : chkAll mX1_timesDown kX1_timesDown := chk_of (by decide +kernel)
def kX1_setPlace : Nat → Option PO := cdg 21 (fun pc => cond (Nat.blt pc 10) (cond (Nat.blt pc 5) (cond (Nat.blt pc 1) (cond (Nat.beq pc 0) (some (.iload_n 1, 1, 1, 0, 0, 0, 0, [])) none) (cond (Nat.blt pc 4) (cond (Nat.beq pc 1) (some (.ifCond .lt 19, 4, 20, 0, 0, 0, 0, [])) none) (cond (Nat.beq pc 4) (some (.iload_n 1, 5, 1, 0, 0, 0, 0, [])) none))) (cond (Nat.blt pc 6) (cond (Nat.beq pc 5) (some (.aload_n 0, 6, 0, 0, 0, 0, 0, [])) none) (cond (Nat.blt pc 9) (cond (Nat.beq pc 6) (some (.getfield 32, 9, 1, 7, 7, 0, 0, [])) none) (cond (Nat.beq pc 9) (some (.arraylength, 10, 0, 0, 0, 0, 0, [])) none)))) (cond (Nat.blt pc 17) (cond (Nat.blt pc 13) (cond (Nat.beq pc 10) (some (.if_icmp .ge 10, 13, 20, 0, 0, 0, 0, [])) none) (cond (Nat.blt pc 14) (cond (Nat.beq pc 13) (some (.aload_n 0, 14, 0, 0, 0, 0, 0, [])) none) (cond (Nat.beq pc 14) (some (.getfield 32, 17, 1, 7, 7, 0, 0, [])) none))) (cond (Nat.blt pc 19) (cond (Nat.blt pc 18) (cond (Nat.beq pc 17) (some (.iload_n 1, 18, 1, 0, 0, 0, 0, [])) none) (cond (Nat.beq pc 18) (some (.iload_n 2, 19, 2, 0, 0, 0, 0, [])) none)) (cond (Nat.blt pc 20) (cond (Nat.beq pc 19) (some (.iastore, 20, 0, 0, 0, 0, 0, [])) none) (cond (Nat.beq pc 20) (some (.return_, 21, 0, 0, 0, 0, 0, [])) none)))))
set_option maxRecDepth 100000 in
theorem okX1_setPlace : chkAll mX1_setPlace kX1_setPlace := chk_of (by decide +kernel)
def kX1_setLoad : Nat → Option PO := cdg 21 (fun pc => cond (Nat.blt pc 10) (cond (Nat.blt pc 5) (cond (Nat.blt pc 1) (cond (Nat.beq pc 0) (some (.iload_n 1, 1, 1, 0, 0, 0, 0, [])) none) (cond (Nat.blt pc 4) (cond (Nat.beq pc 1) (some (.ifCond .lt 19, 4, 20, 0, 0, 0, 0, [])) none) (cond (Nat.beq pc 4) (some (.iload_n 1, 5, 1, 0, 0, 0, 0, [])) none))) (cond (Nat.blt pc 6) (cond (Nat.beq pc 5) (some (.aload_n 0, 6, 0, 0, 0, 0, 0, [])) none) (cond (Nat.blt pc 9) (cond (Nat.beq pc 6) (some (.getfield 35, 9, 1, 8, 8, 0, 0, [])) none) (cond (Nat.beq pc 9) (some (.arraylength, 10, 0, 0, 0, 0, 0, [])) none)))) (cond (Nat.blt pc 17) (cond (Nat.blt pc 13) (cond (Nat.beq pc 10) (some (.if_icmp .ge 10, 13, 20, 0, 0, 0, 0, [])) none) (cond (Nat.blt pc 14) (cond (Nat.beq pc 13) (some (.aload_n 0, 14, 0, 0, 0, 0, 0, [])) none) (cond (Nat.beq pc 14) (some (.getfield 35, 17, 1, 8, 8, 0, 0, [])) none))) (cond (Nat.blt pc 19) (cond (Nat.blt pc 18) (cond (Nat.beq pc 17) (some (.iload_n 1, 18, 1, 0, 0, 0, 0, [])) none) (cond (Nat.beq pc 18) (some (.iload_n 2, 19, 2, 0, 0, 0, 0, [])) none)) (cond (Nat.blt pc 20) (cond (Nat.beq pc 19) (some (.iastore, 20, 0, 0, 0, 0, 0, [])) none) (cond (Nat.beq pc 20) (some (.return_, 21, 0, 0, 0, 0, 0, [])) none)))))
set_option maxRecDepth 100000 in
theorem okX1_setLoad : chkAll mX1_setLoad kX1_setLoad := chk_of (by decide +kernel)
def kX1_setClock : Nat → Option PO := cdg 21 (fun pc => cond (Nat.blt pc 10) (cond (Nat.blt pc 5) (cond (Nat.blt pc 1) (cond (Nat.beq pc 0) (some (.iload_n 1, 1, 1, 0, 0, 0, 0, [])) none) (cond (Nat.blt pc 4) (cond (Nat.beq pc 1) (some (.ifCond .lt 19, 4, 20, 0, 0, 0, 0, [])) none) (cond (Nat.beq pc 4) (some (.iload_n 1, 5, 1, 0, 0, 0, 0, [])) none))) (cond (Nat.blt pc 6) (cond (Nat.beq pc 5) (some (.aload_n 0, 6, 0, 0, 0, 0, 0, [])) none) (cond (Nat.blt pc 9) (cond (Nat.beq pc 6) (some (.getfield 38, 9, 1, 9, 9, 0, 0, [])) none) (cond (Nat.beq pc 9) (some (.arraylength, 10, 0, 0, 0, 0, 0, [])) none)))) (cond (Nat.blt pc 17) (cond (Nat.blt pc 13) (cond (Nat.beq pc 10) (some (.if_icmp .ge 10, 13, 20, 0, 0, 0, 0, [])) none) (cond (Nat.blt pc 14) (cond (Nat.beq pc 13) (some (.aload_n 0, 14, 0, 0, 0, 0, 0, [])) none) (cond (Nat.beq pc 14) (some (.getfield 38, 17, 1, 9, 9, 0, 0, [])) none))) (cond (Nat.blt pc 19) (cond (Nat.blt pc 18) (cond (Nat.beq pc 17) (some (.iload_n 1, 18, 1, 0, 0, 0, 0, [])) none) (cond (Nat.beq pc 18) (some (.iload_n 2, 19, 2, 0, 0, 0, 0, [])) none)) (cond (Nat.blt pc 20) (cond (Nat.beq pc 19) (some (.iastore, 20, 0, 0, 0, 0, 0, [])) none) (cond (Nat.beq pc 20) (some (.return_, 21, 0, 0, 0, 0, 0, [])) none)))))
set_option maxRecDepth 100000 in
theorem okX1_setClock : chkAll mX1_setClock kX1_setClock := chk_of (by decide +kernel)
def kX1_pass : Nat → Option PO := cdg 24 (fun pc => cond (Nat.blt pc 14) (cond (Nat.blt pc 6) (cond (Nat.blt pc 4) (cond (Nat.blt pc 1) (cond (Nat.beq pc 0) (some (.iload_n 1, 1, 1, 0, 0, 0, 0, [])) none) (cond (Nat.beq pc 1) (some (.ifCond .lt 22, 4, 23, 0, 0, 0, 0, [])) none)) (cond (Nat.blt pc 5) (cond (Nat.beq pc 4) (some (.iload_n 1, 5, 1, 0, 0, 0, 0, [])) none) (cond (Nat.beq pc 5) (some (.aload_n 0, 6, 0, 0, 0, 0, 0, [])) none))) (cond (Nat.blt pc 10) (cond (Nat.blt pc 9) (cond (Nat.beq pc 6) (some (.getfield 38, 9, 1, 9, 9, 0, 0, [])) none) (cond (Nat.beq pc 9) (some (.arraylength, 10, 0, 0, 0, 0, 0, [])) none)) (cond (Nat.blt pc 13) (cond (Nat.beq pc 10) (some (.if_icmp .ge 13, 13, 23, 0, 0, 0, 0, [])) none) (cond (Nat.beq pc 13) (some (.aload_n 0, 14, 0, 0, 0, 0, 0, [])) none)))) (cond (Nat.blt pc 20) (cond (Nat.blt pc 18) (cond (Nat.blt pc 17) (cond (Nat.beq pc 14) (some (.getfield 38, 17, 1, 9, 9, 0, 0, [])) none) (cond (Nat.beq pc 17) (some (.iload_n 1, 18, 1, 0, 0, 0, 0, [])) none)) (cond (Nat.blt pc 19) (cond (Nat.beq pc 18) (some (.dup2, 19, 0, 0, 0, 0, 0, [])) none) (cond (Nat.beq pc 19) (some (.iaload, 20, 0, 0, 0, 0, 0, [])) none))) (cond (Nat.blt pc 22) (cond (Nat.blt pc 21) (cond (Nat.beq pc 20) (some (.iload_n 2, 21, 2, 0, 0, 0, 0, [])) none) (cond (Nat.beq pc 21) (some (.iadd, 22, 0, 0, 0, 0, 0, [])) none)) (cond (Nat.blt pc 23) (cond (Nat.beq pc 22) (some (.iastore, 23, 0, 0, 0, 0, 0, [])) none) (cond (Nat.beq pc 23) (some (.return_, 24, 0, 0, 0, 0, 0, [])) none)))))
set_option maxRecDepth 100000 in
theorem okX1_pass : chkAll mX1_pass kX1_pass := chk_of (by decide +kernel)
def kX1_goDown : Nat → Option PO := cdg 20 (fun pc => cond (Nat.blt pc 8) (cond (Nat.blt pc 3) (cond (Nat.blt pc 1) (cond (Nat.beq pc 0) (some (.aload_n 0, 1, 0, 0, 0, 0, 0, [])) none) (cond (Nat.blt pc 2) (cond (Nat.beq pc 1) (some (.iload_n 1, 2, 1, 0, 0, 0, 0, [])) none) (cond (Nat.beq pc 2) (some (.iconst 0, 3, 0, 0, 0, 0, 0, [])) none))) (cond (Nat.blt pc 6) (cond (Nat.beq pc 3) (some (.invokevirtual 77, 6, 38, 2, 27, 1, 0, [])) none) (cond (Nat.blt pc 7) (cond (Nat.beq pc 6) (some (.aload_n 0, 7, 0, 0, 0, 0, 0, [])) none) (cond (Nat.beq pc 7) (some (.iload_n 1, 8, 1, 0, 0, 0, 0, [])) none)))) (cond (Nat.blt pc 13) (cond (Nat.blt pc 9) (cond (Nat.beq pc 8) (some (.iconst 2, 9, 0, 0, 0, 0, 2, [])) none) (cond (Nat.blt pc 12) (cond (Nat.beq pc 9) (some (.invokevirtual 81, 12, 36, 2, 30, 1, 0, [])) none) (cond (Nat.beq pc 12) (some (.aload_n 0, 13, 0, 0, 0, 0, 0, [])) none))) (cond (Nat.blt pc 16) (cond (Nat.blt pc 14) (cond (Nat.beq pc 13) (some (.iload_n 1, 14, 1, 0, 0, 0, 0, [])) none) (cond (Nat.beq pc 14) (some (.bipush 6, 16, 0, 0, 0, 0, 6, [])) none)) (cond (Nat.blt pc 19) (cond (Nat.beq pc 16) (some (.invokevirtual 84, 19, 34, 2, 46, 1, 0, [])) none) (cond (Nat.beq pc 19) (some (.return_, 20, 0, 0, 0, 0, 0, [])) none)))))
set_option maxRecDepth 100000 in
theorem okX1_goDown : chkAll mX1_goDown kX1_goDown := chk_of (by decide +kernel)
def kX1_walkTo : Nat → Option PO := cdg 22 (fun pc => cond (Nat.blt pc 9) (cond (Nat.blt pc 3) (cond (Nat.blt pc 1) (cond (Nat.beq pc 0) (some (.aload_n 0, 1, 0, 0, 0, 0, 0, [])) none) (cond (Nat.blt pc 2) (cond (Nat.beq pc 1) (some (.iload_n 1, 2, 1, 0, 0, 0, 0, [])) none) (cond (Nat.beq pc 2) (some (.aload_n 0, 3, 0, 0, 0, 0, 0, [])) none))) (cond (Nat.blt pc 7) (cond (Nat.blt pc 4) (cond (Nat.beq pc 3) (some (.iload_n 1, 4, 1, 0, 0, 0, 0, [])) none) (cond (Nat.beq pc 4) (some (.invokevirtual 87, 7, 28, 1, 28, 1, 0, [])) none)) (cond (Nat.blt pc 8) (cond (Nat.beq pc 7) (some (.iload_n 2, 8, 2, 0, 0, 0, 0, [])) none) (cond (Nat.beq pc 8) (some (.isub, 9, 0, 0, 0, 0, 0, [])) none)))) (cond (Nat.blt pc 16) (cond (Nat.blt pc 12) (cond (Nat.beq pc 9) (some (.invokestatic 90, 12, 244, 1, 29, 1, 0, [])) none) (cond (Nat.blt pc 15) (cond (Nat.beq pc 12) (some (.invokevirtual 81, 15, 36, 2, 30, 1, 0, [])) none) (cond (Nat.beq pc 15) (some (.aload_n 0, 16, 0, 0, 0, 0, 0, [])) none))) (cond (Nat.blt pc 18) (cond (Nat.blt pc 17) (cond (Nat.beq pc 16) (some (.iload_n 1, 17, 1, 0, 0, 0, 0, [])) none) (cond (Nat.beq pc 17) (some (.iload_n 2, 18, 2, 0, 0, 0, 0, [])) none)) (cond (Nat.blt pc 21) (cond (Nat.beq pc 18) (some (.invokevirtual 93, 21, 33, 2, 31, 1, 0, [])) none) (cond (Nat.beq pc 21) (some (.return_, 22, 0, 0, 0, 0, 0, [])) none)))))
set_option maxRecDepth 100000 in
theorem okX1_walkTo : chkAll mX1_walkTo kX1_walkTo := chk_of (by decide +kernel)
def kX1_visitBy : Nat → Option PO := cdg 20 (fun pc => cond (Nat.blt pc 9) (cond (Nat.blt pc 3) (cond (Nat.blt pc 1) (cond (Nat.beq pc 0) (some (.aload_n 0, 1, 0, 0, 0, 0, 0, [])) none) (cond (Nat.blt pc 2) (cond (Nat.beq pc 1) (some (.iload_n 1, 2, 1, 0, 0, 0, 0, [])) none) (cond (Nat.beq pc 2) (some (.iload_n 2, 3, 2, 0, 0, 0, 0, [])) none))) (cond (Nat.blt pc 5) (cond (Nat.blt pc 4) (cond (Nat.beq pc 3) (some (.iconst 1, 4, 0, 0, 0, 0, 1, [])) none) (cond (Nat.beq pc 4) (some (.iadd, 5, 0, 0, 0, 0, 0, [])) none)) (cond (Nat.blt pc 8) (cond (Nat.beq pc 5) (some (.invokevirtual 77, 8, 38, 2, 27, 1, 0, [])) none) (cond (Nat.beq pc 8) (some (.aload_n 0, 9, 0, 0, 0, 0, 0, [])) none)))) (cond (Nat.blt pc 12) (cond (Nat.blt pc 10) (cond (Nat.beq pc 9) (some (.iload_n 1, 10, 1, 0, 0, 0, 0, [])) none) (cond (Nat.blt pc 11) (cond (Nat.beq pc 10) (some (.iload_n 2, 11, 2, 0, 0, 0, 0, [])) none) (cond (Nat.beq pc 11) (some (.aload_n 0, 12, 0, 0, 0, 0, 0, [])) none))) (cond (Nat.blt pc 16) (cond (Nat.blt pc 13) (cond (Nat.beq pc 12) (some (.iload_n 2, 13, 2, 0, 0, 0, 0, [])) none) (cond (Nat.beq pc 13) (some (.invokevirtual 96, 16, 20, 1, 32, 1, 0, [])) none)) (cond (Nat.blt pc 19) (cond (Nat.beq pc 16) (some (.invokevirtual 99, 19, 41, 3, 36, 1, 0, [])) none) (cond (Nat.beq pc 19) (some (.ireturn, 20, 0, 0, 0, 0, 0, [])) none)))))
set_option maxRecDepth 100000 in
theorem okX1_visitBy : chkAll mX1_visitBy kX1_visitBy := chk_of (by decide +kernel)
def kX1_visitByBoth : Nat → Option PO := cdg 53 (fun pc => cond (Nat.blt pc 26) (cond (Nat.blt pc 11) (cond (Nat.blt pc 4) (cond (Nat.blt pc 2) (cond (Nat.blt pc 1) (cond (Nat.beq pc 0) (some (.aload_n 0, 1, 0, 0, 0, 0, 0, [])) none) (cond (Nat.beq pc 1) (some (.iconst 0, 2, 0, 0, 0, 0, 0, [])) none)) (cond (Nat.blt pc 3) (cond (Nat.beq pc 2) (some (.iload_n 1, 3, 1, 0, 0, 0, 0, [])) none) (cond (Nat.beq pc 3) (some (.iconst 1, 4, 0, 0, 0, 0, 1, [])) none))) (cond (Nat.blt pc 8) (cond (Nat.blt pc 5) (cond (Nat.beq pc 4) (some (.iadd, 5, 0, 0, 0, 0, 0, [])) none) (cond (Nat.beq pc 5) (some (.invokevirtual 77, 8, 38, 2, 27, 1, 0, [])) none)) (cond (Nat.blt pc 9) (cond (Nat.beq pc 8) (some (.aload_n 0, 9, 0, 0, 0, 0, 0, [])) none) (cond (Nat.blt pc 10) (cond (Nat.beq pc 9) (some (.iconst 1, 10, 0, 0, 0, 0, 1, [])) none) (cond (Nat.beq pc 10) (some (.iload_n 1, 11, 1, 0, 0, 0, 0, [])) none))))) (cond (Nat.blt pc 17) (cond (Nat.blt pc 13) (cond (Nat.blt pc 12) (cond (Nat.beq pc 11) (some (.iconst 1, 12, 0, 0, 0, 0, 1, [])) none) (cond (Nat.beq pc 12) (some (.iadd, 13, 0, 0, 0, 0, 0, [])) none)) (cond (Nat.blt pc 16) (cond (Nat.beq pc 13) (some (.invokevirtual 77, 16, 38, 2, 27, 1, 0, [])) none) (cond (Nat.beq pc 16) (some (.aload_n 0, 17, 0, 0, 0, 0, 0, [])) none))) (cond (Nat.blt pc 19) (cond (Nat.blt pc 18) (cond (Nat.beq pc 17) (some (.iconst 0, 18, 0, 0, 0, 0, 0, [])) none) (cond (Nat.beq pc 18) (some (.aload_n 0, 19, 0, 0, 0, 0, 0, [])) none)) (cond (Nat.blt pc 22) (cond (Nat.beq pc 19) (some (.invokevirtual 103, 22, 31, 0, 51, 1, 0, [])) none) (cond (Nat.blt pc 25) (cond (Nat.beq pc 22) (some (.invokevirtual 107, 25, 35, 2, 52, 1, 0, [])) none) (cond (Nat.beq pc 25) (some (.aload_n 0, 26, 0, 0, 0, 0, 0, [])) none)))))) (cond (Nat.blt pc 37) (cond (Nat.blt pc 30) (cond (Nat.blt pc 28) (cond (Nat.blt pc 27) (cond (Nat.beq pc 26) (some (.iconst 0, 27, 0, 0, 0, 0, 0, [])) none) (cond (Nat.beq pc 27) (some (.iload_n 1, 28, 1, 0, 0, 0, 0, [])) none)) (cond (Nat.blt pc 29) (cond (Nat.beq pc 28) (some (.aload_n 0, 29, 0, 0, 0, 0, 0, [])) none) (cond (Nat.beq pc 29) (some (.iload_n 1, 30, 1, 0, 0, 0, 0, [])) none))) (cond (Nat.blt pc 34) (cond (Nat.blt pc 33) (cond (Nat.beq pc 30) (some (.invokevirtual 96, 33, 20, 1, 32, 1, 0, [])) none) (cond (Nat.beq pc 33) (some (.iconst 2, 34, 0, 0, 0, 0, 2, [])) none)) (cond (Nat.blt pc 35) (cond (Nat.beq pc 34) (some (.idiv, 35, 0, 0, 0, 0, 0, [])) none) (cond (Nat.blt pc 36) (cond (Nat.beq pc 35) (some (.iconst 1, 36, 0, 0, 0, 0, 1, [])) none) (cond (Nat.beq pc 36) (some (.iadd, 37, 0, 0, 0, 0, 0, [])) none))))) (cond (Nat.blt pc 44) (cond (Nat.blt pc 41) (cond (Nat.blt pc 40) (cond (Nat.beq pc 37) (some (.invokevirtual 99, 40, 41, 3, 36, 1, 0, [])) none) (cond (Nat.beq pc 40) (some (.istore_n 2, 41, 2, 0, 0, 0, 0, [])) none)) (cond (Nat.blt pc 42) (cond (Nat.beq pc 41) (some (.aload_n 0, 42, 0, 0, 0, 0, 0, [])) none) (cond (Nat.blt pc 43) (cond (Nat.beq pc 42) (some (.iconst 1, 43, 0, 0, 0, 0, 1, [])) none) (cond (Nat.beq pc 43) (some (.aload_n 0, 44, 0, 0, 0, 0, 0, [])) none)))) (cond (Nat.blt pc 48) (cond (Nat.blt pc 45) (cond (Nat.beq pc 44) (some (.iconst 0, 45, 0, 0, 0, 0, 0, [])) none) (cond (Nat.beq pc 45) (some (.invokevirtual 110, 48, 30, 1, 39, 1, 0, [])) none)) (cond (Nat.blt pc 51) (cond (Nat.beq pc 48) (some (.invokevirtual 107, 51, 35, 2, 52, 1, 0, [])) none) (cond (Nat.blt pc 52) (cond (Nat.beq pc 51) (some (.iload_n 2, 52, 2, 0, 0, 0, 0, [])) none) (cond (Nat.beq pc 52) (some (.ireturn, 53, 0, 0, 0, 0, 0, [])) none)))))))
set_option maxRecDepth 100000 in
theorem okX1_visitByBoth : chkAll mX1_visitByBoth kX1_visitByBoth := chk_of (by decide +kernel)
def kX1_knock : Nat → Option PO := cdg 101 (fun pc => cond (Nat.blt pc 52) (cond (Nat.blt pc 25) (cond (Nat.blt pc 13) (cond (Nat.blt pc 5) (cond (Nat.blt pc 1) (cond (Nat.beq pc 0) (some (.aload_n 0, 1, 0, 0, 0, 0, 0, [])) none) (cond (Nat.blt pc 2) (cond (Nat.beq pc 1) (some (.iload_n 2, 2, 2, 0, 0, 0, 0, [])) none) (cond (Nat.beq pc 2) (some (.invokevirtual 113, 5, 13, 1, 37, 1, 0, [])) none))) (cond (Nat.blt pc 9) (cond (Nat.blt pc 8) (cond (Nat.beq pc 5) (some (.ifCond .ne 11, 8, 16, 0, 0, 0, 0, [])) none) (cond (Nat.beq pc 8) (some (.aload_n 0, 9, 0, 0, 0, 0, 0, [])) none)) (cond (Nat.blt pc 10) (cond (Nat.beq pc 9) (some (.iload_n 2, 10, 2, 0, 0, 0, 0, [])) none) (cond (Nat.beq pc 10) (some (.invokevirtual 117, 13, 14, 1, 38, 1, 0, [])) none)))) (cond (Nat.blt pc 19) (cond (Nat.blt pc 17) (cond (Nat.blt pc 16) (cond (Nat.beq pc 13) (some (.ifCond .eq 5, 16, 18, 0, 0, 0, 0, [])) none) (cond (Nat.beq pc 16) (some (.iconst 0, 17, 0, 0, 0, 0, 0, [])) none)) (cond (Nat.blt pc 18) (cond (Nat.beq pc 17) (some (.ireturn, 18, 0, 0, 0, 0, 0, [])) none) (cond (Nat.beq pc 18) (some (.aload_n 0, 19, 0, 0, 0, 0, 0, [])) none))) (cond (Nat.blt pc 21) (cond (Nat.blt pc 20) (cond (Nat.beq pc 19) (some (.iload_n 1, 20, 1, 0, 0, 0, 0, [])) none) (cond (Nat.beq pc 20) (some (.iconst 1, 21, 0, 0, 0, 0, 1, [])) none)) (cond (Nat.blt pc 24) (cond (Nat.beq pc 21) (some (.invokevirtual 81, 24, 36, 2, 30, 1, 0, [])) none) (cond (Nat.beq pc 24) (some (.aload_n 0, 25, 0, 0, 0, 0, 0, [])) none))))) (cond (Nat.blt pc 38) (cond (Nat.blt pc 28) (cond (Nat.blt pc 26) (cond (Nat.beq pc 25) (some (.iload_n 2, 26, 2, 0, 0, 0, 0, [])) none) (cond (Nat.blt pc 27) (cond (Nat.beq pc 26) (some (.aload_n 0, 27, 0, 0, 0, 0, 0, [])) none) (cond (Nat.beq pc 27) (some (.iload_n 1, 28, 1, 0, 0, 0, 0, [])) none))) (cond (Nat.blt pc 34) (cond (Nat.blt pc 31) (cond (Nat.beq pc 28) (some (.invokevirtual 110, 31, 30, 1, 39, 1, 0, [])) none) (cond (Nat.beq pc 31) (some (.invokevirtual 120, 34, 25, 2, 40, 1, 0, [])) none)) (cond (Nat.blt pc 37) (cond (Nat.beq pc 34) (some (.ifCond .ne 5, 37, 39, 0, 0, 0, 0, [])) none) (cond (Nat.beq pc 37) (some (.iconst 1, 38, 0, 0, 0, 0, 1, [])) none)))) (cond (Nat.blt pc 44) (cond (Nat.blt pc 40) (cond (Nat.blt pc 39) (cond (Nat.beq pc 38) (some (.ireturn, 39, 0, 0, 0, 0, 0, [])) none) (cond (Nat.beq pc 39) (some (.aload_n 0, 40, 0, 0, 0, 0, 0, [])) none)) (cond (Nat.blt pc 41) (cond (Nat.beq pc 40) (some (.iload_n 1, 41, 1, 0, 0, 0, 0, [])) none) (cond (Nat.beq pc 41) (some (.invokevirtual 124, 44, 29, 1, 42, 1, 0, [])) none))) (cond (Nat.blt pc 46) (cond (Nat.blt pc 45) (cond (Nat.beq pc 44) (some (.aload_n 0, 45, 0, 0, 0, 0, 0, [])) none) (cond (Nat.beq pc 45) (some (.iload_n 2, 46, 2, 0, 0, 0, 0, [])) none)) (cond (Nat.blt pc 49) (cond (Nat.beq pc 46) (some (.invokevirtual 127, 49, 21, 1, 43, 1, 0, [])) none) (cond (Nat.beq pc 49) (some (.if_icmp .ge 23, 52, 72, 0, 0, 0, 0, [])) none)))))) (cond (Nat.blt pc 75) (cond (Nat.blt pc 61) (cond (Nat.blt pc 57) (cond (Nat.blt pc 53) (cond (Nat.beq pc 52) (some (.aload_n 0, 53, 0, 0, 0, 0, 0, [])) none) (cond (Nat.blt pc 54) (cond (Nat.beq pc 53) (some (.iload_n 1, 54, 1, 0, 0, 0, 0, [])) none) (cond (Nat.beq pc 54) (some (.invokevirtual 130, 57, 42, 1, 45, 1, 0, [])) none))) (cond (Nat.blt pc 59) (cond (Nat.blt pc 58) (cond (Nat.beq pc 57) (some (.aload_n 0, 58, 0, 0, 0, 0, 0, [])) none) (cond (Nat.beq pc 58) (some (.iload_n 2, 59, 2, 0, 0, 0, 0, [])) none)) (cond (Nat.blt pc 60) (cond (Nat.beq pc 59) (some (.aload_n 0, 60, 0, 0, 0, 0, 0, [])) none) (cond (Nat.beq pc 60) (some (.iload_n 1, 61, 1, 0, 0, 0, 0, [])) none)))) (cond (Nat.blt pc 71) (cond (Nat.blt pc 67) (cond (Nat.blt pc 64) (cond (Nat.beq pc 61) (some (.invokevirtual 110, 64, 30, 1, 39, 1, 0, [])) none) (cond (Nat.beq pc 64) (some (.invokevirtual 120, 67, 25, 2, 40, 1, 0, [])) none)) (cond (Nat.blt pc 70) (cond (Nat.beq pc 67) (some (.ifCond .ne 5, 70, 72, 0, 0, 0, 0, [])) none) (cond (Nat.beq pc 70) (some (.iconst 2, 71, 0, 0, 0, 0, 2, [])) none))) (cond (Nat.blt pc 73) (cond (Nat.blt pc 72) (cond (Nat.beq pc 71) (some (.ireturn, 72, 0, 0, 0, 0, 0, [])) none) (cond (Nat.beq pc 72) (some (.aload_n 0, 73, 0, 0, 0, 0, 0, [])) none)) (cond (Nat.blt pc 74) (cond (Nat.beq pc 73) (some (.iload_n 1, 74, 1, 0, 0, 0, 0, [])) none) (cond (Nat.beq pc 74) (some (.iload_n 3, 75, 3, 0, 0, 0, 0, [])) none))))) (cond (Nat.blt pc 87) (cond (Nat.blt pc 81) (cond (Nat.blt pc 79) (cond (Nat.blt pc 78) (cond (Nat.beq pc 75) (some (.invokevirtual 81, 78, 36, 2, 30, 1, 0, [])) none) (cond (Nat.beq pc 78) (some (.aload_n 0, 79, 0, 0, 0, 0, 0, [])) none)) (cond (Nat.blt pc 80) (cond (Nat.beq pc 79) (some (.iload_n 1, 80, 1, 0, 0, 0, 0, [])) none) (cond (Nat.beq pc 80) (some (.aload_n 0, 81, 0, 0, 0, 0, 0, [])) none))) (cond (Nat.blt pc 85) (cond (Nat.blt pc 82) (cond (Nat.beq pc 81) (some (.iload_n 1, 82, 1, 0, 0, 0, 0, [])) none) (cond (Nat.beq pc 82) (some (.invokevirtual 124, 85, 29, 1, 42, 1, 0, [])) none)) (cond (Nat.blt pc 86) (cond (Nat.beq pc 85) (some (.aload_n 0, 86, 0, 0, 0, 0, 0, [])) none) (cond (Nat.beq pc 86) (some (.iload_n 2, 87, 2, 0, 0, 0, 0, [])) none)))) (cond (Nat.blt pc 95) (cond (Nat.blt pc 91) (cond (Nat.blt pc 90) (cond (Nat.beq pc 87) (some (.invokevirtual 127, 90, 21, 1, 43, 1, 0, [])) none) (cond (Nat.beq pc 90) (some (.isub, 91, 0, 0, 0, 0, 0, [])) none)) (cond (Nat.blt pc 94) (cond (Nat.beq pc 91) (some (.invokevirtual 84, 94, 34, 2, 46, 1, 0, [])) none) (cond (Nat.beq pc 94) (some (.aload_n 0, 95, 0, 0, 0, 0, 0, [])) none))) (cond (Nat.blt pc 99) (cond (Nat.blt pc 96) (cond (Nat.beq pc 95) (some (.iload_n 2, 96, 2, 0, 0, 0, 0, [])) none) (cond (Nat.beq pc 96) (some (.invokevirtual 134, 99, 15, 1, 47, 1, 0, [])) none)) (cond (Nat.blt pc 100) (cond (Nat.beq pc 99) (some (.iconst 3, 100, 0, 0, 0, 0, 3, [])) none) (cond (Nat.beq pc 100) (some (.ireturn, 101, 0, 0, 0, 0, 0, [])) none)))))))
set_option maxRecDepth 100000 in
theorem okX1_knock : chkAll mX1_knock kX1_knock := chk_of (by decide +kernel)
def kX1_fetchLinen : Nat → Option PO := cdg 32 (fun pc => cond (Nat.blt pc 14) (cond (Nat.blt pc 5) (cond (Nat.blt pc 2) (cond (Nat.blt pc 1) (cond (Nat.beq pc 0) (some (.aload_n 0, 1, 0, 0, 0, 0, 0, [])) none) (cond (Nat.beq pc 1) (some (.iload_n 1, 2, 1, 0, 0, 0, 0, [])) none)) (cond (Nat.blt pc 3) (cond (Nat.beq pc 2) (some (.iconst 2, 3, 0, 0, 0, 0, 2, [])) none) (cond (Nat.blt pc 4) (cond (Nat.beq pc 3) (some (.aload_n 0, 4, 0, 0, 0, 0, 0, [])) none) (cond (Nat.beq pc 4) (some (.iload_n 1, 5, 1, 0, 0, 0, 0, [])) none)))) (cond (Nat.blt pc 9) (cond (Nat.blt pc 8) (cond (Nat.beq pc 5) (some (.invokevirtual 87, 8, 28, 1, 28, 1, 0, [])) none) (cond (Nat.beq pc 8) (some (.imul, 9, 0, 0, 0, 0, 0, [])) none)) (cond (Nat.blt pc 10) (cond (Nat.beq pc 9) (some (.iconst 4, 10, 0, 0, 0, 0, 4, [])) none) (cond (Nat.blt pc 11) (cond (Nat.beq pc 10) (some (.iadd, 11, 0, 0, 0, 0, 0, [])) none) (cond (Nat.beq pc 11) (some (.invokevirtual 81, 14, 36, 2, 30, 1, 0, [])) none))))) (cond (Nat.blt pc 22) (cond (Nat.blt pc 16) (cond (Nat.blt pc 15) (cond (Nat.beq pc 14) (some (.aload_n 0, 15, 0, 0, 0, 0, 0, [])) none) (cond (Nat.beq pc 15) (some (.iload_n 1, 16, 1, 0, 0, 0, 0, [])) none)) (cond (Nat.blt pc 18) (cond (Nat.beq pc 16) (some (.bipush 6, 18, 0, 0, 0, 0, 6, [])) none) (cond (Nat.blt pc 21) (cond (Nat.beq pc 18) (some (.invokevirtual 84, 21, 34, 2, 46, 1, 0, [])) none) (cond (Nat.beq pc 21) (some (.aload_n 0, 22, 0, 0, 0, 0, 0, [])) none)))) (cond (Nat.blt pc 27) (cond (Nat.blt pc 23) (cond (Nat.beq pc 22) (some (.dup, 23, 0, 0, 0, 0, 0, [])) none) (cond (Nat.blt pc 26) (cond (Nat.beq pc 23) (some (.getfield 22, 26, 1, 4, 4, 0, 0, [])) none) (cond (Nat.beq pc 26) (some (.iconst 1, 27, 0, 0, 0, 0, 1, [])) none))) (cond (Nat.blt pc 28) (cond (Nat.beq pc 27) (some (.iadd, 28, 0, 0, 0, 0, 0, [])) none) (cond (Nat.blt pc 31) (cond (Nat.beq pc 28) (some (.putfield 22, 31, 1, 4, 4, 0, 0, [])) none) (cond (Nat.beq pc 31) (some (.return_, 32, 0, 0, 0, 0, 0, [])) none))))))
set_option maxRecDepth 100000 in
theorem okX1_fetchLinen : chkAll mX1_fetchLinen kX1_fetchLinen := chk_of (by decide +kernel)
def kX1_roundOver : Nat → Option PO := cdg 32 (fun pc => cond (Nat.blt pc 14) (cond (Nat.blt pc 7) (cond (Nat.blt pc 2) (cond (Nat.blt pc 1) (cond (Nat.beq pc 0) (some (.iconst 0, 1, 0, 0, 0, 0, 0, [])) none) (cond (Nat.beq pc 1) (some (.istore_n 3, 2, 3, 0, 0, 0, 0, [])) none)) (cond (Nat.blt pc 3) (cond (Nat.beq pc 2) (some (.iload_n 3, 3, 3, 0, 0, 0, 0, [])) none) (cond (Nat.blt pc 4) (cond (Nat.beq pc 3) (some (.aload_n 0, 4, 0, 0, 0, 0, 0, [])) none) (cond (Nat.beq pc 4) (some (.getfield 7, 7, 1, 0, 0, 0, 0, [])) none)))) (cond (Nat.blt pc 11) (cond (Nat.blt pc 10) (cond (Nat.beq pc 7) (some (.if_icmp .ge 24, 10, 31, 0, 0, 0, 0, [])) none) (cond (Nat.beq pc 10) (some (.iload_n 2, 11, 2, 0, 0, 0, 0, [])) none)) (cond (Nat.blt pc 12) (cond (Nat.beq pc 11) (some (.iload_n 3, 12, 3, 0, 0, 0, 0, [])) none) (cond (Nat.blt pc 13) (cond (Nat.beq pc 12) (some (.ishr, 13, 0, 0, 0, 0, 0, [])) none) (cond (Nat.beq pc 13) (some (.iconst 1, 14, 0, 0, 0, 0, 1, [])) none))))) (cond (Nat.blt pc 21) (cond (Nat.blt pc 18) (cond (Nat.blt pc 15) (cond (Nat.beq pc 14) (some (.iand, 15, 0, 0, 0, 0, 0, [])) none) (cond (Nat.beq pc 15) (some (.ifCond .eq 10, 18, 25, 0, 0, 0, 0, [])) none)) (cond (Nat.blt pc 19) (cond (Nat.beq pc 18) (some (.aload_n 0, 19, 0, 0, 0, 0, 0, [])) none) (cond (Nat.blt pc 20) (cond (Nat.beq pc 19) (some (.iload_n 1, 20, 1, 0, 0, 0, 0, [])) none) (cond (Nat.beq pc 20) (some (.iload_n 3, 21, 3, 0, 0, 0, 0, [])) none)))) (cond (Nat.blt pc 25) (cond (Nat.blt pc 24) (cond (Nat.beq pc 21) (some (.invokevirtual 137, 24, 39, 2, 120, 1, 0, [])) none) (cond (Nat.beq pc 24) (some (.pop, 25, 0, 0, 0, 0, 0, [])) none)) (cond (Nat.blt pc 28) (cond (Nat.beq pc 25) (some (.iinc 3 1, 28, 3, 0, 0, 0, 1, [])) none) (cond (Nat.blt pc 31) (cond (Nat.beq pc 28) (some (.goto (-26), 31, 2, 0, 0, 0, 0, [])) none) (cond (Nat.beq pc 31) (some (.return_, 32, 0, 0, 0, 0, 0, [])) none))))))
set_option maxRecDepth 100000 in
theorem okX1_roundOver : chkAll mX1_roundOver kX1_roundOver := chk_of (by decide +kernel)
def kX1_longRound : Nat → Option PO := cdg 14 (fun pc => cond (Nat.blt pc 7) (cond (Nat.blt pc 2) (cond (Nat.blt pc 1) (cond (Nat.beq pc 0) (some (.aload_n 0, 1, 0, 0, 0, 0, 0, [])) none) (cond (Nat.beq pc 1) (some (.iload_n 1, 2, 1, 0, 0, 0, 0, [])) none)) (cond (Nat.blt pc 3) (cond (Nat.beq pc 2) (some (.iconst 1, 3, 0, 0, 0, 0, 1, [])) none) (cond (Nat.blt pc 4) (cond (Nat.beq pc 3) (some (.aload_n 0, 4, 0, 0, 0, 0, 0, [])) none) (cond (Nat.beq pc 4) (some (.getfield 7, 7, 1, 0, 0, 0, 0, [])) none)))) (cond (Nat.blt pc 9) (cond (Nat.blt pc 8) (cond (Nat.beq pc 7) (some (.ishl, 8, 0, 0, 0, 0, 0, [])) none) (cond (Nat.beq pc 8) (some (.iconst 1, 9, 0, 0, 0, 0, 1, [])) none)) (cond (Nat.blt pc 10) (cond (Nat.beq pc 9) (some (.isub, 10, 0, 0, 0, 0, 0, [])) none) (cond (Nat.blt pc 13) (cond (Nat.beq pc 10) (some (.invokevirtual 140, 13, 43, 2, 125, 1, 0, [])) none) (cond (Nat.beq pc 13) (some (.return_, 14, 0, 0, 0, 0, 0, [])) none)))))
set_option maxRecDepth 100000 in
theorem okX1_longRound : chkAll mX1_longRound kX1_longRound := chk_of (by decide +kernel)
def kX2_isKind : Nat → Option PO := cdg 16 (fun pc => cond (Nat.blt pc 7) (cond (Nat.blt pc 4) (cond (Nat.blt pc 1) (cond (Nat.beq pc 0) (some (.iload_n 0, 1, 0, 0, 0, 0, 0, [])) none) (cond (Nat.beq pc 1) (some (.ifCond .lt 13, 4, 14, 0, 0, 0, 0, [])) none)) (cond (Nat.blt pc 5) (cond (Nat.beq pc 4) (some (.iload_n 0, 5, 0, 0, 0, 0, 0, [])) none) (cond (Nat.beq pc 5) (some (.bipush 7, 7, 0, 0, 0, 0, 7, [])) none))) (cond (Nat.blt pc 11) (cond (Nat.blt pc 10) (cond (Nat.beq pc 7) (some (.if_icmp .ge 7, 10, 14, 0, 0, 0, 0, [])) none) (cond (Nat.beq pc 10) (some (.iconst 1, 11, 0, 0, 0, 0, 1, [])) none)) (cond (Nat.blt pc 14) (cond (Nat.beq pc 11) (some (.goto 4, 14, 15, 0, 0, 0, 0, [])) none) (cond (Nat.blt pc 15) (cond (Nat.beq pc 14) (some (.iconst 0, 15, 0, 0, 0, 0, 0, [])) none) (cond (Nat.beq pc 15) (some (.ireturn, 16, 1, 0, 0, 0, 0, [])) none)))))
set_option maxRecDepth 100000 in
theorem okX2_isKind : chkAll mX2_isKind kX2_isKind := chk_of (by decide +kernel)
def kX2_ofLetter : Nat → Option PO := cdg 117 (fun pc => cond (Nat.blt pc 107) (cond (Nat.blt pc 102) (cond (Nat.blt pc 100) (cond (Nat.blt pc 1) (cond (Nat.beq pc 0) (some (.iload_n 0, 1, 0, 0, 0, 0, 0, [])) none) (cond (Nat.beq pc 1) (some (.tableswitch 114 97 117 #[105, 107, 114, 114, 114, 114, 114, 114, 114, 114, 114, 101, 114, 114, 114, 109, 114, 99, 103, 114, 111], 100, 115, 0, 0, 0, 0, [(97, 106), (98, 108), (99, 115), (100, 115), (101, 115), (102, 115), (103, 115), (104, 115), (105, 115), (106, 115), (107, 115), (108, 102), (109, 115), (110, 115), (111, 115), (112, 110), (113, 115), (114, 100), (115, 104), (116, 115), (117, 112)])) none)) (cond (Nat.blt pc 101) (cond (Nat.beq pc 100) (some (.iconst 0, 101, 0, 0, 0, 0, 0, [])) none) (cond (Nat.beq pc 101) (some (.ireturn, 102, 0, 0, 0, 0, 0, [])) none))) (cond (Nat.blt pc 104) (cond (Nat.blt pc 103) (cond (Nat.beq pc 102) (some (.iconst 1, 103, 0, 0, 0, 0, 1, [])) none) (cond (Nat.beq pc 103) (some (.ireturn, 104, 0, 0, 0, 0, 0, [])) none)) (cond (Nat.blt pc 105) (cond (Nat.beq pc 104) (some (.iconst 2, 105, 0, 0, 0, 0, 2, [])) none) (cond (Nat.blt pc 106) (cond (Nat.beq pc 105) (some (.ireturn, 106, 0, 0, 0, 0, 0, [])) none) (cond (Nat.beq pc 106) (some (.iconst 3, 107, 0, 0, 0, 0, 3, [])) none))))) (cond (Nat.blt pc 111) (cond (Nat.blt pc 109) (cond (Nat.blt pc 108) (cond (Nat.beq pc 107) (some (.ireturn, 108, 0, 0, 0, 0, 0, [])) none) (cond (Nat.beq pc 108) (some (.iconst 4, 109, 0, 0, 0, 0, 4, [])) none)) (cond (Nat.blt pc 110) (cond (Nat.beq pc 109) (some (.ireturn, 110, 0, 0, 0, 0, 0, [])) none) (cond (Nat.beq pc 110) (some (.iconst 5, 111, 0, 0, 0, 0, 5, [])) none))) (cond (Nat.blt pc 114) (cond (Nat.blt pc 112) (cond (Nat.beq pc 111) (some (.ireturn, 112, 0, 0, 0, 0, 0, [])) none) (cond (Nat.beq pc 112) (some (.bipush 6, 114, 0, 0, 0, 0, 6, [])) none)) (cond (Nat.blt pc 115) (cond (Nat.beq pc 114) (some (.ireturn, 115, 0, 0, 0, 0, 0, [])) none) (cond (Nat.blt pc 116) (cond (Nat.beq pc 115) (some (.iconst (-1), 116, 0, 0, 0, 0, -1, [])) none) (cond (Nat.beq pc 116) (some (.ireturn, 117, 0, 0, 0, 0, 0, [])) none))))))
set_option maxRecDepth 100000 in
theorem okX2_ofLetter : chkAll mX2_ofLetter kX2_ofLetter := chk_of (by decide +kernel)
def kX2_isUnderLeft : Nat → Option PO := cdg 21 (fun pc => cond (Nat.blt pc 10) (cond (Nat.blt pc 5) (cond (Nat.blt pc 1) (cond (Nat.beq pc 0) (some (.iload_n 0, 1, 0, 0, 0, 0, 0, [])) none) (cond (Nat.blt pc 2) (cond (Nat.beq pc 1) (some (.iconst 1, 2, 0, 0, 0, 0, 1, [])) none) (cond (Nat.beq pc 2) (some (.if_icmp .eq 13, 5, 15, 0, 0, 0, 0, [])) none))) (cond (Nat.blt pc 6) (cond (Nat.beq pc 5) (some (.iload_n 0, 6, 0, 0, 0, 0, 0, [])) none) (cond (Nat.blt pc 7) (cond (Nat.beq pc 6) (some (.iconst 3, 7, 0, 0, 0, 0, 3, [])) none) (cond (Nat.beq pc 7) (some (.if_icmp .eq 8, 10, 15, 0, 0, 0, 0, [])) none)))) (cond (Nat.blt pc 15) (cond (Nat.blt pc 11) (cond (Nat.beq pc 10) (some (.iload_n 0, 11, 0, 0, 0, 0, 0, [])) none) (cond (Nat.blt pc 12) (cond (Nat.beq pc 11) (some (.iconst 5, 12, 0, 0, 0, 0, 5, [])) none) (cond (Nat.beq pc 12) (some (.if_icmp .ne 7, 15, 19, 0, 0, 0, 0, [])) none))) (cond (Nat.blt pc 19) (cond (Nat.blt pc 16) (cond (Nat.beq pc 15) (some (.iconst 1, 16, 0, 0, 0, 0, 1, [])) none) (cond (Nat.beq pc 16) (some (.goto 4, 19, 20, 0, 0, 0, 0, [])) none)) (cond (Nat.blt pc 20) (cond (Nat.beq pc 19) (some (.iconst 0, 20, 0, 0, 0, 0, 0, [])) none) (cond (Nat.beq pc 20) (some (.ireturn, 21, 1, 0, 0, 0, 0, [])) none)))))
set_option maxRecDepth 100000 in
theorem okX2_isUnderLeft : chkAll mX2_isUnderLeft kX2_isUnderLeft := chk_of (by decide +kernel)
def kX2_isOut : Nat → Option PO := cdg 110 (fun pc => cond (Nat.blt pc 74) (cond (Nat.blt pc 55) (cond (Nat.blt pc 45) (cond (Nat.blt pc 41) (cond (Nat.blt pc 1) (cond (Nat.beq pc 0) (some (.iload_n 0, 1, 0, 0, 0, 0, 0, [])) none) (cond (Nat.blt pc 40) (cond (Nat.beq pc 1) (some (.tableswitch 95 1 6 #[39, 73, 53, 73, 39, 93], 40, 96, 0, 0, 0, 0, [(1, 40), (2, 74), (3, 54), (4, 74), (5, 40), (6, 94)])) none) (cond (Nat.beq pc 40) (some (.iload_n 2, 41, 2, 0, 0, 0, 0, [])) none))) (cond (Nat.blt pc 43) (cond (Nat.beq pc 41) (some (.bipush 10, 43, 0, 0, 0, 0, 10, [])) none) (cond (Nat.blt pc 44) (cond (Nat.beq pc 43) (some (.iload_n 1, 44, 1, 0, 0, 0, 0, [])) none) (cond (Nat.beq pc 44) (some (.imul, 45, 0, 0, 0, 0, 0, [])) none)))) (cond (Nat.blt pc 52) (cond (Nat.blt pc 48) (cond (Nat.beq pc 45) (some (.if_icmp .lt 7, 48, 52, 0, 0, 0, 0, [])) none) (cond (Nat.blt pc 49) (cond (Nat.beq pc 48) (some (.iconst 1, 49, 0, 0, 0, 0, 1, [])) none) (cond (Nat.beq pc 49) (some (.goto 4, 52, 53, 0, 0, 0, 0, [])) none))) (cond (Nat.blt pc 53) (cond (Nat.beq pc 52) (some (.iconst 0, 53, 0, 0, 0, 0, 0, [])) none) (cond (Nat.blt pc 54) (cond (Nat.beq pc 53) (some (.ireturn, 54, 1, 0, 0, 0, 0, [])) none) (cond (Nat.beq pc 54) (some (.iload_n 2, 55, 2, 0, 0, 0, 0, [])) none))))) (cond (Nat.blt pc 64) (cond (Nat.blt pc 59) (cond (Nat.blt pc 57) (cond (Nat.beq pc 55) (some (.bipush 10, 57, 0, 0, 0, 0, 10, [])) none) (cond (Nat.blt pc 58) (cond (Nat.beq pc 57) (some (.iload_n 1, 58, 1, 0, 0, 0, 0, [])) none) (cond (Nat.beq pc 58) (some (.imul, 59, 0, 0, 0, 0, 0, [])) none))) (cond (Nat.blt pc 62) (cond (Nat.beq pc 59) (some (.if_icmp .lt 13, 62, 72, 0, 0, 0, 0, [])) none) (cond (Nat.blt pc 63) (cond (Nat.beq pc 62) (some (.iload_n 2, 63, 2, 0, 0, 0, 0, [])) none) (cond (Nat.beq pc 63) (some (.iconst 2, 64, 0, 0, 0, 0, 2, [])) none)))) (cond (Nat.blt pc 69) (cond (Nat.blt pc 65) (cond (Nat.beq pc 64) (some (.irem, 65, 0, 0, 0, 0, 0, [])) none) (cond (Nat.blt pc 68) (cond (Nat.beq pc 65) (some (.ifCond .ne 7, 68, 72, 0, 0, 0, 0, [])) none) (cond (Nat.beq pc 68) (some (.iconst 1, 69, 0, 0, 0, 0, 1, [])) none))) (cond (Nat.blt pc 72) (cond (Nat.beq pc 69) (some (.goto 4, 72, 73, 0, 0, 0, 0, [])) none) (cond (Nat.blt pc 73) (cond (Nat.beq pc 72) (some (.iconst 0, 73, 0, 0, 0, 0, 0, [])) none) (cond (Nat.beq pc 73) (some (.ireturn, 74, 1, 0, 0, 0, 0, [])) none)))))) (cond (Nat.blt pc 93) (cond (Nat.blt pc 82) (cond (Nat.blt pc 78) (cond (Nat.blt pc 75) (cond (Nat.beq pc 74) (some (.iload_n 2, 75, 2, 0, 0, 0, 0, [])) none) (cond (Nat.blt pc 77) (cond (Nat.beq pc 75) (some (.bipush 20, 77, 0, 0, 0, 0, 20, [])) none) (cond (Nat.beq pc 77) (some (.iadd, 78, 0, 0, 0, 0, 0, [])) none))) (cond (Nat.blt pc 79) (cond (Nat.beq pc 78) (some (.iload_n 1, 79, 1, 0, 0, 0, 0, [])) none) (cond (Nat.blt pc 80) (cond (Nat.beq pc 79) (some (.isub, 80, 0, 0, 0, 0, 0, [])) none) (cond (Nat.beq pc 80) (some (.bipush 20, 82, 0, 0, 0, 0, 20, [])) none)))) (cond (Nat.blt pc 88) (cond (Nat.blt pc 83) (cond (Nat.beq pc 82) (some (.irem, 83, 0, 0, 0, 0, 0, [])) none) (cond (Nat.blt pc 85) (cond (Nat.beq pc 83) (some (.bipush 10, 85, 0, 0, 0, 0, 10, [])) none) (cond (Nat.beq pc 85) (some (.if_icmp .ge 7, 88, 92, 0, 0, 0, 0, [])) none))) (cond (Nat.blt pc 89) (cond (Nat.beq pc 88) (some (.iconst 1, 89, 0, 0, 0, 0, 1, [])) none) (cond (Nat.blt pc 92) (cond (Nat.beq pc 89) (some (.goto 4, 92, 93, 0, 0, 0, 0, [])) none) (cond (Nat.beq pc 92) (some (.iconst 0, 93, 0, 0, 0, 0, 0, [])) none))))) (cond (Nat.blt pc 100) (cond (Nat.blt pc 96) (cond (Nat.blt pc 94) (cond (Nat.beq pc 93) (some (.ireturn, 94, 1, 0, 0, 0, 0, [])) none) (cond (Nat.blt pc 95) (cond (Nat.beq pc 94) (some (.iconst 1, 95, 0, 0, 0, 0, 1, [])) none) (cond (Nat.beq pc 95) (some (.ireturn, 96, 1, 0, 0, 0, 0, [])) none))) (cond (Nat.blt pc 97) (cond (Nat.beq pc 96) (some (.iload_n 2, 97, 2, 0, 0, 0, 0, [])) none) (cond (Nat.blt pc 99) (cond (Nat.beq pc 97) (some (.bipush 20, 99, 0, 0, 0, 0, 20, [])) none) (cond (Nat.beq pc 99) (some (.irem, 100, 0, 0, 0, 0, 0, [])) none)))) (cond (Nat.blt pc 105) (cond (Nat.blt pc 101) (cond (Nat.beq pc 100) (some (.iload_n 1, 101, 1, 0, 0, 0, 0, [])) none) (cond (Nat.blt pc 104) (cond (Nat.beq pc 101) (some (.if_icmp .lt 7, 104, 108, 0, 0, 0, 0, [])) none) (cond (Nat.beq pc 104) (some (.iconst 1, 105, 0, 0, 0, 0, 1, [])) none))) (cond (Nat.blt pc 108) (cond (Nat.beq pc 105) (some (.goto 4, 108, 109, 0, 0, 0, 0, [])) none) (cond (Nat.blt pc 109) (cond (Nat.beq pc 108) (some (.iconst 0, 109, 0, 0, 0, 0, 0, [])) none) (cond (Nat.beq pc 109) (some (.ireturn, 110, 1, 0, 0, 0, 0, [])) none)))))))
set_option maxRecDepth 100000 in
theorem okX2_isOut : chkAll mX2_isOut kX2_isOut := chk_of (by decide +kernel)
def kX2_work : Nat → Option PO := cdg 60 (fun pc => cond (Nat.blt pc 50) (cond (Nat.blt pc 43) (cond (Nat.blt pc 40) (cond (Nat.blt pc 1) (cond (Nat.beq pc 0) (some (.iload_n 0, 1, 0, 0, 0, 0, 0, [])) none) (cond (Nat.beq pc 1) (some (.tableswitch 56 1 6 #[39, 56, 39, 42, 47, 54], 40, 57, 0, 0, 0, 0, [(1, 40), (2, 57), (3, 40), (4, 43), (5, 48), (6, 55)])) none)) (cond (Nat.blt pc 42) (cond (Nat.beq pc 40) (some (.bipush 10, 42, 0, 0, 0, 0, 10, [])) none) (cond (Nat.beq pc 42) (some (.ireturn, 43, 0, 0, 0, 0, 0, [])) none))) (cond (Nat.blt pc 46) (cond (Nat.blt pc 45) (cond (Nat.beq pc 43) (some (.bipush 7, 45, 0, 0, 0, 0, 7, [])) none) (cond (Nat.beq pc 45) (some (.iload_n 1, 46, 1, 0, 0, 0, 0, [])) none)) (cond (Nat.blt pc 47) (cond (Nat.beq pc 46) (some (.iadd, 47, 0, 0, 0, 0, 0, [])) none) (cond (Nat.blt pc 48) (cond (Nat.beq pc 47) (some (.ireturn, 48, 0, 0, 0, 0, 0, [])) none) (cond (Nat.beq pc 48) (some (.bipush 10, 50, 0, 0, 0, 0, 10, [])) none))))) (cond (Nat.blt pc 54) (cond (Nat.blt pc 52) (cond (Nat.blt pc 51) (cond (Nat.beq pc 50) (some (.iload_n 1, 51, 1, 0, 0, 0, 0, [])) none) (cond (Nat.beq pc 51) (some (.iconst 2, 52, 0, 0, 0, 0, 2, [])) none)) (cond (Nat.blt pc 53) (cond (Nat.beq pc 52) (some (.idiv, 53, 0, 0, 0, 0, 0, [])) none) (cond (Nat.beq pc 53) (some (.iadd, 54, 0, 0, 0, 0, 0, [])) none))) (cond (Nat.blt pc 56) (cond (Nat.blt pc 55) (cond (Nat.beq pc 54) (some (.ireturn, 55, 0, 0, 0, 0, 0, [])) none) (cond (Nat.beq pc 55) (some (.iconst 3, 56, 0, 0, 0, 0, 3, [])) none)) (cond (Nat.blt pc 57) (cond (Nat.beq pc 56) (some (.ireturn, 57, 0, 0, 0, 0, 0, [])) none) (cond (Nat.blt pc 59) (cond (Nat.beq pc 57) (some (.bipush 7, 59, 0, 0, 0, 0, 7, [])) none) (cond (Nat.beq pc 59) (some (.ireturn, 60, 0, 0, 0, 0, 0, [])) none))))))
set_option maxRecDepth 100000 in
theorem okX2_work : chkAll mX2_work kX2_work := chk_of (by decide +kernel)
def kX2_linen : Nat → Option PO := cdg 48 (fun pc => cond (Nat.blt pc 43) (cond (Nat.blt pc 40) (cond (Nat.blt pc 1) (cond (Nat.beq pc 0) (some (.iload_n 0, 1, 0, 0, 0, 0, 0, [])) none) (cond (Nat.beq pc 1) (some (.tableswitch 45 1 6 #[39, 45, 39, 39, 41, 43], 40, 46, 0, 0, 0, 0, [(1, 40), (2, 46), (3, 40), (4, 40), (5, 42), (6, 44)])) none)) (cond (Nat.blt pc 41) (cond (Nat.beq pc 40) (some (.iconst 2, 41, 0, 0, 0, 0, 2, [])) none) (cond (Nat.blt pc 42) (cond (Nat.beq pc 41) (some (.ireturn, 42, 0, 0, 0, 0, 0, [])) none) (cond (Nat.beq pc 42) (some (.iconst 3, 43, 0, 0, 0, 0, 3, [])) none)))) (cond (Nat.blt pc 45) (cond (Nat.blt pc 44) (cond (Nat.beq pc 43) (some (.ireturn, 44, 0, 0, 0, 0, 0, [])) none) (cond (Nat.beq pc 44) (some (.iconst 0, 45, 0, 0, 0, 0, 0, [])) none)) (cond (Nat.blt pc 46) (cond (Nat.beq pc 45) (some (.ireturn, 46, 0, 0, 0, 0, 0, [])) none) (cond (Nat.blt pc 47) (cond (Nat.beq pc 46) (some (.iconst 1, 47, 0, 0, 0, 0, 1, [])) none) (cond (Nat.beq pc 47) (some (.ireturn, 48, 0, 0, 0, 0, 0, [])) none)))))
set_option maxRecDepth 100000 in
theorem okX2_linen : chkAll mX2_linen kX2_linen := chk_of (by decide +kernel)
def kX2_tip : Nat → Option PO := cdg 46 (fun pc => cond (Nat.blt pc 38) (cond (Nat.blt pc 34) (cond (Nat.blt pc 32) (cond (Nat.blt pc 1) (cond (Nat.beq pc 0) (some (.iload_n 0, 1, 0, 0, 0, 0, 0, [])) none) (cond (Nat.beq pc 1) (some (.tableswitch 43 2 5 #[31, 33, 37, 39], 32, 44, 0, 0, 0, 0, [(2, 32), (3, 34), (4, 38), (5, 40)])) none)) (cond (Nat.blt pc 33) (cond (Nat.beq pc 32) (some (.iconst 0, 33, 0, 0, 0, 0, 0, [])) none) (cond (Nat.beq pc 33) (some (.ireturn, 34, 0, 0, 0, 0, 0, [])) none))) (cond (Nat.blt pc 36) (cond (Nat.blt pc 35) (cond (Nat.beq pc 34) (some (.iconst 2, 35, 0, 0, 0, 0, 2, [])) none) (cond (Nat.beq pc 35) (some (.iload_n 1, 36, 1, 0, 0, 0, 0, [])) none)) (cond (Nat.blt pc 37) (cond (Nat.beq pc 36) (some (.imul, 37, 0, 0, 0, 0, 0, [])) none) (cond (Nat.beq pc 37) (some (.ireturn, 38, 0, 0, 0, 0, 0, [])) none)))) (cond (Nat.blt pc 42) (cond (Nat.blt pc 40) (cond (Nat.blt pc 39) (cond (Nat.beq pc 38) (some (.iconst 3, 39, 0, 0, 0, 0, 3, [])) none) (cond (Nat.beq pc 39) (some (.ireturn, 40, 0, 0, 0, 0, 0, [])) none)) (cond (Nat.blt pc 41) (cond (Nat.beq pc 40) (some (.iload_n 1, 41, 1, 0, 0, 0, 0, [])) none) (cond (Nat.beq pc 41) (some (.iconst 1, 42, 0, 0, 0, 0, 1, [])) none))) (cond (Nat.blt pc 44) (cond (Nat.blt pc 43) (cond (Nat.beq pc 42) (some (.iadd, 43, 0, 0, 0, 0, 0, [])) none) (cond (Nat.beq pc 43) (some (.ireturn, 44, 0, 0, 0, 0, 0, [])) none)) (cond (Nat.blt pc 45) (cond (Nat.beq pc 44) (some (.iload_n 1, 45, 1, 0, 0, 0, 0, [])) none) (cond (Nat.beq pc 45) (some (.ireturn, 46, 0, 0, 0, 0, 0, [])) none)))))
set_option maxRecDepth 100000 in
theorem okX2_tip : chkAll mX2_tip kX2_tip := chk_of (by decide +kernel)
def kX3_length : Nat → Option PO := cdg 5 (fun pc => cond (Nat.blt pc 1) (cond (Nat.beq pc 0) (some (.aload_n 0, 1, 0, 0, 0, 0, 0, [])) none) (cond (Nat.blt pc 4) (cond (Nat.beq pc 1) (some (.getfield 15, 4, 2, 1, 11, 0, 0, [])) none) (cond (Nat.beq pc 4) (some (.ireturn, 5, 0, 0, 0, 0, 0, [])) none)))
set_option maxRecDepth 100000 in
theorem okX3_length : chkAll mX3_length kX3_length := chk_of (by decide +kernel)
def kX3_isFull : Nat → Option PO := cdg 18 (fun pc => cond (Nat.blt pc 9) (cond (Nat.blt pc 4) (cond (Nat.blt pc 1) (cond (Nat.beq pc 0) (some (.aload_n 0, 1, 0, 0, 0, 0, 0, [])) none) (cond (Nat.beq pc 1) (some (.getfield 15, 4, 2, 1, 11, 0, 0, [])) none)) (cond (Nat.blt pc 5) (cond (Nat.beq pc 4) (some (.aload_n 0, 5, 0, 0, 0, 0, 0, [])) none) (cond (Nat.blt pc 8) (cond (Nat.beq pc 5) (some (.getfield 11, 8, 2, 0, 10, 0, 0, [])) none) (cond (Nat.beq pc 8) (some (.arraylength, 9, 0, 0, 0, 0, 0, [])) none)))) (cond (Nat.blt pc 13) (cond (Nat.blt pc 12) (cond (Nat.beq pc 9) (some (.if_icmp .lt 7, 12, 16, 0, 0, 0, 0, [])) none) (cond (Nat.beq pc 12) (some (.iconst 1, 13, 0, 0, 0, 0, 1, [])) none)) (cond (Nat.blt pc 16) (cond (Nat.beq pc 13) (some (.goto 4, 16, 17, 0, 0, 0, 0, [])) none) (cond (Nat.blt pc 17) (cond (Nat.beq pc 16) (some (.iconst 0, 17, 0, 0, 0, 0, 0, [])) none) (cond (Nat.beq pc 17) (some (.ireturn, 18, 1, 0, 0, 0, 0, [])) none)))))
set_option maxRecDepth 100000 in
theorem okX3_isFull : chkAll mX3_isFull kX3_isFull := chk_of (by decide +kernel)
def kX3_take : Nat → Option PO := cdg 44 (fun pc => cond (Nat.blt pc 24) (cond (Nat.blt pc 12) (cond (Nat.blt pc 7) (cond (Nat.blt pc 1) (cond (Nat.beq pc 0) (some (.aload_n 0, 1, 0, 0, 0, 0, 0, [])) none) (cond (Nat.blt pc 4) (cond (Nat.beq pc 1) (some (.getfield 15, 4, 2, 1, 11, 0, 0, [])) none) (cond (Nat.beq pc 4) (some (.ifCond .lt 35, 7, 39, 0, 0, 0, 0, [])) none))) (cond (Nat.blt pc 8) (cond (Nat.beq pc 7) (some (.aload_n 0, 8, 0, 0, 0, 0, 0, [])) none) (cond (Nat.blt pc 11) (cond (Nat.beq pc 8) (some (.getfield 15, 11, 2, 1, 11, 0, 0, [])) none) (cond (Nat.beq pc 11) (some (.aload_n 0, 12, 0, 0, 0, 0, 0, [])) none)))) (cond (Nat.blt pc 19) (cond (Nat.blt pc 15) (cond (Nat.beq pc 12) (some (.getfield 11, 15, 2, 0, 10, 0, 0, [])) none) (cond (Nat.blt pc 16) (cond (Nat.beq pc 15) (some (.arraylength, 16, 0, 0, 0, 0, 0, [])) none) (cond (Nat.beq pc 16) (some (.if_icmp .ge 23, 19, 39, 0, 0, 0, 0, [])) none))) (cond (Nat.blt pc 20) (cond (Nat.beq pc 19) (some (.aload_n 0, 20, 0, 0, 0, 0, 0, [])) none) (cond (Nat.blt pc 23) (cond (Nat.beq pc 20) (some (.getfield 11, 23, 2, 0, 10, 0, 0, [])) none) (cond (Nat.beq pc 23) (some (.aload_n 0, 24, 0, 0, 0, 0, 0, [])) none))))) (cond (Nat.blt pc 34) (cond (Nat.blt pc 29) (cond (Nat.blt pc 27) (cond (Nat.beq pc 24) (some (.getfield 15, 27, 2, 1, 11, 0, 0, [])) none) (cond (Nat.blt pc 28) (cond (Nat.beq pc 27) (some (.iload_n 1, 28, 1, 0, 0, 0, 0, [])) none) (cond (Nat.beq pc 28) (some (.iastore, 29, 0, 0, 0, 0, 0, [])) none))) (cond (Nat.blt pc 30) (cond (Nat.beq pc 29) (some (.aload_n 0, 30, 0, 0, 0, 0, 0, [])) none) (cond (Nat.blt pc 31) (cond (Nat.beq pc 30) (some (.dup, 31, 0, 0, 0, 0, 0, [])) none) (cond (Nat.beq pc 31) (some (.getfield 15, 34, 2, 1, 11, 0, 0, [])) none)))) (cond (Nat.blt pc 39) (cond (Nat.blt pc 35) (cond (Nat.beq pc 34) (some (.iconst 1, 35, 0, 0, 0, 0, 1, [])) none) (cond (Nat.blt pc 36) (cond (Nat.beq pc 35) (some (.iadd, 36, 0, 0, 0, 0, 0, [])) none) (cond (Nat.beq pc 36) (some (.putfield 15, 39, 2, 1, 11, 0, 0, [])) none))) (cond (Nat.blt pc 40) (cond (Nat.beq pc 39) (some (.aload_n 0, 40, 0, 0, 0, 0, 0, [])) none) (cond (Nat.blt pc 43) (cond (Nat.beq pc 40) (some (.getfield 15, 43, 2, 1, 11, 0, 0, [])) none) (cond (Nat.beq pc 43) (some (.ireturn, 44, 0, 0, 0, 0, 0, [])) none))))))
set_option maxRecDepth 100000 in
theorem okX3_take : chkAll mX3_take kX3_take := chk_of (by decide +kernel)
def kX3_forget : Nat → Option PO := cdg 6 (fun pc => cond (Nat.blt pc 2) (cond (Nat.blt pc 1) (cond (Nat.beq pc 0) (some (.aload_n 0, 1, 0, 0, 0, 0, 0, [])) none) (cond (Nat.beq pc 1) (some (.iconst 0, 2, 0, 0, 0, 0, 0, [])) none)) (cond (Nat.blt pc 5) (cond (Nat.beq pc 2) (some (.putfield 15, 5, 2, 1, 11, 0, 0, [])) none) (cond (Nat.beq pc 5) (some (.return_, 6, 0, 0, 0, 0, 0, [])) none)))
set_option maxRecDepth 100000 in
theorem okX3_forget : chkAll mX3_forget kX3_forget := chk_of (by decide +kernel)
def kX3_tellTo : Nat → Option PO := cdg 67 (fun pc => cond (Nat.blt pc 31) (cond (Nat.blt pc 15) (cond (Nat.blt pc 6) (cond (Nat.blt pc 4) (cond (Nat.blt pc 1) (cond (Nat.beq pc 0) (some (.aload_n 0, 1, 0, 0, 0, 0, 0, [])) none) (cond (Nat.beq pc 1) (some (.invokevirtual 19, 4, 58, 0, 8, 2, 0, [])) none)) (cond (Nat.blt pc 5) (cond (Nat.beq pc 4) (some (.istore_n 2, 5, 2, 0, 0, 0, 0, [])) none) (cond (Nat.beq pc 5) (some (.iload_n 2, 6, 2, 0, 0, 0, 0, [])) none))) (cond (Nat.blt pc 12) (cond (Nat.blt pc 9) (cond (Nat.beq pc 6) (some (.ifCond .lt 9, 9, 15, 0, 0, 0, 0, [])) none) (cond (Nat.beq pc 9) (some (.sipush (-1000), 12, 0, 0, 0, 0, -1000, [])) none)) (cond (Nat.blt pc 13) (cond (Nat.beq pc 12) (some (.iload_n 2, 13, 2, 0, 0, 0, 0, [])) none) (cond (Nat.blt pc 14) (cond (Nat.beq pc 13) (some (.isub, 14, 0, 0, 0, 0, 0, [])) none) (cond (Nat.beq pc 14) (some (.ireturn, 15, 0, 0, 0, 0, 0, [])) none))))) (cond (Nat.blt pc 22) (cond (Nat.blt pc 17) (cond (Nat.blt pc 16) (cond (Nat.beq pc 15) (some (.iconst 0, 16, 0, 0, 0, 0, 0, [])) none) (cond (Nat.beq pc 16) (some (.istore_n 3, 17, 3, 0, 0, 0, 0, [])) none)) (cond (Nat.blt pc 18) (cond (Nat.beq pc 17) (some (.iconst 0, 18, 0, 0, 0, 0, 0, [])) none) (cond (Nat.blt pc 20) (cond (Nat.beq pc 18) (some (.istore 4, 20, 4, 0, 0, 0, 0, [])) none) (cond (Nat.beq pc 20) (some (.iload 4, 22, 4, 0, 0, 0, 0, [])) none)))) (cond (Nat.blt pc 26) (cond (Nat.blt pc 23) (cond (Nat.beq pc 22) (some (.aload_n 0, 23, 0, 0, 0, 0, 0, [])) none) (cond (Nat.beq pc 23) (some (.getfield 15, 26, 2, 1, 11, 0, 0, [])) none)) (cond (Nat.blt pc 29) (cond (Nat.beq pc 26) (some (.if_icmp .ge 38, 29, 64, 0, 0, 0, 0, [])) none) (cond (Nat.blt pc 30) (cond (Nat.beq pc 29) (some (.iload_n 3, 30, 3, 0, 0, 0, 0, [])) none) (cond (Nat.beq pc 30) (some (.aload_n 0, 31, 0, 0, 0, 0, 0, [])) none)))))) (cond (Nat.blt pc 50) (cond (Nat.blt pc 39) (cond (Nat.blt pc 37) (cond (Nat.blt pc 34) (cond (Nat.beq pc 31) (some (.getfield 15, 34, 2, 1, 11, 0, 0, [])) none) (cond (Nat.beq pc 34) (some (.if_icmp .ge 30, 37, 64, 0, 0, 0, 0, [])) none)) (cond (Nat.blt pc 38) (cond (Nat.beq pc 37) (some (.aload_n 0, 38, 0, 0, 0, 0, 0, [])) none) (cond (Nat.beq pc 38) (some (.iload_n 3, 39, 3, 0, 0, 0, 0, [])) none))) (cond (Nat.blt pc 43) (cond (Nat.blt pc 40) (cond (Nat.beq pc 39) (some (.aload_n 1, 40, 1, 0, 0, 0, 0, [])) none) (cond (Nat.beq pc 40) (some (.invokevirtual 23, 43, 64, 2, 15, 2, 0, [])) none)) (cond (Nat.blt pc 46) (cond (Nat.beq pc 43) (some (.ifCond .ne 9, 46, 52, 0, 0, 0, 0, [])) none) (cond (Nat.blt pc 49) (cond (Nat.beq pc 46) (some (.sipush (-2000), 49, 0, 0, 0, 0, -2000, [])) none) (cond (Nat.beq pc 49) (some (.iload_n 3, 50, 3, 0, 0, 0, 0, [])) none))))) (cond (Nat.blt pc 57) (cond (Nat.blt pc 52) (cond (Nat.blt pc 51) (cond (Nat.beq pc 50) (some (.isub, 51, 0, 0, 0, 0, 0, [])) none) (cond (Nat.beq pc 51) (some (.ireturn, 52, 0, 0, 0, 0, 0, [])) none)) (cond (Nat.blt pc 53) (cond (Nat.beq pc 52) (some (.aload_n 0, 53, 0, 0, 0, 0, 0, [])) none) (cond (Nat.blt pc 54) (cond (Nat.beq pc 53) (some (.iload_n 3, 54, 3, 0, 0, 0, 0, [])) none) (cond (Nat.beq pc 54) (some (.invokevirtual 27, 57, 59, 1, 14, 2, 0, [])) none)))) (cond (Nat.blt pc 61) (cond (Nat.blt pc 58) (cond (Nat.beq pc 57) (some (.istore_n 3, 58, 3, 0, 0, 0, 0, [])) none) (cond (Nat.beq pc 58) (some (.iinc 4 1, 61, 4, 0, 0, 0, 1, [])) none)) (cond (Nat.blt pc 64) (cond (Nat.beq pc 61) (some (.goto (-41), 64, 20, 0, 0, 0, 0, [])) none) (cond (Nat.blt pc 66) (cond (Nat.beq pc 64) (some (.iload 4, 66, 4, 0, 0, 0, 0, [])) none) (cond (Nat.beq pc 66) (some (.ireturn, 67, 0, 0, 0, 0, 0, [])) none)))))))
set_option maxRecDepth 100000 in
theorem okX3_tellTo : chkAll mX3_tellTo kX3_tellTo := chk_of (by decide +kernel)
def kX3_wrongLetter : Nat → Option PO := cdg 55 (fun pc => cond (Nat.blt pc 26) (cond (Nat.blt pc 12) (cond (Nat.blt pc 8) (cond (Nat.blt pc 4) (cond (Nat.blt pc 1) (cond (Nat.beq pc 0) (some (.aload_n 0, 1, 0, 0, 0, 0, 0, [])) none) (cond (Nat.beq pc 1) (some (.getfield 15, 4, 2, 1, 11, 0, 0, [])) none)) (cond (Nat.blt pc 7) (cond (Nat.beq pc 4) (some (.ifCond .ne 5, 7, 9, 0, 0, 0, 0, [])) none) (cond (Nat.beq pc 7) (some (.iconst 0, 8, 0, 0, 0, 0, 0, [])) none))) (cond (Nat.blt pc 10) (cond (Nat.blt pc 9) (cond (Nat.beq pc 8) (some (.ireturn, 9, 0, 0, 0, 0, 0, [])) none) (cond (Nat.beq pc 9) (some (.iconst 0, 10, 0, 0, 0, 0, 0, [])) none)) (cond (Nat.blt pc 11) (cond (Nat.beq pc 10) (some (.istore_n 1, 11, 1, 0, 0, 0, 0, [])) none) (cond (Nat.beq pc 11) (some (.iconst 0, 12, 0, 0, 0, 0, 0, [])) none)))) (cond (Nat.blt pc 18) (cond (Nat.blt pc 14) (cond (Nat.blt pc 13) (cond (Nat.beq pc 12) (some (.istore_n 2, 13, 2, 0, 0, 0, 0, [])) none) (cond (Nat.beq pc 13) (some (.iload_n 2, 14, 2, 0, 0, 0, 0, [])) none)) (cond (Nat.blt pc 15) (cond (Nat.beq pc 14) (some (.aload_n 0, 15, 0, 0, 0, 0, 0, [])) none) (cond (Nat.beq pc 15) (some (.getfield 15, 18, 2, 1, 11, 0, 0, [])) none))) (cond (Nat.blt pc 22) (cond (Nat.blt pc 21) (cond (Nat.beq pc 18) (some (.if_icmp .ge 35, 21, 53, 0, 0, 0, 0, [])) none) (cond (Nat.beq pc 21) (some (.iload_n 1, 22, 1, 0, 0, 0, 0, [])) none)) (cond (Nat.blt pc 23) (cond (Nat.beq pc 22) (some (.aload_n 0, 23, 0, 0, 0, 0, 0, [])) none) (cond (Nat.beq pc 23) (some (.getfield 15, 26, 2, 1, 11, 0, 0, [])) none))))) (cond (Nat.blt pc 40) (cond (Nat.blt pc 34) (cond (Nat.blt pc 30) (cond (Nat.blt pc 29) (cond (Nat.beq pc 26) (some (.if_icmp .ge 27, 29, 53, 0, 0, 0, 0, [])) none) (cond (Nat.beq pc 29) (some (.aload_n 0, 30, 0, 0, 0, 0, 0, [])) none)) (cond (Nat.blt pc 31) (cond (Nat.beq pc 30) (some (.iload_n 1, 31, 1, 0, 0, 0, 0, [])) none) (cond (Nat.beq pc 31) (some (.invokevirtual 31, 34, 60, 1, 9, 2, 0, [])) none))) (cond (Nat.blt pc 36) (cond (Nat.blt pc 35) (cond (Nat.beq pc 34) (some (.istore_n 3, 35, 3, 0, 0, 0, 0, [])) none) (cond (Nat.beq pc 35) (some (.iload_n 3, 36, 3, 0, 0, 0, 0, [])) none)) (cond (Nat.blt pc 39) (cond (Nat.beq pc 36) (some (.ifCond .lt 5, 39, 41, 0, 0, 0, 0, [])) none) (cond (Nat.beq pc 39) (some (.iload_n 3, 40, 3, 0, 0, 0, 0, [])) none)))) (cond (Nat.blt pc 46) (cond (Nat.blt pc 42) (cond (Nat.blt pc 41) (cond (Nat.beq pc 40) (some (.ireturn, 41, 0, 0, 0, 0, 0, [])) none) (cond (Nat.beq pc 41) (some (.aload_n 0, 42, 0, 0, 0, 0, 0, [])) none)) (cond (Nat.blt pc 43) (cond (Nat.beq pc 42) (some (.iload_n 1, 43, 1, 0, 0, 0, 0, [])) none) (cond (Nat.beq pc 43) (some (.invokevirtual 27, 46, 59, 1, 14, 2, 0, [])) none))) (cond (Nat.blt pc 50) (cond (Nat.blt pc 47) (cond (Nat.beq pc 46) (some (.istore_n 1, 47, 1, 0, 0, 0, 0, [])) none) (cond (Nat.beq pc 47) (some (.iinc 2 1, 50, 2, 0, 0, 0, 1, [])) none)) (cond (Nat.blt pc 53) (cond (Nat.beq pc 50) (some (.goto (-37), 53, 13, 0, 0, 0, 0, [])) none) (cond (Nat.blt pc 54) (cond (Nat.beq pc 53) (some (.iconst (-1), 54, 0, 0, 0, 0, -1, [])) none) (cond (Nat.beq pc 54) (some (.ireturn, 55, 0, 0, 0, 0, 0, [])) none)))))))
set_option maxRecDepth 100000 in
theorem okX3_wrongLetter : chkAll mX3_wrongLetter kX3_wrongLetter := chk_of (by decide +kernel)
def kX3_behindStatement : Nat → Option PO := cdg 13 (fun pc => cond (Nat.blt pc 6) (cond (Nat.blt pc 2) (cond (Nat.blt pc 1) (cond (Nat.beq pc 0) (some (.iload_n 1, 1, 1, 0, 0, 0, 0, [])) none) (cond (Nat.beq pc 1) (some (.aload_n 0, 2, 0, 0, 0, 0, 0, [])) none)) (cond (Nat.blt pc 3) (cond (Nat.beq pc 2) (some (.iload_n 1, 3, 1, 0, 0, 0, 0, [])) none) (cond (Nat.beq pc 3) (some (.invokevirtual 34, 6, 63, 1, 10, 2, 0, [])) none))) (cond (Nat.blt pc 10) (cond (Nat.blt pc 9) (cond (Nat.beq pc 6) (some (.invokestatic 37, 9, 61, 1, 11, 0, 0, [])) none) (cond (Nat.beq pc 9) (some (.iadd, 10, 0, 0, 0, 0, 0, [])) none)) (cond (Nat.blt pc 11) (cond (Nat.beq pc 10) (some (.iconst 2, 11, 0, 0, 0, 0, 2, [])) none) (cond (Nat.blt pc 12) (cond (Nat.beq pc 11) (some (.iadd, 12, 0, 0, 0, 0, 0, [])) none) (cond (Nat.beq pc 12) (some (.ireturn, 13, 0, 0, 0, 0, 0, [])) none)))))
set_option maxRecDepth 100000 in
theorem okX3_behindStatement : chkAll mX3_behindStatement kX3_behindStatement := chk_of (by decide +kernel)
def kX3_wrongInStatement : Nat → Option PO := cdg 73 (fun pc => cond (Nat.blt pc 35) (cond (Nat.blt pc 17) (cond (Nat.blt pc 9) (cond (Nat.blt pc 2) (cond (Nat.blt pc 1) (cond (Nat.beq pc 0) (some (.aload_n 0, 1, 0, 0, 0, 0, 0, [])) none) (cond (Nat.beq pc 1) (some (.iload_n 1, 2, 1, 0, 0, 0, 0, [])) none)) (cond (Nat.blt pc 5) (cond (Nat.beq pc 2) (some (.invokevirtual 34, 5, 63, 1, 10, 2, 0, [])) none) (cond (Nat.blt pc 8) (cond (Nat.beq pc 5) (some (.invokestatic 37, 8, 61, 1, 11, 0, 0, [])) none) (cond (Nat.beq pc 8) (some (.istore_n 2, 9, 2, 0, 0, 0, 0, [])) none)))) (cond (Nat.blt pc 14) (cond (Nat.blt pc 10) (cond (Nat.beq pc 9) (some (.iload_n 2, 10, 2, 0, 0, 0, 0, [])) none) (cond (Nat.blt pc 13) (cond (Nat.beq pc 10) (some (.ifCond .ne 5, 13, 15, 0, 0, 0, 0, [])) none) (cond (Nat.beq pc 13) (some (.iload_n 1, 14, 1, 0, 0, 0, 0, [])) none))) (cond (Nat.blt pc 15) (cond (Nat.beq pc 14) (some (.ireturn, 15, 0, 0, 0, 0, 0, [])) none) (cond (Nat.blt pc 16) (cond (Nat.beq pc 15) (some (.iconst 1, 16, 0, 0, 0, 0, 1, [])) none) (cond (Nat.beq pc 16) (some (.istore_n 3, 17, 3, 0, 0, 0, 0, [])) none))))) (cond (Nat.blt pc 25) (cond (Nat.blt pc 22) (cond (Nat.blt pc 18) (cond (Nat.beq pc 17) (some (.iload_n 3, 18, 3, 0, 0, 0, 0, [])) none) (cond (Nat.blt pc 19) (cond (Nat.beq pc 18) (some (.iload_n 2, 19, 2, 0, 0, 0, 0, [])) none) (cond (Nat.beq pc 19) (some (.if_icmp .gt 32, 22, 51, 0, 0, 0, 0, [])) none))) (cond (Nat.blt pc 23) (cond (Nat.beq pc 22) (some (.iload_n 1, 23, 1, 0, 0, 0, 0, [])) none) (cond (Nat.blt pc 24) (cond (Nat.beq pc 23) (some (.iload_n 3, 24, 3, 0, 0, 0, 0, [])) none) (cond (Nat.beq pc 24) (some (.iadd, 25, 0, 0, 0, 0, 0, [])) none)))) (cond (Nat.blt pc 32) (cond (Nat.blt pc 26) (cond (Nat.beq pc 25) (some (.aload_n 0, 26, 0, 0, 0, 0, 0, [])) none) (cond (Nat.blt pc 29) (cond (Nat.beq pc 26) (some (.getfield 15, 29, 2, 1, 11, 0, 0, [])) none) (cond (Nat.beq pc 29) (some (.if_icmp .ge 12, 32, 41, 0, 0, 0, 0, [])) none))) (cond (Nat.blt pc 33) (cond (Nat.beq pc 32) (some (.aload_n 0, 33, 0, 0, 0, 0, 0, [])) none) (cond (Nat.blt pc 34) (cond (Nat.beq pc 33) (some (.iload_n 1, 34, 1, 0, 0, 0, 0, [])) none) (cond (Nat.beq pc 34) (some (.iload_n 3, 35, 3, 0, 0, 0, 0, [])) none)))))) (cond (Nat.blt pc 54) (cond (Nat.blt pc 44) (cond (Nat.blt pc 41) (cond (Nat.blt pc 38) (cond (Nat.beq pc 35) (some (.invokevirtual 40, 38, 62, 2, 12, 2, 0, [])) none) (cond (Nat.beq pc 38) (some (.ifCond .ne 7, 41, 45, 0, 0, 0, 0, [])) none)) (cond (Nat.blt pc 42) (cond (Nat.beq pc 41) (some (.iload_n 1, 42, 1, 0, 0, 0, 0, [])) none) (cond (Nat.blt pc 43) (cond (Nat.beq pc 42) (some (.iload_n 3, 43, 3, 0, 0, 0, 0, [])) none) (cond (Nat.beq pc 43) (some (.iadd, 44, 0, 0, 0, 0, 0, [])) none)))) (cond (Nat.blt pc 51) (cond (Nat.blt pc 45) (cond (Nat.beq pc 44) (some (.ireturn, 45, 0, 0, 0, 0, 0, [])) none) (cond (Nat.blt pc 48) (cond (Nat.beq pc 45) (some (.iinc 3 1, 48, 3, 0, 0, 0, 1, [])) none) (cond (Nat.beq pc 48) (some (.goto (-31), 51, 17, 0, 0, 0, 0, [])) none))) (cond (Nat.blt pc 52) (cond (Nat.beq pc 51) (some (.iload_n 1, 52, 1, 0, 0, 0, 0, [])) none) (cond (Nat.blt pc 53) (cond (Nat.beq pc 52) (some (.iload_n 2, 53, 2, 0, 0, 0, 0, [])) none) (cond (Nat.beq pc 53) (some (.iadd, 54, 0, 0, 0, 0, 0, [])) none))))) (cond (Nat.blt pc 62) (cond (Nat.blt pc 57) (cond (Nat.blt pc 55) (cond (Nat.beq pc 54) (some (.iconst 1, 55, 0, 0, 0, 0, 1, [])) none) (cond (Nat.blt pc 56) (cond (Nat.beq pc 55) (some (.iadd, 56, 0, 0, 0, 0, 0, [])) none) (cond (Nat.beq pc 56) (some (.istore_n 3, 57, 3, 0, 0, 0, 0, [])) none))) (cond (Nat.blt pc 58) (cond (Nat.beq pc 57) (some (.aload_n 0, 58, 0, 0, 0, 0, 0, [])) none) (cond (Nat.blt pc 59) (cond (Nat.beq pc 58) (some (.iload_n 3, 59, 3, 0, 0, 0, 0, [])) none) (cond (Nat.beq pc 59) (some (.invokevirtual 34, 62, 63, 1, 10, 2, 0, [])) none)))) (cond (Nat.blt pc 68) (cond (Nat.blt pc 64) (cond (Nat.beq pc 62) (some (.bipush 59, 64, 0, 0, 0, 0, 59, [])) none) (cond (Nat.blt pc 67) (cond (Nat.beq pc 64) (some (.if_icmp .ne 7, 67, 71, 0, 0, 0, 0, [])) none) (cond (Nat.beq pc 67) (some (.iconst (-1), 68, 0, 0, 0, 0, -1, [])) none))) (cond (Nat.blt pc 71) (cond (Nat.beq pc 68) (some (.goto 4, 71, 72, 0, 0, 0, 0, [])) none) (cond (Nat.blt pc 72) (cond (Nat.beq pc 71) (some (.iload_n 3, 72, 3, 0, 0, 0, 0, [])) none) (cond (Nat.beq pc 72) (some (.ireturn, 73, 0, 0, 0, 0, 0, [])) none)))))))
set_option maxRecDepth 100000 in
theorem okX3_wrongInStatement : chkAll mX3_wrongInStatement kX3_wrongInStatement := chk_of (by decide +kernel)
def kX3_signsOf : Nat → Option PO := cdg 110 (fun pc => cond (Nat.blt pc 104) (cond (Nat.blt pc 101) (cond (Nat.blt pc 1) (cond (Nat.beq pc 0) (some (.iload_n 0, 1, 0, 0, 0, 0, 0, [])) none) (cond (Nat.blt pc 100) (cond (Nat.beq pc 1) (some (.tableswitch 107 98 118 #[99, 99, 99, 107, 107, 107, 107, 107, 107, 107, 107, 103, 107, 107, 107, 107, 101, 107, 105, 107, 101], 100, 108, 0, 0, 0, 0, [(98, 100), (99, 100), (100, 100), (101, 108), (102, 108), (103, 108), (104, 108), (105, 108), (106, 108), (107, 108), (108, 108), (109, 104), (110, 108), (111, 108), (112, 108), (113, 108), (114, 102), (115, 108), (116, 106), (117, 108), (118, 102)])) none) (cond (Nat.beq pc 100) (some (.iconst 1, 101, 0, 0, 0, 0, 1, [])) none))) (cond (Nat.blt pc 102) (cond (Nat.beq pc 101) (some (.ireturn, 102, 0, 0, 0, 0, 0, [])) none) (cond (Nat.blt pc 103) (cond (Nat.beq pc 102) (some (.iconst 2, 103, 0, 0, 0, 0, 2, [])) none) (cond (Nat.beq pc 103) (some (.ireturn, 104, 0, 0, 0, 0, 0, [])) none)))) (cond (Nat.blt pc 107) (cond (Nat.blt pc 105) (cond (Nat.beq pc 104) (some (.iconst 3, 105, 0, 0, 0, 0, 3, [])) none) (cond (Nat.blt pc 106) (cond (Nat.beq pc 105) (some (.ireturn, 106, 0, 0, 0, 0, 0, [])) none) (cond (Nat.beq pc 106) (some (.iconst 4, 107, 0, 0, 0, 0, 4, [])) none))) (cond (Nat.blt pc 108) (cond (Nat.beq pc 107) (some (.ireturn, 108, 0, 0, 0, 0, 0, [])) none) (cond (Nat.blt pc 109) (cond (Nat.beq pc 108) (some (.iconst 0, 109, 0, 0, 0, 0, 0, [])) none) (cond (Nat.beq pc 109) (some (.ireturn, 110, 0, 0, 0, 0, 0, [])) none)))))
set_option maxRecDepth 100000 in
theorem okX3_signsOf : chkAll mX3_signsOf kX3_signsOf := chk_of (by decide +kernel)
def kX3_isSign : Nat → Option PO := cdg 54 (fun pc => cond (Nat.blt pc 24) (cond (Nat.blt pc 9) (cond (Nat.blt pc 3) (cond (Nat.blt pc 1) (cond (Nat.beq pc 0) (some (.aload_n 0, 1, 0, 0, 0, 0, 0, [])) none) (cond (Nat.blt pc 2) (cond (Nat.beq pc 1) (some (.iload_n 1, 2, 1, 0, 0, 0, 0, [])) none) (cond (Nat.beq pc 2) (some (.iload_n 2, 3, 2, 0, 0, 0, 0, [])) none))) (cond (Nat.blt pc 7) (cond (Nat.blt pc 4) (cond (Nat.beq pc 3) (some (.iadd, 4, 0, 0, 0, 0, 0, [])) none) (cond (Nat.beq pc 4) (some (.invokevirtual 34, 7, 63, 1, 10, 2, 0, [])) none)) (cond (Nat.blt pc 8) (cond (Nat.beq pc 7) (some (.istore_n 3, 8, 3, 0, 0, 0, 0, [])) none) (cond (Nat.beq pc 8) (some (.aload_n 0, 9, 0, 0, 0, 0, 0, [])) none)))) (cond (Nat.blt pc 18) (cond (Nat.blt pc 13) (cond (Nat.blt pc 10) (cond (Nat.beq pc 9) (some (.iload_n 1, 10, 1, 0, 0, 0, 0, [])) none) (cond (Nat.beq pc 10) (some (.invokevirtual 34, 13, 63, 1, 10, 2, 0, [])) none)) (cond (Nat.blt pc 15) (cond (Nat.beq pc 13) (some (.bipush 114, 15, 0, 0, 0, 0, 114, [])) none) (cond (Nat.beq pc 15) (some (.if_icmp .ne 21, 18, 36, 0, 0, 0, 0, [])) none))) (cond (Nat.blt pc 20) (cond (Nat.blt pc 19) (cond (Nat.beq pc 18) (some (.iload_n 2, 19, 2, 0, 0, 0, 0, [])) none) (cond (Nat.beq pc 19) (some (.iconst 1, 20, 0, 0, 0, 0, 1, [])) none)) (cond (Nat.blt pc 23) (cond (Nat.beq pc 20) (some (.if_icmp .ne 16, 23, 36, 0, 0, 0, 0, [])) none) (cond (Nat.beq pc 23) (some (.iload_n 3, 24, 3, 0, 0, 0, 0, [])) none))))) (cond (Nat.blt pc 39) (cond (Nat.blt pc 34) (cond (Nat.blt pc 30) (cond (Nat.blt pc 27) (cond (Nat.beq pc 24) (some (.invokestatic 44, 27, 46, 1, 13, 0, 0, [])) none) (cond (Nat.beq pc 27) (some (.ifCond .lt 7, 30, 34, 0, 0, 0, 0, [])) none)) (cond (Nat.blt pc 31) (cond (Nat.beq pc 30) (some (.iconst 1, 31, 0, 0, 0, 0, 1, [])) none) (cond (Nat.beq pc 31) (some (.goto 4, 34, 35, 0, 0, 0, 0, [])) none))) (cond (Nat.blt pc 36) (cond (Nat.blt pc 35) (cond (Nat.beq pc 34) (some (.iconst 0, 35, 0, 0, 0, 0, 0, [])) none) (cond (Nat.beq pc 35) (some (.ireturn, 36, 1, 0, 0, 0, 0, [])) none)) (cond (Nat.blt pc 37) (cond (Nat.beq pc 36) (some (.iload_n 3, 37, 3, 0, 0, 0, 0, [])) none) (cond (Nat.beq pc 37) (some (.bipush 48, 39, 0, 0, 0, 0, 48, [])) none)))) (cond (Nat.blt pc 48) (cond (Nat.blt pc 43) (cond (Nat.blt pc 42) (cond (Nat.beq pc 39) (some (.if_icmp .lt 13, 42, 52, 0, 0, 0, 0, [])) none) (cond (Nat.beq pc 42) (some (.iload_n 3, 43, 3, 0, 0, 0, 0, [])) none)) (cond (Nat.blt pc 45) (cond (Nat.beq pc 43) (some (.bipush 57, 45, 0, 0, 0, 0, 57, [])) none) (cond (Nat.beq pc 45) (some (.if_icmp .gt 7, 48, 52, 0, 0, 0, 0, [])) none))) (cond (Nat.blt pc 52) (cond (Nat.blt pc 49) (cond (Nat.beq pc 48) (some (.iconst 1, 49, 0, 0, 0, 0, 1, [])) none) (cond (Nat.beq pc 49) (some (.goto 4, 52, 53, 0, 0, 0, 0, [])) none)) (cond (Nat.blt pc 53) (cond (Nat.beq pc 52) (some (.iconst 0, 53, 0, 0, 0, 0, 0, [])) none) (cond (Nat.beq pc 53) (some (.ireturn, 54, 1, 0, 0, 0, 0, [])) none))))))
set_option maxRecDepth 100000 in
theorem okX3_isSign : chkAll mX3_isSign kX3_isSign := chk_of (by decide +kernel)
def kX3_letterAt : Nat → Option PO := cdg 32 (fun pc => cond (Nat.blt pc 17) (cond (Nat.blt pc 6) (cond (Nat.blt pc 4) (cond (Nat.blt pc 1) (cond (Nat.beq pc 0) (some (.iload_n 1, 1, 1, 0, 0, 0, 0, [])) none) (cond (Nat.beq pc 1) (some (.ifCond .lt 29, 4, 30, 0, 0, 0, 0, [])) none)) (cond (Nat.blt pc 5) (cond (Nat.beq pc 4) (some (.iload_n 1, 5, 1, 0, 0, 0, 0, [])) none) (cond (Nat.beq pc 5) (some (.aload_n 0, 6, 0, 0, 0, 0, 0, [])) none))) (cond (Nat.blt pc 12) (cond (Nat.blt pc 9) (cond (Nat.beq pc 6) (some (.getfield 15, 9, 2, 1, 11, 0, 0, [])) none) (cond (Nat.beq pc 9) (some (.if_icmp .ge 21, 12, 30, 0, 0, 0, 0, [])) none)) (cond (Nat.blt pc 13) (cond (Nat.beq pc 12) (some (.iload_n 1, 13, 1, 0, 0, 0, 0, [])) none) (cond (Nat.blt pc 14) (cond (Nat.beq pc 13) (some (.aload_n 0, 14, 0, 0, 0, 0, 0, [])) none) (cond (Nat.beq pc 14) (some (.getfield 11, 17, 2, 0, 10, 0, 0, [])) none))))) (cond (Nat.blt pc 25) (cond (Nat.blt pc 21) (cond (Nat.blt pc 18) (cond (Nat.beq pc 17) (some (.arraylength, 18, 0, 0, 0, 0, 0, [])) none) (cond (Nat.beq pc 18) (some (.if_icmp .ge 12, 21, 30, 0, 0, 0, 0, [])) none)) (cond (Nat.blt pc 22) (cond (Nat.beq pc 21) (some (.aload_n 0, 22, 0, 0, 0, 0, 0, [])) none) (cond (Nat.beq pc 22) (some (.getfield 11, 25, 2, 0, 10, 0, 0, [])) none))) (cond (Nat.blt pc 27) (cond (Nat.blt pc 26) (cond (Nat.beq pc 25) (some (.iload_n 1, 26, 1, 0, 0, 0, 0, [])) none) (cond (Nat.beq pc 26) (some (.iaload, 27, 0, 0, 0, 0, 0, [])) none)) (cond (Nat.blt pc 30) (cond (Nat.beq pc 27) (some (.goto 4, 30, 31, 0, 0, 0, 0, [])) none) (cond (Nat.blt pc 31) (cond (Nat.beq pc 30) (some (.iconst (-1), 31, 0, 0, 0, 0, -1, [])) none) (cond (Nat.beq pc 31) (some (.ireturn, 32, 0, 0, 0, 0, 0, [])) none))))))
set_option maxRecDepth 100000 in
theorem okX3_letterAt : chkAll mX3_letterAt kX3_letterAt := chk_of (by decide +kernel)
def kX3_comes : Nat → Option PO := cdg 321 (fun pc => cond (Nat.blt pc 203) (cond (Nat.blt pc 49) (cond (Nat.blt pc 24) (cond (Nat.blt pc 11) (cond (Nat.blt pc 4) (cond (Nat.blt pc 2) (cond (Nat.blt pc 1) (cond (Nat.beq pc 0) (some (.aload_n 0, 1, 0, 0, 0, 0, 0, [])) none) (cond (Nat.beq pc 1) (some (.iload_n 1, 2, 1, 0, 0, 0, 0, [])) none)) (cond (Nat.blt pc 3) (cond (Nat.beq pc 2) (some (.iconst 1, 3, 0, 0, 0, 0, 1, [])) none) (cond (Nat.beq pc 3) (some (.iadd, 4, 0, 0, 0, 0, 0, [])) none))) (cond (Nat.blt pc 9) (cond (Nat.blt pc 7) (cond (Nat.beq pc 4) (some (.invokevirtual 34, 7, 63, 1, 10, 2, 0, [])) none) (cond (Nat.beq pc 7) (some (.bipush 48, 9, 0, 0, 0, 0, 48, [])) none)) (cond (Nat.blt pc 10) (cond (Nat.beq pc 9) (some (.isub, 10, 0, 0, 0, 0, 0, [])) none) (cond (Nat.beq pc 10) (some (.istore_n 3, 11, 3, 0, 0, 0, 0, [])) none)))) (cond (Nat.blt pc 15) (cond (Nat.blt pc 13) (cond (Nat.blt pc 12) (cond (Nat.beq pc 11) (some (.aload_n 0, 12, 0, 0, 0, 0, 0, [])) none) (cond (Nat.beq pc 12) (some (.iload_n 1, 13, 1, 0, 0, 0, 0, [])) none)) (cond (Nat.blt pc 14) (cond (Nat.beq pc 13) (some (.iconst 2, 14, 0, 0, 0, 0, 2, [])) none) (cond (Nat.beq pc 14) (some (.iadd, 15, 0, 0, 0, 0, 0, [])) none))) (cond (Nat.blt pc 20) (cond (Nat.blt pc 18) (cond (Nat.beq pc 15) (some (.invokevirtual 34, 18, 63, 1, 10, 2, 0, [])) none) (cond (Nat.beq pc 18) (some (.bipush 48, 20, 0, 0, 0, 0, 48, [])) none)) (cond (Nat.blt pc 21) (cond (Nat.beq pc 20) (some (.isub, 21, 0, 0, 0, 0, 0, [])) none) (cond (Nat.blt pc 23) (cond (Nat.beq pc 21) (some (.istore 4, 23, 4, 0, 0, 0, 0, [])) none) (cond (Nat.beq pc 23) (some (.aload_n 0, 24, 0, 0, 0, 0, 0, [])) none)))))) (cond (Nat.blt pc 36) (cond (Nat.blt pc 30) (cond (Nat.blt pc 26) (cond (Nat.blt pc 25) (cond (Nat.beq pc 24) (some (.iload_n 1, 25, 1, 0, 0, 0, 0, [])) none) (cond (Nat.beq pc 25) (some (.iconst 3, 26, 0, 0, 0, 0, 3, [])) none)) (cond (Nat.blt pc 27) (cond (Nat.beq pc 26) (some (.iadd, 27, 0, 0, 0, 0, 0, [])) none) (cond (Nat.beq pc 27) (some (.invokevirtual 34, 30, 63, 1, 10, 2, 0, [])) none))) (cond (Nat.blt pc 33) (cond (Nat.blt pc 32) (cond (Nat.beq pc 30) (some (.bipush 48, 32, 0, 0, 0, 0, 48, [])) none) (cond (Nat.beq pc 32) (some (.isub, 33, 0, 0, 0, 0, 0, [])) none)) (cond (Nat.blt pc 35) (cond (Nat.beq pc 33) (some (.istore 5, 35, 5, 0, 0, 0, 0, [])) none) (cond (Nat.beq pc 35) (some (.aload_n 0, 36, 0, 0, 0, 0, 0, [])) none)))) (cond (Nat.blt pc 42) (cond (Nat.blt pc 38) (cond (Nat.blt pc 37) (cond (Nat.beq pc 36) (some (.iload_n 1, 37, 1, 0, 0, 0, 0, [])) none) (cond (Nat.beq pc 37) (some (.iconst 4, 38, 0, 0, 0, 0, 4, [])) none)) (cond (Nat.blt pc 39) (cond (Nat.beq pc 38) (some (.iadd, 39, 0, 0, 0, 0, 0, [])) none) (cond (Nat.beq pc 39) (some (.invokevirtual 34, 42, 63, 1, 10, 2, 0, [])) none))) (cond (Nat.blt pc 45) (cond (Nat.blt pc 44) (cond (Nat.beq pc 42) (some (.bipush 48, 44, 0, 0, 0, 0, 48, [])) none) (cond (Nat.beq pc 44) (some (.isub, 45, 0, 0, 0, 0, 0, [])) none)) (cond (Nat.blt pc 47) (cond (Nat.beq pc 45) (some (.istore 6, 47, 6, 0, 0, 0, 0, [])) none) (cond (Nat.blt pc 48) (cond (Nat.beq pc 47) (some (.aload_n 0, 48, 0, 0, 0, 0, 0, [])) none) (cond (Nat.beq pc 48) (some (.iload_n 1, 49, 1, 0, 0, 0, 0, [])) none))))))) (cond (Nat.blt pc 178) (cond (Nat.blt pc 160) (cond (Nat.blt pc 154) (cond (Nat.blt pc 152) (cond (Nat.blt pc 52) (cond (Nat.beq pc 49) (some (.invokevirtual 34, 52, 63, 1, 10, 2, 0, [])) none) (cond (Nat.beq pc 52) (some (.tableswitch 267 98 118 #[235, 117, 134, 267, 267, 267, 267, 267, 267, 267, 267, 151, 267, 267, 267, 267, 100, 267, 161, 267, 192], 152, 319, 0, 0, 0, 0, [(98, 287), (99, 169), (100, 186), (101, 319), (102, 319), (103, 319), (104, 319), (105, 319), (106, 319), (107, 319), (108, 319), (109, 203), (110, 319), (111, 319), (112, 319), (113, 319), (114, 152), (115, 319), (116, 213), (117, 319), (118, 244)])) none)) (cond (Nat.blt pc 153) (cond (Nat.beq pc 152) (some (.aload_n 2, 153, 2, 0, 0, 0, 0, [])) none) (cond (Nat.beq pc 153) (some (.aload_n 0, 154, 0, 0, 0, 0, 0, [])) none))) (cond (Nat.blt pc 156) (cond (Nat.blt pc 155) (cond (Nat.beq pc 154) (some (.iload_n 1, 155, 1, 0, 0, 0, 0, [])) none) (cond (Nat.beq pc 155) (some (.iconst 1, 156, 0, 0, 0, 0, 1, [])) none)) (cond (Nat.blt pc 157) (cond (Nat.beq pc 156) (some (.iadd, 157, 0, 0, 0, 0, 0, [])) none) (cond (Nat.beq pc 157) (some (.invokevirtual 34, 160, 63, 1, 10, 2, 0, [])) none)))) (cond (Nat.blt pc 169) (cond (Nat.blt pc 165) (cond (Nat.blt pc 163) (cond (Nat.beq pc 160) (some (.invokestatic 44, 163, 46, 1, 13, 0, 0, [])) none) (cond (Nat.beq pc 163) (some (.iload 4, 165, 4, 0, 0, 0, 0, [])) none)) (cond (Nat.blt pc 168) (cond (Nat.beq pc 165) (some (.invokevirtual 49, 168, 8, 2, 16, 1, 0, [])) none) (cond (Nat.beq pc 168) (some (.ireturn, 169, 1, 0, 0, 0, 0, [])) none))) (cond (Nat.blt pc 171) (cond (Nat.blt pc 170) (cond (Nat.beq pc 169) (some (.aload_n 2, 170, 2, 0, 0, 0, 0, [])) none) (cond (Nat.beq pc 170) (some (.iload_n 3, 171, 3, 0, 0, 0, 0, [])) none)) (cond (Nat.blt pc 174) (cond (Nat.beq pc 171) (some (.invokevirtual 54, 174, 7, 1, 17, 1, 0, [])) none) (cond (Nat.blt pc 177) (cond (Nat.beq pc 174) (some (.ifCond .ne 5, 177, 179, 0, 0, 0, 0, [])) none) (cond (Nat.beq pc 177) (some (.iconst 0, 178, 0, 0, 0, 0, 0, [])) none)))))) (cond (Nat.blt pc 188) (cond (Nat.blt pc 184) (cond (Nat.blt pc 180) (cond (Nat.blt pc 179) (cond (Nat.beq pc 178) (some (.ireturn, 179, 1, 0, 0, 0, 0, [])) none) (cond (Nat.beq pc 179) (some (.aload_n 2, 180, 2, 0, 0, 0, 0, [])) none)) (cond (Nat.blt pc 181) (cond (Nat.beq pc 180) (some (.iload_n 3, 181, 3, 0, 0, 0, 0, [])) none) (cond (Nat.beq pc 181) (some (.invokevirtual 58, 184, 16, 1, 18, 1, 0, [])) none))) (cond (Nat.blt pc 186) (cond (Nat.blt pc 185) (cond (Nat.beq pc 184) (some (.iconst 1, 185, 0, 0, 0, 0, 1, [])) none) (cond (Nat.beq pc 185) (some (.ireturn, 186, 1, 0, 0, 0, 0, [])) none)) (cond (Nat.blt pc 187) (cond (Nat.beq pc 186) (some (.aload_n 2, 187, 2, 0, 0, 0, 0, [])) none) (cond (Nat.beq pc 187) (some (.iload_n 3, 188, 3, 0, 0, 0, 0, [])) none)))) (cond (Nat.blt pc 196) (cond (Nat.blt pc 194) (cond (Nat.blt pc 191) (cond (Nat.beq pc 188) (some (.invokevirtual 54, 191, 7, 1, 17, 1, 0, [])) none) (cond (Nat.beq pc 191) (some (.ifCond .ne 5, 194, 196, 0, 0, 0, 0, [])) none)) (cond (Nat.blt pc 195) (cond (Nat.beq pc 194) (some (.iconst 0, 195, 0, 0, 0, 0, 0, [])) none) (cond (Nat.beq pc 195) (some (.ireturn, 196, 1, 0, 0, 0, 0, [])) none))) (cond (Nat.blt pc 198) (cond (Nat.blt pc 197) (cond (Nat.beq pc 196) (some (.aload_n 2, 197, 2, 0, 0, 0, 0, [])) none) (cond (Nat.beq pc 197) (some (.iload_n 3, 198, 3, 0, 0, 0, 0, [])) none)) (cond (Nat.blt pc 201) (cond (Nat.beq pc 198) (some (.invokevirtual 62, 201, 15, 1, 19, 1, 0, [])) none) (cond (Nat.blt pc 202) (cond (Nat.beq pc 201) (some (.iconst 1, 202, 0, 0, 0, 0, 1, [])) none) (cond (Nat.beq pc 202) (some (.ireturn, 203, 1, 0, 0, 0, 0, [])) none)))))))) (cond (Nat.blt pc 261) (cond (Nat.blt pc 230) (cond (Nat.blt pc 215) (cond (Nat.blt pc 209) (cond (Nat.blt pc 205) (cond (Nat.blt pc 204) (cond (Nat.beq pc 203) (some (.aload_n 2, 204, 2, 0, 0, 0, 0, [])) none) (cond (Nat.beq pc 204) (some (.iload_n 3, 205, 3, 0, 0, 0, 0, [])) none)) (cond (Nat.blt pc 207) (cond (Nat.beq pc 205) (some (.iload 4, 207, 4, 0, 0, 0, 0, [])) none) (cond (Nat.beq pc 207) (some (.iload 5, 209, 5, 0, 0, 0, 0, [])) none))) (cond (Nat.blt pc 213) (cond (Nat.blt pc 212) (cond (Nat.beq pc 209) (some (.invokestatic 65, 212, 65, 4, 20, 0, 0, [])) none) (cond (Nat.beq pc 212) (some (.ireturn, 213, 1, 0, 0, 0, 0, [])) none)) (cond (Nat.blt pc 214) (cond (Nat.beq pc 213) (some (.aload_n 2, 214, 2, 0, 0, 0, 0, [])) none) (cond (Nat.beq pc 214) (some (.iload_n 3, 215, 3, 0, 0, 0, 0, [])) none)))) (cond (Nat.blt pc 223) (cond (Nat.blt pc 221) (cond (Nat.blt pc 218) (cond (Nat.beq pc 215) (some (.invokevirtual 69, 218, 26, 1, 21, 1, 0, [])) none) (cond (Nat.beq pc 218) (some (.ifCond .ne 5, 221, 223, 0, 0, 0, 0, [])) none)) (cond (Nat.blt pc 222) (cond (Nat.beq pc 221) (some (.iconst 0, 222, 0, 0, 0, 0, 0, [])) none) (cond (Nat.beq pc 222) (some (.ireturn, 223, 1, 0, 0, 0, 0, [])) none))) (cond (Nat.blt pc 225) (cond (Nat.blt pc 224) (cond (Nat.beq pc 223) (some (.aload_n 2, 224, 2, 0, 0, 0, 0, [])) none) (cond (Nat.beq pc 224) (some (.iload_n 3, 225, 3, 0, 0, 0, 0, [])) none)) (cond (Nat.blt pc 227) (cond (Nat.beq pc 225) (some (.bipush 100, 227, 0, 0, 0, 0, 100, [])) none) (cond (Nat.blt pc 229) (cond (Nat.beq pc 227) (some (.iload 4, 229, 4, 0, 0, 0, 0, [])) none) (cond (Nat.beq pc 229) (some (.imul, 230, 0, 0, 0, 0, 0, [])) none)))))) (cond (Nat.blt pc 243) (cond (Nat.blt pc 236) (cond (Nat.blt pc 234) (cond (Nat.blt pc 232) (cond (Nat.beq pc 230) (some (.bipush 10, 232, 0, 0, 0, 0, 10, [])) none) (cond (Nat.beq pc 232) (some (.iload 5, 234, 5, 0, 0, 0, 0, [])) none)) (cond (Nat.blt pc 235) (cond (Nat.beq pc 234) (some (.imul, 235, 0, 0, 0, 0, 0, [])) none) (cond (Nat.beq pc 235) (some (.iadd, 236, 0, 0, 0, 0, 0, [])) none))) (cond (Nat.blt pc 239) (cond (Nat.blt pc 238) (cond (Nat.beq pc 236) (some (.iload 6, 238, 6, 0, 0, 0, 0, [])) none) (cond (Nat.beq pc 238) (some (.iadd, 239, 0, 0, 0, 0, 0, [])) none)) (cond (Nat.blt pc 242) (cond (Nat.beq pc 239) (some (.invokevirtual 72, 242, 35, 2, 25, 1, 0, [])) none) (cond (Nat.beq pc 242) (some (.iconst 1, 243, 0, 0, 0, 0, 1, [])) none)))) (cond (Nat.blt pc 249) (cond (Nat.blt pc 245) (cond (Nat.blt pc 244) (cond (Nat.beq pc 243) (some (.ireturn, 244, 1, 0, 0, 0, 0, [])) none) (cond (Nat.beq pc 244) (some (.aload_n 2, 245, 2, 0, 0, 0, 0, [])) none)) (cond (Nat.blt pc 246) (cond (Nat.beq pc 245) (some (.iload_n 3, 246, 3, 0, 0, 0, 0, [])) none) (cond (Nat.beq pc 246) (some (.invokevirtual 69, 249, 26, 1, 21, 1, 0, [])) none))) (cond (Nat.blt pc 253) (cond (Nat.blt pc 252) (cond (Nat.beq pc 249) (some (.ifCond .eq 12, 252, 261, 0, 0, 0, 0, [])) none) (cond (Nat.beq pc 252) (some (.aload_n 2, 253, 2, 0, 0, 0, 0, [])) none)) (cond (Nat.blt pc 255) (cond (Nat.beq pc 253) (some (.iload 4, 255, 4, 0, 0, 0, 0, [])) none) (cond (Nat.blt pc 258) (cond (Nat.beq pc 255) (some (.invokevirtual 54, 258, 7, 1, 17, 1, 0, [])) none) (cond (Nat.beq pc 258) (some (.ifCond .ne 5, 261, 263, 0, 0, 0, 0, [])) none))))))) (cond (Nat.blt pc 289) (cond (Nat.blt pc 272) (cond (Nat.blt pc 265) (cond (Nat.blt pc 263) (cond (Nat.blt pc 262) (cond (Nat.beq pc 261) (some (.iconst 0, 262, 0, 0, 0, 0, 0, [])) none) (cond (Nat.beq pc 262) (some (.ireturn, 263, 1, 0, 0, 0, 0, [])) none)) (cond (Nat.blt pc 264) (cond (Nat.beq pc 263) (some (.aload_n 2, 264, 2, 0, 0, 0, 0, [])) none) (cond (Nat.beq pc 264) (some (.iload_n 3, 265, 3, 0, 0, 0, 0, [])) none))) (cond (Nat.blt pc 270) (cond (Nat.blt pc 267) (cond (Nat.beq pc 265) (some (.iload 4, 267, 4, 0, 0, 0, 0, [])) none) (cond (Nat.beq pc 267) (some (.invokevirtual 76, 270, 39, 2, 26, 1, 0, [])) none)) (cond (Nat.blt pc 271) (cond (Nat.beq pc 270) (some (.pop, 271, 0, 0, 0, 0, 0, [])) none) (cond (Nat.beq pc 271) (some (.aload_n 2, 272, 2, 0, 0, 0, 0, [])) none)))) (cond (Nat.blt pc 282) (cond (Nat.blt pc 278) (cond (Nat.blt pc 275) (cond (Nat.beq pc 272) (some (.invokevirtual 80, 275, 31, 0, 48, 1, 0, [])) none) (cond (Nat.beq pc 275) (some (.sipush 999, 278, 0, 0, 0, 0, 999, [])) none)) (cond (Nat.blt pc 281) (cond (Nat.beq pc 278) (some (.if_icmp .gt 7, 281, 285, 0, 0, 0, 0, [])) none) (cond (Nat.beq pc 281) (some (.iconst 1, 282, 0, 0, 0, 0, 1, [])) none))) (cond (Nat.blt pc 286) (cond (Nat.blt pc 285) (cond (Nat.beq pc 282) (some (.goto 4, 285, 286, 0, 0, 0, 0, [])) none) (cond (Nat.beq pc 285) (some (.iconst 0, 286, 0, 0, 0, 0, 0, [])) none)) (cond (Nat.blt pc 287) (cond (Nat.beq pc 286) (some (.ireturn, 287, 1, 0, 0, 0, 0, [])) none) (cond (Nat.blt pc 288) (cond (Nat.beq pc 287) (some (.aload_n 2, 288, 2, 0, 0, 0, 0, [])) none) (cond (Nat.beq pc 288) (some (.iload_n 3, 289, 3, 0, 0, 0, 0, [])) none)))))) (cond (Nat.blt pc 304) (cond (Nat.blt pc 297) (cond (Nat.blt pc 295) (cond (Nat.blt pc 292) (cond (Nat.beq pc 289) (some (.invokevirtual 54, 292, 7, 1, 17, 1, 0, [])) none) (cond (Nat.beq pc 292) (some (.ifCond .ne 5, 295, 297, 0, 0, 0, 0, [])) none)) (cond (Nat.blt pc 296) (cond (Nat.beq pc 295) (some (.iconst 0, 296, 0, 0, 0, 0, 0, [])) none) (cond (Nat.beq pc 296) (some (.ireturn, 297, 1, 0, 0, 0, 0, [])) none))) (cond (Nat.blt pc 299) (cond (Nat.blt pc 298) (cond (Nat.beq pc 297) (some (.aload_n 2, 298, 2, 0, 0, 0, 0, [])) none) (cond (Nat.beq pc 298) (some (.iload_n 3, 299, 3, 0, 0, 0, 0, [])) none)) (cond (Nat.blt pc 302) (cond (Nat.beq pc 299) (some (.invokevirtual 83, 302, 40, 1, 50, 1, 0, [])) none) (cond (Nat.blt pc 303) (cond (Nat.beq pc 302) (some (.pop, 303, 0, 0, 0, 0, 0, [])) none) (cond (Nat.beq pc 303) (some (.aload_n 2, 304, 2, 0, 0, 0, 0, [])) none))))) (cond (Nat.blt pc 314) (cond (Nat.blt pc 310) (cond (Nat.blt pc 307) (cond (Nat.beq pc 304) (some (.invokevirtual 80, 307, 31, 0, 48, 1, 0, [])) none) (cond (Nat.beq pc 307) (some (.sipush 999, 310, 0, 0, 0, 0, 999, [])) none)) (cond (Nat.blt pc 313) (cond (Nat.beq pc 310) (some (.if_icmp .gt 7, 313, 317, 0, 0, 0, 0, [])) none) (cond (Nat.beq pc 313) (some (.iconst 1, 314, 0, 0, 0, 0, 1, [])) none))) (cond (Nat.blt pc 318) (cond (Nat.blt pc 317) (cond (Nat.beq pc 314) (some (.goto 4, 317, 318, 0, 0, 0, 0, [])) none) (cond (Nat.beq pc 317) (some (.iconst 0, 318, 0, 0, 0, 0, 0, [])) none)) (cond (Nat.blt pc 319) (cond (Nat.beq pc 318) (some (.ireturn, 319, 1, 0, 0, 0, 0, [])) none) (cond (Nat.blt pc 320) (cond (Nat.beq pc 319) (some (.iconst 0, 320, 0, 0, 0, 0, 0, [])) none) (cond (Nat.beq pc 320) (some (.ireturn, 321, 1, 0, 0, 0, 0, [])) none)))))))))
set_option maxRecDepth 100000 in
theorem okX3_comes : chkAll mX3_comes kX3_comes := chk_of (by decide +kernel)
def kX3_maidComes : Nat → Option PO := cdg 38 (fun pc => cond (Nat.blt pc 22) (cond (Nat.blt pc 9) (cond (Nat.blt pc 2) (cond (Nat.blt pc 1) (cond (Nat.beq pc 0) (some (.aload_n 0, 1, 0, 0, 0, 0, 0, [])) none) (cond (Nat.beq pc 1) (some (.iload_n 1, 2, 1, 0, 0, 0, 0, [])) none)) (cond (Nat.blt pc 5) (cond (Nat.beq pc 2) (some (.invokevirtual 69, 5, 26, 1, 21, 1, 0, [])) none) (cond (Nat.blt pc 8) (cond (Nat.beq pc 5) (some (.ifCond .eq 17, 8, 22, 0, 0, 0, 0, [])) none) (cond (Nat.beq pc 8) (some (.aload_n 0, 9, 0, 0, 0, 0, 0, [])) none)))) (cond (Nat.blt pc 16) (cond (Nat.blt pc 10) (cond (Nat.beq pc 9) (some (.iload_n 2, 10, 2, 0, 0, 0, 0, [])) none) (cond (Nat.blt pc 13) (cond (Nat.beq pc 10) (some (.invokevirtual 86, 13, 27, 1, 22, 1, 0, [])) none) (cond (Nat.beq pc 13) (some (.ifCond .eq 9, 16, 22, 0, 0, 0, 0, [])) none))) (cond (Nat.blt pc 17) (cond (Nat.beq pc 16) (some (.iload_n 3, 17, 3, 0, 0, 0, 0, [])) none) (cond (Nat.blt pc 19) (cond (Nat.beq pc 17) (some (.bipush 6, 19, 0, 0, 0, 0, 6, [])) none) (cond (Nat.beq pc 19) (some (.if_icmp .le 5, 22, 24, 0, 0, 0, 0, [])) none))))) (cond (Nat.blt pc 30) (cond (Nat.blt pc 25) (cond (Nat.blt pc 23) (cond (Nat.beq pc 22) (some (.iconst 0, 23, 0, 0, 0, 0, 0, [])) none) (cond (Nat.blt pc 24) (cond (Nat.beq pc 23) (some (.ireturn, 24, 1, 0, 0, 0, 0, [])) none) (cond (Nat.beq pc 24) (some (.aload_n 0, 25, 0, 0, 0, 0, 0, [])) none))) (cond (Nat.blt pc 26) (cond (Nat.beq pc 25) (some (.iload_n 1, 26, 1, 0, 0, 0, 0, [])) none) (cond (Nat.blt pc 27) (cond (Nat.beq pc 26) (some (.iload_n 2, 27, 2, 0, 0, 0, 0, [])) none) (cond (Nat.beq pc 27) (some (.invokevirtual 89, 30, 33, 2, 23, 1, 0, [])) none)))) (cond (Nat.blt pc 33) (cond (Nat.blt pc 31) (cond (Nat.beq pc 30) (some (.aload_n 0, 31, 0, 0, 0, 0, 0, [])) none) (cond (Nat.blt pc 32) (cond (Nat.beq pc 31) (some (.iload_n 1, 32, 1, 0, 0, 0, 0, [])) none) (cond (Nat.beq pc 32) (some (.iload_n 3, 33, 3, 0, 0, 0, 0, [])) none))) (cond (Nat.blt pc 36) (cond (Nat.beq pc 33) (some (.invokevirtual 92, 36, 34, 2, 24, 1, 0, [])) none) (cond (Nat.blt pc 37) (cond (Nat.beq pc 36) (some (.iconst 1, 37, 0, 0, 0, 0, 1, [])) none) (cond (Nat.beq pc 37) (some (.ireturn, 38, 1, 0, 0, 0, 0, [])) none))))))
set_option maxRecDepth 100000 in
theorem okX3_maidComes : chkAll mX3_maidComes kX3_maidComes := chk_of (by decide +kernel)
def kJ6_bitCount_0f7a4 : Nat → Option PO := cdg 53 (fun pc => cond (Nat.blt pc 27) (cond (Nat.blt pc 14) (cond (Nat.blt pc 7) (cond (Nat.blt pc 2) (cond (Nat.blt pc 1) (cond (Nat.beq pc 0) (some (.iload_n 0, 1, 0, 0, 0, 0, 0, [])) none) (cond (Nat.beq pc 1) (some (.iload_n 0, 2, 0, 0, 0, 0, 0, [])) none)) (cond (Nat.blt pc 3) (cond (Nat.beq pc 2) (some (.iconst 1, 3, 0, 0, 0, 0, 1, [])) none) (cond (Nat.blt pc 4) (cond (Nat.beq pc 3) (some (.iushr, 4, 0, 0, 0, 0, 0, [])) none) (cond (Nat.beq pc 4) (some (.ldc_w 265, 7, 0, 0, 0, 0, 1431655765, [])) none)))) (cond (Nat.blt pc 9) (cond (Nat.blt pc 8) (cond (Nat.beq pc 7) (some (.iand, 8, 0, 0, 0, 0, 0, [])) none) (cond (Nat.beq pc 8) (some (.isub, 9, 0, 0, 0, 0, 0, [])) none)) (cond (Nat.blt pc 10) (cond (Nat.beq pc 9) (some (.istore_n 0, 10, 0, 0, 0, 0, 0, [])) none) (cond (Nat.blt pc 11) (cond (Nat.beq pc 10) (some (.iload_n 0, 11, 0, 0, 0, 0, 0, [])) none) (cond (Nat.beq pc 11) (some (.ldc_w 266, 14, 0, 0, 1, 0, 858993459, [])) none))))) (cond (Nat.blt pc 21) (cond (Nat.blt pc 16) (cond (Nat.blt pc 15) (cond (Nat.beq pc 14) (some (.iand, 15, 0, 0, 0, 0, 0, [])) none) (cond (Nat.beq pc 15) (some (.iload_n 0, 16, 0, 0, 0, 0, 0, [])) none)) (cond (Nat.blt pc 17) (cond (Nat.beq pc 16) (some (.iconst 2, 17, 0, 0, 0, 0, 2, [])) none) (cond (Nat.blt pc 18) (cond (Nat.beq pc 17) (some (.iushr, 18, 0, 0, 0, 0, 0, [])) none) (cond (Nat.beq pc 18) (some (.ldc_w 266, 21, 0, 0, 1, 0, 858993459, [])) none)))) (cond (Nat.blt pc 24) (cond (Nat.blt pc 22) (cond (Nat.beq pc 21) (some (.iand, 22, 0, 0, 0, 0, 0, [])) none) (cond (Nat.blt pc 23) (cond (Nat.beq pc 22) (some (.iadd, 23, 0, 0, 0, 0, 0, [])) none) (cond (Nat.beq pc 23) (some (.istore_n 0, 24, 0, 0, 0, 0, 0, [])) none))) (cond (Nat.blt pc 25) (cond (Nat.beq pc 24) (some (.iload_n 0, 25, 0, 0, 0, 0, 0, [])) none) (cond (Nat.blt pc 26) (cond (Nat.beq pc 25) (some (.iload_n 0, 26, 0, 0, 0, 0, 0, [])) none) (cond (Nat.beq pc 26) (some (.iconst 4, 27, 0, 0, 0, 0, 4, [])) none)))))) (cond (Nat.blt pc 40) (cond (Nat.blt pc 34) (cond (Nat.blt pc 29) (cond (Nat.blt pc 28) (cond (Nat.beq pc 27) (some (.iushr, 28, 0, 0, 0, 0, 0, [])) none) (cond (Nat.beq pc 28) (some (.iadd, 29, 0, 0, 0, 0, 0, [])) none)) (cond (Nat.blt pc 32) (cond (Nat.beq pc 29) (some (.ldc_w 267, 32, 0, 0, 2, 0, 252645135, [])) none) (cond (Nat.blt pc 33) (cond (Nat.beq pc 32) (some (.iand, 33, 0, 0, 0, 0, 0, [])) none) (cond (Nat.beq pc 33) (some (.istore_n 0, 34, 0, 0, 0, 0, 0, [])) none)))) (cond (Nat.blt pc 36) (cond (Nat.blt pc 35) (cond (Nat.beq pc 34) (some (.iload_n 0, 35, 0, 0, 0, 0, 0, [])) none) (cond (Nat.beq pc 35) (some (.iload_n 0, 36, 0, 0, 0, 0, 0, [])) none)) (cond (Nat.blt pc 38) (cond (Nat.beq pc 36) (some (.bipush 8, 38, 0, 0, 0, 0, 8, [])) none) (cond (Nat.blt pc 39) (cond (Nat.beq pc 38) (some (.iushr, 39, 0, 0, 0, 0, 0, [])) none) (cond (Nat.beq pc 39) (some (.iadd, 40, 0, 0, 0, 0, 0, [])) none))))) (cond (Nat.blt pc 46) (cond (Nat.blt pc 42) (cond (Nat.blt pc 41) (cond (Nat.beq pc 40) (some (.istore_n 0, 41, 0, 0, 0, 0, 0, [])) none) (cond (Nat.beq pc 41) (some (.iload_n 0, 42, 0, 0, 0, 0, 0, [])) none)) (cond (Nat.blt pc 43) (cond (Nat.beq pc 42) (some (.iload_n 0, 43, 0, 0, 0, 0, 0, [])) none) (cond (Nat.blt pc 45) (cond (Nat.beq pc 43) (some (.bipush 16, 45, 0, 0, 0, 0, 16, [])) none) (cond (Nat.beq pc 45) (some (.iushr, 46, 0, 0, 0, 0, 0, [])) none)))) (cond (Nat.blt pc 49) (cond (Nat.blt pc 47) (cond (Nat.beq pc 46) (some (.iadd, 47, 0, 0, 0, 0, 0, [])) none) (cond (Nat.blt pc 48) (cond (Nat.beq pc 47) (some (.istore_n 0, 48, 0, 0, 0, 0, 0, [])) none) (cond (Nat.beq pc 48) (some (.iload_n 0, 49, 0, 0, 0, 0, 0, [])) none))) (cond (Nat.blt pc 51) (cond (Nat.beq pc 49) (some (.bipush 63, 51, 0, 0, 0, 0, 63, [])) none) (cond (Nat.blt pc 52) (cond (Nat.beq pc 51) (some (.iand, 52, 0, 0, 0, 0, 0, [])) none) (cond (Nat.beq pc 52) (some (.ireturn, 53, 0, 0, 0, 0, 0, [])) none)))))))
set_option maxRecDepth 100000 in
theorem okJ6_bitCount_0f7a4 : chkAll mJ6_bitCount_0f7a4 kJ6_bitCount_0f7a4 := chk_of (by decide +kernel)
end
section
section BASE
variable {C : Cst} {T : Nat → Pst → Nat → Lcs → List Value → Mem → Prop}
/-- a place where a walk halts -/
def Halt (P : Prop) : Prop := Unit → P
set_option maxRecDepth 100000 in
theorem Halt.mk {P : Prop} (h : P) : Halt P := fun _ => h
/-- one instruction, and then T again -/
def stepT (C : Cst) (cd : Nat → Option PO) (stops : List Nat) (Q : Pst) (T1 : Nat → Lcs → List Value → Mem → Prop) (pc : Nat) (L : Lcs) (st : List Value) (S : Mem) : Prop := exec1 C cd Q (fun pc' L' st' S' => stp pc' (Halt (T1 pc' L' st' S')) (T1 pc' L' st' S') stops) pc L st S
set_option maxRecDepth 100000 in
theorem stp_inv {pc : Nat} {A B : Prop} : ∀ {stops : List Nat}, stp pc A B stops → A ∨ B
  | [], h => Or.inr h
  | q :: r, h => by
    unfold stp at h
    cases hb : Nat.beq pc q with
    | true => rw [hb] at h; exact Or.inl h
    | false => rw [hb] at h; exact stp_inv (stops := r) h
set_option maxRecDepth 100000 in
theorem Rules.st (H : Rules C T) {M : Nat} {cd : Nat → Option PO} (hcd : chkAll M cd) (stops : List Nat) {Q : Pst} {pc : Nat} {L : Lcs} {st : List Value} {S : Mem} (h : stepT C cd stops Q (T M Q) pc L st S) : T M Q pc L st S := H.1 M cd hcd Q _ (fun _ _ _ _ q => (stp_inv q).elim (fun z => z ()) id) pc L st S h
set_option maxRecDepth 100000 in
theorem Rules.go (H : Rules C T) {M : Nat} (hM : M ∈ mks) {as : List Value} {S : Mem} {Q : Pst} (hn : (entL as).length ≤ mL M) (h : T M Q 0 (ent (mL M) as) [] S) : C M as S Q := H.2 M as S Q hM hn h
end BASE
set_option maxRecDepth 100000 in
theorem li0 : (0 : Int32) = nI 0 := rfl
set_option maxRecDepth 100000 in
theorem li1 : (1 : Int32) = nI 1 := rfl
set_option maxRecDepth 100000 in
theorem li2 : (2 : Int32) = nI 2 := rfl
set_option maxRecDepth 100000 in
theorem li3 : (3 : Int32) = nI 3 := rfl
set_option maxRecDepth 100000 in
theorem li4 : (4 : Int32) = nI 4 := rfl
set_option maxRecDepth 100000 in
theorem li5 : (5 : Int32) = nI 5 := rfl
set_option maxRecDepth 100000 in
theorem li6 : (6 : Int32) = nI 6 := rfl
set_option maxRecDepth 100000 in
theorem li7 : (7 : Int32) = nI 7 := rfl
set_option maxRecDepth 100000 in
theorem li8 : (8 : Int32) = nI 8 := rfl
set_option maxRecDepth 100000 in
theorem li9 : (9 : Int32) = nI 9 := rfl
set_option maxRecDepth 100000 in
theorem li10 : (10 : Int32) = nI 10 := rfl
set_option maxRecDepth 100000 in
theorem li11 : (11 : Int32) = nI 11 := rfl
set_option maxRecDepth 100000 in
theorem li12 : (12 : Int32) = nI 12 := rfl
set_option maxRecDepth 100000 in
theorem li13 : (13 : Int32) = nI 13 := rfl
set_option maxRecDepth 100000 in
theorem li14 : (14 : Int32) = nI 14 := rfl
set_option maxRecDepth 100000 in
theorem li15 : (15 : Int32) = nI 15 := rfl
set_option maxRecDepth 100000 in
theorem li16 : (16 : Int32) = nI 16 := rfl
set_option maxRecDepth 100000 in
theorem li17 : (17 : Int32) = nI 17 := rfl
set_option maxRecDepth 100000 in
theorem li18 : (18 : Int32) = nI 18 := rfl
set_option maxRecDepth 100000 in
theorem li19 : (19 : Int32) = nI 19 := rfl
set_option maxRecDepth 100000 in
theorem li20 : (20 : Int32) = nI 20 := rfl
set_option maxRecDepth 100000 in
theorem li60 : (60 : Int32) = nI 60 := rfl
set_option maxRecDepth 100000 in
theorem li96 : (96 : Int32) = nI 96 := rfl
set_option maxRecDepth 100000 in
theorem li99 : (99 : Int32) = nI 99 := rfl
set_option maxRecDepth 100000 in
theorem li255 : (255 : Int32) = nI 255 := rfl
set_option maxRecDepth 100000 in
theorem li999 : (999 : Int32) = nI 999 := rfl
set_option maxRecDepth 100000 in
theorem ofN (n : Nat) : Int32.ofNat n = nI n := rfl
set_option maxRecDepth 100000 in
theorem nIc {n : Nat} (h : n < 2 ^ 31) : (nI n).toNatClampNeg = n := nI_clamp h

set_option maxRecDepth 100000 in
theorem vp_dec (x : Int32) {n : Nat} (hn : n < 2 ^ 31) : (∃ j, j < n ∧ x = nI j) ∨ ∀ j, j < n → ¬ x = nI j := by
  by_cases h : ∃ j, j < n ∧ x = nI j
  · exact Or.inl h
  · exact Or.inr fun j hj hx => h ⟨j, hj, hx⟩
set_option maxRecDepth 100000 in
theorem nI_bound {x : Int32} {n : Nat} (hn : n < 2 ^ 31) (h0 : ¬ x < 0) (h1 : ¬ nI n ≤ x) : ∃ j, j < n ∧ x = nI j := by
  obtain ⟨j, hj, rfl⟩ := nI_of h0
  exact ⟨j, by rw [nI_leI hn hj] at h1; omega, rfl⟩
set_option maxRecDepth 100000 in
theorem nI_bound2 {x : Int32} {n : Nat} (hn : n < 2 ^ 31) (h0 : ¬ x < 0) (h1 : x < nI n) : ∃ j, j < n ∧ x = nI j := by
  obtain ⟨j, hj, rfl⟩ := nI_of h0
  exact ⟨j, by rw [nI_ltI hj hn] at h1; omega, rfl⟩
/-! ## the corridors of the class -/
def isC (c : Nat) : Prop := c = 1 ∨ c = 7 ∨ c = 13
/-- the places of a corridor's own words: 0 its numbers (rooms, done, cards, staying, downs), 1 kinds, 2 figures, 3 at, 4 loads, 5 clocks -/
def inr (o j : Nat) : Prop := (o = 0 ∧ j < 5) ∨ (o = 1 ∧ j < 8) ∨ (o = 2 ∧ j < 8) ∨ (o = 3 ∧ j < 2) ∨ (o = 4 ∧ j < 2) ∨ (o = 5 ∧ j < 2)
/-- the corridor at cell c is K -/
def RepC (c : Nat) (S K : Mem) : Prop := ∀ o j, inr o j → S (c + o) j = K o j
/-- nothing but the cells a to b has changed -/
def Fr (a b : Nat) (S S' : Mem) : Prop := ∀ k j, k < a ∨ b < k → S' k j = S k j
set_option maxRecDepth 100000 in
theorem Fr.rf {a b : Nat} {S : Mem} : Fr a b S S := fun _ _ _ => rfl
set_option maxRecDepth 100000 in
theorem Fr.tr {a b : Nat} {S S1 S2 : Mem} (h1 : Fr a b S S1) (h2 : Fr a b S1 S2) : Fr a b S S2 := fun k j h => (h2 k j h).trans (h1 k j h)
set_option maxRecDepth 100000 in
theorem Fr.put {a b k j : Nat} {S : Mem} {v : Int32} (h1 : a ≤ k) (h2 : k ≤ b) : Fr a b S (up S k j v) := fun k' j' h => by
  unfold up
  rw [if_neg]
  intro q
  omega
set_option maxRecDepth 100000 in
theorem up_at {S : Mem} {k j : Nat} {v : Int32} : up S k j v k j = v := by simp [up]
set_option maxRecDepth 100000 in
theorem up_k {S : Mem} {k j k' j' : Nat} {v : Int32} (h : k' ≠ k) : up S k j v k' j' = S k' j' := by simp [up, h]
set_option maxRecDepth 100000 in
theorem up_j {S : Mem} {k j k' j' : Nat} {v : Int32} (h : j' ≠ j) : up S k j v k' j' = S k' j' := by simp [up, h]
set_option maxRecDepth 100000 in
theorem RepC.put {c o j : Nat} {S K : Mem} {v : Int32} (h : RepC c S K) : RepC c (up S (c + o) j v) (up K o j v) := by
  intro o' j' hi
  have := h o' j' hi
  show (if c + o' = c + o ∧ j' = j then v else S (c + o') j') = (if o' = o ∧ j' = j then v else K o' j')
  by_cases q : o' = o ∧ j' = j
  · rw [if_pos q, if_pos ⟨by omega, q.2⟩]
  · rw [if_neg q, if_neg (fun z => q ⟨by omega, z.2⟩)]
    exact this
set_option maxRecDepth 100000 in
theorem RepC.fr {c a b : Nat} {S S' K : Mem} (h : RepC c S K) (hf : Fr a b S S') (hc : c + 5 < a ∨ b < c) : RepC c S' K := by
  intro o j hi
  rw [hf (c + o) j (by unfold inr at hi; omega)]
  exact h o j hi
section CORR
variable {C : Cst} {T : Nat → Pst → Nat → Lcs → List Value → Mem → Prop}
set_option maxRecDepth 100000 in
theorem X1_rooms (H : Rules C T) {c : Nat} (hc : isC c) {S K : Mem} (R : RepC c S K) {Q : Pst} (h1 : Q (some (.int (K 0 0))) S) : C mX1_rooms [.ref c] S Q := by
  rw [← R 0 0 (by simp [inr])] at h1
  rcases hc with rfl | rfl | rfl <;>
  · refine Rules.go H (by decide) (Nat.le_of_ble_eq_true rfl) ?_
    repeat' (first | (refine Rules.st H okX1_rooms [] ?_; conv => whnf) | refine br_t (by first | decide | assumption) ?_ | refine br_f (by first | decide | assumption) ?_ | refine br_c (fun _ => ?_) (fun _ => ?_) | refine ⟨by decide, ?_⟩ | refine ⟨by first | assumption | (unfold vp_in; decide) | ((with_reducible (refine vp_in_nI ?_ ?_)) <;> omega), ?_⟩ | fail)
    exact h1
set_option maxRecDepth 100000 in
theorem X1_hasRoom (H : Rules C T) {c : Nat} (hc : isC c) {S K : Mem} (R : RepC c S K) {n : Nat} (hn : K 0 0 = nI n) (hn8 : n ≤ 8) {x : Int32} {Q : Pst} (h1 : ∀ r, r < n → x = nI r → Q (some (.int 1)) S) (h0 : (∀ r, r < n → ¬ x = nI r) → Q (some (.int 0)) S) : C mX1_hasRoom [.ref c, .int x] S Q := by
  rw [← R 0 0 (by simp [inr])] at hn
  have key1 : ¬ x < 0 → x < S (c + 0) 0 → Q (some (.int 1)) S := fun g1 g2 => by
    obtain ⟨r, hr, e⟩ := nI_bound2 (by omega) g1 (hn ▸ g2)
    exact h1 r hr e
  have key0 : (x < 0 ∨ ¬ x < S (c + 0) 0) → Q (some (.int 0)) S := fun g => h0 fun r hr e => by
    rw [e, hn] at g
    exact g.elim (nI_pos (by omega)) (fun z => z (nI_lt hr (by omega)))
  have key8 : ¬ x < 0 → x < S (c + 0) 0 → ¬ x < 8 → False := fun g1 g2 g3 => by
    obtain ⟨r, hr, e⟩ := nI_bound2 (by omega) g1 (hn ▸ g2)
    rw [e] at g3
    revert g3
    simp (disch := omega) only [li0, li1, li2, li3, li4, li5, li6, li7, li8, li9, li10, li11, li12, li13, li14, li15, li16, li17, li18, li19, li20, li60, li96, li99, li255, li999, nI_leI, nI_ltI, nI_eq, nI_1, nI_add]
    omega
  rcases hc with rfl | rfl | rfl <;>
  · refine Rules.go H (by decide) (Nat.le_of_ble_eq_true rfl) ?_
    repeat' (first | (refine Rules.st H okX1_hasRoom [] ?_; conv => whnf) | refine br_t (by first | decide | assumption) ?_ | refine br_f (by first | decide | assumption) ?_ | refine br_c (fun _ => ?_) (fun _ => ?_) | refine ⟨by decide, ?_⟩ | refine ⟨by first | assumption | (unfold vp_in; decide) | ((with_reducible (refine vp_in_nI ?_ ?_)) <;> omega), ?_⟩ | fail)
    · exact key0 (Or.inl ‹_›)
    · exact key0 (Or.inr (Int32.not_lt.mpr ‹_›))
    · exact (key8 ‹_› (Int32.not_le.mp ‹_›) (Int32.not_lt.mpr ‹_›)).elim
    · exact key1 ‹_› (Int32.not_le.mp ‹_›)
end CORR
/-! ## kinds: what both sides say alike -/
def outB (k f t : Int32) : Bool := if k = 1 ∨ k = 5 then decide (10 * f ≤ t) else if k = 3 then decide (10 * f ≤ t) && decide (irm t 2 = 0) else if k = 2 ∨ k = 4 then decide (irm (t + 20 - f) 20 < 10) else if k = 6 then true else decide (f ≤ irm t 20)
def workI (k f : Int32) : Int32 := if k = 1 ∨ k = 3 then 10 else if k = 4 then 7 + f else if k = 5 then 10 + f / 2 else if k = 6 then 3 else 7
def linenI (k : Int32) : Int32 := if k = 1 ∨ k = 3 ∨ k = 4 then 2 else if k = 5 then 3 else if k = 6 then 0 else 1
def tipI (k f : Int32) : Int32 := if k = 2 then 0 else if k = 3 then 2 * f else if k = 4 then 3 else if k = 5 then f + 1 else f
def ofL (c : Int32) : Int32 := if c = 114 then 0 else if c = 108 then 1 else if c = 115 then 2 else if c = 97 then 3 else if c = 98 then 4 else if c = 112 then 5 else if c = 117 then 6 else -1
section KINDS
variable {C : Cst} {T : Nat → Pst → Nat → Lcs → List Value → Mem → Prop}
set_option maxRecDepth 100000 in
theorem X2_isKind (H : Rules C T) {k : Int32} {S : Mem} {Q : Pst} (h1 : 0 ≤ k → k < 7 → Q (some (.int 1)) S) (h0 : ¬ (0 ≤ k ∧ k < 7) → Q (some (.int 0)) S) : C mX2_isKind [.int k] S Q := by
  refine Rules.go H (by decide) (Nat.le_of_ble_eq_true rfl) ?_
  repeat' (first | (refine Rules.st H okX2_isKind [] ?_; conv => whnf) | refine br_t (by first | decide | assumption) ?_ | refine br_f (by first | decide | assumption) ?_ | refine br_c (fun _ => ?_) (fun _ => ?_) | refine ⟨by decide, ?_⟩ | refine ⟨by first | assumption | (unfold vp_in; decide) | ((with_reducible (refine vp_in_nI ?_ ?_)) <;> omega), ?_⟩ | fail)
  · exact h0 (fun q => absurd q.1 (Int32.not_le.mpr ‹_›))
  · exact h0 (fun q => absurd q.2 (Int32.not_lt.mpr ‹_›))
  · exact h1 (Int32.not_lt.mp ‹_›) (Int32.not_le.mp ‹_›)
set_option maxRecDepth 100000 in
theorem X2_isUnderLeft (H : Rules C T) {k : Int32} {S : Mem} {Q : Pst} (h1 : (k = 1 ∨ k = 3 ∨ k = 5) → Q (some (.int 1)) S) (h0 : ¬ (k = 1 ∨ k = 3 ∨ k = 5) → Q (some (.int 0)) S) : C mX2_isUnderLeft [.int k] S Q := by
  refine Rules.go H (by decide) (Nat.le_of_ble_eq_true rfl) ?_
  repeat' (first | (refine Rules.st H okX2_isUnderLeft [] ?_; conv => whnf) | refine br_t (by first | decide | assumption) ?_ | refine br_f (by first | decide | assumption) ?_ | refine br_c (fun _ => ?_) (fun _ => ?_) | refine ⟨by decide, ?_⟩ | refine ⟨by first | assumption | (unfold vp_in; decide) | ((with_reducible (refine vp_in_nI ?_ ?_)) <;> omega), ?_⟩ | fail)
  all_goals first
    | (refine h1 ?_; simp [*]; done)
    | (refine h0 ?_; simp [*]; done)
set_option maxRecDepth 100000 in
theorem X2_ofLetter (H : Rules C T) {k : Int32} {S : Mem} {Q : Pst} (h : Q (some (.int (ofL k))) S) : C mX2_ofLetter [.int k] S Q := by
  refine Rules.go H (by decide) (Nat.le_of_ble_eq_true rfl) ?_
  repeat' (first | (refine Rules.st H okX2_ofLetter [] ?_; conv => whnf) | refine br_t (by first | decide | assumption) ?_ | refine br_f (by first | decide | assumption) ?_ | refine br_c (fun _ => ?_) (fun _ => ?_) | refine ⟨by decide, ?_⟩ | refine ⟨by first | assumption | (unfold vp_in; decide) | ((with_reducible (refine vp_in_nI ?_ ?_)) <;> omega), ?_⟩ | fail)
  all_goals simpa [ofL, *] using h
set_option maxRecDepth 100000 in
theorem X2_isOut (H : Rules C T) {k f t : Int32} {S : Mem} {Q : Pst} (h1 : outB k f t = true → Q (some (.int 1)) S) (h0 : outB k f t = false → Q (some (.int 0)) S) : C mX2_isOut [.int k, .int f, .int t] S Q := by
  refine Rules.go H (by decide) (Nat.le_of_ble_eq_true rfl) ?_
  repeat' (first | (refine Rules.st H okX2_isOut [] ?_; conv => whnf) | refine br_t (by first | decide | assumption) ?_ | refine br_f (by first | decide | assumption) ?_ | refine br_c (fun _ => ?_) (fun _ => ?_) | refine ⟨by decide, ?_⟩ | refine ⟨by first | assumption | (unfold vp_in; decide) | ((with_reducible (refine vp_in_nI ?_ ?_)) <;> omega), ?_⟩ | fail)
  all_goals (try simp only [Int32.not_lt, Int32.not_le] at *)
  all_goals first
    | (refine h1 ?_; simp [outB, *]; done)
    | (refine h0 ?_; simp [outB, *]; done)
    | (refine h0 ?_; simp only [outB]; simp [*]; intro z; exact absurd z (Int32.not_le.mpr ‹_›))
    | exact h0 (by simp only [outB]; simp [*]; intro z; exact absurd z (Int32.not_le.mpr ‹_›))
set_option maxRecDepth 100000 in
theorem X2_work (H : Rules C T) {k f : Int32} {S : Mem} {Q : Pst} (h : Q (some (.int (workI k f))) S) : C mX2_work [.int k, .int f] S Q := by
  refine Rules.go H (by decide) (Nat.le_of_ble_eq_true rfl) ?_
  repeat' (first | (refine Rules.st H okX2_work [] ?_; conv => whnf) | refine br_t (by first | decide | assumption) ?_ | refine br_f (by first | decide | assumption) ?_ | refine br_c (fun _ => ?_) (fun _ => ?_) | refine ⟨by decide, ?_⟩ | refine ⟨by first | assumption | (unfold vp_in; decide) | ((with_reducible (refine vp_in_nI ?_ ?_)) <;> omega), ?_⟩ | fail)
  all_goals simpa [workI, *] using h
set_option maxRecDepth 100000 in
theorem X2_linen (H : Rules C T) {k : Int32} {S : Mem} {Q : Pst} (h : Q (some (.int (linenI k))) S) : C mX2_linen [.int k] S Q := by
  refine Rules.go H (by decide) (Nat.le_of_ble_eq_true rfl) ?_
  repeat' (first | (refine Rules.st H okX2_linen [] ?_; conv => whnf) | refine br_t (by first | decide | assumption) ?_ | refine br_f (by first | decide | assumption) ?_ | refine br_c (fun _ => ?_) (fun _ => ?_) | refine ⟨by decide, ?_⟩ | refine ⟨by first | assumption | (unfold vp_in; decide) | ((with_reducible (refine vp_in_nI ?_ ?_)) <;> omega), ?_⟩ | fail)
  all_goals simpa [linenI, *] using h
set_option maxRecDepth 100000 in
theorem X2_tip (H : Rules C T) {k f : Int32} {S : Mem} {Q : Pst} (h : Q (some (.int (tipI k f))) S) : C mX2_tip [.int k, .int f] S Q := by
  refine Rules.go H (by decide) (Nat.le_of_ble_eq_true rfl) ?_
  repeat' (first | (refine Rules.st H okX2_tip [] ?_; conv => whnf) | refine br_t (by first | decide | assumption) ?_ | refine br_f (by first | decide | assumption) ?_ | refine br_c (fun _ => ?_) (fun _ => ?_) | refine ⟨by decide, ?_⟩ | refine ⟨by first | assumption | (unfold vp_in; decide) | ((with_reducible (refine vp_in_nI ?_ ?_)) <;> omega), ?_⟩ | fail)
  all_goals simpa [tipI, *] using h
end KINDS
section CORR2
variable {C : Cst} {T : Nat → Pst → Nat → Lcs → List Value → Mem → Prop}
set_option maxRecDepth 100000 in
theorem X1_doneBits (H : Rules C T) {c : Nat} (hc : isC c) {S K : Mem} (R : RepC c S K) {Q : Pst} (h1 : Q (some (.int (K 0 1))) S) : C mX1_doneBits [.ref c] S Q := by
  rw [← R 0 1 (by simp [inr])] at h1
  rcases hc with rfl | rfl | rfl <;>
  · refine Rules.go H (by decide) (Nat.le_of_ble_eq_true rfl) ?_
    repeat' (first | (refine Rules.st H okX1_doneBits [] ?_; conv => whnf) | refine br_t (by first | decide | assumption) ?_ | refine br_f (by first | decide | assumption) ?_ | refine br_c (fun _ => ?_) (fun _ => ?_) | refine ⟨by decide, ?_⟩ | refine ⟨by first | assumption | (unfold vp_in; decide) | ((with_reducible (refine vp_in_nI ?_ ?_)) <;> omega), ?_⟩ | fail)
    exact h1
set_option maxRecDepth 100000 in
theorem X1_cardBits (H : Rules C T) {c : Nat} (hc : isC c) {S K : Mem} (R : RepC c S K) {Q : Pst} (h1 : Q (some (.int (K 0 2))) S) : C mX1_cardBits [.ref c] S Q := by
  rw [← R 0 2 (by simp [inr])] at h1
  rcases hc with rfl | rfl | rfl <;>
  · refine Rules.go H (by decide) (Nat.le_of_ble_eq_true rfl) ?_
    repeat' (first | (refine Rules.st H okX1_cardBits [] ?_; conv => whnf) | refine br_t (by first | decide | assumption) ?_ | refine br_f (by first | decide | assumption) ?_ | refine br_c (fun _ => ?_) (fun _ => ?_) | refine ⟨by decide, ?_⟩ | refine ⟨by first | assumption | (unfold vp_in; decide) | ((with_reducible (refine vp_in_nI ?_ ?_)) <;> omega), ?_⟩ | fail)
    exact h1
set_option maxRecDepth 100000 in
theorem X1_timesDown (H : Rules C T) {c : Nat} (hc : isC c) {S K : Mem} (R : RepC c S K) {Q : Pst} (h1 : Q (some (.int (K 0 4))) S) : C mX1_timesDown [.ref c] S Q := by
  rw [← R 0 4 (by simp [inr])] at h1
  rcases hc with rfl | rfl | rfl <;>
  · refine Rules.go H (by decide) (Nat.le_of_ble_eq_true rfl) ?_
    repeat' (first | (refine Rules.st H okX1_timesDown [] ?_; conv => whnf) | refine br_t (by first | decide | assumption) ?_ | refine br_f (by first | decide | assumption) ?_ | refine br_c (fun _ => ?_) (fun _ => ?_) | refine ⟨by decide, ?_⟩ | refine ⟨by first | assumption | (unfold vp_in; decide) | ((with_reducible (refine vp_in_nI ?_ ?_)) <;> omega), ?_⟩ | fail)
    exact h1
set_option maxRecDepth 100000 in
theorem X1_kindOf (H : Rules C T) {c : Nat} (hc : isC c) {S K : Mem} (R : RepC c S K) {r : Nat} (hr : r < 8) {Q : Pst} (h1 : Q (some (.int (K 1 r))) S) : C mX1_kindOf [.ref c, .int (nI r)] S Q := by
  rw [← R 1 r (by simp [inr]; omega)] at h1
  rcases hc with rfl | rfl | rfl <;>
  · refine Rules.go H (by decide) (Nat.le_of_ble_eq_true rfl) ?_
    repeat' (first | (refine Rules.st H okX1_kindOf [] ?_; conv => whnf) | refine br_t (by first | decide | assumption) ?_ | refine br_f (by first | decide | assumption) ?_ | refine br_c (fun _ => ?_) (fun _ => ?_) | refine ⟨by decide, ?_⟩ | refine ⟨by first | assumption | (unfold vp_in; decide) | ((with_reducible (refine vp_in_nI ?_ ?_)) <;> omega), ?_⟩ | fail)
    all_goals (try (exfalso; (simp (disch := omega) only [li0, li1, li2, li3, li4, li5, li6, li7, li8, li9, li10, li11, li12, li13, li14, li15, li16, li17, li18, li19, li20, li60, li96, li99, li255, li999, ofN, nI_leI, nI_ltI, nI_eq, nI_1, nI_add] at *); first | done | omega))
    rw [nIc (by omega)]
    exact h1
set_option maxRecDepth 100000 in
theorem X1_figureOf (H : Rules C T) {c : Nat} (hc : isC c) {S K : Mem} (R : RepC c S K) {r : Nat} (hr : r < 8) {Q : Pst} (h1 : Q (some (.int (K 2 r))) S) : C mX1_figureOf [.ref c, .int (nI r)] S Q := by
  rw [← R 2 r (by simp [inr]; omega)] at h1
  rcases hc with rfl | rfl | rfl <;>
  · refine Rules.go H (by decide) (Nat.le_of_ble_eq_true rfl) ?_
    repeat' (first | (refine Rules.st H okX1_figureOf [] ?_; conv => whnf) | refine br_t (by first | decide | assumption) ?_ | refine br_f (by first | decide | assumption) ?_ | refine br_c (fun _ => ?_) (fun _ => ?_) | refine ⟨by decide, ?_⟩ | refine ⟨by first | assumption | (unfold vp_in; decide) | ((with_reducible (refine vp_in_nI ?_ ?_)) <;> omega), ?_⟩ | fail)
    all_goals (try (exfalso; (simp (disch := omega) only [li0, li1, li2, li3, li4, li5, li6, li7, li8, li9, li10, li11, li12, li13, li14, li15, li16, li17, li18, li19, li20, li60, li96, li99, li255, li999, ofN, nI_leI, nI_ltI, nI_eq, nI_1, nI_add] at *); first | done | omega))
    rw [nIc (by omega)]
    exact h1
set_option maxRecDepth 100000 in
theorem X1_placeOf (H : Rules C T) {c : Nat} (hc : isC c) {S K : Mem} (R : RepC c S K) {r : Nat} (hr : r < 2) {Q : Pst} (h1 : Q (some (.int (K 3 r))) S) : C mX1_placeOf [.ref c, .int (nI r)] S Q := by
  rw [← R 3 r (by simp [inr]; omega)] at h1
  rcases hc with rfl | rfl | rfl <;>
  · refine Rules.go H (by decide) (Nat.le_of_ble_eq_true rfl) ?_
    repeat' (first | (refine Rules.st H okX1_placeOf [] ?_; conv => whnf) | refine br_t (by first | decide | assumption) ?_ | refine br_f (by first | decide | assumption) ?_ | refine br_c (fun _ => ?_) (fun _ => ?_) | refine ⟨by decide, ?_⟩ | refine ⟨by first | assumption | (unfold vp_in; decide) | ((with_reducible (refine vp_in_nI ?_ ?_)) <;> omega), ?_⟩ | fail)
    all_goals (try (exfalso; (simp (disch := omega) only [li0, li1, li2, li3, li4, li5, li6, li7, li8, li9, li10, li11, li12, li13, li14, li15, li16, li17, li18, li19, li20, li60, li96, li99, li255, li999, ofN, nI_leI, nI_ltI, nI_eq, nI_1, nI_add] at *); first | done | omega))
    rw [nIc (by omega)]
    exact h1
set_option maxRecDepth 100000 in
theorem X1_loadOf (H : Rules C T) {c : Nat} (hc : isC c) {S K : Mem} (R : RepC c S K) {r : Nat} (hr : r < 2) {Q : Pst} (h1 : Q (some (.int (K 4 r))) S) : C mX1_loadOf [.ref c, .int (nI r)] S Q := by
  rw [← R 4 r (by simp [inr]; omega)] at h1
  rcases hc with rfl | rfl | rfl <;>
  · refine Rules.go H (by decide) (Nat.le_of_ble_eq_true rfl) ?_
    repeat' (first | (refine Rules.st H okX1_loadOf [] ?_; conv => whnf) | refine br_t (by first | decide | assumption) ?_ | refine br_f (by first | decide | assumption) ?_ | refine br_c (fun _ => ?_) (fun _ => ?_) | refine ⟨by decide, ?_⟩ | refine ⟨by first | assumption | (unfold vp_in; decide) | ((with_reducible (refine vp_in_nI ?_ ?_)) <;> omega), ?_⟩ | fail)
    all_goals (try (exfalso; (simp (disch := omega) only [li0, li1, li2, li3, li4, li5, li6, li7, li8, li9, li10, li11, li12, li13, li14, li15, li16, li17, li18, li19, li20, li60, li96, li99, li255, li999, ofN, nI_leI, nI_ltI, nI_eq, nI_1, nI_add] at *); first | done | omega))
    rw [nIc (by omega)]
    exact h1
set_option maxRecDepth 100000 in
theorem X1_clockOf (H : Rules C T) {c : Nat} (hc : isC c) {S K : Mem} (R : RepC c S K) {r : Nat} (hr : r < 2) {Q : Pst} (h1 : Q (some (.int (K 5 r))) S) : C mX1_clockOf [.ref c, .int (nI r)] S Q := by
  rw [← R 5 r (by simp [inr]; omega)] at h1
  rcases hc with rfl | rfl | rfl <;>
  · refine Rules.go H (by decide) (Nat.le_of_ble_eq_true rfl) ?_
    repeat' (first | (refine Rules.st H okX1_clockOf [] ?_; conv => whnf) | refine br_t (by first | decide | assumption) ?_ | refine br_f (by first | decide | assumption) ?_ | refine br_c (fun _ => ?_) (fun _ => ?_) | refine ⟨by decide, ?_⟩ | refine ⟨by first | assumption | (unfold vp_in; decide) | ((with_reducible (refine vp_in_nI ?_ ?_)) <;> omega), ?_⟩ | fail)
    all_goals (try (exfalso; (simp (disch := omega) only [li0, li1, li2, li3, li4, li5, li6, li7, li8, li9, li10, li11, li12, li13, li14, li15, li16, li17, li18, li19, li20, li60, li96, li99, li255, li999, ofN, nI_leI, nI_ltI, nI_eq, nI_1, nI_add] at *); first | done | omega))
    rw [nIc (by omega)]
    exact h1
set_option maxRecDepth 100000 in
theorem X1_setKind (H : Rules C T) {c : Nat} (hc : isC c) {S K : Mem} (R : RepC c S K) {r : Nat} (hr : r < 8) {x : Int32} {Q : Pst} (h1 : ∀ S', RepC c S' (up K 1 r x) → Fr c (c + 5) S S' → Q none S') : C mX1_setKind [.ref c, .int (nI r), .int x] S Q := by
  have h1 := h1 (up S (c + 1) r x) R.put (Fr.put (by omega) (by omega))
  rcases hc with rfl | rfl | rfl <;>
  · refine Rules.go H (by decide) (Nat.le_of_ble_eq_true rfl) ?_
    repeat' (first | (refine Rules.st H okX1_setKind [] ?_; conv => whnf) | refine br_t (by first | decide | assumption) ?_ | refine br_f (by first | decide | assumption) ?_ | refine br_c (fun _ => ?_) (fun _ => ?_) | refine ⟨by decide, ?_⟩ | refine ⟨by first | assumption | (unfold vp_in; decide) | ((with_reducible (refine vp_in_nI ?_ ?_)) <;> omega), ?_⟩ | fail)
    all_goals (try (exfalso; (simp (disch := omega) only [li0, li1, li2, li3, li4, li5, li6, li7, li8, li9, li10, li11, li12, li13, li14, li15, li16, li17, li18, li19, li20, li60, li96, li99, li255, li999, ofN, nI_leI, nI_ltI, nI_eq, nI_1, nI_add] at *); first | done | omega))
    rw [nIc (by omega)]
    exact h1
set_option maxRecDepth 100000 in
theorem X1_setFigure (H : Rules C T) {c : Nat} (hc : isC c) {S K : Mem} (R : RepC c S K) {r : Nat} (hr : r < 8) {x : Int32} {Q : Pst} (h1 : ∀ S', RepC c S' (up K 2 r x) → Fr c (c + 5) S S' → Q none S') : C mX1_setFigure [.ref c, .int (nI r), .int x] S Q := by
  have h1 := h1 (up S (c + 2) r x) R.put (Fr.put (by omega) (by omega))
  rcases hc with rfl | rfl | rfl <;>
  · refine Rules.go H (by decide) (Nat.le_of_ble_eq_true rfl) ?_
    repeat' (first | (refine Rules.st H okX1_setFigure [] ?_; conv => whnf) | refine br_t (by first | decide | assumption) ?_ | refine br_f (by first | decide | assumption) ?_ | refine br_c (fun _ => ?_) (fun _ => ?_) | refine ⟨by decide, ?_⟩ | refine ⟨by first | assumption | (unfold vp_in; decide) | ((with_reducible (refine vp_in_nI ?_ ?_)) <;> omega), ?_⟩ | fail)
    all_goals (try (exfalso; (simp (disch := omega) only [li0, li1, li2, li3, li4, li5, li6, li7, li8, li9, li10, li11, li12, li13, li14, li15, li16, li17, li18, li19, li20, li60, li96, li99, li255, li999, ofN, nI_leI, nI_ltI, nI_eq, nI_1, nI_add] at *); first | done | omega))
    rw [nIc (by omega)]
    exact h1
set_option maxRecDepth 100000 in
theorem X1_setPlace (H : Rules C T) {c : Nat} (hc : isC c) {S K : Mem} (R : RepC c S K) {r : Nat} (hr : r < 2) {x : Int32} {Q : Pst} (h1 : ∀ S', RepC c S' (up K 3 r x) → Fr c (c + 5) S S' → Q none S') : C mX1_setPlace [.ref c, .int (nI r), .int x] S Q := by
  have h1 := h1 (up S (c + 3) r x) R.put (Fr.put (by omega) (by omega))
  rcases hc with rfl | rfl | rfl <;>
  · refine Rules.go H (by decide) (Nat.le_of_ble_eq_true rfl) ?_
    repeat' (first | (refine Rules.st H okX1_setPlace [] ?_; conv => whnf) | refine br_t (by first | decide | assumption) ?_ | refine br_f (by first | decide | assumption) ?_ | refine br_c (fun _ => ?_) (fun _ => ?_) | refine ⟨by decide, ?_⟩ | refine ⟨by first | assumption | (unfold vp_in; decide) | ((with_reducible (refine vp_in_nI ?_ ?_)) <;> omega), ?_⟩ | fail)
    all_goals (try (exfalso; (simp (disch := omega) only [li0, li1, li2, li3, li4, li5, li6, li7, li8, li9, li10, li11, li12, li13, li14, li15, li16, li17, li18, li19, li20, li60, li96, li99, li255, li999, ofN, nI_leI, nI_ltI, nI_eq, nI_1, nI_add] at *); first | done | omega))
    rw [nIc (by omega)]
    exact h1
set_option maxRecDepth 100000 in
theorem X1_setLoad (H : Rules C T) {c : Nat} (hc : isC c) {S K : Mem} (R : RepC c S K) {r : Nat} (hr : r < 2) {x : Int32} {Q : Pst} (h1 : ∀ S', RepC c S' (up K 4 r x) → Fr c (c + 5) S S' → Q none S') : C mX1_setLoad [.ref c, .int (nI r), .int x] S Q := by
  have h1 := h1 (up S (c + 4) r x) R.put (Fr.put (by omega) (by omega))
  rcases hc with rfl | rfl | rfl <;>
  · refine Rules.go H (by decide) (Nat.le_of_ble_eq_true rfl) ?_
    repeat' (first | (refine Rules.st H okX1_setLoad [] ?_; conv => whnf) | refine br_t (by first | decide | assumption) ?_ | refine br_f (by first | decide | assumption) ?_ | refine br_c (fun _ => ?_) (fun _ => ?_) | refine ⟨by decide, ?_⟩ | refine ⟨by first | assumption | (unfold vp_in; decide) | ((with_reducible (refine vp_in_nI ?_ ?_)) <;> omega), ?_⟩ | fail)
    all_goals (try (exfalso; (simp (disch := omega) only [li0, li1, li2, li3, li4, li5, li6, li7, li8, li9, li10, li11, li12, li13, li14, li15, li16, li17, li18, li19, li20, li60, li96, li99, li255, li999, ofN, nI_leI, nI_ltI, nI_eq, nI_1, nI_add] at *); first | done | omega))
    rw [nIc (by omega)]
    exact h1
set_option maxRecDepth 100000 in
theorem X1_setClock (H : Rules C T) {c : Nat} (hc : isC c) {S K : Mem} (R : RepC c S K) {r : Nat} (hr : r < 2) {x : Int32} {Q : Pst} (h1 : ∀ S', RepC c S' (up K 5 r x) → Fr c (c + 5) S S' → Q none S') : C mX1_setClock [.ref c, .int (nI r), .int x] S Q := by
  have h1 := h1 (up S (c + 5) r x) R.put (Fr.put (by omega) (by omega))
  rcases hc with rfl | rfl | rfl <;>
  · refine Rules.go H (by decide) (Nat.le_of_ble_eq_true rfl) ?_
    repeat' (first | (refine Rules.st H okX1_setClock [] ?_; conv => whnf) | refine br_t (by first | decide | assumption) ?_ | refine br_f (by first | decide | assumption) ?_ | refine br_c (fun _ => ?_) (fun _ => ?_) | refine ⟨by decide, ?_⟩ | refine ⟨by first | assumption | (unfold vp_in; decide) | ((with_reducible (refine vp_in_nI ?_ ?_)) <;> omega), ?_⟩ | fail)
    all_goals (try (exfalso; (simp (disch := omega) only [li0, li1, li2, li3, li4, li5, li6, li7, li8, li9, li10, li11, li12, li13, li14, li15, li16, li17, li18, li19, li20, li60, li96, li99, li255, li999, ofN, nI_leI, nI_ltI, nI_eq, nI_1, nI_add] at *); first | done | omega))
    rw [nIc (by omega)]
    exact h1
def passK (K : Mem) (m : Nat) (x : Int32) : Mem := up K 5 m (K 5 m + x)
set_option maxRecDepth 100000 in
theorem X1_pass (H : Rules C T) {c : Nat} (hc : isC c) {S K : Mem} (R : RepC c S K) {m : Nat} (hm : m < 2) {x : Int32} {Q : Pst} (h1 : ∀ S', RepC c S' (passK K m x) → Fr c (c + 5) S S' → Q none S') : C mX1_pass [.ref c, .int (nI m), .int x] S Q := by
  have h1 := h1 (up S (c + 5) m (K 5 m + x)) R.put (Fr.put (by omega) (by omega))
  rw [← R 5 m (by simp [inr]; omega)] at h1
  rcases hc with rfl | rfl | rfl <;>
  · refine Rules.go H (by decide) (Nat.le_of_ble_eq_true rfl) ?_
    repeat' (first | (refine Rules.st H okX1_pass [] ?_; conv => whnf) | refine br_t (by first | decide | assumption) ?_ | refine br_f (by first | decide | assumption) ?_ | refine br_c (fun _ => ?_) (fun _ => ?_) | refine ⟨by decide, ?_⟩ | refine ⟨by first | assumption | (unfold vp_in; decide) | ((with_reducible (refine vp_in_nI ?_ ?_)) <;> omega), ?_⟩ | fail)
    all_goals (try (exfalso; (simp (disch := omega) only [li0, li1, li2, li3, li4, li5, li6, li7, li8, li9, li10, li11, li12, li13, li14, li15, li16, li17, li18, li19, li20, li60, li96, li99, li255, li999, ofN, nI_leI, nI_ltI, nI_eq, nI_1, nI_add] at *); first | done | omega))
    rw [nIc (by omega)]
    exact h1
set_option maxRecDepth 100000 in
theorem X1_keepIn (H : Rules C T) {c : Nat} (hc : isC c) {S K : Mem} (R : RepC c S K) {x : Int32} {Q : Pst} (h1 : ∀ S', RepC c S' (up K 0 3 x) → Fr c (c + 5) S S' → Q none S') : C mX1_keepIn [.ref c, .int x] S Q := by
  have h1 := h1 (up S (c + 0) 3 x) R.put (Fr.put (by omega) (by omega))
  rcases hc with rfl | rfl | rfl <;>
  · refine Rules.go H (by decide) (Nat.le_of_ble_eq_true rfl) ?_
    repeat' (first | (refine Rules.st H okX1_keepIn [] ?_; conv => whnf) | refine br_t (by first | decide | assumption) ?_ | refine br_f (by first | decide | assumption) ?_ | refine br_c (fun _ => ?_) (fun _ => ?_) | refine ⟨by decide, ?_⟩ | refine ⟨by first | assumption | (unfold vp_in; decide) | ((with_reducible (refine vp_in_nI ?_ ?_)) <;> omega), ?_⟩ | fail)
    exact h1
/-- a bit of a set, as the bytecode takes it -/
def bt (x : Int32) (r : Nat) : Int32 := (x >>> (nI r &&& 31)) &&& 1
set_option maxRecDepth 100000 in
theorem X1_isDone (H : Rules C T) {c : Nat} (hc : isC c) {S K : Mem} (R : RepC c S K) {r : Nat} {Q : Pst} (h1 : ¬ bt (K 0 1) r = 0 → Q (some (.int 1)) S) (h0 : bt (K 0 1) r = 0 → Q (some (.int 0)) S) : C mX1_isDone [.ref c, .int (nI r)] S Q := by
  rw [← R 0 1 (by simp [inr])] at h1 h0
  rcases hc with rfl | rfl | rfl <;>
  · refine Rules.go H (by decide) (Nat.le_of_ble_eq_true rfl) ?_
    repeat' (first | (refine Rules.st H okX1_isDone [] ?_; conv => whnf) | refine br_t (by first | decide | assumption) ?_ | refine br_f (by first | decide | assumption) ?_ | refine br_c (fun _ => ?_) (fun _ => ?_) | refine ⟨by decide, ?_⟩ | refine ⟨by first | assumption | (unfold vp_in; decide) | ((with_reducible (refine vp_in_nI ?_ ?_)) <;> omega), ?_⟩ | fail)
    · exact h0 ‹_›
    · exact h1 ‹_›
set_option maxRecDepth 100000 in
theorem X1_hasCard (H : Rules C T) {c : Nat} (hc : isC c) {S K : Mem} (R : RepC c S K) {r : Nat} {Q : Pst} (h1 : ¬ bt (K 0 2) r = 0 → Q (some (.int 1)) S) (h0 : bt (K 0 2) r = 0 → Q (some (.int 0)) S) : C mX1_hasCard [.ref c, .int (nI r)] S Q := by
  rw [← R 0 2 (by simp [inr])] at h1 h0
  rcases hc with rfl | rfl | rfl <;>
  · refine Rules.go H (by decide) (Nat.le_of_ble_eq_true rfl) ?_
    repeat' (first | (refine Rules.st H okX1_hasCard [] ?_; conv => whnf) | refine br_t (by first | decide | assumption) ?_ | refine br_f (by first | decide | assumption) ?_ | refine br_c (fun _ => ?_) (fun _ => ?_) | refine ⟨by decide, ?_⟩ | refine ⟨by first | assumption | (unfold vp_in; decide) | ((with_reducible (refine vp_in_nI ?_ ?_)) <;> omega), ?_⟩ | fail)
    · exact h0 ‹_›
    · exact h1 ‹_›
set_option maxRecDepth 100000 in
theorem X1_changeDone (H : Rules C T) {c : Nat} (hc : isC c) {S K : Mem} (R : RepC c S K) {r : Nat} {Q : Pst} (h1 : ∀ S', RepC c S' (up K 0 1 (K 0 1 ^^^ (1 <<< (nI r &&& 31)))) → Fr c (c + 5) S S' → Q none S') : C mX1_changeDone [.ref c, .int (nI r)] S Q := by
  have h1 := h1 (up S (c + 0) 1 (K 0 1 ^^^ (1 <<< (nI r &&& 31)))) R.put (Fr.put (by omega) (by omega))
  rw [← R 0 1 (by simp [inr])] at h1
  rcases hc with rfl | rfl | rfl <;>
  · refine Rules.go H (by decide) (Nat.le_of_ble_eq_true rfl) ?_
    repeat' (first | (refine Rules.st H okX1_changeDone [] ?_; conv => whnf) | refine br_t (by first | decide | assumption) ?_ | refine br_f (by first | decide | assumption) ?_ | refine br_c (fun _ => ?_) (fun _ => ?_) | refine ⟨by decide, ?_⟩ | refine ⟨by first | assumption | (unfold vp_in; decide) | ((with_reducible (refine vp_in_nI ?_ ?_)) <;> omega), ?_⟩ | fail)
    exact h1
set_option maxRecDepth 100000 in
theorem X1_changeCard (H : Rules C T) {c : Nat} (hc : isC c) {S K : Mem} (R : RepC c S K) {r : Nat} {Q : Pst} (h1 : ∀ S', RepC c S' (up K 0 2 (K 0 2 ^^^ (1 <<< (nI r &&& 31)))) → Fr c (c + 5) S S' → Q none S') : C mX1_changeCard [.ref c, .int (nI r)] S Q := by
  have h1 := h1 (up S (c + 0) 2 (K 0 2 ^^^ (1 <<< (nI r &&& 31)))) R.put (Fr.put (by omega) (by omega))
  rw [← R 0 2 (by simp [inr])] at h1
  rcases hc with rfl | rfl | rfl <;>
  · refine Rules.go H (by decide) (Nat.le_of_ble_eq_true rfl) ?_
    repeat' (first | (refine Rules.st H okX1_changeCard [] ?_; conv => whnf) | refine br_t (by first | decide | assumption) ?_ | refine br_f (by first | decide | assumption) ?_ | refine br_c (fun _ => ?_) (fun _ => ?_) | refine ⟨by decide, ?_⟩ | refine ⟨by first | assumption | (unfold vp_in; decide) | ((with_reducible (refine vp_in_nI ?_ ?_)) <;> omega), ?_⟩ | fail)
    exact h1
set_option maxRecDepth 100000 in
theorem X1_hasMaid (H : Rules C T) {c : Nat} {S : Mem} {x : Int32} {Q : Pst} (h1 : ∀ m, m < 2 → x = nI m → Q (some (.int 1)) S) (h0 : (∀ m, m < 2 → ¬ x = nI m) → Q (some (.int 0)) S) : C mX1_hasMaid [.ref c, .int x] S Q := by
  refine Rules.go H (by decide) (Nat.le_of_ble_eq_true rfl) ?_
  repeat' (first | (refine Rules.st H okX1_hasMaid [] ?_; conv => whnf) | refine br_t (by first | decide | assumption) ?_ | refine br_f (by first | decide | assumption) ?_ | refine br_c (fun _ => ?_) (fun _ => ?_) | refine ⟨by decide, ?_⟩ | refine ⟨by first | assumption | (unfold vp_in; decide) | ((with_reducible (refine vp_in_nI ?_ ?_)) <;> omega), ?_⟩ | fail)
  · exact h1 0 (by omega) ‹_›
  · exact h1 1 (by omega) ‹_›
  · exact h0 (fun m hm => by
      rcases (show m = 0 ∨ m = 1 by omega) with rfl | rfl
      · assumption
      · assumption)
set_option maxRecDepth 100000 in
theorem X1_hasPlace (H : Rules C T) {c : Nat} (hc : isC c) {S K : Mem} (R : RepC c S K) {n : Nat} (hn : K 0 0 = nI n) (hn8 : n ≤ 8) {x : Int32} {Q : Pst} (h1 : ∀ r, r ≤ n → x = nI r → Q (some (.int 1)) S) (h0 : (∀ r, r ≤ n → ¬ x = nI r) → Q (some (.int 0)) S) : C mX1_hasPlace [.ref c, .int x] S Q := by
  rw [← R 0 0 (by simp [inr])] at hn
  have key1 : ¬ x < 0 → x ≤ S (c + 0) 0 → Q (some (.int 1)) S := fun g1 g2 => by
    obtain ⟨j, hj, e⟩ := nI_of g1
    exact h1 j (by rw [e, hn] at g2; exact (nI_leI hj (by omega)).mp g2) e
  have key0 : (x < 0 ∨ ¬ x ≤ S (c + 0) 0) → Q (some (.int 0)) S := fun g => h0 fun r hr e => by
    rw [e, hn] at g
    exact g.elim (nI_pos (by omega)) (fun z => z (nI_le hr (by omega)))
  rcases hc with rfl | rfl | rfl <;>
  · refine Rules.go H (by decide) (Nat.le_of_ble_eq_true rfl) ?_
    repeat' (first | (refine Rules.st H okX1_hasPlace [] ?_; conv => whnf) | refine br_t (by first | decide | assumption) ?_ | refine br_f (by first | decide | assumption) ?_ | refine br_c (fun _ => ?_) (fun _ => ?_) | refine ⟨by decide, ?_⟩ | refine ⟨by first | assumption | (unfold vp_in; decide) | ((with_reducible (refine vp_in_nI ?_ ?_)) <;> omega), ?_⟩ | fail)
    · exact key0 (Or.inl ‹_›)
    · exact key0 (Or.inr (Int32.not_le.mpr ‹_›))
    · exact key1 ‹_› (Int32.not_lt.mp ‹_›)
end CORR2
end
section
section CORR3
variable {C : Cst} {T : Nat → Pst → Nat → Lcs → List Value → Mem → Prop}
/-- Integer.bitCount, as the bytecode has it -/
def pc1 (x : Int32) : Int32 := x - ((x.toUInt32 >>> (Int32.toUInt32 1 &&& Int32.toUInt32 31)).toInt32 &&& 1431655765)
def pc2 (x : Int32) : Int32 := (x &&& 858993459) + ((x.toUInt32 >>> (Int32.toUInt32 2 &&& Int32.toUInt32 31)).toInt32 &&& 858993459)
def pc3 (x : Int32) : Int32 := (x + (x.toUInt32 >>> (Int32.toUInt32 4 &&& Int32.toUInt32 31)).toInt32) &&& 252645135
def pc4 (x : Int32) : Int32 := x + (x.toUInt32 >>> (Int32.toUInt32 8 &&& Int32.toUInt32 31)).toInt32
def pc5 (x : Int32) : Int32 := x + (x.toUInt32 >>> (Int32.toUInt32 16 &&& Int32.toUInt32 31)).toInt32
def pcI (x : Int32) : Int32 := pc5 (pc4 (pc3 (pc2 (pc1 x)))) &&& 63
set_option maxRecDepth 100000 in
theorem J6_bitCount (H : Rules C T) {S : Mem} {x : Int32} {Q : Pst} (h1 : Q (some (.int (pcI x))) S) : C mJ6_bitCount_0f7a4 [.int x] S Q := by
  refine Rules.go H (by decide) (Nat.le_of_ble_eq_true rfl) ?_
  repeat' (first | (refine Rules.st H okJ6_bitCount_0f7a4 [] ?_; conv => whnf) | refine br_t (by first | decide | assumption) ?_ | refine br_f (by first | decide | assumption) ?_ | refine br_c (fun _ => ?_) (fun _ => ?_) | refine ⟨by decide, ?_⟩ | refine ⟨by first | assumption | (unfold vp_in; decide) | ((with_reducible (refine vp_in_nI ?_ ?_)) <;> omega), ?_⟩ | fail)
  exact h1
def absI (x : Int32) : Int32 := if 0 ≤ x then x else 0 - x
def maxI (x y : Int32) : Int32 := if x < y then y else x
def laterK (K : Mem) : Int32 := maxI (K 5 0) (K 5 1)
set_option maxRecDepth 100000 in
theorem X1_doneCount (H : Rules C T) {c : Nat} (hc : isC c) {S K : Mem} (R : RepC c S K) {Q : Pst} (h1 : Q (some (.int (pcI (K 0 1)))) S) : C mX1_doneCount [.ref c] S Q := by
  rw [← R 0 1 (by simp [inr])] at h1
  rcases hc with rfl | rfl | rfl <;>
  · refine Rules.go H (by decide) (Nat.le_of_ble_eq_true rfl) ?_
    repeat' (first | (refine Rules.st H okX1_doneCount [] ?_; conv => whnf) | refine br_t (by first | decide | assumption) ?_ | refine br_f (by first | decide | assumption) ?_ | refine br_c (fun _ => ?_) (fun _ => ?_) | refine ⟨by decide, ?_⟩ | refine ⟨by first | assumption | (unfold vp_in; decide) | ((with_reducible (refine vp_in_nI ?_ ?_)) <;> omega), ?_⟩ | fail)
    refine J6_bitCount H ?_
    repeat' (first | (refine Rules.st H okX1_doneCount [] ?_; conv => whnf) | refine br_t (by first | decide | assumption) ?_ | refine br_f (by first | decide | assumption) ?_ | refine br_c (fun _ => ?_) (fun _ => ?_) | refine ⟨by decide, ?_⟩ | refine ⟨by first | assumption | (unfold vp_in; decide) | ((with_reducible (refine vp_in_nI ?_ ?_)) <;> omega), ?_⟩ | fail)
    exact h1
set_option maxRecDepth 100000 in
theorem X1_laterClock (H : Rules C T) {c : Nat} (hc : isC c) {S K : Mem} (R : RepC c S K) {Q : Pst} (h1 : Q (some (.int (laterK K))) S) : C mX1_laterClock [.ref c] S Q := by
  unfold laterK at h1
  rw [← R 5 0 (by simp [inr]), ← R 5 1 (by simp [inr])] at h1
  rcases hc with rfl | rfl | rfl <;>
  · refine Rules.go H (by decide) (Nat.le_of_ble_eq_true rfl) ?_
    repeat' (first | (refine Rules.st H okX1_laterClock [] ?_; conv => whnf) | refine br_t (by first | decide | assumption) ?_ | refine br_f (by first | decide | assumption) ?_ | refine br_c (fun _ => ?_) (fun _ => ?_) | refine ⟨by decide, ?_⟩ | refine ⟨by first | assumption | (unfold vp_in; decide) | ((with_reducible (refine vp_in_nI ?_ ?_)) <;> omega), ?_⟩ | fail)
    exact h1
def workK (K : Mem) (r : Nat) : Int32 := workI (K 1 r) (K 2 r)
def linK (K : Mem) (r : Nat) : Int32 := linenI (K 1 r)
def tipK (K : Mem) (r : Nat) : Int32 := tipI (K 1 r) (K 2 r)
def outK (K : Mem) (r : Nat) (t : Int32) : Bool := if bt (K 0 3) r = 0 then outB (K 1 r) (K 2 r) t else false
set_option maxRecDepth 100000 in
theorem X1_workOf (H : Rules C T) {c : Nat} (hc : isC c) {S K : Mem} (R : RepC c S K) {r : Nat} (hr : r < 8) {Q : Pst} (h1 : Q (some (.int (workK K r))) S) : C mX1_workOf [.ref c, .int (nI r)] S Q := by
  have hc0 := hc
  rcases hc with rfl | rfl | rfl <;>
  · refine Rules.go H (by decide) (Nat.le_of_ble_eq_true rfl) ?_
    repeat' (first | (refine Rules.st H okX1_workOf [] ?_; conv => whnf) | refine br_t (by first | decide | assumption) ?_ | refine br_f (by first | decide | assumption) ?_ | refine br_c (fun _ => ?_) (fun _ => ?_) | refine ⟨by decide, ?_⟩ | refine ⟨by first | assumption | (unfold vp_in; decide) | ((with_reducible (refine vp_in_nI ?_ ?_)) <;> omega), ?_⟩ | fail)
    refine X1_kindOf H hc0 R hr ?_
    repeat' (first | (refine Rules.st H okX1_workOf [] ?_; conv => whnf) | refine br_t (by first | decide | assumption) ?_ | refine br_f (by first | decide | assumption) ?_ | refine br_c (fun _ => ?_) (fun _ => ?_) | refine ⟨by decide, ?_⟩ | refine ⟨by first | assumption | (unfold vp_in; decide) | ((with_reducible (refine vp_in_nI ?_ ?_)) <;> omega), ?_⟩ | fail)
    refine X1_figureOf H hc0 R hr ?_
    repeat' (first | (refine Rules.st H okX1_workOf [] ?_; conv => whnf) | refine br_t (by first | decide | assumption) ?_ | refine br_f (by first | decide | assumption) ?_ | refine br_c (fun _ => ?_) (fun _ => ?_) | refine ⟨by decide, ?_⟩ | refine ⟨by first | assumption | (unfold vp_in; decide) | ((with_reducible (refine vp_in_nI ?_ ?_)) <;> omega), ?_⟩ | fail)
    refine X2_work H ?_
    repeat' (first | (refine Rules.st H okX1_workOf [] ?_; conv => whnf) | refine br_t (by first | decide | assumption) ?_ | refine br_f (by first | decide | assumption) ?_ | refine br_c (fun _ => ?_) (fun _ => ?_) | refine ⟨by decide, ?_⟩ | refine ⟨by first | assumption | (unfold vp_in; decide) | ((with_reducible (refine vp_in_nI ?_ ?_)) <;> omega), ?_⟩ | fail)
    exact h1
set_option maxRecDepth 100000 in
theorem X1_linenOf (H : Rules C T) {c : Nat} (hc : isC c) {S K : Mem} (R : RepC c S K) {r : Nat} (hr : r < 8) {Q : Pst} (h1 : Q (some (.int (linK K r))) S) : C mX1_linenOf [.ref c, .int (nI r)] S Q := by
  have hc0 := hc
  rcases hc with rfl | rfl | rfl <;>
  · refine Rules.go H (by decide) (Nat.le_of_ble_eq_true rfl) ?_
    repeat' (first | (refine Rules.st H okX1_linenOf [] ?_; conv => whnf) | refine br_t (by first | decide | assumption) ?_ | refine br_f (by first | decide | assumption) ?_ | refine br_c (fun _ => ?_) (fun _ => ?_) | refine ⟨by decide, ?_⟩ | refine ⟨by first | assumption | (unfold vp_in; decide) | ((with_reducible (refine vp_in_nI ?_ ?_)) <;> omega), ?_⟩ | fail)
    refine X1_kindOf H hc0 R hr ?_
    repeat' (first | (refine Rules.st H okX1_linenOf [] ?_; conv => whnf) | refine br_t (by first | decide | assumption) ?_ | refine br_f (by first | decide | assumption) ?_ | refine br_c (fun _ => ?_) (fun _ => ?_) | refine ⟨by decide, ?_⟩ | refine ⟨by first | assumption | (unfold vp_in; decide) | ((with_reducible (refine vp_in_nI ?_ ?_)) <;> omega), ?_⟩ | fail)
    refine X2_linen H ?_
    repeat' (first | (refine Rules.st H okX1_linenOf [] ?_; conv => whnf) | refine br_t (by first | decide | assumption) ?_ | refine br_f (by first | decide | assumption) ?_ | refine br_c (fun _ => ?_) (fun _ => ?_) | refine ⟨by decide, ?_⟩ | refine ⟨by first | assumption | (unfold vp_in; decide) | ((with_reducible (refine vp_in_nI ?_ ?_)) <;> omega), ?_⟩ | fail)
    exact h1
set_option maxRecDepth 100000 in
theorem X1_tipOf (H : Rules C T) {c : Nat} (hc : isC c) {S K : Mem} (R : RepC c S K) {r : Nat} (hr : r < 8) {Q : Pst} (h1 : Q (some (.int (tipK K r))) S) : C mX1_tipOf [.ref c, .int (nI r)] S Q := by
  have hc0 := hc
  rcases hc with rfl | rfl | rfl <;>
  · refine Rules.go H (by decide) (Nat.le_of_ble_eq_true rfl) ?_
    repeat' (first | (refine Rules.st H okX1_tipOf [] ?_; conv => whnf) | refine br_t (by first | decide | assumption) ?_ | refine br_f (by first | decide | assumption) ?_ | refine br_c (fun _ => ?_) (fun _ => ?_) | refine ⟨by decide, ?_⟩ | refine ⟨by first | assumption | (unfold vp_in; decide) | ((with_reducible (refine vp_in_nI ?_ ?_)) <;> omega), ?_⟩ | fail)
    refine X1_kindOf H hc0 R hr ?_
    repeat' (first | (refine Rules.st H okX1_tipOf [] ?_; conv => whnf) | refine br_t (by first | decide | assumption) ?_ | refine br_f (by first | decide | assumption) ?_ | refine br_c (fun _ => ?_) (fun _ => ?_) | refine ⟨by decide, ?_⟩ | refine ⟨by first | assumption | (unfold vp_in; decide) | ((with_reducible (refine vp_in_nI ?_ ?_)) <;> omega), ?_⟩ | fail)
    refine X1_figureOf H hc0 R hr ?_
    repeat' (first | (refine Rules.st H okX1_tipOf [] ?_; conv => whnf) | refine br_t (by first | decide | assumption) ?_ | refine br_f (by first | decide | assumption) ?_ | refine br_c (fun _ => ?_) (fun _ => ?_) | refine ⟨by decide, ?_⟩ | refine ⟨by first | assumption | (unfold vp_in; decide) | ((with_reducible (refine vp_in_nI ?_ ?_)) <;> omega), ?_⟩ | fail)
    refine X2_tip H ?_
    repeat' (first | (refine Rules.st H okX1_tipOf [] ?_; conv => whnf) | refine br_t (by first | decide | assumption) ?_ | refine br_f (by first | decide | assumption) ?_ | refine br_c (fun _ => ?_) (fun _ => ?_) | refine ⟨by decide, ?_⟩ | refine ⟨by first | assumption | (unfold vp_in; decide) | ((with_reducible (refine vp_in_nI ?_ ?_)) <;> omega), ?_⟩ | fail)
    exact h1
set_option maxRecDepth 100000 in
theorem X1_guestOut (H : Rules C T) {c : Nat} (hc : isC c) {S K : Mem} (R : RepC c S K) {r : Nat} (hr : r < 8) {t : Int32} {Q : Pst} (h1 : outK K r t = true → Q (some (.int 1)) S) (h0 : outK K r t = false → Q (some (.int 0)) S) : C mX1_guestOut [.ref c, .int (nI r), .int t] S Q := by
  have hc0 := hc
  have g3 : ∀ P : Prop, (¬ bt (S (c + 0) 3) r = 0 → P) → (¬ bt (K 0 3) r = 0 → P) := fun P h z => h (by rw [R 0 3 (by simp [inr])]; exact z)
  have k0 : ¬ bt (S (c + 0) 3) r = 0 → Q (some (.int 0)) S := fun z => h0 (by unfold outK; rw [if_neg (by rw [← R 0 3 (by simp [inr])]; exact z)])
  have k1 : bt (S (c + 0) 3) r = 0 → outK K r t = outB (K 1 r) (K 2 r) t := fun z => by unfold outK; rw [if_pos (by rw [← R 0 3 (by simp [inr])]; exact z)]
  rcases hc with rfl | rfl | rfl <;>
  · refine Rules.go H (by decide) (Nat.le_of_ble_eq_true rfl) ?_
    repeat' (first | (refine Rules.st H okX1_guestOut [] ?_; conv => whnf) | refine br_t (by first | decide | assumption) ?_ | refine br_f (by first | decide | assumption) ?_ | refine br_c (fun _ => ?_) (fun _ => ?_) | refine ⟨by decide, ?_⟩ | refine ⟨by first | assumption | (unfold vp_in; decide) | ((with_reducible (refine vp_in_nI ?_ ?_)) <;> omega), ?_⟩ | fail)
    · refine X1_kindOf H hc0 R hr ?_
      repeat' (first | (refine Rules.st H okX1_guestOut [] ?_; conv => whnf) | refine br_t (by first | decide | assumption) ?_ | refine br_f (by first | decide | assumption) ?_ | refine br_c (fun _ => ?_) (fun _ => ?_) | refine ⟨by decide, ?_⟩ | refine ⟨by first | assumption | (unfold vp_in; decide) | ((with_reducible (refine vp_in_nI ?_ ?_)) <;> omega), ?_⟩ | fail)
      refine X1_figureOf H hc0 R hr ?_
      repeat' (first | (refine Rules.st H okX1_guestOut [] ?_; conv => whnf) | refine br_t (by first | decide | assumption) ?_ | refine br_f (by first | decide | assumption) ?_ | refine br_c (fun _ => ?_) (fun _ => ?_) | refine ⟨by decide, ?_⟩ | refine ⟨by first | assumption | (unfold vp_in; decide) | ((with_reducible (refine vp_in_nI ?_ ?_)) <;> omega), ?_⟩ | fail)
      refine X2_isOut H (fun z => ?_) (fun z => ?_)
      · repeat' (first | (refine Rules.st H okX1_guestOut [] ?_; conv => whnf) | refine br_t (by first | decide | assumption) ?_ | refine br_f (by first | decide | assumption) ?_ | refine br_c (fun _ => ?_) (fun _ => ?_) | refine ⟨by decide, ?_⟩ | refine ⟨by first | assumption | (unfold vp_in; decide) | ((with_reducible (refine vp_in_nI ?_ ?_)) <;> omega), ?_⟩ | fail)
        exact h1 (by rw [k1 (by assumption)]; exact z)
      · repeat' (first | (refine Rules.st H okX1_guestOut [] ?_; conv => whnf) | refine br_t (by first | decide | assumption) ?_ | refine br_f (by first | decide | assumption) ?_ | refine br_c (fun _ => ?_) (fun _ => ?_) | refine ⟨by decide, ?_⟩ | refine ⟨by first | assumption | (unfold vp_in; decide) | ((with_reducible (refine vp_in_nI ?_ ?_)) <;> omega), ?_⟩ | fail)
        exact h0 (by rw [k1 (by assumption)]; exact z)
    · exact k0 ‹_›
def walkK (K : Mem) (m p : Nat) : Mem := up (passK K m (absI (K 3 m - nI p))) 3 m (nI p)
set_option maxRecDepth 100000 in
theorem X1_walkTo (H : Rules C T) {c : Nat} (hc : isC c) {S K : Mem} (R : RepC c S K) {m : Nat} (hm : m < 2) {p : Nat} {Q : Pst} (h1 : ∀ S', RepC c S' (walkK K m p) → Fr c (c + 5) S S' → Q none S') : C mX1_walkTo [.ref c, .int (nI m), .int (nI p)] S Q := by
  have hc0 := hc
  rcases hc with rfl | rfl | rfl <;>
  · refine Rules.go H (by decide) (Nat.le_of_ble_eq_true rfl) ?_
    repeat' (first | (refine Rules.st H okX1_walkTo [] ?_; conv => whnf) | refine br_t (by first | decide | assumption) ?_ | refine br_f (by first | decide | assumption) ?_ | refine br_c (fun _ => ?_) (fun _ => ?_) | refine ⟨by decide, ?_⟩ | refine ⟨by first | assumption | (unfold vp_in; decide) | ((with_reducible (refine vp_in_nI ?_ ?_)) <;> omega), ?_⟩ | fail)
    refine X1_placeOf H hc0 R hm ?_
    repeat' (first | (refine Rules.st H okX1_walkTo [] ?_; conv => whnf) | refine br_t (by first | decide | assumption) ?_ | refine br_f (by first | decide | assumption) ?_ | refine br_c (fun _ => ?_) (fun _ => ?_) | refine ⟨by decide, ?_⟩ | refine ⟨by first | assumption | (unfold vp_in; decide) | ((with_reducible (refine vp_in_nI ?_ ?_)) <;> omega), ?_⟩ | fail)
    refine X1_pass H hc0 R hm (fun S1 R1 F1 => ?_)
    repeat' (first | (refine Rules.st H okX1_walkTo [] ?_; conv => whnf) | refine br_t (by first | decide | assumption) ?_ | refine br_f (by first | decide | assumption) ?_ | refine br_c (fun _ => ?_) (fun _ => ?_) | refine ⟨by decide, ?_⟩ | refine ⟨by first | assumption | (unfold vp_in; decide) | ((with_reducible (refine vp_in_nI ?_ ?_)) <;> omega), ?_⟩ | fail)
    refine X1_setPlace H hc0 R1 hm (fun S2 R2 F2 => ?_)
    repeat' (first | (refine Rules.st H okX1_walkTo [] ?_; conv => whnf) | refine br_t (by first | decide | assumption) ?_ | refine br_f (by first | decide | assumption) ?_ | refine br_c (fun _ => ?_) (fun _ => ?_) | refine ⟨by decide, ?_⟩ | refine ⟨by first | assumption | (unfold vp_in; decide) | ((with_reducible (refine vp_in_nI ?_ ?_)) <;> omega), ?_⟩ | fail)
    exact h1 S2 R2 (F1.tr F2)
def downK (K : Mem) (m : Nat) : Mem := up (passK (walkK K m 0) m 2) 4 m 6
set_option maxRecDepth 100000 in
theorem X1_goDown (H : Rules C T) {c : Nat} (hc : isC c) {S K : Mem} (R : RepC c S K) {m : Nat} (hm : m < 2) {Q : Pst} (h1 : ∀ S', RepC c S' (downK K m) → Fr c (c + 5) S S' → Q none S') : C mX1_goDown [.ref c, .int (nI m)] S Q := by
  have hc0 := hc
  rcases hc with rfl | rfl | rfl <;>
  · refine Rules.go H (by decide) (Nat.le_of_ble_eq_true rfl) ?_
    repeat' (first | (refine Rules.st H okX1_goDown [] ?_; conv => whnf) | refine br_t (by first | decide | assumption) ?_ | refine br_f (by first | decide | assumption) ?_ | refine br_c (fun _ => ?_) (fun _ => ?_) | refine ⟨by decide, ?_⟩ | refine ⟨by first | assumption | (unfold vp_in; decide) | ((with_reducible (refine vp_in_nI ?_ ?_)) <;> omega), ?_⟩ | fail)
    refine X1_walkTo H hc0 R hm (p := 0) (fun S1 R1 F1 => ?_)
    repeat' (first | (refine Rules.st H okX1_goDown [] ?_; conv => whnf) | refine br_t (by first | decide | assumption) ?_ | refine br_f (by first | decide | assumption) ?_ | refine br_c (fun _ => ?_) (fun _ => ?_) | refine ⟨by decide, ?_⟩ | refine ⟨by first | assumption | (unfold vp_in; decide) | ((with_reducible (refine vp_in_nI ?_ ?_)) <;> omega), ?_⟩ | fail)
    refine X1_pass H hc0 R1 hm (fun S2 R2 F2 => ?_)
    repeat' (first | (refine Rules.st H okX1_goDown [] ?_; conv => whnf) | refine br_t (by first | decide | assumption) ?_ | refine br_f (by first | decide | assumption) ?_ | refine br_c (fun _ => ?_) (fun _ => ?_) | refine ⟨by decide, ?_⟩ | refine ⟨by first | assumption | (unfold vp_in; decide) | ((with_reducible (refine vp_in_nI ?_ ?_)) <;> omega), ?_⟩ | fail)
    refine X1_setLoad H hc0 R2 hm (fun S3 R3 F3 => ?_)
    repeat' (first | (refine Rules.st H okX1_goDown [] ?_; conv => whnf) | refine br_t (by first | decide | assumption) ?_ | refine br_f (by first | decide | assumption) ?_ | refine br_c (fun _ => ?_) (fun _ => ?_) | refine ⟨by decide, ?_⟩ | refine ⟨by first | assumption | (unfold vp_in; decide) | ((with_reducible (refine vp_in_nI ?_ ?_)) <;> omega), ?_⟩ | fail)
    exact h1 S3 R3 ((F1.tr F2).tr F3)
def fetchK (K : Mem) (m : Nat) : Mem := let K1 := up (passK K m (2 * K 3 m + 4)) 4 m 6; up K1 0 4 (K1 0 4 + 1)
set_option maxRecDepth 100000 in
theorem X1_fetchLinen (H : Rules C T) {c : Nat} (hc : isC c) {S K : Mem} (R : RepC c S K) {m : Nat} (hm : m < 2) {Q : Pst} (h1 : ∀ S', RepC c S' (fetchK K m) → Fr c (c + 5) S S' → Q none S') : C mX1_fetchLinen [.ref c, .int (nI m)] S Q := by
  have hc0 := hc
  have fin : ∀ S2, RepC c S2 (up (passK K m (2 * K 3 m + 4)) 4 m 6) → Fr c (c + 5) S S2 → Q none (up S2 (c + 0) 4 (S2 (c + 0) 4 + 1)) := fun S2 R2 F2 => h1 _ (by rw [R2 0 4 (by simp [inr])]; exact R2.put) (F2.tr (Fr.put (by omega) (by omega)))
  rcases hc with rfl | rfl | rfl <;>
  · refine Rules.go H (by decide) (Nat.le_of_ble_eq_true rfl) ?_
    repeat' (first | (refine Rules.st H okX1_fetchLinen [] ?_; conv => whnf) | refine br_t (by first | decide | assumption) ?_ | refine br_f (by first | decide | assumption) ?_ | refine br_c (fun _ => ?_) (fun _ => ?_) | refine ⟨by decide, ?_⟩ | refine ⟨by first | assumption | (unfold vp_in; decide) | ((with_reducible (refine vp_in_nI ?_ ?_)) <;> omega), ?_⟩ | fail)
    refine X1_placeOf H hc0 R hm ?_
    repeat' (first | (refine Rules.st H okX1_fetchLinen [] ?_; conv => whnf) | refine br_t (by first | decide | assumption) ?_ | refine br_f (by first | decide | assumption) ?_ | refine br_c (fun _ => ?_) (fun _ => ?_) | refine ⟨by decide, ?_⟩ | refine ⟨by first | assumption | (unfold vp_in; decide) | ((with_reducible (refine vp_in_nI ?_ ?_)) <;> omega), ?_⟩ | fail)
    refine X1_pass H hc0 R hm (fun S1 R1 F1 => ?_)
    repeat' (first | (refine Rules.st H okX1_fetchLinen [] ?_; conv => whnf) | refine br_t (by first | decide | assumption) ?_ | refine br_f (by first | decide | assumption) ?_ | refine br_c (fun _ => ?_) (fun _ => ?_) | refine ⟨by decide, ?_⟩ | refine ⟨by first | assumption | (unfold vp_in; decide) | ((with_reducible (refine vp_in_nI ?_ ?_)) <;> omega), ?_⟩ | fail)
    refine X1_setLoad H hc0 R1 hm (fun S2 R2 F2 => ?_)
    repeat' (first | (refine Rules.st H okX1_fetchLinen [] ?_; conv => whnf) | refine br_t (by first | decide | assumption) ?_ | refine br_f (by first | decide | assumption) ?_ | refine br_c (fun _ => ?_) (fun _ => ?_) | refine ⟨by decide, ?_⟩ | refine ⟨by first | assumption | (unfold vp_in; decide) | ((with_reducible (refine vp_in_nI ?_ ?_)) <;> omega), ?_⟩ | fail)
    exact fin S2 R2 (F1.tr F2)
def cleanK (K : Mem) (m r : Nat) (w : Int32) : Mem := let K1 := passK K m w; let K2 := up K1 4 m (K1 4 m - linK K1 r); up K2 0 1 (K2 0 1 ^^^ (1 <<< (nI r &&& 31)))
def knockK (K : Mem) (m r : Nat) (w : Int32) : Int32 × Mem :=
  if bt (K 0 1) r = 0 ∧ bt (K 0 2) r = 0 then
    let K1 := passK K m 1
    if outK K1 r (K1 5 m) = true then
      if K1 4 m < linK K1 r then
        let K2 := fetchK K1 m
        if outK K2 r (K2 5 m) = true then (3, cleanK K2 m r w) else (2, K2)
      else (3, cleanK K1 m r w)
    else (1, K1)
  else (0, K)
set_option maxRecDepth 100000 in
theorem X1_knock (H : Rules C T) {c : Nat} (hc : isC c) {S K : Mem} (R : RepC c S K) {m : Nat} (hm : m < 2) {r : Nat} (hr : r < 8) {w : Int32} {Q : Pst} (h1 : ∀ S', RepC c S' (knockK K m r w).2 → Fr c (c + 5) S S' → Q (some (.int (knockK K m r w).1)) S') : C mX1_knock [.ref c, .int (nI m), .int (nI r), .int w] S Q := by
  have hc0 := hc
  unfold knockK at h1
  rcases hc with rfl | rfl | rfl <;>
  · refine Rules.go H (by decide) (Nat.le_of_ble_eq_true rfl) ?_
    repeat' (first | (refine Rules.st H okX1_knock [] ?_; conv => whnf) | refine br_t (by first | decide | assumption) ?_ | refine br_f (by first | decide | assumption) ?_ | refine br_c (fun _ => ?_) (fun _ => ?_) | refine ⟨by decide, ?_⟩ | refine ⟨by first | assumption | (unfold vp_in; decide) | ((with_reducible (refine vp_in_nI ?_ ?_)) <;> omega), ?_⟩ | fail)
    refine X1_isDone H hc0 R (fun g => ?_) (fun g => ?_)
    · repeat' (first | (refine Rules.st H okX1_knock [] ?_; conv => whnf) | refine br_t (by first | decide | assumption) ?_ | refine br_f (by first | decide | assumption) ?_ | refine br_c (fun _ => ?_) (fun _ => ?_) | refine ⟨by decide, ?_⟩ | refine ⟨by first | assumption | (unfold vp_in; decide) | ((with_reducible (refine vp_in_nI ?_ ?_)) <;> omega), ?_⟩ | fail)
      rw [if_neg (fun z => g z.1)] at h1
      exact h1 S R Fr.rf
    · repeat' (first | (refine Rules.st H okX1_knock [] ?_; conv => whnf) | refine br_t (by first | decide | assumption) ?_ | refine br_f (by first | decide | assumption) ?_ | refine br_c (fun _ => ?_) (fun _ => ?_) | refine ⟨by decide, ?_⟩ | refine ⟨by first | assumption | (unfold vp_in; decide) | ((with_reducible (refine vp_in_nI ?_ ?_)) <;> omega), ?_⟩ | fail)
      refine X1_hasCard H hc0 R (fun g2 => ?_) (fun g2 => ?_)
      · repeat' (first | (refine Rules.st H okX1_knock [] ?_; conv => whnf) | refine br_t (by first | decide | assumption) ?_ | refine br_f (by first | decide | assumption) ?_ | refine br_c (fun _ => ?_) (fun _ => ?_) | refine ⟨by decide, ?_⟩ | refine ⟨by first | assumption | (unfold vp_in; decide) | ((with_reducible (refine vp_in_nI ?_ ?_)) <;> omega), ?_⟩ | fail)
        rw [if_neg (fun z => g2 z.2)] at h1
        exact h1 S R Fr.rf
      · repeat' (first | (refine Rules.st H okX1_knock [] ?_; conv => whnf) | refine br_t (by first | decide | assumption) ?_ | refine br_f (by first | decide | assumption) ?_ | refine br_c (fun _ => ?_) (fun _ => ?_) | refine ⟨by decide, ?_⟩ | refine ⟨by first | assumption | (unfold vp_in; decide) | ((with_reducible (refine vp_in_nI ?_ ?_)) <;> omega), ?_⟩ | fail)
        rw [if_pos ⟨g, g2⟩] at h1
        refine X1_pass H hc0 R hm (fun S1 R1 F1 => ?_)
        repeat' (first | (refine Rules.st H okX1_knock [] ?_; conv => whnf) | refine br_t (by first | decide | assumption) ?_ | refine br_f (by first | decide | assumption) ?_ | refine br_c (fun _ => ?_) (fun _ => ?_) | refine ⟨by decide, ?_⟩ | refine ⟨by first | assumption | (unfold vp_in; decide) | ((with_reducible (refine vp_in_nI ?_ ?_)) <;> omega), ?_⟩ | fail)
        refine X1_clockOf H hc0 R1 hm ?_
        repeat' (first | (refine Rules.st H okX1_knock [] ?_; conv => whnf) | refine br_t (by first | decide | assumption) ?_ | refine br_f (by first | decide | assumption) ?_ | refine br_c (fun _ => ?_) (fun _ => ?_) | refine ⟨by decide, ?_⟩ | refine ⟨by first | assumption | (unfold vp_in; decide) | ((with_reducible (refine vp_in_nI ?_ ?_)) <;> omega), ?_⟩ | fail)
        refine X1_guestOut H hc0 R1 hr (fun g3 => ?_) (fun g3 => ?_)
        · repeat' (first | (refine Rules.st H okX1_knock [] ?_; conv => whnf) | refine br_t (by first | decide | assumption) ?_ | refine br_f (by first | decide | assumption) ?_ | refine br_c (fun _ => ?_) (fun _ => ?_) | refine ⟨by decide, ?_⟩ | refine ⟨by first | assumption | (unfold vp_in; decide) | ((with_reducible (refine vp_in_nI ?_ ?_)) <;> omega), ?_⟩ | fail)
          dsimp only at h1
          rw [if_pos g3] at h1
          refine X1_loadOf H hc0 R1 hm ?_
          repeat' (first | (refine Rules.st H okX1_knock [] ?_; conv => whnf) | refine br_t (by first | decide | assumption) ?_ | refine br_f (by first | decide | assumption) ?_ | refine br_c (fun _ => ?_) (fun _ => ?_) | refine ⟨by decide, ?_⟩ | refine ⟨by first | assumption | (unfold vp_in; decide) | ((with_reducible (refine vp_in_nI ?_ ?_)) <;> omega), ?_⟩ | fail)
          refine X1_linenOf H hc0 R1 hr ?_
          repeat' (first | (refine Rules.st H okX1_knock [] ?_; conv => whnf) | refine br_t (by first | decide | assumption) ?_ | refine br_f (by first | decide | assumption) ?_ | refine br_c (fun _ => ?_) (fun _ => ?_) | refine ⟨by decide, ?_⟩ | refine ⟨by first | assumption | (unfold vp_in; decide) | ((with_reducible (refine vp_in_nI ?_ ?_)) <;> omega), ?_⟩ | fail)
          · rw [if_neg (Int32.not_lt.mpr ‹_›)] at h1
            refine X1_pass H hc0 R1 hm (fun S2 R2 F2 => ?_)
            repeat' (first | (refine Rules.st H okX1_knock [] ?_; conv => whnf) | refine br_t (by first | decide | assumption) ?_ | refine br_f (by first | decide | assumption) ?_ | refine br_c (fun _ => ?_) (fun _ => ?_) | refine ⟨by decide, ?_⟩ | refine ⟨by first | assumption | (unfold vp_in; decide) | ((with_reducible (refine vp_in_nI ?_ ?_)) <;> omega), ?_⟩ | fail)
            refine X1_loadOf H hc0 R2 hm ?_
            repeat' (first | (refine Rules.st H okX1_knock [] ?_; conv => whnf) | refine br_t (by first | decide | assumption) ?_ | refine br_f (by first | decide | assumption) ?_ | refine br_c (fun _ => ?_) (fun _ => ?_) | refine ⟨by decide, ?_⟩ | refine ⟨by first | assumption | (unfold vp_in; decide) | ((with_reducible (refine vp_in_nI ?_ ?_)) <;> omega), ?_⟩ | fail)
            refine X1_linenOf H hc0 R2 hr ?_
            repeat' (first | (refine Rules.st H okX1_knock [] ?_; conv => whnf) | refine br_t (by first | decide | assumption) ?_ | refine br_f (by first | decide | assumption) ?_ | refine br_c (fun _ => ?_) (fun _ => ?_) | refine ⟨by decide, ?_⟩ | refine ⟨by first | assumption | (unfold vp_in; decide) | ((with_reducible (refine vp_in_nI ?_ ?_)) <;> omega), ?_⟩ | fail)
            refine X1_setLoad H hc0 R2 hm (fun S3 R3 F3 => ?_)
            repeat' (first | (refine Rules.st H okX1_knock [] ?_; conv => whnf) | refine br_t (by first | decide | assumption) ?_ | refine br_f (by first | decide | assumption) ?_ | refine br_c (fun _ => ?_) (fun _ => ?_) | refine ⟨by decide, ?_⟩ | refine ⟨by first | assumption | (unfold vp_in; decide) | ((with_reducible (refine vp_in_nI ?_ ?_)) <;> omega), ?_⟩ | fail)
            refine X1_changeDone H hc0 R3 (fun S4 R4 F4 => ?_)
            repeat' (first | (refine Rules.st H okX1_knock [] ?_; conv => whnf) | refine br_t (by first | decide | assumption) ?_ | refine br_f (by first | decide | assumption) ?_ | refine br_c (fun _ => ?_) (fun _ => ?_) | refine ⟨by decide, ?_⟩ | refine ⟨by first | assumption | (unfold vp_in; decide) | ((with_reducible (refine vp_in_nI ?_ ?_)) <;> omega), ?_⟩ | fail)
            exact h1 S4 R4 (((F1.tr F2).tr F3).tr F4)
          · rw [if_pos (Int32.not_le.mp ‹_›)] at h1
            refine X1_fetchLinen H hc0 R1 hm (fun S2 R2 F2 => ?_)
            repeat' (first | (refine Rules.st H okX1_knock [] ?_; conv => whnf) | refine br_t (by first | decide | assumption) ?_ | refine br_f (by first | decide | assumption) ?_ | refine br_c (fun _ => ?_) (fun _ => ?_) | refine ⟨by decide, ?_⟩ | refine ⟨by first | assumption | (unfold vp_in; decide) | ((with_reducible (refine vp_in_nI ?_ ?_)) <;> omega), ?_⟩ | fail)
            refine X1_clockOf H hc0 R2 hm ?_
            repeat' (first | (refine Rules.st H okX1_knock [] ?_; conv => whnf) | refine br_t (by first | decide | assumption) ?_ | refine br_f (by first | decide | assumption) ?_ | refine br_c (fun _ => ?_) (fun _ => ?_) | refine ⟨by decide, ?_⟩ | refine ⟨by first | assumption | (unfold vp_in; decide) | ((with_reducible (refine vp_in_nI ?_ ?_)) <;> omega), ?_⟩ | fail)
            refine X1_guestOut H hc0 R2 hr (fun g3 => ?_) (fun g3 => ?_)
            · repeat' (first | (refine Rules.st H okX1_knock [] ?_; conv => whnf) | refine br_t (by first | decide | assumption) ?_ | refine br_f (by first | decide | assumption) ?_ | refine br_c (fun _ => ?_) (fun _ => ?_) | refine ⟨by decide, ?_⟩ | refine ⟨by first | assumption | (unfold vp_in; decide) | ((with_reducible (refine vp_in_nI ?_ ?_)) <;> omega), ?_⟩ | fail)
              rw [if_pos g3] at h1
              refine X1_pass H hc0 R2 hm (fun S3 R3 F3 => ?_)
              repeat' (first | (refine Rules.st H okX1_knock [] ?_; conv => whnf) | refine br_t (by first | decide | assumption) ?_ | refine br_f (by first | decide | assumption) ?_ | refine br_c (fun _ => ?_) (fun _ => ?_) | refine ⟨by decide, ?_⟩ | refine ⟨by first | assumption | (unfold vp_in; decide) | ((with_reducible (refine vp_in_nI ?_ ?_)) <;> omega), ?_⟩ | fail)
              refine X1_loadOf H hc0 R3 hm ?_
              repeat' (first | (refine Rules.st H okX1_knock [] ?_; conv => whnf) | refine br_t (by first | decide | assumption) ?_ | refine br_f (by first | decide | assumption) ?_ | refine br_c (fun _ => ?_) (fun _ => ?_) | refine ⟨by decide, ?_⟩ | refine ⟨by first | assumption | (unfold vp_in; decide) | ((with_reducible (refine vp_in_nI ?_ ?_)) <;> omega), ?_⟩ | fail)
              refine X1_linenOf H hc0 R3 hr ?_
              repeat' (first | (refine Rules.st H okX1_knock [] ?_; conv => whnf) | refine br_t (by first | decide | assumption) ?_ | refine br_f (by first | decide | assumption) ?_ | refine br_c (fun _ => ?_) (fun _ => ?_) | refine ⟨by decide, ?_⟩ | refine ⟨by first | assumption | (unfold vp_in; decide) | ((with_reducible (refine vp_in_nI ?_ ?_)) <;> omega), ?_⟩ | fail)
              refine X1_setLoad H hc0 R3 hm (fun S4 R4 F4 => ?_)
              repeat' (first | (refine Rules.st H okX1_knock [] ?_; conv => whnf) | refine br_t (by first | decide | assumption) ?_ | refine br_f (by first | decide | assumption) ?_ | refine br_c (fun _ => ?_) (fun _ => ?_) | refine ⟨by decide, ?_⟩ | refine ⟨by first | assumption | (unfold vp_in; decide) | ((with_reducible (refine vp_in_nI ?_ ?_)) <;> omega), ?_⟩ | fail)
              refine X1_changeDone H hc0 R4 (fun S5 R5 F5 => ?_)
              repeat' (first | (refine Rules.st H okX1_knock [] ?_; conv => whnf) | refine br_t (by first | decide | assumption) ?_ | refine br_f (by first | decide | assumption) ?_ | refine br_c (fun _ => ?_) (fun _ => ?_) | refine ⟨by decide, ?_⟩ | refine ⟨by first | assumption | (unfold vp_in; decide) | ((with_reducible (refine vp_in_nI ?_ ?_)) <;> omega), ?_⟩ | fail)
              exact h1 S5 R5 ((((F1.tr F2).tr F3).tr F4).tr F5)
            · repeat' (first | (refine Rules.st H okX1_knock [] ?_; conv => whnf) | refine br_t (by first | decide | assumption) ?_ | refine br_f (by first | decide | assumption) ?_ | refine br_c (fun _ => ?_) (fun _ => ?_) | refine ⟨by decide, ?_⟩ | refine ⟨by first | assumption | (unfold vp_in; decide) | ((with_reducible (refine vp_in_nI ?_ ?_)) <;> omega), ?_⟩ | fail)
              rw [if_neg (by rw [g3]; decide)] at h1
              exact h1 S2 R2 (F1.tr F2)
        · repeat' (first | (refine Rules.st H okX1_knock [] ?_; conv => whnf) | refine br_t (by first | decide | assumption) ?_ | refine br_f (by first | decide | assumption) ?_ | refine br_c (fun _ => ?_) (fun _ => ?_) | refine ⟨by decide, ?_⟩ | refine ⟨by first | assumption | (unfold vp_in; decide) | ((with_reducible (refine vp_in_nI ?_ ?_)) <;> omega), ?_⟩ | fail)
          dsimp only at h1
          rw [if_neg (by rw [g3]; decide)] at h1
          exact h1 S1 R1 F1
end CORR3
end
section
section CORR4
variable {C : Cst} {T : Nat → Pst → Nat → Lcs → List Value → Mem → Prop}
def visitK (K : Mem) (m r : Nat) : Int32 × Mem := knockK (walkK K m (r + 1)) m r (workK (walkK K m (r + 1)) r)
set_option maxRecDepth 100000 in
theorem X1_visitBy (H : Rules C T) {c : Nat} (hc : isC c) {S K : Mem} (R : RepC c S K) {m : Nat} (hm : m < 2) {r : Nat} (hr : r < 8) {Q : Pst} (h1 : ∀ S', RepC c S' (visitK K m r).2 → Fr c (c + 5) S S' → Q (some (.int (visitK K m r).1)) S') : C mX1_visitBy [.ref c, .int (nI m), .int (nI r)] S Q := by
  have hc0 := hc
  rcases hc with rfl | rfl | rfl <;>
  · refine Rules.go H (by decide) (Nat.le_of_ble_eq_true rfl) ?_
    repeat' (first | (refine Rules.st H okX1_visitBy [] ?_; conv => whnf) | refine br_t (by first | decide | assumption) ?_ | refine br_f (by first | decide | assumption) ?_ | refine br_c (fun _ => ?_) (fun _ => ?_) | refine ⟨by decide, ?_⟩ | refine ⟨by first | assumption | (unfold vp_in; decide) | ((with_reducible (refine vp_in_nI ?_ ?_)) <;> omega), ?_⟩ | fail)
    rw [nI_1]
    refine X1_walkTo H hc0 R hm (fun S1 R1 F1 => ?_)
    repeat' (first | (refine Rules.st H okX1_visitBy [] ?_; conv => whnf) | refine br_t (by first | decide | assumption) ?_ | refine br_f (by first | decide | assumption) ?_ | refine br_c (fun _ => ?_) (fun _ => ?_) | refine ⟨by decide, ?_⟩ | refine ⟨by first | assumption | (unfold vp_in; decide) | ((with_reducible (refine vp_in_nI ?_ ?_)) <;> omega), ?_⟩ | fail)
    refine X1_workOf H hc0 R1 hr ?_
    repeat' (first | (refine Rules.st H okX1_visitBy [] ?_; conv => whnf) | refine br_t (by first | decide | assumption) ?_ | refine br_f (by first | decide | assumption) ?_ | refine br_c (fun _ => ?_) (fun _ => ?_) | refine ⟨by decide, ?_⟩ | refine ⟨by first | assumption | (unfold vp_in; decide) | ((with_reducible (refine vp_in_nI ?_ ?_)) <;> omega), ?_⟩ | fail)
    refine X1_knock H hc0 R1 hm hr (fun S2 R2 F2 => ?_)
    repeat' (first | (refine Rules.st H okX1_visitBy [] ?_; conv => whnf) | refine br_t (by first | decide | assumption) ?_ | refine br_f (by first | decide | assumption) ?_ | refine br_c (fun _ => ?_) (fun _ => ?_) | refine ⟨by decide, ?_⟩ | refine ⟨by first | assumption | (unfold vp_in; decide) | ((with_reducible (refine vp_in_nI ?_ ?_)) <;> omega), ?_⟩ | fail)
    exact h1 S2 R2 (F1.tr F2)
def bothK (K : Mem) (r : Nat) : Int32 × Mem :=
  let K1 := walkK (walkK K 0 (r + 1)) 1 (r + 1)
  let K2 := up K1 5 0 (laterK K1)
  let v := knockK K2 0 r (workK K2 r / 2 + 1)
  (v.1, up v.2 5 1 (v.2 5 0))
set_option maxRecDepth 100000 in
theorem X1_visitByBoth (H : Rules C T) {c : Nat} (hc : isC c) {S K : Mem} (R : RepC c S K) {r : Nat} (hr : r < 8) {Q : Pst} (h1 : ∀ S', RepC c S' (bothK K r).2 → Fr c (c + 5) S S' → Q (some (.int (bothK K r).1)) S') : C mX1_visitByBoth [.ref c, .int (nI r)] S Q := by
  have hc0 := hc
  rcases hc with rfl | rfl | rfl <;>
  · refine Rules.go H (by decide) (Nat.le_of_ble_eq_true rfl) ?_
    repeat' (first | (refine Rules.st H okX1_visitByBoth [] ?_; conv => whnf) | refine br_t (by first | decide | assumption) ?_ | refine br_f (by first | decide | assumption) ?_ | refine br_c (fun _ => ?_) (fun _ => ?_) | refine ⟨by decide, ?_⟩ | refine ⟨by first | assumption | (unfold vp_in; decide) | ((with_reducible (refine vp_in_nI ?_ ?_)) <;> omega), ?_⟩ | fail)
    rw [nI_1]
    refine X1_walkTo H hc0 R (m := 0) (by omega) (fun S1 R1 F1 => ?_)
    repeat' (first | (refine Rules.st H okX1_visitByBoth [] ?_; conv => whnf) | refine br_t (by first | decide | assumption) ?_ | refine br_f (by first | decide | assumption) ?_ | refine br_c (fun _ => ?_) (fun _ => ?_) | refine ⟨by decide, ?_⟩ | refine ⟨by first | assumption | (unfold vp_in; decide) | ((with_reducible (refine vp_in_nI ?_ ?_)) <;> omega), ?_⟩ | fail)
    rw [nI_1]
    refine X1_walkTo H hc0 R1 (m := 1) (by omega) (fun S2 R2 F2 => ?_)
    repeat' (first | (refine Rules.st H okX1_visitByBoth [] ?_; conv => whnf) | refine br_t (by first | decide | assumption) ?_ | refine br_f (by first | decide | assumption) ?_ | refine br_c (fun _ => ?_) (fun _ => ?_) | refine ⟨by decide, ?_⟩ | refine ⟨by first | assumption | (unfold vp_in; decide) | ((with_reducible (refine vp_in_nI ?_ ?_)) <;> omega), ?_⟩ | fail)
    refine X1_laterClock H hc0 R2 ?_
    repeat' (first | (refine Rules.st H okX1_visitByBoth [] ?_; conv => whnf) | refine br_t (by first | decide | assumption) ?_ | refine br_f (by first | decide | assumption) ?_ | refine br_c (fun _ => ?_) (fun _ => ?_) | refine ⟨by decide, ?_⟩ | refine ⟨by first | assumption | (unfold vp_in; decide) | ((with_reducible (refine vp_in_nI ?_ ?_)) <;> omega), ?_⟩ | fail)
    refine X1_setClock H hc0 R2 (r := 0) (by omega) (fun S3 R3 F3 => ?_)
    repeat' (first | (refine Rules.st H okX1_visitByBoth [] ?_; conv => whnf) | refine br_t (by first | decide | assumption) ?_ | refine br_f (by first | decide | assumption) ?_ | refine br_c (fun _ => ?_) (fun _ => ?_) | refine ⟨by decide, ?_⟩ | refine ⟨by first | assumption | (unfold vp_in; decide) | ((with_reducible (refine vp_in_nI ?_ ?_)) <;> omega), ?_⟩ | fail)
    refine X1_workOf H hc0 R3 hr ?_
    repeat' (first | (refine Rules.st H okX1_visitByBoth [] ?_; conv => whnf) | refine br_t (by first | decide | assumption) ?_ | refine br_f (by first | decide | assumption) ?_ | refine br_c (fun _ => ?_) (fun _ => ?_) | refine ⟨by decide, ?_⟩ | refine ⟨by first | assumption | (unfold vp_in; decide) | ((with_reducible (refine vp_in_nI ?_ ?_)) <;> omega), ?_⟩ | fail)
    refine X1_knock H hc0 R3 (m := 0) (by omega) hr (fun S4 R4 F4 => ?_)
    repeat' (first | (refine Rules.st H okX1_visitByBoth [] ?_; conv => whnf) | refine br_t (by first | decide | assumption) ?_ | refine br_f (by first | decide | assumption) ?_ | refine br_c (fun _ => ?_) (fun _ => ?_) | refine ⟨by decide, ?_⟩ | refine ⟨by first | assumption | (unfold vp_in; decide) | ((with_reducible (refine vp_in_nI ?_ ?_)) <;> omega), ?_⟩ | fail)
    refine X1_clockOf H hc0 R4 (r := 0) (by omega) ?_
    repeat' (first | (refine Rules.st H okX1_visitByBoth [] ?_; conv => whnf) | refine br_t (by first | decide | assumption) ?_ | refine br_f (by first | decide | assumption) ?_ | refine br_c (fun _ => ?_) (fun _ => ?_) | refine ⟨by decide, ?_⟩ | refine ⟨by first | assumption | (unfold vp_in; decide) | ((with_reducible (refine vp_in_nI ?_ ?_)) <;> omega), ?_⟩ | fail)
    refine X1_setClock H hc0 R4 (r := 1) (by omega) (fun S5 R5 F5 => ?_)
    repeat' (first | (refine Rules.st H okX1_visitByBoth [] ?_; conv => whnf) | refine br_t (by first | decide | assumption) ?_ | refine br_f (by first | decide | assumption) ?_ | refine br_c (fun _ => ?_) (fun _ => ?_) | refine ⟨by decide, ?_⟩ | refine ⟨by first | assumption | (unfold vp_in; decide) | ((with_reducible (refine vp_in_nI ?_ ?_)) <;> omega), ?_⟩ | fail)
    exact h1 S5 R5 ((((F1.tr F2).tr F3).tr F4).tr F5)
set_option maxRecDepth 100000 in
theorem passK_n (K : Mem) (m : Nat) (x : Int32) : passK K m x 0 0 = K 0 0 := by simp [passK, up]
set_option maxRecDepth 100000 in
theorem walkK_n (K : Mem) (m p : Nat) : walkK K m p 0 0 = K 0 0 := by simp [walkK, passK, up]
set_option maxRecDepth 100000 in
theorem fetchK_n (K : Mem) (m : Nat) : fetchK K m 0 0 = K 0 0 := by simp [fetchK, passK, up]
set_option maxRecDepth 100000 in
theorem cleanK_n (K : Mem) (m r : Nat) (w : Int32) : cleanK K m r w 0 0 = K 0 0 := by simp [cleanK, passK, up]
set_option maxRecDepth 100000 in
theorem knockK_n (K : Mem) (m r : Nat) (w : Int32) : (knockK K m r w).2 0 0 = K 0 0 := by
  unfold knockK
  dsimp only
  repeat' split
  all_goals simp only [cleanK_n, fetchK_n, passK_n]
set_option maxRecDepth 100000 in
theorem visitK_n (K : Mem) (m r : Nat) : (visitK K m r).2 0 0 = K 0 0 := by
  unfold visitK
  rw [knockK_n, walkK_n]
set_option maxRecDepth 100000 in
theorem bothK_n (K : Mem) (r : Nat) : (bothK K r).2 0 0 = K 0 0 := by
  unfold bothK
  dsimp only
  rw [up_k (by omega), knockK_n, up_k (by omega), walkK_n, walkK_n]
def roundK (m : Nat) (set : Int32) : Nat → Nat → Mem → Mem
  | 0, _, K => K
  | k + 1, i, K => roundK m set k (i + 1) (if bt set i = 0 then K else (visitK K m i).2)
set_option maxRecDepth 100000 in
theorem roundK_n (m : Nat) (set : Int32) : ∀ (k i : Nat) (K : Mem), roundK m set k i K 0 0 = K 0 0
  | 0, _, _ => rfl
  | k + 1, i, K => by
    unfold roundK
    rw [roundK_n]
    split
    · rfl
    · exact visitK_n K m i
set_option maxRecDepth 100000 in
theorem X1_roundOver_l (H : Rules C T) {c : Nat} (hc : isC c) {n : Nat} (hn8 : n ≤ 8) {m : Nat} (hm : m < 2) {set : Int32} {Q : Pst} : ∀ (k i : Nat) (S K : Mem), i + k = n → RepC c S K → K 0 0 = nI n → (∀ S', RepC c S' (roundK m set k i K) → Fr c (c + 5) S S' → Q none S') → T mX1_roundOver Q 2 [some (.ref c), some (.int (nI m)), some (.int set), some (.int (nI i))] [] S := by
  intro k
  induction k with
  | zero =>
    intro i S K hi R hn h1
    have hge : S (c + 0) 0 ≤ nI i := by rw [R 0 0 (by simp [inr]), hn]; exact nI_le (by omega) (by omega)
    rcases hc with rfl | rfl | rfl <;>
    · skip
      repeat' (first | (refine Rules.st H okX1_roundOver [2] ?_; conv => whnf) | refine br_t (by first | decide | assumption) ?_ | refine br_f (by first | decide | assumption) ?_ | refine br_c (fun _ => ?_) (fun _ => ?_) | refine ⟨by decide, ?_⟩ | refine ⟨by first | assumption | (unfold vp_in; decide) | ((with_reducible (refine vp_in_nI ?_ ?_)) <;> omega), ?_⟩ | fail)
      exact h1 S R Fr.rf
  | succ k ih =>
    intro i S K hi R hn h1
    have hge : ¬ S (c + 0) 0 ≤ nI i := by rw [R 0 0 (by simp [inr]), hn]; exact nI_ge (by omega) (by omega)
    have hc0 := hc
    unfold roundK at h1
    rcases hc with rfl | rfl | rfl <;>
    · skip
      repeat' (first | (refine Rules.st H okX1_roundOver [2] ?_; conv => whnf) | refine br_t (by first | decide | assumption) ?_ | refine br_f (by first | decide | assumption) ?_ | refine br_c (fun _ => ?_) (fun _ => ?_) | refine ⟨by decide, ?_⟩ | refine ⟨by first | assumption | (unfold vp_in; decide) | ((with_reducible (refine vp_in_nI ?_ ?_)) <;> omega), ?_⟩ | fail)
      · rw [if_pos (by assumption)] at h1
        refine Halt.mk ?_
        show T mX1_roundOver Q 2 [some (.ref _), some (.int (nI m)), some (.int set), some (.int (nI i + 1))] [] _
        rw [nI_1]
        exact ih (i + 1) S K (by omega) R hn h1
      · rw [if_neg (by assumption)] at h1
        refine X1_visitBy H hc0 R hm (by omega) (fun S1 R1 F1 => ?_)
        repeat' (first | (refine Rules.st H okX1_roundOver [2] ?_; conv => whnf) | refine br_t (by first | decide | assumption) ?_ | refine br_f (by first | decide | assumption) ?_ | refine br_c (fun _ => ?_) (fun _ => ?_) | refine ⟨by decide, ?_⟩ | refine ⟨by first | assumption | (unfold vp_in; decide) | ((with_reducible (refine vp_in_nI ?_ ?_)) <;> omega), ?_⟩ | fail)
        refine Halt.mk ?_
        show T mX1_roundOver Q 2 [some (.ref _), some (.int (nI m)), some (.int set), some (.int (nI i + 1))] [] _
        rw [nI_1]
        exact ih (i + 1) S1 _ (by omega) R1 ((visitK_n K m i).trans hn) (fun S' R' F' => h1 S' R' (F1.tr F'))
set_option maxRecDepth 100000 in
theorem X1_roundOver (H : Rules C T) {c : Nat} (hc : isC c) {n : Nat} (hn8 : n ≤ 8) {m : Nat} (hm : m < 2) {set : Int32} {S K : Mem} (R : RepC c S K) (hn : K 0 0 = nI n) {Q : Pst} (h1 : ∀ S', RepC c S' (roundK m set n 0 K) → Fr c (c + 5) S S' → Q none S') : C mX1_roundOver [.ref c, .int (nI m), .int set] S Q := by
  have key := X1_roundOver_l H hc hn8 hm (set := set) (Q := Q) n 0 S K (by omega) R hn h1
  refine Rules.go H (by decide) (Nat.le_of_ble_eq_true rfl) ?_
  repeat' (first | (refine Rules.st H okX1_roundOver [2] ?_; conv => whnf) | refine br_t (by first | decide | assumption) ?_ | refine br_f (by first | decide | assumption) ?_ | refine br_c (fun _ => ?_) (fun _ => ?_) | refine ⟨by decide, ?_⟩ | refine ⟨by first | assumption | (unfold vp_in; decide) | ((with_reducible (refine vp_in_nI ?_ ?_)) <;> omega), ?_⟩ | fail)
  exact Halt.mk key
def longK (m n : Nat) (K : Mem) : Mem := roundK m ((1 <<< (nI n &&& 31)) - 1) n 0 K
set_option maxRecDepth 100000 in
theorem X1_longRound (H : Rules C T) {c : Nat} (hc : isC c) {n : Nat} (hn8 : n ≤ 8) {m : Nat} (hm : m < 2) {S K : Mem} (R : RepC c S K) (hn : K 0 0 = nI n) {Q : Pst} (h1 : ∀ S', RepC c S' (longK m n K) → Fr c (c + 5) S S' → Q none S') : C mX1_longRound [.ref c, .int (nI m)] S Q := by
  have hc0 := hc
  unfold longK at h1
  have e : S (c + 0) 0 = nI n := by rw [R 0 0 (by simp [inr]), hn]
  rw [← e] at h1
  rcases hc with rfl | rfl | rfl <;>
  · refine Rules.go H (by decide) (Nat.le_of_ble_eq_true rfl) ?_
    repeat' (first | (refine Rules.st H okX1_longRound [] ?_; conv => whnf) | refine br_t (by first | decide | assumption) ?_ | refine br_f (by first | decide | assumption) ?_ | refine br_c (fun _ => ?_) (fun _ => ?_) | refine ⟨by decide, ?_⟩ | refine ⟨by first | assumption | (unfold vp_in; decide) | ((with_reducible (refine vp_in_nI ?_ ?_)) <;> omega), ?_⟩ | fail)
    exact X1_roundOver H hc0 hn8 hm R hn (fun S' R' F' => by
      repeat' (first | (refine Rules.st H okX1_longRound [] ?_; conv => whnf) | refine br_t (by first | decide | assumption) ?_ | refine br_f (by first | decide | assumption) ?_ | refine br_c (fun _ => ?_) (fun _ => ?_) | refine ⟨by decide, ?_⟩ | refine ⟨by first | assumption | (unfold vp_in; decide) | ((with_reducible (refine vp_in_nI ?_ ?_)) <;> omega), ?_⟩ | fail)
      exact h1 S' R' F')
def tipsK (K : Mem) (set : Int32) : Nat → Nat → Int32 → Int32
  | 0, _, a => a
  | k + 1, i, a => tipsK K set k (i + 1) (if bt set i = 0 then a else a + tipK K i)
set_option maxRecDepth 100000 in
theorem X1_tipsOf_l (H : Rules C T) {c : Nat} (hc : isC c) {n : Nat} (hn8 : n ≤ 8) {set : Int32} {S K : Mem} (R : RepC c S K) (hn : K 0 0 = nI n) {Q : Pst} : ∀ (k i : Nat) (a : Int32), i + k = n → Q (some (.int (tipsK K set k i a))) S → T mX1_tipsOf Q 4 [some (.ref c), some (.int set), some (.int a), some (.int (nI i))] [] S := by
  intro k
  induction k with
  | zero =>
    intro i a hi h1
    have hge : S (c + 0) 0 ≤ nI i := by rw [R 0 0 (by simp [inr]), hn]; exact nI_le (by omega) (by omega)
    rcases hc with rfl | rfl | rfl <;>
    · skip
      repeat' (first | (refine Rules.st H okX1_tipsOf [4] ?_; conv => whnf) | refine br_t (by first | decide | assumption) ?_ | refine br_f (by first | decide | assumption) ?_ | refine br_c (fun _ => ?_) (fun _ => ?_) | refine ⟨by decide, ?_⟩ | refine ⟨by first | assumption | (unfold vp_in; decide) | ((with_reducible (refine vp_in_nI ?_ ?_)) <;> omega), ?_⟩ | fail)
      exact h1
  | succ k ih =>
    intro i a hi h1
    have hge : ¬ S (c + 0) 0 ≤ nI i := by rw [R 0 0 (by simp [inr]), hn]; exact nI_ge (by omega) (by omega)
    have hc0 := hc
    unfold tipsK at h1
    rcases hc with rfl | rfl | rfl <;>
    · skip
      repeat' (first | (refine Rules.st H okX1_tipsOf [4] ?_; conv => whnf) | refine br_t (by first | decide | assumption) ?_ | refine br_f (by first | decide | assumption) ?_ | refine br_c (fun _ => ?_) (fun _ => ?_) | refine ⟨by decide, ?_⟩ | refine ⟨by first | assumption | (unfold vp_in; decide) | ((with_reducible (refine vp_in_nI ?_ ?_)) <;> omega), ?_⟩ | fail)
      · rw [if_pos (by assumption)] at h1
        refine Halt.mk ?_
        show T mX1_tipsOf Q 4 [some (.ref _), some (.int set), some (.int a), some (.int (nI i + 1))] [] _
        rw [nI_1]
        exact ih (i + 1) _ (by omega) h1
      · rw [if_neg (by assumption)] at h1
        refine X1_tipOf H hc0 R (by omega) ?_
        repeat' (first | (refine Rules.st H okX1_tipsOf [4] ?_; conv => whnf) | refine br_t (by first | decide | assumption) ?_ | refine br_f (by first | decide | assumption) ?_ | refine br_c (fun _ => ?_) (fun _ => ?_) | refine ⟨by decide, ?_⟩ | refine ⟨by first | assumption | (unfold vp_in; decide) | ((with_reducible (refine vp_in_nI ?_ ?_)) <;> omega), ?_⟩ | fail)
        refine Halt.mk ?_
        show T mX1_tipsOf Q 4 [some (.ref _), some (.int set), some (.int (a + tipK K i)), some (.int (nI i + 1))] [] _
        rw [nI_1]
        exact ih (i + 1) _ (by omega) h1
set_option maxRecDepth 100000 in
theorem X1_tipsOf (H : Rules C T) {c : Nat} (hc : isC c) {n : Nat} (hn8 : n ≤ 8) {set : Int32} {S K : Mem} (R : RepC c S K) (hn : K 0 0 = nI n) {Q : Pst} (h1 : Q (some (.int (tipsK K set n 0 0))) S) : C mX1_tipsOf [.ref c, .int set] S Q := by
  have key := X1_tipsOf_l H hc hn8 (set := set) R hn (Q := Q) n 0 0 (by omega) h1
  refine Rules.go H (by decide) (Nat.le_of_ble_eq_true rfl) ?_
  repeat' (first | (refine Rules.st H okX1_tipsOf [4] ?_; conv => whnf) | refine br_t (by first | decide | assumption) ?_ | refine br_f (by first | decide | assumption) ?_ | refine br_c (fun _ => ?_) (fun _ => ?_) | refine ⟨by decide, ?_⟩ | refine ⟨by first | assumption | (unfold vp_in; decide) | ((with_reducible (refine vp_in_nI ?_ ?_)) <;> omega), ?_⟩ | fail)
  exact Halt.mk key
def addK (K : Mem) (n : Nat) (k f : Int32) : Mem := up (up (up K 1 n k) 2 n f) 0 0 (K 0 0 + 1)
set_option maxRecDepth 100000 in
theorem X1_addRoom (H : Rules C T) {c : Nat} (hc : isC c) {n : Nat} (hn8 : n ≤ 8) {k f : Int32} {S K : Mem} (R : RepC c S K) (hn : K 0 0 = nI n) {Q : Pst} (h0 : n = 8 → Q (some (.int 0)) S) (h1 : n < 8 → ∀ S', RepC c S' (addK K n k f) → Fr c (c + 5) S S' → Q (some (.int 1)) S') : C mX1_addRoom [.ref c, .int k, .int f] S Q := by
  have e : S (c + 0) 0 = nI n := by rw [R 0 0 (by simp [inr]), hn]
  have h1 : n < 8 → Q (some (.int 1)) (up (up (up S (c + 1) (S (c + 0) 0).toNatClampNeg k) (c + 2) (S (c + 0) 0).toNatClampNeg f) (c + 0) 0 (S (c + 0) 0 + 1)) := fun h => by
    rw [e, nIc (by omega), ← hn]
    exact h1 h _ ((R.put.put).put) (((Fr.put (by omega) (by omega)).tr (Fr.put (by omega) (by omega))).tr (Fr.put (by omega) (by omega)))
  have n0 : ¬ S (c + 0) 0 < 0 := by rw [e]; exact nI_pos (by omega)
  have n8 : ¬ S (c + 0) 0 < 8 → n = 8 := fun h => by
    rw [e] at h
    revert h
    simp (disch := omega) only [li0, li1, li2, li3, li4, li5, li6, li7, li8, li9, li10, li11, li12, li13, li14, li15, li16, li17, li18, li19, li20, li60, li96, li99, li255, li999, nI_leI, nI_ltI, nI_eq, nI_1, nI_add]
    omega
  have n9 : S (c + 0) 0 < 8 → n < 8 ∧ vp_in (S (c + 0) 0) 8 := fun h => by
    rw [e] at h ⊢
    have : n < 8 := by
      revert h
      simp (disch := omega) only [li0, li1, li2, li3, li4, li5, li6, li7, li8, li9, li10, li11, li12, li13, li14, li15, li16, li17, li18, li19, li20, li60, li96, li99, li255, li999, nI_leI, nI_ltI, nI_eq, nI_1, nI_add]
      omega
    exact ⟨this, vp_in_nI this (by omega)⟩
  rcases hc with rfl | rfl | rfl <;>
  · refine Rules.go H (by decide) (Nat.le_of_ble_eq_true rfl) ?_
    repeat' (first | (refine Rules.st H okX1_addRoom [] ?_; conv => whnf) | refine br_t (by first | decide | assumption) ?_ | refine br_f (by first | decide | assumption) ?_ | refine br_c (fun _ => ?_) (fun _ => ?_) | refine ⟨by decide, ?_⟩ | refine ⟨by first | assumption | (unfold vp_in; decide) | ((with_reducible (refine vp_in_nI ?_ ?_)) <;> omega), ?_⟩ | fail)
    · refine ⟨(n9 (by assumption)).2, ?_⟩
      repeat' (first | (refine Rules.st H okX1_addRoom [] ?_; conv => whnf) | refine br_t (by first | decide | assumption) ?_ | refine br_f (by first | decide | assumption) ?_ | refine br_c (fun _ => ?_) (fun _ => ?_) | refine ⟨by decide, ?_⟩ | refine ⟨by first | assumption | (unfold vp_in; decide) | ((with_reducible (refine vp_in_nI ?_ ?_)) <;> omega), ?_⟩ | fail)
      refine ⟨(n9 (by assumption)).2, ?_⟩
      repeat' (first | (refine Rules.st H okX1_addRoom [] ?_; conv => whnf) | refine br_t (by first | decide | assumption) ?_ | refine br_f (by first | decide | assumption) ?_ | refine br_c (fun _ => ?_) (fun _ => ?_) | refine ⟨by decide, ?_⟩ | refine ⟨by first | assumption | (unfold vp_in; decide) | ((with_reducible (refine vp_in_nI ?_ ?_)) <;> omega), ?_⟩ | fail)
      exact h1 (n9 (by assumption)).1
    · exact h0 (n8 (by assumption))
/-- what stands of K so far: the numbers, and the first i places of the rows a .. b -/
def ParC (D : Nat → Nat → Prop) (c : Nat) (S K : Mem) : Prop := ∀ o j, inr o j → D o j → S (c + o) j = K o j
set_option maxRecDepth 100000 in
theorem ParC.put {D D' : Nat → Nat → Prop} {c o j : Nat} {S K : Mem} {v : Int32} (h : ParC D c S K) (hv : v = K o j) (hD : ∀ o' j', inr o' j' → D' o' j' → D o' j' ∨ (o' = o ∧ j' = j)) : ParC D' c (up S (c + o) j v) K := by
  intro o' j' hi hd
  show (if c + o' = c + o ∧ j' = j then v else S (c + o') j') = _
  by_cases q : o' = o ∧ j' = j
  · rw [if_pos ⟨by omega, q.2⟩, hv, q.1, q.2]
  · rw [if_neg (fun z => q ⟨by omega, z.2⟩)]
    exact h o' j' hi ((hD o' j' hi hd).resolve_right q)
def D1 (i : Nat) (o j : Nat) : Prop := o = 0 ∨ ((o = 1 ∨ o = 2) ∧ j < i)
def D2 (i : Nat) (o j : Nat) : Prop := o < 3 ∨ j < i
def pairC (c o : Nat) : Prop := (c = 7 ∧ o = 1) ∨ (c = 1 ∧ o = 7) ∨ (c = 13 ∧ o = 1) ∨ (c = 1 ∧ o = 13)
set_option maxRecDepth 100000 in
theorem X1_become_2 (H : Rules C T) {c o : Nat} (hco : pairC c o) {K K' : Mem} (hK : ∀ a j, 1 ≤ a → K' a j = K a j) {Q : Pst} : ∀ (k i : Nat) (S : Mem), i + k = 2 → RepC o S K → ParC (D2 i) c S K' → (∀ S', RepC c S' K' → Fr c (c + 5) S S' → Q none S') → T mX1_become Q 74 [some (.ref c), some (.ref o), some (.int (nI i))] [] S := by
  intro k
  induction k with
  | zero =>
    intro i S hi Ro Rc h1
    have hge : nI 2 ≤ nI i := nI_le (by omega) (by omega)
    have hR : RepC c S K' := fun a j hj => Rc a j hj (by unfold D2; unfold inr at hj; omega)
    rcases hco with ⟨rfl, rfl⟩ | ⟨rfl, rfl⟩ | ⟨rfl, rfl⟩ | ⟨rfl, rfl⟩ <;>
    · skip
      repeat' (first | (refine Rules.st H okX1_become [74] ?_; conv => whnf) | refine br_t (by first | decide | assumption) ?_ | refine br_f (by first | decide | assumption) ?_ | refine br_c (fun _ => ?_) (fun _ => ?_) | refine ⟨by decide, ?_⟩ | refine ⟨by first | assumption | (unfold vp_in; decide) | ((with_reducible (refine vp_in_nI ?_ ?_)) <;> omega), ?_⟩ | fail)
      exact h1 S hR Fr.rf
  | succ k ih =>
    intro i S hi Ro Rc h1
    have hge : ¬ nI 2 ≤ nI i := nI_ge (by omega) (by omega)
    have hi2 : i < 2 := by omega
    have hco0 := hco
    have hne : c ≠ o ∧ (c + 5 < o ∨ o + 5 < c) := by unfold pairC at hco; omega
    have step : T mX1_become Q 74 [some (.ref c), some (.ref o), some (.int (nI (i + 1)))] [] (up (up (up S (c + 3) i (S (o + 3) i)) (c + 4) i (S (o + 4) i)) (c + 5) i (S (o + 5) i)) := by
      refine ih (i + 1) _ (by omega) (((Ro.fr (Fr.put (a := c) (b := c + 5) (by omega) (by omega)) (by omega)).fr (Fr.put (a := c) (b := c + 5) (by omega) (by omega)) (by omega)).fr (Fr.put (a := c) (b := c + 5) (by omega) (by omega)) (by omega)) ?_ (fun S' R' F' => h1 S' R' ((((Fr.put (by omega) (by omega)).tr (Fr.put (by omega) (by omega))).tr (Fr.put (by omega) (by omega))).tr F'))
      have e3 : S (o + 3) i = K' 3 i := by rw [hK 3 i (by omega)]; exact Ro 3 i (by simp [inr]; omega)
      have e4 : S (o + 4) i = K' 4 i := by rw [hK 4 i (by omega)]; exact Ro 4 i (by simp [inr]; omega)
      have e5 : S (o + 5) i = K' 5 i := by rw [hK 5 i (by omega)]; exact Ro 5 i (by simp [inr]; omega)
      refine ParC.put (D := fun a j => D2 i a j ∨ (a = 3 ∧ j = i) ∨ (a = 4 ∧ j = i)) (ParC.put (D := fun a j => D2 i a j ∨ (a = 3 ∧ j = i)) (ParC.put Rc e3 ?_) e4 ?_) e5 ?_
      · intro a j hj z; exact z
      · intro a j hj z
        rcases z with z | z | z
        · exact Or.inl (Or.inl z)
        · exact Or.inl (Or.inr z)
        · exact Or.inr z
      · intro a j hj z
        unfold D2 at z ⊢
        unfold inr at hj
        omega
    rcases hco with ⟨rfl, rfl⟩ | ⟨rfl, rfl⟩ | ⟨rfl, rfl⟩ | ⟨rfl, rfl⟩ <;>
    · skip
      repeat' (first | (refine Rules.st H okX1_become [74] ?_; conv => whnf) | refine br_t (by first | decide | assumption) ?_ | refine br_f (by first | decide | assumption) ?_ | refine br_c (fun _ => ?_) (fun _ => ?_) | refine ⟨by decide, ?_⟩ | refine ⟨by first | assumption | (unfold vp_in; decide) | ((with_reducible (refine vp_in_nI ?_ ?_)) <;> omega), ?_⟩ | fail)
      simp only [nIc (show i < 2 ^ 31 by omega), nI_1]
      exact Halt.mk step
set_option maxRecDepth 100000 in
theorem X1_become_1 (H : Rules C T) {c o : Nat} (hco : pairC c o) {K K' : Mem} (hK : ∀ a j, 1 ≤ a → K' a j = K a j) {Q : Pst} : ∀ (k i : Nat) (S : Mem), i + k = 8 → RepC o S K → ParC (D1 i) c S K' → (∀ S', RepC c S' K' → Fr c (c + 5) S S' → Q none S') → T mX1_become Q 36 [some (.ref c), some (.ref o), some (.int (nI i))] [] S := by
  intro k
  induction k with
  | zero =>
    intro i S hi Ro Rc h1
    have hge : nI 8 ≤ nI i := nI_le (by omega) (by omega)
    have hR : ParC (D2 0) c S K' := fun a j hj z => Rc a j hj (by unfold D1; unfold D2 at z; unfold inr at hj; omega)
    have key := X1_become_2 H hco hK (Q := Q) 2 0 S (by omega) Ro hR h1
    rcases hco with ⟨rfl, rfl⟩ | ⟨rfl, rfl⟩ | ⟨rfl, rfl⟩ | ⟨rfl, rfl⟩ <;>
    · skip
      repeat' (first | (refine Rules.st H okX1_become [36, 74] ?_; conv => whnf) | refine br_t (by first | decide | assumption) ?_ | refine br_f (by first | decide | assumption) ?_ | refine br_c (fun _ => ?_) (fun _ => ?_) | refine ⟨by decide, ?_⟩ | refine ⟨by first | assumption | (unfold vp_in; decide) | ((with_reducible (refine vp_in_nI ?_ ?_)) <;> omega), ?_⟩ | fail)
      exact Halt.mk key
  | succ k ih =>
    intro i S hi Ro Rc h1
    have hge : ¬ nI 8 ≤ nI i := nI_ge (by omega) (by omega)
    have hi2 : i < 8 := by omega
    have hne : c ≠ o ∧ (c + 5 < o ∨ o + 5 < c) := by unfold pairC at hco; omega
    have step : T mX1_become Q 36 [some (.ref c), some (.ref o), some (.int (nI (i + 1)))] [] (up (up S (c + 1) i (S (o + 1) i)) (c + 2) i (S (o + 2) i)) := by
      refine ih (i + 1) _ (by omega) ((Ro.fr (Fr.put (a := c) (b := c + 5) (by omega) (by omega)) (by omega)).fr (Fr.put (a := c) (b := c + 5) (by omega) (by omega)) (by omega)) ?_ (fun S' R' F' => h1 S' R' (((Fr.put (by omega) (by omega)).tr (Fr.put (by omega) (by omega))).tr F'))
      have e1 : S (o + 1) i = K' 1 i := by rw [hK 1 i (by omega)]; exact Ro 1 i (by simp [inr]; omega)
      have e2 : S (o + 2) i = K' 2 i := by rw [hK 2 i (by omega)]; exact Ro 2 i (by simp [inr]; omega)
      refine ParC.put (D := fun a j => D1 i a j ∨ (a = 1 ∧ j = i)) (ParC.put Rc e1 ?_) e2 ?_
      · intro a j hj z; exact z
      · intro a j hj z
        unfold D1 at z ⊢
        unfold inr at hj
        omega
    rcases hco with ⟨rfl, rfl⟩ | ⟨rfl, rfl⟩ | ⟨rfl, rfl⟩ | ⟨rfl, rfl⟩ <;>
    · skip
      repeat' (first | (refine Rules.st H okX1_become [36, 74] ?_; conv => whnf) | refine br_t (by first | decide | assumption) ?_ | refine br_f (by first | decide | assumption) ?_ | refine br_c (fun _ => ?_) (fun _ => ?_) | refine ⟨by decide, ?_⟩ | refine ⟨by first | assumption | (unfold vp_in; decide) | ((with_reducible (refine vp_in_nI ?_ ?_)) <;> omega), ?_⟩ | fail)
      simp only [nIc (show i < 2 ^ 31 by omega), nI_1]
      exact Halt.mk step
/-- who stays in and how often one went down are not taken over -/
def freshK (K : Mem) : Mem := up (up K 0 3 0) 0 4 0
set_option maxRecDepth 100000 in
theorem X1_become (H : Rules C T) {c o : Nat} (hco : pairC c o) {K S : Mem} (Ro : RepC o S K) {Q : Pst} (h1 : ∀ S', RepC c S' (freshK K) → Fr c (c + 5) S S' → Q none S') : C mX1_become [.ref c, .ref o] S Q := by
  have hne : c ≠ o ∧ (c + 5 < o ∨ o + 5 < c) := by unfold pairC at hco; omega
  have step : T mX1_become Q 36 [some (.ref c), some (.ref o), some (.int (nI 0))] [] (up (up (up (up (up S (c + 0) 0 (S (o + 0) 0)) (c + 0) 1 (S (o + 0) 1)) (c + 0) 2 (S (o + 0) 2)) (c + 0) 3 0) (c + 0) 4 0) := by
    refine X1_become_1 H hco (K := K) (K' := freshK K) ?_ 8 0 _ (by omega) ?_ ?_ ?_
    · intro a j ha
      unfold freshK
      rw [up_k (by omega), up_k (by omega)]
    · have p : ∀ {S : Mem} {j : Nat} {v : Int32}, RepC o S K → RepC o (up S (c + 0) j v) K := fun h => h.fr (Fr.put (a := c) (b := c + 5) (by omega) (by omega)) (by omega)
      exact p (p (p (p (p Ro))))
    · intro a j hj z
      unfold D1 at z
      have ha : a = 0 := by omega
      subst ha
      have e0 := Ro 0 0 (by simp [inr])
      have e1 := Ro 0 1 (by simp [inr])
      have e2 := Ro 0 2 (by simp [inr])
      unfold inr at hj
      rcases (show j = 0 ∨ j = 1 ∨ j = 2 ∨ j = 3 ∨ j = 4 by omega) with rfl | rfl | rfl | rfl | rfl <;> simp [up, freshK, e0, e1, e2] <;> assumption
    · intro S' R' F'
      refine h1 S' R' (Fr.tr ?_ F')
      have q : ∀ {S1 : Mem} {j : Nat} {v : Int32}, Fr c (c + 5) S S1 → Fr c (c + 5) S (up S1 (c + 0) j v) := fun h => h.tr (Fr.put (by omega) (by omega))
      exact q (q (q (q (q Fr.rf))))
  have v1 : ∀ j, up S (c + 0) 0 (S (o + 0) 0) (o + 0) j = S (o + 0) j := fun j => up_k (by omega)
  rcases hco with ⟨rfl, rfl⟩ | ⟨rfl, rfl⟩ | ⟨rfl, rfl⟩ | ⟨rfl, rfl⟩ <;>
  · refine Rules.go H (by decide) (Nat.le_of_ble_eq_true rfl) ?_
    repeat' (first | (refine Rules.st H okX1_become [36] ?_; conv => whnf) | refine br_t (by first | decide | assumption) ?_ | refine br_f (by first | decide | assumption) ?_ | refine br_c (fun _ => ?_) (fun _ => ?_) | refine ⟨by decide, ?_⟩ | refine ⟨by first | assumption | (unfold vp_in; decide) | ((with_reducible (refine vp_in_nI ?_ ?_)) <;> omega), ?_⟩ | fail)
    exact Halt.mk step
end CORR4
end
