section
-- ===== PART A: goes FIRST, ahead of the names: the tables' words, and 'selects' of the private methods out of them =====
/-- a private method of a class that the tables say can be made, by its rows of tables_1 -/
def lw_okq (q : MethodName × Nat) : Prop := (q.1.cls ≠ "java/lang/invoke/MethodHandle" ∧ q.1.cls ≠ "java/lang/invoke/VarHandle") ∧ Cond.instantiable q.1.cls q.2 ∈ tables_1 ∧ Cond.privateMethod q.1 ∈ tables_1 ∧ Cond.instanceMethod q.1 ∈ tables_1
theorem lw_p0 : lw_okq (⟨"SignDuty", "found", "(I)I"⟩, 9) := ⟨⟨by decide +kernel, by decide +kernel⟩, List.mem_of_getElem? (i := 14) (by decide +kernel), List.mem_of_getElem? (i := 233) (by decide +kernel), List.mem_of_getElem? (i := 234) (by decide +kernel)⟩
theorem lw_p1 : lw_okq (⟨"SignDuty", "foundNothing", "(I)I"⟩, 9) := ⟨⟨by decide +kernel, by decide +kernel⟩, List.mem_of_getElem? (i := 14) (by decide +kernel), List.mem_of_getElem? (i := 242) (by decide +kernel), List.mem_of_getElem? (i := 243) (by decide +kernel)⟩
theorem lw_p2 : lw_okq (⟨"SignDuty$Reader", "readLaw", "(LSignDuty$City;)V"⟩, 6) := ⟨⟨by decide +kernel, by decide +kernel⟩, List.mem_of_getElem? (i := 41) (by decide +kernel), List.mem_of_getElem? (i := 316) (by decide +kernel), List.mem_of_getElem? (i := 317) (by decide +kernel)⟩
theorem lw_p3 : lw_okq (⟨"SignDuty$Reader", "readSign", "(I)V"⟩, 6) := ⟨⟨by decide +kernel, by decide +kernel⟩, List.mem_of_getElem? (i := 41) (by decide +kernel), List.mem_of_getElem? (i := 320) (by decide +kernel), List.mem_of_getElem? (i := 321) (by decide +kernel)⟩
theorem lw_p4 : lw_okq (⟨"SignDuty$Reader", "next", "()I"⟩, 6) := ⟨⟨by decide +kernel, by decide +kernel⟩, List.mem_of_getElem? (i := 41) (by decide +kernel), List.mem_of_getElem? (i := 324) (by decide +kernel), List.mem_of_getElem? (i := 325) (by decide +kernel)⟩
theorem lw_p5 : lw_okq (⟨"SignDuty$Reader", "fail", "(I)V"⟩, 6) := ⟨⟨by decide +kernel, by decide +kernel⟩, List.mem_of_getElem? (i := 41) (by decide +kernel), List.mem_of_getElem? (i := 328) (by decide +kernel), List.mem_of_getElem? (i := 329) (by decide +kernel)⟩
theorem lw_p6 : lw_okq (⟨"SignDuty$Reader", "failAt", "(II)V"⟩, 6) := ⟨⟨by decide +kernel, by decide +kernel⟩, List.mem_of_getElem? (i := 41) (by decide +kernel), List.mem_of_getElem? (i := 332) (by decide +kernel), List.mem_of_getElem? (i := 333) (by decide +kernel)⟩
theorem lw_p7 : lw_okq (⟨"SignDuty$Reader", "readNumber", "(II)I"⟩, 6) := ⟨⟨by decide +kernel, by decide +kernel⟩, List.mem_of_getElem? (i := 41) (by decide +kernel), List.mem_of_getElem? (i := 336) (by decide +kernel), List.mem_of_getElem? (i := 337) (by decide +kernel)⟩
theorem lw_p8 : lw_okq (⟨"SignDuty$Reader", "readStreet", "(LSignDuty$City;)V"⟩, 6) := ⟨⟨by decide +kernel, by decide +kernel⟩, List.mem_of_getElem? (i := 41) (by decide +kernel), List.mem_of_getElem? (i := 345) (by decide +kernel), List.mem_of_getElem? (i := 346) (by decide +kernel)⟩
theorem lw_p9 : lw_okq (⟨"SignDuty$Reader", "readGesture", "(LSignDuty$City;)V"⟩, 6) := ⟨⟨by decide +kernel, by decide +kernel⟩, List.mem_of_getElem? (i := 41) (by decide +kernel), List.mem_of_getElem? (i := 352) (by decide +kernel), List.mem_of_getElem? (i := 353) (by decide +kernel)⟩
theorem lw_p10 : lw_okq (⟨"SignDuty", "isGesture", "(I)Z"⟩, 9) := ⟨⟨by decide +kernel, by decide +kernel⟩, List.mem_of_getElem? (i := 14) (by decide +kernel), List.mem_of_getElem? (i := 374) (by decide +kernel), List.mem_of_getElem? (i := 375) (by decide +kernel)⟩
theorem lw_p11 : lw_okq (⟨"SignDuty", "isStreet", "(I)Z"⟩, 9) := ⟨⟨by decide +kernel, by decide +kernel⟩, List.mem_of_getElem? (i := 14) (by decide +kernel), List.mem_of_getElem? (i := 378) (by decide +kernel), List.mem_of_getElem? (i := 379) (by decide +kernel)⟩
theorem lw_p12 : lw_okq (⟨"SignDuty$City", "owesUnknown", "(III)I"⟩, 13) := ⟨⟨by decide +kernel, by decide +kernel⟩, List.mem_of_getElem? (i := 69) (by decide +kernel), List.mem_of_getElem? (i := 395) (by decide +kernel), List.mem_of_getElem? (i := 396) (by decide +kernel)⟩
theorem lw_p13 : lw_okq (⟨"SignDuty", "isStretch", "(II)Z"⟩, 9) := ⟨⟨by decide +kernel, by decide +kernel⟩, List.mem_of_getElem? (i := 14) (by decide +kernel), List.mem_of_getElem? (i := 468) (by decide +kernel), List.mem_of_getElem? (i := 469) (by decide +kernel)⟩
theorem lw_p14 : lw_okq (⟨"SignDuty$Teller", "fill", "(LSignDuty$City;IIII)V"⟩, 1) := ⟨⟨by decide +kernel, by decide +kernel⟩, List.mem_of_getElem? (i := 170) (by decide +kernel), List.mem_of_getElem? (i := 476) (by decide +kernel), List.mem_of_getElem? (i := 477) (by decide +kernel)⟩
theorem lw_p15 : lw_okq (⟨"SignDuty$Teller", "offer", "(IIII)V"⟩, 1) := ⟨⟨by decide +kernel, by decide +kernel⟩, List.mem_of_getElem? (i := 170) (by decide +kernel), List.mem_of_getElem? (i := 486) (by decide +kernel), List.mem_of_getElem? (i := 487) (by decide +kernel)⟩
def lw_privs_1 : List (MethodName × Nat) := [(⟨"SignDuty", "found", "(I)I"⟩, 9), (⟨"SignDuty", "foundNothing", "(I)I"⟩, 9), (⟨"SignDuty$Reader", "readLaw", "(LSignDuty$City;)V"⟩, 6), (⟨"SignDuty$Reader", "readSign", "(I)V"⟩, 6), (⟨"SignDuty$Reader", "next", "()I"⟩, 6), (⟨"SignDuty$Reader", "fail", "(I)V"⟩, 6), (⟨"SignDuty$Reader", "failAt", "(II)V"⟩, 6), (⟨"SignDuty$Reader", "readNumber", "(II)I"⟩, 6), (⟨"SignDuty$Reader", "readStreet", "(LSignDuty$City;)V"⟩, 6), (⟨"SignDuty$Reader", "readGesture", "(LSignDuty$City;)V"⟩, 6), (⟨"SignDuty", "isGesture", "(I)Z"⟩, 9), (⟨"SignDuty", "isStreet", "(I)Z"⟩, 9), (⟨"SignDuty$City", "owesUnknown", "(III)I"⟩, 13), (⟨"SignDuty", "isStretch", "(II)Z"⟩, 9), (⟨"SignDuty$Teller", "fill", "(LSignDuty$City;IIII)V"⟩, 1), (⟨"SignDuty$Teller", "offer", "(IIII)V"⟩, 1)]
theorem lw_r1 : ∀ q ∈ lw_privs_1, lw_okq q := List.forall_mem_cons.mpr ⟨lw_p0, List.forall_mem_cons.mpr ⟨lw_p1, List.forall_mem_cons.mpr ⟨lw_p2, List.forall_mem_cons.mpr ⟨lw_p3, List.forall_mem_cons.mpr ⟨lw_p4, List.forall_mem_cons.mpr ⟨lw_p5, List.forall_mem_cons.mpr ⟨lw_p6, List.forall_mem_cons.mpr ⟨lw_p7, List.forall_mem_cons.mpr ⟨lw_p8, List.forall_mem_cons.mpr ⟨lw_p9, List.forall_mem_cons.mpr ⟨lw_p10, List.forall_mem_cons.mpr ⟨lw_p11, List.forall_mem_cons.mpr ⟨lw_p12, List.forall_mem_cons.mpr ⟨lw_p13, List.forall_mem_cons.mpr ⟨lw_p14, List.forall_mem_cons.mpr ⟨lw_p15, fun _ h => absurd h List.not_mem_nil⟩⟩⟩⟩⟩⟩⟩⟩⟩⟩⟩⟩⟩⟩⟩⟩
theorem lw_p16 : lw_okq (⟨"SignDuty$Teller", "firstOfCheapest", "(LSignDuty$City;III)I"⟩, 1) := ⟨⟨by decide +kernel, by decide +kernel⟩, List.mem_of_getElem? (i := 170) (by decide +kernel), List.mem_of_getElem? (i := 496) (by decide +kernel), List.mem_of_getElem? (i := 497) (by decide +kernel)⟩
theorem lw_p17 : lw_okq (⟨"SignDuty", "refusalOfThread", "(III)I"⟩, 9) := ⟨⟨by decide +kernel, by decide +kernel⟩, List.mem_of_getElem? (i := 14) (by decide +kernel), List.mem_of_getElem? (i := 524) (by decide +kernel), List.mem_of_getElem? (i := 525) (by decide +kernel)⟩
theorem lw_p18 : lw_okq (⟨"SignDuty", "owesAlong", "(IIIII)Z"⟩, 9) := ⟨⟨by decide +kernel, by decide +kernel⟩, List.mem_of_getElem? (i := 14) (by decide +kernel), List.mem_of_getElem? (i := 532) (by decide +kernel), List.mem_of_getElem? (i := 533) (by decide +kernel)⟩
theorem lw_p19 : lw_okq (⟨"SignDuty", "isSeenAlong", "(IIII)Z"⟩, 9) := ⟨⟨by decide +kernel, by decide +kernel⟩, List.mem_of_getElem? (i := 14) (by decide +kernel), List.mem_of_getElem? (i := 537) (by decide +kernel), List.mem_of_getElem? (i := 538) (by decide +kernel)⟩
theorem lw_p20 : lw_okq (⟨"SignDuty$Asks", "asked", "(LSignDuty$City;III)I"⟩, 2) := ⟨⟨by decide +kernel, by decide +kernel⟩, List.mem_of_getElem? (i := 181) (by decide +kernel), List.mem_of_getElem? (i := 609) (by decide +kernel), List.mem_of_getElem? (i := 610) (by decide +kernel)⟩
theorem lw_p21 : lw_okq (⟨"SignDuty$Asks", "given", "(ILSignDuty$City;II)I"⟩, 2) := ⟨⟨by decide +kernel, by decide +kernel⟩, List.mem_of_getElem? (i := 181) (by decide +kernel), List.mem_of_getElem? (i := 621) (by decide +kernel), List.mem_of_getElem? (i := 622) (by decide +kernel)⟩
theorem lw_p22 : lw_okq (⟨"SignDuty$Asks", "leave", "(I)V"⟩, 2) := ⟨⟨by decide +kernel, by decide +kernel⟩, List.mem_of_getElem? (i := 181) (by decide +kernel), List.mem_of_getElem? (i := 625) (by decide +kernel), List.mem_of_getElem? (i := 626) (by decide +kernel)⟩
theorem lw_p23 : lw_okq (⟨"SignDuty$Asks", "sizeBy", "(ILSignDuty$City;II)I"⟩, 2) := ⟨⟨by decide +kernel, by decide +kernel⟩, List.mem_of_getElem? (i := 181) (by decide +kernel), List.mem_of_getElem? (i := 629) (by decide +kernel), List.mem_of_getElem? (i := 630) (by decide +kernel)⟩
theorem lw_p24 : lw_okq (⟨"SignDuty$Asks", "markBy", "(ILSignDuty$City;II)I"⟩, 2) := ⟨⟨by decide +kernel, by decide +kernel⟩, List.mem_of_getElem? (i := 181) (by decide +kernel), List.mem_of_getElem? (i := 633) (by decide +kernel), List.mem_of_getElem? (i := 634) (by decide +kernel)⟩
theorem lw_p25 : lw_okq (⟨"SignDutyModel", "find", "(I)I"⟩, 17) := ⟨⟨by decide +kernel, by decide +kernel⟩, List.mem_of_getElem? (i := 664) (by decide +kernel), List.mem_of_getElem? (i := 736) (by decide +kernel), List.mem_of_getElem? (i := 737) (by decide +kernel)⟩
theorem lw_p26 : lw_okq (⟨"SignDutyModel", "well", "(I)I"⟩, 17) := ⟨⟨by decide +kernel, by decide +kernel⟩, List.mem_of_getElem? (i := 664) (by decide +kernel), List.mem_of_getElem? (i := 741) (by decide +kernel), List.mem_of_getElem? (i := 742) (by decide +kernel)⟩
theorem lw_p27 : lw_okq (⟨"SignDutyModel", "isSpan", "(III)Z"⟩, 17) := ⟨⟨by decide +kernel, by decide +kernel⟩, List.mem_of_getElem? (i := 664) (by decide +kernel), List.mem_of_getElem? (i := 756) (by decide +kernel), List.mem_of_getElem? (i := 757) (by decide +kernel)⟩
theorem lw_p28 : lw_okq (⟨"SignDutyModel", "reads", "()Z"⟩, 17) := ⟨⟨by decide +kernel, by decide +kernel⟩, List.mem_of_getElem? (i := 664) (by decide +kernel), List.mem_of_getElem? (i := 774) (by decide +kernel), List.mem_of_getElem? (i := 775) (by decide +kernel)⟩
theorem lw_p29 : lw_okq (⟨"SignDutyModel", "readsLaw", "()Z"⟩, 17) := ⟨⟨by decide +kernel, by decide +kernel⟩, List.mem_of_getElem? (i := 664) (by decide +kernel), List.mem_of_getElem? (i := 778) (by decide +kernel), List.mem_of_getElem? (i := 779) (by decide +kernel)⟩
theorem lw_p30 : lw_okq (⟨"SignDutyModel", "sign", "(I)Z"⟩, 17) := ⟨⟨by decide +kernel, by decide +kernel⟩, List.mem_of_getElem? (i := 664) (by decide +kernel), List.mem_of_getElem? (i := 782) (by decide +kernel), List.mem_of_getElem? (i := 783) (by decide +kernel)⟩
theorem lw_p31 : lw_okq (⟨"SignDutyModel", "isLetter", "(I)Z"⟩, 17) := ⟨⟨by decide +kernel, by decide +kernel⟩, List.mem_of_getElem? (i := 664) (by decide +kernel), List.mem_of_getElem? (i := 786) (by decide +kernel), List.mem_of_getElem? (i := 787) (by decide +kernel)⟩
def lw_privs_2 : List (MethodName × Nat) := [(⟨"SignDuty$Teller", "firstOfCheapest", "(LSignDuty$City;III)I"⟩, 1), (⟨"SignDuty", "refusalOfThread", "(III)I"⟩, 9), (⟨"SignDuty", "owesAlong", "(IIIII)Z"⟩, 9), (⟨"SignDuty", "isSeenAlong", "(IIII)Z"⟩, 9), (⟨"SignDuty$Asks", "asked", "(LSignDuty$City;III)I"⟩, 2), (⟨"SignDuty$Asks", "given", "(ILSignDuty$City;II)I"⟩, 2), (⟨"SignDuty$Asks", "leave", "(I)V"⟩, 2), (⟨"SignDuty$Asks", "sizeBy", "(ILSignDuty$City;II)I"⟩, 2), (⟨"SignDuty$Asks", "markBy", "(ILSignDuty$City;II)I"⟩, 2), (⟨"SignDutyModel", "find", "(I)I"⟩, 17), (⟨"SignDutyModel", "well", "(I)I"⟩, 17), (⟨"SignDutyModel", "isSpan", "(III)Z"⟩, 17), (⟨"SignDutyModel", "reads", "()Z"⟩, 17), (⟨"SignDutyModel", "readsLaw", "()Z"⟩, 17), (⟨"SignDutyModel", "sign", "(I)Z"⟩, 17), (⟨"SignDutyModel", "isLetter", "(I)Z"⟩, 17)]
theorem lw_r2 : ∀ q ∈ lw_privs_2, lw_okq q := List.forall_mem_cons.mpr ⟨lw_p16, List.forall_mem_cons.mpr ⟨lw_p17, List.forall_mem_cons.mpr ⟨lw_p18, List.forall_mem_cons.mpr ⟨lw_p19, List.forall_mem_cons.mpr ⟨lw_p20, List.forall_mem_cons.mpr ⟨lw_p21, List.forall_mem_cons.mpr ⟨lw_p22, List.forall_mem_cons.mpr ⟨lw_p23, List.forall_mem_cons.mpr ⟨lw_p24, List.forall_mem_cons.mpr ⟨lw_p25, List.forall_mem_cons.mpr ⟨lw_p26, List.forall_mem_cons.mpr ⟨lw_p27, List.forall_mem_cons.mpr ⟨lw_p28, List.forall_mem_cons.mpr ⟨lw_p29, List.forall_mem_cons.mpr ⟨lw_p30, List.forall_mem_cons.mpr ⟨lw_p31, fun _ h => absurd h List.not_mem_nil⟩⟩⟩⟩⟩⟩⟩⟩⟩⟩⟩⟩⟩⟩⟩⟩
theorem lw_p32 : lw_okq (⟨"SignDutyModel", "refuse", "(I)Z"⟩, 17) := ⟨⟨by decide +kernel, by decide +kernel⟩, List.mem_of_getElem? (i := 664) (by decide +kernel), List.mem_of_getElem? (i := 790) (by decide +kernel), List.mem_of_getElem? (i := 791) (by decide +kernel)⟩
theorem lw_p33 : lw_okq (⟨"SignDutyModel", "readsNumber", "(II)Z"⟩, 17) := ⟨⟨by decide +kernel, by decide +kernel⟩, List.mem_of_getElem? (i := 664) (by decide +kernel), List.mem_of_getElem? (i := 794) (by decide +kernel), List.mem_of_getElem? (i := 795) (by decide +kernel)⟩
theorem lw_p34 : lw_okq (⟨"SignDutyModel", "isFigure", "(I)Z"⟩, 17) := ⟨⟨by decide +kernel, by decide +kernel⟩, List.mem_of_getElem? (i := 664) (by decide +kernel), List.mem_of_getElem? (i := 798) (by decide +kernel), List.mem_of_getElem? (i := 799) (by decide +kernel)⟩
theorem lw_p35 : lw_okq (⟨"SignDutyModel", "readsStreet", "()Z"⟩, 17) := ⟨⟨by decide +kernel, by decide +kernel⟩, List.mem_of_getElem? (i := 664) (by decide +kernel), List.mem_of_getElem? (i := 804) (by decide +kernel), List.mem_of_getElem? (i := 805) (by decide +kernel)⟩
theorem lw_p36 : lw_okq (⟨"SignDutyModel", "readsGesture", "()Z"⟩, 17) := ⟨⟨by decide +kernel, by decide +kernel⟩, List.mem_of_getElem? (i := 664) (by decide +kernel), List.mem_of_getElem? (i := 811) (by decide +kernel), List.mem_of_getElem? (i := 812) (by decide +kernel)⟩
theorem lw_p37 : lw_okq (⟨"SignDutyModel", "copyTown", "(II)V"⟩, 17) := ⟨⟨by decide +kernel, by decide +kernel⟩, List.mem_of_getElem? (i := 664) (by decide +kernel), List.mem_of_getElem? (i := 816) (by decide +kernel), List.mem_of_getElem? (i := 817) (by decide +kernel)⟩
theorem lw_p38 : lw_okq (⟨"SignDutyModel", "isGesture", "(I)Z"⟩, 17) := ⟨⟨by decide +kernel, by decide +kernel⟩, List.mem_of_getElem? (i := 664) (by decide +kernel), List.mem_of_getElem? (i := 833) (by decide +kernel), List.mem_of_getElem? (i := 834) (by decide +kernel)⟩
theorem lw_p39 : lw_okq (⟨"SignDutyModel", "isStreet", "(I)Z"⟩, 17) := ⟨⟨by decide +kernel, by decide +kernel⟩, List.mem_of_getElem? (i := 664) (by decide +kernel), List.mem_of_getElem? (i := 837) (by decide +kernel), List.mem_of_getElem? (i := 838) (by decide +kernel)⟩
theorem lw_p40 : lw_okq (⟨"SignDutyModel", "isSeen", "(II)Z"⟩, 17) := ⟨⟨by decide +kernel, by decide +kernel⟩, List.mem_of_getElem? (i := 664) (by decide +kernel), List.mem_of_getElem? (i := 841) (by decide +kernel), List.mem_of_getElem? (i := 842) (by decide +kernel)⟩
theorem lw_p41 : lw_okq (⟨"SignDutyModel", "dutyOf", "(II)I"⟩, 17) := ⟨⟨by decide +kernel, by decide +kernel⟩, List.mem_of_getElem? (i := 664) (by decide +kernel), List.mem_of_getElem? (i := 845) (by decide +kernel), List.mem_of_getElem? (i := 846) (by decide +kernel)⟩
theorem lw_p42 : lw_okq (⟨"SignDutyModel", "owes", "(III)I"⟩, 17) := ⟨⟨by decide +kernel, by decide +kernel⟩, List.mem_of_getElem? (i := 664) (by decide +kernel), List.mem_of_getElem? (i := 849) (by decide +kernel), List.mem_of_getElem? (i := 850) (by decide +kernel)⟩
theorem lw_p43 : lw_okq (⟨"SignDutyModel", "plainDuty", "(III)I"⟩, 17) := ⟨⟨by decide +kernel, by decide +kernel⟩, List.mem_of_getElem? (i := 664) (by decide +kernel), List.mem_of_getElem? (i := 853) (by decide +kernel), List.mem_of_getElem? (i := 854) (by decide +kernel)⟩
theorem lw_p44 : lw_okq (⟨"SignDutyModel", "wave", "(II)I"⟩, 17) := ⟨⟨by decide +kernel, by decide +kernel⟩, List.mem_of_getElem? (i := 664) (by decide +kernel), List.mem_of_getElem? (i := 857) (by decide +kernel), List.mem_of_getElem? (i := 858) (by decide +kernel)⟩
theorem lw_p45 : lw_okq (⟨"SignDutyModel", "keepPast", "()V"⟩, 17) := ⟨⟨by decide +kernel, by decide +kernel⟩, List.mem_of_getElem? (i := 664) (by decide +kernel), List.mem_of_getElem? (i := 865) (by decide +kernel), List.mem_of_getElem? (i := 866) (by decide +kernel)⟩
theorem lw_p46 : lw_okq (⟨"SignDutyModel", "seenStreets", "(I)I"⟩, 17) := ⟨⟨by decide +kernel, by decide +kernel⟩, List.mem_of_getElem? (i := 664) (by decide +kernel), List.mem_of_getElem? (i := 887) (by decide +kernel), List.mem_of_getElem? (i := 888) (by decide +kernel)⟩
theorem lw_p47 : lw_okq (⟨"SignDutyModel", "seenGestures", "(I)I"⟩, 17) := ⟨⟨by decide +kernel, by decide +kernel⟩, List.mem_of_getElem? (i := 664) (by decide +kernel), List.mem_of_getElem? (i := 895) (by decide +kernel), List.mem_of_getElem? (i := 896) (by decide +kernel)⟩
def lw_privs_3 : List (MethodName × Nat) := [(⟨"SignDutyModel", "refuse", "(I)Z"⟩, 17), (⟨"SignDutyModel", "readsNumber", "(II)Z"⟩, 17), (⟨"SignDutyModel", "isFigure", "(I)Z"⟩, 17), (⟨"SignDutyModel", "readsStreet", "()Z"⟩, 17), (⟨"SignDutyModel", "readsGesture", "()Z"⟩, 17), (⟨"SignDutyModel", "copyTown", "(II)V"⟩, 17), (⟨"SignDutyModel", "isGesture", "(I)Z"⟩, 17), (⟨"SignDutyModel", "isStreet", "(I)Z"⟩, 17), (⟨"SignDutyModel", "isSeen", "(II)Z"⟩, 17), (⟨"SignDutyModel", "dutyOf", "(II)I"⟩, 17), (⟨"SignDutyModel", "owes", "(III)I"⟩, 17), (⟨"SignDutyModel", "plainDuty", "(III)I"⟩, 17), (⟨"SignDutyModel", "wave", "(II)I"⟩, 17), (⟨"SignDutyModel", "keepPast", "()V"⟩, 17), (⟨"SignDutyModel", "seenStreets", "(I)I"⟩, 17), (⟨"SignDutyModel", "seenGestures", "(I)I"⟩, 17)]
theorem lw_r3 : ∀ q ∈ lw_privs_3, lw_okq q := List.forall_mem_cons.mpr ⟨lw_p32, List.forall_mem_cons.mpr ⟨lw_p33, List.forall_mem_cons.mpr ⟨lw_p34, List.forall_mem_cons.mpr ⟨lw_p35, List.forall_mem_cons.mpr ⟨lw_p36, List.forall_mem_cons.mpr ⟨lw_p37, List.forall_mem_cons.mpr ⟨lw_p38, List.forall_mem_cons.mpr ⟨lw_p39, List.forall_mem_cons.mpr ⟨lw_p40, List.forall_mem_cons.mpr ⟨lw_p41, List.forall_mem_cons.mpr ⟨lw_p42, List.forall_mem_cons.mpr ⟨lw_p43, List.forall_mem_cons.mpr ⟨lw_p44, List.forall_mem_cons.mpr ⟨lw_p45, List.forall_mem_cons.mpr ⟨lw_p46, List.forall_mem_cons.mpr ⟨lw_p47, fun _ h => absurd h List.not_mem_nil⟩⟩⟩⟩⟩⟩⟩⟩⟩⟩⟩⟩⟩⟩⟩⟩
theorem lw_p48 : lw_okq (⟨"SignDutyModel", "areStreets", "(II)Z"⟩, 17) := ⟨⟨by decide +kernel, by decide +kernel⟩, List.mem_of_getElem? (i := 664) (by decide +kernel), List.mem_of_getElem? (i := 911) (by decide +kernel), List.mem_of_getElem? (i := 912) (by decide +kernel)⟩
theorem lw_p49 : lw_okq (⟨"SignDutyModel", "layCosts", "(III)V"⟩, 17) := ⟨⟨by decide +kernel, by decide +kernel⟩, List.mem_of_getElem? (i := 664) (by decide +kernel), List.mem_of_getElem? (i := 918) (by decide +kernel), List.mem_of_getElem? (i := 919) (by decide +kernel)⟩
theorem lw_p50 : lw_okq (⟨"SignDutyModel", "onBy", "(IIII)I"⟩, 17) := ⟨⟨by decide +kernel, by decide +kernel⟩, List.mem_of_getElem? (i := 664) (by decide +kernel), List.mem_of_getElem? (i := 923) (by decide +kernel), List.mem_of_getElem? (i := 924) (by decide +kernel)⟩
theorem lw_p51 : lw_okq (⟨"SignDutyModel", "tells", "(III)Z"⟩, 17) := ⟨⟨by decide +kernel, by decide +kernel⟩, List.mem_of_getElem? (i := 664) (by decide +kernel), List.mem_of_getElem? (i := 927) (by decide +kernel), List.mem_of_getElem? (i := 928) (by decide +kernel)⟩
theorem lw_p52 : lw_okq (⟨"SignDutyModel", "soonest", "(II)I"⟩, 17) := ⟨⟨by decide +kernel, by decide +kernel⟩, List.mem_of_getElem? (i := 664) (by decide +kernel), List.mem_of_getElem? (i := 936) (by decide +kernel), List.mem_of_getElem? (i := 937) (by decide +kernel)⟩
theorem lw_p53 : lw_okq (⟨"SignDutyModel", "noPairs", "(III)I"⟩, 17) := ⟨⟨by decide +kernel, by decide +kernel⟩, List.mem_of_getElem? (i := 664) (by decide +kernel), List.mem_of_getElem? (i := 949) (by decide +kernel), List.mem_of_getElem? (i := 950) (by decide +kernel)⟩
theorem lw_p54 : lw_okq (⟨"SignDutyModel", "isSeenSo", "(IIII)Z"⟩, 17) := ⟨⟨by decide +kernel, by decide +kernel⟩, List.mem_of_getElem? (i := 664) (by decide +kernel), List.mem_of_getElem? (i := 953) (by decide +kernel), List.mem_of_getElem? (i := 954) (by decide +kernel)⟩
theorem lw_p55 : lw_okq (⟨"SignDutyModel", "owesSo", "(IIIII)Z"⟩, 17) := ⟨⟨by decide +kernel, by decide +kernel⟩, List.mem_of_getElem? (i := 664) (by decide +kernel), List.mem_of_getElem? (i := 957) (by decide +kernel), List.mem_of_getElem? (i := 958) (by decide +kernel)⟩
theorem lw_p56 : lw_okq (⟨"SignDutyModel", "isOf", "(II)Z"⟩, 17) := ⟨⟨by decide +kernel, by decide +kernel⟩, List.mem_of_getElem? (i := 664) (by decide +kernel), List.mem_of_getElem? (i := 1000) (by decide +kernel), List.mem_of_getElem? (i := 1001) (by decide +kernel)⟩
theorem lw_p57 : lw_okq (⟨"SignDutyModel", "sizeOf", "(I)I"⟩, 17) := ⟨⟨by decide +kernel, by decide +kernel⟩, List.mem_of_getElem? (i := 664) (by decide +kernel), List.mem_of_getElem? (i := 1008) (by decide +kernel), List.mem_of_getElem? (i := 1009) (by decide +kernel)⟩
theorem lw_p58 : lw_okq (⟨"SignDutyModel", "begin", "(I)V"⟩, 17) := ⟨⟨by decide +kernel, by decide +kernel⟩, List.mem_of_getElem? (i := 664) (by decide +kernel), List.mem_of_getElem? (i := 1012) (by decide +kernel), List.mem_of_getElem? (i := 1013) (by decide +kernel)⟩
theorem lw_p59 : lw_okq (⟨"SignDutyModel", "wavesSize", "(I)I"⟩, 17) := ⟨⟨by decide +kernel, by decide +kernel⟩, List.mem_of_getElem? (i := 664) (by decide +kernel), List.mem_of_getElem? (i := 1016) (by decide +kernel), List.mem_of_getElem? (i := 1017) (by decide +kernel)⟩
theorem lw_p60 : lw_okq (⟨"SignDutyModel", "lentSize", "(I)I"⟩, 17) := ⟨⟨by decide +kernel, by decide +kernel⟩, List.mem_of_getElem? (i := 664) (by decide +kernel), List.mem_of_getElem? (i := 1020) (by decide +kernel), List.mem_of_getElem? (i := 1021) (by decide +kernel)⟩
theorem lw_p61 : lw_okq (⟨"SignDutyModel", "mark", "(I)I"⟩, 17) := ⟨⟨by decide +kernel, by decide +kernel⟩, List.mem_of_getElem? (i := 664) (by decide +kernel), List.mem_of_getElem? (i := 1024) (by decide +kernel), List.mem_of_getElem? (i := 1025) (by decide +kernel)⟩
theorem lw_p62 : lw_okq (⟨"SignDutyModel", "wavesMark", "(I)I"⟩, 17) := ⟨⟨by decide +kernel, by decide +kernel⟩, List.mem_of_getElem? (i := 664) (by decide +kernel), List.mem_of_getElem? (i := 1028) (by decide +kernel), List.mem_of_getElem? (i := 1029) (by decide +kernel)⟩
theorem lw_p63 : lw_okq (⟨"SignDutyModel", "lentMark", "(I)I"⟩, 17) := ⟨⟨by decide +kernel, by decide +kernel⟩, List.mem_of_getElem? (i := 664) (by decide +kernel), List.mem_of_getElem? (i := 1032) (by decide +kernel), List.mem_of_getElem? (i := 1033) (by decide +kernel)⟩
def lw_privs_4 : List (MethodName × Nat) := [(⟨"SignDutyModel", "areStreets", "(II)Z"⟩, 17), (⟨"SignDutyModel", "layCosts", "(III)V"⟩, 17), (⟨"SignDutyModel", "onBy", "(IIII)I"⟩, 17), (⟨"SignDutyModel", "tells", "(III)Z"⟩, 17), (⟨"SignDutyModel", "soonest", "(II)I"⟩, 17), (⟨"SignDutyModel", "noPairs", "(III)I"⟩, 17), (⟨"SignDutyModel", "isSeenSo", "(IIII)Z"⟩, 17), (⟨"SignDutyModel", "owesSo", "(IIIII)Z"⟩, 17), (⟨"SignDutyModel", "isOf", "(II)Z"⟩, 17), (⟨"SignDutyModel", "sizeOf", "(I)I"⟩, 17), (⟨"SignDutyModel", "begin", "(I)V"⟩, 17), (⟨"SignDutyModel", "wavesSize", "(I)I"⟩, 17), (⟨"SignDutyModel", "lentSize", "(I)I"⟩, 17), (⟨"SignDutyModel", "mark", "(I)I"⟩, 17), (⟨"SignDutyModel", "wavesMark", "(I)I"⟩, 17), (⟨"SignDutyModel", "lentMark", "(I)I"⟩, 17)]
theorem lw_r4 : ∀ q ∈ lw_privs_4, lw_okq q := List.forall_mem_cons.mpr ⟨lw_p48, List.forall_mem_cons.mpr ⟨lw_p49, List.forall_mem_cons.mpr ⟨lw_p50, List.forall_mem_cons.mpr ⟨lw_p51, List.forall_mem_cons.mpr ⟨lw_p52, List.forall_mem_cons.mpr ⟨lw_p53, List.forall_mem_cons.mpr ⟨lw_p54, List.forall_mem_cons.mpr ⟨lw_p55, List.forall_mem_cons.mpr ⟨lw_p56, List.forall_mem_cons.mpr ⟨lw_p57, List.forall_mem_cons.mpr ⟨lw_p58, List.forall_mem_cons.mpr ⟨lw_p59, List.forall_mem_cons.mpr ⟨lw_p60, List.forall_mem_cons.mpr ⟨lw_p61, List.forall_mem_cons.mpr ⟨lw_p62, List.forall_mem_cons.mpr ⟨lw_p63, fun _ h => absurd h List.not_mem_nil⟩⟩⟩⟩⟩⟩⟩⟩⟩⟩⟩⟩⟩⟩⟩⟩
theorem lw_p64 : lw_okq (⟨"SignDutyModel", "winksSize", "(I)I"⟩, 17) := ⟨⟨by decide +kernel, by decide +kernel⟩, List.mem_of_getElem? (i := 664) (by decide +kernel), List.mem_of_getElem? (i := 1036) (by decide +kernel), List.mem_of_getElem? (i := 1037) (by decide +kernel)⟩
theorem lw_p65 : lw_okq (⟨"SignDutyModel", "winksMark", "(I)I"⟩, 17) := ⟨⟨by decide +kernel, by decide +kernel⟩, List.mem_of_getElem? (i := 664) (by decide +kernel), List.mem_of_getElem? (i := 1040) (by decide +kernel), List.mem_of_getElem? (i := 1041) (by decide +kernel)⟩
def lw_privs_5 : List (MethodName × Nat) := [(⟨"SignDutyModel", "winksSize", "(I)I"⟩, 17), (⟨"SignDutyModel", "winksMark", "(I)I"⟩, 17)]
theorem lw_r5 : ∀ q ∈ lw_privs_5, lw_okq q := List.forall_mem_cons.mpr ⟨lw_p64, List.forall_mem_cons.mpr ⟨lw_p65, fun _ h => absurd h List.not_mem_nil⟩⟩
def lw_privs : List (MethodName × Nat) := lw_privs_1 ++ (lw_privs_2 ++ (lw_privs_3 ++ (lw_privs_4 ++ (lw_privs_5))))
def lw_tbl : List Cond := k2_sels lw_privs ++ tables_1
theorem lw_privs_ok : ∀ q ∈ lw_privs, lw_okq q := by
  show ∀ q ∈ lw_privs_1 ++ (lw_privs_2 ++ (lw_privs_3 ++ (lw_privs_4 ++ (lw_privs_5)))), lw_okq q
  exact List.forall_mem_append.mpr ⟨lw_r1, List.forall_mem_append.mpr ⟨lw_r2, List.forall_mem_append.mpr ⟨lw_r3, List.forall_mem_append.mpr ⟨lw_r4, lw_r5⟩⟩⟩⟩
-- ===== end of PART A; then your names; then what follows =====
end
section
/-! ===== THE FLAT WORLD: N cells at addresses ad k; what is in cell k is C (σ k) k; σ : cell, slot ↦ int ===== -/
abbrev x_S : Type := Nat → Nat → Int32
/-- row k of σ is f -/
def x_r (σ : x_S) (k : Nat) (f : Nat → Int32) : x_S := fun a => if a = k then f else σ a
/-- slot i of row k of σ is v -/
def x_u (σ : x_S) (k i : Nat) (v : Int32) : x_S := x_r σ k (upd (σ k) i v)
abbrev x_C : Type := (Nat → Int32) → Nat → va_E
def x_l (N : Nat) (C : x_C) (ad : Nat → Nat) (σ : x_S) : va_W := (List.range N).map (fun k => (ad k, C (σ k) k))
theorem x_l_at {N : Nat} (C : x_C) (ad : Nat → Nat) (σ : x_S) {k : Nat} (hk : k < N) : (x_l N C ad σ)[k]? = some (ad k, C (σ k) k) := by
  simp [x_l, hk]
theorem x_l_in {N : Nat} {C : x_C} {ad : Nat → Nat} {σ : x_S} {k : Nat} {q : Nat × va_E} (h : (x_l N C ad σ)[k]? = some q) : k < N ∧ q = (ad k, C (σ k) k) := by
  have hl : k < (x_l N C ad σ).length := (List.getElem?_eq_some_iff.mp h).1
  have hk : k < N := by simpa [x_l] using hl
  rw [x_l_at C ad σ hk] at h
  exact ⟨hk, (Option.some.inj h).symm⟩
theorem x_l_set {N : Nat} (C : x_C) (ad : Nat → Nat) (σ : x_S) {k : Nat} (hk : k < N) (f : Nat → Int32) : (x_l N C ad σ).set k (ad k, C f k) = x_l N C ad (x_r σ k f) := by
  apply List.ext_getElem?
  intro i
  by_cases hi : i = k
  · subst hi
    have hl : i < (x_l N C ad σ).length := by simpa [x_l] using hk
    rw [List.getElem?_set_self hl, x_l_at _ _ _ hk]
    simp [x_r]
  · rw [List.getElem?_set_ne (Ne.symm hi)]
    by_cases hN : i < N
    · rw [x_l_at _ _ _ hN, x_l_at _ _ _ hN]
      simp [x_r, hi]
    · rw [List.getElem?_eq_none (by simp [x_l]; omega), List.getElem?_eq_none (by simp [x_l]; omega)]
/-- the cells' addresses -/
def x_A (N : Nat) (ad : Nat → Nat) : Nat → Prop := fun q => ∃ k, k < N ∧ q = ad k
def x_I (D : va_G) (cl : List vw_C) (N : Nat) (C : x_C) (ad : Nat → Nat) (σ : x_S) : Heap → Prop := fun H => va_P D cl (x_l N C ad σ) H
def x_dis (N : Nat) (ad : Nat → Nat) : Prop := ∀ i j, i < N → j < N → ad i = ad j → i = j
theorem x_D {N : Nat} {C : x_C} {ad : Nat → Nat} {A : Nat → Prop} (h : x_dis N ad) (hA : ∀ k, k < N → A (ad k)) (σ : x_S) : va_D A (x_l N C ad σ) := by
  refine ⟨fun i j p q hi hj hpq => ?_, fun k q hk => ?_⟩
  · obtain ⟨h1, rfl⟩ := x_l_in hi
    obtain ⟨h2, rfl⟩ := x_l_in hj
    exact h i j h1 h2 hpq
  · obtain ⟨h1, rfl⟩ := x_l_in hk
    exact hA k h1
theorem x_A_in {N : Nat} {ad : Nat → Nat} : ∀ k, k < N → x_A N ad (ad k) := fun k h => ⟨k, h, rfl⟩
/-- what is said of statics: it stays while nothing outside A is written -/
abbrev x_St : Type := (Nat → Prop) → State → Heap → Prop
def x_StOk (St : x_St) : Prop := (∀ (A : Nat → Prop) (u U : State) (H : Heap), u.vm.Alike U.vm → St A u H → St A U H) ∧ (∀ (A : Nat → Prop) (U : State) (H H1 : Heap), (∀ a : Nat, a < H.size → ¬ A a → H1[a]? = H[a]?) → St A U H → St A U H1) ∧ (∀ (A B : Nat → Prop) (U : State) (H : Heap), (∀ q, B q → A q) → St A U H → St B U H)
/-- a method's start -/
def x_Pre (D : va_G) (cl : List vw_C) (tys : List (ClassId × FieldType)) (N : Nat) (C : x_C) (ad : Nat → Nat) (St : x_St) (σ : x_S) : State → Prop := fun U => x_I D cl N C ad σ U.heap ∧ va_K D cl tys U ∧ St (x_A N ad) U U.heap
def x_Post (D : va_G) (cl : List vw_C) (N : Nat) (C : x_C) (ad : Nat → Nat) : x_S → State → Prop := fun u t => x_I D cl N C ad u t.heap
abbrev x_Qi (D : va_G) (cl : List vw_C) (N : Nat) (C : x_C) (ad : Nat → Nat) (r0 : Int32) (σ0 : x_S) : Array Value → State → Outcome → State → Prop := va_Qi (fun (r : Int32) (u : x_S) => r = r0 ∧ u = σ0) (x_Post D cl N C ad) (x_A N ad)
abbrev x_Qv (D : va_G) (cl : List vw_C) (N : Nat) (C : x_C) (ad : Nat → Nat) (σ0 : x_S) : Array Value → State → Outcome → State → Prop := va_Qv (fun (u : x_S) => u = σ0) (x_Post D cl N C ad) (x_A N ad)
/-- room for calls n deep -/
def x_rm (n : Nat) : Room := { frames := n, cells := 0, slots := 0, locals := 100 * n }
theorem x_rm_ok {k n maxL : Nat} (h : k < n) (hm : maxL ≤ 81) : (x_rm k).frames + 1 ≤ (x_rm n).frames ∧ 8 + (maxL + 11) + (x_rm k).locals ≤ (x_rm n).locals := by
  simp only [x_rm]
  omega
abbrev x_MI (l : Launch) (y : MethodName) (ws : List Cond) (n : Nat) (D : va_G) (cl : List vw_C) (tys : List (ClassId × FieldType)) (N : Nat) (C : x_C) (ad : Nat → Nat) (St : x_St) (vs : List Value) (σ : x_S) (r0 : Int32) (σ0 : x_S) : Prop := Met l y ws (x_rm n) (va_Pc vs (x_Pre D cl tys N C ad St σ)) (x_Qi D cl N C ad r0 σ0) 0 0 (x_A N ad)
abbrev x_MV (l : Launch) (y : MethodName) (ws : List Cond) (n : Nat) (D : va_G) (cl : List vw_C) (tys : List (ClassId × FieldType)) (N : Nat) (C : x_C) (ad : Nat → Nat) (St : x_St) (vs : List Value) (σ : x_S) (σ0 : x_S) : Prop := Met l y ws (x_rm n) (va_Pc vs (x_Pre D cl tys N C ad St σ)) (x_Qv D cl N C ad σ0) 0 0 (x_A N ad)
theorem x_blind (vs : List Value) {D : va_G} {cl : List vw_C} {tys : List (ClassId × FieldType)} {N : Nat} {C : x_C} {ad : Nat → Nat} {St : x_St} (hSt : x_StOk St) (σ : x_S) : FrameBlind (va_Pc vs (x_Pre D cl tys N C ad St σ)) := by
  intro a U g mk q
  obtain ⟨q0, qP, qK, qS⟩ := q
  exact ⟨q0, qP, va_K.moved (u := U) (U := U.calling g mk a) (Vm.Alike.refl U.vm) qK, hSt.1 _ U (U.calling g mk a) _ (Vm.Alike.refl U.vm) qS⟩
/-! ===== partial functions ===== -/
/-- c must hold -/
def x_g {β : Type} (c : Prop) [Decidable c] (x : Option β) : Option β := if c then x else none
theorem x_gs {β : Type} {c : Prop} [Decidable c] {x : Option β} {y : β} (h : x_g c x = some y) : c ∧ x = some y := by
  unfold x_g at h
  split at h
  · exact ⟨by assumption, h⟩
  · cases h
def x_p {β : Type} (o : Option Int32) (k : Int32 → Option β) : Option β := match o with
  | some r => k r
  | none => none
theorem x_ps {β : Type} {o : Option Int32} {k : Int32 → Option β} {y : β} (h : x_p o k = some y) : ∃ r, o = some r ∧ k r = some y := by
  cases o with
  | none => cases h
  | some r => exact ⟨r, rfl, h⟩
def x_b {β : Type} (o : Option (Int32 × x_S)) (k : Int32 → x_S → Option β) : Option β := match o with
  | some (r, u) => k r u
  | none => none
theorem x_bs {β : Type} {o : Option (Int32 × x_S)} {k : Int32 → x_S → Option β} {y : β} (h : x_b o k = some y) : ∃ r u, o = some (r, u) ∧ k r u = some y := by
  match o, h with
  | some (r, u), h => exact ⟨r, u, rfl, h⟩
def x_v {β : Type} (o : Option x_S) (k : x_S → Option β) : Option β := match o with
  | some u => k u
  | none => none
theorem x_vs {β : Type} {o : Option x_S} {k : x_S → Option β} {y : β} (h : x_v o k = some y) : ∃ u, o = some u ∧ k u = some y := by
  cases o with
  | none => cases h
  | some r => exact ⟨r, rfl, h⟩
theorem x_it {β : Type} {c : Prop} [Decidable c] {a b : Option β} {y : β} (h : c) (hf : (if c then a else b) = some y) : a = some y := by rwa [if_pos h] at hf
theorem x_if {β : Type} {c : Prop} [Decidable c] {a b : Option β} {y : β} (h : ¬ c) (hf : (if c then a else b) = some y) : b = some y := by rwa [if_neg h] at hf
theorem x_retI {a r : Int32} {b u : x_S} (h : some (a, b) = some (r, u)) : r = a ∧ u = b := by cases h; exact ⟨rfl, rfl⟩
theorem x_retP {a r : Int32} (h : some a = some r) : r = a := by cases h; rfl
theorem x_retV {b u : x_S} (h : some b = some u) : u = b := by cases h; rfl
/-- n rounds of a loop, then z -/
def x_fx {α : Type} (z : α) (b : α → α) : Nat → α
  | 0 => z
  | n + 1 => b (x_fx z b n)
/-- rounds enough for any loop here -/
def x_F : Nat := 4096
end
section
abbrev x_in (i : Int32) (n : Nat) : Prop := ¬ (i < 0 ∨ n ≤ i.toNatClampNeg)
section XJ
variable {p : Program} {l : Launch} {e : Env} {R : Room} {s : State} {m : MethodId} {args : Array Value} {below : List Frame} {meth : Method} {c : Code} {cells slots : Nat} {Q : State → Prop}
variable {cc : ByteArray} {nL : Nat} {Ts : List Cond} {own : String} {A : Nat → Prop} {I : Heap → Prop} {lv lv' : List (Nat × Value)} {st : List Value} {pc : Nat}
variable {D : va_G} {cl : List vw_C} {tys : List (ClassId × FieldType)} {N : Nat} {C : x_C} {ad : Nat → Nat} {St : x_St} {σ : x_S}
/-- what a method's body may use of the machine -/
def x_B (p : Program) (s : State) (m : MethodId) (args : Array Value) (meth : Method) (c : Code) (cc : ByteArray) (nL : Nat) (Ts : List Cond) (own : String) : Prop :=
  p.tables.exec = Jvm.exec ∧ c.code = cc ∧ c.maxLocals = nL ∧ s.vm.findClass own = some m.cls ∧ (∀ w ∈ Ts, w.before args s = true) ∧ meth.locks = false
/-- what it may use of the flat world -/
def x_G (s : State) (D : va_G) (cl : List vw_C) (tys : List (ClassId × FieldType)) (N : Nat) (ad : Nat → Nat) (A : Nat → Prop) (St : x_St) : Prop :=
  va_K D cl tys s ∧ x_dis N ad ∧ (∀ k, k < N → A (ad k)) ∧ x_StOk St ∧ St A s s.heap
/-- from here on, with any heap that holds I and any locals that hold lv, the machine comes to Q -/
def x_J (p : Program) (l : Launch) (e : Env) (R : Room) (s : State) (m : MethodId) (args : Array Value) (below : List Frame) (meth : Method) (c : Code) (cells slots : Nat) (Q : State → Prop) (A : Nat → Prop) (nL : Nat) (I : Heap → Prop) (lv : List (Nat × Value)) (st : List Value) (pc : Nat) : Prop :=
  ∀ (H : Heap) (locs : List Loc) (ls : Array Slot), I H → va_S A s.heap H locs → lv_has ls nL lv → W p l e R s m args below meth c H locs cells slots Q (F0 m pc ls st)
theorem x_sub (ks : List Nat) (hl : lv_pick lv ks = lv') (k : x_J p l e R s m args below meth c cells slots Q A nL I lv' st pc) : x_J p l e R s m args below meth c cells slots Q A nL I lv st pc := fun H locs ls h1 h2 h3 => k H locs ls h1 h2 (lv_sub h3 ks hl)
theorem x_pc {pc' : Nat} (h : pc' = pc) (k : x_J p l e R s m args below meth c cells slots Q A nL I lv st pc') : x_J p l e R s m args below meth c cells slots Q A nL I lv st pc := h ▸ k
theorem x_iconst (B : x_B p s m args meth c cc nL Ts own) {n : Int} {v : Int32} (hdg : decode cc pc = .ok (.iconst n, 1)) (hv : Int32.ofInt n = v) (k : x_J p l e R s m args below meth c cells slots Q A nL I lv (.int v :: st) (pc + 1)) : x_J p l e R s m args below meth c cells slots Q A nL I lv (st) pc :=
  fun H locs ls h1 h2 h3 => lv_iconst B.1 B.2.1 hdg hv (k H locs ls h1 h2 h3)
theorem x_bipush (B : x_B p s m args meth c cc nL Ts own) {n : Int} {v : Int32} (hdg : decode cc pc = .ok (.bipush n, 2)) (hv : (Int8.ofInt n).toInt32 = v) (k : x_J p l e R s m args below meth c cells slots Q A nL I lv (.int v :: st) (pc + 2)) : x_J p l e R s m args below meth c cells slots Q A nL I lv (st) pc :=
  fun H locs ls h1 h2 h3 => lv_bipush B.1 B.2.1 hdg hv (k H locs ls h1 h2 h3)
theorem x_sipush (B : x_B p s m args meth c cc nL Ts own) {n : Int} {v : Int32} (hdg : decode cc pc = .ok (.sipush n, 3)) (hv : (Int16.ofInt n).toInt32 = v) (k : x_J p l e R s m args below meth c cells slots Q A nL I lv (.int v :: st) (pc + 3)) : x_J p l e R s m args below meth c cells slots Q A nL I lv (st) pc :=
  fun H locs ls h1 h2 h3 => lv_sipush B.1 B.2.1 hdg hv (k H locs ls h1 h2 h3)
theorem x_lconst (B : x_B p s m args meth c cc nL Ts own) {n : Fin 2} {v : Int64} (hdg : decode cc pc = .ok (.lconst n, 1)) (hv : Int64.ofNat (n : Nat) = v) (k : x_J p l e R s m args below meth c cells slots Q A nL I lv (.long v :: st) (pc + 1)) : x_J p l e R s m args below meth c cells slots Q A nL I lv (st) pc :=
  fun H locs ls h1 h2 h3 => lv_lconst B.1 B.2.1 hdg hv (k H locs ls h1 h2 h3)
theorem x_iload_n (B : x_B p s m args meth c cc nL Ts own) {k0 : Fin 4} {i : Nat} {x : Int32} (hdg : decode cc pc = .ok (.iload_n k0, 1)) (hi : (k0 : Nat) = i) (j : Nat) (hj : lv[j]? = some (i, .int x)) (k : x_J p l e R s m args below meth c cells slots Q A nL I lv (.int x :: st) (pc + 1)) : x_J p l e R s m args below meth c cells slots Q A nL I lv st pc :=
  fun H locs ls h1 h2 h3 => lv_iload_n B.1 B.2.1 hdg hi (lv_at h3 j hj) (k H locs ls h1 h2 h3)
theorem x_iload (B : x_B p s m args meth c cc nL Ts own) {i : Nat} {x : Int32} (hdg : decode cc pc = .ok (.iload i, 2)) (j : Nat) (hj : lv[j]? = some (i, .int x)) (k : x_J p l e R s m args below meth c cells slots Q A nL I lv (.int x :: st) (pc + 2)) : x_J p l e R s m args below meth c cells slots Q A nL I lv st pc :=
  fun H locs ls h1 h2 h3 => lv_iload B.1 B.2.1 hdg (lv_at h3 j hj) (k H locs ls h1 h2 h3)
theorem x_lload_n (B : x_B p s m args meth c cc nL Ts own) {k0 : Fin 4} {i : Nat} {x : Int64} (hdg : decode cc pc = .ok (.lload_n k0, 1)) (hi : (k0 : Nat) = i) (j : Nat) (hj : lv[j]? = some (i, .long x)) (k : x_J p l e R s m args below meth c cells slots Q A nL I lv (.long x :: st) (pc + 1)) : x_J p l e R s m args below meth c cells slots Q A nL I lv st pc :=
  fun H locs ls h1 h2 h3 => lv_lload_n B.1 B.2.1 hdg hi (lv_at h3 j hj) (k H locs ls h1 h2 h3)
theorem x_lload (B : x_B p s m args meth c cc nL Ts own) {i : Nat} {x : Int64} (hdg : decode cc pc = .ok (.lload i, 2)) (j : Nat) (hj : lv[j]? = some (i, .long x)) (k : x_J p l e R s m args below meth c cells slots Q A nL I lv (.long x :: st) (pc + 2)) : x_J p l e R s m args below meth c cells slots Q A nL I lv st pc :=
  fun H locs ls h1 h2 h3 => lv_lload B.1 B.2.1 hdg (lv_at h3 j hj) (k H locs ls h1 h2 h3)
theorem x_aload_n (B : x_B p s m args meth c cc nL Ts own) {k0 : Fin 4} {i : Nat} {x : Nat} (hdg : decode cc pc = .ok (.aload_n k0, 1)) (hi : (k0 : Nat) = i) (j : Nat) (hj : lv[j]? = some (i, .ref x)) (k : x_J p l e R s m args below meth c cells slots Q A nL I lv (.ref x :: st) (pc + 1)) : x_J p l e R s m args below meth c cells slots Q A nL I lv st pc :=
  fun H locs ls h1 h2 h3 => lv_aload_n B.1 B.2.1 hdg hi (lv_at h3 j hj) (k H locs ls h1 h2 h3)
theorem x_aload (B : x_B p s m args meth c cc nL Ts own) {i : Nat} {x : Nat} (hdg : decode cc pc = .ok (.aload i, 2)) (j : Nat) (hj : lv[j]? = some (i, .ref x)) (k : x_J p l e R s m args below meth c cells slots Q A nL I lv (.ref x :: st) (pc + 2)) : x_J p l e R s m args below meth c cells slots Q A nL I lv st pc :=
  fun H locs ls h1 h2 h3 => lv_aload B.1 B.2.1 hdg (lv_at h3 j hj) (k H locs ls h1 h2 h3)
theorem x_istore_n (B : x_B p s m args meth c cc nL Ts own) {k0 : Fin 4} {i : Nat} {x : Int32} (hdg : decode cc pc = .ok (.istore_n k0, 1)) (hi : (k0 : Nat) = i) (hn : i < nL) (hl : (i, Value.int x) :: lv.filter (fun q => !(q.1 == i) && !(q.1 + 1 == i && q.2.category == 2)) = lv') (k : x_J p l e R s m args below meth c cells slots Q A nL I lv' st (pc + 1)) : x_J p l e R s m args below meth c cells slots Q A nL I lv (.int x :: st) pc :=
  fun H locs ls h1 h2 h3 => lv_istore_n B.1 B.2.1 hdg hi h3 hn hl (fun ls' h' => k H locs ls' h1 h2 h')
theorem x_istore (B : x_B p s m args meth c cc nL Ts own) {i : Nat} {x : Int32} (hdg : decode cc pc = .ok (.istore i, 2)) (hn : i < nL) (hl : (i, Value.int x) :: lv.filter (fun q => !(q.1 == i) && !(q.1 + 1 == i && q.2.category == 2)) = lv') (k : x_J p l e R s m args below meth c cells slots Q A nL I lv' st (pc + 2)) : x_J p l e R s m args below meth c cells slots Q A nL I lv (.int x :: st) pc :=
  fun H locs ls h1 h2 h3 => lv_istore B.1 B.2.1 hdg h3 hn hl (fun ls' h' => k H locs ls' h1 h2 h')
theorem x_astore_n (B : x_B p s m args meth c cc nL Ts own) {k0 : Fin 4} {i : Nat} {x : Nat} (hdg : decode cc pc = .ok (.astore_n k0, 1)) (hi : (k0 : Nat) = i) (hn : i < nL) (hl : (i, Value.ref x) :: lv.filter (fun q => !(q.1 == i) && !(q.1 + 1 == i && q.2.category == 2)) = lv') (k : x_J p l e R s m args below meth c cells slots Q A nL I lv' st (pc + 1)) : x_J p l e R s m args below meth c cells slots Q A nL I lv (.ref x :: st) pc :=
  fun H locs ls h1 h2 h3 => lv_astore_n B.1 B.2.1 hdg hi h3 hn hl (fun ls' h' => k H locs ls' h1 h2 h')
theorem x_astore (B : x_B p s m args meth c cc nL Ts own) {i : Nat} {x : Nat} (hdg : decode cc pc = .ok (.astore i, 2)) (hn : i < nL) (hl : (i, Value.ref x) :: lv.filter (fun q => !(q.1 == i) && !(q.1 + 1 == i && q.2.category == 2)) = lv') (k : x_J p l e R s m args below meth c cells slots Q A nL I lv' st (pc + 2)) : x_J p l e R s m args below meth c cells slots Q A nL I lv (.ref x :: st) pc :=
  fun H locs ls h1 h2 h3 => lv_astore B.1 B.2.1 hdg h3 hn hl (fun ls' h' => k H locs ls' h1 h2 h')
theorem x_iinc (B : x_B p s m args meth c cc nL Ts own) {i : Nat} {n : Int} {x v : Int32} (hdg : decode cc pc = .ok (.iinc i n, 3)) (j : Nat) (hj : lv[j]? = some (i, .int x)) (hv : x + Int32.ofInt n = v) (hn : i < nL) (hl : (i, Value.int v) :: lv.filter (fun q => !(q.1 == i) && !(q.1 + 1 == i && q.2.category == 2)) = lv') (k : x_J p l e R s m args below meth c cells slots Q A nL I lv' st (pc + 3)) : x_J p l e R s m args below meth c cells slots Q A nL I lv st pc :=
  fun H locs ls h1 h2 h3 => lv_iinc B.1 B.2.1 hdg h3 hj hv hn hl (fun ls' h' => k H locs ls' h1 h2 h')
theorem x_iadd (B : x_B p s m args meth c cc nL Ts own) {x y : Int32} (hdg : decode cc pc = .ok (.iadd, 1)) (k : x_J p l e R s m args below meth c cells slots Q A nL I lv (.int (x + y) :: st) (pc + 1)) : x_J p l e R s m args below meth c cells slots Q A nL I lv (.int y :: .int x :: st) pc :=
  fun H locs ls h1 h2 h3 => lv_iadd B.1 B.2.1 hdg (k H locs ls h1 h2 h3)
theorem x_isub (B : x_B p s m args meth c cc nL Ts own) {x y : Int32} (hdg : decode cc pc = .ok (.isub, 1)) (k : x_J p l e R s m args below meth c cells slots Q A nL I lv (.int (x - y) :: st) (pc + 1)) : x_J p l e R s m args below meth c cells slots Q A nL I lv (.int y :: .int x :: st) pc :=
  fun H locs ls h1 h2 h3 => lv_isub B.1 B.2.1 hdg (k H locs ls h1 h2 h3)
theorem x_imul (B : x_B p s m args meth c cc nL Ts own) {x y : Int32} (hdg : decode cc pc = .ok (.imul, 1)) (k : x_J p l e R s m args below meth c cells slots Q A nL I lv (.int (x * y) :: st) (pc + 1)) : x_J p l e R s m args below meth c cells slots Q A nL I lv (.int y :: .int x :: st) pc :=
  fun H locs ls h1 h2 h3 => lv_imul B.1 B.2.1 hdg (k H locs ls h1 h2 h3)
theorem x_iand (B : x_B p s m args meth c cc nL Ts own) {x y : Int32} (hdg : decode cc pc = .ok (.iand, 1)) (k : x_J p l e R s m args below meth c cells slots Q A nL I lv (.int (x &&& y) :: st) (pc + 1)) : x_J p l e R s m args below meth c cells slots Q A nL I lv (.int y :: .int x :: st) pc :=
  fun H locs ls h1 h2 h3 => lv_iand B.1 B.2.1 hdg (k H locs ls h1 h2 h3)
theorem x_ior (B : x_B p s m args meth c cc nL Ts own) {x y : Int32} (hdg : decode cc pc = .ok (.ior, 1)) (k : x_J p l e R s m args below meth c cells slots Q A nL I lv (.int (x ||| y) :: st) (pc + 1)) : x_J p l e R s m args below meth c cells slots Q A nL I lv (.int y :: .int x :: st) pc :=
  fun H locs ls h1 h2 h3 => lv_ior B.1 B.2.1 hdg (k H locs ls h1 h2 h3)
theorem x_ixor (B : x_B p s m args meth c cc nL Ts own) {x y : Int32} (hdg : decode cc pc = .ok (.ixor, 1)) (k : x_J p l e R s m args below meth c cells slots Q A nL I lv (.int (x ^^^ y) :: st) (pc + 1)) : x_J p l e R s m args below meth c cells slots Q A nL I lv (.int y :: .int x :: st) pc :=
  fun H locs ls h1 h2 h3 => lv_ixor B.1 B.2.1 hdg (k H locs ls h1 h2 h3)
theorem x_ishl (B : x_B p s m args meth c cc nL Ts own) {x y : Int32} (hdg : decode cc pc = .ok (.ishl, 1)) (k : x_J p l e R s m args below meth c cells slots Q A nL I lv (.int (x <<< (y &&& 31)) :: st) (pc + 1)) : x_J p l e R s m args below meth c cells slots Q A nL I lv (.int y :: .int x :: st) pc :=
  fun H locs ls h1 h2 h3 => lv_ishl B.1 B.2.1 hdg (k H locs ls h1 h2 h3)
theorem x_ishr (B : x_B p s m args meth c cc nL Ts own) {x y : Int32} (hdg : decode cc pc = .ok (.ishr, 1)) (k : x_J p l e R s m args below meth c cells slots Q A nL I lv (.int (x >>> (y &&& 31)) :: st) (pc + 1)) : x_J p l e R s m args below meth c cells slots Q A nL I lv (.int y :: .int x :: st) pc :=
  fun H locs ls h1 h2 h3 => lv_ishr B.1 B.2.1 hdg (k H locs ls h1 h2 h3)
theorem x_idiv (B : x_B p s m args meth c cc nL Ts own) {x y : Int32} (hdg : decode cc pc = .ok (.idiv, 1)) (hne : ¬ y = 0) (k : x_J p l e R s m args below meth c cells slots Q A nL I lv (.int (x / y) :: st) (pc + 1)) : x_J p l e R s m args below meth c cells slots Q A nL I lv (.int y :: .int x :: st) pc :=
  fun H locs ls h1 h2 h3 => lv_idiv B.1 B.2.1 hdg hne (k H locs ls h1 h2 h3)
theorem x_irem (B : x_B p s m args meth c cc nL Ts own) {x y : Int32} (hdg : decode cc pc = .ok (.irem, 1)) (hne : ¬ y = 0) (k : x_J p l e R s m args below meth c cells slots Q A nL I lv (.int (x - x / y * y) :: st) (pc + 1)) : x_J p l e R s m args below meth c cells slots Q A nL I lv (.int y :: .int x :: st) pc :=
  fun H locs ls h1 h2 h3 => lv_irem B.1 B.2.1 hdg hne (k H locs ls h1 h2 h3)
theorem x_ineg (B : x_B p s m args meth c cc nL Ts own) {x : Int32} (hdg : decode cc pc = .ok (.ineg, 1)) (k : x_J p l e R s m args below meth c cells slots Q A nL I lv (.int (-x) :: st) (pc + 1)) : x_J p l e R s m args below meth c cells slots Q A nL I lv (.int x :: st) pc :=
  fun H locs ls h1 h2 h3 => lv_ineg B.1 B.2.1 hdg (k H locs ls h1 h2 h3)
theorem x_iushr (B : x_B p s m args meth c cc nL Ts own) {x y : Int32} (hdg : decode cc pc = .ok (.iushr, 1)) (k : x_J p l e R s m args below meth c cells slots Q A nL I lv (.int (x.toUInt32 >>> (y.toUInt32 &&& Int32.toUInt32 31)).toInt32 :: st) (pc + 1)) : x_J p l e R s m args below meth c cells slots Q A nL I lv (.int y :: .int x :: st) pc :=
  fun H locs ls h1 h2 h3 => lv_iushr B.1 B.2.1 hdg rfl (k H locs ls h1 h2 h3)
theorem x_i2l (B : x_B p s m args meth c cc nL Ts own) {x : Int32} (hdg : decode cc pc = .ok (.i2l, 1)) (k : x_J p l e R s m args below meth c cells slots Q A nL I lv (.long x.toInt64 :: st) (pc + 1)) : x_J p l e R s m args below meth c cells slots Q A nL I lv (.int x :: st) pc :=
  fun H locs ls h1 h2 h3 => lv_i2l B.1 B.2.1 hdg rfl (k H locs ls h1 h2 h3)
theorem x_l2i (B : x_B p s m args meth c cc nL Ts own) {x : Int64} (hdg : decode cc pc = .ok (.l2i, 1)) (k : x_J p l e R s m args below meth c cells slots Q A nL I lv (.int x.toInt32 :: st) (pc + 1)) : x_J p l e R s m args below meth c cells slots Q A nL I lv (.long x :: st) pc :=
  fun H locs ls h1 h2 h3 => lv_l2i B.1 B.2.1 hdg rfl (k H locs ls h1 h2 h3)
theorem x_i2b (B : x_B p s m args meth c cc nL Ts own) {x : Int32} (hdg : decode cc pc = .ok (.i2b, 1)) (k : x_J p l e R s m args below meth c cells slots Q A nL I lv (.int x.toInt8.toInt32 :: st) (pc + 1)) : x_J p l e R s m args below meth c cells slots Q A nL I lv (.int x :: st) pc :=
  fun H locs ls h1 h2 h3 => lv_i2b B.1 B.2.1 hdg rfl (k H locs ls h1 h2 h3)
theorem x_i2s (B : x_B p s m args meth c cc nL Ts own) {x : Int32} (hdg : decode cc pc = .ok (.i2s, 1)) (k : x_J p l e R s m args below meth c cells slots Q A nL I lv (.int x.toInt16.toInt32 :: st) (pc + 1)) : x_J p l e R s m args below meth c cells slots Q A nL I lv (.int x :: st) pc :=
  fun H locs ls h1 h2 h3 => lv_i2s B.1 B.2.1 hdg rfl (k H locs ls h1 h2 h3)
theorem x_ladd (B : x_B p s m args meth c cc nL Ts own) {x y : Int64} (hdg : decode cc pc = .ok (.ladd, 1)) (k : x_J p l e R s m args below meth c cells slots Q A nL I lv (.long (x + y) :: st) (pc + 1)) : x_J p l e R s m args below meth c cells slots Q A nL I lv (.long y :: .long x :: st) pc :=
  fun H locs ls h1 h2 h3 => lv_ladd B.1 B.2.1 hdg (k H locs ls h1 h2 h3)
theorem x_lcmp (B : x_B p s m args meth c cc nL Ts own) {x y : Int64} (hdg : decode cc pc = .ok (.lcmp, 1)) (k : x_J p l e R s m args below meth c cells slots Q A nL I lv (.int (lg_cmp x y) :: st) (pc + 1)) : x_J p l e R s m args below meth c cells slots Q A nL I lv (.long y :: .long x :: st) pc :=
  fun H locs ls h1 h2 h3 => W.lcmp B.1 B.2.1 hdg (k H locs ls h1 h2 h3)
theorem x_dup (B : x_B p s m args meth c cc nL Ts own) {va : Value} (hdg : decode cc pc = .ok (.dup, 1)) (hva : va.category = 1) (k : x_J p l e R s m args below meth c cells slots Q A nL I lv (va :: va :: st) (pc + 1)) : x_J p l e R s m args below meth c cells slots Q A nL I lv (va :: st) pc :=
  fun H locs ls h1 h2 h3 => lv_dup B.1 B.2.1 hdg hva (k H locs ls h1 h2 h3)
theorem x_pop (B : x_B p s m args meth c cc nL Ts own) {va : Value} (hdg : decode cc pc = .ok (.pop, 1)) (hva : va.category = 1) (k : x_J p l e R s m args below meth c cells slots Q A nL I lv (st) (pc + 1)) : x_J p l e R s m args below meth c cells slots Q A nL I lv (va :: st) pc :=
  fun H locs ls h1 h2 h3 => lv_pop B.1 B.2.1 hdg hva (k H locs ls h1 h2 h3)
theorem x_dup_x1 (B : x_B p s m args meth c cc nL Ts own) {va vb : Value} (hdg : decode cc pc = .ok (.dup_x1, 1)) (hva : va.category = 1) (hvb : vb.category = 1) (k : x_J p l e R s m args below meth c cells slots Q A nL I lv (va :: vb :: va :: st) (pc + 1)) : x_J p l e R s m args below meth c cells slots Q A nL I lv (va :: vb :: st) pc :=
  fun H locs ls h1 h2 h3 => lv_dup_x1 B.1 B.2.1 hdg hva hvb (k H locs ls h1 h2 h3)
theorem x_dup_x2 (B : x_B p s m args meth c cc nL Ts own) {va vb vd : Value} (hdg : decode cc pc = .ok (.dup_x2, 1)) (hva : va.category = 1) (hvb : vb.category = 1) (hvd : vd.category = 1) (k : x_J p l e R s m args below meth c cells slots Q A nL I lv (va :: vb :: vd :: va :: st) (pc + 1)) : x_J p l e R s m args below meth c cells slots Q A nL I lv (va :: vb :: vd :: st) pc :=
  fun H locs ls h1 h2 h3 => lv_dup_x2 B.1 B.2.1 hdg hva hvb hvd (k H locs ls h1 h2 h3)
theorem x_dup2 (B : x_B p s m args meth c cc nL Ts own) {va vb : Value} (hdg : decode cc pc = .ok (.dup2, 1)) (hva : va.category = 1) (hvb : vb.category = 1) (k : x_J p l e R s m args below meth c cells slots Q A nL I lv (va :: vb :: va :: vb :: st) (pc + 1)) : x_J p l e R s m args below meth c cells slots Q A nL I lv (va :: vb :: st) pc :=
  fun H locs ls h1 h2 h3 => lv_dup2_11 B.1 B.2.1 hdg hva hvb (k H locs ls h1 h2 h3)
theorem x_if_eq (B : x_B p s m args meth c cc nL Ts own) {x : Int32} {off : Int} {tgt : Nat} (hdg : decode cc pc = .ok (.ifCond .eq off, 3)) (ht : (pc : Int) + off = (tgt : Int)) (kt : x = 0 → x_J p l e R s m args below meth c cells slots Q A nL I lv st tgt) (kf : ¬ x = 0 → x_J p l e R s m args below meth c cells slots Q A nL I lv st (pc + 3)) : x_J p l e R s m args below meth c cells slots Q A nL I lv (.int x :: st) pc :=
  fun H locs ls h1 h2 h3 => lv_if_eq B.1 B.2.1 hdg ht (fun h => kt h H locs ls h1 h2 h3) (fun h => kf h H locs ls h1 h2 h3)
theorem x_if_ne (B : x_B p s m args meth c cc nL Ts own) {x : Int32} {off : Int} {tgt : Nat} (hdg : decode cc pc = .ok (.ifCond .ne off, 3)) (ht : (pc : Int) + off = (tgt : Int)) (kt : ¬ x = 0 → x_J p l e R s m args below meth c cells slots Q A nL I lv st tgt) (kf : x = 0 → x_J p l e R s m args below meth c cells slots Q A nL I lv st (pc + 3)) : x_J p l e R s m args below meth c cells slots Q A nL I lv (.int x :: st) pc :=
  fun H locs ls h1 h2 h3 => lv_if_ne B.1 B.2.1 hdg ht (fun h => kt h H locs ls h1 h2 h3) (fun h => kf h H locs ls h1 h2 h3)
theorem x_if_lt (B : x_B p s m args meth c cc nL Ts own) {x : Int32} {off : Int} {tgt : Nat} (hdg : decode cc pc = .ok (.ifCond .lt off, 3)) (ht : (pc : Int) + off = (tgt : Int)) (kt : x < 0 → x_J p l e R s m args below meth c cells slots Q A nL I lv st tgt) (kf : ¬ x < 0 → x_J p l e R s m args below meth c cells slots Q A nL I lv st (pc + 3)) : x_J p l e R s m args below meth c cells slots Q A nL I lv (.int x :: st) pc :=
  fun H locs ls h1 h2 h3 => lv_if_lt B.1 B.2.1 hdg ht (fun h => kt h H locs ls h1 h2 h3) (fun h => kf h H locs ls h1 h2 h3)
theorem x_if_ge (B : x_B p s m args meth c cc nL Ts own) {x : Int32} {off : Int} {tgt : Nat} (hdg : decode cc pc = .ok (.ifCond .ge off, 3)) (ht : (pc : Int) + off = (tgt : Int)) (kt : 0 ≤ x → x_J p l e R s m args below meth c cells slots Q A nL I lv st tgt) (kf : ¬ 0 ≤ x → x_J p l e R s m args below meth c cells slots Q A nL I lv st (pc + 3)) : x_J p l e R s m args below meth c cells slots Q A nL I lv (.int x :: st) pc :=
  fun H locs ls h1 h2 h3 => lv_if_ge B.1 B.2.1 hdg ht (fun h => kt h H locs ls h1 h2 h3) (fun h => kf h H locs ls h1 h2 h3)
theorem x_if_gt (B : x_B p s m args meth c cc nL Ts own) {x : Int32} {off : Int} {tgt : Nat} (hdg : decode cc pc = .ok (.ifCond .gt off, 3)) (ht : (pc : Int) + off = (tgt : Int)) (kt : 0 < x → x_J p l e R s m args below meth c cells slots Q A nL I lv st tgt) (kf : ¬ 0 < x → x_J p l e R s m args below meth c cells slots Q A nL I lv st (pc + 3)) : x_J p l e R s m args below meth c cells slots Q A nL I lv (.int x :: st) pc :=
  fun H locs ls h1 h2 h3 => lv_if_gt B.1 B.2.1 hdg ht (fun h => kt h H locs ls h1 h2 h3) (fun h => kf h H locs ls h1 h2 h3)
theorem x_if_le (B : x_B p s m args meth c cc nL Ts own) {x : Int32} {off : Int} {tgt : Nat} (hdg : decode cc pc = .ok (.ifCond .le off, 3)) (ht : (pc : Int) + off = (tgt : Int)) (kt : x ≤ 0 → x_J p l e R s m args below meth c cells slots Q A nL I lv st tgt) (kf : ¬ x ≤ 0 → x_J p l e R s m args below meth c cells slots Q A nL I lv st (pc + 3)) : x_J p l e R s m args below meth c cells slots Q A nL I lv (.int x :: st) pc :=
  fun H locs ls h1 h2 h3 => lv_if_le B.1 B.2.1 hdg ht (fun h => kt h H locs ls h1 h2 h3) (fun h => kf h H locs ls h1 h2 h3)
theorem x_icmp_eq (B : x_B p s m args meth c cc nL Ts own) {x y : Int32} {off : Int} {tgt : Nat} (hdg : decode cc pc = .ok (.if_icmp .eq off, 3)) (ht : (pc : Int) + off = (tgt : Int)) (kt : x = y → x_J p l e R s m args below meth c cells slots Q A nL I lv st tgt) (kf : ¬ x = y → x_J p l e R s m args below meth c cells slots Q A nL I lv st (pc + 3)) : x_J p l e R s m args below meth c cells slots Q A nL I lv (.int y :: .int x :: st) pc :=
  fun H locs ls h1 h2 h3 => lv_icmp_eq B.1 B.2.1 hdg ht (fun h => kt h H locs ls h1 h2 h3) (fun h => kf h H locs ls h1 h2 h3)
theorem x_icmp_ne (B : x_B p s m args meth c cc nL Ts own) {x y : Int32} {off : Int} {tgt : Nat} (hdg : decode cc pc = .ok (.if_icmp .ne off, 3)) (ht : (pc : Int) + off = (tgt : Int)) (kt : ¬ x = y → x_J p l e R s m args below meth c cells slots Q A nL I lv st tgt) (kf : x = y → x_J p l e R s m args below meth c cells slots Q A nL I lv st (pc + 3)) : x_J p l e R s m args below meth c cells slots Q A nL I lv (.int y :: .int x :: st) pc :=
  fun H locs ls h1 h2 h3 => lv_icmp_ne B.1 B.2.1 hdg ht (fun h => kt h H locs ls h1 h2 h3) (fun h => kf h H locs ls h1 h2 h3)
theorem x_icmp_lt (B : x_B p s m args meth c cc nL Ts own) {x y : Int32} {off : Int} {tgt : Nat} (hdg : decode cc pc = .ok (.if_icmp .lt off, 3)) (ht : (pc : Int) + off = (tgt : Int)) (kt : x < y → x_J p l e R s m args below meth c cells slots Q A nL I lv st tgt) (kf : ¬ x < y → x_J p l e R s m args below meth c cells slots Q A nL I lv st (pc + 3)) : x_J p l e R s m args below meth c cells slots Q A nL I lv (.int y :: .int x :: st) pc :=
  fun H locs ls h1 h2 h3 => lv_icmp_lt B.1 B.2.1 hdg ht (fun h => kt h H locs ls h1 h2 h3) (fun h => kf h H locs ls h1 h2 h3)
theorem x_icmp_ge (B : x_B p s m args meth c cc nL Ts own) {x y : Int32} {off : Int} {tgt : Nat} (hdg : decode cc pc = .ok (.if_icmp .ge off, 3)) (ht : (pc : Int) + off = (tgt : Int)) (kt : y ≤ x → x_J p l e R s m args below meth c cells slots Q A nL I lv st tgt) (kf : ¬ y ≤ x → x_J p l e R s m args below meth c cells slots Q A nL I lv st (pc + 3)) : x_J p l e R s m args below meth c cells slots Q A nL I lv (.int y :: .int x :: st) pc :=
  fun H locs ls h1 h2 h3 => lv_icmp_ge B.1 B.2.1 hdg ht (fun h => kt h H locs ls h1 h2 h3) (fun h => kf h H locs ls h1 h2 h3)
theorem x_icmp_gt (B : x_B p s m args meth c cc nL Ts own) {x y : Int32} {off : Int} {tgt : Nat} (hdg : decode cc pc = .ok (.if_icmp .gt off, 3)) (ht : (pc : Int) + off = (tgt : Int)) (kt : y < x → x_J p l e R s m args below meth c cells slots Q A nL I lv st tgt) (kf : ¬ y < x → x_J p l e R s m args below meth c cells slots Q A nL I lv st (pc + 3)) : x_J p l e R s m args below meth c cells slots Q A nL I lv (.int y :: .int x :: st) pc :=
  fun H locs ls h1 h2 h3 => lv_icmp_gt B.1 B.2.1 hdg ht (fun h => kt h H locs ls h1 h2 h3) (fun h => kf h H locs ls h1 h2 h3)
theorem x_icmp_le (B : x_B p s m args meth c cc nL Ts own) {x y : Int32} {off : Int} {tgt : Nat} (hdg : decode cc pc = .ok (.if_icmp .le off, 3)) (ht : (pc : Int) + off = (tgt : Int)) (kt : x ≤ y → x_J p l e R s m args below meth c cells slots Q A nL I lv st tgt) (kf : ¬ x ≤ y → x_J p l e R s m args below meth c cells slots Q A nL I lv st (pc + 3)) : x_J p l e R s m args below meth c cells slots Q A nL I lv (.int y :: .int x :: st) pc :=
  fun H locs ls h1 h2 h3 => lv_icmp_le B.1 B.2.1 hdg ht (fun h => kt h H locs ls h1 h2 h3) (fun h => kf h H locs ls h1 h2 h3)
theorem x_goto (B : x_B p s m args meth c cc nL Ts own) {off : Int} {tgt : Nat} (hdg : decode cc pc = .ok (.goto off, 3)) (ht : (pc : Int) + off = (tgt : Int)) (k : x_J p l e R s m args below meth c cells slots Q A nL I lv st tgt) : x_J p l e R s m args below meth c cells slots Q A nL I lv st pc :=
  fun H locs ls h1 h2 h3 => lv_goto B.1 B.2.1 hdg ht (k H locs ls h1 h2 h3)
theorem x_lookup (B : x_B p s m args meth c cc nL Ts own) {dflt : Int} {ps : Array (Int × Int)} {len : Nat} {x : Int32} {off : Int} {tgt : Nat} (hdg : decode cc pc = .ok (.lookupswitch dflt ps, len)) (hp : (ps.toList.zip (ps.toList.drop 1)).all (fun (a, next) => a.1 < next.1) = true) (ho : Op.lookupswitch.offset ps.toList dflt x.toInt = off) (ht : (pc : Int) + off = (tgt : Int)) (k : x_J p l e R s m args below meth c cells slots Q A nL I lv st tgt) : x_J p l e R s m args below meth c cells slots Q A nL I lv (.int x :: st) pc :=
  fun H locs ls h1 h2 h3 => lv_lookup B.1 B.2.1 hdg hp ho ht (k H locs ls h1 h2 h3)
theorem x_tableOut (B : x_B p s m args meth c cc nL Ts own) {dflt lo hi : Int} {offs : Array Int} {len : Nat} {x : Int32} {tgt : Nat} (hdg : decode cc pc = .ok (.tableswitch dflt lo hi offs, len)) (h : x.toInt < lo ∨ hi < x.toInt) (ht : (pc : Int) + dflt = (tgt : Int)) (k : x_J p l e R s m args below meth c cells slots Q A nL I lv st tgt) : x_J p l e R s m args below meth c cells slots Q A nL I lv (.int x :: st) pc :=
  fun H locs ls h1 h2 h3 => lv_tableOut B.1 B.2.1 hdg h ht (k H locs ls h1 h2 h3)
theorem x_tableIn (B : x_B p s m args meth c cc nL Ts own) {dflt lo hi : Int} {offs : Array Int} {len : Nat} {x : Int32} {off : Int} {tgt : Nat} (hdg : decode cc pc = .ok (.tableswitch dflt lo hi offs, len)) (h1 : ¬ x.toInt < lo) (h2 : ¬ hi < x.toInt) (ho : offs[(x.toInt - lo).toNat]? = some off) (ht : (pc : Int) + off = (tgt : Int)) (k : x_J p l e R s m args below meth c cells slots Q A nL I lv st tgt) : x_J p l e R s m args below meth c cells slots Q A nL I lv (.int x :: st) pc :=
  fun H locs ls g1 g2 g3 => lv_tableIn B.1 B.2.1 hdg h1 h2 ho ht (k H locs ls g1 g2 g3)
theorem x_ldc (B : x_B p s m args meth c cc nL Ts own) {index : Nat} {v : Int32} (hconst : Jvm.Cond.constant own index v ∈ Ts) (hdg : decode cc pc = .ok (.ldc index, 2)) (k : x_J p l e R s m args below meth c cells slots Q A nL I lv (.int v :: st) (pc + 2)) : x_J p l e R s m args below meth c cells slots Q A nL I lv st pc :=
  fun H locs ls h1 h2 h3 => lv_ldc B.1 B.2.1 B.2.2.2.1 (B.2.2.2.2.1 _ hconst) hdg (k H locs ls h1 h2 h3)
theorem x_ldcw (B : x_B p s m args meth c cc nL Ts own) {index : Nat} {v : Int32} (hconst : Jvm.Cond.constant own index v ∈ Ts) (hdg : decode cc pc = .ok (.ldc_w index, 3)) (k : x_J p l e R s m args below meth c cells slots Q A nL I lv (.int v :: st) (pc + 3)) : x_J p l e R s m args below meth c cells slots Q A nL I lv st pc :=
  fun H locs ls h1 h2 h3 => lv_ldcw B.1 B.2.1 B.2.2.2.1 (B.2.2.2.2.1 _ hconst) hdg (k H locs ls h1 h2 h3)
theorem x_ldc2 (B : x_B p s m args meth c cc nL Ts own) {index : Nat} {v : Int64} (hconst : Jvm.Cond.constantLong own index v ∈ Ts) (hdg : decode cc pc = .ok (.ldc2_w index, 3)) (k : x_J p l e R s m args below meth c cells slots Q A nL I lv (.long v :: st) (pc + 3)) : x_J p l e R s m args below meth c cells slots Q A nL I lv st pc :=
  fun H locs ls h1 h2 h3 => lv_ldc2 B.1 B.2.1 B.2.2.2.1 (B.2.2.2.2.1 _ hconst) hdg (k H locs ls h1 h2 h3)
/-- a field is read -/
theorem x_get (B : x_B p s m args meth c cc nL Ts own) (G : x_G s D cl tys N ad A St) {Cn : String} {T : u_T} {n ci kc index : Nat} (hin : ∀ w ∈ u_ws Cn T n, w ∈ Ts) (hc : cl[ci]? = some (Cn, T, n)) (hk : kc < N) {fs : (Nat → Int32) → List Value} (hC : ∀ r, C r kc = .inr (ci, fs r)) (j : Nat) (hj : j < n) (hlink : Cond.fieldLink own index (T j).1 (T j).2.1 (T j).2.2.1 ∈ Ts) {v : Value} (hv : (fs (σ kc))[j]? = some v) (hdg : decode cc pc = .ok (.getfield index, 3))
    (k : x_J p l e R s m args below meth c cells slots Q A nL (x_I D cl N C ad σ) lv (v :: st) (pc + 3)) : x_J p l e R s m args below meth c cells slots Q A nL (x_I D cl N C ad σ) lv (.ref (ad kc) :: st) pc :=
  fun H locs ls h1 h2 h3 => va_get (D := D) (cl := cl) (ws := x_l N C ad σ) (ci := ci) (C := Cn) (T := T) (N := n) B.1 B.2.1 B.2.2.2.2.1 hin B.2.2.2.1 G.1 h1 kc (by rw [x_l_at C ad σ hk, hC]) hc j hj (B.2.2.2.2.1 _ hlink) (fun _ h9 => h9) hv hdg (k H locs ls h1 h2 h3)
/-- an int field is written -/
theorem x_put (B : x_B p s m args meth c cc nL Ts own) (G : x_G s D cl tys N ad A St) {Cn : String} {T : u_T} {n ci kc index : Nat} (hin : ∀ w ∈ u_ws Cn T n, w ∈ Ts) (ty0 : Nat → FieldType) (hty : ∀ k, k < n → parseFieldDescriptor (T k).2.2.1 = some (ty0 k)) (hnm : ∀ a, a < n → ∀ b, b < n → a ≠ b → (T a).2.1 ≠ (T b).2.1) (hc : cl[ci]? = some (Cn, T, n)) (hk : kc < N) {fs : (Nat → Int32) → List Value} (hC : ∀ r, C r kc = .inr (ci, fs r)) (j : Nat) (hj : j < n) (hlink : Cond.fieldLink own index (T j).1 (T j).2.1 (T j).2.2.1 ∈ Ts) (hfin : (T j).2.2.2 = false) {ty : FieldType} {v : Int32} (hd : ty0 j = ty) (hn : narrow ty (.int v) = .int v) (hfit : fits ty (.int v) = true) (hlen : j < (fs (σ kc)).length) (hset : (fs (σ kc)).set j (.int v) = fs (upd (σ kc) j v)) (hdg : decode cc pc = .ok (.putfield index, 3))
    (k : x_J p l e R s m args below meth c cells slots Q A nL (x_I D cl N C ad (x_u σ kc j v)) lv st (pc + 3)) : x_J p l e R s m args below meth c cells slots Q A nL (x_I D cl N C ad σ) lv (.int v :: .ref (ad kc) :: st) pc := by
  intro H locs ls h1 h2 h3
  refine va_put (D := D) (cl := cl) (ws := x_l N C ad σ) (ci := ci) (C := Cn) (T := T) (N := n) (A := A) B.1 B.2.1 B.2.2.2.2.1 hin ty0 hty hnm B.2.2.2.1 G.1 h1 (x_D G.2.1 G.2.2.1 σ) h2 kc (fs := fs (σ kc)) (by rw [x_l_at C ad σ hk, hC]) hc j hj (B.2.2.2.2.1 _ hlink) (fun _ h9 => h9) hfin (ty := ty) (by rw [hty j hj, hd]) hn hfit hlen hdg (fun H1 locs1 g1 _ g2 => ?_)
  rw [hset, ← hC, x_l_set C ad σ hk] at g1
  exact k H1 locs1 ls g1 g2 h3
/-- a place of an int array is read -/
theorem x_iald (B : x_B p s m args meth c cc nL Ts own) (G : x_G s D cl tys N ad A St) {kc n t0 : Nat} {cA : ClassId} (hk : kc < N) (hC : ∀ r, C r kc = .inl (cA, n, .inl r)) (ht : tys[t0]? = some (cA, .int)) {i : Int32} (hi : x_in i n) (hdg : decode cc pc = .ok (.iaload, 1)) (k : x_J p l e R s m args below meth c cells slots Q A nL (x_I D cl N C ad σ) lv (.int (σ kc i.toNatClampNeg) :: st) (pc + 1)) : x_J p l e R s m args below meth c cells slots Q A nL (x_I D cl N C ad σ) lv (.int i :: .ref (ad kc) :: st) pc :=
  fun H locs ls h1 h2 h3 => va_iald (D := D) (cl := cl) (ws := x_l N C ad σ) B.1 B.2.1 G.1 h1 kc t0 (f := σ kc) (by rw [x_l_at C ad σ hk, hC]) ht hi hdg (k H locs ls h1 h2 h3)
theorem x_zald (B : x_B p s m args meth c cc nL Ts own) (G : x_G s D cl tys N ad A St) {kc n t0 : Nat} {cA : ClassId} (hk : kc < N) (hC : ∀ r, C r kc = .inl (cA, n, .inl r)) (ht : tys[t0]? = some (cA, .boolean)) {i : Int32} (hi : x_in i n) (hdg : decode cc pc = .ok (.baload, 1)) (k : x_J p l e R s m args below meth c cells slots Q A nL (x_I D cl N C ad σ) lv (.int (σ kc i.toNatClampNeg) :: st) (pc + 1)) : x_J p l e R s m args below meth c cells slots Q A nL (x_I D cl N C ad σ) lv (.int i :: .ref (ad kc) :: st) pc :=
  fun H locs ls h1 h2 h3 => va_zald (D := D) (cl := cl) (ws := x_l N C ad σ) B.1 B.2.1 G.1 h1 kc t0 (f := σ kc) (by rw [x_l_at C ad σ hk, hC]) ht hi hdg (k H locs ls h1 h2 h3)
theorem x_iast (B : x_B p s m args meth c cc nL Ts own) (G : x_G s D cl tys N ad A St) {kc n t0 : Nat} {cA : ClassId} (hk : kc < N) (hC : ∀ r, C r kc = .inl (cA, n, .inl r)) (ht : tys[t0]? = some (cA, .int)) {i x : Int32} (hi : x_in i n) (hdg : decode cc pc = .ok (.iastore, 1)) (k : x_J p l e R s m args below meth c cells slots Q A nL (x_I D cl N C ad (x_u σ kc i.toNatClampNeg x)) lv st (pc + 1)) : x_J p l e R s m args below meth c cells slots Q A nL (x_I D cl N C ad σ) lv (.int x :: .int i :: .ref (ad kc) :: st) pc := by
  intro H locs ls h1 h2 h3
  refine va_iast (D := D) (cl := cl) (ws := x_l N C ad σ) (A := A) B.1 B.2.1 G.1 h1 (x_D G.2.1 G.2.2.1 σ) h2 kc t0 (f := σ kc) (by rw [x_l_at C ad σ hk, hC]) ht hi hdg (fun H1 locs1 g1 _ g2 => ?_)
  rw [← hC, x_l_set C ad σ hk] at g1
  exact k H1 locs1 ls g1 g2 h3
theorem x_zast (B : x_B p s m args meth c cc nL Ts own) (G : x_G s D cl tys N ad A St) {kc n t0 : Nat} {cA : ClassId} (hk : kc < N) (hC : ∀ r, C r kc = .inl (cA, n, .inl r)) (ht : tys[t0]? = some (cA, .boolean)) {i x : Int32} (hi : x_in i n) (hx : x &&& 1 = x) (hdg : decode cc pc = .ok (.bastore, 1)) (k : x_J p l e R s m args below meth c cells slots Q A nL (x_I D cl N C ad (x_u σ kc i.toNatClampNeg x)) lv st (pc + 1)) : x_J p l e R s m args below meth c cells slots Q A nL (x_I D cl N C ad σ) lv (.int x :: .int i :: .ref (ad kc) :: st) pc := by
  intro H locs ls h1 h2 h3
  refine va_zast (D := D) (cl := cl) (ws := x_l N C ad σ) (A := A) B.1 B.2.1 G.1 h1 (x_D G.2.1 G.2.2.1 σ) h2 kc t0 (f := σ kc) (by rw [x_l_at C ad σ hk, hC]) ht hi hdg (fun H1 locs1 g1 _ g2 => ?_)
  have hx2 : vp_nar .boolean x = x := hx
  rw [hx2, ← hC, x_l_set C ad σ hk] at g1
  exact k H1 locs1 ls g1 g2 h3
/-- a place of an array of references is read -/
theorem x_aald (B : x_B p s m args meth c cc nL Ts own) (G : x_G s D cl tys N ad A St) {kc n t0 : Nat} {cA : ClassId} {ty : FieldType} {f : Nat → Nat} (hk : kc < N) (hC : ∀ r, C r kc = .inl (cA, n, .inr (.inr (.inr (.inr (fun j => some (f j))))))) (ht : tys[t0]? = some (cA, ty)) (hty : ty.isReference = true) {i : Int32} (hi : x_in i n) (hdg : decode cc pc = .ok (.aaload, 1)) (k : x_J p l e R s m args below meth c cells slots Q A nL (x_I D cl N C ad σ) lv (.ref (f i.toNatClampNeg) :: st) (pc + 1)) : x_J p l e R s m args below meth c cells slots Q A nL (x_I D cl N C ad σ) lv (.int i :: .ref (ad kc) :: st) pc := by
  intro H locs ls h1 h2 h3
  have hlt : i.toNatClampNeg < n := Nat.not_le.mp fun q => hi (Or.inr q)
  have hP : va_P D cl (x_l N C ad σ) H := h1
  have ha : (x_l N C ad σ)[kc]? = some (ad kc, .inl (cA, n, .inr (.inr (.inr (.inr (fun j => some (f j))))))) := by rw [x_l_at C ad σ hk, hC]
  exact W.aald (v := va_rf (some (f i.toNatClampNeg))) (ty := ty) B.1 B.2.1 (hP kc _ ha) ((G.1.2 t0 _ ht).1 n (fun j => va_rf (some (f j)))) hty (fun q => by cases q) (by show ¬ (i < 0 ∨ (arrV _ _ _).slots.size ≤ _); rw [arrV_size]; exact hi) (by show (arrV _ _ _).slots[_]? = _; rw [arrV_read _ _ hlt]) rfl rfl hdg (k H locs ls h1 h2 h3)
theorem x_alen (B : x_B p s m args meth c cc nL Ts own) (G : x_G s D cl tys N ad A St) {kc t0 : Nat} {cA : ClassId} {x : (Nat → Int32) → vp_A} (hk : kc < N) (hC : ∀ r, C r kc = .inl (cA, x r)) {ty : FieldType} (ht : tys[t0]? = some (cA, ty)) {v : Int32} (hv : Int32.ofNat (x (σ kc)).1 = v) (hdg : decode cc pc = .ok (.arraylength, 1)) (k : x_J p l e R s m args below meth c cells slots Q A nL (x_I D cl N C ad σ) lv (.int v :: st) (pc + 1)) : x_J p l e R s m args below meth c cells slots Q A nL (x_I D cl N C ad σ) lv (.ref (ad kc) :: st) pc :=
  fun H locs ls h1 h2 h3 => va_alen (D := D) (cl := cl) (ws := x_l N C ad σ) B.1 B.2.1 G.1 h1 kc t0 (x := x (σ kc)) (by rw [x_l_at C ad σ hk, hC]) ht hv hdg (k H locs ls h1 h2 h3)
/-- ints are copied from row to row -/
theorem x_copy (B : x_B p s m args meth c cc nL Ts own) (G : x_G s D cl tys N ad A St) {index k0 k1 n0 n1 t0 : Nat} {cA : ClassId} (hlink : Cond.methodLink own index arraycopyName ∈ Ts) (hnat : Cond.native arraycopyName ∈ Ts) (hstat : Cond.static arraycopyName ∈ Ts) (hini : Cond.initialized "java/lang/System" ∈ Ts) (hk0 : k0 < N) (hk1 : k1 < N) (hC0 : ∀ r, C r k0 = .inl (cA, n0, .inl r)) (hC1 : ∀ r, C r k1 = .inl (cA, n1, .inl r)) (ht : tys[t0]? = some (cA, .int))
    {sp dp n : Int32} (hh : ¬ sp < 0 ∧ ¬ dp < 0 ∧ ¬ n < 0 ∧ sp.toNatClampNeg + n.toNatClampNeg ≤ n0 ∧ dp.toNatClampNeg + n.toNatClampNeg ≤ n1) (hR : 1 ≤ R.frames ∧ (st.map fun v => v.category).sum + (nativeFrameWords "java/lang/System" "arraycopy" 5 + 11) ≤ R.locals) (hdg : decode cc pc = .ok (.invokestatic index, 3))
    (k : x_J p l e R s m args below meth c cells slots Q A nL (x_I D cl N C ad (x_r σ k1 (va_cpy (σ k0) (σ k1) sp.toNatClampNeg dp.toNatClampNeg n.toNatClampNeg))) lv st (pc + 3)) : x_J p l e R s m args below meth c cells slots Q A nL (x_I D cl N C ad σ) lv (.int n :: .int dp :: .ref (ad k1) :: .int sp :: .ref (ad k0) :: st) pc := by
  intro H locs ls h1 h2 h3
  refine va_copyi (D := D) (cl := cl) (ws := x_l N C ad σ) (A := A) B.1 B.2.1 (by rw [B.2.2.1, h3.1]) B.2.2.2.1 (B.2.2.2.2.1 _ hlink) (B.2.2.2.2.1 _ hnat) (B.2.2.2.2.1 _ hstat) (B.2.2.2.2.1 _ hini) G.1 h1 (x_D G.2.1 G.2.2.1 σ) h2 k0 k1 t0 t0 (f := σ k0) (g := σ k1) (ty := .int) (by rw [x_l_at C ad σ hk0, hC0]) (by rw [x_l_at C ad σ hk1, hC1]) ht ht rfl hh.1 hh.2.1 hh.2.2.1 hh.2.2.2.1 hh.2.2.2.2 (fun i _ => rfl) hR.1 hR.2 hdg (fun H1 locs1 g1 _ g2 => ?_)
  rw [← hC1, x_l_set C ad σ hk1] at g1
  exact k H1 locs1 ls g1 g2 h3
theorem x_mmax (B : x_B p s m args meth c cc nL Ts own) {index : Nat} (hlink : Cond.methodLink own index Lib.Math.max.name ∈ Ts) (hstat : Cond.static Lib.Math.max.name ∈ Ts) (hini : Cond.initialized "java/lang/Math" ∈ Ts) (hcode : Cond.code Lib.Math.max.name Lib.Math.max.code 2 (some .int) ∈ Ts) (hR : 1 ≤ R.frames ∧ (st.map fun v => v.category).sum + 13 ≤ R.locals) (hcs : cells ≤ R.cells ∧ slots ≤ R.slots) {x y : Int32} (hdg : decode cc pc = .ok (.invokestatic index, 3)) (k : x_J p l e R s m args below meth c cells slots Q A nL I lv (.int (if x < y then y else x) :: st) (pc + 3)) : x_J p l e R s m args below meth c cells slots Q A nL I lv (.int y :: .int x :: st) pc :=
  fun H locs ls h1 h2 h3 => va_mmax B.1 B.2.1 (by rw [B.2.2.1, h3.1]) B.2.2.2.1 (B.2.2.2.2.1 _ hlink) (B.2.2.2.2.1 _ hstat) (B.2.2.2.2.1 _ hini) (B.2.2.2.2.1 _ hcode) hR.1 hR.2 hcs.1 hcs.2 hdg (k H locs ls h1 h2 h3)
theorem x_mmin (B : x_B p s m args meth c cc nL Ts own) {index : Nat} (hlink : Cond.methodLink own index Lib.Math.min.name ∈ Ts) (hstat : Cond.static Lib.Math.min.name ∈ Ts) (hini : Cond.initialized "java/lang/Math" ∈ Ts) (hcode : Cond.code Lib.Math.min.name Lib.Math.min.code 2 (some .int) ∈ Ts) (hR : 1 ≤ R.frames ∧ (st.map fun v => v.category).sum + 13 ≤ R.locals) (hcs : cells ≤ R.cells ∧ slots ≤ R.slots) {x y : Int32} (hdg : decode cc pc = .ok (.invokestatic index, 3)) (k : x_J p l e R s m args below meth c cells slots Q A nL I lv (.int (if y < x then y else x) :: st) (pc + 3)) : x_J p l e R s m args below meth c cells slots Q A nL I lv (.int y :: .int x :: st) pc :=
  fun H locs ls h1 h2 h3 => va_mmin B.1 B.2.1 (by rw [B.2.2.1, h3.1]) B.2.2.2.1 (B.2.2.2.2.1 _ hlink) (B.2.2.2.2.1 _ hstat) (B.2.2.2.2.1 _ hini) (B.2.2.2.2.1 _ hcode) hR.1 hR.2 hcs.1 hcs.2 hdg (k H locs ls h1 h2 h3)
/-- a static that holds a reference; a table is read -/
theorem x_gets (B : x_B p s m args meth c cc nL Ts own) {Cn nm d : String} {v : Value} {index : Nat} (hZ : va_Z Cn nm d v A s s.heap) (hlink : Cond.fieldLink own index Cn nm d ∈ Ts) (hdg : decode cc pc = .ok (.getstatic index, 3)) (k : x_J p l e R s m args below meth c cells slots Q A nL I lv (v :: st) (pc + 3)) : x_J p l e R s m args below meth c cells slots Q A nL I lv st pc :=
  fun H locs ls h1 h2 h3 => va_gets B.1 B.2.1 hZ h2 B.2.2.2.1 (B.2.2.2.2.1 _ hlink) (fun _ h9 => h9) hdg (k H locs ls h1 h2 h3)
theorem x_tald (B : x_B p s m args meth c cc nL Ts own) {t n : Nat} {f : Nat → Int32} (hT : va_T .int t n (fun j => .int (f j)) A s s.heap) {i : Int32} (hi : x_in i n) (hdg : decode cc pc = .ok (.iaload, 1)) (k : x_J p l e R s m args below meth c cells slots Q A nL I lv (.int (f i.toNatClampNeg) :: st) (pc + 1)) : x_J p l e R s m args below meth c cells slots Q A nL I lv (.int i :: .ref t :: st) pc :=
  fun H locs ls h1 h2 h3 => va_ti B.1 B.2.1 hT h2 hi rfl hdg (k H locs ls h1 h2 h3)
theorem x_talen (B : x_B p s m args meth c cc nL Ts own) {t n : Nat} {f : Nat → Value} {v : Int32} (hT : va_T .int t n f A s s.heap) (hv : Int32.ofNat n = v) (hdg : decode cc pc = .ok (.arraylength, 1)) (k : x_J p l e R s m args below meth c cells slots Q A nL I lv (.int v :: st) (pc + 1)) : x_J p l e R s m args below meth c cells slots Q A nL I lv (.ref t :: st) pc := by
  intro H locs ls h1 h2 h3
  obtain ⟨cell, g1, g2, g3, g4, g5, g6, g7⟩ := hT
  exact W.alen B.1 B.2.1 (a := t) (cell := cell) (ty := .int) (by rw [h2.2.1 t (Array.getElem?_eq_some_iff.mp g1).1 g7]; exact g1) g2 (g5.trans hv) rfl rfl hdg (k H locs ls h1 h2 h3)
end XJ
end
section
/-! ===== BEGIN words of one list among another's, by their places ===== -/
theorem goodIn_r {big : List Cond} (ws : List Cond) (ps : List Nat) (hp : ws = ps.filterMap (fun i => big[i]?)) (h : ws.all goodWord = true) : GoodIn big ws := by
  intro w hw
  have h1 := List.all_eq_true.mp h w hw
  rw [hp] at hw
  obtain ⟨i, -, hi⟩ := List.mem_filterMap.mp hw
  have hm : w ∈ big := by first | exact List.mem_of_getElem? hi | exact List.getElem?_mem hi
  exact ⟨hm, good_of_word h1⟩
theorem goodIn_app {big a b : List Cond} (ha : GoodIn big a) (hb : GoodIn big b) : GoodIn big (a ++ b) := fun w h => (List.mem_append.mp h).elim (ha w) (hb w)
theorem goodIn_ca {big a b : List Cond} {c : Cond} (ha : GoodIn big (c :: a)) (hb : GoodIn big b) : GoodIn big (c :: (a ++ b)) := fun w h => (List.mem_cons.mp h).elim (fun e => ha w (List.mem_cons.mpr (Or.inl e))) (fun h => (List.mem_append.mp h).elim (fun h => ha w (List.mem_cons.mpr (Or.inr h))) (hb w))
theorem goodIn_sub {big ws : List Cond} (hm : ∀ w ∈ ws, w ∈ big) (h : ws.all goodWord = true) : GoodIn big ws := fun w hw => ⟨hm w hw, good_of_word (List.all_eq_true.mp h w hw)⟩
/-! ===== END ===== -/

/-! ===== BEGIN printed: names, fields, word lists, decode rows ===== -/
def RX0 : String := "SignDuty$Acts"
def TX0 : u_T := fun k => match k with
  | 0 => ("SignDuty$Acts", "deeds", "[I", true)
  | 1 => ("SignDuty$Acts", "whats", "[I", true)
  | 2 => ("SignDuty$Acts", "values", "[I", true)
  | 3 => ("SignDuty$Acts", "nextSlot", "I", false)
  | _ => ("SignDuty$Acts", "kept", "I", false)
def tyX0 : Nat → FieldType := fun k => match k with
  | 0 => .array .int
  | 1 => .array .int
  | 2 => .array .int
  | 3 => .int
  | _ => .int
abbrev wsX00 : List Cond := u_ws RX0 TX0 5
theorem nmX0 : ∀ a, a < 5 → ∀ b, b < 5 → a ≠ b → (TX0 a).2.1 ≠ (TX0 b).2.1 := by decide +kernel
theorem tyX0_ok : ∀ k, k < 5 → parseFieldDescriptor (TX0 k).2.2.1 = some (tyX0 k) := by decide +kernel
abbrev cX0_init : ByteArray := prog_2_method_1_code
def yX0_init : MethodName := ⟨RX0, "<init>", "()V"⟩
abbrev cX0_forgetAll : ByteArray := prog_2_method_2_code
def yX0_forgetAll : MethodName := ⟨RX0, "forgetAll", "()V"⟩
abbrev cX0_keep : ByteArray := prog_2_method_3_code
def yX0_keep : MethodName := ⟨RX0, "keep", "(III)V"⟩
abbrev cX0_takeBack : ByteArray := prog_2_method_4_code
def yX0_takeBack : MethodName := ⟨RX0, "takeBack", "(LSignDuty$City;)V"⟩
def RX1 : String := "SignDuty$Asks"
def TX1 : u_T := fun k => match k with
  | 0 => ("SignDuty$Asks", "numbers", "[I", true)
  | _ => ("SignDuty$Asks", "left", "I", false)
def tyX1 : Nat → FieldType := fun k => match k with
  | 0 => .array .int
  | _ => .int
abbrev wsX10 : List Cond := u_ws RX1 TX1 2
theorem nmX1 : ∀ a, a < 2 → ∀ b, b < 2 → a ≠ b → (TX1 a).2.1 ≠ (TX1 b).2.1 := by decide +kernel
theorem tyX1_ok : ∀ k, k < 2 → parseFieldDescriptor (TX1 k).2.2.1 = some (tyX1 k) := by decide +kernel
abbrev cX1_init : ByteArray := prog_3_method_1_code
def yX1_init : MethodName := ⟨RX1, "<init>", "()V"⟩
abbrev cX1_answer : ByteArray := prog_3_method_2_code
def yX1_answer : MethodName := ⟨RX1, "answer", "(LSignDuty$City;II)I"⟩
abbrev cX1_numberLeft : ByteArray := prog_3_method_3_code
def yX1_numberLeft : MethodName := ⟨RX1, "numberLeft", "(I)I"⟩
abbrev cX1_asked : ByteArray := prog_3_method_4_code
def yX1_asked : MethodName := ⟨RX1, "asked", "(LSignDuty$City;III)I"⟩
abbrev cX1_bodyFor : ByteArray := prog_3_method_5_code
def yX1_bodyFor : MethodName := ⟨RX1, "bodyFor", "([II)I"⟩
abbrev cX1_given : ByteArray := prog_3_method_6_code
def yX1_given : MethodName := ⟨RX1, "given", "(ILSignDuty$City;II)I"⟩
abbrev cX1_sizeBy : ByteArray := prog_3_method_7_code
def yX1_sizeBy : MethodName := ⟨RX1, "sizeBy", "(ILSignDuty$City;II)I"⟩
abbrev cX1_markBy : ByteArray := prog_3_method_8_code
def yX1_markBy : MethodName := ⟨RX1, "markBy", "(ILSignDuty$City;II)I"⟩
abbrev cX1_leave : ByteArray := prog_3_method_9_code
def yX1_leave : MethodName := ⟨RX1, "leave", "(I)V"⟩
def RX2 : String := "SignDuty$City"
def TX2 : u_T := fun k => match k with
  | 0 => ("SignDuty$City", "stands", "Z", false)
  | 1 => ("SignDuty$City", "rate", "I", false)
  | 2 => ("SignDuty$City", "paid", "I", false)
  | 3 => ("SignDuty$City", "streets", "I", false)
  | 4 => ("SignDuty$City", "known", "I", false)
  | 5 => ("SignDuty$City", "gestures", "I", false)
  | 6 => ("SignDuty$City", "dim", "[I", true)
  | 7 => ("SignDuty$City", "strict", "[I", true)
  | 8 => ("SignDuty$City", "kind", "[I", true)
  | 9 => ("SignDuty$City", "inches", "[I", true)
  | 10 => ("SignDuty$City", "means", "[I", true)
  | 11 => ("SignDuty$City", "takes", "[I", true)
  | _ => ("SignDuty$City", "made", "[I", true)
def tyX2 : Nat → FieldType := fun k => match k with
  | 0 => .boolean
  | 1 => .int
  | 2 => .int
  | 3 => .int
  | 4 => .int
  | 5 => .int
  | 6 => .array .int
  | 7 => .array .int
  | 8 => .array .int
  | 9 => .array .int
  | 10 => .array .int
  | 11 => .array .int
  | _ => .array .int
abbrev wsX20 : List Cond := u_ws RX2 TX2 13
theorem nmX2 : ∀ a, a < 13 → ∀ b, b < 13 → a ≠ b → (TX2 a).2.1 ≠ (TX2 b).2.1 := by decide +kernel
theorem tyX2_ok : ∀ k, k < 13 → parseFieldDescriptor (TX2 k).2.2.1 = some (tyX2 k) := by decide +kernel
abbrev cX2_init : ByteArray := prog_4_method_1_code
def yX2_init : MethodName := ⟨RX2, "<init>", "()V"⟩
abbrev cX2_begin : ByteArray := prog_4_method_2_code
def yX2_begin : MethodName := ⟨RX2, "begin", "(I)V"⟩
abbrev cX2_become : ByteArray := prog_4_method_3_code
def yX2_become : MethodName := ⟨RX2, "become", "(LSignDuty$City;)V"⟩
abbrev cX2_isKnown : ByteArray := prog_4_method_4_code
def yX2_isKnown : MethodName := ⟨RX2, "isKnown", "(I)Z"⟩
abbrev cX2_turnKnown : ByteArray := prog_4_method_5_code
def yX2_turnKnown : MethodName := ⟨RX2, "turnKnown", "(I)V"⟩
abbrev cX2_owes : ByteArray := prog_4_method_6_code
def yX2_owes : MethodName := ⟨RX2, "owes", "(II)I"⟩
abbrev cX2_owesIfKnown : ByteArray := prog_4_method_7_code
def yX2_owesIfKnown : MethodName := ⟨RX2, "owesIfKnown", "(II)I"⟩
abbrev cX2_owesSuch : ByteArray := prog_4_method_8_code
def yX2_owesSuch : MethodName := ⟨RX2, "owesSuch", "(III)I"⟩
abbrev cX2_owesUnknown : ByteArray := prog_4_method_9_code
def yX2_owesUnknown : MethodName := ⟨RX2, "owesUnknown", "(III)I"⟩
abbrev cX2_isSeen : ByteArray := prog_4_method_10_code
def yX2_isSeen : MethodName := ⟨RX2, "isSeen", "(II)Z"⟩
abbrev cX2_tells : ByteArray := prog_4_method_11_code
def yX2_tells : MethodName := ⟨RX2, "tells", "(III)Z"⟩
abbrev cX2_streetsThatSee : ByteArray := prog_4_method_12_code
def yX2_streetsThatSee : MethodName := ⟨RX2, "streetsThatSee", "(I)I"⟩
abbrev cX2_gesturesSeenIn : ByteArray := prog_4_method_13_code
def yX2_gesturesSeenIn : MethodName := ⟨RX2, "gesturesSeenIn", "(I)I"⟩
abbrev cX2_streetsWithout : ByteArray := prog_4_method_14_code
def yX2_streetsWithout : MethodName := ⟨RX2, "streetsWithout", "(I)I"⟩
abbrev cX2_leastTime : ByteArray := prog_4_method_15_code
def yX2_leastTime : MethodName := ⟨RX2, "leastTime", "(II)I"⟩
abbrev cX2_dearestStreet : ByteArray := prog_4_method_16_code
def yX2_dearestStreet : MethodName := ⟨RX2, "dearestStreet", "(I)I"⟩
def RX3 : String := "SignDuty$Kinds"
def TX3 : u_T := fun k => match k with
  | _ => ("", "", "", false)
def tyX3 : Nat → FieldType := fun k => match k with
  | _ => .int
abbrev wsX30 : List Cond := u_ws RX3 TX3 0
theorem nmX3 : ∀ a, a < 0 → ∀ b, b < 0 → a ≠ b → (TX3 a).2.1 ≠ (TX3 b).2.1 := by decide +kernel
theorem tyX3_ok : ∀ k, k < 0 → parseFieldDescriptor (TX3 k).2.2.1 = some (tyX3 k) := by decide +kernel
abbrev cX3_widerThan : ByteArray := prog_5_method_2_code
def yX3_widerThan : MethodName := ⟨RX3, "widerThan", "(I)I"⟩
abbrev cX3_isOneOf : ByteArray := prog_5_method_3_code
def yX3_isOneOf : MethodName := ⟨RX3, "isOneOf", "(II)Z"⟩
abbrev cX3_ofLetter : ByteArray := prog_5_method_4_code
def yX3_ofLetter : MethodName := ⟨RX3, "ofLetter", "(I)I"⟩
def RX4 : String := "SignDuty$Reader"
def TX4 : u_T := fun k => match k with
  | 0 => ("SignDuty$Reader", "tape", "[I", true)
  | 1 => ("SignDuty$Reader", "length", "I", false)
  | 2 => ("SignDuty$Reader", "lastFault", "I", false)
  | 3 => ("SignDuty$Reader", "faultPlace", "I", false)
  | 4 => ("SignDuty$Reader", "fault", "I", false)
  | _ => ("SignDuty$Reader", "at", "I", false)
def tyX4 : Nat → FieldType := fun k => match k with
  | 0 => .array .int
  | 1 => .int
  | 2 => .int
  | 3 => .int
  | 4 => .int
  | _ => .int
abbrev wsX40 : List Cond := u_ws RX4 TX4 6
theorem nmX4 : ∀ a, a < 6 → ∀ b, b < 6 → a ≠ b → (TX4 a).2.1 ≠ (TX4 b).2.1 := by decide +kernel
theorem tyX4_ok : ∀ k, k < 6 → parseFieldDescriptor (TX4 k).2.2.1 = some (tyX4 k) := by decide +kernel
abbrev cX4_init : ByteArray := prog_6_method_1_code
def yX4_init : MethodName := ⟨RX4, "<init>", "()V"⟩
abbrev cX4_isFull : ByteArray := prog_6_method_2_code
def yX4_isFull : MethodName := ⟨RX4, "isFull", "()Z"⟩
abbrev cX4_append : ByteArray := prog_6_method_3_code
def yX4_append : MethodName := ⟨RX4, "append", "(I)I"⟩
abbrev cX4_reads : ByteArray := prog_6_method_4_code
def yX4_reads : MethodName := ⟨RX4, "reads", "(LSignDuty$City;)Z"⟩
abbrev cX4_readLaw : ByteArray := prog_6_method_5_code
def yX4_readLaw : MethodName := ⟨RX4, "readLaw", "(LSignDuty$City;)V"⟩
abbrev cX4_readStreet : ByteArray := prog_6_method_6_code
def yX4_readStreet : MethodName := ⟨RX4, "readStreet", "(LSignDuty$City;)V"⟩
abbrev cX4_readGesture : ByteArray := prog_6_method_7_code
def yX4_readGesture : MethodName := ⟨RX4, "readGesture", "(LSignDuty$City;)V"⟩
abbrev cX4_next : ByteArray := prog_6_method_8_code
def yX4_next : MethodName := ⟨RX4, "next", "()I"⟩
abbrev cX4_readSign : ByteArray := prog_6_method_9_code
def yX4_readSign : MethodName := ⟨RX4, "readSign", "(I)V"⟩
abbrev cX4_readNumber : ByteArray := prog_6_method_10_code
def yX4_readNumber : MethodName := ⟨RX4, "readNumber", "(II)I"⟩
abbrev cX4_fail : ByteArray := prog_6_method_11_code
def yX4_fail : MethodName := ⟨RX4, "fail", "(I)V"⟩
abbrev cX4_failAt : ByteArray := prog_6_method_12_code
def yX4_failAt : MethodName := ⟨RX4, "failAt", "(II)V"⟩
def RX5 : String := "SignDuty$Rows"
def TX5 : u_T := fun k => match k with
  | 0 => ("SignDuty$Rows", "items", "[[I", true)
  | 1 => ("SignDuty$Rows", "lengths", "[I", true)
  | _ => ("SignDuty$Rows", "lanes", "[I", true)
def tyX5 : Nat → FieldType := fun k => match k with
  | 0 => .array (.array .int)
  | 1 => .array .int
  | _ => .array .int
abbrev wsX50 : List Cond := u_ws RX5 TX5 3
theorem nmX5 : ∀ a, a < 3 → ∀ b, b < 3 → a ≠ b → (TX5 a).2.1 ≠ (TX5 b).2.1 := by decide +kernel
theorem tyX5_ok : ∀ k, k < 3 → parseFieldDescriptor (TX5 k).2.2.1 = some (tyX5 k) := by decide +kernel
abbrev cX5_init : ByteArray := prog_7_method_1_code
def yX5_init : MethodName := ⟨RX5, "<init>", "()V"⟩
abbrev cX5_isRow : ByteArray := prog_7_method_2_code
def yX5_isRow : MethodName := ⟨RX5, "isRow", "(I)Z"⟩
abbrev cX5_isMissing : ByteArray := prog_7_method_3_code
def yX5_isMissing : MethodName := ⟨RX5, "isMissing", "(I)Z"⟩
abbrev cX5_areAlike : ByteArray := prog_7_method_4_code
def yX5_areAlike : MethodName := ⟨RX5, "areAlike", "(II)Z"⟩
abbrev cX5_reaches : ByteArray := prog_7_method_5_code
def yX5_reaches : MethodName := ⟨RX5, "reaches", "(III)Z"⟩
abbrev cX5_findingOf : ByteArray := prog_7_method_6_code
def yX5_findingOf : MethodName := ⟨RX5, "findingOf", "(III)I"⟩
abbrev cX5_lay : ByteArray := prog_7_method_7_code
def yX5_lay : MethodName := ⟨RX5, "lay", "(III)V"⟩
abbrev cX5_put : ByteArray := prog_7_method_8_code
def yX5_put : MethodName := ⟨RX5, "put", "(III)I"⟩
abbrev cX5_at : ByteArray := prog_7_method_9_code
def yX5_at : MethodName := ⟨RX5, "at", "(II)I"⟩
abbrev cX5_carry : ByteArray := prog_7_method_10_code
def yX5_carry : MethodName := ⟨RX5, "carry", "(IIIII)V"⟩
abbrev cX5_takeAway : ByteArray := prog_7_method_11_code
def yX5_takeAway : MethodName := ⟨RX5, "takeAway", "(I)I"⟩
abbrev cX5_howMany : ByteArray := prog_7_method_12_code
def yX5_howMany : MethodName := ⟨RX5, "howMany", "()I"⟩
abbrev cX5_lowestBits : ByteArray := prog_7_method_13_code
def yX5_lowestBits : MethodName := ⟨RX5, "lowestBits", "(II)I"⟩
def RX6 : String := "SignDuty$Teller"
def TX6 : u_T := fun k => match k with
  | _ => ("SignDuty$Teller", "least", "[[I", true)
def tyX6 : Nat → FieldType := fun k => match k with
  | _ => .array (.array .int)
abbrev wsX60 : List Cond := u_ws RX6 TX6 1
theorem nmX6 : ∀ a, a < 1 → ∀ b, b < 1 → a ≠ b → (TX6 a).2.1 ≠ (TX6 b).2.1 := by decide +kernel
theorem tyX6_ok : ∀ k, k < 1 → parseFieldDescriptor (TX6 k).2.2.1 = some (tyX6 k) := by decide +kernel
abbrev cX6_init : ByteArray := prog_8_method_1_code
def yX6_init : MethodName := ⟨RX6, "<init>", "()V"⟩
abbrev cX6_leastDuty : ByteArray := prog_8_method_2_code
def yX6_leastDuty : MethodName := ⟨RX6, "leastDuty", "(LSignDuty$City;IIII)I"⟩
abbrev cX6_gestureOfCheapest : ByteArray := prog_8_method_3_code
def yX6_gestureOfCheapest : MethodName := ⟨RX6, "gestureOfCheapest", "(LSignDuty$City;IIIII)I"⟩
abbrev cX6_fill : ByteArray := prog_8_method_4_code
def yX6_fill : MethodName := ⟨RX6, "fill", "(LSignDuty$City;IIII)V"⟩
abbrev cX6_offer : ByteArray := prog_8_method_5_code
def yX6_offer : MethodName := ⟨RX6, "offer", "(IIII)V"⟩
abbrev cX6_firstOfCheapest : ByteArray := prog_8_method_6_code
def yX6_firstOfCheapest : MethodName := ⟨RX6, "firstOfCheapest", "(LSignDuty$City;III)I"⟩
def RX7 : String := "SignDuty"
def TX7 : u_T := fun k => match k with
  | 0 => ("SignDuty", "rows", "LSignDuty$Rows;", true)
  | 1 => ("SignDuty", "reader", "LSignDuty$Reader;", true)
  | 2 => ("SignDuty", "city", "LSignDuty$City;", true)
  | 3 => ("SignDuty", "draft", "LSignDuty$City;", true)
  | 4 => ("SignDuty", "images", "[LSignDuty$City;", true)
  | 5 => ("SignDuty", "acts", "LSignDuty$Acts;", true)
  | 6 => ("SignDuty", "teller", "LSignDuty$Teller;", true)
  | 7 => ("SignDuty", "asks", "LSignDuty$Asks;", true)
  | _ => ("SignDuty", "lastFinding", "I", false)
def tyX7 : Nat → FieldType := fun k => match k with
  | 0 => .object "SignDuty$Rows"
  | 1 => .object "SignDuty$Reader"
  | 2 => .object "SignDuty$City"
  | 3 => .object "SignDuty$City"
  | 4 => .array (.object "SignDuty$City")
  | 5 => .object "SignDuty$Acts"
  | 6 => .object "SignDuty$Teller"
  | 7 => .object "SignDuty$Asks"
  | _ => .int
abbrev wsX70 : List Cond := u_ws RX7 TX7 9
theorem nmX7 : ∀ a, a < 9 → ∀ b, b < 9 → a ≠ b → (TX7 a).2.1 ≠ (TX7 b).2.1 := by decide +kernel
theorem tyX7_ok : ∀ k, k < 9 → parseFieldDescriptor (TX7 k).2.2.1 = some (tyX7 k) := by decide +kernel
abbrev cX7_init : ByteArray := prog_1_method_1_code
def yX7_init : MethodName := ⟨RX7, "<init>", "()V"⟩
abbrev cX7_row : ByteArray := prog_1_method_2_code
def yX7_row : MethodName := ⟨RX7, "row", "(III)I"⟩
abbrev cX7_set : ByteArray := prog_1_method_3_code
def yX7_set : MethodName := ⟨RX7, "set", "(III)I"⟩
abbrev cX7_copy : ByteArray := prog_1_method_4_code
def yX7_copy : MethodName := ⟨RX7, "copy", "(IIIII)I"⟩
abbrev cX7_drop : ByteArray := prog_1_method_5_code
def yX7_drop : MethodName := ⟨RX7, "drop", "(I)I"⟩
abbrev cX7_feed : ByteArray := prog_1_method_6_code
def yX7_feed : MethodName := ⟨RX7, "feed", "(I)I"⟩
abbrev cX7_city : ByteArray := prog_1_method_7_code
def yX7_city : MethodName := ⟨RX7, "city", "()I"⟩
abbrev cX7_fault : ByteArray := prog_1_method_8_code
def yX7_fault : MethodName := ⟨RX7, "fault", "()I"⟩
abbrev cX7_make : ByteArray := prog_1_method_9_code
def yX7_make : MethodName := ⟨RX7, "make", "(II)I"⟩
abbrev cX7_dim : ByteArray := prog_1_method_10_code
def yX7_dim : MethodName := ⟨RX7, "dim", "(II)I"⟩
abbrev cX7_train : ByteArray := prog_1_method_11_code
def yX7_train : MethodName := ⟨RX7, "train", "(II)I"⟩
abbrev cX7_know : ByteArray := prog_1_method_12_code
def yX7_know : MethodName := ⟨RX7, "know", "(II)I"⟩
abbrev cX7_undo : ByteArray := prog_1_method_13_code
def yX7_undo : MethodName := ⟨RX7, "undo", "()I"⟩
abbrev cX7_gesture : ByteArray := prog_1_method_14_code
def yX7_gesture : MethodName := ⟨RX7, "gesture", "(II)I"⟩
abbrev cX7_street : ByteArray := prog_1_method_15_code
def yX7_street : MethodName := ⟨RX7, "street", "(II)I"⟩
abbrev cX7_duty : ByteArray := prog_1_method_16_code
def yX7_duty : MethodName := ⟨RX7, "duty", "(II)I"⟩
abbrev cX7_tell : ByteArray := prog_1_method_17_code
def yX7_tell : MethodName := ⟨RX7, "tell", "(IIIII)I"⟩
abbrev cX7_shut : ByteArray := prog_1_method_18_code
def yX7_shut : MethodName := ⟨RX7, "shut", "(I)I"⟩
abbrev cX7_quick : ByteArray := prog_1_method_19_code
def yX7_quick : MethodName := ⟨RX7, "quick", "(III)I"⟩
abbrev cX7_thread : ByteArray := prog_1_method_20_code
def yX7_thread : MethodName := ⟨RX7, "thread", "(III)I"⟩
abbrev cX7_inches : ByteArray := prog_1_method_21_code
def yX7_inches : MethodName := ⟨RX7, "inches", "(IIII)I"⟩
abbrev cX7_sorts : ByteArray := prog_1_method_22_code
def yX7_sorts : MethodName := ⟨RX7, "sorts", "(IIII)I"⟩
abbrev cX7_saved : ByteArray := prog_1_method_23_code
def yX7_saved : MethodName := ⟨RX7, "saved", "(I)I"⟩
abbrev cX7_worst : ByteArray := prog_1_method_24_code
def yX7_worst : MethodName := ⟨RX7, "worst", "(II)I"⟩
abbrev cX7_tremble : ByteArray := prog_1_method_25_code
def yX7_tremble : MethodName := ⟨RX7, "tremble", "(IIIIII)I"⟩
abbrev cX7_image : ByteArray := prog_1_method_26_code
def yX7_image : MethodName := ⟨RX7, "image", "(I)I"⟩
abbrev cX7_restore : ByteArray := prog_1_method_27_code
def yX7_restore : MethodName := ⟨RX7, "restore", "(I)I"⟩
abbrev cX7_kind : ByteArray := prog_1_method_28_code
def yX7_kind : MethodName := ⟨RX7, "kind", "(I)I"⟩
abbrev cX7_as : ByteArray := prog_1_method_29_code
def yX7_as : MethodName := ⟨RX7, "as", "(II)I"⟩
abbrev cX7_ask : ByteArray := prog_1_method_30_code
def yX7_ask : MethodName := ⟨RX7, "ask", "(II)I"⟩
abbrev cX7_trace : ByteArray := prog_1_method_31_code
def yX7_trace : MethodName := ⟨RX7, "trace", "(I)I"⟩
abbrev cX7_count : ByteArray := prog_1_method_32_code
def yX7_count : MethodName := ⟨RX7, "count", "(I)I"⟩
abbrev cX7_status : ByteArray := prog_1_method_33_code
def yX7_status : MethodName := ⟨RX7, "status", "()I"⟩
abbrev cX7_isWithin : ByteArray := prog_1_method_34_code
def yX7_isWithin : MethodName := ⟨RX7, "isWithin", "(III)Z"⟩
abbrev cX7_isMeaning : ByteArray := prog_1_method_35_code
def yX7_isMeaning : MethodName := ⟨RX7, "isMeaning", "(I)Z"⟩
abbrev cX7_isGesture : ByteArray := prog_1_method_36_code
def yX7_isGesture : MethodName := ⟨RX7, "isGesture", "(I)Z"⟩
abbrev cX7_isStreet : ByteArray := prog_1_method_37_code
def yX7_isStreet : MethodName := ⟨RX7, "isStreet", "(I)Z"⟩
abbrev cX7_isStretch : ByteArray := prog_1_method_38_code
def yX7_isStretch : MethodName := ⟨RX7, "isStretch", "(II)Z"⟩
abbrev cX7_found : ByteArray := prog_1_method_39_code
def yX7_found : MethodName := ⟨RX7, "found", "(I)I"⟩
abbrev cX7_foundNothing : ByteArray := prog_1_method_40_code
def yX7_foundNothing : MethodName := ⟨RX7, "foundNothing", "(I)I"⟩
abbrev cX7_refusalOfThread : ByteArray := prog_1_method_41_code
def yX7_refusalOfThread : MethodName := ⟨RX7, "refusalOfThread", "(III)I"⟩
abbrev cX7_owesAlong : ByteArray := prog_1_method_42_code
def yX7_owesAlong : MethodName := ⟨RX7, "owesAlong", "(IIIII)Z"⟩
abbrev cX7_isSeenAlong : ByteArray := prog_1_method_43_code
def yX7_isSeenAlong : MethodName := ⟨RX7, "isSeenAlong", "(IIII)Z"⟩
abbrev cX7_tenthsWithin : ByteArray := prog_1_method_44_code
def yX7_tenthsWithin : MethodName := ⟨RX7, "tenthsWithin", "(LSignDuty$City;IIIII)I"⟩
abbrev cX7_commonDivisor : ByteArray := prog_1_method_45_code
def yX7_commonDivisor : MethodName := ⟨RX7, "commonDivisor", "(II)I"⟩
def RX8 : String := "SignDutyModel"
def TX8 : u_T := fun k => match k with
  | 0 => ("SignDutyModel", "row", "[I", true)
  | 1 => ("SignDutyModel", "isCity", "Z", false)
  | 2 => ("SignDutyModel", "undos", "I", false)
  | 3 => ("SignDutyModel", "isKept", "[Z", true)
  | 4 => ("SignDutyModel", "lanes", "[I", true)
  | 5 => ("SignDutyModel", "sizes", "[I", true)
  | 6 => ("SignDutyModel", "items", "[I", true)
  | 7 => ("SignDutyModel", "tape", "[I", true)
  | 8 => ("SignDutyModel", "length", "I", false)
  | 9 => ("SignDutyModel", "fault", "I", false)
  | 10 => ("SignDutyModel", "status", "I", false)
  | 11 => ("SignDutyModel", "trace", "[I", true)
  | 12 => ("SignDutyModel", "traced", "I", false)
  | 13 => ("SignDutyModel", "at", "I", false)
  | 14 => ("SignDutyModel", "wrong", "I", false)
  | 15 => ("SignDutyModel", "number", "I", false)
  | _ => ("SignDutyModel", "costs", "[I", true)
def tyX8 : Nat → FieldType := fun k => match k with
  | 0 => .array .int
  | 1 => .boolean
  | 2 => .int
  | 3 => .array .boolean
  | 4 => .array .int
  | 5 => .array .int
  | 6 => .array .int
  | 7 => .array .int
  | 8 => .int
  | 9 => .int
  | 10 => .int
  | 11 => .array .int
  | 12 => .int
  | 13 => .int
  | 14 => .int
  | 15 => .int
  | _ => .array .int
abbrev wsX80 : List Cond := u_ws RX8 TX8 17
theorem nmX8 : ∀ a, a < 17 → ∀ b, b < 17 → a ≠ b → (TX8 a).2.1 ≠ (TX8 b).2.1 := by decide +kernel
theorem tyX8_ok : ∀ k, k < 17 → parseFieldDescriptor (TX8 k).2.2.1 = some (tyX8 k) := by decide +kernel
abbrev cX8_init : ByteArray := prog_10_method_1_code
def yX8_init : MethodName := ⟨RX8, "<init>", "()V"⟩
abbrev cX8_in : ByteArray := prog_10_method_2_code
def yX8_in : MethodName := ⟨RX8, "in", "(JJJ)Z"⟩
abbrev cX8_has : ByteArray := prog_10_method_3_code
def yX8_has : MethodName := ⟨RX8, "has", "(II)Z"⟩
abbrev cX8_bits : ByteArray := prog_10_method_4_code
def yX8_bits : MethodName := ⟨RX8, "bits", "(I)I"⟩
abbrev cX8_find : ByteArray := prog_10_method_5_code
def yX8_find : MethodName := ⟨RX8, "find", "(I)I"⟩
abbrev cX8_well : ByteArray := prog_10_method_6_code
def yX8_well : MethodName := ⟨RX8, "well", "(I)I"⟩
abbrev cX8_isRow : ByteArray := prog_10_method_7_code
def yX8_isRow : MethodName := ⟨RX8, "isRow", "(I)Z"⟩
abbrev cX8_row : ByteArray := prog_10_method_8_code
def yX8_row : MethodName := ⟨RX8, "row", "(III)I"⟩
abbrev cX8_narrow : ByteArray := prog_10_method_9_code
def yX8_narrow : MethodName := ⟨RX8, "narrow", "(II)I"⟩
abbrev cX8_set : ByteArray := prog_10_method_10_code
def yX8_set : MethodName := ⟨RX8, "set", "(III)I"⟩
abbrev cX8_isSpan : ByteArray := prog_10_method_11_code
def yX8_isSpan : MethodName := ⟨RX8, "isSpan", "(III)Z"⟩
abbrev cX8_copy : ByteArray := prog_10_method_12_code
def yX8_copy : MethodName := ⟨RX8, "copy", "(IIIII)I"⟩
abbrev cX8_drop : ByteArray := prog_10_method_13_code
def yX8_drop : MethodName := ⟨RX8, "drop", "(I)I"⟩
abbrev cX8_feed : ByteArray := prog_10_method_14_code
def yX8_feed : MethodName := ⟨RX8, "feed", "(I)I"⟩
abbrev cX8_isLetter : ByteArray := prog_10_method_15_code
def yX8_isLetter : MethodName := ⟨RX8, "isLetter", "(I)Z"⟩
abbrev cX8_isFigure : ByteArray := prog_10_method_16_code
def yX8_isFigure : MethodName := ⟨RX8, "isFigure", "(I)Z"⟩
abbrev cX8_refuse : ByteArray := prog_10_method_17_code
def yX8_refuse : MethodName := ⟨RX8, "refuse", "(I)Z"⟩
abbrev cX8_sign : ByteArray := prog_10_method_18_code
def yX8_sign : MethodName := ⟨RX8, "sign", "(I)Z"⟩
abbrev cX8_readsNumber : ByteArray := prog_10_method_19_code
def yX8_readsNumber : MethodName := ⟨RX8, "readsNumber", "(II)Z"⟩
abbrev cX8_readsLaw : ByteArray := prog_10_method_20_code
def yX8_readsLaw : MethodName := ⟨RX8, "readsLaw", "()Z"⟩
abbrev cX8_readsStreet : ByteArray := prog_10_method_21_code
def yX8_readsStreet : MethodName := ⟨RX8, "readsStreet", "()Z"⟩
abbrev cX8_kindOfLetter : ByteArray := prog_10_method_22_code
def yX8_kindOfLetter : MethodName := ⟨RX8, "kindOfLetter", "(I)I"⟩
abbrev cX8_readsGesture : ByteArray := prog_10_method_23_code
def yX8_readsGesture : MethodName := ⟨RX8, "readsGesture", "()Z"⟩
abbrev cX8_reads : ByteArray := prog_10_method_24_code
def yX8_reads : MethodName := ⟨RX8, "reads", "()Z"⟩
abbrev cX8_city : ByteArray := prog_10_method_25_code
def yX8_city : MethodName := ⟨RX8, "city", "()I"⟩
abbrev cX8_fault : ByteArray := prog_10_method_26_code
def yX8_fault : MethodName := ⟨RX8, "fault", "()I"⟩
abbrev cX8_copyTown : ByteArray := prog_10_method_27_code
def yX8_copyTown : MethodName := ⟨RX8, "copyTown", "(II)V"⟩
abbrev cX8_keepPast : ByteArray := prog_10_method_28_code
def yX8_keepPast : MethodName := ⟨RX8, "keepPast", "()V"⟩
abbrev cX8_undo : ByteArray := prog_10_method_29_code
def yX8_undo : MethodName := ⟨RX8, "undo", "()I"⟩
abbrev cX8_isGesture : ByteArray := prog_10_method_30_code
def yX8_isGesture : MethodName := ⟨RX8, "isGesture", "(I)Z"⟩
abbrev cX8_isStreet : ByteArray := prog_10_method_31_code
def yX8_isStreet : MethodName := ⟨RX8, "isStreet", "(I)Z"⟩
abbrev cX8_wave : ByteArray := prog_10_method_32_code
def yX8_wave : MethodName := ⟨RX8, "wave", "(II)I"⟩
abbrev cX8_plainDuty : ByteArray := prog_10_method_33_code
def yX8_plainDuty : MethodName := ⟨RX8, "plainDuty", "(III)I"⟩
abbrev cX8_owes : ByteArray := prog_10_method_34_code
def yX8_owes : MethodName := ⟨RX8, "owes", "(III)I"⟩
abbrev cX8_dutyOf : ByteArray := prog_10_method_35_code
def yX8_dutyOf : MethodName := ⟨RX8, "dutyOf", "(II)I"⟩
abbrev cX8_isSeen : ByteArray := prog_10_method_36_code
def yX8_isSeen : MethodName := ⟨RX8, "isSeen", "(II)Z"⟩
abbrev cX8_make : ByteArray := prog_10_method_37_code
def yX8_make : MethodName := ⟨RX8, "make", "(II)I"⟩
abbrev cX8_dim : ByteArray := prog_10_method_38_code
def yX8_dim : MethodName := ⟨RX8, "dim", "(II)I"⟩
abbrev cX8_train : ByteArray := prog_10_method_39_code
def yX8_train : MethodName := ⟨RX8, "train", "(II)I"⟩
abbrev cX8_know : ByteArray := prog_10_method_40_code
def yX8_know : MethodName := ⟨RX8, "know", "(II)I"⟩
abbrev cX8_seenStreets : ByteArray := prog_10_method_41_code
def yX8_seenStreets : MethodName := ⟨RX8, "seenStreets", "(I)I"⟩
abbrev cX8_seenGestures : ByteArray := prog_10_method_42_code
def yX8_seenGestures : MethodName := ⟨RX8, "seenGestures", "(I)I"⟩
abbrev cX8_gesture : ByteArray := prog_10_method_43_code
def yX8_gesture : MethodName := ⟨RX8, "gesture", "(II)I"⟩
abbrev cX8_street : ByteArray := prog_10_method_44_code
def yX8_street : MethodName := ⟨RX8, "street", "(II)I"⟩
abbrev cX8_duty : ByteArray := prog_10_method_45_code
def yX8_duty : MethodName := ⟨RX8, "duty", "(II)I"⟩
abbrev cX8_tells : ByteArray := prog_10_method_46_code
def yX8_tells : MethodName := ⟨RX8, "tells", "(III)Z"⟩
abbrev cX8_onBy : ByteArray := prog_10_method_47_code
def yX8_onBy : MethodName := ⟨RX8, "onBy", "(IIII)I"⟩
abbrev cX8_layCosts : ByteArray := prog_10_method_48_code
def yX8_layCosts : MethodName := ⟨RX8, "layCosts", "(III)V"⟩
abbrev cX8_isMeans : ByteArray := prog_10_method_49_code
def yX8_isMeans : MethodName := ⟨RX8, "isMeans", "(I)Z"⟩
abbrev cX8_areStreets : ByteArray := prog_10_method_50_code
def yX8_areStreets : MethodName := ⟨RX8, "areStreets", "(II)Z"⟩
abbrev cX8_tell : ByteArray := prog_10_method_51_code
def yX8_tell : MethodName := ⟨RX8, "tell", "(IIIII)I"⟩
abbrev cX8_soonest : ByteArray := prog_10_method_52_code
def yX8_soonest : MethodName := ⟨RX8, "soonest", "(II)I"⟩
abbrev cX8_shut : ByteArray := prog_10_method_53_code
def yX8_shut : MethodName := ⟨RX8, "shut", "(I)I"⟩
abbrev cX8_quick : ByteArray := prog_10_method_54_code
def yX8_quick : MethodName := ⟨RX8, "quick", "(III)I"⟩
abbrev cX8_noPairs : ByteArray := prog_10_method_55_code
def yX8_noPairs : MethodName := ⟨RX8, "noPairs", "(III)I"⟩
abbrev cX8_owesSo : ByteArray := prog_10_method_56_code
def yX8_owesSo : MethodName := ⟨RX8, "owesSo", "(IIIII)Z"⟩
abbrev cX8_isSeenSo : ByteArray := prog_10_method_57_code
def yX8_isSeenSo : MethodName := ⟨RX8, "isSeenSo", "(IIII)Z"⟩
abbrev cX8_thread : ByteArray := prog_10_method_58_code
def yX8_thread : MethodName := ⟨RX8, "thread", "(III)I"⟩
abbrev cX8_inches : ByteArray := prog_10_method_59_code
def yX8_inches : MethodName := ⟨RX8, "inches", "(IIII)I"⟩
abbrev cX8_sorts : ByteArray := prog_10_method_60_code
def yX8_sorts : MethodName := ⟨RX8, "sorts", "(IIII)I"⟩
abbrev cX8_saved : ByteArray := prog_10_method_61_code
def yX8_saved : MethodName := ⟨RX8, "saved", "(I)I"⟩
abbrev cX8_worst : ByteArray := prog_10_method_62_code
def yX8_worst : MethodName := ⟨RX8, "worst", "(II)I"⟩
abbrev cX8_tremble : ByteArray := prog_10_method_63_code
def yX8_tremble : MethodName := ⟨RX8, "tremble", "(IIIIII)I"⟩
abbrev cX8_image : ByteArray := prog_10_method_64_code
def yX8_image : MethodName := ⟨RX8, "image", "(I)I"⟩
abbrev cX8_restore : ByteArray := prog_10_method_65_code
def yX8_restore : MethodName := ⟨RX8, "restore", "(I)I"⟩
abbrev cX8_kind : ByteArray := prog_10_method_66_code
def yX8_kind : MethodName := ⟨RX8, "kind", "(I)I"⟩
abbrev cX8_isOf : ByteArray := prog_10_method_67_code
def yX8_isOf : MethodName := ⟨RX8, "isOf", "(II)Z"⟩
abbrev cX8_as : ByteArray := prog_10_method_68_code
def yX8_as : MethodName := ⟨RX8, "as", "(II)I"⟩
abbrev cX8_begin : ByteArray := prog_10_method_69_code
def yX8_begin : MethodName := ⟨RX8, "begin", "(I)V"⟩
abbrev cX8_lentSize : ByteArray := prog_10_method_70_code
def yX8_lentSize : MethodName := ⟨RX8, "lentSize", "(I)I"⟩
abbrev cX8_wavesSize : ByteArray := prog_10_method_71_code
def yX8_wavesSize : MethodName := ⟨RX8, "wavesSize", "(I)I"⟩
abbrev cX8_winksSize : ByteArray := prog_10_method_72_code
def yX8_winksSize : MethodName := ⟨RX8, "winksSize", "(I)I"⟩
abbrev cX8_sizeOf : ByteArray := prog_10_method_73_code
def yX8_sizeOf : MethodName := ⟨RX8, "sizeOf", "(I)I"⟩
abbrev cX8_lentMark : ByteArray := prog_10_method_74_code
def yX8_lentMark : MethodName := ⟨RX8, "lentMark", "(I)I"⟩
abbrev cX8_wavesMark : ByteArray := prog_10_method_75_code
def yX8_wavesMark : MethodName := ⟨RX8, "wavesMark", "(I)I"⟩
abbrev cX8_mark : ByteArray := prog_10_method_76_code
def yX8_mark : MethodName := ⟨RX8, "mark", "(I)I"⟩
abbrev cX8_winksMark : ByteArray := prog_10_method_77_code
def yX8_winksMark : MethodName := ⟨RX8, "winksMark", "(I)I"⟩
abbrev cX8_ask : ByteArray := prog_10_method_78_code
def yX8_ask : MethodName := ⟨RX8, "ask", "(II)I"⟩
abbrev cX8_trace : ByteArray := prog_10_method_79_code
def yX8_trace : MethodName := ⟨RX8, "trace", "(I)I"⟩
abbrev cX8_count : ByteArray := prog_10_method_80_code
def yX8_count : MethodName := ⟨RX8, "count", "(I)I"⟩
abbrev cX8_status : ByteArray := prog_10_method_81_code
def yX8_status : MethodName := ⟨RX8, "status", "()I"⟩
def RJ6 : String := "java/lang/Integer"
def TJ6 : u_T := fun k => match k with
  | _ => ("", "", "", false)
def tyJ6 : Nat → FieldType := fun k => match k with
  | _ => .int
abbrev wsJ60 : List Cond := u_ws RJ6 TJ6 0
theorem nmJ6 : ∀ a, a < 0 → ∀ b, b < 0 → a ≠ b → (TJ6 a).2.1 ≠ (TJ6 b).2.1 := by decide +kernel
theorem tyJ6_ok : ∀ k, k < 0 → parseFieldDescriptor (TJ6 k).2.2.1 = some (tyJ6 k) := by decide +kernel
abbrev cJ6_bitCount_0f7a4 : ByteArray := prog_11_method_49_code
def yJ6_bitCount_0f7a4 : MethodName := ⟨RJ6, "bitCount", "(I)I"⟩
def RJ9 : String := "java/lang/Math"
def TJ9 : u_T := fun k => match k with
  | _ => ("", "", "", false)
def tyJ9 : Nat → FieldType := fun k => match k with
  | _ => .int
abbrev wsJ90 : List Cond := u_ws RJ9 TJ9 0
theorem nmJ9 : ∀ a, a < 0 → ∀ b, b < 0 → a ≠ b → (TJ9 a).2.1 ≠ (TJ9 b).2.1 := by decide +kernel
theorem tyJ9_ok : ∀ k, k < 0 → parseFieldDescriptor (TJ9 k).2.2.1 = some (tyJ9 k) := by decide +kernel
abbrev cJ9_max_7cf53 : ByteArray := prog_12_method_65_code
def yJ9_max_7cf53 : MethodName := ⟨RJ9, "max", "(II)I"⟩
abbrev cJ9_min_7cf53 : ByteArray := prog_12_method_69_code
def yJ9_min_7cf53 : MethodName := ⟨RJ9, "min", "(II)I"⟩
def RJ10 : String := "java/lang/System"
def TJ10 : u_T := fun k => match k with
  | _ => ("", "", "", false)
def tyJ10 : Nat → FieldType := fun k => match k with
  | _ => .int
abbrev wsJ100 : List Cond := u_ws RJ10 TJ10 0
theorem nmJ10 : ∀ a, a < 0 → ∀ b, b < 0 → a ≠ b → (TJ10 a).2.1 ≠ (TJ10 b).2.1 := by decide +kernel
theorem tyJ10_ok : ∀ k, k < 0 → parseFieldDescriptor (TJ10 k).2.2.1 = some (tyJ10 k) := by decide +kernel
def RL : String := "SignDutyLaw"
abbrev cL_law : ByteArray := code
def yL_law : MethodName := ⟨RL, "law", "([I)Z"⟩
abbrev vwCl : List vw_C := [(RX0, TX0, 5), (RX1, TX1, 2), (RX2, TX2, 13), (RX4, TX4, 6), (RX5, TX5, 3), (RX6, TX6, 1), (RX7, TX7, 9), (RX8, TX8, 17)]
end
section
/-- a state by a name -/
def x_w {β : Type} (u : x_S) (k : x_S → Option β) : Option β := k u
theorem x_ws {β : Type} {u : x_S} {k : x_S → Option β} {y : β} (h : x_w u k = some y) : ∃ w, w = u ∧ k w = some y := ⟨u, rfl, h⟩
/-! ===== words that change with what is warm: nest mates' private methods ===== -/
abbrev x_Nt : Type := State → Prop
def x_NwOk (NW : x_Nt) : Prop := (∀ u U : State, u.WarmedH U.vm → NW u → NW U) ∧ (∀ u U : State, u.vm = U.vm → NW u → NW U)
def x_H (s : State) (D : va_G) (cl : List vw_C) (tys : List (ClassId × FieldType)) (N : Nat) (ad : Nat → Nat) (A : Nat → Prop) (St : x_St) (NW : x_Nt) : Prop := x_G s D cl tys N ad A St ∧ x_NwOk NW ∧ NW s
def x_Pr2 (D : va_G) (cl : List vw_C) (tys : List (ClassId × FieldType)) (N : Nat) (C : x_C) (ad : Nat → Nat) (St : x_St) (NW : x_Nt) (σ : x_S) : State → Prop := fun U => x_Pre D cl tys N C ad St σ U ∧ NW U
abbrev x_NI (l : Launch) (y : MethodName) (ws : List Cond) (n : Nat) (D : va_G) (cl : List vw_C) (tys : List (ClassId × FieldType)) (N : Nat) (C : x_C) (ad : Nat → Nat) (St : x_St) (NW : x_Nt) (vs : List Value) (σ : x_S) (r0 : Int32) (σ0 : x_S) : Prop := Met l y ws (x_rm n) (va_Pc vs (x_Pr2 D cl tys N C ad St NW σ)) (x_Qi D cl N C ad r0 σ0) 0 0 (x_A N ad)
abbrev x_NV (l : Launch) (y : MethodName) (ws : List Cond) (n : Nat) (D : va_G) (cl : List vw_C) (tys : List (ClassId × FieldType)) (N : Nat) (C : x_C) (ad : Nat → Nat) (St : x_St) (NW : x_Nt) (vs : List Value) (σ : x_S) (σ0 : x_S) : Prop := Met l y ws (x_rm n) (va_Pc vs (x_Pr2 D cl tys N C ad St NW σ)) (x_Qv D cl N C ad σ0) 0 0 (x_A N ad)
theorem x_blind2 (vs : List Value) {D : va_G} {cl : List vw_C} {tys : List (ClassId × FieldType)} {N : Nat} {C : x_C} {ad : Nat → Nat} {St : x_St} {NW : x_Nt} (hSt : x_StOk St) (hN : x_NwOk NW) (σ : x_S) : FrameBlind (va_Pc vs (x_Pr2 D cl tys N C ad St NW σ)) := by
  intro a U g mk q
  obtain ⟨q0, ⟨qP, qK, qS⟩, qN⟩ := q
  exact ⟨q0, ⟨qP, va_K.moved (u := U) (U := U.calling g mk a) (Vm.Alike.refl U.vm) qK, hSt.1 _ U (U.calling g mk a) _ (Vm.Alike.refl U.vm) qS⟩, hN.2 U (U.calling g mk a) rfl qN⟩
/-! ===== calls and returns over the flat world ===== -/
section XC
variable {p : Program} {l : Launch} {e : Env} {R : Room} {s : State} {m : MethodId} {args : Array Value} {below : List Frame} {meth : Method} {c : Code} {cells slots : Nat} {Q : State → Prop}
variable {cc : ByteArray} {nL : Nat} {Ts : List Cond} {own : String} {A : Nat → Prop} {I : Heap → Prop} {lv lv' : List (Nat × Value)} {st st0 : List Value} {pc : Nat}
variable {D : va_G} {cl : List vw_C} {tys : List (ClassId × FieldType)} {N : Nat} {C : x_C} {ad : Nat → Nat} {St : x_St} {NW : x_Nt} {σ σ0 : x_S} {r0 : Int32}
theorem x_start (G : x_H s D cl tys N ad A St NW) {H : Heap} {locs : List Loc} (h1 : x_I D cl N C ad σ H) (h2 : va_S A s.heap H locs) {U : State} (hU : U.heap = H) (hW : s.WarmedH U.vm) : x_Pr2 D cl tys N C ad St NW σ U := by
  obtain ⟨⟨hK, -, hA, hSt, hst⟩, hN1, hN2⟩ := G
  refine ⟨⟨by rw [hU]; exact h1, va_K.moved hW.alike hK, ?_⟩, hN1.1 s U hW hN2⟩
  rw [hU]
  refine hSt.1 _ s U H hW.alike (hSt.2.2 A _ s H (fun q h => ?_) (hSt.2.1 A s s.heap H h2.2.1 hst))
  obtain ⟨k, hk, rfl⟩ := h
  exact hA k hk
theorem x_callV (B : x_B p s m args meth c cc nL Ts own) (G : x_H s D cl tys N ad A St NW) {y : MethodName} {ws : List Cond} {bytes : ByteArray} {maxL n index na kc ci nf : Nat} {ret : Option FieldType} {Cn : String} {T : u_T} {As : List Value} {fs : (Nat → Int32) → List Value}
    (hM : x_NI l y ws n D cl tys N C ad St NW (.ref (ad kc) :: As) σ r0 σ0) (cw : CallW R s args own Cn index y bytes maxL ret ws (x_rm n) 0 0 na) (hk : kc < N) (hC : ∀ r, C r kc = .inr (ci, fs r)) (hc : cl[ci]? = some (Cn, T, nf)) (hs : st0 = As.reverse ++ .ref (ad kc) :: st) (hn : As.length = na) (hst : (st.map fun v => v.category).sum ≤ 8) (hcs : cells ≤ R.cells ∧ slots ≤ R.slots) (hdg : decode cc pc = .ok (.invokevirtual index, 3))
    (k : x_J p l e R s m args below meth c cells slots Q A nL (x_I D cl N C ad σ0) lv (.int r0 :: st) (pc + 3)) : x_J p l e R s m args below meth c cells slots Q A nL (x_I D cl N C ad σ) lv st0 pc := by
  intro H locs ls h1 h2 h3
  subst hs
  have hsub : ∀ q, x_A N ad q → A q := fun q ⟨k, hk, e⟩ => by rw [e]; exact G.1.2.2.1 k hk
  refine va_calli (A0 := A) (va_runV (As := As) (rest := st) ⟨B.1, B.2.1, B.2.2.1, B.2.2.2.1, B.2.2.2.2.1⟩ hM cw ⟨x_blind2 _ G.1.2.2.2.1 G.2.1 σ, va_recv G.1.1 h1 hc (q0 := kc) (fs := fs (σ kc)) (by rw [x_l_at C ad σ hk, hC]), fun U hU hW => ⟨rfl, x_start G h1 h2 hU hW⟩⟩ rfl hn h3.1 rfl (lv_room hst) hdg hcs) h2 (fun q _ h => hsub q h) hsub (fun r u t H1 locs1 ht hvm hw hB _ _ hS => ?_)
  obtain ⟨rfl, rfl⟩ := hw
  have hB1 : x_I D cl N C ad u t.heap := hB
  rw [ht] at hB1
  exact k H1 locs1 ls hB1 hS h3
theorem x_callVv (B : x_B p s m args meth c cc nL Ts own) (G : x_H s D cl tys N ad A St NW) {y : MethodName} {ws : List Cond} {bytes : ByteArray} {maxL n index na kc ci nf : Nat} {ret : Option FieldType} {Cn : String} {T : u_T} {As : List Value} {fs : (Nat → Int32) → List Value}
    (hM : x_NV l y ws n D cl tys N C ad St NW (.ref (ad kc) :: As) σ σ0) (cw : CallW R s args own Cn index y bytes maxL ret ws (x_rm n) 0 0 na) (hk : kc < N) (hC : ∀ r, C r kc = .inr (ci, fs r)) (hc : cl[ci]? = some (Cn, T, nf)) (hs : st0 = As.reverse ++ .ref (ad kc) :: st) (hn : As.length = na) (hst : (st.map fun v => v.category).sum ≤ 8) (hcs : cells ≤ R.cells ∧ slots ≤ R.slots) (hdg : decode cc pc = .ok (.invokevirtual index, 3))
    (k : x_J p l e R s m args below meth c cells slots Q A nL (x_I D cl N C ad σ0) lv st (pc + 3)) : x_J p l e R s m args below meth c cells slots Q A nL (x_I D cl N C ad σ) lv st0 pc := by
  intro H locs ls h1 h2 h3
  subst hs
  have hsub : ∀ q, x_A N ad q → A q := fun q ⟨k, hk, e⟩ => by rw [e]; exact G.1.2.2.1 k hk
  refine va_callv (A0 := A) (va_runV (As := As) (rest := st) ⟨B.1, B.2.1, B.2.2.1, B.2.2.2.1, B.2.2.2.2.1⟩ hM cw ⟨x_blind2 _ G.1.2.2.2.1 G.2.1 σ, va_recv G.1.1 h1 hc (q0 := kc) (fs := fs (σ kc)) (by rw [x_l_at C ad σ hk, hC]), fun U hU hW => ⟨rfl, x_start G h1 h2 hU hW⟩⟩ rfl hn h3.1 rfl (lv_room hst) hdg hcs) h2 (fun q _ h => hsub q h) hsub (fun u t H1 locs1 ht hvm hw hB _ _ hS => ?_)
  have hB1 : x_I D cl N C ad u t.heap := hB
  rw [ht, show u = σ0 from hw] at hB1
  exact k H1 locs1 ls hB1 hS h3
theorem x_callS (B : x_B p s m args meth c cc nL Ts own) (G : x_H s D cl tys N ad A St NW) {y : MethodName} {ws : List Cond} {bytes : ByteArray} {maxL n index na : Nat} {ret : Option FieldType} {As : List Value}
    (hM : x_NI l y ws n D cl tys N C ad St NW As σ r0 σ0) (cw : CallB R s args own index y bytes maxL ret ws (x_rm n) 0 0 na ∧ (Cond.static y).before args s = true) (hs : st0 = As.reverse ++ st) (hn : As.length = na) (hst : (st.map fun v => v.category).sum ≤ 8) (hcs : cells ≤ R.cells ∧ slots ≤ R.slots) (hdg : decode cc pc = .ok (.invokestatic index, 3))
    (k : x_J p l e R s m args below meth c cells slots Q A nL (x_I D cl N C ad σ0) lv (.int r0 :: st) (pc + 3)) : x_J p l e R s m args below meth c cells slots Q A nL (x_I D cl N C ad σ) lv st0 pc := by
  intro H locs ls h1 h2 h3
  subst hs
  have hsub : ∀ q, x_A N ad q → A q := fun q ⟨k, hk, e⟩ => by rw [e]; exact G.1.2.2.1 k hk
  refine va_calli (A0 := A) (va_runS (As := As) (rest := st) ⟨B.1, B.2.1, B.2.2.1, B.2.2.2.1, B.2.2.2.2.1⟩ hM cw ⟨x_blind2 _ G.1.2.2.2.1 G.2.1 σ, fun U hU hW => ⟨rfl, x_start G h1 h2 hU hW⟩⟩ rfl hn h3.1 rfl (lv_room hst) hdg hcs) h2 (fun q _ h => hsub q h) hsub (fun r u t H1 locs1 ht hvm hw hB _ _ hS => ?_)
  obtain ⟨rfl, rfl⟩ := hw
  have hB1 : x_I D cl N C ad u t.heap := hB
  rw [ht] at hB1
  exact k H1 locs1 ls hB1 hS h3
theorem x_callSN (B : x_B p s m args meth c cc nL Ts own) (G : x_H s D cl tys N ad A St NW) {y : MethodName} {ws : List Cond} {host : String} {bytes : ByteArray} {maxL n index na : Nat} {ret : Option FieldType} {As : List Value}
    (hM : x_NI l y ws n D cl tys N C ad St NW As σ r0 σ0) (cw : va_CN R s args own index y host bytes maxL ret ws (x_rm n) 0 0 na ∧ (Cond.static y).before args s = true ∧ True) (hs : st0 = As.reverse ++ st) (hn : As.length = na) (hst : (st.map fun v => v.category).sum ≤ 8) (hcs : cells ≤ R.cells ∧ slots ≤ R.slots) (hdg : decode cc pc = .ok (.invokestatic index, 3))
    (k : x_J p l e R s m args below meth c cells slots Q A nL (x_I D cl N C ad σ0) lv (.int r0 :: st) (pc + 3)) : x_J p l e R s m args below meth c cells slots Q A nL (x_I D cl N C ad σ) lv st0 pc := by
  intro H locs ls h1 h2 h3
  subst hs
  have hsub : ∀ q, x_A N ad q → A q := fun q ⟨k, hk, e⟩ => by rw [e]; exact G.1.2.2.1 k hk
  refine va_calli (A0 := A) (va_runSN (As := As) (rest := st) ⟨B.1, B.2.1, B.2.2.1, B.2.2.2.1, B.2.2.2.2.1⟩ hM cw ⟨x_blind2 _ G.1.2.2.2.1 G.2.1 σ, fun U hU hW => ⟨rfl, x_start G h1 h2 hU hW⟩⟩ rfl hn h3.1 rfl (lv_room hst) hdg hcs) h2 (fun q _ h => hsub q h) hsub (fun r u t H1 locs1 ht hvm hw hB _ _ hS => ?_)
  obtain ⟨rfl, rfl⟩ := hw
  have hB1 : x_I D cl N C ad u t.heap := hB
  rw [ht] at hB1
  exact k H1 locs1 ls hB1 hS h3
theorem x_nm {σ1 σ2 : x_S} (e1 : σ1 = σ2) (k : x_J p l e R s m args below meth c cells slots Q A nL (x_I D cl N C ad σ1) lv st pc) : x_J p l e R s m args below meth c cells slots Q A nL (x_I D cl N C ad σ2) lv st pc := e1 ▸ k
/-- ends -/
theorem x_iret (B : x_B p s m args meth c cc nL Ts own) (hr : meth.sig.returnType = some .int) (hdg : decode cc pc = .ok (.ireturn, 1)) : x_J p l e R s m args below meth c cells slots (MQ below (x_Qi D cl N C ad r0 σ0) args s cells slots (x_A N ad)) (x_A N ad) nL (x_I D cl N C ad σ0) lv [.int r0] pc :=
  fun H locs ls h1 h2 h3 => W.iret (v := r0) B.1 B.2.1 hr (fun t ht hW => ⟨⟨r0, σ0, rfl, ⟨rfl, rfl⟩, (show x_I D cl N C ad σ0 t.heap by rw [ht]; exact h1)⟩, h2.F ht⟩) h2.2.2 hdg (hlocks := B.2.2.2.2.2)
theorem x_zret (B : x_B p s m args meth c cc nL Ts own) (hr : meth.sig.returnType = some .boolean) (hz : r0 &&& 1 = r0) (hdg : decode cc pc = .ok (.ireturn, 1)) : x_J p l e R s m args below meth c cells slots (MQ below (x_Qi D cl N C ad r0 σ0) args s cells slots (x_A N ad)) (x_A N ad) nL (x_I D cl N C ad σ0) lv [.int r0] pc :=
  fun H locs ls h1 h2 h3 => W.zret (v := r0) (ty := .boolean) B.1 B.2.1 hr (show Value.int (r0 &&& 1) = .int r0 by rw [hz]) (fun t ht hW => ⟨⟨r0, σ0, rfl, ⟨rfl, rfl⟩, (show x_I D cl N C ad σ0 t.heap by rw [ht]; exact h1)⟩, h2.F ht⟩) h2.2.2 hdg (hlocks := B.2.2.2.2.2)
theorem x_vret (B : x_B p s m args meth c cc nL Ts own) (hr : meth.sig.returnType = none) (hdg : decode cc pc = .ok (.return_, 1)) : x_J p l e R s m args below meth c cells slots (MQ below (x_Qv D cl N C ad σ0) args s cells slots (x_A N ad)) (x_A N ad) nL (x_I D cl N C ad σ0) lv [] pc :=
  fun H locs ls h1 h2 h3 => W.vret B.1 B.2.1 hr (fun t ht hW => ⟨⟨σ0, rfl, rfl, (show x_I D cl N C ad σ0 t.heap by rw [ht]; exact h1)⟩, h2.F ht⟩) h2.2.2 hdg (hlocks := B.2.2.2.2.2)
/-- a method out of its body -/
theorem x_met {y : MethodName} {ws ws' : List Cond} {maxL n : Nat} {ret : Option FieldType} {vs : List Value} {Qc : Array Value → State → Outcome → State → Prop} (hy : plainName y.cls = true) (hw : ws = Cond.code y cc maxL ret :: ws') (ho : y.cls = own) (hlen : (lg_sl vs).length ≤ maxL) (hdis : x_dis N ad) (hSt : x_StOk St) (hN : x_NwOk NW)
    (body : ∀ (p : Program) (e : Env) (s : State) (m : MethodId) (args : Array Value) (below : List Frame) (meth : Method) (c : Code), x_B p s m args meth c cc maxL ws own → x_H s D cl tys N ad (x_A N ad) St NW → meth.sig.returnType = ret → x_J p l e (x_rm n) s m args below meth c 0 0 (MQ below Qc args s 0 0 (x_A N ad)) (x_A N ad) maxL (x_I D cl N C ad σ) (lv_args 0 vs) [] 0) : Met l y ws (x_rm n) (va_Pc vs (x_Pr2 D cl tys N C ad St NW σ)) Qc 0 0 (x_A N ad) := by
  refine Met.ofW hy hw ?_
  intro p e s m args below meth c s₁ Bd hml hv
  obtain ⟨rfl, ⟨hP, hK, hS⟩, hn⟩ := hv
  have hown : s.vm.findClass y.cls = some m.cls := findClass_of_methodNamed Bd.named
  rw [ho] at hown
  have hl := lv_entry vs (n := maxL) hlen
  rw [lg_entry_eq]
  exact body p e s m _ below meth c ⟨Bd.exec, Bd.bytes, hml, hown, atoms_spec (ws := ws) Bd.pre, Bd.notSynchronized⟩ ⟨⟨hK, hdis, x_A_in, hSt, hS⟩, hN, hn⟩ Bd.returns s.heap [] _ hP va_S.rf hl
end XC
end
section
/-! ===== THE SYSTEM'S CELLS =====
0 SignDuty; 1 Rows, 2 its items (8 rows 3 .. 10), 11 lengths, 12 lanes; 13 Reader, 14 tape; 15 images; 16 Acts, 17 .. 19 deeds, whats, values; 20 Teller, 21 least (8 rows 22 .. 29); 30 Asks, 31 numbers; 32 city, 40 draft, 48 and 56 the images: a City and its 7 arrays -/
abbrev s_N : Nat := 64
abbrev s_tys (cI cQ cC cZ : ClassId) : List (ClassId × FieldType) := [(cI, .int), (cQ, .array .int), (cC, .object "SignDuty$City"), (cZ, .boolean)]
def s_F7 (ad : Nat → Nat) (r : Nat → Int32) : List Value := [.ref (ad 1), .ref (ad 13), .ref (ad 32), .ref (ad 40), .ref (ad 15), .ref (ad 16), .ref (ad 20), .ref (ad 30), .int (r 8)]
def s_F5 (ad : Nat → Nat) (r : Nat → Int32) : List Value := [.ref (ad 2), .ref (ad 11), .ref (ad 12)]
def s_F4 (ad : Nat → Nat) (r : Nat → Int32) : List Value := [.ref (ad 14), .int (r 1), .int (r 2), .int (r 3), .int (r 4), .int (r 5)]
def s_F0 (ad : Nat → Nat) (r : Nat → Int32) : List Value := [.ref (ad 17), .ref (ad 18), .ref (ad 19), .int (r 3), .int (r 4)]
def s_F6 (ad : Nat → Nat) (r : Nat → Int32) : List Value := [.ref (ad 21)]
def s_F1 (ad : Nat → Nat) (r : Nat → Int32) : List Value := [.ref (ad 31), .int (r 1)]
def s_F2 (ad : Nat → Nat) (k : Nat) (r : Nat → Int32) : List Value := [.int (r 0), .int (r 1), .int (r 2), .int (r 3), .int (r 4), .int (r 5), .ref (ad (k + 1)), .ref (ad (k + 2)), .ref (ad (k + 3)), .ref (ad (k + 4)), .ref (ad (k + 5)), .ref (ad (k + 6)), .ref (ad (k + 7))]
def s_q (cA : ClassId) (n : Nat) (f : Nat → Nat) : va_E := .inl (cA, n, .inr (.inr (.inr (.inr (fun j => some (f j))))))
def s_C (cI cQ cC : ClassId) (ad : Nat → Nat) : x_C := fun r k =>
  if k < 32 then
    (if k = 0 then .inr (6, s_F7 ad r) else if k = 1 then .inr (4, s_F5 ad r) else if k = 2 then s_q cQ 8 (fun j => ad (3 + j)) else if k < 11 then .inl (cI, 40, .inl r) else if k < 13 then .inl (cI, 8, .inl r)
    else if k = 13 then .inr (3, s_F4 ad r) else if k = 14 then .inl (cI, 120, .inl r) else if k = 15 then s_q cC 2 (fun j => ad (48 + 8 * j)) else if k = 16 then .inr (0, s_F0 ad r) else if k < 20 then .inl (cI, 24, .inl r)
    else if k = 20 then .inr (5, s_F6 ad r) else if k = 21 then s_q cQ 8 (fun j => ad (22 + j)) else if k < 30 then .inl (cI, 100, .inl r) else if k = 30 then .inr (1, s_F1 ad r) else .inl (cI, 16, .inl r))
  else if k % 8 = 0 then .inr (2, s_F2 ad k r) else if k % 8 < 3 then .inl (cI, 7, .inl r) else .inl (cI, 6, .inl r)
def s_iC (c : Nat) : Prop := c = 32 ∨ c = 40 ∨ c = 48 ∨ c = 56
theorem s_iC32 : s_iC 32 := Or.inl rfl
theorem s_iC40 : s_iC 40 := Or.inr (Or.inl rfl)
theorem s_iCim {i : Int32} (h : x_in i 2) : s_iC (48 + 8 * i.toNatClampNeg) := by
  have hlt : i.toNatClampNeg < 2 := Nat.not_le.mp fun q => h (Or.inr q)
  unfold s_iC
  omega
section SC
variable {cI cQ cC : ClassId} {ad : Nat → Nat}
theorem s_c0 : ∀ r, s_C cI cQ cC ad r 0 = .inr (6, s_F7 ad r) := fun _ => rfl
theorem s_c1 : ∀ r, s_C cI cQ cC ad r 1 = .inr (4, s_F5 ad r) := fun _ => rfl
theorem s_c2 : ∀ r, s_C cI cQ cC ad r 2 = s_q cQ 8 (fun j => ad (3 + j)) := fun _ => rfl
theorem s_c11 : ∀ r, s_C cI cQ cC ad r 11 = .inl (cI, 8, .inl r) := fun _ => rfl
theorem s_c12 : ∀ r, s_C cI cQ cC ad r 12 = .inl (cI, 8, .inl r) := fun _ => rfl
theorem s_c13 : ∀ r, s_C cI cQ cC ad r 13 = .inr (3, s_F4 ad r) := fun _ => rfl
theorem s_c14 : ∀ r, s_C cI cQ cC ad r 14 = .inl (cI, 120, .inl r) := fun _ => rfl
theorem s_c15 : ∀ r, s_C cI cQ cC ad r 15 = s_q cC 2 (fun j => ad (48 + 8 * j)) := fun _ => rfl
theorem s_c16 : ∀ r, s_C cI cQ cC ad r 16 = .inr (0, s_F0 ad r) := fun _ => rfl
theorem s_c17 : ∀ r, s_C cI cQ cC ad r 17 = .inl (cI, 24, .inl r) := fun _ => rfl
theorem s_c18 : ∀ r, s_C cI cQ cC ad r 18 = .inl (cI, 24, .inl r) := fun _ => rfl
theorem s_c19 : ∀ r, s_C cI cQ cC ad r 19 = .inl (cI, 24, .inl r) := fun _ => rfl
theorem s_c20 : ∀ r, s_C cI cQ cC ad r 20 = .inr (5, s_F6 ad r) := fun _ => rfl
theorem s_c21 : ∀ r, s_C cI cQ cC ad r 21 = s_q cQ 8 (fun j => ad (22 + j)) := fun _ => rfl
theorem s_c30 : ∀ r, s_C cI cQ cC ad r 30 = .inr (1, s_F1 ad r) := fun _ => rfl
theorem s_c31 : ∀ r, s_C cI cQ cC ad r 31 = .inl (cI, 16, .inl r) := fun _ => rfl
theorem s_lt8 {i : Int32} (h : x_in i 8) : i.toNatClampNeg < 8 := Nat.not_le.mp fun q => h (Or.inr q)
theorem s_kI {i : Int32} (h : x_in i 8) : 3 + i.toNatClampNeg < s_N := by have := s_lt8 h; show _ < 64; omega
theorem s_kL {i : Int32} (h : x_in i 8) : 22 + i.toNatClampNeg < s_N := by have := s_lt8 h; show _ < 64; omega
theorem s_cI {i : Int32} (h : x_in i 8) : ∀ r, s_C cI cQ cC ad r (3 + i.toNatClampNeg) = .inl (cI, 40, .inl r) := by
  have := s_lt8 h
  generalize i.toNatClampNeg = j at this ⊢
  rcases (show j = 0 ∨ j = 1 ∨ j = 2 ∨ j = 3 ∨ j = 4 ∨ j = 5 ∨ j = 6 ∨ j = 7 by omega) with rfl | rfl | rfl | rfl | rfl | rfl | rfl | rfl <;> exact fun _ => rfl
theorem s_cL {i : Int32} (h : x_in i 8) : ∀ r, s_C cI cQ cC ad r (22 + i.toNatClampNeg) = .inl (cI, 100, .inl r) := by
  have := s_lt8 h
  generalize i.toNatClampNeg = j at this ⊢
  rcases (show j = 0 ∨ j = 1 ∨ j = 2 ∨ j = 3 ∨ j = 4 ∨ j = 5 ∨ j = 6 ∨ j = 7 by omega) with rfl | rfl | rfl | rfl | rfl | rfl | rfl | rfl <;> exact fun _ => rfl
theorem s_kC {c : Nat} (h : s_iC c) : c < s_N := by show _ < 64; unfold s_iC at h; omega
theorem s_cC {c : Nat} (h : s_iC c) : ∀ r, s_C cI cQ cC ad r c = .inr (2, s_F2 ad c r) := by rcases h with rfl | rfl | rfl | rfl <;> exact fun _ => rfl
theorem s_kC1 {c : Nat} (h : s_iC c) : c + 1 < s_N := by show _ < 64; unfold s_iC at h; omega
theorem s_cC1 {c : Nat} (h : s_iC c) : ∀ r, s_C cI cQ cC ad r (c + 1) = .inl (cI, 7, .inl r) := by rcases h with rfl | rfl | rfl | rfl <;> exact fun _ => rfl
theorem s_kC2 {c : Nat} (h : s_iC c) : c + 2 < s_N := by show _ < 64; unfold s_iC at h; omega
theorem s_cC2 {c : Nat} (h : s_iC c) : ∀ r, s_C cI cQ cC ad r (c + 2) = .inl (cI, 7, .inl r) := by rcases h with rfl | rfl | rfl | rfl <;> exact fun _ => rfl
theorem s_kC3 {c : Nat} (h : s_iC c) : c + 3 < s_N := by show _ < 64; unfold s_iC at h; omega
theorem s_cC3 {c : Nat} (h : s_iC c) : ∀ r, s_C cI cQ cC ad r (c + 3) = .inl (cI, 6, .inl r) := by rcases h with rfl | rfl | rfl | rfl <;> exact fun _ => rfl
theorem s_kC4 {c : Nat} (h : s_iC c) : c + 4 < s_N := by show _ < 64; unfold s_iC at h; omega
theorem s_cC4 {c : Nat} (h : s_iC c) : ∀ r, s_C cI cQ cC ad r (c + 4) = .inl (cI, 6, .inl r) := by rcases h with rfl | rfl | rfl | rfl <;> exact fun _ => rfl
theorem s_kC5 {c : Nat} (h : s_iC c) : c + 5 < s_N := by show _ < 64; unfold s_iC at h; omega
theorem s_cC5 {c : Nat} (h : s_iC c) : ∀ r, s_C cI cQ cC ad r (c + 5) = .inl (cI, 6, .inl r) := by rcases h with rfl | rfl | rfl | rfl <;> exact fun _ => rfl
theorem s_kC6 {c : Nat} (h : s_iC c) : c + 6 < s_N := by show _ < 64; unfold s_iC at h; omega
theorem s_cC6 {c : Nat} (h : s_iC c) : ∀ r, s_C cI cQ cC ad r (c + 6) = .inl (cI, 6, .inl r) := by rcases h with rfl | rfl | rfl | rfl <;> exact fun _ => rfl
theorem s_kC7 {c : Nat} (h : s_iC c) : c + 7 < s_N := by show _ < 64; unfold s_iC at h; omega
theorem s_cC7 {c : Nat} (h : s_iC c) : ∀ r, s_C cI cQ cC ad r (c + 7) = .inl (cI, 6, .inl r) := by rcases h with rfl | rfl | rfl | rfl <;> exact fun _ => rfl
theorem s_w7_8 (r : Nat → Int32) (v : Int32) : (s_F7 ad r).set 8 (.int v) = s_F7 ad (upd r 8 v) := rfl
theorem s_w4_1 (r : Nat → Int32) (v : Int32) : (s_F4 ad r).set 1 (.int v) = s_F4 ad (upd r 1 v) := rfl
theorem s_w4_2 (r : Nat → Int32) (v : Int32) : (s_F4 ad r).set 2 (.int v) = s_F4 ad (upd r 2 v) := rfl
theorem s_w4_3 (r : Nat → Int32) (v : Int32) : (s_F4 ad r).set 3 (.int v) = s_F4 ad (upd r 3 v) := rfl
theorem s_w4_4 (r : Nat → Int32) (v : Int32) : (s_F4 ad r).set 4 (.int v) = s_F4 ad (upd r 4 v) := rfl
theorem s_w4_5 (r : Nat → Int32) (v : Int32) : (s_F4 ad r).set 5 (.int v) = s_F4 ad (upd r 5 v) := rfl
theorem s_w0_3 (r : Nat → Int32) (v : Int32) : (s_F0 ad r).set 3 (.int v) = s_F0 ad (upd r 3 v) := rfl
theorem s_w0_4 (r : Nat → Int32) (v : Int32) : (s_F0 ad r).set 4 (.int v) = s_F0 ad (upd r 4 v) := rfl
theorem s_w1_1 (r : Nat → Int32) (v : Int32) : (s_F1 ad r).set 1 (.int v) = s_F1 ad (upd r 1 v) := rfl
theorem s_w2_0 {k : Nat} (r : Nat → Int32) (v : Int32) : (s_F2 ad k r).set 0 (.int v) = s_F2 ad k (upd r 0 v) := rfl
theorem s_w2_1 {k : Nat} (r : Nat → Int32) (v : Int32) : (s_F2 ad k r).set 1 (.int v) = s_F2 ad k (upd r 1 v) := rfl
theorem s_w2_2 {k : Nat} (r : Nat → Int32) (v : Int32) : (s_F2 ad k r).set 2 (.int v) = s_F2 ad k (upd r 2 v) := rfl
theorem s_w2_3 {k : Nat} (r : Nat → Int32) (v : Int32) : (s_F2 ad k r).set 3 (.int v) = s_F2 ad k (upd r 3 v) := rfl
theorem s_w2_4 {k : Nat} (r : Nat → Int32) (v : Int32) : (s_F2 ad k r).set 4 (.int v) = s_F2 ad k (upd r 4 v) := rfl
theorem s_w2_5 {k : Nat} (r : Nat → Int32) (v : Int32) : (s_F2 ad k r).set 5 (.int v) = s_F2 ad k (upd r 5 v) := rfl
end SC
/-- the tables: 0 Kinds.WIDER, 1 Asks.SIZE_BODIES, 2 Asks.MARK_BODIES -/
def s_t (b : Nat) : Nat → Int32 := fun j => if b = 0 then [0, 0, 1, 1, 0, 4].getD j 0 else if b = 1 then [10, 11, 12, 0, 13, 14].getD j 0 else [20, 21, 24, 22, 23, 0].getD j 0
def s_St (aS : Nat → Nat) : x_St := fun A U H => va_Z "SignDuty$Kinds" "WIDER" "[I" (.ref (aS 0)) A U H ∧ va_Z "SignDuty$Asks" "SIZE_BODIES" "[I" (.ref (aS 1)) A U H ∧ va_Z "SignDuty$Asks" "MARK_BODIES" "[I" (.ref (aS 2)) A U H ∧ ∀ b, b < 3 → va_T .int (aS b) 6 (fun j => .int (s_t b j)) A U H
theorem s_StOk (aS : Nat → Nat) : x_StOk (s_St aS) := by
  refine ⟨fun A u U H hvm h => ?_, fun A U H H1 hq h => ?_, fun A B U H hq h => ?_⟩
  · exact ⟨h.1.moved hvm, h.2.1.moved hvm, h.2.2.1.moved hvm, fun b hb => (h.2.2.2 b hb).moved hvm⟩
  · exact ⟨h.1.kept hq, h.2.1.kept hq, h.2.2.1.kept hq, fun b hb => (h.2.2.2 b hb).kept hq⟩
  · exact ⟨h.1.narrow hq, h.2.1.narrow hq, h.2.2.1.narrow hq, fun b hb => (h.2.2.2 b hb).narrow hq⟩
def s_NW : x_Nt := fun U => va_Nw (.methodLinkNest RX4 98 yX7_isWithin "SignDuty") U
theorem s_NwOk : x_NwOk s_NW := ⟨fun _ _ hW h => va_Nw.warmM hW h, fun _ _ he h => va_Nw.same rfl he h⟩
def m_NW : x_Nt := fun _ => True
theorem m_NwOk : x_NwOk m_NW := ⟨fun _ _ _ h => h, fun _ _ _ h => h⟩
/-! ===== THE REFERENCE'S CELLS: 0 the object; 1 row, 2 isKept, 3 lanes, 4 sizes, 5 items, 6 tape, 7 trace, 8 costs ===== -/
abbrev m_N : Nat := 9
def m_F (ad : Nat → Nat) (r : Nat → Int32) : List Value := [.ref (ad 1), .int (r 1), .int (r 2), .ref (ad 2), .ref (ad 3), .ref (ad 4), .ref (ad 5), .ref (ad 6), .int (r 8), .int (r 9), .int (r 10), .ref (ad 7), .int (r 12), .int (r 13), .int (r 14), .int (r 15), .ref (ad 8)]
def m_C (cI cZ : ClassId) (ad : Nat → Nat) : x_C := fun r k =>
  if k = 0 then .inr (7, m_F ad r) else if k = 1 then .inl (cI, 1372, .inl r) else if k = 2 then .inl (cZ, 2, .inl r) else if k = 3 then .inl (cI, 8, .inl r) else if k = 4 then .inl (cI, 8, .inl r) else if k = 5 then .inl (cI, 320, .inl r) else if k = 6 then .inl (cI, 120, .inl r) else if k = 7 then .inl (cI, 16, .inl r) else .inl (cI, 800, .inl r)
def m_St : x_St := fun _ _ _ => True
theorem m_StOk : x_StOk m_St := ⟨fun _ _ _ _ _ h => h, fun _ _ _ _ _ h => h, fun _ _ _ _ _ h => h⟩
section MC
variable {cI cZ : ClassId} {ad : Nat → Nat}
theorem m_c0 : ∀ r, m_C cI cZ ad r 0 = .inr (7, m_F ad r) := fun _ => rfl
theorem m_c1 : ∀ r, m_C cI cZ ad r 1 = .inl (cI, 1372, .inl r) := fun _ => rfl
theorem m_c2 : ∀ r, m_C cI cZ ad r 2 = .inl (cZ, 2, .inl r) := fun _ => rfl
theorem m_c3 : ∀ r, m_C cI cZ ad r 3 = .inl (cI, 8, .inl r) := fun _ => rfl
theorem m_c4 : ∀ r, m_C cI cZ ad r 4 = .inl (cI, 8, .inl r) := fun _ => rfl
theorem m_c5 : ∀ r, m_C cI cZ ad r 5 = .inl (cI, 320, .inl r) := fun _ => rfl
theorem m_c6 : ∀ r, m_C cI cZ ad r 6 = .inl (cI, 120, .inl r) := fun _ => rfl
theorem m_c7 : ∀ r, m_C cI cZ ad r 7 = .inl (cI, 16, .inl r) := fun _ => rfl
theorem m_c8 : ∀ r, m_C cI cZ ad r 8 = .inl (cI, 800, .inl r) := fun _ => rfl
theorem m_w_1 (r : Nat → Int32) (v : Int32) : (m_F ad r).set 1 (.int v) = m_F ad (upd r 1 v) := rfl
theorem m_w_2 (r : Nat → Int32) (v : Int32) : (m_F ad r).set 2 (.int v) = m_F ad (upd r 2 v) := rfl
theorem m_w_8 (r : Nat → Int32) (v : Int32) : (m_F ad r).set 8 (.int v) = m_F ad (upd r 8 v) := rfl
theorem m_w_9 (r : Nat → Int32) (v : Int32) : (m_F ad r).set 9 (.int v) = m_F ad (upd r 9 v) := rfl
theorem m_w_10 (r : Nat → Int32) (v : Int32) : (m_F ad r).set 10 (.int v) = m_F ad (upd r 10 v) := rfl
theorem m_w_12 (r : Nat → Int32) (v : Int32) : (m_F ad r).set 12 (.int v) = m_F ad (upd r 12 v) := rfl
theorem m_w_13 (r : Nat → Int32) (v : Int32) : (m_F ad r).set 13 (.int v) = m_F ad (upd r 13 v) := rfl
theorem m_w_14 (r : Nat → Int32) (v : Int32) : (m_F ad r).set 14 (.int v) = m_F ad (upd r 14 v) := rfl
theorem m_w_15 (r : Nat → Int32) (v : Int32) : (m_F ad r).set 15 (.int v) = m_F ad (upd r 15 v) := rfl
end MC
end
section
/-! ===== constructors: worlds that grow, told as lists ===== -/
def n_AOA (ty : FieldType) (U : State) : Prop := (Cond.arrayOver (.array ty)).before #[] U = true
theorem n_AOA.use {ty : FieldType} {B : Array Value} {U : State} (h : n_AOA ty U) : (Cond.arrayOver (.array ty)).before B U = true := h
theorem n_AOA.moved {ty : FieldType} {u U : State} (hvm : u.vm.Alike U.vm) (h : n_AOA ty u) : n_AOA ty U := Jvm.Stand.arrayOver_alikeB (s := u) hvm h
theorem n_outer (c : ClassId) (N h0 : Nat) : ∀ i : Nat, Jvm.Free.Multi.outerC c N h0 i = arrV c N (fun j => va_rf (if j < i then some (h0 + 1 + j) else none))
  | 0 => by
    show ({ cls := c, slots := Array.replicate N .null, vm := .none } : Cell) = _
    rw [arrV_new]
    refine congrArg (arrV c N) (funext fun j => ?_)
    simp [va_rf]
  | i + 1 => by
    show (Jvm.Free.Multi.outerC c N h0 i).setSlot i (.ref (h0 + 1 + i)) = _
    rw [n_outer c N h0 i, arrV_store]
    refine congrArg (arrV c N) (funext fun j => ?_)
    by_cases e : j = i
    · subst e
      simp [updV, va_rf]
    · by_cases h : j < i
      · simp [updV, e, h, Nat.lt_succ_of_lt h]
      · simp [updV, e, h, show ¬ j < i + 1 by omega]
theorem n_cellq {c : ClassId} {n : Nat} {f g : Nat → Option Nat} (h : ∀ j, j < n → f j = g j) : vp_cell c (n, .inr (.inr (.inr (.inr f)))) = vp_cell c (n, .inr (.inr (.inr (.inr g)))) := by
  rw [vp_cell_q, vp_cell_q]
  unfold arrV
  congr 1
  apply Array.ext
  · simp
  · intro i h1 h2
    have hi : i < n := by simpa using h1
    simp [h i hi]
abbrev n_P (D : va_G) (cl : List vw_C) (ws : va_W) : Heap → Prop := fun H => va_P D cl ws H
section NI
variable {p : Program} {l : Launch} {e : Env} {R : Room} {s : State} {m : MethodId} {args : Array Value} {below : List Frame} {meth : Method} {c : Code} {cells slots : Nat} {Q : State → Prop}
variable {cc : ByteArray} {nL : Nat} {Ts : List Cond} {own : String} {A : Nat → Prop} {I : Heap → Prop} {lv lv' : List (Nat × Value)} {st st0 : List Value} {pc : Nat}
variable {D : va_G} {cl : List vw_C} {tys : List (ClassId × FieldType)} {ws : va_W}
theorem n_objInit (B : x_B p s m args meth c cc nL Ts own) {idx : Nat} (hlink : Cond.methodLink own idx Lib.objectInit ∈ Ts) (hinst : Cond.instanceMethod Lib.objectInit ∈ Ts) (hcode : Cond.code Lib.objectInit ⟨#[0xb1]⟩ 1 none ∈ Ts) {a : Addr} (hdg : decode cc pc = .ok (.invokespecial idx, 3)) (hframes : 1 ≤ R.frames) (hlocals : (st.map fun v => v.category).sum + 12 ≤ R.locals) (k : x_J p l e R s m args below meth c cells slots Q A nL I lv st (pc + 3)) : x_J p l e R s m args below meth c cells slots Q A nL I lv (.ref a :: st) pc :=
  fun H locs ls h1 h2 h3 => W.objInit (a := a) (rest := st) B.1 B.2.1 B.2.2.2.1 (B.2.2.2.2.1 _ hlink) (B.2.2.2.2.1 _ hinst) (B.2.2.2.2.1 _ hcode) rfl (by rw [B.2.2.1]; exact h3.1) rfl hdg hframes (by show 2 * 0 + _ + 12 ≤ _; omega) (k H locs ls h1 h2 h3)
theorem n_newa (B : x_B p s m args meth c cc nL Ts own) (hK : va_K D cl tys s) {atype : ArrayType} {ty : FieldType} {t0 N' : Nat} {cI : ClassId} (hty : newarray.typeOf atype = ty) (harr : Cond.arrayClass ty ∈ Ts) (ht : tys[t0]? = some (cI, ty)) (hRA : ∀ c9 : ClassId, va_RA s c9 ty → s.vm.findClass ("[" ++ ty.toString) = some c9) (hA : ∀ q, s.heap.size ≤ q → A q) (hD : va_D A ws) {a0 : vp_A} (ha0 : ∀ cA : ClassId, vp_cell cA a0 = arrV cA N' (fun _ => defaultValue ty)) {n : Int32} (hn : ¬ n < 0) (hN : n.toNatClampNeg = N') (hb : N' * componentBytes ty ≤ 536870912) (hc : cells + 1 ≤ R.cells) (hs : slots + N' ≤ R.slots) (hdg : decode cc pc = .ok (.newarray atype, 2))
    (k : ∀ q : Nat, va_D A (ws ++ [(q, .inl (cI, a0))]) → x_J p l e R s m args below meth c (cells + 1) (slots + N') Q A nL (n_P D cl (ws ++ [(q, .inl (cI, a0))])) lv (.ref q :: st) (pc + 2)) : x_J p l e R s m args below meth c cells slots Q A nL (n_P D cl ws) lv (.int n :: st) pc := by
  intro H locs ls h1 h2 h3
  refine va_newa (D := D) (cl := cl) (tys := tys) (ws := ws) (A := A) (atype := atype) (ty := ty) B.1 B.2.1 (by rw [hty]; exact B.2.2.2.2.1 _ harr) hty hK h1 hD h2 hA ha0 hn hN hb hc hs hdg (fun q cA H1 hK1 hP1 hD1 hS1 => ?_)
  have e1 := hRA _ (hK1.2 tys.length (cA, ty) (by simp)).2
  have e2 := hRA _ (hK.2 t0 _ ht).2
  have e3 : cA = cI := Option.some.inj (e1.symm.trans e2)
  subst e3
  exact k q hD1 H1 locs ls hP1 hS1 h3
theorem n_new (B : x_B p s m args meth c cc nL Ts own) (hK : va_K D cl tys s) {Cn : String} {T : u_T} {n ci index : Nat} (hin : ∀ w ∈ u_ws Cn T n, w ∈ Ts) (ty : Nat → FieldType) (hty : ∀ k, k < n → parseFieldDescriptor (T k).2.2.1 = some (ty k)) (hcl : Cond.classLink own index Cn ∈ Ts) (hinst : Cond.instantiable Cn n ∈ Ts) (hini : Cond.initialized Cn ∈ Ts) (hA : ∀ q, s.heap.size ≤ q → A q) (hD : va_D A ws) (hc : cl[ci]? = some (Cn, T, n)) {fs : List Value} (hfs : ∀ j, j < n → defaultValue (ty j) = vp_V fs j) (hcells : cells + 1 ≤ R.cells) (hslots : slots + n ≤ R.slots) (hdg : decode cc pc = .ok (.new index, 3))
    (k : ∀ q : Nat, va_D A (ws ++ [(q, .inr (ci, fs))]) → x_J p l e R s m args below meth c (cells + 1) (slots + n) Q A nL (n_P D cl (ws ++ [(q, .inr (ci, fs))])) lv (.ref q :: st) (pc + 3)) : x_J p l e R s m args below meth c cells slots Q A nL (n_P D cl ws) lv st pc := by
  intro H locs ls h1 h2 h3
  exact va_new (D := D) (cl := cl) (tys := tys) (ws := ws) (A := A) (ci := ci) B.1 B.2.1 B.2.2.2.2.1 hin ty hty B.2.2.2.1 (B.2.2.2.2.1 _ hcl) (B.2.2.2.2.1 _ hinst) (B.2.2.2.2.1 _ hini) hK h1 hD h2 hA hc hfs hcells hslots hdg (fun q H1 hP1 hD1 hS1 => k q hD1 H1 locs ls hP1 hS1 h3)
theorem n_put (B : x_B p s m args meth c cc nL Ts own) (hK : va_K D cl tys s) {Cn : String} {T : u_T} {n ci index : Nat} (hin : ∀ w ∈ u_ws Cn T n, w ∈ Ts) (ty0 : Nat → FieldType) (hty : ∀ k, k < n → parseFieldDescriptor (T k).2.2.1 = some (ty0 k)) (hnm : ∀ a, a < n → ∀ b, b < n → a ≠ b → (T a).2.1 ≠ (T b).2.1) (hD : va_D A ws) (q0 : Nat) {a : Nat} {fs : List Value} (he : ws[q0]? = some (a, .inr (ci, fs))) (hc : cl[ci]? = some (Cn, T, n)) (j : Nat) (hj : j < n) (hlink : Cond.fieldLink own index (T j).1 (T j).2.1 (T j).2.2.1 ∈ Ts) (hfin : (T j).2.2.2 = false) {ty : FieldType} {v : Value} (hd : ty0 j = ty) (hn : narrow ty v = v) (hfit : fits ty v = true) (hlen : j < fs.length) {ws' : va_W} (hw : ws.set q0 (a, .inr (ci, fs.set j v)) = ws') (hdg : decode cc pc = .ok (.putfield index, 3))
    (k : va_D A ws' → x_J p l e R s m args below meth c cells slots Q A nL (n_P D cl ws') lv st (pc + 3)) : x_J p l e R s m args below meth c cells slots Q A nL (n_P D cl ws) lv (v :: .ref a :: st) pc := by
  intro H locs ls h1 h2 h3
  subst hw
  exact va_put (D := D) (cl := cl) (ws := ws) (ci := ci) (C := Cn) (T := T) (N := n) (A := A) B.1 B.2.1 B.2.2.2.2.1 hin ty0 hty hnm B.2.2.2.1 hK h1 hD h2 q0 he hc j hj (B.2.2.2.2.1 _ hlink) (fun _ h9 => h9) hfin (ty := ty) (by rw [hty j hj, hd]) hn hfit hlen hdg (fun H1 locs1 g1 gD g2 => k gD H1 locs1 ls g1 g2 h3)
theorem n_putF (B : x_B p s m args meth c cc nL Ts own) (hin2 : meth.name = "<init>") (hK : va_K D cl tys s) {Cn : String} {T : u_T} {n ci index : Nat} (hin : ∀ w ∈ u_ws Cn T n, w ∈ Ts) (ty0 : Nat → FieldType) (hty : ∀ k, k < n → parseFieldDescriptor (T k).2.2.1 = some (ty0 k)) (hnm : ∀ a, a < n → ∀ b, b < n → a ≠ b → (T a).2.1 ≠ (T b).2.1) (hD : va_D A ws) (q0 : Nat) {a : Nat} {fs : List Value} (he : ws[q0]? = some (a, .inr (ci, fs))) (hc : cl[ci]? = some (Cn, T, n)) (j : Nat) (hj : j < n) (hlink : Cond.fieldLink own index (T j).1 (T j).2.1 (T j).2.2.1 ∈ Ts) (hfin : (T j).2.2.2 = true) (hdecl : (T j).1 = own) {ty : FieldType} {v : Value} (hd : ty0 j = ty) (hn : narrow ty v = v) (hfit : fits ty v = true) (hlen : j < fs.length) {ws' : va_W} (hw : ws.set q0 (a, .inr (ci, fs.set j v)) = ws') (hdg : decode cc pc = .ok (.putfield index, 3))
    (k : va_D A ws' → x_J p l e R s m args below meth c cells slots Q A nL (n_P D cl ws') lv st (pc + 3)) : x_J p l e R s m args below meth c cells slots Q A nL (n_P D cl ws) lv (v :: .ref a :: st) pc := by
  intro H locs ls h1 h2 h3
  subst hw
  exact va_putF (D := D) (cl := cl) (ws := ws) (ci := ci) (C := Cn) (T := T) (N := n) (A := A) B.1 B.2.1 B.2.2.2.2.1 hin ty0 hty hnm B.2.2.2.1 hK h1 hD h2 q0 he hc j hj (B.2.2.2.2.1 _ hlink) (fun _ h9 => h9) hfin hin2 hdecl (ty := ty) (by rw [hty j hj, hd]) hn hfit hlen hdg (fun H1 locs1 g1 gD g2 => k gD H1 locs1 ls g1 g2 h3)
theorem n_iast (B : x_B p s m args meth c cc nL Ts own) (hK : va_K D cl tys s) (hD : va_D A ws) (q0 t0 : Nat) {a n : Nat} {cA : ClassId} {f : Nat → Int32} (ha : ws[q0]? = some (a, .inl (cA, n, .inl f))) (ht : tys[t0]? = some (cA, .int)) {i x : Int32} (hi : x_in i n) {ws' : va_W} (hw : ws.set q0 (a, .inl (cA, n, .inl (upd f i.toNatClampNeg x))) = ws') (hdg : decode cc pc = .ok (.iastore, 1))
    (k : va_D A ws' → x_J p l e R s m args below meth c cells slots Q A nL (n_P D cl ws') lv st (pc + 1)) : x_J p l e R s m args below meth c cells slots Q A nL (n_P D cl ws) lv (.int x :: .int i :: .ref a :: st) pc := by
  intro H locs ls h1 h2 h3
  subst hw
  exact va_iast (D := D) (cl := cl) (ws := ws) (A := A) B.1 B.2.1 hK h1 hD h2 q0 t0 ha ht hi hdg (fun H1 locs1 g1 gD g2 => k gD H1 locs1 ls g1 g2 h3)
theorem n_newq (B : x_B p s m args meth c cc nL Ts own) (hK : va_K D cl tys s) {Cn : String} {index t0 N' : Nat} {cC : ClassId} (hlink : Cond.classLink own index Cn ∈ Ts) (hover : va_AO Cn s) (ht : tys[t0]? = some (cC, .object Cn)) (hA : ∀ q, s.heap.size ≤ q → A q) (hD : va_D A ws) {n : Int32} (hn : ¬ n < 0) (hN : n.toNatClampNeg = N') (hb : N' * 4 ≤ 536870912) (hc : cells + 1 ≤ R.cells) (hs : slots + N' ≤ R.slots) (hdg : decode cc pc = .ok (.anewarray index, 3))
    (k : ∀ q : Nat, va_D A (ws ++ [(q, .inl (cC, N', .inr (.inr (.inr (.inr (fun _ => none))))))]) → x_J p l e R s m args below meth c (cells + 1) (slots + N') Q A nL (n_P D cl (ws ++ [(q, .inl (cC, N', .inr (.inr (.inr (.inr (fun _ => none))))))])) lv (.ref q :: st) (pc + 3)) : x_J p l e R s m args below meth c cells slots Q A nL (n_P D cl ws) lv (.int n :: st) pc := by
  intro H locs ls h1 h2 h3
  refine va_newq (D := D) (cl := cl) (tys := tys) (ws := ws) (A := A) B.1 B.2.1 B.2.2.2.1 (B.2.2.2.2.1 _ hlink) hover hK h1 hD h2 hA hn hN hb hc hs hdg (fun q cA H1 hK1 hP1 hD1 hS1 => ?_)
  obtain ⟨_, _, _, _, _, e1⟩ := (hK1.2 tys.length (cA, .object Cn) (by simp)).2
  obtain ⟨_, _, _, _, _, e2⟩ := (hK.2 t0 _ ht).2
  have e3 : cA = cC := Option.some.inj (e1.symm.trans e2)
  subst e3
  exact k q hD1 H1 locs ls hP1 hS1 h3
theorem n_astq (B : x_B p s m args meth c cc nL Ts own) (hK : va_K D cl tys s) (hD : va_D A ws) (q0 t0 qk ci : Nat) {a v n : Nat} {cA : ClassId} {r : vw_C} {vs : List Value} {f : Nat → Option Nat} (ha : ws[q0]? = some (a, .inl (cA, n, .inr (.inr (.inr (.inr f)))))) (ht : tys[t0]? = some (cA, .object r.1)) (hv : ws[qk]? = some (v, .inr (ci, vs))) (hc : cl[ci]? = some r) {i : Int32} (hi : x_in i n) {ws' : va_W} (hw : ws.set q0 (a, .inl (cA, n, .inr (.inr (.inr (.inr (va_up f i.toNatClampNeg (some v))))))) = ws') (hdg : decode cc pc = .ok (.aastore, 1))
    (k : va_D A ws' → x_J p l e R s m args below meth c cells slots Q A nL (n_P D cl ws') lv st (pc + 1)) : x_J p l e R s m args below meth c cells slots Q A nL (n_P D cl ws) lv (.ref v :: .int i :: .ref a :: st) pc := by
  intro H locs ls h1 h2 h3
  subst hw
  exact va_astq (D := D) (cl := cl) (ws := ws) (A := A) B.1 B.2.1 hK h1 hD h2 q0 t0 qk ci ha ht hv hc hi hdg (fun H1 locs1 g1 gD g2 => k gD H1 locs1 ls g1 g2 h3)
/-- new int[N'][K'] : the outer array at q, the inner ones behind it -/
theorem n_mna (B : x_B p s m args meth c cc nL Ts own) (hK : va_K D cl tys s) {index t0 t1 N' K' : Nat} {cI cQ : ClassId} (hlink : Cond.classLink own index "[[I" ∈ Ts) (hover : n_AOA .int s) (harr : Cond.arrayClass .int ∈ Ts) (ht0 : tys[t0]? = some (cI, .int)) (ht1 : tys[t1]? = some (cQ, .array .int)) (hA : ∀ q, s.heap.size ≤ q → A q) (hD : va_D A ws) {n k0 : Int32} (hn : ¬ n < 0) (hk : ¬ k0 < 0) (hN : n.toNatClampNeg = N') (hM : k0.toNatClampNeg = K') (hb1 : N' * 4 ≤ 536870912) (hb2 : K' * 4 ≤ 536870912) (hc : cells + (1 + N') ≤ R.cells) (hs : slots + (N' + N' * K') ≤ R.slots) (hdg : decode cc pc = .ok (.multianewarray index 2, 4))
    (k : ∀ q : Nat, va_D A ((ws ++ [(q, .inl (cQ, N', .inr (.inr (.inr (.inr (fun j => some (q + 1 + j)))))))]) ++ (List.range N').map (fun j => (q + 1 + j, .inl (cI, K', .inl (fun _ => 0))))) → x_J p l e R s m args below meth c (cells + 1 + N') (slots + N' + N' * K') Q A nL (n_P D cl ((ws ++ [(q, .inl (cQ, N', .inr (.inr (.inr (.inr (fun j => some (q + 1 + j)))))))]) ++ (List.range N').map (fun j => (q + 1 + j, .inl (cI, K', .inl (fun _ => 0)))))) lv (.ref q :: st) (pc + 4)) : x_J p l e R s m args below meth c cells slots Q A nL (n_P D cl ws) lv (.int k0 :: .int n :: st) pc := by
  intro H locs ls h1 h2 h3
  subst hN
  subst hM
  have hP : va_P D cl ws H := h1
  intro T hT Xs
  obtain ⟨vm₁, cA, comp, -, fA, fC, hO, -, X', step⟩ := Xs.multianewarray2F B.1 B.2.2.2.1 (ty := .int) (B.2.2.2.2.1 _ hlink) (n_AOA.use hover) (B.2.2.2.2.1 _ harr) (g := F0 m pc ls (.int k0 :: .int n :: st)) rfl (by rw [B.2.1]; exact hdg) rfl hn hk hb1 hb2 (by omega) rfl rfl hc hs
  have e1 : s.vm.findClass "[I" = some cI := (hK.2 t0 _ ht0).2
  have e2 : s.vm.findClass "[[I" = some cQ := (hK.2 t1 _ ht1).2
  have ec : comp = cI := Option.some.inj (fC.symm.trans e1)
  have eq : cA = cQ := Option.some.inj (fA.symm.trans e2)
  subst ec
  subst eq
  generalize hF : Jvm.Free.Multi.fill (T.setVm vm₁) cA comp n.toNatClampNeg k0.toNatClampNeg (defaultValue .int) n.toNatClampNeg = F at X' step
  have hTh : (T.setVm vm₁).heap = H := hT
  obtain ⟨f1, f2, -, -⟩ := Jvm.Free.Multi.fill_facts (T.setVm vm₁) cA comp n.toNatClampNeg k0.toNatClampNeg (defaultValue .int) n.toNatClampNeg
  rw [hF, hTh] at f1 f2
  have hold : ∀ x : Nat, x < H.size → F.heap[x]? = H[x]? := fun x hx => by
    have := Jvm.Free.Multi.fill_old (T.setVm vm₁) cA comp n.toNatClampNeg k0.toNatClampNeg (defaultValue .int) (a := x) (by rw [hTh]; exact hx) n.toNatClampNeg
    rw [hF, hTh] at this
    exact this
  have hrow : ∀ j : Nat, j < n.toNatClampNeg → F.heap[H.size + 1 + j]? = some (vp_cell comp (k0.toNatClampNeg, .inl (fun _ => 0))) := fun j hj => by
    have := Jvm.Free.Multi.fill_inner (T.setVm vm₁) cA comp n.toNatClampNeg k0.toNatClampNeg (defaultValue .int) n.toNatClampNeg j hj
    rw [hF, hTh] at this
    rw [this, vp_cell_i, ← arrV_new]
    rfl
  have hout : Jvm.Free.Multi.outerC cA n.toNatClampNeg H.size n.toNatClampNeg = vp_cell cA (n.toNatClampNeg, .inr (.inr (.inr (.inr (fun j => some (H.size + 1 + j)))))) := by
    rw [n_outer cA n.toNatClampNeg H.size n.toNatClampNeg, ← vp_cell_q cA n.toNatClampNeg (fun j => if j < n.toNatClampNeg then some (H.size + 1 + j) else none)]
    exact n_cellq (fun j hj => if_pos hj)
  rw [hout] at f2
  have hW : ∀ (k9 : Nat) (x : Nat × va_E), ((ws ++ [(H.size, .inl (cA, n.toNatClampNeg, .inr (.inr (.inr (.inr (fun j => some (H.size + 1 + j)))))))]) ++ (List.range n.toNatClampNeg).map (fun j => (H.size + 1 + j, .inl (comp, k0.toNatClampNeg, .inl (fun _ => 0)))))[k9]? = some x → (ws[k9]? = some x ∧ k9 < ws.length) ∨ (ws.length ≤ k9 ∧ x.1 = H.size + (k9 - ws.length) ∧ va_at D cl x F.heap) := by
    intro k9 x hx
    rw [List.append_assoc] at hx
    rcases Nat.lt_or_ge k9 ws.length with q | q
    · rw [List.getElem?_append_left q] at hx
      exact Or.inl ⟨hx, q⟩
    · rw [List.getElem?_append_right q] at hx
      refine Or.inr ⟨q, ?_⟩
      cases hz : k9 - ws.length with
      | zero =>
        rw [hz] at hx
        have hx : some (H.size, (.inl (cA, n.toNatClampNeg, .inr (.inr (.inr (.inr (fun j => some (H.size + 1 + j)))))) : va_E)) = some x := hx
        cases hx
        exact ⟨rfl, f2⟩
      | succ j =>
        rw [hz] at hx
        have hx : ((List.range n.toNatClampNeg).map (fun j => ((H.size + 1 + j, .inl (comp, k0.toNatClampNeg, .inl (fun _ => 0))) : Nat × va_E)))[j]? = some x := hx
        rw [List.getElem?_map] at hx
        rcases Nat.lt_or_ge j n.toNatClampNeg with q2 | q2
        · rw [List.getElem?_range q2] at hx
          cases hx
          exact ⟨by show H.size + 1 + j = _; omega, hrow j q2⟩
        · rw [List.getElem?_eq_none (by rw [List.length_range]; exact q2)] at hx
          cases hx
  obtain ⟨t, a1, b1⟩ := k H.size ⟨fun i j x y hx hy hxy => by
      rcases hW i x hx with ⟨g1, l1⟩ | ⟨l1, g1, -⟩ <;> rcases hW j y hy with ⟨g2, l2⟩ | ⟨l2, g2, -⟩
      · exact hD.1 i j x y g1 g2 hxy
      · have := (hP i x g1).lt; omega
      · have := (hP j y g2).lt; omega
      · omega, fun k9 x hx => by
      rcases hW k9 x hx with ⟨g1, l1⟩ | ⟨l1, g1, -⟩
      · exact hD.2 k9 x g1
      · exact hA _ (by have := h2.1; omega)⟩ F.heap locs ls (fun k9 x hx => by
      rcases hW k9 x hx with ⟨g1, l1⟩ | ⟨l1, g1, g3⟩
      · exact (hP k9 x g1).kept (hold x.1 ((hP k9 x g1).lt))
      · exact g3) ⟨by rw [f1]; have := h2.1; omega, fun x g1 g2 => (hold x (Nat.lt_of_lt_of_le g1 h2.1)).trans (h2.2.1 x g1 g2), h2.2.2⟩ h3 F rfl X'
  refine ⟨t, step t ?_, b1⟩
  have e : T.heap.size = H.size := by rw [hT]
  rw [e]
  exact a1
/-- a constructor of a nest mate is called: its cell stands last -/
theorem n_callN (B : x_B p s m args meth c cc nL Ts own) (hK : va_K D cl tys s) (hA : ∀ q, s.heap.size ≤ q → A q) {NW : x_Nt} (hNW : x_NwOk NW ∧ NW s) {y : MethodName} {wsy : List Cond} {host : String} {bytes : ByteArray} {maxL index mc ms h0 nr : Nat} {rm : Room} {e0 : va_E} {wr : va_W} {post : (Nat → Nat) → va_W}
    (hM : ∀ sz : Nat, Met l y wsy rm (va_Pc [.ref h0] (fun U => U.heap.size = sz ∧ va_P D cl [(h0, e0)] U.heap ∧ va_K D cl tys U ∧ NW U)) (va_Qv (fun _ : Nat → Nat => True) (fun u t => va_P D cl (post u) t.heap ∧ va_D (va_A [(h0, e0)] sz) (post u)) (va_A [(h0, e0)] sz)) mc ms (va_A [(h0, e0)] sz))
    (cw : va_CN R s args own index y host bytes maxL none wsy rm mc ms 0 ∧ y.name = "<init>" ∧ (Cond.instanceMethod y).before args s = true) (hD : va_D A ws) (hw : ws = wr ++ [(h0, e0)]) (hnr : nr = wr.length) (hR : (List.range nr).map (fun i => (wr ++ [(h0, e0)])[i]?) = wr.map some) (hnd : va_nd (List.range nr) = true) (hst : (st.map fun v => v.category).sum ≤ 8) (hcs : cells + mc ≤ R.cells ∧ slots + ms ≤ R.slots) (hdg : decode cc pc = .ok (.invokespecial index, 3))
    (k : ∀ u : Nat → Nat, va_D A (wr ++ post u) → x_J p l e R s m args below meth c (cells + mc) (slots + ms) Q A nL (n_P D cl (wr ++ post u)) lv st (pc + 3)) : x_J p l e R s m args below meth c cells slots Q A nL (n_P D cl ws) lv (.ref h0 :: st) pc := by
  intro H locs ls h1 h2 h3
  subst hw
  have hP : va_P D cl (wr ++ [(h0, e0)]) H := h1
  have hlast : (wr ++ [(h0, e0)])[wr.length]? = some (h0, e0) := by simp
  have hPc : va_P D cl [(h0, e0)] H := fun k9 q hq => by
    have hz : k9 < 1 := (List.getElem?_eq_some_iff.mp hq).1
    rw [show k9 = 0 by omega] at hq
    cases hq
    exact hP wr.length _ hlast
  have hFc : ∀ q, va_A [(h0, e0)] H.size q → A q := va_free (wc := [(h0, e0)]) hD h2 hA [wr.length] (by simp)
  refine va_callv (A0 := A) (va_runIN (As := []) (rest := st) ⟨B.1, B.2.1, B.2.2.1, B.2.2.2.1, B.2.2.2.2.1⟩ (hM H.size) cw ⟨?_, fun U hU hW => ⟨rfl, by rw [hU], by rw [hU]; exact hPc, va_K.moved hW.alike hK, hNW.1.1 s U hW hNW.2⟩⟩ rfl rfl h3.1 rfl (lv_room hst) hdg hcs) h2 (fun q _ h => hFc q h) hFc (fun u t H1 locs1 ht hvm hw hB hz1 hk1 hS => ?_)
  · intro a U g mk q
    obtain ⟨q0, q1, qP, qK, qN⟩ := q
    exact ⟨q0, q1, qP, va_K.moved (u := U) (U := U.calling g mk a) (Vm.Alike.refl U.vm) qK, hNW.1.2 U (U.calling g mk a) rfl qN⟩
  · obtain ⟨hP1, hD1⟩ := hB
    rw [ht] at hP1
    obtain ⟨hP2, hD2⟩ := va_join (wc := [(h0, e0)]) (wr := wr) (w1 := post u) hP hD [wr.length] (List.range nr) (by simp) hR hnd (fun i hi => by rw [hnr] at hi; have := List.mem_range.mp hi; simp; omega) hk1 hFc hP1 hD1
    exact k u hD2 H1 locs1 ls hP2 hS h3
theorem n_callI (B : x_B p s m args meth c cc nL Ts own) (hK : va_K D cl tys s) (hA : ∀ q, s.heap.size ≤ q → A q) {NW : x_Nt} (hNW : x_NwOk NW ∧ NW s) {y : MethodName} {wsy : List Cond} {bytes : ByteArray} {maxL index mc ms h0 nr : Nat} {rm : Room} {e0 : va_E} {wr : va_W} {post : (Nat → Nat) → va_W}
    (hM : ∀ sz : Nat, Met l y wsy rm (va_Pc [.ref h0] (fun U => U.heap.size = sz ∧ va_P D cl [(h0, e0)] U.heap ∧ va_K D cl tys U ∧ NW U)) (va_Qv (fun _ : Nat → Nat => True) (fun u t => va_P D cl (post u) t.heap ∧ va_D (va_A [(h0, e0)] sz) (post u)) (va_A [(h0, e0)] sz)) mc ms (va_A [(h0, e0)] sz))
    (cw : CallB R s args own index y bytes maxL none wsy rm mc ms 0 ∧ y.name = "<init>" ∧ (Cond.instanceMethod y).before args s = true) (hD : va_D A ws) (hw : ws = wr ++ [(h0, e0)]) (hnr : nr = wr.length) (hR : (List.range nr).map (fun i => (wr ++ [(h0, e0)])[i]?) = wr.map some) (hnd : va_nd (List.range nr) = true) (hst : (st.map fun v => v.category).sum ≤ 8) (hcs : cells + mc ≤ R.cells ∧ slots + ms ≤ R.slots) (hdg : decode cc pc = .ok (.invokespecial index, 3))
    (k : ∀ u : Nat → Nat, va_D A (wr ++ post u) → x_J p l e R s m args below meth c (cells + mc) (slots + ms) Q A nL (n_P D cl (wr ++ post u)) lv st (pc + 3)) : x_J p l e R s m args below meth c cells slots Q A nL (n_P D cl ws) lv (.ref h0 :: st) pc := by
  intro H locs ls h1 h2 h3
  subst hw
  have hP : va_P D cl (wr ++ [(h0, e0)]) H := h1
  have hlast : (wr ++ [(h0, e0)])[wr.length]? = some (h0, e0) := by simp
  have hPc : va_P D cl [(h0, e0)] H := fun k9 q hq => by
    have hz : k9 < 1 := (List.getElem?_eq_some_iff.mp hq).1
    rw [show k9 = 0 by omega] at hq
    cases hq
    exact hP wr.length _ hlast
  have hFc : ∀ q, va_A [(h0, e0)] H.size q → A q := va_free (wc := [(h0, e0)]) hD h2 hA [wr.length] (by simp)
  refine va_callv (A0 := A) (va_runI (As := []) (rest := st) ⟨B.1, B.2.1, B.2.2.1, B.2.2.2.1, B.2.2.2.2.1⟩ (hM H.size) cw ⟨?_, fun U hU hW => ⟨rfl, by rw [hU], by rw [hU]; exact hPc, va_K.moved hW.alike hK, hNW.1.1 s U hW hNW.2⟩⟩ rfl rfl h3.1 rfl (lv_room hst) hdg hcs) h2 (fun q _ h => hFc q h) hFc (fun u t H1 locs1 ht hvm hw hB hz1 hk1 hS => ?_)
  · intro a U g mk q
    obtain ⟨q0, q1, qP, qK, qN⟩ := q
    exact ⟨q0, q1, qP, va_K.moved (u := U) (U := U.calling g mk a) (Vm.Alike.refl U.vm) qK, hNW.1.2 U (U.calling g mk a) rfl qN⟩
  · obtain ⟨hP1, hD1⟩ := hB
    rw [ht] at hP1
    obtain ⟨hP2, hD2⟩ := va_join (wc := [(h0, e0)]) (wr := wr) (w1 := post u) hP hD [wr.length] (List.range nr) (by simp) hR hnd (fun i hi => by rw [hnr] at hi; have := List.mem_range.mp hi; simp; omega) hk1 hFc hP1 hD1
    exact k u hD2 H1 locs1 ls hP2 hS h3
/-- a constructor's end -/
theorem n_vret (B : x_B p s m args meth c cc nL Ts own) (hr : meth.sig.returnType = none) {post : (Nat → Nat) → va_W} {F : Nat → Prop} (u : Nat → Nat) (hw : ws = post u) (hD : va_D F ws) {mc ms : Nat} (hc : cells ≤ mc) (hs : slots ≤ ms) (hdg : decode cc pc = .ok (.return_, 1)) : x_J p l e R s m args below meth c cells slots (MQ below (va_Qv (fun _ : Nat → Nat => True) (fun u t => va_P D cl (post u) t.heap ∧ va_D F (post u)) F) args s mc ms F) F nL (n_P D cl ws) lv [] pc := by
  intro H locs ls h1 h2 h3
  subst hw
  refine W.widen hc hs ?_
  exact W.vret B.1 B.2.1 hr (fun t ht hW => ⟨⟨u, rfl, trivial, (by rw [ht]; exact h1), hD⟩, h2.F ht⟩) h2.2.2 hdg (hlocks := B.2.2.2.2.2)
/-- a constructor out of its body -/
theorem n_met {y : MethodName} {wsy ws' : List Cond} {maxL h0 mc ms sz : Nat} {rm : Room} {NW : x_Nt} {e0 : va_E} {post : (Nat → Nat) → va_W} (hy : plainName y.cls = true) (hw : wsy = Cond.code y cc maxL none :: ws') (ho : y.cls = own) (hn : y.name = "<init>") (hlen : (lg_sl [Value.ref h0]).length ≤ maxL)
    (body : ∀ (p : Program) (e : Env) (s : State) (m : MethodId) (args : Array Value) (below : List Frame) (meth : Method) (c : Code), x_B p s m args meth c cc maxL wsy own → va_K D cl tys s → NW s → meth.name = "<init>" → meth.sig.returnType = none → (∀ q, s.heap.size ≤ q → va_A [(h0, e0)] sz q) → va_D (va_A [(h0, e0)] sz) [(h0, e0)] → x_J p l e rm s m args below meth c 0 0 (MQ below (va_Qv (fun _ : Nat → Nat => True) (fun u t => va_P D cl (post u) t.heap ∧ va_D (va_A [(h0, e0)] sz) (post u)) (va_A [(h0, e0)] sz)) args s mc ms (va_A [(h0, e0)] sz)) (va_A [(h0, e0)] sz) maxL (n_P D cl [(h0, e0)]) [(0, .ref h0)] [] 0) : Met l y wsy rm (va_Pc [.ref h0] (fun U => U.heap.size = sz ∧ va_P D cl [(h0, e0)] U.heap ∧ va_K D cl tys U ∧ NW U)) (va_Qv (fun _ : Nat → Nat => True) (fun u t => va_P D cl (post u) t.heap ∧ va_D (va_A [(h0, e0)] sz) (post u)) (va_A [(h0, e0)] sz)) mc ms (va_A [(h0, e0)] sz) := by
  refine Met.ofW hy hw ?_
  intro p e s m args below meth c s₁ Bd hml hv
  obtain ⟨rfl, hsz, hP, hK, hNW⟩ := hv
  have hown : s.vm.findClass y.cls = some m.cls := findClass_of_methodNamed Bd.named
  rw [ho] at hown
  have hnm := (name_of_methodNamed Bd.named Bd.method).1
  have hl := lv_entry [Value.ref h0] (n := maxL) hlen
  rw [lg_entry_eq]
  refine body p e s m _ below meth c ⟨Bd.exec, Bd.bytes, hml, hown, atoms_spec (ws := wsy) Bd.pre, Bd.notSynchronized⟩ hK hNW (by first | exact hnm.trans hn | (rw [hnm]; exact hn) | (rw [← hnm]; exact hn)) Bd.returns (fun q h => Or.inr (by rw [← hsz]; exact h)) ⟨fun i j x y hx hy _ => by
      have hi : i < 1 := (List.getElem?_eq_some_iff.mp hx).1
      have hj : j < 1 := (List.getElem?_eq_some_iff.mp hy).1
      omega, fun k q hk => va_A.in hk⟩ s.heap [] _ hP va_S.rf hl
end NI
end
section
/-! ===== by program out of the bytecode: what each method computes; none where the machine would throw or a loop not end in time ===== -/
def fX1_leave (a1 : Int32) (σ : x_S) : Option x_S :=
  if 16 ≤ (σ 30 1) then (some σ) else (x_g (x_in (σ 30 1) 16) (x_w (x_u σ 31 (σ 30 1).toNatClampNeg a1) (fun σ3 => x_w (x_u σ3 30 1 ((σ3 30 1) + 1)) (fun σ5 => some σ5))))
def fX5_isRow (a0 : Int32) (σ : x_S) : Option Int32 :=
  if a0 < 0 then (some 0) else (if 8 ≤ a0 then (some 0) else (some 1))
def fX7_isWithin (a0 : Int32) (a1 : Int32) (a2 : Int32) (σ : x_S) : Option Int32 :=
  if a0 < a1 then (some 0) else (if a2 < a0 then (some 0) else (some 1))
def fX7_found (a1 : Int32) (σ : x_S) : Option (Int32 × x_S) :=
  x_w (x_u σ 0 8 a1) (fun σ1 => some (((-1000010) - a1), σ1))
def gX5_lay_17 (x1 : Int32) (K17 : Int32 → x_S → Option x_S) (x4 : Int32) (σ : x_S) : Option x_S :=
  if 40 ≤ x4 then (some σ) else (x_g (x_in x1 8) (x_g (x_in x4 40) (x_w (x_u σ (3 + x1.toNatClampNeg) x4.toNatClampNeg 0) (fun σ4 => K17 (x4 + 1) σ4))))
def bX5_lay_17 (x1 : Int32) (x4 : Int32) (σ : x_S) : Option x_S :=
  x_fx (α := Int32 → x_S → Option x_S) (fun _ _ => none) (fun K => fun x4 σ => gX5_lay_17  x1 K x4 σ) x_F x4 σ
def fX5_lay (a1 : Int32) (a2 : Int32) (a3 : Int32) (σ : x_S) : Option x_S :=
  x_g (x_in a1 8) (x_w (x_u σ 11 a1.toNatClampNeg a3) (fun σ2 => x_g (x_in a1 8) (x_w (x_u σ2 12 a1.toNatClampNeg a2) (fun σ5 => bX5_lay_17 a1 0 σ5))))
def fX7_foundNothing (a1 : Int32) (σ : x_S) : Option (Int32 × x_S) :=
  x_w (x_u σ 0 8 0) (fun σ1 => some (a1, σ1))
def fX7_row (a1 : Int32) (a2 : Int32) (a3 : Int32) (σ : x_S) : Option (Int32 × x_S) :=
  x_p (fX5_isRow a1 σ) (fun r2 => if r2 = 0 then (some ((-1000001), σ)) else (x_p (fX7_isWithin a2 0 2 σ) (fun r5 => if r5 = 0 then (some ((-1000001), σ)) else (if a3 ≤ 40 then (if 0 ≤ a3 then (x_v (fX5_lay a1 a2 a3 σ) (fun σ10 => x_b (fX7_foundNothing a3 σ10) (fun r12 σ13 => some (r12, σ13)))) else (x_b (fX7_found 4 σ) (fun r15 σ16 => some (r15, σ16)))) else (some ((-1000001), σ))))))
def fX5_isMissing (a1 : Int32) (σ : x_S) : Option Int32 :=
  x_g (x_in a1 8) (if (σ 11 a1.toNatClampNeg) = (-1) then (some 1) else (some 0))
def fX5_reaches (a1 : Int32) (a2 : Int32) (a3 : Int32) (σ : x_S) : Option Int32 :=
  if a2 < 0 then (some 0) else (if a3 < 0 then (some 0) else (x_g (x_in a1 8) (if (σ 11 a1.toNatClampNeg) < a3 then (some 0) else (x_g (x_in a1 8) (if ((σ 11 a1.toNatClampNeg) - a3) < a2 then (some 0) else (some 1))))))
def fX5_findingOf (a1 : Int32) (a2 : Int32) (a3 : Int32) (σ : x_S) : Option Int32 :=
  x_p (fX5_isMissing a1 σ) (fun r2 => if r2 = 0 then (x_p (fX5_reaches a1 a2 a3 σ) (fun r5 => if r5 = 0 then (some 2) else (some 0))) else (some 1))
def fX5_lowestBits (a0 : Int32) (a1 : Int32) (σ : x_S) : Option Int32 :=
  if a1 = 0 then (some a0.toInt8.toInt32) else (if a1 = 1 then (some a0.toInt16.toInt32) else (some a0))
def fX5_put (a1 : Int32) (a2 : Int32) (a3 : Int32) (σ : x_S) : Option (Int32 × x_S) :=
  x_g (x_in a1 8) (x_g (x_in a1 8) (x_p (fX5_lowestBits a3 (σ 12 a1.toNatClampNeg) σ) (fun r4 => x_g (x_in a2 40) (x_w (x_u σ (3 + a1.toNatClampNeg) a2.toNatClampNeg r4) (fun σ6 => x_g (x_in a1 8) (x_g (x_in a2 40) (some ((σ6 (3 + a1.toNatClampNeg) a2.toNatClampNeg), σ6))))))))
def fX7_set (a1 : Int32) (a2 : Int32) (a3 : Int32) (σ : x_S) : Option (Int32 × x_S) :=
  x_p (fX5_isRow a1 σ) (fun r2 => if r2 = 0 then (some ((-1000001), σ)) else (x_p (fX5_findingOf a1 a2 1 σ) (fun r5 => if r5 = 0 then (x_b (fX5_put a1 a2 a3 σ) (fun r8 σ9 => x_b (fX7_foundNothing r8 σ9) (fun r11 σ12 => some (r11, σ12)))) else (x_b (fX7_found r5 σ) (fun r14 σ15 => some (r14, σ15))))))
def fX5_areAlike (a1 : Int32) (a2 : Int32) (σ : x_S) : Option Int32 :=
  x_g (x_in a1 8) (x_g (x_in a2 8) (if (σ 12 a1.toNatClampNeg) = (σ 12 a2.toNatClampNeg) then (some 1) else (some 0)))
def fX5_carry (a1 : Int32) (a2 : Int32) (a3 : Int32) (a4 : Int32) (a5 : Int32) (σ : x_S) : Option x_S :=
  x_g (x_in a1 8) (x_g (x_in a3 8) (x_g (¬ a2 < 0 ∧ ¬ a4 < 0 ∧ ¬ a5 < 0 ∧ a2.toNatClampNeg + a5.toNatClampNeg ≤ 40 ∧ a4.toNatClampNeg + a5.toNatClampNeg ≤ 40) (x_w (x_r σ (3 + a3.toNatClampNeg) (va_cpy (σ (3 + a1.toNatClampNeg)) (σ (3 + a3.toNatClampNeg)) a2.toNatClampNeg a4.toNatClampNeg a5.toNatClampNeg)) (fun σ4 => some σ4))))
def bX7_copy_39 (σ : x_S) : Option (Int32 × x_S) :=
  x_b (fX7_found 1 σ) (fun r2 σ3 => some (r2, σ3))
def bX7_copy_92 (σ : x_S) : Option (Int32 × x_S) :=
  x_b (fX7_found 2 σ) (fun r2 σ3 => some (r2, σ3))
def fX7_copy (a1 : Int32) (a2 : Int32) (a3 : Int32) (a4 : Int32) (a5 : Int32) (σ : x_S) : Option (Int32 × x_S) :=
  x_p (fX5_isRow a1 σ) (fun r2 => if r2 = 0 then (some ((-1000001), σ)) else (x_p (fX5_isRow a3 σ) (fun r5 => if r5 = 0 then (some ((-1000001), σ)) else (x_p (fX5_isMissing a1 σ) (fun r8 => if r8 = 0 then (x_p (fX5_isMissing a3 σ) (fun r11 => if r11 = 0 then (x_p (fX5_areAlike a1 a3 σ) (fun r14 => if r14 = 0 then (x_b (fX7_found 5 σ) (fun r28 σ29 => some (r28, σ29))) else (x_p (fX5_reaches a1 a2 a5 σ) (fun r17 => if r17 = 0 then (bX7_copy_92 σ) else (x_p (fX5_reaches a3 a4 a5 σ) (fun r20 => if r20 = 0 then (bX7_copy_92 σ) else (x_v (fX5_carry a1 a2 a3 a4 a5 σ) (fun σ23 => x_b (fX7_foundNothing a5 σ23) (fun r25 σ26 => some (r25, σ26)))))))))) else (bX7_copy_39 σ))) else (bX7_copy_39 σ))))))
def fX5_takeAway (a1 : Int32) (σ : x_S) : Option (Int32 × x_S) :=
  x_g (x_in a1 8) (x_g (x_in a1 8) (x_w (x_u σ 11 a1.toNatClampNeg (-1)) (fun σ3 => some ((σ 11 a1.toNatClampNeg), σ3))))
def fX7_drop (a1 : Int32) (σ : x_S) : Option (Int32 × x_S) :=
  x_p (fX5_isRow a1 σ) (fun r2 => if r2 = 0 then (some ((-1000001), σ)) else (x_p (fX5_isMissing a1 σ) (fun r5 => if r5 = 0 then (x_b (fX5_takeAway a1 σ) (fun r8 σ9 => x_b (fX7_foundNothing r8 σ9) (fun r11 σ12 => some (r11, σ12)))) else (x_b (fX7_found 1 σ) (fun r14 σ15 => some (r14, σ15))))))
def fX4_isFull (σ : x_S) : Option Int32 :=
  if (σ 13 1) < 120 then (some 0) else (some 1)
def fX4_append (a1 : Int32) (σ : x_S) : Option (Int32 × x_S) :=
  x_p (fX4_isFull σ) (fun r2 => if r2 = 0 then (x_g (x_in (σ 13 1) 120) (x_w (x_u σ 14 (σ 13 1).toNatClampNeg a1) (fun σ5 => x_w (x_u σ5 13 1 ((σ5 13 1) + 1)) (fun σ7 => some ((σ7 13 1), σ7))))) else (some ((σ 13 1), σ)))
def fX7_feed (a1 : Int32) (σ : x_S) : Option (Int32 × x_S) :=
  x_p (fX7_isWithin a1 0 255 σ) (fun r2 => if r2 = 0 then (some ((-1000001), σ)) else (x_p (fX4_isFull σ) (fun r5 => if r5 = 0 then (x_b (fX4_append a1 σ) (fun r8 σ9 => some (r8, σ9))) else (some ((-1000003), σ)))))
def fX4_next (σ : x_S) : Option Int32 :=
  if (σ 13 5) < 0 then (some (-1)) else (if (σ 13 1) ≤ (σ 13 5) then (some (-1)) else (if 120 ≤ (σ 13 5) then (some (-1)) else (x_g (x_in (σ 13 5) 120) (some (σ 14 (σ 13 5).toNatClampNeg)))))
def fX4_failAt (a1 : Int32) (a2 : Int32) (σ : x_S) : Option x_S :=
  if (σ 13 4) = 0 then (x_w (x_u σ 13 4 a2) (fun σ2 => x_w (x_u σ2 13 2 a2) (fun σ4 => x_w (x_u σ4 13 3 a1) (fun σ6 => some σ6)))) else (some σ)
def fX4_fail (a1 : Int32) (σ : x_S) : Option x_S :=
  x_v (fX4_failAt (σ 13 5) a1 σ) (fun σ2 => some σ2)
def bX4_readSign_13 (σ : x_S) : Option x_S :=
  x_w (x_u σ 13 5 ((σ 13 5) + 1)) (fun σ1 => some σ1)
def fX4_readSign (a1 : Int32) (σ : x_S) : Option x_S :=
  x_p (fX4_next σ) (fun r2 => if r2 = a1 then (bX4_readSign_13 σ) else (x_v (fX4_fail 1 σ) (fun σ5 => bX4_readSign_13 σ5)))
def bX4_readNumber_88 (x4 : Int32) (x5 : Int32) (σ : x_S) : Option (Int32 × x_S) :=
  x_v (fX4_failAt x5 1 σ) (fun σ2 => some (x4, σ2))
def bX4_readNumber_79 (x1 : Int32) (x2 : Int32) (x3 : Int32) (x4 : Int32) (x5 : Int32) (σ : x_S) : Option (Int32 × x_S) :=
  if x3 = 0 then (bX4_readNumber_88 x4 x5 σ) else (if x3 ≤ 2 then (x_p (fX7_isWithin x4 x1 x2 σ) (fun r4 => if r4 = 0 then (x_v (fX4_failAt x5 2 σ) (fun σ7 => some (x4, σ7))) else (some (x4, σ)))) else (bX4_readNumber_88 x4 x5 σ))
def bX4_readNumber_58 (K14 : Int32 → Int32 → Int32 → x_S → Option (Int32 × x_S)) (x1 : Int32) (x2 : Int32) (x3 : Int32) (x5 : Int32) (x6 : Int32) (y0 : Int32) (σ : x_S) : Option (Int32 × x_S) :=
  x_w (x_u σ 13 5 ((σ 13 5) + 1)) (fun σ1 => K14 (x3 + 1) y0 (x6 + 1) σ1)
def gX4_readNumber_14 (x1 : Int32) (x2 : Int32) (x5 : Int32) (K14 : Int32 → Int32 → Int32 → x_S → Option (Int32 × x_S)) (x3 : Int32) (x4 : Int32) (x6 : Int32) (σ : x_S) : Option (Int32 × x_S) :=
  if 120 ≤ x6 then (bX4_readNumber_79 x1 x2 x3 x4 x5 σ) else (x_p (fX4_next σ) (fun r3 => x_p (fX7_isWithin r3 48 57 σ) (fun r5 => if r5 = 0 then (bX4_readNumber_79 x1 x2 x3 x4 x5 σ) else (if 2 ≤ x3 then (bX4_readNumber_58 K14 x1 x2 x3 x5 x6 x4 σ) else (x_p (fX4_next σ) (fun r9 => bX4_readNumber_58 K14 x1 x2 x3 x5 x6 (((x4 * 10) + r9) - 48) σ))))))
def bX4_readNumber_14 (x1 : Int32) (x2 : Int32) (x5 : Int32) (x3 : Int32) (x4 : Int32) (x6 : Int32) (σ : x_S) : Option (Int32 × x_S) :=
  x_fx (α := Int32 → Int32 → Int32 → x_S → Option (Int32 × x_S)) (fun _ _ _ _ => none) (fun K => fun x3 x4 x6 σ => gX4_readNumber_14  x1 x2 x5 K x3 x4 x6 σ) x_F x3 x4 x6 σ
def fX4_readNumber (a1 : Int32) (a2 : Int32) (σ : x_S) : Option (Int32 × x_S) :=
  bX4_readNumber_14 a1 a2 (σ 13 5) 0 0 0 σ
def fX2_begin (c0 : Nat) (a1 : Int32) (σ : x_S) : Option x_S :=
  x_w (x_u σ c0 0 1) (fun σ1 => x_w (x_u σ1 c0 1 a1) (fun σ3 => x_w (x_u σ3 c0 2 0) (fun σ5 => x_w (x_u σ5 c0 3 0) (fun σ7 => x_w (x_u σ7 c0 4 0) (fun σ9 => x_w (x_u σ9 c0 5 0) (fun σ11 => some σ11))))))
def fX4_readLaw (c1 : Nat) (σ : x_S) : Option x_S :=
  x_v (fX4_readSign 100 σ) (fun σ2 => x_b (fX4_readNumber 1 9 σ2) (fun r4 σ5 => x_v (fX2_begin c1 r4 σ5) (fun σ7 => x_v (fX4_readSign 59 σ7) (fun σ9 => some σ9))))
def fX4_readStreet (c1 : Nat) (σ : x_S) : Option x_S :=
  if (σ c1 3) < 7 then (x_v (fX4_readSign 114 σ) (fun σ3 => x_b (fX4_readNumber 0 30 σ3) (fun r5 σ6 => x_g (x_in (σ c1 3) 7) (x_w (x_u σ6 (c1 + 1) (σ c1 3).toNatClampNeg r5) (fun σ8 => x_v (fX4_readSign 44 σ8) (fun σ11 => x_b (fX4_readNumber 0 9 σ11) (fun r13 σ14 => x_g (x_in (σ c1 3) 7) (x_w (x_u σ14 (c1 + 2) (σ c1 3).toNatClampNeg r13) (fun σ16 => x_v (fX4_readSign 59 σ16) (fun σ19 => x_w (x_u σ19 c1 3 ((σ19 c1 3) + 1)) (fun σ20 => some σ20))))))))))) else (x_v (fX4_fail 3 σ) (fun σ23 => some σ23))
def fX3_ofLetter (a0 : Int32) (σ : x_S) : Option Int32 :=
  if a0 = 98 then (some 3) else (if a0 = 107 then (some 4) else (if a0 = 110 then (some 2) else (if a0 = 115 then (some 5) else (if a0 = 119 then (some 1) else (some 0)))))
def fX4_readGesture (c1 : Nat) (σ : x_S) : Option x_S :=
  if (σ c1 5) < 6 then (x_p (fX4_next σ) (fun r3 => x_p (fX3_ofLetter r3 σ) (fun r5 => x_g (x_in (σ c1 5) 6) (x_w (x_u σ (c1 + 3) (σ c1 5).toNatClampNeg r5) (fun σ7 => x_w (x_u σ7 13 5 ((σ7 13 5) + 1)) (fun σ9 => x_b (fX4_readNumber 1 30 σ9) (fun r12 σ13 => x_g (x_in (σ c1 5) 6) (x_w (x_u σ13 (c1 + 4) (σ c1 5).toNatClampNeg r12) (fun σ15 => x_v (fX4_readSign 44 σ15) (fun σ18 => x_b (fX4_readNumber 0 3 σ18) (fun r20 σ21 => x_g (x_in (σ c1 5) 6) (x_w (x_u σ21 (c1 + 5) (σ c1 5).toNatClampNeg r20) (fun σ23 => x_v (fX4_readSign 44 σ23) (fun σ26 => x_b (fX4_readNumber 1 9 σ26) (fun r28 σ29 => x_g (x_in (σ c1 5) 6) (x_w (x_u σ29 (c1 + 6) (σ c1 5).toNatClampNeg r28) (fun σ31 => x_v (fX4_readSign 59 σ31) (fun σ34 => x_g (x_in (σ c1 5) 6) (x_w (x_u σ34 (c1 + 7) (σ c1 5).toNatClampNeg 0) (fun σ36 => x_w (x_u σ36 c1 5 ((σ36 c1 5) + 1)) (fun σ38 => some σ38))))))))))))))))))))) else (x_v (fX4_fail 3 σ) (fun σ41 => some σ41))
def bX4_reads_102 (σ : x_S) : Option (Int32 × x_S) :=
  x_w (x_u σ 13 1 0) (fun σ1 => if (σ1 13 4) = 0 then (some (1, σ1)) else (some (0, σ1)))
def bX4_reads_86 (σ : x_S) : Option (Int32 × x_S) :=
  if (σ 13 1) ≤ (σ 13 5) then (bX4_reads_102 σ) else (x_v (fX4_fail 1 σ) (fun σ3 => bX4_reads_102 σ3))
def gX4_reads_52 (c1 : Nat) (K52 : Int32 → x_S → Option (Int32 × x_S)) (x2 : Int32) (σ : x_S) : Option (Int32 × x_S) :=
  if 120 ≤ x2 then (bX4_reads_86 σ) else (if (σ 13 4) = 0 then (x_p (fX4_next σ) (fun r4 => x_p (fX3_ofLetter r4 σ) (fun r6 => if r6 = 0 then (bX4_reads_86 σ) else (x_v (fX4_readGesture c1 σ) (fun σ9 => K52 (x2 + 1) σ9))))) else (bX4_reads_86 σ))
def bX4_reads_52 (c1 : Nat) (x2 : Int32) (σ : x_S) : Option (Int32 × x_S) :=
  x_fx (α := Int32 → x_S → Option (Int32 × x_S)) (fun _ _ => none) (fun K => fun x2 σ => gX4_reads_52  c1 K x2 σ) x_F x2 σ
def gX4_reads_17 (c1 : Nat) (K17 : Int32 → x_S → Option (Int32 × x_S)) (x2 : Int32) (σ : x_S) : Option (Int32 × x_S) :=
  if 120 ≤ x2 then (bX4_reads_52 c1 0 σ) else (if (σ 13 4) = 0 then (x_p (fX4_next σ) (fun r4 => if r4 = 114 then (x_v (fX4_readStreet c1 σ) (fun σ7 => K17 (x2 + 1) σ7)) else (bX4_reads_52 c1 0 σ))) else (bX4_reads_52 c1 0 σ))
def bX4_reads_17 (c1 : Nat) (x2 : Int32) (σ : x_S) : Option (Int32 × x_S) :=
  x_fx (α := Int32 → x_S → Option (Int32 × x_S)) (fun _ _ => none) (fun K => fun x2 σ => gX4_reads_17  c1 K x2 σ) x_F x2 σ
def fX4_reads (c1 : Nat) (σ : x_S) : Option (Int32 × x_S) :=
  x_w (x_u σ 13 4 0) (fun σ1 => x_w (x_u σ1 13 5 0) (fun σ3 => x_v (fX4_readLaw c1 σ3) (fun σ6 => bX4_reads_17 c1 0 σ6)))
def fX2_become (c0 : Nat) (c1 : Nat) (σ : x_S) : Option x_S :=
  x_g ((σ c1 0) = 0 ∨ (σ c1 0) = 1) (x_w (x_u σ c0 0 (σ c1 0)) (fun σ2 => x_w (x_u σ2 c0 1 (σ2 c1 1)) (fun σ4 => x_w (x_u σ4 c0 2 (σ4 c1 2)) (fun σ6 => x_w (x_u σ6 c0 3 (σ6 c1 3)) (fun σ8 => x_w (x_u σ8 c0 4 (σ8 c1 4)) (fun σ10 => x_w (x_u σ10 c0 5 (σ10 c1 5)) (fun σ12 => x_g (¬ (0 : Int32) < 0 ∧ ¬ (0 : Int32) < 0 ∧ ¬ (7 : Int32) < 0 ∧ (0 : Int32).toNatClampNeg + (7 : Int32).toNatClampNeg ≤ 7 ∧ (0 : Int32).toNatClampNeg + (7 : Int32).toNatClampNeg ≤ 7) (x_w (x_r σ12 (c0 + 1) (va_cpy (σ12 (c1 + 1)) (σ12 (c0 + 1)) (0 : Int32).toNatClampNeg (0 : Int32).toNatClampNeg (7 : Int32).toNatClampNeg)) (fun σ15 => x_g (¬ (0 : Int32) < 0 ∧ ¬ (0 : Int32) < 0 ∧ ¬ (7 : Int32) < 0 ∧ (0 : Int32).toNatClampNeg + (7 : Int32).toNatClampNeg ≤ 7 ∧ (0 : Int32).toNatClampNeg + (7 : Int32).toNatClampNeg ≤ 7) (x_w (x_r σ15 (c0 + 2) (va_cpy (σ15 (c1 + 2)) (σ15 (c0 + 2)) (0 : Int32).toNatClampNeg (0 : Int32).toNatClampNeg (7 : Int32).toNatClampNeg)) (fun σ18 => x_g (¬ (0 : Int32) < 0 ∧ ¬ (0 : Int32) < 0 ∧ ¬ (6 : Int32) < 0 ∧ (0 : Int32).toNatClampNeg + (6 : Int32).toNatClampNeg ≤ 6 ∧ (0 : Int32).toNatClampNeg + (6 : Int32).toNatClampNeg ≤ 6) (x_w (x_r σ18 (c0 + 3) (va_cpy (σ18 (c1 + 3)) (σ18 (c0 + 3)) (0 : Int32).toNatClampNeg (0 : Int32).toNatClampNeg (6 : Int32).toNatClampNeg)) (fun σ21 => x_g (¬ (0 : Int32) < 0 ∧ ¬ (0 : Int32) < 0 ∧ ¬ (6 : Int32) < 0 ∧ (0 : Int32).toNatClampNeg + (6 : Int32).toNatClampNeg ≤ 6 ∧ (0 : Int32).toNatClampNeg + (6 : Int32).toNatClampNeg ≤ 6) (x_w (x_r σ21 (c0 + 4) (va_cpy (σ21 (c1 + 4)) (σ21 (c0 + 4)) (0 : Int32).toNatClampNeg (0 : Int32).toNatClampNeg (6 : Int32).toNatClampNeg)) (fun σ24 => x_g (¬ (0 : Int32) < 0 ∧ ¬ (0 : Int32) < 0 ∧ ¬ (6 : Int32) < 0 ∧ (0 : Int32).toNatClampNeg + (6 : Int32).toNatClampNeg ≤ 6 ∧ (0 : Int32).toNatClampNeg + (6 : Int32).toNatClampNeg ≤ 6) (x_w (x_r σ24 (c0 + 5) (va_cpy (σ24 (c1 + 5)) (σ24 (c0 + 5)) (0 : Int32).toNatClampNeg (0 : Int32).toNatClampNeg (6 : Int32).toNatClampNeg)) (fun σ27 => x_g (¬ (0 : Int32) < 0 ∧ ¬ (0 : Int32) < 0 ∧ ¬ (6 : Int32) < 0 ∧ (0 : Int32).toNatClampNeg + (6 : Int32).toNatClampNeg ≤ 6 ∧ (0 : Int32).toNatClampNeg + (6 : Int32).toNatClampNeg ≤ 6) (x_w (x_r σ27 (c0 + 6) (va_cpy (σ27 (c1 + 6)) (σ27 (c0 + 6)) (0 : Int32).toNatClampNeg (0 : Int32).toNatClampNeg (6 : Int32).toNatClampNeg)) (fun σ30 => x_g (¬ (0 : Int32) < 0 ∧ ¬ (0 : Int32) < 0 ∧ ¬ (6 : Int32) < 0 ∧ (0 : Int32).toNatClampNeg + (6 : Int32).toNatClampNeg ≤ 6 ∧ (0 : Int32).toNatClampNeg + (6 : Int32).toNatClampNeg ≤ 6) (x_w (x_r σ30 (c0 + 7) (va_cpy (σ30 (c1 + 7)) (σ30 (c0 + 7)) (0 : Int32).toNatClampNeg (0 : Int32).toNatClampNeg (6 : Int32).toNatClampNeg)) (fun σ33 => some σ33)))))))))))))))))))))
def fX0_forgetAll (σ : x_S) : Option x_S :=
  x_w (x_u σ 16 4 0) (fun σ1 => some σ1)
def fX7_city (σ : x_S) : Option (Int32 × x_S) :=
  x_b (fX4_reads 40 σ) (fun r2 σ3 => if r2 = 0 then (some (((-1000100) - (σ3 13 3)), σ3)) else (x_v (fX2_become 32 40 σ3) (fun σ6 => x_v (fX0_forgetAll σ6) (fun σ8 => some ((σ8 32 5), σ8)))))
def fX7_fault (σ : x_S) : Option Int32 :=
  some (σ 13 2)
def fX7_isGesture (a1 : Int32) (σ : x_S) : Option Int32 :=
  if a1 < 0 then (some 0) else (if (σ 32 5) ≤ a1 then (some 0) else (some 1))
def fX7_isStreet (a1 : Int32) (σ : x_S) : Option Int32 :=
  if a1 < 0 then (some 0) else (if (σ 32 3) ≤ a1 then (some 0) else (some 1))
def bX2_isSeen_41 (c0 : Nat) (x2 : Int32) (y0 : Int32) (y1 : Int32) (σ : x_S) : Option Int32 :=
  x_g (x_in x2 7) (if (y1 + y0) < (σ (c0 + 1) x2.toNatClampNeg) then (some 0) else (some 1))
def bX2_isSeen_25 (c0 : Nat) (x1 : Int32) (x2 : Int32) (y0 : Int32) (σ : x_S) : Option Int32 :=
  x_g (x_in x1 6) (if y0 = 0 then (bX2_isSeen_41 c0 x2 0 (σ (c0 + 4) x1.toNatClampNeg) σ) else (bX2_isSeen_41 c0 x2 5 (σ (c0 + 4) x1.toNatClampNeg) σ))
def fX2_isSeen (c0 : Nat) (a1 : Int32) (a2 : Int32) (σ : x_S) : Option Int32 :=
  x_g (x_in a1 6) (if (σ (c0 + 3) a1.toNatClampNeg) = 4 then (bX2_isSeen_25 c0 a1 a2 1 σ) else (x_g (x_in a1 6) (if (σ (c0 + 3) a1.toNatClampNeg) = 5 then (bX2_isSeen_25 c0 a1 a2 1 σ) else (bX2_isSeen_25 c0 a1 a2 0 σ))))
def fX2_owesUnknown (c0 : Nat) (a1 : Int32) (a2 : Int32) (a3 : Int32) (σ : x_S) : Option Int32 :=
  x_g (x_in a3 7) (if a1 = 1 then (some ((a2 * (σ c0 1)) + ((a2 * (σ (c0 + 2) a3.toNatClampNeg)) / 10))) else (if a1 = 2 then (some (((a2 * (σ c0 1)) + ((a2 * (σ (c0 + 2) a3.toNatClampNeg)) / 10)) / 2)) else (if a1 = 3 then (some (((a2 * (σ c0 1)) + ((a2 * (σ (c0 + 2) a3.toNatClampNeg)) / 10)) + ((σ c0 1) * (if 0 < (a2 - 10) then (a2 - 10) else 0)))) else (if a1 = 4 then (some 1) else (if a1 = 5 then (x_g (x_in a3 7) (if (σ (c0 + 2) a3.toNatClampNeg) < 5 then (some 1) else (some ((a2 * (σ c0 1)) + ((a2 * (σ (c0 + 2) a3.toNatClampNeg)) / 10))))) else (some 1))))))
def fX2_isKnown (c0 : Nat) (a1 : Int32) (σ : x_S) : Option Int32 :=
  if (((σ c0 4) >>> (a1 &&& 31)) &&& 1) = 1 then (some 1) else (some 0)
def fX2_owesSuch (c0 : Nat) (a1 : Int32) (a2 : Int32) (a3 : Int32) (σ : x_S) : Option Int32 :=
  x_p (fX2_owesUnknown c0 a1 a2 a3 σ) (fun r2 => x_p (fX2_isKnown c0 a3 σ) (fun r4 => if r4 = 0 then (some r2) else (some (r2 / 2))))
def fX2_owes (c0 : Nat) (a1 : Int32) (a2 : Int32) (σ : x_S) : Option Int32 :=
  x_g (x_in a1 6) (x_g (x_in a1 6) (x_p (fX2_owesSuch c0 (σ (c0 + 3) a1.toNatClampNeg) (σ (c0 + 4) a1.toNatClampNeg) a2 σ) (fun r4 => some r4)))
def fX0_keep (a1 : Int32) (a2 : Int32) (a3 : Int32) (σ : x_S) : Option x_S :=
  x_g (x_in (σ 16 3) 24) (x_w (x_u σ 17 (σ 16 3).toNatClampNeg a1) (fun σ2 => x_g (x_in (σ2 16 3) 24) (x_w (x_u σ2 18 (σ2 16 3).toNatClampNeg a2) (fun σ5 => x_g (x_in (σ5 16 3) 24) (x_w (x_u σ5 19 (σ5 16 3).toNatClampNeg a3) (fun σ8 => x_w (x_u σ8 16 3 (((σ8 16 3) + 1) - ((σ8 16 3) + 1) / 24 * 24)) (fun σ10 => x_w (x_u σ10 16 4 (if 24 < ((σ10 16 4) + 1) then 24 else ((σ10 16 4) + 1))) (fun σ12 => some σ12))))))))
def fX7_make (a1 : Int32) (a2 : Int32) (σ : x_S) : Option (Int32 × x_S) :=
  x_p (fX7_isGesture a1 σ) (fun r2 => if r2 = 0 then (some ((-1000001), σ)) else (x_p (fX7_isStreet a2 σ) (fun r5 => if r5 = 0 then (some ((-1000001), σ)) else (x_p (fX2_isSeen 32 a1 a2 σ) (fun r8 => if r8 = 0 then (some ((-1000002), σ)) else (x_p (fX2_owes 32 a1 a2 σ) (fun r11 => if ((σ 32 2) + r11) ≤ 99999 then (x_g (x_in a1 6) (x_g (x_in a1 6) (x_w (x_u σ 39 a1.toNatClampNeg ((σ 39 a1.toNatClampNeg) + 1)) (fun σ15 => x_w (x_u σ15 32 2 ((σ15 32 2) + r11)) (fun σ17 => x_v (fX0_keep 0 a1 r11 σ17) (fun σ20 => some ((σ20 32 2), σ20))))))) else (some ((-1000003), σ)))))))))
def fX7_dim (a1 : Int32) (a2 : Int32) (σ : x_S) : Option (Int32 × x_S) :=
  x_p (fX7_isStreet a1 σ) (fun r2 => if r2 = 0 then (some ((-1000001), σ)) else (x_p (fX7_isWithin a2 0 30 σ) (fun r5 => if r5 = 0 then (some ((-1000001), σ)) else (x_g (x_in a1 7) (x_g (x_in a1 7) (x_w (x_u σ 33 a1.toNatClampNeg a2) (fun σ9 => x_v (fX0_keep 1 a1 (σ 33 a1.toNatClampNeg) σ9) (fun σ12 => some ((σ 33 a1.toNatClampNeg), σ12)))))))))
def fX7_train (a1 : Int32) (a2 : Int32) (σ : x_S) : Option (Int32 × x_S) :=
  x_p (fX7_isGesture a1 σ) (fun r2 => if r2 = 0 then (some ((-1000001), σ)) else (x_p (fX7_isWithin a2 1 29 σ) (fun r5 => if r5 = 0 then (some ((-1000001), σ)) else (x_g (x_in a1 6) (if 1 ≤ ((σ 36 a1.toNatClampNeg) - a2) then (x_g (x_in a1 6) (x_g (x_in a1 6) (x_w (x_u σ 36 a1.toNatClampNeg ((σ 36 a1.toNatClampNeg) - a2)) (fun σ11 => x_v (fX0_keep 2 a1 a2 σ11) (fun σ14 => x_g (x_in a1 6) (some ((σ14 36 a1.toNatClampNeg), σ14))))))) else (some ((-1000002), σ)))))))
def fX2_turnKnown (c0 : Nat) (a1 : Int32) (σ : x_S) : Option x_S :=
  x_w (x_u σ c0 4 ((σ c0 4) ^^^ (1 <<< (a1 &&& 31)))) (fun σ1 => some σ1)
def bX7_know_38 (x1 : Int32) (y0 : Int32) (y1 : Int32) (σ : x_S) : Option (Int32 × x_S) :=
  if y1 = y0 then (some ((-1000002), σ)) else (x_v (fX2_turnKnown 32 x1 σ) (fun σ3 => x_v (fX0_keep 3 x1 0 σ3) (fun σ5 => some ((σ5 32 4), σ5))))
def fX7_know (a1 : Int32) (a2 : Int32) (σ : x_S) : Option (Int32 × x_S) :=
  x_p (fX7_isStreet a1 σ) (fun r2 => if r2 = 0 then (some ((-1000001), σ)) else (x_p (fX7_isWithin a2 0 1 σ) (fun r5 => if r5 = 0 then (some ((-1000001), σ)) else (x_p (fX2_isKnown 32 a1 σ) (fun r8 => if a2 = 1 then (bX7_know_38 a1 1 r8 σ) else (bX7_know_38 a1 0 r8 σ))))))
def fX0_takeBack (c1 : Nat) (σ : x_S) : Option x_S :=
  x_w (x_u σ 16 3 ((((σ 16 3) + 24) - 1) - (((σ 16 3) + 24) - 1) / 24 * 24)) (fun σ1 => x_w (x_u σ1 16 4 ((σ1 16 4) - 1)) (fun σ3 => x_g (x_in (σ3 16 3) 24) (x_g (x_in (σ3 16 3) 24) (x_g (x_in (σ3 16 3) 24) (if (σ3 17 (σ3 16 3).toNatClampNeg) = 0 then (x_g (x_in (σ3 18 (σ3 16 3).toNatClampNeg) 6) (x_g (x_in (σ3 18 (σ3 16 3).toNatClampNeg) 6) (x_w (x_u σ3 (c1 + 7) (σ3 18 (σ3 16 3).toNatClampNeg).toNatClampNeg ((σ3 (c1 + 7) (σ3 18 (σ3 16 3).toNatClampNeg).toNatClampNeg) - 1)) (fun σ11 => x_w (x_u σ11 c1 2 ((σ11 c1 2) - (σ3 19 (σ3 16 3).toNatClampNeg))) (fun σ13 => some σ13))))) else (if (σ3 17 (σ3 16 3).toNatClampNeg) = 1 then (x_g (x_in (σ3 18 (σ3 16 3).toNatClampNeg) 7) (x_w (x_u σ3 (c1 + 1) (σ3 18 (σ3 16 3).toNatClampNeg).toNatClampNeg (σ3 19 (σ3 16 3).toNatClampNeg)) (fun σ17 => some σ17))) else (if (σ3 17 (σ3 16 3).toNatClampNeg) = 2 then (x_g (x_in (σ3 18 (σ3 16 3).toNatClampNeg) 6) (x_g (x_in (σ3 18 (σ3 16 3).toNatClampNeg) 6) (x_w (x_u σ3 (c1 + 4) (σ3 18 (σ3 16 3).toNatClampNeg).toNatClampNeg ((σ3 (c1 + 4) (σ3 18 (σ3 16 3).toNatClampNeg).toNatClampNeg) + (σ3 19 (σ3 16 3).toNatClampNeg))) (fun σ22 => some σ22)))) else (if (σ3 17 (σ3 16 3).toNatClampNeg) = 3 then (x_v (fX2_turnKnown c1 (σ3 18 (σ3 16 3).toNatClampNeg) σ3) (fun σ26 => some σ26)) else (some σ3)))))))))
def fX7_undo (σ : x_S) : Option (Int32 × x_S) :=
  if (σ 16 4) = 0 then (some ((-1000002), σ)) else (x_v (fX0_takeBack 32 σ) (fun σ3 => some ((σ3 16 4), σ3)))
def gX2_streetsThatSee_4 (c0 : Nat) (x1 : Int32) (K4 : Int32 → Int32 → Option Int32) (x2 : Int32) (x3 : Int32) (σ : x_S) : Option Int32 :=
  if (σ c0 3) ≤ x3 then (some x2) else (x_p (fX2_isSeen c0 x1 x3 σ) (fun r3 => if r3 = 0 then (K4 (x2 ||| 0) (x3 + 1)) else (K4 (x2 ||| (1 <<< (x3 &&& 31))) (x3 + 1))))
def bX2_streetsThatSee_4 (c0 : Nat) (x1 : Int32) (x2 : Int32) (x3 : Int32) (σ : x_S) : Option Int32 :=
  x_fx (α := Int32 → Int32 → Option Int32) (fun _ _ => none) (fun K => fun x2 x3 => gX2_streetsThatSee_4  c0 x1 K x2 x3 σ) x_F x2 x3
def fX2_streetsThatSee (c0 : Nat) (a1 : Int32) (σ : x_S) : Option Int32 :=
  bX2_streetsThatSee_4 c0 a1 0 0 σ
def fX7_gesture (a1 : Int32) (a2 : Int32) (σ : x_S) : Option Int32 :=
  x_p (fX7_isGesture a1 σ) (fun r2 => if r2 = 0 then (some (-1000001)) else (if a2 = 0 then (x_g (x_in a1 6) (some (σ 36 a1.toNatClampNeg))) else (if a2 = 1 then (x_g (x_in a1 6) (some (σ 37 a1.toNatClampNeg))) else (if a2 = 2 then (x_g (x_in a1 6) (some (σ 38 a1.toNatClampNeg))) else (if a2 = 3 then (x_p (fX2_streetsThatSee 32 a1 σ) (fun r12 => some r12)) else (if a2 = 4 then (x_g (x_in a1 6) (some (σ 39 a1.toNatClampNeg))) else (some (-1000001))))))))
def gX2_gesturesSeenIn_4 (c0 : Nat) (x1 : Int32) (K4 : Int32 → Int32 → Option Int32) (x2 : Int32) (x3 : Int32) (σ : x_S) : Option Int32 :=
  if (σ c0 5) ≤ x3 then (some x2) else (x_p (fX2_isSeen c0 x3 x1 σ) (fun r3 => if r3 = 0 then (K4 (x2 ||| 0) (x3 + 1)) else (K4 (x2 ||| (1 <<< (x3 &&& 31))) (x3 + 1))))
def bX2_gesturesSeenIn_4 (c0 : Nat) (x1 : Int32) (x2 : Int32) (x3 : Int32) (σ : x_S) : Option Int32 :=
  x_fx (α := Int32 → Int32 → Option Int32) (fun _ _ => none) (fun K => fun x2 x3 => gX2_gesturesSeenIn_4  c0 x1 K x2 x3 σ) x_F x2 x3
def fX2_gesturesSeenIn (c0 : Nat) (a1 : Int32) (σ : x_S) : Option Int32 :=
  bX2_gesturesSeenIn_4 c0 a1 0 0 σ
def fX7_street (a1 : Int32) (a2 : Int32) (σ : x_S) : Option Int32 :=
  x_p (fX7_isStreet a1 σ) (fun r2 => if r2 = 0 then (some (-1000001)) else (if a2 = 0 then (x_g (x_in a1 7) (some (σ 33 a1.toNatClampNeg))) else (if a2 = 1 then (x_g (x_in a1 7) (some (σ 34 a1.toNatClampNeg))) else (if a2 = 2 then (x_p (fX2_isKnown 32 a1 σ) (fun r10 => if r10 = 0 then (some 0) else (some 1))) else (if a2 = 3 then (x_p (fX2_gesturesSeenIn 32 a1 σ) (fun r14 => some r14)) else (some (-1000001)))))))
def fX7_duty (a1 : Int32) (a2 : Int32) (σ : x_S) : Option Int32 :=
  x_p (fX7_isGesture a1 σ) (fun r2 => if r2 = 0 then (some (-1000001)) else (x_p (fX7_isStreet a2 σ) (fun r5 => if r5 = 0 then (some (-1000001)) else (x_p (fX2_owes 32 a1 a2 σ) (fun r8 => some r8)))))
def fX7_isMeaning (a0 : Int32) (σ : x_S) : Option Int32 :=
  x_p (fX7_isWithin a0 0 3 σ) (fun r2 => x_g (r2 &&& 1 = r2) (some r2))
def fX7_isStretch (a1 : Int32) (a2 : Int32) (σ : x_S) : Option Int32 :=
  x_p (fX7_isStreet a1 σ) (fun r2 => if r2 = 0 then (some 0) else (x_p (fX7_isStreet a2 σ) (fun r5 => if r5 = 0 then (some 0) else (if a2 < a1 then (some 0) else (some 1)))))
def fX2_tells (c0 : Nat) (a1 : Int32) (a2 : Int32) (a3 : Int32) (σ : x_S) : Option Int32 :=
  x_g (x_in a1 6) (if (σ (c0 + 5) a1.toNatClampNeg) = a2 then (x_p (fX2_isSeen c0 a1 a3 σ) (fun r4 => if r4 = 0 then (some 0) else (some 1))) else (some 0))
def gX6_offer_3 (x1 : Int32) (x2 : Int32) (x3 : Int32) (x4 : Int32) (K3 : Int32 → x_S → Option x_S) (x5 : Int32) (σ : x_S) : Option x_S :=
  if x4 < x5 then (some σ) else (x_g (x_in x3 8) (x_g (x_in x3 8) (x_g (x_in x5 100) (x_g (x_in (x3 + 1) 8) (x_g (x_in (x5 - x2) 100) (x_g (x_in x5 100) (x_w (x_u σ (22 + x3.toNatClampNeg) x5.toNatClampNeg (if (x1 + (σ (22 + (x3 + 1).toNatClampNeg) (x5 - x2).toNatClampNeg)) < (σ (22 + x3.toNatClampNeg) x5.toNatClampNeg) then (x1 + (σ (22 + (x3 + 1).toNatClampNeg) (x5 - x2).toNatClampNeg)) else (σ (22 + x3.toNatClampNeg) x5.toNatClampNeg))) (fun σ8 => K3 (x5 + 1) σ8))))))))
def bX6_offer_3 (x1 : Int32) (x2 : Int32) (x3 : Int32) (x4 : Int32) (x5 : Int32) (σ : x_S) : Option x_S :=
  x_fx (α := Int32 → x_S → Option x_S) (fun _ _ => none) (fun K => fun x5 σ => gX6_offer_3  x1 x2 x3 x4 K x5 σ) x_F x5 σ
def fX6_offer (a1 : Int32) (a2 : Int32) (a3 : Int32) (a4 : Int32) (σ : x_S) : Option x_S :=
  bX6_offer_3 a1 a2 a3 a4 a2 σ
def gX6_fill_70 (K33 : Int32 → x_S → Option x_S) (c1 : Nat) (x2 : Int32) (x3 : Int32) (x5 : Int32) (x6 : Int32) (K70 : Int32 → x_S → Option x_S) (x7 : Int32) (σ : x_S) : Option x_S :=
  if (σ c1 5) ≤ x7 then (K33 (x6 + (-1)) σ) else (x_p (fX2_tells c1 x7 x2 x6 σ) (fun r3 => if r3 = 0 then (K70 (x7 + 1) σ) else (x_p (fX2_owes c1 x7 x6 σ) (fun r6 => x_g (x_in x7 6) (x_v (fX6_offer r6 (σ (c1 + 6) x7.toNatClampNeg) x6 x5 σ) (fun σ9 => K70 (x7 + 1) σ9))))))
def bX6_fill_70 (K33 : Int32 → x_S → Option x_S) (c1 : Nat) (x2 : Int32) (x3 : Int32) (x5 : Int32) (x6 : Int32) (x7 : Int32) (σ : x_S) : Option x_S :=
  x_fx (α := Int32 → x_S → Option x_S) (fun _ _ => none) (fun K => fun x7 σ => gX6_fill_70 K33 c1 x2 x3 x5 x6 K x7 σ) x_F x7 σ
def gX6_fill_42 (K33 : Int32 → x_S → Option x_S) (c1 : Nat) (x2 : Int32) (x3 : Int32) (x5 : Int32) (x6 : Int32) (K42 : Int32 → x_S → Option x_S) (x7 : Int32) (σ : x_S) : Option x_S :=
  if x5 < x7 then (bX6_fill_70 K33 c1 x2 x3 x5 x6 0 σ) else (x_g (x_in x6 8) (x_g (x_in x7 100) (x_w (x_u σ (22 + x6.toNatClampNeg) x7.toNatClampNeg 1000000) (fun σ4 => K42 (x7 + 1) σ4))))
def bX6_fill_42 (K33 : Int32 → x_S → Option x_S) (c1 : Nat) (x2 : Int32) (x3 : Int32) (x5 : Int32) (x6 : Int32) (x7 : Int32) (σ : x_S) : Option x_S :=
  x_fx (α := Int32 → x_S → Option x_S) (fun _ _ => none) (fun K => fun x7 σ => gX6_fill_42 K33 c1 x2 x3 x5 x6 K x7 σ) x_F x7 σ
def gX6_fill_33 (c1 : Nat) (x2 : Int32) (x3 : Int32) (x5 : Int32) (K33 : Int32 → x_S → Option x_S) (x6 : Int32) (σ : x_S) : Option x_S :=
  if x6 < x3 then (some σ) else (bX6_fill_42 K33 c1 x2 x3 x5 x6 0 σ)
def bX6_fill_33 (c1 : Nat) (x2 : Int32) (x3 : Int32) (x5 : Int32) (x6 : Int32) (σ : x_S) : Option x_S :=
  x_fx (α := Int32 → x_S → Option x_S) (fun _ _ => none) (fun K => fun x6 σ => gX6_fill_33  c1 x2 x3 x5 K x6 σ) x_F x6 σ
def gX6_fill_3 (c1 : Nat) (x2 : Int32) (x3 : Int32) (x4 : Int32) (x5 : Int32) (K3 : Int32 → x_S → Option x_S) (x6 : Int32) (σ : x_S) : Option x_S :=
  if x5 < x6 then (bX6_fill_33 c1 x2 x3 x5 x4 σ) else (x_g (x_in (x4 + 1) 8) (x_g (x_in x6 100) (x_w (x_u σ (22 + (x4 + 1).toNatClampNeg) x6.toNatClampNeg 0) (fun σ4 => K3 (x6 + 1) σ4))))
def bX6_fill_3 (c1 : Nat) (x2 : Int32) (x3 : Int32) (x4 : Int32) (x5 : Int32) (x6 : Int32) (σ : x_S) : Option x_S :=
  x_fx (α := Int32 → x_S → Option x_S) (fun _ _ => none) (fun K => fun x6 σ => gX6_fill_3  c1 x2 x3 x4 x5 K x6 σ) x_F x6 σ
def fX6_fill (c1 : Nat) (a2 : Int32) (a3 : Int32) (a4 : Int32) (a5 : Int32) (σ : x_S) : Option x_S :=
  bX6_fill_3 c1 a2 a3 a4 a5 0 σ
def fX6_leastDuty (c1 : Nat) (a2 : Int32) (a3 : Int32) (a4 : Int32) (a5 : Int32) (σ : x_S) : Option (Int32 × x_S) :=
  x_v (fX6_fill c1 a2 a3 a4 a5 σ) (fun σ2 => x_g (x_in a3 8) (x_g (x_in a5 100) (if 1000000 ≤ (σ2 (22 + a3.toNatClampNeg) a5.toNatClampNeg) then (some ((-1000000), σ2)) else (x_g (x_in a3 8) (x_g (x_in a5 100) (some ((σ2 (22 + a3.toNatClampNeg) a5.toNatClampNeg), σ2)))))))
def gX6_firstOfCheapest_3 (c1 : Nat) (x2 : Int32) (x3 : Int32) (x4 : Int32) (K3 : Int32 → Option Int32) (x5 : Int32) (σ : x_S) : Option Int32 :=
  if (σ c1 5) ≤ x5 then (some (-1000000)) else (x_g (x_in x5 6) (if (x4 - (σ (c1 + 6) x5.toNatClampNeg)) < 0 then (K3 (x5 + 1)) else (x_p (fX2_tells c1 x5 x2 x3 σ) (fun r5 => if r5 = 0 then (K3 (x5 + 1)) else (x_p (fX2_owes c1 x5 x3 σ) (fun r8 => x_g (x_in (x3 + 1) 8) (x_g (x_in (x4 - (σ (c1 + 6) x5.toNatClampNeg)) 100) (x_g (x_in x3 8) (x_g (x_in x4 100) (if (r8 + (σ (22 + (x3 + 1).toNatClampNeg) (x4 - (σ (c1 + 6) x5.toNatClampNeg)).toNatClampNeg)) = (σ (22 + x3.toNatClampNeg) x4.toNatClampNeg) then (some x5) else (K3 (x5 + 1))))))))))))
def bX6_firstOfCheapest_3 (c1 : Nat) (x2 : Int32) (x3 : Int32) (x4 : Int32) (x5 : Int32) (σ : x_S) : Option Int32 :=
  x_fx (α := Int32 → Option Int32) (fun _ => none) (fun K => fun x5 => gX6_firstOfCheapest_3  c1 x2 x3 x4 K x5 σ) x_F x5
def fX6_firstOfCheapest (c1 : Nat) (a2 : Int32) (a3 : Int32) (a4 : Int32) (σ : x_S) : Option Int32 :=
  bX6_firstOfCheapest_3 c1 a2 a3 a4 0 σ
def gX6_gestureOfCheapest_48 (c1 : Nat) (x2 : Int32) (x3 : Int32) (x6 : Int32) (K48 : Int32 → Int32 → Int32 → x_S → Option (Int32 × x_S)) (x7 : Int32) (x8 : Int32) (x9 : Int32) (σ : x_S) : Option (Int32 × x_S) :=
  if (x3 + x6) < x9 then (some (x8, σ)) else (x_p (fX6_firstOfCheapest c1 x2 x9 x7 σ) (fun r3 => if r3 = (-1000000) then (some ((-1000000), σ)) else (x_g (x_in r3 6) (K48 (x7 - (σ (c1 + 6) r3.toNatClampNeg)) r3 (x9 + 1) σ))))
def bX6_gestureOfCheapest_48 (c1 : Nat) (x2 : Int32) (x3 : Int32) (x6 : Int32) (x7 : Int32) (x8 : Int32) (x9 : Int32) (σ : x_S) : Option (Int32 × x_S) :=
  x_fx (α := Int32 → Int32 → Int32 → x_S → Option (Int32 × x_S)) (fun _ _ _ _ => none) (fun K => fun x7 x8 x9 σ => gX6_gestureOfCheapest_48  c1 x2 x3 x6 K x7 x8 x9 σ) x_F x7 x8 x9 σ
def fX6_gestureOfCheapest (c1 : Nat) (a2 : Int32) (a3 : Int32) (a4 : Int32) (a5 : Int32) (a6 : Int32) (σ : x_S) : Option (Int32 × x_S) :=
  x_v (fX6_fill c1 a2 a3 a4 a5 σ) (fun σ2 => if (a4 - a3) < a6 then (some ((-1000000), σ2)) else (x_g (x_in a3 8) (x_g (x_in a5 100) (if (σ2 (22 + a3.toNatClampNeg) a5.toNatClampNeg) < 1000000 then (bX6_gestureOfCheapest_48 c1 a2 a3 a6 a5 (-1000000) a3 σ2) else (some ((-1000000), σ2))))))
def fX7_tell (a1 : Int32) (a2 : Int32) (a3 : Int32) (a4 : Int32) (a5 : Int32) (σ : x_S) : Option (Int32 × x_S) :=
  x_p (fX7_isMeaning a1 σ) (fun r2 => if r2 = 0 then (some ((-1000001), σ)) else (x_p (fX7_isStretch a2 a3 σ) (fun r5 => if r5 = 0 then (some ((-1000001), σ)) else (x_p (fX7_isWithin a4 0 99 σ) (fun r8 => if r8 = 0 then (some ((-1000001), σ)) else (x_p (fX7_isWithin a5 (-1) 6 σ) (fun r11 => if r11 = 0 then (some ((-1000001), σ)) else (if 0 ≤ a5 then (x_b (fX6_gestureOfCheapest 32 a1 a2 a3 a4 a5 σ) (fun r15 σ16 => some (r15, σ16))) else (x_b (fX6_leastDuty 32 a1 a2 a3 a4 σ) (fun r18 σ19 => some (r18, σ19)))))))))))
def bX2_leastTime_43 (K6 : Int32 → Int32 → Option Int32) (c0 : Nat) (x1 : Int32) (x2 : Int32) (x4 : Int32) (σ : x_S) : Option Int32 :=
  x_g (x_in x4 6) (K6 (σ (c0 + 6) x4.toNatClampNeg) (x4 + 1))
def gX2_leastTime_6 (c0 : Nat) (x1 : Int32) (x2 : Int32) (K6 : Int32 → Int32 → Option Int32) (x3 : Int32) (x4 : Int32) (σ : x_S) : Option Int32 :=
  if (σ c0 5) ≤ x4 then (some x3) else (x_p (fX2_tells c0 x4 x1 x2 σ) (fun r3 => if r3 = 0 then (K6 x3 (x4 + 1)) else (if x3 = (-1000000) then (bX2_leastTime_43 K6 c0 x1 x2 x4 σ) else (x_g (x_in x4 6) (if x3 ≤ (σ (c0 + 6) x4.toNatClampNeg) then (K6 x3 (x4 + 1)) else (bX2_leastTime_43 K6 c0 x1 x2 x4 σ))))))
def bX2_leastTime_6 (c0 : Nat) (x1 : Int32) (x2 : Int32) (x3 : Int32) (x4 : Int32) (σ : x_S) : Option Int32 :=
  x_fx (α := Int32 → Int32 → Option Int32) (fun _ _ => none) (fun K => fun x3 x4 => gX2_leastTime_6  c0 x1 x2 K x3 x4 σ) x_F x3 x4
def fX2_leastTime (c0 : Nat) (a1 : Int32) (a2 : Int32) (σ : x_S) : Option Int32 :=
  bX2_leastTime_6 c0 a1 a2 (-1000000) 0 σ
def gX2_streetsWithout_4 (c0 : Nat) (x1 : Int32) (K4 : Int32 → Int32 → Option Int32) (x2 : Int32) (x3 : Int32) (σ : x_S) : Option Int32 :=
  if (σ c0 3) ≤ x3 then (some x2) else (x_p (fX2_leastTime c0 x1 x3 σ) (fun r3 => if r3 = (-1000000) then (K4 (x2 ||| (1 <<< (x3 &&& 31))) (x3 + 1)) else (K4 (x2 ||| 0) (x3 + 1))))
def bX2_streetsWithout_4 (c0 : Nat) (x1 : Int32) (x2 : Int32) (x3 : Int32) (σ : x_S) : Option Int32 :=
  x_fx (α := Int32 → Int32 → Option Int32) (fun _ _ => none) (fun K => fun x2 x3 => gX2_streetsWithout_4  c0 x1 K x2 x3 σ) x_F x2 x3
def fX2_streetsWithout (c0 : Nat) (a1 : Int32) (σ : x_S) : Option Int32 :=
  bX2_streetsWithout_4 c0 a1 0 0 σ
def fX7_shut (a1 : Int32) (σ : x_S) : Option Int32 :=
  if (σ 32 0) = 0 then (some (-1000002)) else (x_p (fX7_isMeaning a1 σ) (fun r3 => if r3 = 0 then (some (-1000001)) else (x_p (fX2_streetsWithout 32 a1 σ) (fun r6 => some r6))))
def gX7_quick_25 (x1 : Int32) (x3 : Int32) (K25 : Int32 → Int32 → Option Int32) (x4 : Int32) (x5 : Int32) (σ : x_S) : Option Int32 :=
  if x3 < x5 then (some x4) else (x_p (fX2_leastTime 32 x1 x5 σ) (fun r3 => if r3 = (-1000000) then (some (-1000000)) else (K25 (x4 + r3) (x5 + 1))))
def bX7_quick_25 (x1 : Int32) (x3 : Int32) (x4 : Int32) (x5 : Int32) (σ : x_S) : Option Int32 :=
  x_fx (α := Int32 → Int32 → Option Int32) (fun _ _ => none) (fun K => fun x4 x5 => gX7_quick_25  x1 x3 K x4 x5 σ) x_F x4 x5
def fX7_quick (a1 : Int32) (a2 : Int32) (a3 : Int32) (σ : x_S) : Option Int32 :=
  x_p (fX7_isMeaning a1 σ) (fun r2 => if r2 = 0 then (some (-1000001)) else (x_p (fX7_isStretch a2 a3 σ) (fun r5 => if r5 = 0 then (some (-1000001)) else (bX7_quick_25 a1 a3 0 a2 σ))))
def fX5_at (a1 : Int32) (a2 : Int32) (σ : x_S) : Option Int32 :=
  x_g (x_in a1 8) (x_g (x_in a2 40) (some (σ (3 + a1.toNatClampNeg) a2.toNatClampNeg)))
def gX7_refusalOfThread_49 (x1 : Int32) (x2 : Int32) (x3 : Int32) (K49 : Int32 → x_S → Option (Int32 × x_S)) (x5 : Int32) (σ : x_S) : Option (Int32 × x_S) :=
  if x3 ≤ x5 then (some (0, σ)) else (x_p (fX5_at x1 (x2 + (2 * x5)) σ) (fun r3 => x_p (fX7_isStreet r3 σ) (fun r5 => if r5 = 0 then (some ((-1000001), σ)) else (K49 (x5 + 1) σ))))
def bX7_refusalOfThread_49 (x1 : Int32) (x2 : Int32) (x3 : Int32) (x5 : Int32) (σ : x_S) : Option (Int32 × x_S) :=
  x_fx (α := Int32 → x_S → Option (Int32 × x_S)) (fun _ _ => none) (fun K => fun x5 σ => gX7_refusalOfThread_49  x1 x2 x3 K x5 σ) x_F x5 σ
def fX7_refusalOfThread (a1 : Int32) (a2 : Int32) (a3 : Int32) (σ : x_S) : Option (Int32 × x_S) :=
  x_p (fX5_isRow a1 σ) (fun r2 => if r2 = 0 then (some ((-1000001), σ)) else (x_p (fX7_isWithin a3 1 12 σ) (fun r5 => if r5 = 0 then (some ((-1000001), σ)) else (x_p (fX5_findingOf a1 a2 (2 * a3) σ) (fun r8 => if r8 = 0 then (bX7_refusalOfThread_49 a1 a2 a3 0 σ) else (x_b (fX7_found r8 σ) (fun r11 σ12 => some (r11, σ12))))))))
def gX7_owesAlong_3 (x1 : Int32) (x2 : Int32) (x3 : Int32) (x4 : Int32) (x5 : Int32) (K3 : Int32 → Option Int32) (x6 : Int32) (σ : x_S) : Option Int32 :=
  if x5 ≤ x6 then (some 1) else (x_p (fX5_at x3 (x4 + (2 * x6)) σ) (fun r3 => x_p (fX5_at x3 ((x4 + (2 * x6)) + 1) σ) (fun r5 => x_p (fX7_isStreet r3 σ) (fun r7 => if r7 = 0 then (some 0) else (x_p (fX2_owesSuch 32 x1 x2 r3 σ) (fun r10 => if r10 = r5 then (K3 (x6 + 1)) else (some 0)))))))
def bX7_owesAlong_3 (x1 : Int32) (x2 : Int32) (x3 : Int32) (x4 : Int32) (x5 : Int32) (x6 : Int32) (σ : x_S) : Option Int32 :=
  x_fx (α := Int32 → Option Int32) (fun _ => none) (fun K => fun x6 => gX7_owesAlong_3  x1 x2 x3 x4 x5 K x6 σ) x_F x6
def fX7_owesAlong (a1 : Int32) (a2 : Int32) (a3 : Int32) (a4 : Int32) (a5 : Int32) (σ : x_S) : Option Int32 :=
  bX7_owesAlong_3 a1 a2 a3 a4 a5 0 σ
def gX7_isSeenAlong_3 (x1 : Int32) (x2 : Int32) (x3 : Int32) (x4 : Int32) (K3 : Int32 → Option Int32) (x5 : Int32) (σ : x_S) : Option Int32 :=
  if x4 ≤ x5 then (some 1) else (x_p (fX5_at x2 (x3 + (2 * x5)) σ) (fun r3 => x_p (fX7_isStreet r3 σ) (fun r5 => if r5 = 0 then (some 0) else (x_p (fX2_isSeen 32 x1 r3 σ) (fun r8 => if r8 = 0 then (some 0) else (K3 (x5 + 1)))))))
def bX7_isSeenAlong_3 (x1 : Int32) (x2 : Int32) (x3 : Int32) (x4 : Int32) (x5 : Int32) (σ : x_S) : Option Int32 :=
  x_fx (α := Int32 → Option Int32) (fun _ => none) (fun K => fun x5 => gX7_isSeenAlong_3  x1 x2 x3 x4 K x5 σ) x_F x5
def fX7_isSeenAlong (a1 : Int32) (a2 : Int32) (a3 : Int32) (a4 : Int32) (σ : x_S) : Option Int32 :=
  bX7_isSeenAlong_3 a1 a2 a3 a4 0 σ
def gX7_thread_36 (x1 : Int32) (x2 : Int32) (x3 : Int32) (K36 : Int32 → Int32 → x_S → Option (Int32 × x_S)) (x5 : Int32) (x6 : Int32) (σ : x_S) : Option (Int32 × x_S) :=
  if (σ 32 5) ≤ x6 then (x_b (fX7_foundNothing x5 σ) (fun r3 σ4 => some (r3, σ4))) else (x_g (x_in x6 6) (x_g (x_in x6 6) (x_p (fX7_owesAlong (σ 35 x6.toNatClampNeg) (σ 36 x6.toNatClampNeg) x1 x2 x3 σ) (fun r8 => if r8 = 0 then (K36 x5 (x6 + 1) σ) else (x_p (fX7_isSeenAlong x6 x1 x2 x3 σ) (fun r11 => if r11 = 0 then (K36 x5 (x6 + 1) σ) else (K36 (x5 ||| (1 <<< (x6 &&& 31))) (x6 + 1) σ)))))))
def bX7_thread_36 (x1 : Int32) (x2 : Int32) (x3 : Int32) (x5 : Int32) (x6 : Int32) (σ : x_S) : Option (Int32 × x_S) :=
  x_fx (α := Int32 → Int32 → x_S → Option (Int32 × x_S)) (fun _ _ _ => none) (fun K => fun x5 x6 σ => gX7_thread_36  x1 x2 x3 K x5 x6 σ) x_F x5 x6 σ
def fX7_thread (a1 : Int32) (a2 : Int32) (a3 : Int32) (σ : x_S) : Option (Int32 × x_S) :=
  if (σ 32 0) = 0 then (some ((-1000002), σ)) else (x_b (fX7_refusalOfThread a1 a2 a3 σ) (fun r3 σ4 => if r3 = 0 then (bX7_thread_36 a1 a2 a3 0 0 σ4) else (some (r3, σ4))))
def gX7_inches_37 (x1 : Int32) (x2 : Int32) (x3 : Int32) (x4 : Int32) (K37 : Int32 → Int32 → x_S → Option (Int32 × x_S)) (x6 : Int32) (x7 : Int32) (σ : x_S) : Option (Int32 × x_S) :=
  if 30 < x7 then (x_b (fX7_foundNothing x6 σ) (fun r3 σ4 => some (r3, σ4))) else (x_g (x_in x1 6) (x_p (fX7_owesAlong (σ 35 x1.toNatClampNeg) x7 x2 x3 x4 σ) (fun r7 => if r7 = 0 then (K37 x6 (x7 + 1) σ) else (K37 (x6 ||| (1 <<< ((x7 - 1) &&& 31))) (x7 + 1) σ))))
def bX7_inches_37 (x1 : Int32) (x2 : Int32) (x3 : Int32) (x4 : Int32) (x6 : Int32) (x7 : Int32) (σ : x_S) : Option (Int32 × x_S) :=
  x_fx (α := Int32 → Int32 → x_S → Option (Int32 × x_S)) (fun _ _ _ => none) (fun K => fun x6 x7 σ => gX7_inches_37  x1 x2 x3 x4 K x6 x7 σ) x_F x6 x7 σ
def bX7_inches_21 (x1 : Int32) (x2 : Int32) (x3 : Int32) (x4 : Int32) (y0 : Int32) (σ : x_S) : Option (Int32 × x_S) :=
  if y0 = 0 then (bX7_inches_37 x1 x2 x3 x4 0 1 σ) else (some (y0, σ))
def fX7_inches (a1 : Int32) (a2 : Int32) (a3 : Int32) (a4 : Int32) (σ : x_S) : Option (Int32 × x_S) :=
  x_p (fX7_isGesture a1 σ) (fun r2 => if r2 = 0 then (bX7_inches_21 a1 a2 a3 a4 (-1000001) σ) else (x_b (fX7_refusalOfThread a2 a3 a4 σ) (fun r5 σ6 => bX7_inches_21 a1 a2 a3 a4 r5 σ6)))
def gX7_sorts_37 (x1 : Int32) (x2 : Int32) (x3 : Int32) (x4 : Int32) (K37 : Int32 → Int32 → x_S → Option (Int32 × x_S)) (x6 : Int32) (x7 : Int32) (σ : x_S) : Option (Int32 × x_S) :=
  if 5 < x7 then (x_b (fX7_foundNothing x6 σ) (fun r3 σ4 => some (r3, σ4))) else (x_g (x_in x1 6) (x_p (fX7_owesAlong x7 (σ 36 x1.toNatClampNeg) x2 x3 x4 σ) (fun r7 => if r7 = 0 then (K37 x6 (x7 + 1) σ) else (K37 (x6 ||| (1 <<< (x7 &&& 31))) (x7 + 1) σ))))
def bX7_sorts_37 (x1 : Int32) (x2 : Int32) (x3 : Int32) (x4 : Int32) (x6 : Int32) (x7 : Int32) (σ : x_S) : Option (Int32 × x_S) :=
  x_fx (α := Int32 → Int32 → x_S → Option (Int32 × x_S)) (fun _ _ _ => none) (fun K => fun x6 x7 σ => gX7_sorts_37  x1 x2 x3 x4 K x6 x7 σ) x_F x6 x7 σ
def bX7_sorts_21 (x1 : Int32) (x2 : Int32) (x3 : Int32) (x4 : Int32) (y0 : Int32) (σ : x_S) : Option (Int32 × x_S) :=
  if y0 = 0 then (bX7_sorts_37 x1 x2 x3 x4 0 1 σ) else (some (y0, σ))
def fX7_sorts (a1 : Int32) (a2 : Int32) (a3 : Int32) (a4 : Int32) (σ : x_S) : Option (Int32 × x_S) :=
  x_p (fX7_isGesture a1 σ) (fun r2 => if r2 = 0 then (bX7_sorts_21 a1 a2 a3 a4 (-1000001) σ) else (x_b (fX7_refusalOfThread a2 a3 a4 σ) (fun r5 σ6 => bX7_sorts_21 a1 a2 a3 a4 r5 σ6)))
def fX2_owesIfKnown (c0 : Nat) (a1 : Int32) (a2 : Int32) (σ : x_S) : Option Int32 :=
  x_g (x_in a1 6) (x_g (x_in a1 6) (x_p (fX2_owesUnknown c0 (σ (c0 + 3) a1.toNatClampNeg) (σ (c0 + 4) a1.toNatClampNeg) a2 σ) (fun r4 => some (r4 / 2))))
def gX7_saved_15 (x1 : Int32) (K15 : Int32 → Int32 → Option Int32) (x2 : Int32) (x3 : Int32) (σ : x_S) : Option Int32 :=
  if (σ 32 3) ≤ x3 then (some x2) else (x_p (fX2_owes 32 x1 x3 σ) (fun r3 => x_p (fX2_owesIfKnown 32 x1 x3 σ) (fun r5 => K15 (x2 + (r3 - r5)) (x3 + 1))))
def bX7_saved_15 (x1 : Int32) (x2 : Int32) (x3 : Int32) (σ : x_S) : Option Int32 :=
  x_fx (α := Int32 → Int32 → Option Int32) (fun _ _ => none) (fun K => fun x2 x3 => gX7_saved_15  x1 K x2 x3 σ) x_F x2 x3
def fX7_saved (a1 : Int32) (σ : x_S) : Option Int32 :=
  x_p (fX7_isGesture a1 σ) (fun r2 => if r2 = 0 then (some (-1000001)) else (bX7_saved_15 a1 0 0 σ))
def gX2_dearestStreet_4 (c0 : Nat) (x1 : Int32) (K4 : Int32 → Int32 → Option Int32) (x2 : Int32) (x3 : Int32) (σ : x_S) : Option Int32 :=
  if (σ c0 3) ≤ x3 then (some x2) else (x_p (fX2_owes c0 x1 x3 σ) (fun r3 => x_p (fX2_owes c0 x1 x2 σ) (fun r5 => if r3 ≤ r5 then (K4 x2 (x3 + 1)) else (K4 x3 (x3 + 1)))))
def bX2_dearestStreet_4 (c0 : Nat) (x1 : Int32) (x2 : Int32) (x3 : Int32) (σ : x_S) : Option Int32 :=
  x_fx (α := Int32 → Int32 → Option Int32) (fun _ _ => none) (fun K => fun x2 x3 => gX2_dearestStreet_4  c0 x1 K x2 x3 σ) x_F x2 x3
def fX2_dearestStreet (c0 : Nat) (a1 : Int32) (σ : x_S) : Option Int32 :=
  bX2_dearestStreet_4 c0 a1 0 1 σ
def fX7_worst (a1 : Int32) (a2 : Int32) (σ : x_S) : Option Int32 :=
  x_p (fX7_isGesture a1 σ) (fun r2 => if r2 = 0 then (some (-1000001)) else (x_p (fX7_isWithin a2 0 1 σ) (fun r5 => if r5 = 0 then (some (-1000001)) else (if (σ 32 3) = 0 then (some (-1000000)) else (x_p (fX2_dearestStreet 32 a1 σ) (fun r9 => if a2 = 0 then (some r9) else (x_p (fX2_owes 32 a1 r9 σ) (fun r12 => some r12))))))))
def hX7_tenthsWithin (rec : Nat → Int32 → Int32 → Int32 → Int32 → Int32 → x_S → Option Int32) (c0 : Nat) (a1 : Int32) (a2 : Int32) (a3 : Int32) (a4 : Int32) (a5 : Int32) (σ : x_S) : Option Int32 :=
  if 0 ≤ a4 then (if a3 < a2 then (some 1) else (if a2 < 0 then (some 1) else (if a2 < 7 then (x_g (x_in a1 6) (x_g (x_in a1 6) (x_p (fX2_owesSuch c0 (σ (c0 + 3) a1.toNatClampNeg) (σ (c0 + 4) a1.toNatClampNeg) a2 σ) (fun r8 => x_p (fX2_owesSuch c0 (σ (c0 + 3) a1.toNatClampNeg) ((σ (c0 + 4) a1.toNatClampNeg) + 1) a2 σ) (fun r10 => x_p (rec c0 a1 (a2 + 1) a3 (a4 - r8) a5 σ) (fun r12 => x_p (rec c0 a1 (a2 + 1) a3 (a4 - r10) a5 σ) (fun r14 => some (((10 - a5) * r12) + (a5 * r14))))))))) else (some 1)))) else (some 0)
def fX7_tenthsWithin_n (n : Nat) : Nat → Int32 → Int32 → Int32 → Int32 → Int32 → x_S → Option Int32 :=
  x_fx (α := Nat → Int32 → Int32 → Int32 → Int32 → Int32 → x_S → Option Int32) (fun _ _ _ _ _ _ _ => none) (fun rec => fun c0 a1 a2 a3 a4 a5 σ => hX7_tenthsWithin rec c0 a1 a2 a3 a4 a5 σ) n
def fX7_tenthsWithin (c0 : Nat) (a1 : Int32) (a2 : Int32) (a3 : Int32) (a4 : Int32) (a5 : Int32) (σ : x_S) : Option Int32 := fX7_tenthsWithin_n 12 c0 a1 a2 a3 a4 a5 σ
def gX7_commonDivisor_7 (K7 : Int32 → Int32 → Int32 → Option Int32) (x2 : Int32) (x3 : Int32) (x4 : Int32) (σ : x_S) : Option Int32 :=
  if 100 ≤ x4 then (some x2) else (if x3 = 0 then (some x2) else (x_g (¬ x3 = 0) (K7 x3 (x2 - x2 / x3 * x3) (x4 + 1))))
def bX7_commonDivisor_7 (x2 : Int32) (x3 : Int32) (x4 : Int32) (σ : x_S) : Option Int32 :=
  x_fx (α := Int32 → Int32 → Int32 → Option Int32) (fun _ _ _ => none) (fun K => fun x2 x3 x4 => gX7_commonDivisor_7   K x2 x3 x4 σ) x_F x2 x3 x4
def fX7_commonDivisor (a0 : Int32) (a1 : Int32) (σ : x_S) : Option Int32 :=
  bX7_commonDivisor_7 a0 a1 0 σ
def gX7_tremble_78 (x3 : Int32) (x6 : Int32) (x7 : Int32) (K78 : Int32 → Int32 → Option Int32) (x8 : Int32) (x9 : Int32) (σ : x_S) : Option Int32 :=
  if x3 < x9 then (x_p (fX7_commonDivisor x7 x8 σ) (fun r3 => if x6 = 0 then (x_g (¬ (if 1 < r3 then r3 else 1) = 0) (some (x7 / (if 1 < r3 then r3 else 1)))) else (x_g (¬ (if 1 < r3 then r3 else 1) = 0) (some (x8 / (if 1 < r3 then r3 else 1)))))) else (K78 (x8 * 10) (x9 + 1))
def bX7_tremble_78 (x3 : Int32) (x6 : Int32) (x7 : Int32) (x8 : Int32) (x9 : Int32) (σ : x_S) : Option Int32 :=
  x_fx (α := Int32 → Int32 → Option Int32) (fun _ _ => none) (fun K => fun x8 x9 => gX7_tremble_78  x3 x6 x7 K x8 x9 σ) x_F x8 x9
def fX7_tremble (a1 : Int32) (a2 : Int32) (a3 : Int32) (a4 : Int32) (a5 : Int32) (a6 : Int32) (σ : x_S) : Option Int32 :=
  x_p (fX7_isGesture a1 σ) (fun r2 => if r2 = 0 then (some (-1000001)) else (x_p (fX7_isStretch a2 a3 σ) (fun r5 => if r5 = 0 then (some (-1000001)) else (x_p (fX7_isWithin a4 0 9999 σ) (fun r8 => if r8 = 0 then (some (-1000001)) else (x_p (fX7_isWithin a5 0 10 σ) (fun r11 => if r11 = 0 then (some (-1000001)) else (x_p (fX7_isWithin a6 0 1 σ) (fun r14 => if r14 = 0 then (some (-1000001)) else (x_p (fX7_tenthsWithin 32 a1 a2 a3 a4 a5 σ) (fun r17 => bX7_tremble_78 a3 a6 r17 1 a2 σ)))))))))))
def fX7_image (a1 : Int32) (σ : x_S) : Option (Int32 × x_S) :=
  x_p (fX7_isWithin a1 0 1 σ) (fun r2 => if r2 = 0 then (some ((-1000001), σ)) else (if (σ 32 0) = 0 then (some ((-1000002), σ)) else (x_g (x_in a1 2) (x_v (fX2_become (48 + 8 * a1.toNatClampNeg) 32 σ) (fun σ7 => some (1, σ7))))))
def fX7_restore (a1 : Int32) (σ : x_S) : Option (Int32 × x_S) :=
  x_p (fX7_isWithin a1 0 1 σ) (fun r2 => if r2 = 0 then (some ((-1000001), σ)) else (x_g (x_in a1 2) (if (σ (48 + 8 * a1.toNatClampNeg) 0) = 0 then (some ((-1000002), σ)) else (x_g (x_in a1 2) (x_v (fX2_become 32 (48 + 8 * a1.toNatClampNeg) σ) (fun σ8 => x_v (fX0_forgetAll σ8) (fun σ10 => some (1, σ10))))))))
def fX7_kind (a1 : Int32) (σ : x_S) : Option Int32 :=
  x_p (fX7_isGesture a1 σ) (fun r2 => if r2 = 0 then (some (-1000001)) else (x_g (x_in a1 6) (some (σ 35 a1.toNatClampNeg))))
def fX3_widerThan (a0 : Int32) (σ : x_S) : Option Int32 :=
  if a0 < 0 then (some 0) else (if 6 ≤ a0 then (some 0) else (x_g (x_in a0 6) (some (s_t 0 a0.toNatClampNeg))))
def bX3_isOneOf_28 (x1 : Int32) (x2 : Int32) (σ : x_S) : Option Int32 :=
  if x2 = x1 then (some 1) else (some 0)
def gX3_isOneOf_4 (x1 : Int32) (K4 : Int32 → Int32 → Option Int32) (x2 : Int32) (x3 : Int32) (σ : x_S) : Option Int32 :=
  if 6 ≤ x3 then (bX3_isOneOf_28 x1 x2 σ) else (if x2 = x1 then (bX3_isOneOf_28 x1 x2 σ) else (x_p (fX3_widerThan x2 σ) (fun r4 => K4 r4 (x3 + 1))))
def bX3_isOneOf_4 (x1 : Int32) (x2 : Int32) (x3 : Int32) (σ : x_S) : Option Int32 :=
  x_fx (α := Int32 → Int32 → Option Int32) (fun _ _ => none) (fun K => fun x2 x3 => gX3_isOneOf_4  x1 K x2 x3 σ) x_F x2 x3
def fX3_isOneOf (a0 : Int32) (a1 : Int32) (σ : x_S) : Option Int32 :=
  bX3_isOneOf_4 a1 a0 0 σ
def fX7_as (a1 : Int32) (a2 : Int32) (σ : x_S) : Option (Int32 × x_S) :=
  x_p (fX7_isGesture a1 σ) (fun r2 => if r2 = 0 then (some ((-1000001), σ)) else (x_p (fX7_isWithin a2 0 5 σ) (fun r5 => if r5 = 0 then (some ((-1000001), σ)) else (x_g (x_in a1 6) (x_p (fX3_isOneOf (σ 35 a1.toNatClampNeg) a2 σ) (fun r9 => if r9 = 0 then (x_b (fX7_found 3 σ) (fun r12 σ13 => some (r12, σ13))) else (x_b (fX7_foundNothing a1 σ) (fun r15 σ16 => some (r15, σ16)))))))))
def bX1_bodyFor_30 (K4 : Int32 → Int32 → Option Int32) (b0 : Nat) (x2 : Int32) (x3 : Int32) (σ : x_S) : Option Int32 :=
  x_p (fX3_widerThan x2 σ) (fun r2 => K4 r2 (x3 + 1))
def gX1_bodyFor_4 (b0 : Nat) (K4 : Int32 → Int32 → Option Int32) (x2 : Int32) (x3 : Int32) (σ : x_S) : Option Int32 :=
  if 6 ≤ x3 then (some 0) else (if x2 < 0 then (bX1_bodyFor_30 K4 b0 x2 x3 σ) else (if 6 ≤ x2 then (bX1_bodyFor_30 K4 b0 x2 x3 σ) else (x_g (x_in x2 6) (if (s_t b0 x2.toNatClampNeg) = 0 then (bX1_bodyFor_30 K4 b0 x2 x3 σ) else (x_g (x_in x2 6) (some (s_t b0 x2.toNatClampNeg)))))))
def bX1_bodyFor_4 (b0 : Nat) (x2 : Int32) (x3 : Int32) (σ : x_S) : Option Int32 :=
  x_fx (α := Int32 → Int32 → Option Int32) (fun _ _ => none) (fun K => fun x2 x3 => gX1_bodyFor_4  b0 K x2 x3 σ) x_F x2 x3
def fX1_bodyFor (b0 : Nat) (a1 : Int32) (σ : x_S) : Option Int32 :=
  bX1_bodyFor_4 b0 a1 0 σ
def bX1_asked_13 (rec : Int32 → Nat → Int32 → Int32 → x_S → Option (Int32 × x_S)) (c1 : Nat) (x2 : Int32) (x4 : Int32) (yb0 : Nat) (σ : x_S) : Option (Int32 × x_S) :=
  x_g (x_in x2 6) (x_p (fX1_bodyFor yb0 (σ (c1 + 3) x2.toNatClampNeg) σ) (fun r3 => x_b (rec r3 c1 x2 x4 σ) (fun r5 σ6 => some (r5, σ6))))
def fX1_asked (rec : Int32 → Nat → Int32 → Int32 → x_S → Option (Int32 × x_S)) (c1 : Nat) (a2 : Int32) (a3 : Int32) (a4 : Int32) (σ : x_S) : Option (Int32 × x_S) :=
  if a3 = 0 then (bX1_asked_13 rec c1 a2 a4 1 σ) else (bX1_asked_13 rec c1 a2 a4 2 σ)
def fX1_sizeBy (rec : Int32 → Nat → Int32 → Int32 → x_S → Option (Int32 × x_S)) (a1 : Int32) (c2 : Nat) (a3 : Int32) (a4 : Int32) (σ : x_S) : Option (Int32 × x_S) :=
  if a1 = 10 then (x_g (x_in a3 6) (some ((σ (c2 + 6) a3.toNatClampNeg), σ))) else (if a1 = 11 then (x_b (rec 10 c2 a3 a4 σ) (fun r5 σ6 => x_b (fX1_asked rec c2 a3 1 a4 σ6) (fun r8 σ9 => some ((r5 + r8), σ9)))) else (if a1 = 12 then (x_b (rec 11 c2 a3 a4 σ) (fun r12 σ13 => some ((-r12), σ13))) else (if a1 = 13 then (x_b (rec 10 c2 a3 a4 σ) (fun r16 σ17 => some ((r16 - 100), σ17))) else (if a1 = 14 then (x_b (rec 13 c2 a3 a4 σ) (fun r20 σ21 => some ((2 * r20), σ21))) else (some (0, σ))))))
def fX1_markBy (rec : Int32 → Nat → Int32 → Int32 → x_S → Option (Int32 × x_S)) (a1 : Int32) (c2 : Nat) (a3 : Int32) (a4 : Int32) (σ : x_S) : Option (Int32 × x_S) :=
  if a1 = 20 then (some (a3, σ)) else (if a1 = 21 then (x_b (rec 20 c2 a3 a4 σ) (fun r4 σ5 => x_g (x_in a3 6) (some ((r4 + (σ5 (c2 + 4) a3.toNatClampNeg)), σ5)))) else (if a1 = 22 then (x_b (rec 21 c2 a3 a4 σ) (fun r9 σ10 => some ((r9 - 1000), σ10))) else (if a1 = 23 then (x_b (rec 20 c2 a3 a4 σ) (fun r13 σ14 => x_b (fX1_asked rec c2 a3 0 a4 σ14) (fun r16 σ17 => some ((r13 - r16), σ17)))) else (if a1 = 24 then (x_b (rec 21 c2 a3 a4 σ) (fun r20 σ21 => some ((2 * r20), σ21))) else (some (0, σ))))))
def hX1_given (rec : Int32 → Nat → Int32 → Int32 → x_S → Option (Int32 × x_S)) (a1 : Int32) (c2 : Nat) (a3 : Int32) (a4 : Int32) (σ : x_S) : Option (Int32 × x_S) :=
  if a4 < 16 then (x_v (fX1_leave a1 σ) (fun σ3 => if 20 ≤ a1 then (x_b (fX1_markBy rec a1 c2 a3 (a4 + 1) σ3) (fun r6 σ7 => some (r6, σ7))) else (x_b (fX1_sizeBy rec a1 c2 a3 (a4 + 1) σ3) (fun r9 σ10 => some (r9, σ10))))) else (some (0, σ))
def fX1_given_n (n : Nat) : Int32 → Nat → Int32 → Int32 → x_S → Option (Int32 × x_S) :=
  x_fx (α := Int32 → Nat → Int32 → Int32 → x_S → Option (Int32 × x_S)) (fun _ _ _ _ _ => none) (fun rec => fun a1 c2 a3 a4 σ => hX1_given rec a1 c2 a3 a4 σ) n
def fX1_given (a1 : Int32) (c2 : Nat) (a3 : Int32) (a4 : Int32) (σ : x_S) : Option (Int32 × x_S) := fX1_given_n 12 a1 c2 a3 a4 σ
def fX1_answer (c1 : Nat) (a2 : Int32) (a3 : Int32) (σ : x_S) : Option (Int32 × x_S) :=
  x_w (x_u σ 30 1 0) (fun σ1 => x_b (fX1_asked (fX1_given_n 12) c1 a2 a3 0 σ1) (fun r4 σ5 => some (r4, σ5)))
def fX7_ask (a1 : Int32) (a2 : Int32) (σ : x_S) : Option (Int32 × x_S) :=
  x_p (fX7_isGesture a1 σ) (fun r2 => if r2 = 0 then (some ((-1000001), σ)) else (x_p (fX7_isWithin a2 0 1 σ) (fun r5 => if r5 = 0 then (some ((-1000001), σ)) else (x_b (fX1_answer 32 a1 a2 σ) (fun r8 σ9 => some (r8, σ9))))))
def fX1_numberLeft (a1 : Int32) (σ : x_S) : Option Int32 :=
  if a1 < 0 then (some (-1000000)) else (if (σ 30 1) ≤ a1 then (some (-1000000)) else (x_g (x_in a1 16) (some (σ 31 a1.toNatClampNeg))))
def fX7_trace (a1 : Int32) (σ : x_S) : Option Int32 :=
  x_p (fX1_numberLeft a1 σ) (fun r2 => some r2)
def gX5_howMany_4 (K4 : Int32 → Int32 → Option Int32) (x1 : Int32) (x2 : Int32) (σ : x_S) : Option Int32 :=
  if 8 ≤ x2 then (some x1) else (x_p (fX5_isMissing x2 σ) (fun r3 => if r3 = 0 then (K4 (x1 + 1) (x2 + 1)) else (K4 (x1 + 0) (x2 + 1))))
def bX5_howMany_4 (x1 : Int32) (x2 : Int32) (σ : x_S) : Option Int32 :=
  x_fx (α := Int32 → Int32 → Option Int32) (fun _ _ => none) (fun K => fun x1 x2 => gX5_howMany_4   K x1 x2 σ) x_F x1 x2
def fX5_howMany (σ : x_S) : Option Int32 :=
  bX5_howMany_4 0 0 σ
def fJ6_bitCount_0f7a4 (a0 : Int32) (σ : x_S) : Option Int32 :=
  some ((((((((a0 - (((a0.toUInt32 >>> ((1 : Int32).toUInt32 &&& Int32.toUInt32 31)).toInt32) &&& 1431655765)) &&& 858993459) + ((((a0 - (((a0.toUInt32 >>> ((1 : Int32).toUInt32 &&& Int32.toUInt32 31)).toInt32) &&& 1431655765)).toUInt32 >>> ((2 : Int32).toUInt32 &&& Int32.toUInt32 31)).toInt32) &&& 858993459)) + (((((a0 - (((a0.toUInt32 >>> ((1 : Int32).toUInt32 &&& Int32.toUInt32 31)).toInt32) &&& 1431655765)) &&& 858993459) + ((((a0 - (((a0.toUInt32 >>> ((1 : Int32).toUInt32 &&& Int32.toUInt32 31)).toInt32) &&& 1431655765)).toUInt32 >>> ((2 : Int32).toUInt32 &&& Int32.toUInt32 31)).toInt32) &&& 858993459)).toUInt32 >>> ((4 : Int32).toUInt32 &&& Int32.toUInt32 31)).toInt32)) &&& 252645135) + (((((((a0 - (((a0.toUInt32 >>> ((1 : Int32).toUInt32 &&& Int32.toUInt32 31)).toInt32) &&& 1431655765)) &&& 858993459) + ((((a0 - (((a0.toUInt32 >>> ((1 : Int32).toUInt32 &&& Int32.toUInt32 31)).toInt32) &&& 1431655765)).toUInt32 >>> ((2 : Int32).toUInt32 &&& Int32.toUInt32 31)).toInt32) &&& 858993459)) + (((((a0 - (((a0.toUInt32 >>> ((1 : Int32).toUInt32 &&& Int32.toUInt32 31)).toInt32) &&& 1431655765)) &&& 858993459) + ((((a0 - (((a0.toUInt32 >>> ((1 : Int32).toUInt32 &&& Int32.toUInt32 31)).toInt32) &&& 1431655765)).toUInt32 >>> ((2 : Int32).toUInt32 &&& Int32.toUInt32 31)).toInt32) &&& 858993459)).toUInt32 >>> ((4 : Int32).toUInt32 &&& Int32.toUInt32 31)).toInt32)) &&& 252645135).toUInt32 >>> ((8 : Int32).toUInt32 &&& Int32.toUInt32 31)).toInt32)) + ((((((((a0 - (((a0.toUInt32 >>> ((1 : Int32).toUInt32 &&& Int32.toUInt32 31)).toInt32) &&& 1431655765)) &&& 858993459) + ((((a0 - (((a0.toUInt32 >>> ((1 : Int32).toUInt32 &&& Int32.toUInt32 31)).toInt32) &&& 1431655765)).toUInt32 >>> ((2 : Int32).toUInt32 &&& Int32.toUInt32 31)).toInt32) &&& 858993459)) + (((((a0 - (((a0.toUInt32 >>> ((1 : Int32).toUInt32 &&& Int32.toUInt32 31)).toInt32) &&& 1431655765)) &&& 858993459) + ((((a0 - (((a0.toUInt32 >>> ((1 : Int32).toUInt32 &&& Int32.toUInt32 31)).toInt32) &&& 1431655765)).toUInt32 >>> ((2 : Int32).toUInt32 &&& Int32.toUInt32 31)).toInt32) &&& 858993459)).toUInt32 >>> ((4 : Int32).toUInt32 &&& Int32.toUInt32 31)).toInt32)) &&& 252645135) + (((((((a0 - (((a0.toUInt32 >>> ((1 : Int32).toUInt32 &&& Int32.toUInt32 31)).toInt32) &&& 1431655765)) &&& 858993459) + ((((a0 - (((a0.toUInt32 >>> ((1 : Int32).toUInt32 &&& Int32.toUInt32 31)).toInt32) &&& 1431655765)).toUInt32 >>> ((2 : Int32).toUInt32 &&& Int32.toUInt32 31)).toInt32) &&& 858993459)) + (((((a0 - (((a0.toUInt32 >>> ((1 : Int32).toUInt32 &&& Int32.toUInt32 31)).toInt32) &&& 1431655765)) &&& 858993459) + ((((a0 - (((a0.toUInt32 >>> ((1 : Int32).toUInt32 &&& Int32.toUInt32 31)).toInt32) &&& 1431655765)).toUInt32 >>> ((2 : Int32).toUInt32 &&& Int32.toUInt32 31)).toInt32) &&& 858993459)).toUInt32 >>> ((4 : Int32).toUInt32 &&& Int32.toUInt32 31)).toInt32)) &&& 252645135).toUInt32 >>> ((8 : Int32).toUInt32 &&& Int32.toUInt32 31)).toInt32)).toUInt32 >>> ((16 : Int32).toUInt32 &&& Int32.toUInt32 31)).toInt32)) &&& 63)
def fX7_count (a1 : Int32) (σ : x_S) : Option Int32 :=
  if a1 = 0 then (x_p (fX5_howMany σ) (fun r3 => some r3)) else (if a1 = 1 then (some (σ 32 3)) else (if a1 = 2 then (some (σ 32 5)) else (if a1 = 3 then (some (σ 32 2)) else (if a1 = 4 then (some (σ 32 1)) else (if a1 = 5 then (x_p (fJ6_bitCount_0f7a4 (σ 32 4) σ) (fun r10 => some r10)) else (if a1 = 6 then (some (σ 16 4)) else (if a1 = 7 then (some (σ 13 1)) else (some (-1000001)))))))))
def fX7_status (σ : x_S) : Option Int32 :=
  some (σ 0 8)
def fX8_in (a0 : Int64) (a2 : Int64) (a4 : Int64) (σ : x_S) : Option Int32 :=
  if (lg_cmp a0 a2) < 0 then (some 0) else (if 0 < (lg_cmp a0 a4) then (some 0) else (some 1))
def fX8_has (a0 : Int32) (a1 : Int32) (σ : x_S) : Option Int32 :=
  if ((a0 >>> (a1 &&& 31)) &&& 1) = 1 then (some 1) else (some 0)
def gX8_bits_4 (x0 : Int32) (K4 : Int32 → Int32 → Option Int32) (x1 : Int32) (x2 : Int32) (σ : x_S) : Option Int32 :=
  if 7 ≤ x2 then (some x1) else (K4 (x1 + ((x0 >>> (x2 &&& 31)) &&& 1)) (x2 + 1))
def bX8_bits_4 (x0 : Int32) (x1 : Int32) (x2 : Int32) (σ : x_S) : Option Int32 :=
  x_fx (α := Int32 → Int32 → Option Int32) (fun _ _ => none) (fun K => fun x1 x2 => gX8_bits_4  x0 K x1 x2 σ) x_F x1 x2
def fX8_bits (a0 : Int32) (σ : x_S) : Option Int32 :=
  bX8_bits_4 a0 0 0 σ
def fX8_find (a1 : Int32) (σ : x_S) : Option (Int32 × x_S) :=
  x_w (x_u σ 0 10 a1) (fun σ1 => some (((-1000010) - a1), σ1))
def fX8_well (a1 : Int32) (σ : x_S) : Option (Int32 × x_S) :=
  x_w (x_u σ 0 10 0) (fun σ1 => some (a1, σ1))
def fX8_isRow (a0 : Int32) (σ : x_S) : Option Int32 :=
  x_p (fX8_in a0.toInt64 0 7 σ) (fun r2 => x_g (r2 &&& 1 = r2) (some r2))
def gX8_row_55 (x1 : Int32) (x3 : Int32) (K55 : Int32 → x_S → Option (Int32 × x_S)) (x4 : Int32) (σ : x_S) : Option (Int32 × x_S) :=
  if 40 ≤ x4 then (x_b (fX8_well x3 σ) (fun r3 σ4 => some (r3, σ4))) else (x_g (x_in ((40 * x1) + x4) 320) (x_w (x_u σ 5 ((40 * x1) + x4).toNatClampNeg 0) (fun σ6 => K55 (x4 + 1) σ6)))
def bX8_row_55 (x1 : Int32) (x3 : Int32) (x4 : Int32) (σ : x_S) : Option (Int32 × x_S) :=
  x_fx (α := Int32 → x_S → Option (Int32 × x_S)) (fun _ _ => none) (fun K => fun x4 σ => gX8_row_55  x1 x3 K x4 σ) x_F x4 σ
def fX8_row (a1 : Int32) (a2 : Int32) (a3 : Int32) (σ : x_S) : Option (Int32 × x_S) :=
  x_p (fX8_isRow a1 σ) (fun r2 => if r2 = 0 then (some ((-1000001), σ)) else (x_p (fX8_in a2.toInt64 0 2 σ) (fun r5 => if r5 = 0 then (some ((-1000001), σ)) else (if a3 ≤ 40 then (if 0 ≤ a3 then (x_g (x_in a1 8) (x_w (x_u σ 3 a1.toNatClampNeg a2) (fun σ10 => x_g (x_in a1 8) (x_w (x_u σ10 4 a1.toNatClampNeg a3) (fun σ13 => bX8_row_55 a1 a3 0 σ13))))) else (x_b (fX8_find 4 σ) (fun r16 σ17 => some (r16, σ17)))) else (some ((-1000001), σ))))))
def fX8_narrow (a0 : Int32) (a1 : Int32) (σ : x_S) : Option Int32 :=
  if a1 = 0 then (some a0.toInt8.toInt32) else (if a1 = 1 then (some a0.toInt16.toInt32) else (some a0))
def fX8_set (a1 : Int32) (a2 : Int32) (a3 : Int32) (σ : x_S) : Option (Int32 × x_S) :=
  x_p (fX8_isRow a1 σ) (fun r2 => if r2 = 0 then (some ((-1000001), σ)) else (x_g (x_in a1 8) (if 0 ≤ (σ 4 a1.toNatClampNeg) then (x_g (x_in a1 8) (x_p (fX8_in a2.toInt64 0 (((σ 4 a1.toNatClampNeg) - 1).toInt64) σ) (fun r8 => if r8 = 0 then (x_b (fX8_find 2 σ) (fun r21 σ22 => some (r21, σ22))) else (x_g (x_in a1 8) (x_p (fX8_narrow a3 (σ 3 a1.toNatClampNeg) σ) (fun r12 => x_g (x_in ((40 * a1) + a2) 320) (x_w (x_u σ 5 ((40 * a1) + a2).toNatClampNeg r12) (fun σ14 => x_g (x_in ((40 * a1) + a2) 320) (x_b (fX8_well (σ14 5 ((40 * a1) + a2).toNatClampNeg) σ14) (fun r18 σ19 => some (r18, σ19))))))))))) else (x_b (fX8_find 1 σ) (fun r24 σ25 => some (r24, σ25))))))
def fX8_isSpan (a1 : Int32) (a2 : Int32) (a3 : Int32) (σ : x_S) : Option Int32 :=
  if a2 < 0 then (some 0) else (if a3 < 0 then (some 0) else (x_g (x_in a1 8) (if 0 < (lg_cmp (a2.toInt64 + a3.toInt64) ((σ 4 a1.toNatClampNeg).toInt64)) then (some 0) else (some 1))))
def bX8_copy_35 (σ : x_S) : Option (Int32 × x_S) :=
  x_b (fX8_find 1 σ) (fun r2 σ3 => some (r2, σ3))
def bX8_copy_85 (σ : x_S) : Option (Int32 × x_S) :=
  x_b (fX8_find 2 σ) (fun r2 σ3 => some (r2, σ3))
def bX8_copy_131 (K107 : Int32 → x_S → Option (Int32 × x_S)) (x1 : Int32) (x2 : Int32) (x3 : Int32) (x4 : Int32) (x5 : Int32) (x6 : Int32) (x7 : Int32) (y0 : Int32) (σ : x_S) : Option (Int32 × x_S) :=
  x_g (x_in (((40 * x1) + x2) + y0) 320) (x_g (x_in (((40 * x3) + x4) + y0) 320) (x_w (x_u σ 5 (((40 * x3) + x4) + y0).toNatClampNeg (σ 5 (((40 * x1) + x2) + y0).toNatClampNeg)) (fun σ3 => K107 (x7 + 1) σ3)))
def gX8_copy_107 (x1 : Int32) (x2 : Int32) (x3 : Int32) (x4 : Int32) (x5 : Int32) (x6 : Int32) (K107 : Int32 → x_S → Option (Int32 × x_S)) (x7 : Int32) (σ : x_S) : Option (Int32 × x_S) :=
  if x5 ≤ x7 then (x_b (fX8_well x5 σ) (fun r3 σ4 => some (r3, σ4))) else (if x6 = 0 then (bX8_copy_131 K107 x1 x2 x3 x4 x5 x6 x7 x7 σ) else (bX8_copy_131 K107 x1 x2 x3 x4 x5 x6 x7 ((x5 - 1) - x7) σ))
def bX8_copy_107 (x1 : Int32) (x2 : Int32) (x3 : Int32) (x4 : Int32) (x5 : Int32) (x6 : Int32) (x7 : Int32) (σ : x_S) : Option (Int32 × x_S) :=
  x_fx (α := Int32 → x_S → Option (Int32 × x_S)) (fun _ _ => none) (fun K => fun x7 σ => gX8_copy_107  x1 x2 x3 x4 x5 x6 K x7 σ) x_F x7 σ
def fX8_copy (a1 : Int32) (a2 : Int32) (a3 : Int32) (a4 : Int32) (a5 : Int32) (σ : x_S) : Option (Int32 × x_S) :=
  x_p (fX8_isRow a1 σ) (fun r2 => if r2 = 0 then (some ((-1000001), σ)) else (x_p (fX8_isRow a3 σ) (fun r5 => if r5 = 0 then (some ((-1000001), σ)) else (x_g (x_in a1 8) (if (σ 4 a1.toNatClampNeg) < 0 then (bX8_copy_35 σ) else (x_g (x_in a3 8) (if 0 ≤ (σ 4 a3.toNatClampNeg) then (x_g (x_in a1 8) (x_g (x_in a3 8) (if (σ 3 a1.toNatClampNeg) = (σ 3 a3.toNatClampNeg) then (x_p (fX8_isSpan a1 a2 a5 σ) (fun r15 => if r15 = 0 then (bX8_copy_85 σ) else (x_p (fX8_isSpan a3 a4 a5 σ) (fun r18 => if r18 = 0 then (bX8_copy_85 σ) else (if a4 ≤ a2 then (bX8_copy_107 a1 a2 a3 a4 a5 0 0 σ) else (bX8_copy_107 a1 a2 a3 a4 a5 1 0 σ)))))) else (x_b (fX8_find 5 σ) (fun r22 σ23 => some (r22, σ23)))))) else (bX8_copy_35 σ))))))))
def fX8_drop (a1 : Int32) (σ : x_S) : Option (Int32 × x_S) :=
  x_p (fX8_isRow a1 σ) (fun r2 => if r2 = 0 then (some ((-1000001), σ)) else (x_g (x_in a1 8) (if 0 ≤ (σ 4 a1.toNatClampNeg) then (x_g (x_in a1 8) (x_g (x_in a1 8) (x_w (x_u σ 4 a1.toNatClampNeg (-1)) (fun σ8 => x_b (fX8_well (σ 4 a1.toNatClampNeg) σ8) (fun r11 σ12 => some (r11, σ12)))))) else (x_b (fX8_find 1 σ) (fun r14 σ15 => some (r14, σ15))))))
def fX8_feed (a1 : Int32) (σ : x_S) : Option (Int32 × x_S) :=
  x_p (fX8_in a1.toInt64 0 255 σ) (fun r2 => if r2 = 0 then (some ((-1000001), σ)) else (if (σ 0 8) = 120 then (some ((-1000003), σ)) else (x_g (x_in (σ 0 8) 120) (x_w (x_u σ 6 (σ 0 8).toNatClampNeg a1) (fun σ6 => x_w (x_u σ6 0 8 ((σ6 0 8) + 1)) (fun σ8 => some ((σ8 0 8), σ8)))))))
def fX8_isLetter (a1 : Int32) (σ : x_S) : Option Int32 :=
  if (σ 0 8) ≤ (σ 0 13) then (some 0) else (x_g (x_in (σ 0 13) 120) (if (σ 6 (σ 0 13).toNatClampNeg) = a1 then (some 1) else (some 0)))
def fX8_isFigure (a1 : Int32) (σ : x_S) : Option Int32 :=
  if (σ 0 8) ≤ a1 then (some 0) else (x_g (x_in a1 120) (x_p (fX8_in ((σ 6 a1.toNatClampNeg).toInt64) 48 57 σ) (fun r4 => if r4 = 0 then (some 0) else (some 1))))
def fX8_refuse (a1 : Int32) (σ : x_S) : Option (Int32 × x_S) :=
  x_w (x_u σ 0 14 a1) (fun σ1 => some (0, σ1))
def fX8_sign (a1 : Int32) (σ : x_S) : Option (Int32 × x_S) :=
  x_p (fX8_isLetter a1 σ) (fun r2 => if r2 = 0 then (x_b (fX8_refuse 1 σ) (fun r7 σ8 => x_g (r7 &&& 1 = r7) (some (r7, σ8)))) else (x_w (x_u σ 0 13 ((σ 0 13) + 1)) (fun σ4 => some (1, σ4))))
def bX8_readsNumber_37 (σ : x_S) : Option (Int32 × x_S) :=
  x_b (fX8_refuse 1 σ) (fun r2 σ3 => x_g (r2 &&& 1 = r2) (some (r2, σ3)))
def bX8_readsNumber_113 (x1 : Int32) (x2 : Int32) (x3 : Int32) (y0 : Int32) (σ : x_S) : Option (Int32 × x_S) :=
  x_w (x_u σ 0 15 y0) (fun σ1 => x_p (fX8_in ((σ1 0 15).toInt64) x1.toInt64 x2.toInt64 σ1) (fun r4 => if r4 = 0 then (x_b (fX8_refuse 2 σ1) (fun r9 σ10 => x_g (r9 &&& 1 = r9) (some (r9, σ10)))) else (x_w (x_u σ1 0 13 ((σ1 0 13) + x3)) (fun σ6 => some (1, σ6)))))
def bX8_readsNumber_77 (x1 : Int32) (x2 : Int32) (y0 : Int32) (σ : x_S) : Option (Int32 × x_S) :=
  if y0 = 2 then (x_g (x_in ((σ 0 13) + 1) 120) (bX8_readsNumber_113 x1 x2 y0 (((10 * (σ 0 15)) + (σ 6 ((σ 0 13) + 1).toNatClampNeg)) - 48) σ)) else (bX8_readsNumber_113 x1 x2 y0 (σ 0 15) σ)
def bX8_readsNumber_43 (x1 : Int32) (x2 : Int32) (σ : x_S) : Option (Int32 × x_S) :=
  x_g (x_in (σ 0 13) 120) (x_w (x_u σ 0 15 ((σ 6 (σ 0 13).toNatClampNeg) - 48)) (fun σ2 => x_p (fX8_isFigure ((σ2 0 13) + 1) σ2) (fun r5 => if r5 = 0 then (bX8_readsNumber_77 x1 x2 1 σ2) else (bX8_readsNumber_77 x1 x2 2 σ2))))
def fX8_readsNumber (a1 : Int32) (a2 : Int32) (σ : x_S) : Option (Int32 × x_S) :=
  x_p (fX8_isFigure (σ 0 13) σ) (fun r2 => if r2 = 0 then (bX8_readsNumber_37 σ) else (x_p (fX8_isFigure ((σ 0 13) + 1) σ) (fun r5 => if r5 = 0 then (bX8_readsNumber_43 a1 a2 σ) else (x_p (fX8_isFigure ((σ 0 13) + 2) σ) (fun r8 => if r8 = 0 then (bX8_readsNumber_43 a1 a2 σ) else (bX8_readsNumber_37 σ))))))
def fX8_readsLaw (σ : x_S) : Option (Int32 × x_S) :=
  x_b (fX8_sign 100 σ) (fun r2 σ3 => if r2 = 0 then (some (0, σ3)) else (x_b (fX8_readsNumber 1 9 σ3) (fun r6 σ7 => if r6 = 0 then (some (0, σ7)) else (x_g (x_in (1323 : Int32) 1372) (x_w (x_u σ7 1 (1323 : Int32).toNatClampNeg (σ7 0 15)) (fun σ10 => x_b (fX8_sign 59 σ10) (fun r13 σ14 => x_g (r13 &&& 1 = r13) (some (r13, σ14)))))))))
def fX8_readsStreet (σ : x_S) : Option (Int32 × x_S) :=
  if (σ 1 (1324 : Int32).toNatClampNeg) = 7 then (x_b (fX8_refuse 3 σ) (fun r32 σ33 => x_g (r32 &&& 1 = r32) (some (r32, σ33)))) else (x_w (x_u σ 0 13 ((σ 0 13) + 1)) (fun σ3 => x_b (fX8_readsNumber 0 30 σ3) (fun r6 σ7 => if r6 = 0 then (some (0, σ7)) else (x_g (x_in (1328 + (σ 1 (1324 : Int32).toNatClampNeg)) 1372) (x_w (x_u σ7 1 (1328 + (σ 1 (1324 : Int32).toNatClampNeg)).toNatClampNeg (σ7 0 15)) (fun σ10 => x_b (fX8_sign 44 σ10) (fun r13 σ14 => if r13 = 0 then (some (0, σ14)) else (x_b (fX8_readsNumber 0 9 σ14) (fun r17 σ18 => if r17 = 0 then (some (0, σ18)) else (x_g (x_in (1335 + (σ 1 (1324 : Int32).toNatClampNeg)) 1372) (x_w (x_u σ18 1 (1335 + (σ 1 (1324 : Int32).toNatClampNeg)).toNatClampNeg (σ18 0 15)) (fun σ21 => x_g (x_in (1324 : Int32) 1372) (x_w (x_u σ21 1 (1324 : Int32).toNatClampNeg ((σ21 1 (1324 : Int32).toNatClampNeg) + 1)) (fun σ25 => x_b (fX8_sign 59 σ25) (fun r28 σ29 => x_g (r28 &&& 1 = r28) (some (r28, σ29)))))))))))))))))
def fX8_kindOfLetter (a0 : Int32) (σ : x_S) : Option Int32 :=
  if a0 = 119 then (some 1) else (if a0 = 110 then (some 2) else (if a0 = 98 then (some 3) else (if a0 = 107 then (some 4) else (if a0 = 115 then (some 5) else (some 0)))))
def fX8_readsGesture (σ : x_S) : Option (Int32 × x_S) :=
  if (σ 1 (1325 : Int32).toNatClampNeg) = 6 then (x_b (fX8_refuse 3 σ) (fun r49 σ50 => x_g (r49 &&& 1 = r49) (some (r49, σ50)))) else (x_g (x_in (σ 0 13) 120) (x_p (fX8_kindOfLetter (σ 6 (σ 0 13).toNatClampNeg) σ) (fun r5 => x_g (x_in (1342 + (σ 1 (1325 : Int32).toNatClampNeg)) 1372) (x_w (x_u σ 1 (1342 + (σ 1 (1325 : Int32).toNatClampNeg)).toNatClampNeg r5) (fun σ7 => x_w (x_u σ7 0 13 ((σ7 0 13) + 1)) (fun σ9 => x_b (fX8_readsNumber 1 30 σ9) (fun r12 σ13 => if r12 = 0 then (some (0, σ13)) else (x_g (x_in (1348 + (σ 1 (1325 : Int32).toNatClampNeg)) 1372) (x_w (x_u σ13 1 (1348 + (σ 1 (1325 : Int32).toNatClampNeg)).toNatClampNeg (σ13 0 15)) (fun σ16 => x_b (fX8_sign 44 σ16) (fun r19 σ20 => if r19 = 0 then (some (0, σ20)) else (x_b (fX8_readsNumber 0 3 σ20) (fun r23 σ24 => if r23 = 0 then (some (0, σ24)) else (x_g (x_in (1354 + (σ 1 (1325 : Int32).toNatClampNeg)) 1372) (x_w (x_u σ24 1 (1354 + (σ 1 (1325 : Int32).toNatClampNeg)).toNatClampNeg (σ24 0 15)) (fun σ27 => x_b (fX8_sign 44 σ27) (fun r30 σ31 => if r30 = 0 then (some (0, σ31)) else (x_b (fX8_readsNumber 1 9 σ31) (fun r34 σ35 => if r34 = 0 then (some (0, σ35)) else (x_g (x_in (1360 + (σ 1 (1325 : Int32).toNatClampNeg)) 1372) (x_w (x_u σ35 1 (1360 + (σ 1 (1325 : Int32).toNatClampNeg)).toNatClampNeg (σ35 0 15)) (fun σ38 => x_g (x_in (1325 : Int32) 1372) (x_w (x_u σ38 1 (1325 : Int32).toNatClampNeg ((σ38 1 (1325 : Int32).toNatClampNeg) + 1)) (fun σ42 => x_b (fX8_sign 59 σ42) (fun r45 σ46 => x_g (r45 &&& 1 = r45) (some (r45, σ46)))))))))))))))))))))))))))
def bX8_reads_94 (x1 : Int32) (σ : x_S) : Option (Int32 × x_S) :=
  if x1 = 0 then (some (0, σ)) else (if (σ 0 13) = (σ 0 8) then (some (1, σ)) else (x_b (fX8_refuse 1 σ) (fun r4 σ5 => if r4 = 0 then (some (0, σ5)) else (some (1, σ5)))))
def gX8_reads_56 (K56 : Int32 → x_S → Option (Int32 × x_S)) (x1 : Int32) (σ : x_S) : Option (Int32 × x_S) :=
  if x1 = 0 then (bX8_reads_94 x1 σ) else (if (σ 0 8) ≤ (σ 0 13) then (bX8_reads_94 x1 σ) else (x_g (x_in (σ 0 13) 120) (x_p (fX8_kindOfLetter (σ 6 (σ 0 13).toNatClampNeg) σ) (fun r5 => if r5 ≤ 0 then (bX8_reads_94 x1 σ) else (x_b (fX8_readsGesture σ) (fun r8 σ9 => K56 r8 σ9))))))
def bX8_reads_56 (x1 : Int32) (σ : x_S) : Option (Int32 × x_S) :=
  x_fx (α := Int32 → x_S → Option (Int32 × x_S)) (fun _ _ => none) (fun K => fun x1 σ => gX8_reads_56   K x1 σ) x_F x1 σ
def gX8_reads_35 (K35 : Int32 → x_S → Option (Int32 × x_S)) (x1 : Int32) (σ : x_S) : Option (Int32 × x_S) :=
  if x1 = 0 then (bX8_reads_56 x1 σ) else (x_p (fX8_isLetter 114 σ) (fun r3 => if r3 = 0 then (bX8_reads_56 x1 σ) else (x_b (fX8_readsStreet σ) (fun r6 σ7 => K35 r6 σ7))))
def bX8_reads_35 (x1 : Int32) (σ : x_S) : Option (Int32 × x_S) :=
  x_fx (α := Int32 → x_S → Option (Int32 × x_S)) (fun _ _ => none) (fun K => fun x1 σ => gX8_reads_35   K x1 σ) x_F x1 σ
def gX8_reads_2 (K2 : Int32 → x_S → Option (Int32 × x_S)) (x1 : Int32) (σ : x_S) : Option (Int32 × x_S) :=
  if 49 ≤ x1 then (x_w (x_u σ 0 13 0) (fun σ2 => x_b (fX8_readsLaw σ2) (fun r5 σ6 => bX8_reads_35 r5 σ6))) else (x_g (x_in (1323 + x1) 1372) (x_w (x_u σ 1 (1323 + x1).toNatClampNeg 0) (fun σ8 => K2 (x1 + 1) σ8)))
def bX8_reads_2 (x1 : Int32) (σ : x_S) : Option (Int32 × x_S) :=
  x_fx (α := Int32 → x_S → Option (Int32 × x_S)) (fun _ _ => none) (fun K => fun x1 σ => gX8_reads_2   K x1 σ) x_F x1 σ
def fX8_reads (σ : x_S) : Option (Int32 × x_S) :=
  bX8_reads_2 0 σ
def gX8_copyTown_2 (x1 : Int32) (x2 : Int32) (K2 : Int32 → x_S → Option x_S) (x3 : Int32) (σ : x_S) : Option x_S :=
  if 49 ≤ x3 then (some σ) else (x_g (x_in (x1 + x3) 1372) (x_g (x_in (x2 + x3) 1372) (x_w (x_u σ 1 (x2 + x3).toNatClampNeg (σ 1 (x1 + x3).toNatClampNeg)) (fun σ4 => K2 (x3 + 1) σ4))))
def bX8_copyTown_2 (x1 : Int32) (x2 : Int32) (x3 : Int32) (σ : x_S) : Option x_S :=
  x_fx (α := Int32 → x_S → Option x_S) (fun _ _ => none) (fun K => fun x3 σ => gX8_copyTown_2  x1 x2 K x3 σ) x_F x3 σ
def fX8_copyTown (a1 : Int32) (a2 : Int32) (σ : x_S) : Option x_S :=
  bX8_copyTown_2 a1 a2 0 σ
def fX8_city (σ : x_S) : Option (Int32 × x_S) :=
  x_b (fX8_reads σ) (fun r2 σ3 => x_w (x_u σ3 0 8 0) (fun σ4 => if r2 = 0 then (x_w (x_u σ4 0 9 (σ4 0 14)) (fun σ14 => some (((-1000100) - (σ14 0 13)), σ14))) else (x_v (fX8_copyTown 1323 0 σ4) (fun σ8 => x_w (x_u σ8 0 1 1) (fun σ9 => x_w (x_u σ9 0 2 0) (fun σ11 => some ((σ11 1 (2 : Int32).toNatClampNeg), σ11)))))))
def fX8_fault (σ : x_S) : Option Int32 :=
  some (σ 0 9)
def bX8_keepPast_61 (y0 : Int32) (y1 : Int32) (σ : x_S) : Option x_S :=
  x_w (x_u σ 0 2 (y1 - y0)) (fun σ1 => x_v (fX8_copyTown 0 (49 + (49 * (σ1 0 2))) σ1) (fun σ4 => x_w (x_u σ4 0 2 ((σ4 0 2) + 1)) (fun σ5 => some σ5)))
def bX8_keepPast_42 (σ : x_S) : Option x_S :=
  if (σ 0 2) = 24 then (bX8_keepPast_61 1 (σ 0 2) σ) else (bX8_keepPast_61 0 (σ 0 2) σ)
def gX8_keepPast_2 (K2 : Int32 → x_S → Option x_S) (x1 : Int32) (σ : x_S) : Option x_S :=
  if 1127 ≤ x1 then (bX8_keepPast_42 σ) else (if (σ 0 2) = 24 then (x_g (x_in (98 + x1) 1372) (x_g (x_in (49 + x1) 1372) (x_w (x_u σ 1 (49 + x1).toNatClampNeg (σ 1 (98 + x1).toNatClampNeg)) (fun σ5 => K2 (x1 + 1) σ5)))) else (bX8_keepPast_42 σ))
def bX8_keepPast_2 (x1 : Int32) (σ : x_S) : Option x_S :=
  x_fx (α := Int32 → x_S → Option x_S) (fun _ _ => none) (fun K => fun x1 σ => gX8_keepPast_2   K x1 σ) x_F x1 σ
def fX8_keepPast (σ : x_S) : Option x_S :=
  bX8_keepPast_2 0 σ
def fX8_undo (σ : x_S) : Option (Int32 × x_S) :=
  if (σ 0 2) = 0 then (some ((-1000002), σ)) else (x_w (x_u σ 0 2 ((σ 0 2) - 1)) (fun σ2 => x_v (fX8_copyTown (49 + (49 * (σ2 0 2))) 0 σ2) (fun σ5 => some ((σ5 0 2), σ5))))
def fX8_isGesture (a1 : Int32) (σ : x_S) : Option Int32 :=
  x_p (fX8_in a1.toInt64 0 (((σ 1 (2 : Int32).toNatClampNeg) - 1).toInt64) σ) (fun r3 => x_g (r3 &&& 1 = r3) (some r3))
def fX8_isStreet (a1 : Int32) (σ : x_S) : Option Int32 :=
  x_p (fX8_in a1.toInt64 0 (((σ 1 (1 : Int32).toNatClampNeg) - 1).toInt64) σ) (fun r3 => x_g (r3 &&& 1 = r3) (some r3))
def fX8_wave (a1 : Int32) (a2 : Int32) (σ : x_S) : Option Int32 :=
  x_g (x_in (12 + a2) 1372) (some ((a1 * (σ 1 (0 : Int32).toNatClampNeg)) + ((a1 * (σ 1 (12 + a2).toNatClampNeg)) / 10)))
def fX8_plainDuty (a1 : Int32) (a2 : Int32) (a3 : Int32) (σ : x_S) : Option Int32 :=
  if a1 = 2 then (x_p (fX8_wave a2 a3 σ) (fun r3 => some (r3 / 2))) else (if a1 = 3 then (x_p (fX8_wave a2 a3 σ) (fun r6 => if a2 ≤ 10 then (some (r6 + 0)) else (some (r6 + ((σ 1 (0 : Int32).toNatClampNeg) * (a2 - 10)))))) else (if a1 = 4 then (some 1) else (if a1 = 5 then (x_g (x_in (12 + a3) 1372) (if 5 ≤ (σ 1 (12 + a3).toNatClampNeg) then (x_p (fX8_wave a2 a3 σ) (fun r14 => some r14)) else (some 1))) else (x_p (fX8_wave a2 a3 σ) (fun r16 => some r16)))))
def fX8_owes (a1 : Int32) (a2 : Int32) (a3 : Int32) (σ : x_S) : Option Int32 :=
  x_p (fX8_plainDuty a1 a2 a3 σ) (fun r2 => x_p (fX8_has (σ 1 (4 : Int32).toNatClampNeg) a3 σ) (fun r5 => if r5 = 0 then (some r2) else (some (r2 / 2))))
def fX8_dutyOf (a1 : Int32) (a2 : Int32) (σ : x_S) : Option Int32 :=
  x_g (x_in (19 + a1) 1372) (x_g (x_in (25 + a1) 1372) (x_p (fX8_owes (σ 1 (19 + a1).toNatClampNeg) (σ 1 (25 + a1).toNatClampNeg) a2 σ) (fun r4 => some r4)))
def bX8_isSeen_18 (x1 : Int32) (x2 : Int32) (y0 : Int32) (σ : x_S) : Option Int32 :=
  x_g (x_in (25 + x1) 1372) (x_g (x_in (5 + x2) 1372) (if ((σ 1 (25 + x1).toNatClampNeg) + y0) < (σ 1 (5 + x2).toNatClampNeg) then (some 0) else (some 1)))
def fX8_isSeen (a1 : Int32) (a2 : Int32) (σ : x_S) : Option Int32 :=
  x_g (x_in (19 + a1) 1372) (if (σ 1 (19 + a1).toNatClampNeg) ≤ 3 then (bX8_isSeen_18 a1 a2 0 σ) else (bX8_isSeen_18 a1 a2 5 σ))
def fX8_make (a1 : Int32) (a2 : Int32) (σ : x_S) : Option (Int32 × x_S) :=
  x_p (fX8_isGesture a1 σ) (fun r2 => if r2 = 0 then (some ((-1000001), σ)) else (x_p (fX8_isStreet a2 σ) (fun r5 => if r5 = 0 then (some ((-1000001), σ)) else (x_p (fX8_isSeen a1 a2 σ) (fun r8 => if r8 = 0 then (some ((-1000002), σ)) else (x_p (fX8_dutyOf a1 a2 σ) (fun r12 => if ((σ 1 (3 : Int32).toNatClampNeg) + r12) ≤ 99999 then (x_v (fX8_keepPast σ) (fun σ15 => x_g (x_in (3 : Int32) 1372) (x_w (x_u σ15 1 (3 : Int32).toNatClampNeg ((σ 1 (3 : Int32).toNatClampNeg) + r12)) (fun σ17 => x_g (x_in (43 + a1) 1372) (x_g (x_in (43 + a1) 1372) (x_w (x_u σ17 1 (43 + a1).toNatClampNeg ((σ17 1 (43 + a1).toNatClampNeg) + 1)) (fun σ21 => some (((σ 1 (3 : Int32).toNatClampNeg) + r12), σ21)))))))) else (some ((-1000003), σ)))))))))
def fX8_dim (a1 : Int32) (a2 : Int32) (σ : x_S) : Option (Int32 × x_S) :=
  x_p (fX8_isStreet a1 σ) (fun r2 => if r2 = 0 then (some ((-1000001), σ)) else (x_p (fX8_in a2.toInt64 0 30 σ) (fun r5 => if r5 = 0 then (some ((-1000001), σ)) else (x_v (fX8_keepPast σ) (fun σ8 => x_g (x_in (5 + a1) 1372) (x_g (x_in (5 + a1) 1372) (x_w (x_u σ8 1 (5 + a1).toNatClampNeg a2) (fun σ11 => some ((σ8 1 (5 + a1).toNatClampNeg), σ11)))))))))
def fX8_train (a1 : Int32) (a2 : Int32) (σ : x_S) : Option (Int32 × x_S) :=
  x_p (fX8_isGesture a1 σ) (fun r2 => if r2 = 0 then (some ((-1000001), σ)) else (x_p (fX8_in a2.toInt64 1 29 σ) (fun r5 => if r5 = 0 then (some ((-1000001), σ)) else (x_g (x_in (25 + a1) 1372) (if 1 ≤ ((σ 1 (25 + a1).toNatClampNeg) - a2) then (x_v (fX8_keepPast σ) (fun σ10 => x_g (x_in (25 + a1) 1372) (x_g (x_in (25 + a1) 1372) (x_w (x_u σ10 1 (25 + a1).toNatClampNeg ((σ10 1 (25 + a1).toNatClampNeg) - a2)) (fun σ13 => x_g (x_in (25 + a1) 1372) (some ((σ13 1 (25 + a1).toNatClampNeg), σ13))))))) else (some ((-1000002), σ)))))))
def bX8_know_41 (x1 : Int32) (y0 : Int32) (y1 : Int32) (σ : x_S) : Option (Int32 × x_S) :=
  if y1 = y0 then (some ((-1000002), σ)) else (x_v (fX8_keepPast σ) (fun σ3 => x_g (x_in (4 : Int32) 1372) (x_w (x_u σ3 1 (4 : Int32).toNatClampNeg ((σ3 1 (4 : Int32).toNatClampNeg) ^^^ (1 <<< (x1 &&& 31)))) (fun σ6 => some ((σ6 1 (4 : Int32).toNatClampNeg), σ6)))))
def fX8_know (a1 : Int32) (a2 : Int32) (σ : x_S) : Option (Int32 × x_S) :=
  x_p (fX8_isStreet a1 σ) (fun r2 => if r2 = 0 then (some ((-1000001), σ)) else (x_p (fX8_in a2.toInt64 0 1 σ) (fun r5 => if r5 = 0 then (some ((-1000001), σ)) else (x_p (fX8_has (σ 1 (4 : Int32).toNatClampNeg) a1 σ) (fun r9 => if a2 = 1 then (bX8_know_41 a1 1 r9 σ) else (bX8_know_41 a1 0 r9 σ))))))
def gX8_seenStreets_4 (x1 : Int32) (K4 : Int32 → Int32 → Option Int32) (x2 : Int32) (x3 : Int32) (σ : x_S) : Option Int32 :=
  if (σ 1 (1 : Int32).toNatClampNeg) ≤ x3 then (some x2) else (x_p (fX8_isSeen x1 x3 σ) (fun r4 => if r4 = 0 then (K4 (x2 ||| 0) (x3 + 1)) else (K4 (x2 ||| (1 <<< (x3 &&& 31))) (x3 + 1))))
def bX8_seenStreets_4 (x1 : Int32) (x2 : Int32) (x3 : Int32) (σ : x_S) : Option Int32 :=
  x_fx (α := Int32 → Int32 → Option Int32) (fun _ _ => none) (fun K => fun x2 x3 => gX8_seenStreets_4  x1 K x2 x3 σ) x_F x2 x3
def fX8_seenStreets (a1 : Int32) (σ : x_S) : Option Int32 :=
  bX8_seenStreets_4 a1 0 0 σ
def gX8_seenGestures_4 (x1 : Int32) (K4 : Int32 → Int32 → Option Int32) (x2 : Int32) (x3 : Int32) (σ : x_S) : Option Int32 :=
  if (σ 1 (2 : Int32).toNatClampNeg) ≤ x3 then (some x2) else (x_p (fX8_isSeen x3 x1 σ) (fun r4 => if r4 = 0 then (K4 (x2 ||| 0) (x3 + 1)) else (K4 (x2 ||| (1 <<< (x3 &&& 31))) (x3 + 1))))
def bX8_seenGestures_4 (x1 : Int32) (x2 : Int32) (x3 : Int32) (σ : x_S) : Option Int32 :=
  x_fx (α := Int32 → Int32 → Option Int32) (fun _ _ => none) (fun K => fun x2 x3 => gX8_seenGestures_4  x1 K x2 x3 σ) x_F x2 x3
def fX8_seenGestures (a1 : Int32) (σ : x_S) : Option Int32 :=
  bX8_seenGestures_4 a1 0 0 σ
def fX8_gesture (a1 : Int32) (a2 : Int32) (σ : x_S) : Option Int32 :=
  x_p (fX8_isGesture a1 σ) (fun r2 => if r2 = 0 then (some (-1000001)) else (if a2 = 0 then (x_g (x_in (25 + a1) 1372) (some (σ 1 (25 + a1).toNatClampNeg))) else (if a2 = 1 then (x_g (x_in (31 + a1) 1372) (some (σ 1 (31 + a1).toNatClampNeg))) else (if a2 = 2 then (x_g (x_in (37 + a1) 1372) (some (σ 1 (37 + a1).toNatClampNeg))) else (if a2 = 3 then (x_p (fX8_seenStreets a1 σ) (fun r12 => some r12)) else (if a2 = 4 then (x_g (x_in (43 + a1) 1372) (some (σ 1 (43 + a1).toNatClampNeg))) else (some (-1000001))))))))
def fX8_street (a1 : Int32) (a2 : Int32) (σ : x_S) : Option Int32 :=
  x_p (fX8_isStreet a1 σ) (fun r2 => if r2 = 0 then (some (-1000001)) else (if a2 = 0 then (x_g (x_in (5 + a1) 1372) (some (σ 1 (5 + a1).toNatClampNeg))) else (if a2 = 1 then (x_g (x_in (12 + a1) 1372) (some (σ 1 (12 + a1).toNatClampNeg))) else (if a2 = 2 then (some (((σ 1 (4 : Int32).toNatClampNeg) >>> (a1 &&& 31)) &&& 1)) else (if a2 = 3 then (x_p (fX8_seenGestures a1 σ) (fun r12 => some r12)) else (some (-1000001)))))))
def fX8_duty (a1 : Int32) (a2 : Int32) (σ : x_S) : Option Int32 :=
  x_p (fX8_isGesture a1 σ) (fun r2 => if r2 = 0 then (some (-1000001)) else (x_p (fX8_isStreet a2 σ) (fun r5 => if r5 = 0 then (some (-1000001)) else (x_p (fX8_dutyOf a1 a2 σ) (fun r8 => some r8)))))
def fX8_tells (a1 : Int32) (a2 : Int32) (a3 : Int32) (σ : x_S) : Option Int32 :=
  x_g (x_in (31 + a1) 1372) (if (σ 1 (31 + a1).toNatClampNeg) = a2 then (x_p (fX8_isSeen a1 a3 σ) (fun r4 => if r4 = 0 then (some 0) else (some 1))) else (some 0))
def bX8_onBy_29 (x1 : Int32) (x3 : Int32) (x4 : Int32) (y0 : Int32) (σ : x_S) : Option Int32 :=
  if y0 = 0 then (some 1000000) else (x_p (fX8_dutyOf x1 x3 σ) (fun r3 => x_g (x_in (37 + x1) 1372) (x_g (x_in (((100 * (x3 + 1)) + x4) - (σ 1 (37 + x1).toNatClampNeg)) 800) (some (r3 + (σ 8 (((100 * (x3 + 1)) + x4) - (σ 1 (37 + x1).toNatClampNeg)).toNatClampNeg))))))
def bX8_onBy_28 (x1 : Int32) (x3 : Int32) (x4 : Int32) (σ : x_S) : Option Int32 :=
  bX8_onBy_29 x1 x3 x4 0 σ
def fX8_onBy (a1 : Int32) (a2 : Int32) (a3 : Int32) (a4 : Int32) (σ : x_S) : Option Int32 :=
  x_p (fX8_tells a1 a2 a3 σ) (fun r2 => if r2 = 0 then (bX8_onBy_28 a1 a3 a4 σ) else (x_g (x_in (37 + a1) 1372) (if a4 < (σ 1 (37 + a1).toNatClampNeg) then (bX8_onBy_28 a1 a3 a4 σ) else (bX8_onBy_29 a1 a3 a4 1 σ))))
def bX8_layCosts_140 (K34 : Int32 → x_S → Option x_S) (K43 : Int32 → x_S → Option x_S) (K68 : Int32 → x_S → Option x_S) (x1 : Int32) (x2 : Int32) (x4 : Int32) (x5 : Int32) (x6 : Int32) (y0 : Int32) (y1 : Int32) (σ : x_S) : Option x_S :=
  x_g (x_in y1 800) (x_w (x_u σ 8 y1.toNatClampNeg y0) (fun σ2 => K68 (x6 + 1) σ2))
def gX8_layCosts_68 (K34 : Int32 → x_S → Option x_S) (K43 : Int32 → x_S → Option x_S) (x1 : Int32) (x2 : Int32) (x4 : Int32) (x5 : Int32) (K68 : Int32 → x_S → Option x_S) (x6 : Int32) (σ : x_S) : Option x_S :=
  if (σ 1 (2 : Int32).toNatClampNeg) ≤ x6 then (K43 (x5 + 1) σ) else (x_p (fX8_onBy x6 x1 x4 x5 σ) (fun r4 => x_g (x_in ((100 * x4) + x5) 800) (if (σ 8 ((100 * x4) + x5).toNatClampNeg) ≤ r4 then (x_g (x_in ((100 * x4) + x5) 800) (bX8_layCosts_140 K34 K43 K68 x1 x2 x4 x5 x6 (σ 8 ((100 * x4) + x5).toNatClampNeg) ((100 * x4) + x5) σ)) else (bX8_layCosts_140 K34 K43 K68 x1 x2 x4 x5 x6 r4 ((100 * x4) + x5) σ))))
def bX8_layCosts_68 (K34 : Int32 → x_S → Option x_S) (K43 : Int32 → x_S → Option x_S) (x1 : Int32) (x2 : Int32) (x4 : Int32) (x5 : Int32) (x6 : Int32) (σ : x_S) : Option x_S :=
  x_fx (α := Int32 → x_S → Option x_S) (fun _ _ => none) (fun K => fun x6 σ => gX8_layCosts_68 K34 K43 x1 x2 x4 x5 K x6 σ) x_F x6 σ
def gX8_layCosts_43 (K34 : Int32 → x_S → Option x_S) (x1 : Int32) (x2 : Int32) (x4 : Int32) (K43 : Int32 → x_S → Option x_S) (x5 : Int32) (σ : x_S) : Option x_S :=
  if 100 ≤ x5 then (K34 (x4 + (-1)) σ) else (x_g (x_in ((100 * x4) + x5) 800) (x_w (x_u σ 8 ((100 * x4) + x5).toNatClampNeg 1000000) (fun σ3 => bX8_layCosts_68 K34 K43 x1 x2 x4 x5 0 σ3)))
def bX8_layCosts_43 (K34 : Int32 → x_S → Option x_S) (x1 : Int32) (x2 : Int32) (x4 : Int32) (x5 : Int32) (σ : x_S) : Option x_S :=
  x_fx (α := Int32 → x_S → Option x_S) (fun _ _ => none) (fun K => fun x5 σ => gX8_layCosts_43 K34 x1 x2 x4 K x5 σ) x_F x5 σ
def gX8_layCosts_34 (x1 : Int32) (x2 : Int32) (K34 : Int32 → x_S → Option x_S) (x4 : Int32) (σ : x_S) : Option x_S :=
  if x4 < x2 then (some σ) else (bX8_layCosts_43 K34 x1 x2 x4 0 σ)
def bX8_layCosts_34 (x1 : Int32) (x2 : Int32) (x4 : Int32) (σ : x_S) : Option x_S :=
  x_fx (α := Int32 → x_S → Option x_S) (fun _ _ => none) (fun K => fun x4 σ => gX8_layCosts_34  x1 x2 K x4 σ) x_F x4 σ
def gX8_layCosts_3 (x1 : Int32) (x2 : Int32) (x3 : Int32) (K3 : Int32 → x_S → Option x_S) (x4 : Int32) (σ : x_S) : Option x_S :=
  if 100 ≤ x4 then (bX8_layCosts_34 x1 x2 x3 σ) else (x_g (x_in ((100 * (x3 + 1)) + x4) 800) (x_w (x_u σ 8 ((100 * (x3 + 1)) + x4).toNatClampNeg 0) (fun σ3 => K3 (x4 + 1) σ3)))
def bX8_layCosts_3 (x1 : Int32) (x2 : Int32) (x3 : Int32) (x4 : Int32) (σ : x_S) : Option x_S :=
  x_fx (α := Int32 → x_S → Option x_S) (fun _ _ => none) (fun K => fun x4 σ => gX8_layCosts_3  x1 x2 x3 K x4 σ) x_F x4 σ
def fX8_layCosts (a1 : Int32) (a2 : Int32) (a3 : Int32) (σ : x_S) : Option x_S :=
  bX8_layCosts_3 a1 a2 a3 0 σ
def fX8_isMeans (a0 : Int32) (σ : x_S) : Option Int32 :=
  x_p (fX8_in a0.toInt64 0 3 σ) (fun r2 => x_g (r2 &&& 1 = r2) (some r2))
def fX8_areStreets (a1 : Int32) (a2 : Int32) (σ : x_S) : Option Int32 :=
  x_p (fX8_isStreet a1 σ) (fun r2 => if r2 = 0 then (some 0) else (x_p (fX8_isStreet a2 σ) (fun r5 => if r5 = 0 then (some 0) else (if a2 < a1 then (some 0) else (some 1)))))
def gX8_tell_109 (K97 : Int32 → Int32 → Int32 → x_S → Option (Int32 × x_S)) (x1 : Int32) (x2 : Int32) (x5 : Int32) (x6 : Int32) (x7 : Int32) (x9 : Int32) (K109 : Int32 → x_S → Option (Int32 × x_S)) (x8 : Int32) (σ : x_S) : Option (Int32 × x_S) :=
  x_p (fX8_onBy x8 x1 x9 x7 σ) (fun r2 => x_g (x_in ((100 * x9) + x7) 800) (if r2 = (σ 8 ((100 * x9) + x7).toNatClampNeg) then (x_g (x_in (37 + x8) 1372) (K97 (x7 - (σ 1 (37 + x8).toNatClampNeg)) x8 (x9 + 1) σ)) else (K109 (x8 + 1) σ)))
def bX8_tell_109 (K97 : Int32 → Int32 → Int32 → x_S → Option (Int32 × x_S)) (x1 : Int32) (x2 : Int32) (x5 : Int32) (x6 : Int32) (x7 : Int32) (x9 : Int32) (x8 : Int32) (σ : x_S) : Option (Int32 × x_S) :=
  x_fx (α := Int32 → x_S → Option (Int32 × x_S)) (fun _ _ => none) (fun K => fun x8 σ => gX8_tell_109 K97 x1 x2 x5 x6 x7 x9 K x8 σ) x_F x8 σ
def gX8_tell_97 (x1 : Int32) (x2 : Int32) (x5 : Int32) (x6 : Int32) (K97 : Int32 → Int32 → Int32 → x_S → Option (Int32 × x_S)) (x7 : Int32) (x8 : Int32) (x9 : Int32) (σ : x_S) : Option (Int32 × x_S) :=
  if (x2 + x5) < x9 then (if 0 ≤ x5 then (some (x8, σ)) else (some (x6, σ))) else (bX8_tell_109 K97 x1 x2 x5 x6 x7 x9 0 σ)
def bX8_tell_97 (x1 : Int32) (x2 : Int32) (x5 : Int32) (x6 : Int32) (x7 : Int32) (x8 : Int32) (x9 : Int32) (σ : x_S) : Option (Int32 × x_S) :=
  x_fx (α := Int32 → Int32 → Int32 → x_S → Option (Int32 × x_S)) (fun _ _ _ _ => none) (fun K => fun x7 x8 x9 σ => gX8_tell_97  x1 x2 x5 x6 K x7 x8 x9 σ) x_F x7 x8 x9 σ
def fX8_tell (a1 : Int32) (a2 : Int32) (a3 : Int32) (a4 : Int32) (a5 : Int32) (σ : x_S) : Option (Int32 × x_S) :=
  x_p (fX8_isMeans a1 σ) (fun r2 => if r2 = 0 then (some ((-1000001), σ)) else (x_p (fX8_areStreets a2 a3 σ) (fun r5 => if r5 = 0 then (some ((-1000001), σ)) else (x_p (fX8_in a4.toInt64 0 99 σ) (fun r8 => if r8 = 0 then (some ((-1000001), σ)) else (x_p (fX8_in a5.toInt64 (-1) 6 σ) (fun r11 => if r11 = 0 then (some ((-1000001), σ)) else (x_v (fX8_layCosts a1 a2 a3 σ) (fun σ14 => x_g (x_in ((100 * a2) + a4) 800) (if 1000000 ≤ (σ14 8 ((100 * a2) + a4).toNatClampNeg) then (some ((-1000000), σ14)) else (if a5 ≤ (a3 - a2) then (bX8_tell_97 a1 a2 a5 (σ14 8 ((100 * a2) + a4).toNatClampNeg) a4 (-1000000) a2 σ14) else (some ((-1000000), σ14)))))))))))))
def bX8_soonest_53 (K6 : Int32 → Int32 → Option Int32) (x1 : Int32) (x2 : Int32) (x3 : Int32) (x4 : Int32) (y0 : Int32) (σ : x_S) : Option Int32 :=
  if y0 = 0 then (K6 x3 (x4 + 1)) else (x_g (x_in (37 + x4) 1372) (K6 (σ 1 (37 + x4).toNatClampNeg) (x4 + 1)))
def bX8_soonest_52 (K6 : Int32 → Int32 → Option Int32) (x1 : Int32) (x2 : Int32) (x3 : Int32) (x4 : Int32) (σ : x_S) : Option Int32 :=
  bX8_soonest_53 K6 x1 x2 x3 x4 0 σ
def gX8_soonest_6 (x1 : Int32) (x2 : Int32) (K6 : Int32 → Int32 → Option Int32) (x3 : Int32) (x4 : Int32) (σ : x_S) : Option Int32 :=
  if (σ 1 (2 : Int32).toNatClampNeg) ≤ x4 then (some x3) else (x_p (fX8_tells x4 x1 x2 σ) (fun r4 => if r4 = 0 then (bX8_soonest_52 K6 x1 x2 x3 x4 σ) else (if x3 = (-1000000) then (bX8_soonest_53 K6 x1 x2 x3 x4 1 σ) else (x_g (x_in (37 + x4) 1372) (if x3 ≤ (σ 1 (37 + x4).toNatClampNeg) then (bX8_soonest_52 K6 x1 x2 x3 x4 σ) else (bX8_soonest_53 K6 x1 x2 x3 x4 1 σ))))))
def bX8_soonest_6 (x1 : Int32) (x2 : Int32) (x3 : Int32) (x4 : Int32) (σ : x_S) : Option Int32 :=
  x_fx (α := Int32 → Int32 → Option Int32) (fun _ _ => none) (fun K => fun x3 x4 => gX8_soonest_6  x1 x2 K x3 x4 σ) x_F x3 x4
def fX8_soonest (a1 : Int32) (a2 : Int32) (σ : x_S) : Option Int32 :=
  bX8_soonest_6 a1 a2 (-1000000) 0 σ
def gX8_shut_24 (x1 : Int32) (K24 : Int32 → Int32 → Option Int32) (x2 : Int32) (x3 : Int32) (σ : x_S) : Option Int32 :=
  if (σ 1 (1 : Int32).toNatClampNeg) ≤ x3 then (some x2) else (x_p (fX8_soonest x1 x3 σ) (fun r4 => if r4 = (-1000000) then (K24 (x2 ||| (1 <<< (x3 &&& 31))) (x3 + 1)) else (K24 (x2 ||| 0) (x3 + 1))))
def bX8_shut_24 (x1 : Int32) (x2 : Int32) (x3 : Int32) (σ : x_S) : Option Int32 :=
  x_fx (α := Int32 → Int32 → Option Int32) (fun _ _ => none) (fun K => fun x2 x3 => gX8_shut_24  x1 K x2 x3 σ) x_F x2 x3
def fX8_shut (a1 : Int32) (σ : x_S) : Option Int32 :=
  if (σ 0 1) = 0 then (some (-1000002)) else (x_p (fX8_isMeans a1 σ) (fun r3 => if r3 = 0 then (some (-1000001)) else (bX8_shut_24 a1 0 0 σ)))
def gX8_quick_25 (x1 : Int32) (x3 : Int32) (K25 : Int32 → Int32 → Option Int32) (x4 : Int32) (x5 : Int32) (σ : x_S) : Option Int32 :=
  if x3 < x5 then (some x4) else (x_p (fX8_soonest x1 x5 σ) (fun r3 => if r3 = (-1000000) then (some (-1000000)) else (x_p (fX8_soonest x1 x5 σ) (fun r6 => K25 (x4 + r6) (x5 + 1)))))
def bX8_quick_25 (x1 : Int32) (x3 : Int32) (x4 : Int32) (x5 : Int32) (σ : x_S) : Option Int32 :=
  x_fx (α := Int32 → Int32 → Option Int32) (fun _ _ => none) (fun K => fun x4 x5 => gX8_quick_25  x1 x3 K x4 x5 σ) x_F x4 x5
def fX8_quick (a1 : Int32) (a2 : Int32) (a3 : Int32) (σ : x_S) : Option Int32 :=
  x_p (fX8_isMeans a1 σ) (fun r2 => if r2 = 0 then (some (-1000001)) else (x_p (fX8_areStreets a2 a3 σ) (fun r5 => if r5 = 0 then (some (-1000001)) else (bX8_quick_25 a1 a3 0 a2 σ))))
def gX8_noPairs_39 (x1 : Int32) (x2 : Int32) (x3 : Int32) (K39 : Int32 → Int32 → x_S → Option (Int32 × x_S)) (x4 : Int32) (x5 : Int32) (σ : x_S) : Option (Int32 × x_S) :=
  if x3 ≤ x5 then (if x4 = 0 then (some ((-1000001), σ)) else (some (0, σ))) else (if x4 = 0 then (K39 0 (x5 + 1) σ) else (x_g (x_in (((40 * x1) + x2) + (2 * x5)) 320) (x_p (fX8_isStreet (σ 5 (((40 * x1) + x2) + (2 * x5)).toNatClampNeg) σ) (fun r6 => if r6 = 0 then (K39 0 (x5 + 1) σ) else (K39 1 (x5 + 1) σ)))))
def bX8_noPairs_39 (x1 : Int32) (x2 : Int32) (x3 : Int32) (x4 : Int32) (x5 : Int32) (σ : x_S) : Option (Int32 × x_S) :=
  x_fx (α := Int32 → Int32 → x_S → Option (Int32 × x_S)) (fun _ _ _ => none) (fun K => fun x4 x5 σ => gX8_noPairs_39  x1 x2 x3 K x4 x5 σ) x_F x4 x5 σ
def fX8_noPairs (a1 : Int32) (a2 : Int32) (a3 : Int32) (σ : x_S) : Option (Int32 × x_S) :=
  x_g (x_in a1 8) (if 0 ≤ (σ 4 a1.toNatClampNeg) then (x_p (fX8_isSpan a1 a2 (2 * a3) σ) (fun r4 => if r4 = 0 then (x_b (fX8_find 2 σ) (fun r7 σ8 => some (r7, σ8))) else (bX8_noPairs_39 a1 a2 a3 1 0 σ))) else (x_b (fX8_find 1 σ) (fun r10 σ11 => some (r10, σ11))))
def gX8_owesSo_12 (x1 : Int32) (x2 : Int32) (x3 : Int32) (x4 : Int32) (x5 : Int32) (K12 : Int32 → Int32 → Option Int32) (x6 : Int32) (x7 : Int32) (σ : x_S) : Option Int32 :=
  if (((40 * x3) + x4) + (2 * x5)) ≤ x7 then (x_g (x6 &&& 1 = x6) (some x6)) else (if x6 = 0 then (K12 0 (x7 + 2)) else (x_g (x_in x7 320) (x_p (fX8_owes x1 x2 (σ 5 x7.toNatClampNeg) σ) (fun r6 => x_g (x_in (x7 + 1) 320) (if r6 = (σ 5 (x7 + 1).toNatClampNeg) then (K12 1 (x7 + 2)) else (K12 0 (x7 + 2)))))))
def bX8_owesSo_12 (x1 : Int32) (x2 : Int32) (x3 : Int32) (x4 : Int32) (x5 : Int32) (x6 : Int32) (x7 : Int32) (σ : x_S) : Option Int32 :=
  x_fx (α := Int32 → Int32 → Option Int32) (fun _ _ => none) (fun K => fun x6 x7 => gX8_owesSo_12  x1 x2 x3 x4 x5 K x6 x7 σ) x_F x6 x7
def fX8_owesSo (a1 : Int32) (a2 : Int32) (a3 : Int32) (a4 : Int32) (a5 : Int32) (σ : x_S) : Option Int32 :=
  bX8_owesSo_12 a1 a2 a3 a4 a5 1 ((40 * a3) + a4) σ
def gX8_isSeenSo_11 (x1 : Int32) (x2 : Int32) (x3 : Int32) (x4 : Int32) (K11 : Int32 → Int32 → Option Int32) (x5 : Int32) (x6 : Int32) (σ : x_S) : Option Int32 :=
  if (((40 * x2) + x3) + (2 * x4)) ≤ x6 then (x_g (x5 &&& 1 = x5) (some x5)) else (if x5 = 0 then (K11 0 (x6 + 2)) else (x_g (x_in x6 320) (x_p (fX8_isSeen x1 (σ 5 x6.toNatClampNeg) σ) (fun r6 => if r6 = 0 then (K11 0 (x6 + 2)) else (K11 1 (x6 + 2))))))
def bX8_isSeenSo_11 (x1 : Int32) (x2 : Int32) (x3 : Int32) (x4 : Int32) (x5 : Int32) (x6 : Int32) (σ : x_S) : Option Int32 :=
  x_fx (α := Int32 → Int32 → Option Int32) (fun _ _ => none) (fun K => fun x5 x6 => gX8_isSeenSo_11  x1 x2 x3 x4 K x5 x6 σ) x_F x5 x6
def fX8_isSeenSo (a1 : Int32) (a2 : Int32) (a3 : Int32) (a4 : Int32) (σ : x_S) : Option Int32 :=
  bX8_isSeenSo_11 a1 a2 a3 a4 1 ((40 * a2) + a3) σ
def gX8_thread_55 (x1 : Int32) (x2 : Int32) (x3 : Int32) (K55 : Int32 → Int32 → x_S → Option (Int32 × x_S)) (x5 : Int32) (x6 : Int32) (σ : x_S) : Option (Int32 × x_S) :=
  if (σ 1 (2 : Int32).toNatClampNeg) ≤ x6 then (x_b (fX8_well x5 σ) (fun r4 σ5 => some (r4, σ5))) else (x_p (fX8_isSeenSo x6 x1 x2 x3 σ) (fun r7 => if r7 = 0 then (K55 (x5 ||| 0) (x6 + 1) σ) else (x_g (x_in (19 + x6) 1372) (x_g (x_in (25 + x6) 1372) (x_p (fX8_owesSo (σ 1 (19 + x6).toNatClampNeg) (σ 1 (25 + x6).toNatClampNeg) x1 x2 x3 σ) (fun r12 => if r12 = 0 then (K55 (x5 ||| 0) (x6 + 1) σ) else (K55 (x5 ||| (1 <<< (x6 &&& 31))) (x6 + 1) σ)))))))
def bX8_thread_55 (x1 : Int32) (x2 : Int32) (x3 : Int32) (x5 : Int32) (x6 : Int32) (σ : x_S) : Option (Int32 × x_S) :=
  x_fx (α := Int32 → Int32 → x_S → Option (Int32 × x_S)) (fun _ _ _ => none) (fun K => fun x5 x6 σ => gX8_thread_55  x1 x2 x3 K x5 x6 σ) x_F x5 x6 σ
def fX8_thread (a1 : Int32) (a2 : Int32) (a3 : Int32) (σ : x_S) : Option (Int32 × x_S) :=
  if (σ 0 1) = 0 then (some ((-1000002), σ)) else (x_p (fX8_isRow a1 σ) (fun r3 => if r3 = 0 then (some ((-1000001), σ)) else (x_p (fX8_in a3.toInt64 1 12 σ) (fun r6 => if r6 = 0 then (some ((-1000001), σ)) else (x_b (fX8_noPairs a1 a2 a3 σ) (fun r9 σ10 => if r9 = 0 then (bX8_thread_55 a1 a2 a3 0 0 σ10) else (some (r9, σ10))))))))
def gX8_inches_55 (x1 : Int32) (x2 : Int32) (x3 : Int32) (x4 : Int32) (K55 : Int32 → Int32 → x_S → Option (Int32 × x_S)) (x6 : Int32) (x7 : Int32) (σ : x_S) : Option (Int32 × x_S) :=
  if 30 ≤ x7 then (x_b (fX8_well x6 σ) (fun r3 σ4 => some (r3, σ4))) else (x_g (x_in (19 + x1) 1372) (x_p (fX8_owesSo (σ 1 (19 + x1).toNatClampNeg) (x7 + 1) x2 x3 x4 σ) (fun r7 => if r7 = 0 then (K55 (x6 ||| 0) (x7 + 1) σ) else (K55 (x6 ||| (1 <<< (x7 &&& 31))) (x7 + 1) σ))))
def bX8_inches_55 (x1 : Int32) (x2 : Int32) (x3 : Int32) (x4 : Int32) (x6 : Int32) (x7 : Int32) (σ : x_S) : Option (Int32 × x_S) :=
  x_fx (α := Int32 → Int32 → x_S → Option (Int32 × x_S)) (fun _ _ _ => none) (fun K => fun x6 x7 σ => gX8_inches_55  x1 x2 x3 x4 K x6 x7 σ) x_F x6 x7 σ
def fX8_inches (a1 : Int32) (a2 : Int32) (a3 : Int32) (a4 : Int32) (σ : x_S) : Option (Int32 × x_S) :=
  x_p (fX8_isGesture a1 σ) (fun r2 => if r2 = 0 then (some ((-1000001), σ)) else (x_p (fX8_isRow a2 σ) (fun r5 => if r5 = 0 then (some ((-1000001), σ)) else (x_p (fX8_in a4.toInt64 1 12 σ) (fun r8 => if r8 = 0 then (some ((-1000001), σ)) else (x_b (fX8_noPairs a2 a3 a4 σ) (fun r11 σ12 => if r11 = 0 then (bX8_inches_55 a1 a2 a3 a4 0 0 σ12) else (some (r11, σ12)))))))))
def gX8_sorts_55 (x1 : Int32) (x2 : Int32) (x3 : Int32) (x4 : Int32) (K55 : Int32 → Int32 → x_S → Option (Int32 × x_S)) (x6 : Int32) (x7 : Int32) (σ : x_S) : Option (Int32 × x_S) :=
  if 6 ≤ x7 then (x_b (fX8_well x6 σ) (fun r3 σ4 => some (r3, σ4))) else (x_g (x_in (25 + x1) 1372) (x_p (fX8_owesSo x7 (σ 1 (25 + x1).toNatClampNeg) x2 x3 x4 σ) (fun r7 => if r7 = 0 then (K55 (x6 ||| 0) (x7 + 1) σ) else (K55 (x6 ||| (1 <<< (x7 &&& 31))) (x7 + 1) σ))))
def bX8_sorts_55 (x1 : Int32) (x2 : Int32) (x3 : Int32) (x4 : Int32) (x6 : Int32) (x7 : Int32) (σ : x_S) : Option (Int32 × x_S) :=
  x_fx (α := Int32 → Int32 → x_S → Option (Int32 × x_S)) (fun _ _ _ => none) (fun K => fun x6 x7 σ => gX8_sorts_55  x1 x2 x3 x4 K x6 x7 σ) x_F x6 x7 σ
def fX8_sorts (a1 : Int32) (a2 : Int32) (a3 : Int32) (a4 : Int32) (σ : x_S) : Option (Int32 × x_S) :=
  x_p (fX8_isGesture a1 σ) (fun r2 => if r2 = 0 then (some ((-1000001), σ)) else (x_p (fX8_isRow a2 σ) (fun r5 => if r5 = 0 then (some ((-1000001), σ)) else (x_p (fX8_in a4.toInt64 1 12 σ) (fun r8 => if r8 = 0 then (some ((-1000001), σ)) else (x_b (fX8_noPairs a2 a3 a4 σ) (fun r11 σ12 => if r11 = 0 then (bX8_sorts_55 a1 a2 a3 a4 0 1 σ12) else (some (r11, σ12)))))))))
def gX8_saved_15 (x1 : Int32) (K15 : Int32 → Int32 → Option Int32) (x2 : Int32) (x3 : Int32) (σ : x_S) : Option Int32 :=
  if (σ 1 (1 : Int32).toNatClampNeg) ≤ x3 then (some x2) else (x_p (fX8_dutyOf x1 x3 σ) (fun r4 => x_g (x_in (19 + x1) 1372) (x_g (x_in (25 + x1) 1372) (x_p (fX8_plainDuty (σ 1 (19 + x1).toNatClampNeg) (σ 1 (25 + x1).toNatClampNeg) x3 σ) (fun r8 => K15 (x2 + (r4 - (r8 / 2))) (x3 + 1))))))
def bX8_saved_15 (x1 : Int32) (x2 : Int32) (x3 : Int32) (σ : x_S) : Option Int32 :=
  x_fx (α := Int32 → Int32 → Option Int32) (fun _ _ => none) (fun K => fun x2 x3 => gX8_saved_15  x1 K x2 x3 σ) x_F x2 x3
def fX8_saved (a1 : Int32) (σ : x_S) : Option Int32 :=
  x_p (fX8_isGesture a1 σ) (fun r2 => if r2 = 0 then (some (-1000001)) else (bX8_saved_15 a1 0 0 σ))
def bX8_worst_64 (K31 : Int32 → Int32 → Int32 → Option Int32) (x1 : Int32) (x2 : Int32) (x4 : Int32) (x5 : Int32) (x6 : Int32) (y0 : Int32) (σ : x_S) : Option Int32 :=
  if x6 ≤ x4 then (K31 y0 x4 (x5 + 1)) else (K31 y0 x6 (x5 + 1))
def gX8_worst_31 (x1 : Int32) (x2 : Int32) (K31 : Int32 → Int32 → Int32 → Option Int32) (x3 : Int32) (x4 : Int32) (x5 : Int32) (σ : x_S) : Option Int32 :=
  if (σ 1 (1 : Int32).toNatClampNeg) ≤ x5 then (if x2 = 0 then (some x3) else (some x4)) else (x_p (fX8_dutyOf x1 x5 σ) (fun r5 => if r5 ≤ x4 then (bX8_worst_64 K31 x1 x2 x4 x5 r5 x3 σ) else (bX8_worst_64 K31 x1 x2 x4 x5 r5 x5 σ)))
def bX8_worst_31 (x1 : Int32) (x2 : Int32) (x3 : Int32) (x4 : Int32) (x5 : Int32) (σ : x_S) : Option Int32 :=
  x_fx (α := Int32 → Int32 → Int32 → Option Int32) (fun _ _ _ => none) (fun K => fun x3 x4 x5 => gX8_worst_31  x1 x2 K x3 x4 x5 σ) x_F x3 x4 x5
def fX8_worst (a1 : Int32) (a2 : Int32) (σ : x_S) : Option Int32 :=
  x_p (fX8_isGesture a1 σ) (fun r2 => if r2 = 0 then (some (-1000001)) else (x_p (fX8_in a2.toInt64 0 1 σ) (fun r5 => if r5 = 0 then (some (-1000001)) else (bX8_worst_31 a1 a2 (-1000000) (-1000000) 0 σ))))
def gX8_tremble_214 (x6 : Int32) (x8 : Int32) (x9 : Int32) (K214 : Int32 → Int32 → Option Int32) (x10 : Int32) (x11 : Int32) (σ : x_S) : Option Int32 :=
  if x11 = 0 then (if x6 = 0 then (x_g (¬ x10 = 0) (some (x8 / x10))) else (x_g (¬ x10 = 0) (some (x9 / x10)))) else (x_g (¬ x11 = 0) (K214 x11 (x10 - x10 / x11 * x11)))
def bX8_tremble_214 (x6 : Int32) (x8 : Int32) (x9 : Int32) (x10 : Int32) (x11 : Int32) (σ : x_S) : Option Int32 :=
  x_fx (α := Int32 → Int32 → Option Int32) (fun _ _ => none) (fun K => fun x10 x11 => gX8_tremble_214  x6 x8 x9 K x10 x11 σ) x_F x10 x11
def bX8_tremble_190 (K73 : Int32 → Int32 → Int32 → Option Int32) (x1 : Int32) (x2 : Int32) (x4 : Int32) (x5 : Int32) (x6 : Int32) (x7 : Int32) (x9 : Int32) (x10 : Int32) (x11 : Int32) (y0 : Int32) (y1 : Int32) (σ : x_S) : Option Int32 :=
  K73 (y1 + y0) (x9 + x11) (x10 + 1)
def bX8_tremble_158 (K73 : Int32 → Int32 → Int32 → Option Int32) (K91 : Int32 → Int32 → Int32 → Option Int32) (x1 : Int32) (x2 : Int32) (x4 : Int32) (x5 : Int32) (x6 : Int32) (x7 : Int32) (x8 : Int32) (x9 : Int32) (x10 : Int32) (x11 : Int32) (x13 : Int32) (y0 : Int32) (y1 : Int32) (y2 : Int32) (y4 : Int32) (σ : x_S) : Option Int32 :=
  x_p (fX8_owes y2 (y1 + y0) (x2 + x13) σ) (fun r2 => K91 x11 (y4 + r2) (x13 + 1))
def bX8_tremble_124 (K73 : Int32 → Int32 → Int32 → Option Int32) (K91 : Int32 → Int32 → Int32 → Option Int32) (x1 : Int32) (x2 : Int32) (x4 : Int32) (x5 : Int32) (x6 : Int32) (x7 : Int32) (x8 : Int32) (x9 : Int32) (x10 : Int32) (x12 : Int32) (x13 : Int32) (x14 : Int32) (y0 : Int32) (y1 : Int32) (σ : x_S) : Option Int32 :=
  x_g (x_in (19 + x1) 1372) (x_g (x_in (25 + x1) 1372) (if x14 = 0 then (bX8_tremble_158 K73 K91 x1 x2 x4 x5 x6 x7 x8 x9 x10 (y1 * y0) x13 0 (σ 1 (25 + x1).toNatClampNeg) (σ 1 (19 + x1).toNatClampNeg) x12 σ) else (bX8_tremble_158 K73 K91 x1 x2 x4 x5 x6 x7 x8 x9 x10 (y1 * y0) x13 1 (σ 1 (25 + x1).toNatClampNeg) (σ 1 (19 + x1).toNatClampNeg) x12 σ)))
def gX8_tremble_91 (K73 : Int32 → Int32 → Int32 → Option Int32) (x1 : Int32) (x2 : Int32) (x4 : Int32) (x5 : Int32) (x6 : Int32) (x7 : Int32) (x8 : Int32) (x9 : Int32) (x10 : Int32) (K91 : Int32 → Int32 → Int32 → Option Int32) (x11 : Int32) (x12 : Int32) (x13 : Int32) (σ : x_S) : Option Int32 :=
  if x7 ≤ x13 then (if x4 < x12 then (bX8_tremble_190 K73 x1 x2 x4 x5 x6 x7 x9 x10 x11 0 x8 σ) else (bX8_tremble_190 K73 x1 x2 x4 x5 x6 x7 x9 x10 x11 x11 x8 σ)) else (x_p (fX8_has x10 x13 σ) (fun r4 => if r4 = 0 then (bX8_tremble_124 K73 K91 x1 x2 x4 x5 x6 x7 x8 x9 x10 x12 x13 r4 (10 - x5) x11 σ) else (bX8_tremble_124 K73 K91 x1 x2 x4 x5 x6 x7 x8 x9 x10 x12 x13 r4 x5 x11 σ)))
def bX8_tremble_91 (K73 : Int32 → Int32 → Int32 → Option Int32) (x1 : Int32) (x2 : Int32) (x4 : Int32) (x5 : Int32) (x6 : Int32) (x7 : Int32) (x8 : Int32) (x9 : Int32) (x10 : Int32) (x11 : Int32) (x12 : Int32) (x13 : Int32) (σ : x_S) : Option Int32 :=
  x_fx (α := Int32 → Int32 → Int32 → Option Int32) (fun _ _ _ => none) (fun K => fun x11 x12 x13 => gX8_tremble_91 K73 x1 x2 x4 x5 x6 x7 x8 x9 x10 K x11 x12 x13 σ) x_F x11 x12 x13
def gX8_tremble_73 (x1 : Int32) (x2 : Int32) (x4 : Int32) (x5 : Int32) (x6 : Int32) (x7 : Int32) (K73 : Int32 → Int32 → Int32 → Option Int32) (x8 : Int32) (x9 : Int32) (x10 : Int32) (σ : x_S) : Option Int32 :=
  if (1 <<< (x7 &&& 31)) ≤ x10 then (bX8_tremble_214 x6 x8 x9 x8 x9 σ) else (bX8_tremble_91 K73 x1 x2 x4 x5 x6 x7 x8 x9 x10 1 0 0 σ)
def bX8_tremble_73 (x1 : Int32) (x2 : Int32) (x4 : Int32) (x5 : Int32) (x6 : Int32) (x7 : Int32) (x8 : Int32) (x9 : Int32) (x10 : Int32) (σ : x_S) : Option Int32 :=
  x_fx (α := Int32 → Int32 → Int32 → Option Int32) (fun _ _ _ => none) (fun K => fun x8 x9 x10 => gX8_tremble_73  x1 x2 x4 x5 x6 x7 K x8 x9 x10 σ) x_F x8 x9 x10
def fX8_tremble (a1 : Int32) (a2 : Int32) (a3 : Int32) (a4 : Int32) (a5 : Int32) (a6 : Int32) (σ : x_S) : Option Int32 :=
  x_p (fX8_isGesture a1 σ) (fun r2 => if r2 = 0 then (some (-1000001)) else (x_p (fX8_areStreets a2 a3 σ) (fun r5 => if r5 = 0 then (some (-1000001)) else (x_p (fX8_in a4.toInt64 0 9999 σ) (fun r8 => if r8 = 0 then (some (-1000001)) else (x_p (fX8_in a5.toInt64 0 10 σ) (fun r11 => if r11 = 0 then (some (-1000001)) else (x_p (fX8_in a6.toInt64 0 1 σ) (fun r14 => if r14 = 0 then (some (-1000001)) else (bX8_tremble_73 a1 a2 a4 a5 a6 ((a3 - a2) + 1) 0 0 0 σ))))))))))
def fX8_image (a1 : Int32) (σ : x_S) : Option (Int32 × x_S) :=
  x_p (fX8_in a1.toInt64 0 1 σ) (fun r2 => if r2 = 0 then (some ((-1000001), σ)) else (if (σ 0 1) = 0 then (some ((-1000002), σ)) else (x_v (fX8_copyTown 0 (1225 + (49 * a1)) σ) (fun σ6 => x_g (x_in a1 2) (x_w (x_u σ6 2 a1.toNatClampNeg 1) (fun σ8 => some (1, σ8)))))))
def fX8_restore (a1 : Int32) (σ : x_S) : Option (Int32 × x_S) :=
  x_p (fX8_in a1.toInt64 0 1 σ) (fun r2 => if r2 = 0 then (some ((-1000001), σ)) else (x_g (x_in a1 2) (if (σ 2 a1.toNatClampNeg) = 0 then (some ((-1000002), σ)) else (x_v (fX8_copyTown (1225 + (49 * a1)) 0 σ) (fun σ7 => x_w (x_u σ7 0 2 0) (fun σ8 => some (1, σ8)))))))
def fX8_kind (a1 : Int32) (σ : x_S) : Option Int32 :=
  x_p (fX8_isGesture a1 σ) (fun r2 => if r2 = 0 then (some (-1000001)) else (x_g (x_in (19 + a1) 1372) (some (σ 1 (19 + a1).toNatClampNeg))))
def bX8_isOf_34 (x2 : Int32) (x3 : Int32) (σ : x_S) : Option Int32 :=
  if x2 = 4 then (if x3 = 5 then (some 1) else (some 0)) else (some 0)
def fX8_isOf (a1 : Int32) (a2 : Int32) (σ : x_S) : Option Int32 :=
  x_g (x_in (19 + a1) 1372) (if a2 = 0 then (some 1) else (if a2 = (σ 1 (19 + a1).toNatClampNeg) then (some 1) else (if a2 = 1 then (if (σ 1 (19 + a1).toNatClampNeg) = 2 then (some 1) else (if (σ 1 (19 + a1).toNatClampNeg) = 3 then (some 1) else (bX8_isOf_34 a2 (σ 1 (19 + a1).toNatClampNeg) σ))) else (bX8_isOf_34 a2 (σ 1 (19 + a1).toNatClampNeg) σ))))
def fX8_as (a1 : Int32) (a2 : Int32) (σ : x_S) : Option (Int32 × x_S) :=
  x_p (fX8_isGesture a1 σ) (fun r2 => if r2 = 0 then (some ((-1000001), σ)) else (x_p (fX8_in a2.toInt64 0 5 σ) (fun r5 => if r5 = 0 then (some ((-1000001), σ)) else (x_p (fX8_isOf a1 a2 σ) (fun r8 => if r8 = 0 then (x_b (fX8_find 3 σ) (fun r11 σ12 => some (r11, σ12))) else (x_b (fX8_well a1 σ) (fun r14 σ15 => some (r14, σ15))))))))
def fX8_begin (a1 : Int32) (σ : x_S) : Option x_S :=
  if 16 ≤ (σ 0 12) then (some σ) else (x_g (x_in (σ 0 12) 16) (x_w (x_u σ 7 (σ 0 12).toNatClampNeg a1) (fun σ3 => x_w (x_u σ3 0 12 ((σ3 0 12) + 1)) (fun σ5 => some σ5))))
def fX8_lentSize (a1 : Int32) (σ : x_S) : Option (Int32 × x_S) :=
  x_v (fX8_begin 10 σ) (fun σ2 => x_g (x_in (37 + a1) 1372) (some ((σ2 1 (37 + a1).toNatClampNeg), σ2)))
def fX8_lentMark (a1 : Int32) (σ : x_S) : Option (Int32 × x_S) :=
  x_v (fX8_begin 20 σ) (fun σ2 => some (a1, σ2))
def fX8_wavesMark (a1 : Int32) (σ : x_S) : Option (Int32 × x_S) :=
  x_v (fX8_begin 21 σ) (fun σ2 => x_b (fX8_lentMark a1 σ2) (fun r4 σ5 => x_g (x_in (25 + a1) 1372) (some ((r4 + (σ5 1 (25 + a1).toNatClampNeg)), σ5))))
def fX8_mark (a1 : Int32) (σ : x_S) : Option (Int32 × x_S) :=
  x_g (x_in (19 + a1) 1372) (if (σ 1 (19 + a1).toNatClampNeg) = 2 then (x_v (fX8_begin 24 σ) (fun σ4 => x_b (fX8_wavesMark a1 σ4) (fun r6 σ7 => some ((2 * r6), σ7)))) else (if (σ 1 (19 + a1).toNatClampNeg) = 3 then (x_v (fX8_begin 22 σ) (fun σ10 => x_b (fX8_wavesMark a1 σ10) (fun r12 σ13 => some ((r12 - 1000), σ13)))) else (x_b (fX8_wavesMark a1 σ) (fun r15 σ16 => some (r15, σ16)))))
def fX8_wavesSize (a1 : Int32) (σ : x_S) : Option (Int32 × x_S) :=
  x_v (fX8_begin 11 σ) (fun σ2 => x_b (fX8_lentSize a1 σ2) (fun r4 σ5 => x_b (fX8_mark a1 σ5) (fun r7 σ8 => some ((r4 + r7), σ8))))
def fX8_winksSize (a1 : Int32) (σ : x_S) : Option (Int32 × x_S) :=
  x_v (fX8_begin 13 σ) (fun σ2 => x_b (fX8_lentSize a1 σ2) (fun r4 σ5 => some ((r4 - 100), σ5)))
def fX8_sizeOf (a1 : Int32) (σ : x_S) : Option (Int32 × x_S) :=
  x_g (x_in (19 + a1) 1372) (if (σ 1 (19 + a1).toNatClampNeg) = 2 then (x_v (fX8_begin 12 σ) (fun σ4 => x_b (fX8_wavesSize a1 σ4) (fun r6 σ7 => some ((-r6), σ7)))) else (if (σ 1 (19 + a1).toNatClampNeg) = 3 then (x_b (fX8_wavesSize a1 σ) (fun r10 σ11 => some (r10, σ11))) else (if (σ 1 (19 + a1).toNatClampNeg) = 4 then (x_b (fX8_winksSize a1 σ) (fun r14 σ15 => some (r14, σ15))) else (if (σ 1 (19 + a1).toNatClampNeg) = 5 then (x_v (fX8_begin 14 σ) (fun σ18 => x_b (fX8_winksSize a1 σ18) (fun r20 σ21 => some ((2 * r20), σ21)))) else (x_b (fX8_wavesSize a1 σ) (fun r23 σ24 => some (r23, σ24)))))))
def fX8_winksMark (a1 : Int32) (σ : x_S) : Option (Int32 × x_S) :=
  x_v (fX8_begin 23 σ) (fun σ2 => x_b (fX8_lentMark a1 σ2) (fun r4 σ5 => x_b (fX8_sizeOf a1 σ5) (fun r7 σ8 => some ((r4 - r7), σ8))))
def fX8_ask (a1 : Int32) (a2 : Int32) (σ : x_S) : Option (Int32 × x_S) :=
  x_p (fX8_isGesture a1 σ) (fun r2 => if r2 = 0 then (some ((-1000001), σ)) else (x_p (fX8_in a2.toInt64 0 1 σ) (fun r5 => if r5 = 0 then (some ((-1000001), σ)) else (x_w (x_u σ 0 12 0) (fun σ7 => if a2 = 0 then (x_b (fX8_sizeOf a1 σ7) (fun r20 σ21 => some (r20, σ21))) else (x_p (fX8_isOf a1 4 σ7) (fun r11 => if r11 = 0 then (x_b (fX8_mark a1 σ7) (fun r14 σ15 => some (r14, σ15))) else (x_b (fX8_winksMark a1 σ7) (fun r17 σ18 => some (r17, σ18))))))))))
def fX8_trace (a1 : Int32) (σ : x_S) : Option Int32 :=
  x_p (fX8_in a1.toInt64 0 (((σ 0 12) - 1).toInt64) σ) (fun r2 => if r2 = 0 then (some (-1000000)) else (x_g (x_in a1 16) (some (σ 7 a1.toNatClampNeg))))
def gX8_count_50 (K50 : Int32 → Int32 → Option Int32) (x2 : Int32) (x3 : Int32) (σ : x_S) : Option Int32 :=
  if 8 ≤ x3 then (some x2) else (x_g (x_in x3 8) (if 0 ≤ (σ 4 x3.toNatClampNeg) then (K50 (x2 + 1) (x3 + 1)) else (K50 (x2 + 0) (x3 + 1))))
def bX8_count_50 (x2 : Int32) (x3 : Int32) (σ : x_S) : Option Int32 :=
  x_fx (α := Int32 → Int32 → Option Int32) (fun _ _ => none) (fun K => fun x2 x3 => gX8_count_50   K x2 x3 σ) x_F x2 x3
def fX8_count (a1 : Int32) (σ : x_S) : Option Int32 :=
  if a1 = 0 then (bX8_count_50 0 0 σ) else (if a1 = 1 then (some (σ 1 (1 : Int32).toNatClampNeg)) else (if a1 = 2 then (some (σ 1 (2 : Int32).toNatClampNeg)) else (if a1 = 3 then (some (σ 1 (3 : Int32).toNatClampNeg)) else (if a1 = 4 then (some (σ 1 (0 : Int32).toNatClampNeg)) else (if a1 = 5 then (x_p (fX8_bits (σ 1 (4 : Int32).toNatClampNeg) σ) (fun r13 => some r13)) else (if a1 = 6 then (some (σ 0 2)) else (if a1 = 7 then (some (σ 0 8)) else (some (-1000001)))))))))
def fX8_status (σ : x_S) : Option Int32 :=
  some (σ 0 10)
end
section
/-! ===== the calls of the law: the system, the reference ===== -/
def y_S (k : Nat) (a1 a2 a3 a4 a5 a6 : Int32) (σ : x_S) : Option (Int32 × x_S) :=
    if k = 0 then fX7_row a1 a2 a3 σ else
    if k = 1 then fX7_set a1 a2 a3 σ else
    if k = 2 then fX7_copy a1 a2 a3 a4 a5 σ else
    if k = 3 then fX7_drop a1 σ else
    if k = 4 then fX7_feed a1 σ else
    if k = 5 then fX7_city σ else
    if k = 6 then x_p (fX7_fault σ) (fun r => some (r, σ)) else
    if k = 7 then fX7_make a1 a2 σ else
    if k = 8 then fX7_dim a1 a2 σ else
    if k = 9 then fX7_train a1 a2 σ else
    if k = 10 then fX7_know a1 a2 σ else
    if k = 11 then fX7_undo σ else
    if k = 12 then x_p (fX7_gesture a1 a2 σ) (fun r => some (r, σ)) else
    if k = 13 then x_p (fX7_street a1 a2 σ) (fun r => some (r, σ)) else
    if k = 14 then x_p (fX7_duty a1 a2 σ) (fun r => some (r, σ)) else
    if k = 15 then fX7_tell a1 a2 a3 a4 a5 σ else
    if k = 16 then x_p (fX7_shut a1 σ) (fun r => some (r, σ)) else
    if k = 17 then x_p (fX7_quick a1 a2 a3 σ) (fun r => some (r, σ)) else
    if k = 18 then fX7_thread a1 a2 a3 σ else
    if k = 19 then fX7_inches a1 a2 a3 a4 σ else
    if k = 20 then fX7_sorts a1 a2 a3 a4 σ else
    if k = 21 then x_p (fX7_saved a1 σ) (fun r => some (r, σ)) else
    if k = 22 then x_p (fX7_worst a1 a2 σ) (fun r => some (r, σ)) else
    if k = 23 then x_p (fX7_tremble a1 a2 a3 a4 a5 a6 σ) (fun r => some (r, σ)) else
    if k = 24 then fX7_image a1 σ else
    if k = 25 then fX7_restore a1 σ else
    if k = 26 then x_p (fX7_kind a1 σ) (fun r => some (r, σ)) else
    if k = 27 then fX7_as a1 a2 σ else
    if k = 28 then fX7_ask a1 a2 σ else
    if k = 29 then x_p (fX7_trace a1 σ) (fun r => some (r, σ)) else
    if k = 30 then x_p (fX7_count a1 σ) (fun r => some (r, σ)) else
    if k = 31 then x_p (fX7_status σ) (fun r => some (r, σ)) else none
def y_M (k : Nat) (a1 a2 a3 a4 a5 a6 : Int32) (σ : x_S) : Option (Int32 × x_S) :=
    if k = 0 then fX8_row a1 a2 a3 σ else
    if k = 1 then fX8_set a1 a2 a3 σ else
    if k = 2 then fX8_copy a1 a2 a3 a4 a5 σ else
    if k = 3 then fX8_drop a1 σ else
    if k = 4 then fX8_feed a1 σ else
    if k = 5 then fX8_city σ else
    if k = 6 then x_p (fX8_fault σ) (fun r => some (r, σ)) else
    if k = 7 then fX8_make a1 a2 σ else
    if k = 8 then fX8_dim a1 a2 σ else
    if k = 9 then fX8_train a1 a2 σ else
    if k = 10 then fX8_know a1 a2 σ else
    if k = 11 then fX8_undo σ else
    if k = 12 then x_p (fX8_gesture a1 a2 σ) (fun r => some (r, σ)) else
    if k = 13 then x_p (fX8_street a1 a2 σ) (fun r => some (r, σ)) else
    if k = 14 then x_p (fX8_duty a1 a2 σ) (fun r => some (r, σ)) else
    if k = 15 then fX8_tell a1 a2 a3 a4 a5 σ else
    if k = 16 then x_p (fX8_shut a1 σ) (fun r => some (r, σ)) else
    if k = 17 then x_p (fX8_quick a1 a2 a3 σ) (fun r => some (r, σ)) else
    if k = 18 then fX8_thread a1 a2 a3 σ else
    if k = 19 then fX8_inches a1 a2 a3 a4 σ else
    if k = 20 then fX8_sorts a1 a2 a3 a4 σ else
    if k = 21 then x_p (fX8_saved a1 σ) (fun r => some (r, σ)) else
    if k = 22 then x_p (fX8_worst a1 a2 σ) (fun r => some (r, σ)) else
    if k = 23 then x_p (fX8_tremble a1 a2 a3 a4 a5 a6 σ) (fun r => some (r, σ)) else
    if k = 24 then fX8_image a1 σ else
    if k = 25 then fX8_restore a1 σ else
    if k = 26 then x_p (fX8_kind a1 σ) (fun r => some (r, σ)) else
    if k = 27 then fX8_as a1 a2 σ else
    if k = 28 then fX8_ask a1 a2 σ else
    if k = 29 then x_p (fX8_trace a1 σ) (fun r => some (r, σ)) else
    if k = 30 then x_p (fX8_count a1 σ) (fun r => some (r, σ)) else
    if k = 31 then x_p (fX8_status σ) (fun r => some (r, σ)) else none
end
section
/-! ===== pure: numbers and partial functions ===== -/
theorem z_p {β : Type} (r : Int32) (k : Int32 → Option β) : x_p (some r) k = k r := rfl
theorem z_b {β : Type} (r : Int32) (u : x_S) (k : Int32 → x_S → Option β) : x_b (some (r, u)) k = k r u := rfl
theorem z_v {β : Type} (u : x_S) (k : x_S → Option β) : x_v (some u) k = k u := rfl
theorem z_w {β : Type} (u : x_S) (k : x_S → Option β) : x_w u k = k u := rfl
theorem z_g {β : Type} {c : Prop} [Decidable c] (h : c) (x : Option β) : x_g c x = x := if_pos h
theorem z_in {j n : Nat} (h : j < n) (hn : n ≤ 4096) : x_in (nI j) n := vp_in_nI h (by omega)
theorem z_gi {β : Type} {j n : Nat} (h : j < n) (hn : n ≤ 4096) (x : Option β) : x_g (x_in (nI j) n) x = x := z_g (z_in h hn) x
theorem z_cl {j : Nat} (h : j < 65536) : (nI j).toNatClampNeg = j := nI_clamp (by omega)
theorem z_u (σ : x_S) (k i : Nat) (v : Int32) (a : Nat) : x_u σ k i v a = if a = k then upd (σ k) i v else σ a := rfl
theorem z_r (σ : x_S) (k : Nat) (f : Nat → Int32) (a : Nat) : x_r σ k f a = if a = k then f else σ a := rfl
theorem z_upd (f : Nat → Int32) (i : Nat) (v : Int32) (j : Nat) : upd f i v j = if j = i then v else f j := by
  by_cases h : j = i
  · subst h; rw [pk_us, if_pos rfl]
  · rw [pk_un h, if_neg h]
theorem z_us (σ : x_S) (k i : Nat) (v : Int32) : x_u σ k i v k i = v := by rw [z_u, if_pos rfl, pk_us]
theorem z_uk {σ : x_S} {k i a : Nat} {v : Int32} (h : a ≠ k) : x_u σ k i v a = σ a := by rw [z_u, if_neg h]
theorem z_ui {σ : x_S} {k i j : Nat} {v : Int32} (h : j ≠ i) : x_u σ k i v k j = σ k j := by rw [z_u, if_pos rfl, pk_un h]
/-- within bounds, as 1 or 0 -/
def z_W (x lo hi : Int32) : Int32 := if x < lo then 0 else if hi < x then 0 else 1
theorem z_isWithin (x lo hi : Int32) (σ : x_S) : fX7_isWithin x lo hi σ = some (z_W x lo hi) := by
  unfold fX7_isWithin z_W
  split
  · rfl
  · split <;> rfl
theorem z_cmp_lt (x y : Int64) : (lg_cmp x y < 0) ↔ x < y := by
  have h := lg_cmp_ge x y
  constructor
  · intro h1
    rcases Int64.lt_or_le x y with q | q
    · exact q
    · exact absurd (h.mpr q) (Int32.not_le.mpr h1)
  · intro h1
    rcases Int32.lt_or_le (lg_cmp x y) 0 with q | q
    · exact q
    · exact absurd (h.mp q) (Int64.not_le.mpr h1)
theorem z_cmp_gt (x y : Int64) : (0 < lg_cmp x y) ↔ y < x := by
  unfold lg_cmp
  by_cases h1 : x > y
  · rw [if_pos h1]; exact ⟨fun _ => h1, fun _ => by decide⟩
  · rw [if_neg h1]
    by_cases h2 : x = y
    · rw [if_pos h2]; exact ⟨fun h => absurd h (by decide), fun h => absurd h h1⟩
    · rw [if_neg h2]; exact ⟨fun h => absurd h (by decide), fun h => absurd h h1⟩
theorem z_64lt (x y : Int32) : x.toInt64 < y.toInt64 ↔ x < y := by
  rw [Int64.lt_iff_toInt_lt, Int32.lt_iff_toInt_lt, Int32.toInt_toInt64, Int32.toInt_toInt64]
theorem z_in64 (x lo hi : Int32) (τ : x_S) : fX8_in x.toInt64 lo.toInt64 hi.toInt64 τ = some (z_W x lo hi) := by
  unfold fX8_in z_W
  by_cases h1 : x < lo
  · rw [if_pos h1, if_pos ((z_cmp_lt _ _).mpr ((z_64lt _ _).mpr h1))]
  · rw [if_neg h1, if_neg (fun q => h1 ((z_64lt _ _).mp ((z_cmp_lt _ _).mp q)))]
    by_cases h2 : hi < x
    · rw [if_pos h2, if_pos ((z_cmp_gt _ _).mpr ((z_64lt _ _).mpr h2))]
    · rw [if_neg h2, if_neg (fun q => h2 ((z_64lt _ _).mp ((z_cmp_gt _ _).mp q)))]
theorem z_Wand (x lo hi : Int32) : z_W x lo hi &&& 1 = z_W x lo hi := by
  unfold z_W
  split
  · rfl
  · split <;> rfl
theorem z_W0 {x lo hi : Int32} (h : z_W x lo hi = 0) : x < lo ∨ hi < x := by
  unfold z_W at h
  split at h
  · exact Or.inl (by assumption)
  · split at h
    · exact Or.inr (by assumption)
    · cases h
theorem z_W1 {x lo hi : Int32} (h : ¬ z_W x lo hi = 0) : ¬ x < lo ∧ ¬ hi < x := by
  unfold z_W at h
  split at h
  · exact absurd rfl h
  · split at h
    · exact absurd rfl h
    · exact ⟨by assumption, by assumption⟩
/-- a number from 0 to n - 1, or not -/
theorem z_W_ix (x : Int32) (n : Nat) (hn : n < 2 ^ 31) : (z_W x 0 (nI n) = 0) ∨ ∃ j, j ≤ n ∧ x = nI j ∧ z_W x 0 (nI n) = 1 := by
  by_cases h : z_W x 0 (nI n) = 0
  · exact Or.inl h
  · obtain ⟨h1, h2⟩ := z_W1 h
    obtain ⟨j, hj, rfl⟩ := nI_of h1
    refine Or.inr ⟨j, Nat.not_lt.mp (fun q => h2 ((nI_ltI hn hj).mpr q)), rfl, ?_⟩
    unfold z_W
    rw [if_neg h1, if_neg h2]
theorem z_ltL {a : Nat} {y : Int32} (b : Nat) (hy : y = nI b) (ha : a < 2 ^ 30) (hb : b < 2 ^ 30) : nI a < y ↔ a < b := by rw [hy]; exact nI_ltI (by omega) (by omega)
theorem z_gtL {a : Nat} {y : Int32} (b : Nat) (hy : y = nI b) (ha : a < 2 ^ 30) (hb : b < 2 ^ 30) : y < nI a ↔ b < a := by rw [hy]; exact nI_ltI (by omega) (by omega)
theorem z_leL {a : Nat} {y : Int32} (b : Nat) (hy : y = nI b) (ha : a < 2 ^ 30) (hb : b < 2 ^ 30) : nI a ≤ y ↔ a ≤ b := by rw [hy]; exact nI_leI (by omega) (by omega)
theorem z_geL {a : Nat} {y : Int32} (b : Nat) (hy : y = nI b) (ha : a < 2 ^ 30) (hb : b < 2 ^ 30) : y ≤ nI a ↔ b ≤ a := by rw [hy]; exact nI_leI (by omega) (by omega)
theorem z_eqL {a : Nat} {y : Int32} (b : Nat) (hy : y = nI b) (ha : a < 2 ^ 30) (hb : b < 2 ^ 30) : nI a = y ↔ a = b := by rw [hy]; exact nI_eq (by omega) (by omega)
end
section
/-! ===== pure: a city as 49 numbers v: 0 rate, 1 streets, 2 gestures, 3 paid, 4 known, 5 .. dim, 12 .. strict, 19 .. kind, 25 .. inches, 31 .. means, 37 .. takes, 43 .. made ===== -/
abbrev z_V : Type := Nat → Nat
/-- the system's City at cell c is v -/
def z_S (σ : x_S) (c : Nat) (v : z_V) : Prop :=
  σ c 1 = nI (v 0) ∧ σ c 3 = nI (v 1) ∧ σ c 5 = nI (v 2) ∧ σ c 2 = nI (v 3) ∧ σ c 4 = nI (v 4) ∧
  (∀ s, s < v 1 → σ (c + 1) s = nI (v (5 + s)) ∧ σ (c + 2) s = nI (v (12 + s))) ∧
  (∀ g, g < v 2 → σ (c + 3) g = nI (v (19 + g)) ∧ σ (c + 4) g = nI (v (25 + g)) ∧ σ (c + 5) g = nI (v (31 + g)) ∧ σ (c + 6) g = nI (v (37 + g)) ∧ σ (c + 7) g = nI (v (43 + g)))
/-- the reference's town at place b of its row is v -/
def z_M (τ : x_S) (b : Nat) (v : z_V) : Prop :=
  τ 1 b = nI (v 0) ∧ τ 1 (b + 1) = nI (v 1) ∧ τ 1 (b + 2) = nI (v 2) ∧ τ 1 (b + 3) = nI (v 3) ∧ τ 1 (b + 4) = nI (v 4) ∧
  (∀ s, s < v 1 → τ 1 (b + (5 + s)) = nI (v (5 + s)) ∧ τ 1 (b + (12 + s)) = nI (v (12 + s))) ∧
  (∀ g, g < v 2 → τ 1 (b + (19 + g)) = nI (v (19 + g)) ∧ τ 1 (b + (25 + g)) = nI (v (25 + g)) ∧ τ 1 (b + (31 + g)) = nI (v (31 + g)) ∧ τ 1 (b + (37 + g)) = nI (v (37 + g)) ∧ τ 1 (b + (43 + g)) = nI (v (43 + g)))
/-- numbers as told -/
def z_ok (v : z_V) : Prop :=
  v 0 ≤ 9 ∧ v 1 ≤ 7 ∧ v 2 ≤ 6 ∧ v 3 ≤ 99999 ∧ v 4 < 128 ∧
  (∀ s, s < v 1 → v (5 + s) ≤ 30 ∧ v (12 + s) ≤ 9) ∧
  (∀ g, g < v 2 → (1 ≤ v (19 + g) ∧ v (19 + g) ≤ 5) ∧ (1 ≤ v (25 + g) ∧ v (25 + g) ≤ 30) ∧ v (31 + g) ≤ 3 ∧ (1 ≤ v (37 + g) ∧ v (37 + g) ≤ 9))
/-- DUTY where nobody is known, of a kind, of a length -/
def z_U (v : z_V) (kd inc s : Nat) : Nat :=
  if kd = 1 then inc * v 0 + inc * v (12 + s) / 10 else if kd = 2 then (inc * v 0 + inc * v (12 + s) / 10) / 2 else if kd = 3 then (inc * v 0 + inc * v (12 + s) / 10) + v 0 * (inc - 10)
  else if kd = 4 then 1 else if v (12 + s) < 5 then 1 else inc * v 0 + inc * v (12 + s) / 10
def z_O (v : z_V) (kd inc s : Nat) : Nat := if (v 4).testBit s then z_U v kd inc s / 2 else z_U v kd inc s
theorem z_wave_le {v : z_V} {inc s : Nat} (h0 : v 0 ≤ 9) (hi : inc ≤ 31) (hs : v (12 + s) ≤ 9) : inc * v 0 ≤ 279 ∧ inc * v (12 + s) ≤ 279 := ⟨Nat.le_trans (Nat.mul_le_mul hi h0) (by decide), Nat.le_trans (Nat.mul_le_mul hi hs) (by decide)⟩
theorem z_U_le {v : z_V} {kd inc s : Nat} (h0 : v 0 ≤ 9) (hi : inc ≤ 31) (hs : v (12 + s) ≤ 9) : z_U v kd inc s ≤ 600 := by
  have ⟨h1, h2⟩ := z_wave_le h0 hi hs
  have h3 : v 0 * (inc - 10) ≤ 9 * 21 := Nat.mul_le_mul h0 (by omega)
  unfold z_U
  split
  · omega
  · split
    · omega
    · split
      · omega
      · split
        · omega
        · split <;> omega
theorem z_O_le {v : z_V} {kd inc s : Nat} (h0 : v 0 ≤ 9) (hi : inc ≤ 31) (hs : v (12 + s) ≤ 9) : z_O v kd inc s ≤ 600 := by
  have h := z_U_le (kd := kd) h0 hi hs
  unfold z_O
  split
  · omega
  · exact h
theorem z_bit : ∀ k, k < 128 → ∀ s, s < 7 → ((((nI k) >>> (nI s &&& 31)) &&& 1 = 1) ↔ k.testBit s = true) := by decide +kernel
theorem z_w10 {a b : Nat} (ha : a ≤ 31) (hb : b ≤ 9) : (nI a * nI b) / 10 = nI (a * b / 10) := by
  have h : a * b ≤ 279 := Nat.le_trans (Nat.mul_le_mul ha hb) (by decide)
  rw [pk_mul]
  exact pk_div (d := 10) (by omega) (by decide) (by decide)
theorem z_half {a : Nat} (ha : a < 100000) : nI a / 2 = nI (a / 2) := pk_div (d := 2) (by omega) (by decide) (by decide)
theorem z_eqI {a : Nat} (k : Nat) (ha : a < 65536) (hk : k < 65536) : (nI a = nI k) ↔ a = k := nI_eq (by omega) (by omega)
theorem z_ltI {a k : Nat} (ha : a < 2 ^ 30) (hk : k < 2 ^ 30) : (nI a < nI k) ↔ a < k := nI_ltI (by omega) (by omega)
theorem z_leI {a k : Nat} (ha : a < 2 ^ 30) (hk : k < 2 ^ 30) : (nI a ≤ nI k) ↔ a ≤ k := nI_leI (by omega) (by omega)
/-- the system: DUTY -/
theorem z_SU {σ : x_S} {c : Nat} {v : z_V} (hS : z_S σ c v) (hv : z_ok v) {kd inc s : Nat} (hs : s < v 1) (hk : 1 ≤ kd ∧ kd ≤ 5) (hi : inc ≤ 31) : fX2_owesUnknown c (nI kd) (nI inc) (nI s) σ = some (nI (z_U v kd inc s)) := by
  obtain ⟨h0, -, -, -, -, hst, -⟩ := hS
  obtain ⟨v0, v1, -, -, -, vs, -⟩ := hv
  have hs7 : s < 7 := by omega
  have hst2 := (vs s hs).2
  have ⟨w1, w2⟩ := z_wave_le (inc := inc) v0 hi hst2
  have ew : nI inc * nI (v 0) + nI inc * nI (v (12 + s)) / 10 = nI (inc * v 0 + inc * v (12 + s) / 10) := by rw [z_w10 hi hst2, pk_mul, nI_add]
  unfold fX2_owesUnknown
  rw [z_gi hs7 (by decide), z_gi hs7 (by decide), z_cl (by omega), h0, (hst s hs).2, ew]
  rcases (show kd = 1 ∨ kd = 2 ∨ kd = 3 ∨ kd = 4 ∨ kd = 5 by omega) with rfl | rfl | rfl | rfl | rfl
  · rw [if_pos (by decide)]; rfl
  · rw [if_neg (by decide), if_pos (by decide), z_half (by omega)]; rfl
  · rw [if_neg (by decide), if_neg (by decide), if_pos (by decide)]
    have e : (if 0 < nI inc - 10 then nI inc - 10 else 0) = nI (inc - 10) := by
      rcases Nat.lt_or_ge 10 inc with q | q
      · have e1 : nI inc - 10 = nI (inc - 10) := pk_sub (a := inc) (b := 10) (by omega)
        rw [e1, if_pos ((z_gtL (y := (0 : Int32)) 0 rfl (by omega) (by decide)).mpr (by omega))]
      · have e1 : ¬ (0 < nI inc - 10) := by
          rcases Nat.lt_or_ge inc 10 with q2 | q2
          · have := pk_sneg (a := inc) (b := 10) (by decide) q2
            exact Int32.not_lt.mpr (Int32.le_of_lt this)
          · have : inc = 10 := by omega
            subst this
            decide
        rw [if_neg e1, show inc - 10 = 0 by omega]
        rfl
    rw [e, pk_mul, nI_add]
    rfl
  · rw [if_neg (by decide), if_neg (by decide), if_neg (by decide), if_pos (by decide)]; rfl
  · rw [if_neg (by decide), if_neg (by decide), if_neg (by decide), if_neg (by decide), if_pos (by decide)]
    by_cases q : v (12 + s) < 5
    · rw [if_pos ((z_ltL (y := (5 : Int32)) 5 rfl (by omega) (by decide)).mpr q)]
      simp only [z_U, q, if_true]
      rfl
    · rw [if_neg (fun z => q ((z_ltL (y := (5 : Int32)) 5 rfl (by omega) (by decide)).mp z))]
      simp [z_U, q]
theorem z_c0 : (0 : Int32).toNatClampNeg = 0 := rfl
theorem z_c1 : (1 : Int32).toNatClampNeg = 1 := rfl
theorem z_c2 : (2 : Int32).toNatClampNeg = 2 := rfl
theorem z_c3 : (3 : Int32).toNatClampNeg = 3 := rfl
theorem z_c4 : (4 : Int32).toNatClampNeg = 4 := rfl
/-- the reference's place k + i of its row -/
theorem z_pl (k i : Nat) : (OfNat.ofNat k : Int32) + nI i = nI (k + i) := nI_add k i
/-- the reference: DUTY -/
theorem z_Mwave {τ : x_S} {v : z_V} (hM : z_M τ 0 v) (hv : z_ok v) {inc s : Nat} (hs : s < v 1) (hi : inc ≤ 31) : fX8_wave (nI inc) (nI s) τ = some (nI (inc * v 0 + inc * v (12 + s) / 10)) := by
  obtain ⟨h0, -, -, -, -, hst, -⟩ := hM
  obtain ⟨v0, v1, -, -, -, vs, -⟩ := hv
  have hst2 := (vs s hs).2
  have h12 : τ 1 (12 + s) = nI (v (12 + s)) := by have := (hst s hs).2; rwa [Nat.zero_add] at this
  unfold fX8_wave
  rw [show (12 : Int32) + nI s = nI (12 + s) from nI_add 12 s, z_gi (n := 1372) (by omega) (by decide), z_cl (by omega), z_c0, h0, h12, z_w10 hi hst2, pk_mul, nI_add]
theorem z_MU {τ : x_S} {v : z_V} (hM : z_M τ 0 v) (hv : z_ok v) {kd inc s : Nat} (hs : s < v 1) (hk : 1 ≤ kd ∧ kd ≤ 5) (hi : inc ≤ 31) : fX8_plainDuty (nI kd) (nI inc) (nI s) τ = some (nI (z_U v kd inc s)) := by
  have hw := z_Mwave hM hv hs hi
  obtain ⟨h0, -, -, -, -, hst, -⟩ := hM
  obtain ⟨v0, v1, -, -, -, vs, -⟩ := hv
  have hst2 := (vs s hs).2
  have h12 : τ 1 (12 + s) = nI (v (12 + s)) := by have := (hst s hs).2; rwa [Nat.zero_add] at this
  have ⟨w1, w2⟩ := z_wave_le (inc := inc) v0 hi hst2
  unfold fX8_plainDuty
  rcases (show kd = 1 ∨ kd = 2 ∨ kd = 3 ∨ kd = 4 ∨ kd = 5 by omega) with rfl | rfl | rfl | rfl | rfl
  · rw [if_neg (by decide), if_neg (by decide), if_neg (by decide), if_neg (by decide), hw]; rfl
  · rw [if_pos (by decide), hw, z_p, z_half (by omega)]; rfl
  · rw [if_neg (by decide), if_pos (by decide), hw, z_p]
    rcases Nat.lt_or_ge 10 inc with q | q
    · rw [if_neg (fun z => by have := (nI_leI (a := inc) (b := 10) (by omega) (by decide)).mp z; omega), z_c0, h0]
      have e1 : nI inc - 10 = nI (inc - 10) := pk_sub (a := inc) (b := 10) (by omega)
      rw [e1, pk_mul, nI_add]
      rfl
    · rw [if_pos ((z_leL (a := inc) (y := (10 : Int32)) 10 rfl (by omega) (by decide)).mpr q)]
      have e : z_U v 3 inc s = inc * v 0 + inc * v (12 + s) / 10 + 0 := by
        show (inc * v 0 + inc * v (12 + s) / 10) + v 0 * (inc - 10) = _
        rw [show inc - 10 = 0 by omega, Nat.mul_zero]
      rw [e]
      exact congrArg some (nI_add _ 0)
  · rw [if_neg (by decide), if_neg (by decide), if_pos (by decide)]; rfl
  · rw [if_neg (by decide), if_neg (by decide), if_neg (by decide), if_pos (by decide), show (12 : Int32) + nI s = nI (12 + s) from nI_add 12 s, z_gi (n := 1372) (by omega) (by decide), z_cl (by omega), h12]
    by_cases q : v (12 + s) < 5
    · rw [if_neg (fun z => by have := (nI_leI (a := 5) (b := v (12 + s)) (by decide) (by omega)).mp z; omega)]
      simp only [z_U, q, if_true]
      rfl
    · rw [if_pos ((z_geL (a := v (12 + s)) (y := (5 : Int32)) 5 rfl (by omega) (by decide)).mpr (by omega)), hw]
      simp [z_U, q, x_p]
/-- where one is known -/
theorem z_SO {σ : x_S} {c : Nat} {v : z_V} (hS : z_S σ c v) (hv : z_ok v) {kd inc s : Nat} (hs : s < v 1) (hk : 1 ≤ kd ∧ kd ≤ 5) (hi : inc ≤ 31) : fX2_owesSuch c (nI kd) (nI inc) (nI s) σ = some (nI (z_O v kd inc s)) := by
  have h1 := z_SU hS hv hs hk hi
  have hle := z_U_le (kd := kd) (s := s) hv.1 hi (hv.2.2.2.2.2.1 s hs).2
  have hb := z_bit (v 4) hv.2.2.2.2.1 s (by have := hv.2.1; omega)
  unfold fX2_owesSuch fX2_isKnown
  rw [h1, z_p, hS.2.2.2.2.1]
  by_cases q : (v 4).testBit s = true
  · rw [if_pos (hb.mpr q), z_p, if_neg (by decide), z_half (by omega)]
    simp [z_O, q]
  · rw [if_neg (fun z => q (hb.mp z)), z_p, if_pos rfl]
    simp [z_O, q]
theorem z_MO {τ : x_S} {v : z_V} (hM : z_M τ 0 v) (hv : z_ok v) {kd inc s : Nat} (hs : s < v 1) (hk : 1 ≤ kd ∧ kd ≤ 5) (hi : inc ≤ 31) : fX8_owes (nI kd) (nI inc) (nI s) τ = some (nI (z_O v kd inc s)) := by
  have h1 := z_MU hM hv hs hk hi
  have hle := z_U_le (kd := kd) (s := s) hv.1 hi (hv.2.2.2.2.2.1 s hs).2
  have hb := z_bit (v 4) hv.2.2.2.2.1 s (by have := hv.2.1; omega)
  unfold fX8_owes fX8_has
  rw [h1, z_p, z_c4, show τ 1 4 = nI (v 4) from hM.2.2.2.2.1]
  by_cases q : (v 4).testBit s = true
  · rw [if_pos (hb.mpr q), z_p, if_neg (by decide), z_half (by omega)]
    simp [z_O, q]
  · rw [if_neg (fun z => q (hb.mp z)), z_p, if_pos rfl]
    simp [z_O, q]
/-- of a gesture of the city -/
def z_D (v : z_V) (g s : Nat) : Nat := z_O v (v (19 + g)) (v (25 + g)) s
theorem z_SD {σ : x_S} {c : Nat} {v : z_V} (hS : z_S σ c v) (hv : z_ok v) {g s : Nat} (hg : g < v 2) (hs : s < v 1) : fX2_owes c (nI g) (nI s) σ = some (nI (z_D v g s)) := by
  obtain ⟨hk, hi, -, -⟩ := hv.2.2.2.2.2.2 g hg
  have h2 := hv.2.2.1
  obtain ⟨e1, e2, -⟩ := hS.2.2.2.2.2.2 g hg
  have h := z_SO hS hv hs hk (inc := v (25 + g)) (by omega)
  unfold fX2_owes
  rw [z_gi (n := 6) (by omega) (by decide), z_gi (n := 6) (by omega) (by decide), z_cl (by omega), e1, e2, h]
  rfl
theorem z_MD {τ : x_S} {v : z_V} (hM : z_M τ 0 v) (hv : z_ok v) {g s : Nat} (hg : g < v 2) (hs : s < v 1) : fX8_dutyOf (nI g) (nI s) τ = some (nI (z_D v g s)) := by
  obtain ⟨hk, hi, -, -⟩ := hv.2.2.2.2.2.2 g hg
  have h2 := hv.2.2.1
  obtain ⟨e1, e2, -⟩ := hM.2.2.2.2.2.2 g hg
  rw [Nat.zero_add] at e1 e2
  have h := z_MO hM hv hs hk (inc := v (25 + g)) (by omega)
  unfold fX8_dutyOf
  rw [show (19 : Int32) + nI g = nI (19 + g) from nI_add 19 g, show (25 : Int32) + nI g = nI (25 + g) from nI_add 25 g, z_gi (n := 1372) (by omega) (by decide), z_gi (n := 1372) (by omega) (by decide), z_cl (by omega), z_cl (by omega), e1, e2, h]
  rfl
/-- SEEN -/
def z_seen (v : z_V) (g s : Nat) : Bool := decide (v (5 + s) ≤ v (25 + g) + (if 4 ≤ v (19 + g) then 5 else 0))
def z_B (x : Bool) : Int32 := if x then 1 else 0
theorem z_Sseen {σ : x_S} {c : Nat} {v : z_V} (hS : z_S σ c v) (hv : z_ok v) {g s : Nat} (hg : g < v 2) (hs : s < v 1) : fX2_isSeen c (nI g) (nI s) σ = some (z_B (z_seen v g s)) := by
  obtain ⟨hk, hi, -, -⟩ := hv.2.2.2.2.2.2 g hg
  have h2 := hv.2.2.1
  have h1 := hv.2.1
  have hd := (hv.2.2.2.2.2.1 s hs).1
  obtain ⟨e1, e2, -⟩ := hS.2.2.2.2.2.2 g hg
  obtain ⟨d1, -⟩ := hS.2.2.2.2.2.1 s hs
  have fin : ∀ z : Nat, z ≤ 5 → bX2_isSeen_41 c (nI s) (nI z) (nI (v (25 + g))) σ = some (z_B (decide (v (5 + s) ≤ v (25 + g) + z))) := by
    intro z hz
    unfold bX2_isSeen_41
    rw [z_gi (n := 7) (by omega) (by decide), z_cl (by omega), d1, nI_add]
    by_cases q : v (25 + g) + z < v (5 + s)
    · rw [if_pos ((nI_ltI (by omega) (by omega)).mpr q)]
      simp [z_B, show ¬ v (5 + s) ≤ v (25 + g) + z by omega]
    · rw [if_neg (fun w => q ((nI_ltI (by omega) (by omega)).mp w))]
      simp [z_B, show v (5 + s) ≤ v (25 + g) + z by omega]
  have b25 : ∀ y : Int32, bX2_isSeen_25 c (nI g) (nI s) y σ = if y = 0 then bX2_isSeen_41 c (nI s) (nI 0) (nI (v (25 + g))) σ else bX2_isSeen_41 c (nI s) (nI 5) (nI (v (25 + g))) σ := by
    intro y
    unfold bX2_isSeen_25
    rw [z_gi (n := 6) (by omega) (by decide), z_cl (by omega), e2]
    rfl
  unfold fX2_isSeen z_seen
  rw [z_gi (n := 6) (by omega) (by decide), z_gi (n := 6) (by omega) (by decide), z_cl (by omega), e1, b25, b25]
  by_cases q4 : v (19 + g) = 4
  · rw [if_pos (by rw [q4]; rfl), if_neg (by decide), fin 5 (by decide), if_pos (by omega)]
  · rw [if_neg (fun w => q4 ((z_eqL (y := (4 : Int32)) 4 rfl (by omega) (by decide)).mp w))]
    by_cases q5 : v (19 + g) = 5
    · rw [if_pos (by rw [q5]; rfl), if_neg (by decide), fin 5 (by decide), if_pos (by omega)]
    · rw [if_neg (fun w => q5 ((z_eqL (y := (5 : Int32)) 5 rfl (by omega) (by decide)).mp w)), if_pos rfl, fin 0 (by decide), if_neg (by omega)]
theorem z_Mseen {τ : x_S} {v : z_V} (hM : z_M τ 0 v) (hv : z_ok v) {g s : Nat} (hg : g < v 2) (hs : s < v 1) : fX8_isSeen (nI g) (nI s) τ = some (z_B (z_seen v g s)) := by
  obtain ⟨hk, hi, -, -⟩ := hv.2.2.2.2.2.2 g hg
  have h2 := hv.2.2.1
  have h1 := hv.2.1
  have hd := (hv.2.2.2.2.2.1 s hs).1
  obtain ⟨e1, e2, -⟩ := hM.2.2.2.2.2.2 g hg
  obtain ⟨d1, -⟩ := hM.2.2.2.2.2.1 s hs
  rw [Nat.zero_add] at e1 e2 d1
  have fin : ∀ z : Nat, z ≤ 5 → bX8_isSeen_18 (nI g) (nI s) (nI z) τ = some (z_B (decide (v (5 + s) ≤ v (25 + g) + z))) := by
    intro z hz
    unfold bX8_isSeen_18
    rw [show (25 : Int32) + nI g = nI (25 + g) from nI_add 25 g, show (5 : Int32) + nI s = nI (5 + s) from nI_add 5 s, z_gi (n := 1372) (by omega) (by decide), z_gi (n := 1372) (by omega) (by decide), z_cl (by omega), z_cl (by omega), e2, d1, nI_add]
    by_cases q : v (25 + g) + z < v (5 + s)
    · rw [if_pos ((nI_ltI (by omega) (by omega)).mpr q)]
      simp [z_B, show ¬ v (5 + s) ≤ v (25 + g) + z by omega]
    · rw [if_neg (fun w => q ((nI_ltI (by omega) (by omega)).mp w))]
      simp [z_B, show v (5 + s) ≤ v (25 + g) + z by omega]
  unfold fX8_isSeen z_seen
  rw [show (19 : Int32) + nI g = nI (19 + g) from nI_add 19 g, z_gi (n := 1372) (by omega) (by decide), z_cl (by omega), e1]
  by_cases q : v (19 + g) ≤ 3
  · rw [if_pos ((z_leL (y := (3 : Int32)) 3 rfl (by omega) (by decide)).mpr q), if_neg (by omega)]
    exact fin 0 (by decide)
  · rw [if_neg (fun w => q ((z_leL (y := (3 : Int32)) 3 rfl (by omega) (by decide)).mp w)), if_pos (by omega)]
    exact fin 5 (by decide)
/-- is it a gesture, a street -/
theorem z_W_n (a : Int32) {n : Nat} (hn : n < 65536) : (z_W a 0 (nI n - 1) = 0 ∧ (a < 0 ∨ nI n ≤ a)) ∨ ∃ g, g < n ∧ a = nI g ∧ z_W a 0 (nI n - 1) = 1 := by
  rcases pk_ix a (n := n) (by omega) with h | h | ⟨g, hg, rfl⟩
  · refine Or.inl ⟨?_, Or.inl h⟩
    unfold z_W
    rw [if_pos h]
  · refine Or.inl ⟨?_, Or.inr h⟩
    unfold z_W
    by_cases q : a < 0
    · rw [if_pos q]
    · rw [if_neg q]
      obtain ⟨j, hj, rfl⟩ := nI_of q
      have hnj : n ≤ j := (nI_leI (by omega) hj).mp h
      cases n with
      | zero =>
        rw [if_pos]
        have : nI 0 - 1 < 0 := by decide
        exact Int32.lt_of_lt_of_le this (nI_pos' hj)
      | succ k =>
        rw [nI_pred, if_pos (nI_lt (by omega) hj)]
  · refine Or.inr ⟨g, hg, rfl, ?_⟩
    cases n with
    | zero => exact absurd hg (by omega)
    | succ k =>
      unfold z_W
      rw [nI_pred, if_neg (nI_pos (by omega)), if_neg (nI_nlt (by omega) (by omega))]
theorem z_is (a : Int32) {n : Nat} (hn : n < 65536) : ((if a < 0 then some (0 : Int32) else if nI n ≤ a then some 0 else some 1) = some 0 ∧ z_W a 0 (nI n - 1) = 0) ∨ ∃ g, g < n ∧ a = nI g ∧ (if a < 0 then some (0 : Int32) else if nI n ≤ a then some 0 else some 1) = some 1 ∧ z_W a 0 (nI n - 1) = 1 := by
  rcases z_W_n a hn with ⟨h, h2⟩ | ⟨g, hg, rfl, h⟩
  · refine Or.inl ⟨?_, h⟩
    by_cases q : a < 0
    · rw [if_pos q]
    · rw [if_neg q, if_pos (h2.resolve_left q)]
  · refine Or.inr ⟨g, hg, rfl, ?_, h⟩
    rw [if_neg (nI_pos (by omega)), if_neg (nI_ge hg (by omega))]
theorem z_ges {σ τ : x_S} {n : Nat} (hS : σ 32 5 = nI n) (hM : τ 1 2 = nI n) (hn : n < 65536) (a : Int32) : (fX7_isGesture a σ = some 0 ∧ fX8_isGesture a τ = some 0) ∨ ∃ g, g < n ∧ a = nI g ∧ fX7_isGesture a σ = some 1 ∧ fX8_isGesture a τ = some 1 := by
  unfold fX7_isGesture fX8_isGesture
  rw [z_c2, hS, hM, show (0 : Int64) = (0 : Int32).toInt64 from rfl, z_in64, z_p, z_g (z_Wand _ _ _)]
  rcases z_is a hn with ⟨h1, h2⟩ | ⟨g, hg, e, h1, h2⟩
  · exact Or.inl ⟨h1, by rw [h2]⟩
  · exact Or.inr ⟨g, hg, e, h1, by rw [h2]⟩
theorem z_str {σ τ : x_S} {n : Nat} (hS : σ 32 3 = nI n) (hM : τ 1 1 = nI n) (hn : n < 65536) (a : Int32) : (fX7_isStreet a σ = some 0 ∧ fX8_isStreet a τ = some 0) ∨ ∃ g, g < n ∧ a = nI g ∧ fX7_isStreet a σ = some 1 ∧ fX8_isStreet a τ = some 1 := by
  unfold fX7_isStreet fX8_isStreet
  rw [z_c1, hS, hM, show (0 : Int64) = (0 : Int32).toInt64 from rfl, z_in64, z_p, z_g (z_Wand _ _ _)]
  rcases z_is a hn with ⟨h1, h2⟩ | ⟨g, hg, e, h1, h2⟩
  · exact Or.inl ⟨h1, by rw [h2]⟩
  · exact Or.inr ⟨g, hg, e, h1, by rw [h2]⟩
end
section
/-! ===== pure: loops; what is looked at ===== -/
def z_fold {α : Type} (f : Nat → α → α) : Nat → Nat → α → α
  | _, 0, a => a
  | i, d + 1, a => z_fold f (i + 1) d (f i a)
theorem z_fuel {d : Nat} (h : d < 4096) : d < x_F := h
theorem z_loop {α β : Type} {z : α → Int32 → Option β} {b : (α → Int32 → Option β) → α → Int32 → Option β} {N : Nat} {f : Nat → α → α} {r : α → Option β} (hs : ∀ K a i, i < N → b K a (nI i) = K (f i a) (nI (i + 1))) (he : ∀ K a, b K a (nI N) = r a) :
    ∀ d n i a, i + d = N → d < n → x_fx z b n a (nI i) = r (z_fold f i d a) := by
  intro d
  induction d with
  | zero =>
    intro n i a hi hn
    cases n with
    | zero => exact absurd hn (by omega)
    | succ n =>
      show b (x_fx z b n) a (nI i) = _
      rw [show i = N by omega, he]
      rfl
  | succ d ih =>
    intro n i a hi hn
    cases n with
    | zero => exact absurd hn (by omega)
    | succ n =>
      show b (x_fx z b n) a (nI i) = _
      rw [hs _ _ _ (by omega), ih n (i + 1) _ (by omega) (by omega)]
      rfl
def z_T (σ τ : x_S) (v : z_V) : Prop := z_ok v ∧ z_S σ 32 v ∧ z_M τ 0 v
theorem z_T.ges {σ τ : x_S} {v : z_V} (h : z_T σ τ v) (a : Int32) : (fX7_isGesture a σ = some 0 ∧ fX8_isGesture a τ = some 0) ∨ ∃ g, g < v 2 ∧ a = nI g ∧ fX7_isGesture a σ = some 1 ∧ fX8_isGesture a τ = some 1 := z_ges h.2.1.2.2.1 h.2.2.2.2.1 (by have := h.1.2.2.1; omega) a
theorem z_T.str {σ τ : x_S} {v : z_V} (h : z_T σ τ v) (a : Int32) : (fX7_isStreet a σ = some 0 ∧ fX8_isStreet a τ = some 0) ∨ ∃ s, s < v 1 ∧ a = nI s ∧ fX7_isStreet a σ = some 1 ∧ fX8_isStreet a τ = some 1 := z_str h.2.1.2.1 h.2.2.2.1 (by have := h.1.2.1; omega) a
def z_bits (P : Nat → Bool) (i : Nat) (a : Int32) : Int32 := if P i then a ||| (1 <<< (nI i &&& 31)) else a ||| 0
theorem z_B0 {x : Bool} : (z_B x = 0) ↔ x = false := by cases x <;> simp [z_B]
theorem z_SseenS {σ : x_S} {v : z_V} (hS : z_S σ 32 v) (hv : z_ok v) {g : Nat} (hg : g < v 2) : fX2_streetsThatSee 32 (nI g) σ = some (z_fold (z_bits (fun s => z_seen v g s)) 0 (v 1) 0) := by
  unfold fX2_streetsThatSee bX2_streetsThatSee_4
  have h1 := hv.2.1
  refine z_loop (N := v 1) (r := fun a => some a) (f := z_bits (fun s => z_seen v g s)) (fun K a i hi => ?_) (fun K a => ?_) (v 1) x_F 0 0 (by omega) (z_fuel (by omega))
  · show gX2_streetsThatSee_4 32 (nI g) K a (nI i) σ = _
    unfold gX2_streetsThatSee_4 z_bits
    rw [hS.2.1, if_neg (nI_ge hi (by omega)), z_Sseen hS hv hg hi, z_p]
    cases hz : z_seen v g i <;> simp [z_B, nI_1, hz]
  · show gX2_streetsThatSee_4 32 (nI g) K a (nI (v 1)) σ = _
    unfold gX2_streetsThatSee_4
    rw [hS.2.1, if_pos (Int32.le_refl _)]
theorem z_MseenS {τ : x_S} {v : z_V} (hM : z_M τ 0 v) (hv : z_ok v) {g : Nat} (hg : g < v 2) : fX8_seenStreets (nI g) τ = some (z_fold (z_bits (fun s => z_seen v g s)) 0 (v 1) 0) := by
  unfold fX8_seenStreets bX8_seenStreets_4
  have h1 := hv.2.1
  refine z_loop (N := v 1) (r := fun a => some a) (f := z_bits (fun s => z_seen v g s)) (fun K a i hi => ?_) (fun K a => ?_) (v 1) x_F 0 0 (by omega) (z_fuel (by omega))
  · show gX8_seenStreets_4 (nI g) K a (nI i) τ = _
    unfold gX8_seenStreets_4 z_bits
    rw [z_c1, show τ 1 1 = nI (v 1) from hM.2.1, if_neg (nI_ge hi (by omega)), z_Mseen hM hv hg hi, z_p]
    cases hz : z_seen v g i <;> simp [z_B, nI_1, hz]
  · show gX8_seenStreets_4 (nI g) K a (nI (v 1)) τ = _
    unfold gX8_seenStreets_4
    rw [z_c1, show τ 1 1 = nI (v 1) from hM.2.1, if_pos (Int32.le_refl _)]
theorem z_SseenG {σ : x_S} {v : z_V} (hS : z_S σ 32 v) (hv : z_ok v) {s : Nat} (hs : s < v 1) : fX2_gesturesSeenIn 32 (nI s) σ = some (z_fold (z_bits (fun g => z_seen v g s)) 0 (v 2) 0) := by
  unfold fX2_gesturesSeenIn bX2_gesturesSeenIn_4
  have h2 := hv.2.2.1
  refine z_loop (N := v 2) (r := fun a => some a) (f := z_bits (fun g => z_seen v g s)) (fun K a i hi => ?_) (fun K a => ?_) (v 2) x_F 0 0 (by omega) (z_fuel (by omega))
  · show gX2_gesturesSeenIn_4 32 (nI s) K a (nI i) σ = _
    unfold gX2_gesturesSeenIn_4 z_bits
    rw [hS.2.2.1, if_neg (nI_ge hi (by omega)), z_Sseen hS hv hi hs, z_p]
    cases hz : z_seen v i s <;> simp [z_B, nI_1, hz]
  · show gX2_gesturesSeenIn_4 32 (nI s) K a (nI (v 2)) σ = _
    unfold gX2_gesturesSeenIn_4
    rw [hS.2.2.1, if_pos (Int32.le_refl _)]
theorem z_MseenG {τ : x_S} {v : z_V} (hM : z_M τ 0 v) (hv : z_ok v) {s : Nat} (hs : s < v 1) : fX8_seenGestures (nI s) τ = some (z_fold (z_bits (fun g => z_seen v g s)) 0 (v 2) 0) := by
  unfold fX8_seenGestures bX8_seenGestures_4
  have h2 := hv.2.2.1
  refine z_loop (N := v 2) (r := fun a => some a) (f := z_bits (fun g => z_seen v g s)) (fun K a i hi => ?_) (fun K a => ?_) (v 2) x_F 0 0 (by omega) (z_fuel (by omega))
  · show gX8_seenGestures_4 (nI s) K a (nI i) τ = _
    unfold gX8_seenGestures_4 z_bits
    rw [z_c2, show τ 1 2 = nI (v 2) from hM.2.2.1, if_neg (nI_ge hi (by omega)), z_Mseen hM hv hi hs, z_p]
    cases hz : z_seen v i s <;> simp [z_B, nI_1, hz]
  · show gX8_seenGestures_4 (nI s) K a (nI (v 2)) τ = _
    unfold gX8_seenGestures_4
    rw [z_c2, show τ 1 2 = nI (v 2) from hM.2.2.1, if_pos (Int32.le_refl _)]
theorem z_10 : ¬ ((1 : Int32) = 0) := by decide
/-- gesture -/
theorem o_gesture {σ τ : x_S} {v : z_V} (h : z_T σ τ v) (a1 a2 : Int32) : ∃ r, fX7_gesture a1 a2 σ = some r ∧ fX8_gesture a1 a2 τ = some r := by
  unfold fX7_gesture fX8_gesture
  rcases h.ges a1 with ⟨h1, h2⟩ | ⟨g, hg, rfl, h1, h2⟩
  · exact ⟨_, by rw [h1, z_p, if_pos rfl], by rw [h2, z_p, if_pos rfl]⟩
  · rw [h1, h2, z_p, z_p, if_neg z_10, if_neg z_10]
    have h6 := h.1.2.2.1
    obtain ⟨-, e1, e2, e3, e4⟩ := h.2.1.2.2.2.2.2.2 g hg
    obtain ⟨-, f1, f2, f3, f4⟩ := h.2.2.2.2.2.2.2.2 g hg
    rw [Nat.zero_add] at f1 f2 f3 f4
    have k1 : σ 36 g = nI (v (25 + g)) := e1
    have k2 : σ 37 g = nI (v (31 + g)) := e2
    have k3 : σ 38 g = nI (v (37 + g)) := e3
    have k4 : σ 39 g = nI (v (43 + g)) := e4
    rw [show (25 : Int32) + nI g = nI (25 + g) from nI_add 25 g, show (31 : Int32) + nI g = nI (31 + g) from nI_add 31 g, show (37 : Int32) + nI g = nI (37 + g) from nI_add 37 g, show (43 : Int32) + nI g = nI (43 + g) from nI_add 43 g]
    simp only [z_gi (n := 6) (show g < 6 by omega) (by decide), z_gi (n := 1372) (show 25 + g < 1372 by omega) (by decide), z_gi (n := 1372) (show 31 + g < 1372 by omega) (by decide), z_gi (n := 1372) (show 37 + g < 1372 by omega) (by decide), z_gi (n := 1372) (show 43 + g < 1372 by omega) (by decide), z_cl (show g < 65536 by omega), z_cl (show 25 + g < 65536 by omega), z_cl (show 31 + g < 65536 by omega), z_cl (show 37 + g < 65536 by omega), z_cl (show 43 + g < 65536 by omega), k1, k2, k3, k4, f1, f2, f3, f4, z_SseenS h.2.1 h.1 hg, z_MseenS h.2.2 h.1 hg, z_p]
    by_cases c0 : a2 = 0
    · rw [if_pos c0]; exact ⟨_, rfl, rfl⟩
    · rw [if_neg c0]
      by_cases c1 : a2 = 1
      · rw [if_pos c1]; exact ⟨_, rfl, rfl⟩
      · rw [if_neg c1]
        by_cases c2 : a2 = 2
        · rw [if_pos c2]; exact ⟨_, rfl, rfl⟩
        · rw [if_neg c2]
          by_cases c3 : a2 = 3
          · rw [if_pos c3]; exact ⟨_, rfl, rfl⟩
          · rw [if_neg c3]
            by_cases c4 : a2 = 4
            · rw [if_pos c4]; exact ⟨_, rfl, rfl⟩
            · rw [if_neg c4]; exact ⟨_, rfl, rfl⟩
/-- street -/
theorem o_street {σ τ : x_S} {v : z_V} (h : z_T σ τ v) (a1 a2 : Int32) : ∃ r, fX7_street a1 a2 σ = some r ∧ fX8_street a1 a2 τ = some r := by
  unfold fX7_street fX8_street
  rcases h.str a1 with ⟨h1, h2⟩ | ⟨s, hs, rfl, h1, h2⟩
  · exact ⟨_, by rw [h1, z_p, if_pos rfl], by rw [h2, z_p, if_pos rfl]⟩
  · rw [h1, h2, z_p, z_p, if_neg z_10, if_neg z_10]
    have h7 := h.1.2.1
    obtain ⟨e1, e2⟩ := h.2.1.2.2.2.2.2.1 s hs
    obtain ⟨f1, f2⟩ := h.2.2.2.2.2.2.2.1 s hs
    rw [Nat.zero_add] at f1 f2
    have k1 : σ 33 s = nI (v (5 + s)) := e1
    have k2 : σ 34 s = nI (v (12 + s)) := e2
    have kk : σ 32 4 = nI (v 4) := h.2.1.2.2.2.2.1
    have km : τ 1 4 = nI (v 4) := h.2.2.2.2.2.2.1
    have hb := z_bit (v 4) h.1.2.2.2.2.1 s (by omega)
    rw [show (5 : Int32) + nI s = nI (5 + s) from nI_add 5 s, show (12 : Int32) + nI s = nI (12 + s) from nI_add 12 s]
    unfold fX2_isKnown
    simp only [z_gi (n := 7) (show s < 7 by omega) (by decide), z_gi (n := 1372) (show 5 + s < 1372 by omega) (by decide), z_gi (n := 1372) (show 12 + s < 1372 by omega) (by decide), z_cl (show s < 65536 by omega), z_cl (show 5 + s < 65536 by omega), z_cl (show 12 + s < 65536 by omega), k1, k2, kk, km, z_c4, f1, f2, z_SseenG h.2.1 h.1 hs, z_MseenG h.2.2 h.1 hs, z_p]
    by_cases c0 : a2 = 0
    · rw [if_pos c0, if_pos c0]; exact ⟨_, rfl, rfl⟩
    · rw [if_neg c0, if_neg c0]
      by_cases c1 : a2 = 1
      · rw [if_pos c1, if_pos c1]; exact ⟨_, rfl, rfl⟩
      · rw [if_neg c1, if_neg c1]
        by_cases c2 : a2 = 2
        · rw [if_pos c2, if_pos c2]
          refine ⟨_, ?_, rfl⟩
          by_cases q : ((nI (v 4)) >>> (nI s &&& 31)) &&& 1 = 1
          · rw [if_pos q, z_p, if_neg z_10, q]
          · rw [if_neg q, z_p, if_pos rfl]
            have : ((nI (v 4)) >>> (nI s &&& 31)) &&& 1 = 0 := by
              obtain ⟨j, hj, ej⟩ := pk_andE ((nI (v 4)) >>> (nI s &&& 31)) (m := 1) 1 (by decide)
              rw [ej] at q ⊢
              rcases (show j = 0 ∨ j = 1 by omega) with rfl | rfl
              · rfl
              · exact absurd rfl q
            rw [this]
        · rw [if_neg c2, if_neg c2]
          by_cases c3 : a2 = 3
          · rw [if_pos c3]; exact ⟨_, rfl, rfl⟩
          · rw [if_neg c3]; exact ⟨_, rfl, rfl⟩
/-- duty -/
theorem o_duty {σ τ : x_S} {v : z_V} (h : z_T σ τ v) (a1 a2 : Int32) : ∃ r, fX7_duty a1 a2 σ = some r ∧ fX8_duty a1 a2 τ = some r := by
  unfold fX7_duty fX8_duty
  rcases h.ges a1 with ⟨h1, h2⟩ | ⟨g, hg, rfl, h1, h2⟩
  · exact ⟨_, by rw [h1, z_p, if_pos rfl], by rw [h2, z_p, if_pos rfl]⟩
  · rw [h1, h2, z_p, z_p, if_neg z_10, if_neg z_10]
    rcases h.str a2 with ⟨h3, h4⟩ | ⟨s, hs, rfl, h3, h4⟩
    · exact ⟨_, by rw [h3, z_p, if_pos rfl], by rw [h4, z_p, if_pos rfl]⟩
    · rw [h3, h4, z_p, z_p, if_neg z_10, if_neg z_10, z_SD h.2.1 h.1 hg hs, z_MD h.2.2 h.1 hg hs]
      exact ⟨_, rfl, rfl⟩
/-- kind -/
theorem o_kind {σ τ : x_S} {v : z_V} (h : z_T σ τ v) (a1 : Int32) : ∃ r, fX7_kind a1 σ = some r ∧ fX8_kind a1 τ = some r := by
  unfold fX7_kind fX8_kind
  rcases h.ges a1 with ⟨h1, h2⟩ | ⟨g, hg, rfl, h1, h2⟩
  · exact ⟨_, by rw [h1, z_p, if_pos rfl], by rw [h2, z_p, if_pos rfl]⟩
  · have h6 := h.1.2.2.1
    obtain ⟨e1, -⟩ := h.2.1.2.2.2.2.2.2 g hg
    obtain ⟨f1, -⟩ := h.2.2.2.2.2.2.2.2 g hg
    rw [Nat.zero_add] at f1
    have k1 : σ 35 g = nI (v (19 + g)) := e1
    rw [h1, h2, z_p, z_p, if_neg z_10, if_neg z_10, show (19 : Int32) + nI g = nI (19 + g) from nI_add 19 g, z_gi (n := 6) (by omega) (by decide), z_gi (n := 1372) (by omega) (by decide), z_cl (by omega), z_cl (by omega), k1, f1]
    exact ⟨_, rfl, rfl⟩
end
section
/-! ===== pure: rows ===== -/
/-- rows agree -/
def z_rw (σ τ : x_S) (r : Nat) : Prop := (∃ ln, ln ≤ 2 ∧ σ 12 r = nI ln ∧ τ 3 r = nI ln) ∧ ((σ 11 r = -1 ∧ τ 4 r = -1) ∨ ∃ n, n ≤ 40 ∧ σ 11 r = nI n ∧ τ 4 r = nI n) ∧ ∀ i, i < 40 → σ (3 + r) i = τ 5 (40 * r + i)
def z_rows (σ τ : x_S) : Prop := ∀ r, r < 8 → z_rw σ τ r
def z_st (σ τ : x_S) : Prop := σ 0 8 = τ 0 10
theorem z_isRow (a : Int32) (σ τ : x_S) : (fX5_isRow a σ = some 0 ∧ fX8_isRow a τ = some 0) ∨ ∃ r, r < 8 ∧ a = nI r ∧ fX5_isRow a σ = some 1 ∧ fX8_isRow a τ = some 1 := by
  unfold fX5_isRow fX8_isRow
  rw [show (0 : Int64) = (0 : Int32).toInt64 from rfl, show (7 : Int64) = (nI 8 - 1 : Int32).toInt64 from rfl, z_in64, z_p, z_g (z_Wand _ _ _)]
  rcases z_is a (n := 8) (by decide) with ⟨h1, h2⟩ | ⟨g, hg, e, h1, h2⟩
  · exact Or.inl ⟨h1, by rw [h2]⟩
  · exact Or.inr ⟨g, hg, e, h1, by rw [h2]⟩
theorem z_found (k : Int32) (σ : x_S) : fX7_found k σ = some (-1000010 - k, x_u σ 0 8 k) := rfl
theorem z_find (k : Int32) (τ : x_S) : fX8_find k τ = some (-1000010 - k, x_u τ 0 10 k) := rfl
theorem z_fno (k : Int32) (σ : x_S) : fX7_foundNothing k σ = some (k, x_u σ 0 8 0) := rfl
theorem z_well (k : Int32) (τ : x_S) : fX8_well k τ = some (k, x_u τ 0 10 0) := rfl
/-- what an answer with a finding changes: the status alone -/
def z_fs (σ τ σ' τ' : x_S) : Prop := ∃ k, σ' = x_u σ 0 8 k ∧ τ' = x_u τ 0 10 k
theorem z_fs_st {σ τ σ' τ' : x_S} (h : z_fs σ τ σ' τ') : z_st σ' τ' := by
  obtain ⟨k, rfl, rfl⟩ := h
  show x_u σ 0 8 k 0 8 = x_u τ 0 10 k 0 10
  rw [z_us, z_us]
/-- all but the status is as it was -/
def z_sm (σ σ' : x_S) (i : Nat) : Prop := (∀ k, k ≠ 0 → σ' k = σ k) ∧ ∀ j, j ≠ i → σ' 0 j = σ 0 j
theorem z_sm_u (σ : x_S) (i : Nat) (k : Int32) : z_sm σ (x_u σ 0 i k) i := ⟨fun a h => z_uk h, fun j h => z_ui h⟩
theorem z_len {σ τ : x_S} {r : Nat} (h : z_rw σ τ r) : (σ 11 r = -1 ∧ τ 4 r = -1) ∨ ∃ n, n ≤ 40 ∧ σ 11 r = nI n ∧ τ 4 r = nI n := h.2.1
theorem z_n1 {n : Nat} (h : n < 65536) : ¬ (nI n = -1) := by
  intro e
  have h1 : (nI n).toInt = (n : Int) := nI_toInt (by omega)
  rw [e] at h1
  have h2 : ((-1 : Int32)).toInt = -1 := by decide
  rw [h2] at h1
  omega
theorem z_isMissing {σ τ : x_S} {r : Nat} (hr : r < 8) (h : z_rw σ τ r) : (fX5_isMissing (nI r) σ = some 1 ∧ τ 4 r = -1) ∨ ∃ n, n ≤ 40 ∧ σ 11 r = nI n ∧ τ 4 r = nI n ∧ fX5_isMissing (nI r) σ = some 0 := by
  unfold fX5_isMissing
  rw [z_gi hr (by decide), z_cl (by omega)]
  rcases z_len h with ⟨h1, h2⟩ | ⟨n, hn, h1, h2⟩
  · exact Or.inl ⟨by rw [h1, if_pos rfl], h2⟩
  · exact Or.inr ⟨n, hn, h1, h2, by rw [h1, if_neg (z_n1 (by omega))]⟩
/-- reaches, isSpan -/
def z_reach (i n : Int32) (m : Nat) : Prop := ∃ a b : Nat, i = nI a ∧ n = nI b ∧ a + b ≤ m
theorem z_Sreach {σ : x_S} {r m : Nat} (hr : r < 8) (hm : m ≤ 40) (h : σ 11 r = nI m) (i n : Int32) : (fX5_reaches (nI r) i n σ = some 1 ∧ z_reach i n m) ∨ (fX5_reaches (nI r) i n σ = some 0 ∧ ¬ z_reach i n m) := by
  unfold fX5_reaches
  rw [z_gi hr (by decide), z_gi hr (by decide), z_cl (by omega), h]
  by_cases h1 : i < 0
  · rw [if_pos h1]
    refine Or.inr ⟨rfl, ?_⟩
    rintro ⟨a, b, rfl, rfl, hab⟩
    exact nI_pos (by omega) h1
  · rw [if_neg h1]
    obtain ⟨a, ha, rfl⟩ := nI_of h1
    by_cases h2 : n < 0
    · rw [if_pos h2]
      refine Or.inr ⟨rfl, ?_⟩
      rintro ⟨a', b, -, rfl, hab⟩
      exact nI_pos (by omega) h2
    · rw [if_neg h2]
      obtain ⟨b, hb, rfl⟩ := nI_of h2
      have inj : ∀ {x y : Nat}, x < 2 ^ 31 → y < 2 ^ 31 → nI x = nI y → x = y := fun hx hy e => (nI_eq hx hy).mp e
      by_cases h3 : m < b
      · rw [if_pos (nI_lt h3 hb)]
        refine Or.inr ⟨rfl, ?_⟩
        rintro ⟨a', b', ea, eb, hab⟩
        have := inj hb (by omega) eb
        omega
      · rw [if_neg (nI_nlt (by omega) (by omega)), pk_sub (by omega)]
        by_cases h4 : m - b < a
        · rw [if_pos (nI_lt h4 ha)]
          refine Or.inr ⟨rfl, ?_⟩
          rintro ⟨a', b', ea, eb, hab⟩
          have := inj hb (by omega) eb
          have := inj ha (by omega) ea
          omega
        · rw [if_neg (nI_nlt (by omega) (by omega))]
          exact Or.inl ⟨rfl, a, b, rfl, rfl, by omega⟩
theorem z_64 {n : Nat} (h : n < 2 ^ 31) : (nI n).toInt64 = lN n := nI_l h
theorem z_Mreach {τ : x_S} {r m : Nat} (hr : r < 8) (hm : m ≤ 40) (h : τ 4 r = nI m) (i n : Int32) : (fX8_isSpan (nI r) i n τ = some 1 ∧ z_reach i n m) ∨ (fX8_isSpan (nI r) i n τ = some 0 ∧ ¬ z_reach i n m) := by
  unfold fX8_isSpan
  rw [z_gi hr (by decide), z_cl (by omega), h]
  by_cases h1 : i < 0
  · rw [if_pos h1]
    refine Or.inr ⟨rfl, ?_⟩
    rintro ⟨a, b, rfl, rfl, hab⟩
    exact nI_pos (by omega) h1
  · rw [if_neg h1]
    obtain ⟨a, ha, rfl⟩ := nI_of h1
    by_cases h2 : n < 0
    · rw [if_pos h2]
      refine Or.inr ⟨rfl, ?_⟩
      rintro ⟨a', b, -, rfl, hab⟩
      exact nI_pos (by omega) h2
    · rw [if_neg h2]
      obtain ⟨b, hb, rfl⟩ := nI_of h2
      rw [z_64 ha, z_64 hb, z_64 (by omega), lN_add]
      by_cases h3 : m < a + b
      · rw [if_pos ((z_cmp_gt _ _).mpr ((pk_lLT (by omega) (by omega)).mpr h3))]
        refine Or.inr ⟨rfl, ?_⟩
        rintro ⟨a', b', ea, eb, hab⟩
        have := (nI_eq hb (by omega)).mp eb
        have := (nI_eq ha (by omega)).mp ea
        omega
      · rw [if_neg (fun q => h3 ((pk_lLT (by omega) (by omega)).mp ((z_cmp_gt _ _).mp q)))]
        exact Or.inl ⟨rfl, a, b, rfl, rfl, by omega⟩
/-- an op's result: the answers are one, the worlds are as the relation asks -/
def z_op (x : Option (Int32 × x_S)) (y : Option (Int32 × x_S)) (P : x_S → x_S → Prop) : Prop := ∃ r σ' τ', x = some (r, σ') ∧ y = some (r, τ') ∧ P σ' τ'
/-- drop -/
theorem o_drop {σ τ : x_S} (h : z_rows σ τ) (a1 : Int32) : z_op (fX7_drop a1 σ) (fX8_drop a1 τ) (fun σ' τ' => (σ' = σ ∧ τ' = τ) ∨ z_fs σ τ σ' τ' ∨ ∃ r, r < 8 ∧ z_fs (x_u σ 11 r (-1)) (x_u τ 4 r (-1)) σ' τ') := by
  unfold z_op fX7_drop fX8_drop
  rcases z_isRow a1 σ τ with ⟨h1, h2⟩ | ⟨r, hr, rfl, h1, h2⟩
  · rw [h1, h2, z_p, z_p, if_pos rfl, if_pos rfl]
    exact ⟨_, _, _, rfl, rfl, Or.inl ⟨rfl, rfl⟩⟩
  · rw [h1, h2, z_p, z_p, if_neg z_10, if_neg z_10, z_gi hr (by decide), z_gi hr (by decide), z_gi hr (by decide), z_cl (by omega)]
    rcases z_isMissing hr (h r hr) with ⟨e1, e2⟩ | ⟨n, hn, e1, e2, e3⟩
    · rw [e1, e2, z_p, if_neg z_10, if_neg (by decide), z_found, z_find]
      exact ⟨_, _, _, rfl, rfl, Or.inr (Or.inl ⟨1, rfl, rfl⟩)⟩
    · rw [e3, z_p, if_pos rfl, e2, if_pos (nI_pos' (by omega))]
      unfold fX5_takeAway
      rw [z_gi hr (by decide), z_gi hr (by decide), z_cl (by omega), e1, z_w, z_w, z_b, z_fno, z_well]
      exact ⟨_, _, _, rfl, rfl, Or.inr (Or.inr ⟨r, hr, 0, rfl, rfl⟩)⟩
end
section
/-! ===== pure: the relation ===== -/
def z_tape (σ τ : x_S) : Prop := ∃ n, n ≤ 120 ∧ σ 13 1 = nI n ∧ τ 0 8 = nI n ∧ ∀ i, i < n → σ 14 i = τ 6 i
def z_tr (σ τ : x_S) : Prop := ∃ n, n ≤ 16 ∧ σ 30 1 = nI n ∧ τ 0 12 = nI n ∧ ∀ i, i < n → σ 31 i = τ 7 i
/-- the image k -/
def z_im (σ τ : x_S) (k : Nat) : Prop := ∃ v : z_V, z_ok v ∧ z_S σ (48 + 8 * k) v ∧ z_M τ (1225 + 49 * k) v ∧ ((σ (48 + 8 * k) 0 = 1 ∧ τ 2 k = 1 ∧ τ 0 1 = 1) ∨ (σ (48 + 8 * k) 0 = 0 ∧ τ 2 k = 0))
def z_ims (σ τ : x_S) : Prop := ∀ k, k < 2 → z_im σ τ k
/-- v before the act: 0 a gesture w made for x, 1 street w's dim was x, 2 gesture w trained by x, 3 known in w turned -/
def z_undo (d w x : Nat) (v : z_V) : z_V := fun k =>
  if d = 0 then (if k = 43 + w then v k - 1 else if k = 3 then v k - x else v k)
  else if d = 1 then (if k = 5 + w then x else v k)
  else if d = 2 then (if k = 25 + w then v k + x else v k)
  else (if k = 4 then v k ^^^ (1 <<< w) else v k)
/-- an act that can be undone from v -/
def z_actok (d w x : Nat) (v : z_V) : Prop := (d = 0 ∧ w < v 2 ∧ 1 ≤ v (43 + w) ∧ x ≤ v 3) ∨ (d = 1 ∧ w < v 1 ∧ x ≤ 30) ∨ (d = 2 ∧ w < v 2 ∧ 1 ≤ x ∧ v (25 + w) + x ≤ 30) ∨ (d = 3 ∧ w < v 1 ∧ x = 0)
/-- the acts in the ring (n kept, the next slot p), the towns that they lead back to -/
def z_past (σ τ : x_S) (n p : Nat) (V : Nat → z_V) : Prop := ∀ i, i < n → ∃ d w x, σ 17 ((p + 23 - i) % 24) = nI d ∧ σ 18 ((p + 23 - i) % 24) = nI w ∧ σ 19 ((p + 23 - i) % 24) = nI x ∧ z_actok d w x (V i) ∧ V (i + 1) = z_undo d w x (V i) ∧ z_M τ (49 + 49 * (n - 1 - i)) (V (i + 1))
def z_town (σ τ : x_S) : Prop := ∃ (v : z_V) (n p : Nat) (V : Nat → z_V), z_T σ τ v ∧ ((σ 32 0 = 1 ∧ τ 0 1 = 1) ∨ (σ 32 0 = 0 ∧ τ 0 1 = 0 ∧ v 1 = 0 ∧ v 2 = 0)) ∧ n ≤ 24 ∧ p < 24 ∧ σ 16 4 = nI n ∧ τ 0 2 = nI n ∧ σ 16 3 = nI p ∧ V 0 = v ∧ z_past σ τ n p V
def z_Rel (σ τ : x_S) : Prop := z_st σ τ ∧ z_rows σ τ ∧ z_tape σ τ ∧ σ 13 2 = τ 0 9 ∧ z_town σ τ ∧ z_ims σ τ ∧ z_tr σ τ
-- what each part rests on
theorem z_rows_c {σ τ σ' τ' : x_S} (h : z_rows σ τ) (h1 : ∀ k, 3 ≤ k → k < 13 → σ' k = σ k) (h3 : τ' 3 = τ 3) (h4 : τ' 4 = τ 4) (h5 : τ' 5 = τ 5) : z_rows σ' τ' := by
  intro r hr
  obtain ⟨⟨ln, l1, l2, l3⟩, hl, hi⟩ := h r hr
  refine ⟨⟨ln, l1, by rw [h1 12 (by omega) (by omega)]; exact l2, by rw [h3]; exact l3⟩, ?_, fun i hi2 => ?_⟩
  · rw [h1 11 (by omega) (by omega), h4]; exact hl
  · rw [h1 (3 + r) (by omega) (by omega), h5]; exact hi i hi2
theorem z_tape_c {σ τ σ' τ' : x_S} (h : z_tape σ τ) (h1 : σ' 13 1 = σ 13 1) (h2 : σ' 14 = σ 14) (h3 : τ' 0 8 = τ 0 8) (h4 : τ' 6 = τ 6) : z_tape σ' τ' := by
  obtain ⟨n, a, b, c, d⟩ := h
  exact ⟨n, a, by rw [h1]; exact b, by rw [h3]; exact c, fun i hi => by rw [h2, h4]; exact d i hi⟩
theorem z_tr_c {σ τ σ' τ' : x_S} (h : z_tr σ τ) (h1 : σ' 30 1 = σ 30 1) (h2 : σ' 31 = σ 31) (h3 : τ' 0 12 = τ 0 12) (h4 : τ' 7 = τ 7) : z_tr σ' τ' := by
  obtain ⟨n, a, b, c, d⟩ := h
  exact ⟨n, a, by rw [h1]; exact b, by rw [h3]; exact c, fun i hi => by rw [h2, h4]; exact d i hi⟩
theorem z_S_c {σ σ' : x_S} {c : Nat} {v : z_V} (h : z_S σ c v) (h1 : ∀ k, c ≤ k → k < c + 8 → σ' k = σ k) : z_S σ' c v := by
  obtain ⟨a0, a1, a2, a3, a4, as, ag⟩ := h
  have e0 := h1 c (by omega) (by omega)
  refine ⟨by rw [e0]; exact a0, by rw [e0]; exact a1, by rw [e0]; exact a2, by rw [e0]; exact a3, by rw [e0]; exact a4, fun s hs => ?_, fun g hg => ?_⟩
  · rw [h1 (c + 1) (by omega) (by omega), h1 (c + 2) (by omega) (by omega)]; exact as s hs
  · rw [h1 (c + 3) (by omega) (by omega), h1 (c + 4) (by omega) (by omega), h1 (c + 5) (by omega) (by omega), h1 (c + 6) (by omega) (by omega), h1 (c + 7) (by omega) (by omega)]; exact ag g hg
/-- a town is 49 places -/
theorem z_M_c {τ τ' : x_S} {b b' : Nat} {v : z_V} (h : z_M τ b v) (hv : v 1 ≤ 7 ∧ v 2 ≤ 6) (h1 : ∀ k, k < 49 → τ' 1 (b' + k) = τ 1 (b + k)) : z_M τ' b' v := by
  obtain ⟨a0, a1, a2, a3, a4, as, ag⟩ := h
  have e0 : τ' 1 b' = τ 1 b := h1 0 (by omega)
  refine ⟨by rw [e0]; exact a0, by rw [h1 1 (by omega)]; exact a1, by rw [h1 2 (by omega)]; exact a2, by rw [h1 3 (by omega)]; exact a3, by rw [h1 4 (by omega)]; exact a4, fun s hs => ?_, fun g hg => ?_⟩
  · rw [h1 (5 + s) (by omega), h1 (12 + s) (by omega)]; exact as s hs
  · rw [h1 (19 + g) (by omega), h1 (25 + g) (by omega), h1 (31 + g) (by omega), h1 (37 + g) (by omega), h1 (43 + g) (by omega)]; exact ag g hg
theorem z_ims_c {σ τ σ' τ' : x_S} (h : z_ims σ τ) (h1 : ∀ k, 48 ≤ k → k < 64 → σ' k = σ k) (h2 : ∀ k, k < 98 → τ' 1 (1225 + k) = τ 1 (1225 + k)) (h3 : τ' 2 = τ 2) (h4 : τ 0 1 = 1 → τ' 0 1 = 1) : z_ims σ' τ' := by
  intro k hk
  obtain ⟨v, hv, hS, hM, hk2⟩ := h k hk
  refine ⟨v, hv, z_S_c hS (fun j g1 g2 => h1 j (by omega) (by omega)), z_M_c hM ⟨hv.2.1, hv.2.2.1⟩ (fun j hj => ?_), ?_⟩
  · have := h2 (49 * k + j) (by omega)
    rw [Nat.add_assoc]
    exact this
  · rw [h1 (48 + 8 * k) (by omega) (by omega), h3]
    rcases hk2 with ⟨g1, g2, g3⟩ | g
    · exact Or.inl ⟨g1, g2, h4 g3⟩
    · exact Or.inr g
theorem z_undo_sg {d w x : Nat} {v : z_V} (h : z_actok d w x v) : (z_undo d w x v) 1 = v 1 ∧ (z_undo d w x v) 2 = v 2 := by
  unfold z_undo
  rcases h with ⟨rfl, -⟩ | ⟨rfl, hw, -⟩ | ⟨rfl, hw, -⟩ | ⟨rfl, -⟩ <;> simp <;> omega
theorem z_past_sg {σ τ : x_S} {n p : Nat} {V : Nat → z_V} (h : z_past σ τ n p V) : ∀ i, i ≤ n → V i 1 = V 0 1 ∧ V i 2 = V 0 2 := by
  intro i
  induction i with
  | zero => intro _; exact ⟨rfl, rfl⟩
  | succ i ih =>
    intro hi
    obtain ⟨d, w, x, -, -, -, ha, e, -⟩ := h i (by omega)
    rw [e]
    obtain ⟨h1, h2⟩ := z_undo_sg ha
    obtain ⟨g1, g2⟩ := ih (by omega)
    exact ⟨h1.trans g1, h2.trans g2⟩
theorem z_past_c {σ τ σ' τ' : x_S} {n p : Nat} {V : Nat → z_V} (h : z_past σ τ n p V) (hn : n ≤ 24) (hv : V 0 1 ≤ 7 ∧ V 0 2 ≤ 6) (h1 : σ' 17 = σ 17) (h2 : σ' 18 = σ 18) (h3 : σ' 19 = σ 19) (h4 : ∀ k, k < 49 * n → τ' 1 (49 + k) = τ 1 (49 + k)) : z_past σ' τ' n p V := by
  intro i hi
  obtain ⟨d, w, x, a, b, c, e, f, g⟩ := h i hi
  have hsg := z_past_sg h (i + 1) (by omega)
  refine ⟨d, w, x, by rw [h1]; exact a, by rw [h2]; exact b, by rw [h3]; exact c, e, f, z_M_c g (by omega) (fun k hk => ?_)⟩
  have hb : 49 * (n - 1 - i) + 49 ≤ 49 * n := by
    have : n - 1 - i + 1 ≤ n := by omega
    have := Nat.mul_le_mul (Nat.le_refl 49) this
    omega
  have := h4 (49 * (n - 1 - i) + k) (by omega)
  rw [Nat.add_assoc]
  exact this
theorem z_town_c {σ τ σ' τ' : x_S} (h : z_town σ τ) (h1 : ∀ k, 32 ≤ k → k < 40 → σ' k = σ k) (h2 : ∀ k, 16 ≤ k → k < 20 → σ' k = σ k) (h3 : ∀ k, k < 1225 → τ' 1 k = τ 1 k) (h4 : τ' 0 1 = τ 0 1) (h5 : τ' 0 2 = τ 0 2) : z_town σ' τ' := by
  obtain ⟨v, n, p, V, ⟨hv, hS, hM⟩, hst, hn, hp, k1, k2, k3, hV, hpast⟩ := h
  refine ⟨v, n, p, V, ⟨hv, z_S_c hS (fun k g1 g2 => h1 k g1 (by omega)), z_M_c hM ⟨hv.2.1, hv.2.2.1⟩ (fun k hk => by rw [Nat.zero_add]; exact h3 k (by omega))⟩, ?_, hn, hp, ?_, ?_, ?_, hV, z_past_c hpast hn (by rw [hV]; exact ⟨hv.2.1, hv.2.2.1⟩) (h2 17 (by omega) (by omega)) (h2 18 (by omega) (by omega)) (h2 19 (by omega) (by omega)) (fun k hk => h3 _ (by omega))⟩
  · rw [h1 32 (by omega) (by omega), h4]; exact hst
  · rw [h2 16 (by omega) (by omega)]; exact k1
  · rw [h5]; exact k2
  · rw [h2 16 (by omega) (by omega)]; exact k3
/-- rows and the status alone have changed -/
theorem z_Rel_rows {σ τ σ' τ' : x_S} (h : z_Rel σ τ) (hst : z_st σ' τ') (hr : z_rows σ' τ') (h1 : ∀ k, 13 ≤ k → σ' k = σ k) (h2 : ∀ k, (k = 1 ∨ k = 2 ∨ 6 ≤ k) → τ' k = τ k) (h3 : ∀ j, j ≠ 10 → τ' 0 j = τ 0 j) : z_Rel σ' τ' := by
  obtain ⟨-, -, ht, hf, hto, him, htr⟩ := h
  refine ⟨hst, hr, z_tape_c ht (by rw [h1 13 (by omega)]) (h1 14 (by omega)) (h3 8 (by omega)) (h2 6 (by omega)), ?_, z_town_c hto (fun k g _ => h1 k (by omega)) (fun k g _ => h1 k (by omega)) (fun k _ => by rw [h2 1 (by omega)]) (h3 1 (by omega)) (h3 2 (by omega)), z_ims_c him (fun k g _ => h1 k (by omega)) (fun k _ => by rw [h2 1 (by omega)]) (h2 2 (by omega)) (fun z => (h3 1 (by omega)).trans z), z_tr_c htr (by rw [h1 30 (by omega)]) (h1 31 (by omega)) (h3 12 (by omega)) (h2 7 (by omega))⟩
  rw [h1 13 (by omega), h3 9 (by omega)]; exact hf
theorem z_Rel_st {σ τ : x_S} (h : z_Rel σ τ) (k : Int32) : z_Rel (x_u σ 0 8 k) (x_u τ 0 10 k) := by
  refine z_Rel_rows h (by show x_u σ 0 8 k 0 8 = x_u τ 0 10 k 0 10; rw [z_us, z_us]) (z_rows_c h.2.1 (fun k h1 h2 => z_uk (by omega)) (z_uk (by decide)) (z_uk (by decide)) (z_uk (by decide))) (fun k hk => z_uk (by omega)) (fun k hk => z_uk (by omega)) (fun j hj => z_ui hj)
end
section
/-! ===== pure: row, set, drop ===== -/
theorem z_loopS {α β : Type} {z : Int32 → α → Option β} {b : (Int32 → α → Option β) → Int32 → α → Option β} {N : Nat} {f : Nat → α → α} {r : α → Option β} (hs : ∀ K a i, i < N → b K (nI i) a = K (nI (i + 1)) (f i a)) (he : ∀ K a, b K (nI N) a = r a) :
    ∀ d n i a, i + d = N → d < n → x_fx z b n (nI i) a = r (z_fold f i d a) := by
  intro d
  induction d with
  | zero =>
    intro n i a hi hn
    cases n with
    | zero => exact absurd hn (by omega)
    | succ n =>
      show b (x_fx z b n) (nI i) a = _
      rw [show i = N by omega, he]
      rfl
  | succ d ih =>
    intro n i a hi hn
    cases n with
    | zero => exact absurd hn (by omega)
    | succ n =>
      show b (x_fx z b n) (nI i) a = _
      rw [hs _ _ _ (by omega), ih n (i + 1) _ (by omega) (by omega)]
      rfl
/-- places b + i of row k are set to v -/
theorem z_fold_0 (k b : Nat) (v : Int32) : ∀ (d i : Nat) (σ : x_S), (∀ c, c ≠ k → z_fold (fun i σ => x_u σ k (b + i) v) i d σ c = σ c) ∧ (∀ j, (j < b + i ∨ b + (i + d) ≤ j) → z_fold (fun i σ => x_u σ k (b + i) v) i d σ k j = σ k j) ∧ ∀ t, i ≤ t → t < i + d → z_fold (fun i σ => x_u σ k (b + i) v) i d σ k (b + t) = v := by
  intro d
  induction d with
  | zero => intro i σ; exact ⟨fun _ _ => rfl, fun _ _ => rfl, fun t h1 h2 => absurd h2 (by omega)⟩
  | succ d ih =>
    intro i σ
    obtain ⟨h1, h2, h3⟩ := ih (i + 1) (x_u σ k (b + i) v)
    refine ⟨fun c hc => (h1 c hc).trans (z_uk hc), fun j hj => (h2 j (by omega)).trans (z_ui (by omega)), fun t ht1 ht2 => ?_⟩
    by_cases e : t = i
    · subst e
      exact (h2 (b + t) (by omega)).trans (z_us _ _ _ _)
    · exact h3 t (by omega) (by omega)
/-- places a + i of row k are copied to b + i, upwards -/
theorem z_fold_cp (k a b N : Nat) (hab : b ≤ a ∨ a + N ≤ b) : ∀ (d i : Nat) (σ : x_S), i + d = N → (∀ c, c ≠ k → z_fold (fun i σ => x_u σ k (b + i) (σ k (a + i))) i d σ c = σ c) ∧ (∀ j, (j < b + i ∨ b + N ≤ j) → z_fold (fun i σ => x_u σ k (b + i) (σ k (a + i))) i d σ k j = σ k j) ∧ ∀ t, i ≤ t → t < N → z_fold (fun i σ => x_u σ k (b + i) (σ k (a + i))) i d σ k (b + t) = σ k (a + t) := by
  intro d
  induction d with
  | zero => intro i σ hi; exact ⟨fun _ _ => rfl, fun _ _ => rfl, fun t h1 h2 => absurd h2 (by omega)⟩
  | succ d ih =>
    intro i σ hi
    obtain ⟨h1, h2, h3⟩ := ih (i + 1) (x_u σ k (b + i) (σ k (a + i))) (by omega)
    refine ⟨fun c hc => (h1 c hc).trans (z_uk hc), fun j hj => (h2 j (by omega)).trans (z_ui (by omega)), fun t ht1 ht2 => ?_⟩
    by_cases e : t = i
    · subst e
      exact (h2 (b + t) (by omega)).trans (z_us _ _ _ _)
    · exact (h3 t (by omega) ht2).trans (z_ui (by omega))
theorem z_lay {σ : x_S} {r : Nat} (hr : r < 8) (a2 a3 : Int32) : ∃ σ', fX5_lay (nI r) a2 a3 σ = some σ' ∧ (∀ k, k ≠ 11 → k ≠ 12 → k ≠ 3 + r → σ' k = σ k) ∧ (∀ j, j ≠ r → σ' 11 j = σ 11 j ∧ σ' 12 j = σ 12 j) ∧ σ' 11 r = a3 ∧ σ' 12 r = a2 ∧ ∀ i, i < 40 → σ' (3 + r) i = 0 := by
  obtain ⟨h1, h2, h3⟩ := z_fold_0 (3 + r) 0 0 40 0 (x_u (x_u σ 11 r a3) 12 r a2)
  refine ⟨_, ?_, fun k k1 k2 k3 => (h1 k k3).trans ((z_uk k2).trans (z_uk k1)), fun j hj => ⟨?_, ?_⟩, ?_, ?_, fun i hi => ?_⟩
  · unfold fX5_lay bX5_lay_17
    rw [z_gi hr (by decide), z_w, z_gi hr (by decide), z_w, z_cl (by omega)]
    refine (z_loopS (N := 40) (r := fun a => some a) (f := fun i σ => x_u σ (3 + r) (0 + i) 0) (fun K a i hi => ?_) (fun K a => ?_) 40 x_F 0 _ (by omega) (z_fuel (by omega)))
    · show gX5_lay_17 (nI r) K (nI i) a = _
      unfold gX5_lay_17
      rw [if_neg (fun z => by have := (z_geL (a := i) (y := (40 : Int32)) 40 rfl (by omega) (by decide)).mp z; omega), z_gi hr (by decide), z_gi (n := 40) hi (by decide), z_w, z_cl (by omega), z_cl (by omega), nI_1, Nat.zero_add]
    · show gX5_lay_17 (nI r) K (nI 40) a = _
      unfold gX5_lay_17
      rw [if_pos (by decide)]
  · rw [h1 11 (by omega), z_uk (by decide), z_ui hj]
  · rw [h1 12 (by omega), z_ui hj, z_uk (by decide)]
  · rw [h1 11 (by omega), z_uk (by decide), z_us]
  · rw [h1 12 (by omega), z_us]
  · have := h3 i (by omega) (by omega)
    rwa [Nat.zero_add] at this
theorem z_Mlay {τ : x_S} {r : Nat} (hr : r < 8) (a3 : Int32) : ∃ τ', bX8_row_55 (nI r) a3 0 τ = some (a3, τ') ∧ (∀ k, k ≠ 0 → k ≠ 5 → τ' k = τ k) ∧ (∀ j, j ≠ 10 → τ' 0 j = τ 0 j) ∧ τ' 0 10 = 0 ∧ (∀ j, (j < 40 * r ∨ 40 * r + 40 ≤ j) → τ' 5 j = τ 5 j) ∧ ∀ i, i < 40 → τ' 5 (40 * r + i) = 0 := by
  obtain ⟨h1, h2, h3⟩ := z_fold_0 5 (40 * r) 0 40 0 τ
  refine ⟨x_u (z_fold (fun i σ => x_u σ 5 (40 * r + i) 0) 0 40 τ) 0 10 0, ?_, fun k k1 k2 => (z_uk k1).trans (h1 k k2), fun j hj => (z_ui hj).trans (congrFun (h1 0 (by decide)) j), z_us _ _ _ _, fun j hj => ?_, fun i hi => ?_⟩
  · unfold bX8_row_55
    refine (z_loopS (N := 40) (r := fun a => some (a3, x_u a 0 10 0)) (f := fun i σ => x_u σ 5 (40 * r + i) 0) (fun K a i hi => ?_) (fun K a => ?_) 40 x_F 0 _ (by omega) (z_fuel (by omega)))
    · show gX8_row_55 (nI r) a3 K (nI i) a = _
      unfold gX8_row_55
      rw [if_neg (fun z => by have := (z_geL (a := i) (y := (40 : Int32)) 40 rfl (by omega) (by decide)).mp z; omega), show (40 : Int32) * nI r + nI i = nI (40 * r + i) by rw [show (40 : Int32) = nI 40 from rfl, pk_mul, nI_add], z_gi (n := 320) (by omega) (by decide), z_w, z_cl (by omega), nI_1]
    · show gX8_row_55 (nI r) a3 K (nI 40) a = _
      unfold gX8_row_55
      rw [if_pos (by decide), z_well, z_b]
  · rw [z_uk (by decide)]
    exact h2 j (by omega)
  · rw [z_uk (by decide)]
    exact h3 i (by omega) (by omega)
theorem z_W3 {x : Int32} {n : Nat} (hn : n < 2 ^ 31) (h : ¬ z_W x 0 (nI n) = 0) : ∃ j, j ≤ n ∧ x = nI j := by
  rcases z_W_ix x n hn with q | ⟨j, hj, e, -⟩
  · exact absurd q h
  · exact ⟨j, hj, e⟩
/-- row -/
theorem o_row {σ τ : x_S} (h : z_Rel σ τ) (a1 a2 a3 : Int32) : z_op (fX7_row a1 a2 a3 σ) (fX8_row a1 a2 a3 τ) z_Rel := by
  unfold z_op fX7_row fX8_row
  rcases z_isRow a1 σ τ with ⟨h1, h2⟩ | ⟨r, hr, rfl, h1, h2⟩
  · rw [h1, h2, z_p, z_p, if_pos rfl, if_pos rfl]
    exact ⟨_, _, _, rfl, rfl, h⟩
  · rw [h1, h2, z_p, z_p, if_neg z_10, if_neg z_10, z_isWithin, show (0 : Int64) = (0 : Int32).toInt64 from rfl, show (2 : Int64) = (2 : Int32).toInt64 from rfl, z_in64, z_p, z_p]
    by_cases q : z_W a2 0 2 = 0
    · rw [if_pos q, if_pos q]
      exact ⟨_, _, _, rfl, rfl, h⟩
    · rw [if_neg q, if_neg q]
      obtain ⟨ln, hln, rfl⟩ := z_W3 (n := 2) (by decide) q
      by_cases q3 : a3 ≤ 40
      · rw [if_pos q3, if_pos q3]
        by_cases q4 : 0 ≤ a3
        · rw [if_pos q4, if_pos q4]
          obtain ⟨n, hn, rfl⟩ := nI_of (Int32.not_lt.mpr q4)
          have hn40 : n ≤ 40 := (nI_leI hn (by decide)).mp q3
          obtain ⟨σ', e1, g1, g2, g3, g4, g5⟩ := z_lay (σ := σ) hr (nI ln) (nI n)
          rw [e1, z_v, z_fno, z_b, z_gi hr (by decide), z_w, z_gi hr (by decide), z_w, z_cl (by omega)]
          obtain ⟨τ', e2, m1, m2, m3, m4, m5⟩ := z_Mlay (τ := x_u (x_u τ 3 r (nI ln)) 4 r (nI n)) hr (nI n)
          rw [e2]
          refine ⟨_, _, _, rfl, rfl, z_Rel_rows h (by show x_u σ' 0 8 0 0 8 = τ' 0 10; rw [z_us, m3]) (fun r' hr' => ?_) (fun k hk => (z_uk (by omega)).trans (g1 k (by omega) (by omega) (by omega))) (fun k hk => (m1 k (by omega) (by omega)).trans ((z_uk (by omega)).trans (z_uk (by omega)))) (fun j hj => (m2 j hj).trans ((congrFun (z_uk (by decide)) j).trans (congrFun (z_uk (by decide)) j)))⟩
          have u : ∀ k, k ≠ 0 → x_u σ' 0 8 0 k = σ' k := fun k hk => z_uk hk
          obtain ⟨⟨l9, w1, w2, w3⟩, w4, w5⟩ := h.2.1 r' hr'
          by_cases e : r' = r
          · subst e
            refine ⟨⟨ln, hln, by rw [u 12 (by decide)]; exact g4, ?_⟩, Or.inr ⟨n, hn40, by rw [u 11 (by decide)]; exact g3, ?_⟩, fun i hi => ?_⟩
            · rw [m1 3 (by decide) (by decide), z_uk (by decide), z_us]
            · rw [m1 4 (by decide) (by decide), z_us]
            · rw [u _ (by omega), g5 i hi, m5 i hi]
          · refine ⟨⟨l9, w1, ?_, ?_⟩, ?_, fun i hi => ?_⟩
            · rw [u 12 (by decide), (g2 r' e).2]; exact w2
            · rw [m1 3 (by decide) (by decide), z_uk (by decide), z_ui e]; exact w3
            · rw [u 11 (by decide), (g2 r' e).1, m1 4 (by decide) (by decide), z_ui e, z_uk (by decide)]; exact w4
            · rw [u _ (by omega), g1 (3 + r') (by omega) (by omega) (by omega), m4 (40 * r' + i) (by omega), z_uk (by decide), z_uk (by decide)]; exact w5 i hi
        · rw [if_neg q4, if_neg q4, z_found, z_find, z_b, z_b]
          exact ⟨_, _, _, rfl, rfl, z_Rel_st h 4⟩
      · rw [if_neg q3, if_neg q3]
        exact ⟨_, _, _, rfl, rfl, h⟩
/-- drop -/
theorem r_drop {σ τ : x_S} (h : z_Rel σ τ) (a1 : Int32) : z_op (fX7_drop a1 σ) (fX8_drop a1 τ) z_Rel := by
  obtain ⟨r, σ', τ', e1, e2, h3⟩ := o_drop h.2.1 a1
  refine ⟨r, σ', τ', e1, e2, ?_⟩
  rcases h3 with ⟨rfl, rfl⟩ | ⟨k, rfl, rfl⟩ | ⟨r, hr, k, rfl, rfl⟩
  · exact h
  · exact z_Rel_st h k
  · refine z_Rel_rows h (by show x_u (x_u σ 11 r (-1)) 0 8 k 0 8 = x_u (x_u τ 4 r (-1)) 0 10 k 0 10; rw [z_us, z_us]) (fun r' hr' => ?_) (fun k hk => (z_uk (by omega)).trans (z_uk (by omega))) (fun k hk => (z_uk (by omega)).trans (z_uk (by omega))) (fun j hj => (z_ui hj).trans (congrFun (z_uk (by decide)) j))
    have u1 : ∀ c, c ≠ 0 → x_u (x_u σ 11 r (-1)) 0 8 k c = x_u σ 11 r (-1) c := fun c hc => z_uk hc
    have u2 : ∀ c, c ≠ 0 → x_u (x_u τ 4 r (-1)) 0 10 k c = x_u τ 4 r (-1) c := fun c hc => z_uk hc
    have n1 : ∀ c, c ≠ 11 → x_u σ 11 r (-1) c = σ c := fun c hc => z_uk hc
    have n2 : ∀ c, c ≠ 4 → x_u τ 4 r (-1) c = τ c := fun c hc => z_uk hc
    obtain ⟨⟨l9, w1, w2, w3⟩, w4, w5⟩ := h.2.1 r' hr'
    refine ⟨⟨l9, w1, ?_, ?_⟩, ?_, fun i hi => ?_⟩
    · rw [u1 12 (by decide), n1 12 (by decide)]; exact w2
    · rw [u2 3 (by decide), n2 3 (by decide)]; exact w3
    · rw [u1 11 (by decide), u2 4 (by decide)]
      by_cases e : r' = r
      · subst e; rw [z_us, z_us]; exact Or.inl ⟨rfl, rfl⟩
      · rw [z_ui e, z_ui e]; exact w4
    · rw [u1 _ (by omega), n1 _ (by omega), u2 5 (by decide), n2 5 (by decide)]; exact w5 i hi
end
section
/-! ===== pure: set, copy, as ===== -/
theorem z_nar (v : Int32) (ln : Int32) (σ τ : x_S) : ∃ w, fX5_lowestBits v ln σ = some w ∧ fX8_narrow v ln τ = some w := by
  unfold fX5_lowestBits fX8_narrow
  by_cases h0 : ln = 0
  · rw [if_pos h0]; exact ⟨_, rfl, rfl⟩
  · rw [if_neg h0]
    by_cases h1 : ln = 1
    · rw [if_pos h1]; exact ⟨_, rfl, rfl⟩
    · rw [if_neg h1]; exact ⟨_, rfl, rfl⟩
theorem z_reach1 {i : Int32} {m : Nat} (hm : m ≤ 40) (h : z_reach i 1 m) : ∃ g, g < m ∧ i = nI g := by
  obtain ⟨a, b, e1, e2, h3⟩ := h
  have hb : (1 : Nat) = b := (nI_eq (by decide) (by omega)).mp e2
  exact ⟨a, by omega, e1⟩
theorem z_reach1' {g m : Nat} (h : g < m) : z_reach (nI g) 1 m := ⟨g, 1, rfl, rfl, by omega⟩
/-- set -/
theorem o_set {σ τ : x_S} (h : z_Rel σ τ) (a1 a2 a3 : Int32) : z_op (fX7_set a1 a2 a3 σ) (fX8_set a1 a2 a3 τ) z_Rel := by
  unfold z_op fX7_set fX8_set
  rcases z_isRow a1 σ τ with ⟨h1, h2⟩ | ⟨r, hr, rfl, h1, h2⟩
  · rw [h1, h2, z_p, z_p, if_pos rfl, if_pos rfl]
    exact ⟨_, _, _, rfl, rfl, h⟩
  · rw [h1, h2, z_p, z_p, if_neg z_10, if_neg z_10, z_gi hr (by decide), z_gi hr (by decide), z_gi hr (by decide), z_cl (by omega)]
    have hw := h.2.1 r hr
    unfold fX5_findingOf
    rcases z_isMissing hr hw with ⟨e1, e2⟩ | ⟨n, hn, e1, e2, e3⟩
    · rw [e1, e2, z_p, if_neg z_10, z_p, if_neg z_10, if_neg (by decide), z_found, z_find, z_b, z_b]
      exact ⟨_, _, _, rfl, rfl, z_Rel_st h 1⟩
    · rw [e3, z_p, if_pos rfl, e2, if_pos (nI_pos' (by omega)), show (0 : Int64) = (0 : Int32).toInt64 from rfl, z_in64, z_p]
      rcases z_W_n a2 (n := n) (by omega) with ⟨q, q2⟩ | ⟨g, hg, rfl, q⟩
      · rw [q, if_pos rfl]
        have hnr : ¬ z_reach a2 1 n := by
          intro hz
          obtain ⟨g, hg, rfl⟩ := z_reach1 hn hz
          rcases q2 with q2 | q2
          · exact nI_pos (by omega) q2
          · exact nI_ge hg (by omega) q2
        rcases z_Sreach hr hn e1 a2 1 with ⟨-, z⟩ | ⟨z, -⟩
        · exact absurd z hnr
        · rw [z, z_p, if_pos rfl, z_p, if_neg (by decide), z_found, z_find, z_b, z_b]
          exact ⟨_, _, _, rfl, rfl, z_Rel_st h 2⟩
      · rw [q, if_neg z_10]
        rcases z_Sreach hr hn e1 (nI g) 1 with ⟨z, -⟩ | ⟨-, z⟩
        · obtain ⟨⟨ln, hln, l1, l2⟩, -, -⟩ := hw
          obtain ⟨w, w1, w2⟩ := z_nar a3 (nI ln) σ τ
          rw [z, z_p, if_neg z_10, z_p, if_pos rfl, l2, w2, z_p, show (40 : Int32) * nI r + nI g = nI (40 * r + g) by rw [show (40 : Int32) = nI 40 from rfl, pk_mul, nI_add], z_gi (n := 320) (by omega) (by decide), z_w, z_gi (n := 320) (by omega) (by decide), z_cl (by omega), z_well, z_b]
          unfold fX5_put
          rw [z_gi hr (by decide), z_gi hr (by decide), show σ 12 (nI r).toNatClampNeg = nI ln by rw [z_cl (by omega)]; exact l1, w1, z_p, z_gi (n := 40) (by omega) (by decide), z_w, z_gi hr (by decide), z_gi (n := 40) (by omega) (by decide), z_cl (by omega), z_cl (by omega), z_b, z_fno, z_b, z_us, z_us]
          refine ⟨_, _, _, rfl, rfl, z_Rel_rows h (by show x_u _ 0 8 0 0 8 = x_u _ 0 10 0 0 10; rw [z_us, z_us]) (fun r' hr' => ?_) (fun k hk => (z_uk (by omega)).trans (z_uk (by omega))) (fun k hk => (z_uk (by omega)).trans (z_uk (by omega))) (fun j hj => (z_ui hj).trans (congrFun (z_uk (by decide)) j))⟩
          have u1 : ∀ c, c ≠ 0 → x_u (x_u σ (3 + r) g w) 0 8 0 c = x_u σ (3 + r) g w c := fun c hc => z_uk hc
          have u2 : ∀ c, c ≠ 0 → x_u (x_u τ 5 (40 * r + g) w) 0 10 0 c = x_u τ 5 (40 * r + g) w c := fun c hc => z_uk hc
          have n1 : ∀ c, c ≠ 3 + r → x_u σ (3 + r) g w c = σ c := fun c hc => z_uk hc
          have n2 : ∀ c, c ≠ 5 → x_u τ 5 (40 * r + g) w c = τ c := fun c hc => z_uk hc
          obtain ⟨⟨l9, x1, x2, x3⟩, x4, x5⟩ := h.2.1 r' hr'
          refine ⟨⟨l9, x1, ?_, ?_⟩, ?_, fun i hi => ?_⟩
          · rw [u1 12 (by decide), n1 12 (by omega)]; exact x2
          · rw [u2 3 (by decide), n2 3 (by decide)]; exact x3
          · rw [u1 11 (by decide), n1 11 (by omega), u2 4 (by decide), n2 4 (by decide)]; exact x4
          · rw [u1 _ (by omega), u2 5 (by decide)]
            by_cases e : r' = r
            · subst e
              by_cases e4 : i = g
              · subst e4; rw [z_us, z_us]
              · rw [z_ui e4, z_ui (by omega)]; exact x5 i hi
            · rw [n1 _ (by omega), z_ui (by omega)]; exact x5 i hi
        · exact absurd (z_reach1' hg) z
/-- places a + i of row k are copied to b + i, downwards -/
theorem z_fold_dn (k a b N : Nat) (hab : a ≤ b ∨ b + N ≤ a) : ∀ (d i : Nat) (σ : x_S), i + d = N → (∀ c, c ≠ k → z_fold (fun i σ => x_u σ k (b + (N - 1 - i)) (σ k (a + (N - 1 - i)))) i d σ c = σ c) ∧ (∀ j, (j < b ∨ b + (N - i) ≤ j) → z_fold (fun i σ => x_u σ k (b + (N - 1 - i)) (σ k (a + (N - 1 - i)))) i d σ k j = σ k j) ∧ ∀ t, t < N - i → z_fold (fun i σ => x_u σ k (b + (N - 1 - i)) (σ k (a + (N - 1 - i)))) i d σ k (b + t) = σ k (a + t) := by
  intro d
  induction d with
  | zero => intro i σ hi; exact ⟨fun _ _ => rfl, fun _ _ => rfl, fun t h1 => absurd h1 (by omega)⟩
  | succ d ih =>
    intro i σ hi
    obtain ⟨h1, h2, h3⟩ := ih (i + 1) (x_u σ k (b + (N - 1 - i)) (σ k (a + (N - 1 - i)))) (by omega)
    refine ⟨fun c hc => (h1 c hc).trans (z_uk hc), fun j hj => (h2 j (by omega)).trans (z_ui (by omega)), fun t ht => ?_⟩
    by_cases e : t = N - 1 - i
    · subst e
      exact (h2 (b + (N - 1 - i)) (by omega)).trans (z_us _ _ _ _)
    · exact (h3 t (by omega)).trans (z_ui (by omega))
/-- the reference's loop of copy -/
theorem z_Mcopy {τ : x_S} {ra rb i j n : Nat} (ha : ra < 8) (hb : rb < 8) (hi : i + n ≤ 40) (hj : j + n ≤ 40) : ∃ τ', (if nI j ≤ nI i then bX8_copy_107 (nI ra) (nI i) (nI rb) (nI j) (nI n) 0 0 τ else bX8_copy_107 (nI ra) (nI i) (nI rb) (nI j) (nI n) 1 0 τ) = some (nI n, x_u τ' 0 10 0) ∧ (∀ c, c ≠ 5 → τ' c = τ c) ∧ (∀ t, (t < 40 * rb + j ∨ 40 * rb + j + n ≤ t) → τ' 5 t = τ 5 t) ∧ ∀ t, t < n → τ' 5 (40 * rb + j + t) = τ 5 (40 * ra + i + t) := by
  have ea : ∀ (r i y : Nat), (40 : Int32) * nI r + nI i + nI y = nI (40 * r + i + y) := fun r i y => by rw [show (40 : Int32) = nI 40 from rfl, pk_mul, nI_add, nI_add]
  have body : ∀ (K : Int32 → x_S → Option (Int32 × x_S)) (x6 : Int32) (q y : Nat) (a : x_S), y < n → bX8_copy_131 K (nI ra) (nI i) (nI rb) (nI j) (nI n) x6 (nI q) (nI y) a = K (nI (q + 1)) (x_u a 5 (40 * rb + j + y) (a 5 (40 * ra + i + y))) := by
    intro K x6 q y a hy
    unfold bX8_copy_131
    rw [ea, ea, z_gi (n := 320) (by omega) (by decide), z_gi (n := 320) (by omega) (by decide), z_w, z_cl (by omega), z_cl (by omega), nI_1]
  by_cases hij : j ≤ i
  · rw [if_pos ((nI_leI (by omega) (by omega)).mpr hij)]
    obtain ⟨h1, h2, h3⟩ := z_fold_cp 5 (40 * ra + i) (40 * rb + j) n (by omega) n 0 τ (by omega)
    refine ⟨z_fold (fun q σ => x_u σ 5 (40 * rb + j + q) (σ 5 (40 * ra + i + q))) 0 n τ, ?_, h1, fun t ht => h2 t (by omega), fun t ht => h3 t (by omega) ht⟩
    unfold bX8_copy_107
    refine (z_loopS (N := n) (r := fun a => some (nI n, x_u a 0 10 0)) (f := fun q σ => x_u σ 5 (40 * rb + j + q) (σ 5 (40 * ra + i + q))) (fun K a q hq => ?_) (fun K a => ?_) n x_F 0 _ (by omega) (z_fuel (by omega)))
    · show gX8_copy_107 (nI ra) (nI i) (nI rb) (nI j) (nI n) 0 K (nI q) a = _
      unfold gX8_copy_107
      rw [if_neg (nI_ge hq (by omega)), if_pos rfl, body K 0 q q a hq]
    · show gX8_copy_107 (nI ra) (nI i) (nI rb) (nI j) (nI n) 0 K (nI n) a = _
      unfold gX8_copy_107
      rw [if_pos (Int32.le_refl _), z_well, z_b]
  · rw [if_neg (fun z => hij ((nI_leI (by omega) (by omega)).mp z))]
    obtain ⟨h1, h2, h3⟩ := z_fold_dn 5 (40 * ra + i) (40 * rb + j) n (by omega) n 0 τ (by omega)
    refine ⟨z_fold (fun q σ => x_u σ 5 (40 * rb + j + (n - 1 - q)) (σ 5 (40 * ra + i + (n - 1 - q)))) 0 n τ, ?_, h1, fun t ht => h2 t (by omega), fun t ht => h3 t (by omega)⟩
    unfold bX8_copy_107
    refine (z_loopS (N := n) (r := fun a => some (nI n, x_u a 0 10 0)) (f := fun q σ => x_u σ 5 (40 * rb + j + (n - 1 - q)) (σ 5 (40 * ra + i + (n - 1 - q)))) (fun K a q hq => ?_) (fun K a => ?_) n x_F 0 _ (by omega) (z_fuel (by omega)))
    · show gX8_copy_107 (nI ra) (nI i) (nI rb) (nI j) (nI n) 1 K (nI q) a = _
      unfold gX8_copy_107
      rw [if_neg (nI_ge hq (by omega)), if_neg z_10, show nI n - 1 - nI q = nI (n - 1 - q) by rw [show (1 : Int32) = nI 1 from rfl, pk_sub (by omega), pk_sub (by omega)], body K 1 q (n - 1 - q) a (by omega)]
    · show gX8_copy_107 (nI ra) (nI i) (nI rb) (nI j) (nI n) 1 K (nI n) a = _
      unfold gX8_copy_107
      rw [if_pos (Int32.le_refl _), z_well, z_b]
theorem z_carry {σ : x_S} {ra rb i j n : Nat} (ha : ra < 8) (hb : rb < 8) (hi : i + n ≤ 40) (hj : j + n ≤ 40) : fX5_carry (nI ra) (nI i) (nI rb) (nI j) (nI n) σ = some (x_r σ (3 + rb) (va_cpy (σ (3 + ra)) (σ (3 + rb)) i j n)) := by
  unfold fX5_carry
  have ci : (nI i).toNatClampNeg = i := z_cl (by omega)
  have cj : (nI j).toNatClampNeg = j := z_cl (by omega)
  have cn : (nI n).toNatClampNeg = n := z_cl (by omega)
  rw [z_gi ha (by decide), z_gi hb (by decide), z_g ⟨nI_pos (by omega), nI_pos (by omega), nI_pos (by omega), by rw [ci, cn]; exact hi, by rw [cj, cn]; exact hj⟩, z_w, ci, cj, cn, z_cl (by omega), z_cl (by omega)]
/-- copy -/
theorem o_copy {σ τ : x_S} (h : z_Rel σ τ) (a1 a2 a3 a4 a5 : Int32) : z_op (fX7_copy a1 a2 a3 a4 a5 σ) (fX8_copy a1 a2 a3 a4 a5 τ) z_Rel := by
  unfold z_op fX7_copy fX8_copy
  rcases z_isRow a1 σ τ with ⟨h1, h2⟩ | ⟨ra, hra, rfl, h1, h2⟩
  · rw [h1, h2, z_p, z_p, if_pos rfl, if_pos rfl]
    exact ⟨_, _, _, rfl, rfl, h⟩
  · rw [h1, h2, z_p, z_p, if_neg z_10, if_neg z_10]
    rcases z_isRow a3 σ τ with ⟨h3, h4⟩ | ⟨rb, hrb, rfl, h3, h4⟩
    · rw [h3, h4, z_p, z_p, if_pos rfl, if_pos rfl]
      exact ⟨_, _, _, rfl, rfl, h⟩
    · have wa := h.2.1 ra hra
      have wb := h.2.1 rb hrb
      have s39 : bX7_copy_39 σ = some (-1000010 - 1, x_u σ 0 8 1) := rfl
      have s92 : bX7_copy_92 σ = some (-1000010 - 2, x_u σ 0 8 2) := rfl
      have m35 : bX8_copy_35 τ = some (-1000010 - 1, x_u τ 0 10 1) := rfl
      have m85 : bX8_copy_85 τ = some (-1000010 - 2, x_u τ 0 10 2) := rfl
      rw [h3, h4, z_p, z_p, if_neg z_10, if_neg z_10, z_gi hra (by decide), z_gi hrb (by decide), z_gi hra (by decide), z_gi hrb (by decide), z_cl (show ra < 65536 by omega), z_cl (show rb < 65536 by omega)]
      rcases z_isMissing hra wa with ⟨e1, e2⟩ | ⟨na, hna, e1, e2, e3⟩
      · rw [e1, e2, z_p, if_neg z_10, if_pos (by decide), s39, m35]
        exact ⟨_, _, _, rfl, rfl, z_Rel_st h 1⟩
      · rw [e3, e2, z_p, if_pos rfl, if_neg (nI_pos (by omega))]
        rcases z_isMissing hrb wb with ⟨f1, f2⟩ | ⟨nb, hnb, f1, f2, f3⟩
        · rw [f1, f2, z_p, if_neg z_10, if_neg (by decide), s39, m35]
          exact ⟨_, _, _, rfl, rfl, z_Rel_st h 1⟩
        · rw [f3, f2, z_p, if_pos rfl, if_pos (nI_pos' (by omega))]
          obtain ⟨⟨la, hla, la1, la2⟩, -, ia⟩ := wa
          obtain ⟨⟨lb, hlb, lb1, lb2⟩, -, ib⟩ := wb
          unfold fX5_areAlike
          rw [z_gi hra (by decide), z_gi hrb (by decide), z_cl (show ra < 65536 by omega), z_cl (show rb < 65536 by omega), la1, lb1, la2, lb2]
          by_cases q : nI la = nI lb
          · rw [if_pos q, z_p, if_neg z_10, if_pos q]
            rcases z_Sreach hra hna e1 a2 a5 with ⟨x1, y1⟩ | ⟨x1, y1⟩
            · rcases z_Mreach hra hna e2 a2 a5 with ⟨x2, -⟩ | ⟨-, y2⟩
              · rw [x1, x2, z_p, z_p, if_neg z_10, if_neg z_10]
                rcases z_Sreach hrb hnb f1 a4 a5 with ⟨x3, y3⟩ | ⟨x3, y3⟩
                · rcases z_Mreach hrb hnb f2 a4 a5 with ⟨x4, -⟩ | ⟨-, y4⟩
                  · obtain ⟨i, n, rfl, rfl, hin⟩ := y1
                    obtain ⟨j, n', rfl, en, hjn⟩ := y3
                    have en2 : n = n' := (nI_eq (by omega) (by omega)).mp en
                    subst en2
                    obtain ⟨τ', t1, t2, t3, t4⟩ := z_Mcopy (τ := τ) hra hrb (i := i) (j := j) (n := n) (by omega) (by omega)
                    rw [x3, x4, z_p, z_p, if_neg z_10, if_neg z_10, t1, z_carry hra hrb (by omega) (by omega), z_v, z_fno, z_b]
                    refine ⟨_, _, _, rfl, rfl, z_Rel_rows h (by show x_u _ 0 8 0 0 8 = x_u _ 0 10 0 0 10; rw [z_us, z_us]) (fun r' hr' => ?_) (fun k hk => (z_uk (by omega)).trans (by rw [z_r, if_neg (by omega)])) (fun k hk => (z_uk (by omega)).trans (t2 k (by omega))) (fun j hj => (z_ui hj).trans (congrFun (t2 0 (by decide)) j))⟩
                    have u1 : ∀ c, c ≠ 0 → x_u (x_r σ (3 + rb) (va_cpy (σ (3 + ra)) (σ (3 + rb)) i j n)) 0 8 0 c = x_r σ (3 + rb) (va_cpy (σ (3 + ra)) (σ (3 + rb)) i j n) c := fun c hc => z_uk hc
                    have u2 : ∀ c, c ≠ 0 → x_u τ' 0 10 0 c = τ' c := fun c hc => z_uk hc
                    have n1 : ∀ c, c ≠ 3 + rb → x_r σ (3 + rb) (va_cpy (σ (3 + ra)) (σ (3 + rb)) i j n) c = σ c := fun c hc => by rw [z_r, if_neg hc]
                    obtain ⟨⟨l9, k1, k2, k3⟩, k4, k5⟩ := h.2.1 r' hr'
                    refine ⟨⟨l9, k1, ?_, ?_⟩, ?_, fun t ht => ?_⟩
                    · rw [u1 12 (by decide), n1 12 (by omega)]; exact k2
                    · rw [u2 3 (by decide), t2 3 (by decide)]; exact k3
                    · rw [u1 11 (by decide), n1 11 (by omega), u2 4 (by decide), t2 4 (by decide)]; exact k4
                    · rw [u1 _ (by omega), u2 5 (by decide)]
                      by_cases e : r' = rb
                      · subst e
                        rw [z_r, if_pos rfl]
                        by_cases ht2 : j ≤ t ∧ t < j + n
                        · rw [pk_cpy_in ht2.1 ht2.2]
                          have := t4 (t - j) (by omega)
                          rw [show 40 * r' + j + (t - j) = 40 * r' + t by omega] at this
                          rw [this, ia (i + (t - j)) (by omega), Nat.add_assoc]
                        · rw [pk_cpy_out (by omega), t3 _ (by omega)]
                          exact k5 t ht
                      · rw [n1 _ (by omega), t3 _ (by omega)]
                        exact k5 t ht
                  · exact absurd y3 y4
                · rcases z_Mreach hrb hnb f2 a4 a5 with ⟨-, y4⟩ | ⟨x4, -⟩
                  · exact absurd y4 y3
                  · rw [x3, x4, z_p, z_p, if_pos rfl, if_pos rfl, s92, m85]
                    exact ⟨_, _, _, rfl, rfl, z_Rel_st h 2⟩
              · exact absurd y1 y2
            · rcases z_Mreach hra hna e2 a2 a5 with ⟨-, y2⟩ | ⟨x2, -⟩
              · exact absurd y2 y1
              · rw [x1, x2, z_p, z_p, if_pos rfl, if_pos rfl, s92, m85]
                exact ⟨_, _, _, rfl, rfl, z_Rel_st h 2⟩
          · rw [if_neg q, z_p, if_pos rfl, if_neg q, z_found, z_find, z_b, z_b]
            exact ⟨_, _, _, rfl, rfl, z_Rel_st h 5⟩
end
section
/-! ===== pure: as, count, trace, feed, saved, worst, shut, quick ===== -/
theorem z_kinds : ∀ kd, kd < 6 → 1 ≤ kd → ∀ k, k < 6 → (fX3_isOneOf (nI kd) (nI k) (fun _ _ => 0) = some (if k = 0 ∨ k = kd ∨ (k = 1 ∧ (kd = 2 ∨ kd = 3)) ∨ (k = 4 ∧ kd = 5) then 1 else 0)) := by decide +kernel
/-- as -/
theorem o_as {σ τ : x_S} (h : z_Rel σ τ) (a1 a2 : Int32) : z_op (fX7_as a1 a2 σ) (fX8_as a1 a2 τ) z_Rel := by
  obtain ⟨v, n, p, V, ht, -⟩ := h.2.2.2.2.1
  unfold z_op fX7_as fX8_as
  rcases ht.ges a1 with ⟨h1, h2⟩ | ⟨g, hg, rfl, h1, h2⟩
  · rw [h1, h2, z_p, z_p, if_pos rfl, if_pos rfl]
    exact ⟨_, _, _, rfl, rfl, h⟩
  · rw [h1, h2, z_p, z_p, if_neg z_10, if_neg z_10, z_isWithin, show (0 : Int64) = (0 : Int32).toInt64 from rfl, show (5 : Int64) = (5 : Int32).toInt64 from rfl, z_in64, z_p, z_p]
    by_cases q : z_W a2 0 5 = 0
    · rw [if_pos q, if_pos q]
      exact ⟨_, _, _, rfl, rfl, h⟩
    · rw [if_neg q, if_neg q]
      obtain ⟨k, hk, rfl⟩ := z_W3 (n := 5) (by decide) q
      have h6 := ht.1.2.2.1
      obtain ⟨⟨k1, k5⟩, -⟩ := ht.1.2.2.2.2.2.2 g hg
      obtain ⟨e1, -⟩ := ht.2.1.2.2.2.2.2.2 g hg
      obtain ⟨f1, -⟩ := ht.2.2.2.2.2.2.2.2 g hg
      rw [Nat.zero_add] at f1
      have e1 : σ 35 g = nI (v (19 + g)) := e1
      have hS : fX3_isOneOf (nI (v (19 + g))) (nI k) σ = some (if k = 0 ∨ k = v (19 + g) ∨ (k = 1 ∧ (v (19 + g) = 2 ∨ v (19 + g) = 3)) ∨ (k = 4 ∧ v (19 + g) = 5) then 1 else 0) := z_kinds (v (19 + g)) (by omega) k1 k (by omega)
      have hM : fX8_isOf (nI g) (nI k) τ = some (if k = 0 ∨ k = v (19 + g) ∨ (k = 1 ∧ (v (19 + g) = 2 ∨ v (19 + g) = 3)) ∨ (k = 4 ∧ v (19 + g) = 5) then 1 else 0) := by
        unfold fX8_isOf bX8_isOf_34
        rw [show (19 : Int32) + nI g = nI (19 + g) from nI_add 19 g, z_gi (n := 1372) (by omega) (by decide), z_cl (by omega), f1]
        generalize v (19 + g) = kd at k1 k5
        have key : ∀ kd, kd < 6 → 1 ≤ kd → ∀ k, k < 6 → (if nI k = 0 then some (1 : Int32) else if nI k = nI kd then some 1 else if nI k = 1 then if nI kd = 2 then some 1 else if nI kd = 3 then some 1 else if nI k = 4 then if nI kd = 5 then some 1 else some 0 else some 0 else if nI k = 4 then if nI kd = 5 then some 1 else some 0 else some 0) = some (if k = 0 ∨ k = kd ∨ (k = 1 ∧ (kd = 2 ∨ kd = 3)) ∨ (k = 4 ∧ kd = 5) then 1 else 0) := by decide +kernel
        exact key kd (by omega) k1 k (by omega)
      rw [z_gi (n := 6) (by omega) (by decide), z_cl (by omega), e1, hS, hM, z_p, z_p]
      by_cases c : k = 0 ∨ k = v (19 + g) ∨ (k = 1 ∧ (v (19 + g) = 2 ∨ v (19 + g) = 3)) ∨ (k = 4 ∧ v (19 + g) = 5)
      · rw [if_pos c, if_neg z_10, if_neg z_10, z_fno, z_well, z_b, z_b]
        exact ⟨_, _, _, rfl, rfl, z_Rel_st h 0⟩
      · rw [if_neg c, if_pos rfl, if_pos rfl, z_found, z_find, z_b, z_b]
        exact ⟨_, _, _, rfl, rfl, z_Rel_st h 3⟩
/-- an op that changes nothing -/
def z_rd (x y : Option Int32) : Prop := ∃ r, x = some r ∧ y = some r
theorem o_status {σ τ : x_S} (h : z_Rel σ τ) : z_rd (fX7_status σ) (fX8_status τ) := ⟨_, rfl, by rw [show σ 0 8 = τ 0 10 from h.1]; rfl⟩
theorem o_fault {σ τ : x_S} (h : z_Rel σ τ) : z_rd (fX7_fault σ) (fX8_fault τ) := ⟨_, rfl, by rw [h.2.2.2.1]; rfl⟩
/-- trace -/
theorem o_trace {σ τ : x_S} (h : z_Rel σ τ) (a1 : Int32) : z_rd (fX7_trace a1 σ) (fX8_trace a1 τ) := by
  obtain ⟨n, hn, e1, e2, e3⟩ := h.2.2.2.2.2.2
  unfold z_rd fX7_trace fX1_numberLeft fX8_trace
  rw [e1, e2, show (0 : Int64) = (0 : Int32).toInt64 from rfl, z_in64, z_p]
  rcases z_W_n a1 (n := n) (by omega) with ⟨q, q2⟩ | ⟨g, hg, rfl, q⟩
  · rw [q, if_pos rfl]
    by_cases c : a1 < 0
    · rw [if_pos c]; exact ⟨_, rfl, rfl⟩
    · rw [if_neg c, if_pos (q2.resolve_left c)]; exact ⟨_, rfl, rfl⟩
  · rw [q, if_neg z_10, if_neg (nI_pos (by omega)), if_neg (nI_ge hg (by omega)), z_gi (n := 16) (by omega) (by decide), z_gi (n := 16) (by omega) (by decide), z_cl (by omega), e3 g hg]
    exact ⟨_, rfl, rfl⟩
theorem z_bc : ∀ k, k < 128 → fJ6_bitCount_0f7a4 (nI k) (fun _ _ => 0) = fX8_bits (nI k) (fun _ _ => 0) ∧ (fX8_bits (nI k) (fun _ _ => 0)).isSome = true := by decide +kernel
theorem z_many {σ τ : x_S} (h : z_rows σ τ) : ∃ r, fX5_howMany σ = some r ∧ bX8_count_50 0 0 τ = some r := by
  refine ⟨z_fold (fun i a => if σ 11 i = -1 then a + 0 else a + 1) 0 8 0, ?_, ?_⟩
  · unfold fX5_howMany bX5_howMany_4
    refine z_loop (N := 8) (r := fun a => some a) (f := fun i a => if σ 11 i = -1 then a + 0 else a + 1) (fun K a i hi => ?_) (fun K a => ?_) 8 x_F 0 0 (by omega) (z_fuel (by omega))
    · show gX5_howMany_4 K a (nI i) σ = _
      unfold gX5_howMany_4
      rw [if_neg (fun z => by have := (z_geL (a := i) (y := (8 : Int32)) 8 rfl (by omega) (by decide)).mp z; omega)]
      unfold fX5_isMissing
      rw [z_gi hi (by decide), z_cl (by omega), nI_1]
      by_cases c : σ 11 i = -1
      · rw [if_pos c, z_p, if_neg z_10]; simp only [c, if_true]
      · rw [if_neg c, z_p, if_pos rfl]; simp only [c, if_false]
    · show gX5_howMany_4 K a (nI 8) σ = _
      unfold gX5_howMany_4
      rw [if_pos (by decide)]
  · unfold bX8_count_50
    refine z_loop (N := 8) (r := fun a => some a) (f := fun i a => if σ 11 i = -1 then a + 0 else a + 1) (fun K a i hi => ?_) (fun K a => ?_) 8 x_F 0 0 (by omega) (z_fuel (by omega))
    · show gX8_count_50 K a (nI i) τ = _
      unfold gX8_count_50
      rw [if_neg (fun z => by have := (z_geL (a := i) (y := (8 : Int32)) 8 rfl (by omega) (by decide)).mp z; omega), z_gi hi (by decide), z_cl (by omega), nI_1]
      rcases (h i hi).2.1 with ⟨h1, h2⟩ | ⟨n, hn, h1, h2⟩
      · rw [h2, if_neg (by decide)]; simp only [h1, if_true]
      · rw [h2, if_pos (nI_pos' (by omega))]; simp only [h1, z_n1 (show n < 65536 by omega), if_false]
    · show gX8_count_50 K a (nI 8) τ = _
      unfold gX8_count_50
      rw [if_pos (by decide)]
/-- count -/
theorem o_count {σ τ : x_S} (h : z_Rel σ τ) (a1 : Int32) : z_rd (fX7_count a1 σ) (fX8_count a1 τ) := by
  obtain ⟨v, n, p, V, ht, -, -, -, k1, k2, -⟩ := h.2.2.2.2.1
  obtain ⟨L, hL, t1, t2, -⟩ := h.2.2.1
  obtain ⟨r0, w1, w2⟩ := z_many h.2.1
  obtain ⟨s0, s1, s2, s3, s4, -⟩ := ht.2.1
  obtain ⟨m0, m1, m2, m3, m4, -⟩ := ht.2.2
  have m1 : τ 1 1 = nI (v 1) := m1
  have m2 : τ 1 2 = nI (v 2) := m2
  have m3 : τ 1 3 = nI (v 3) := m3
  have m4 : τ 1 4 = nI (v 4) := m4
  obtain ⟨b1, b2⟩ := z_bc (v 4) ht.1.2.2.2.2.1
  have b1 : fJ6_bitCount_0f7a4 (nI (v 4)) σ = fX8_bits (nI (v 4)) τ := b1
  have b2 : (fX8_bits (nI (v 4)) τ).isSome = true := b2
  obtain ⟨rb, hb⟩ := Option.isSome_iff_exists.mp b2
  unfold z_rd fX7_count fX8_count
  rw [w1, w2, s0, s1, s2, s3, s4, z_c0, z_c1, z_c2, z_c3, z_c4, m0, m1, m2, m3, m4, b1, hb, k1, k2, t1, t2, z_p, z_p]
  by_cases c0 : a1 = 0
  · rw [if_pos c0]; exact ⟨_, rfl, rfl⟩
  · rw [if_neg c0]
    by_cases c1 : a1 = 1
    · simp only [c1, if_true]; exact ⟨_, rfl, rfl⟩
    · by_cases c2 : a1 = 2
      · rw [if_neg c1, if_pos c2]; exact ⟨_, rfl, rfl⟩
      · by_cases c3 : a1 = 3
        · rw [if_neg c1, if_neg c2, if_pos c3]; exact ⟨_, rfl, rfl⟩
        · by_cases c4 : a1 = 4
          · rw [if_neg c1, if_neg c2, if_neg c3, if_pos c4]; exact ⟨_, rfl, rfl⟩
          · by_cases c5 : a1 = 5
            · rw [if_neg c1, if_neg c2, if_neg c3, if_neg c4, if_pos c5]; exact ⟨_, rfl, rfl⟩
            · by_cases c6 : a1 = 6
              · rw [if_neg c1, if_neg c2, if_neg c3, if_neg c4, if_neg c5, if_pos c6]; exact ⟨_, rfl, rfl⟩
              · by_cases c7 : a1 = 7
                · rw [if_neg c1, if_neg c2, if_neg c3, if_neg c4, if_neg c5, if_neg c6, if_pos c7]; exact ⟨_, rfl, rfl⟩
                · rw [if_neg c1, if_neg c2, if_neg c3, if_neg c4, if_neg c5, if_neg c6, if_neg c7]; exact ⟨_, rfl, rfl⟩
/-- feed -/
theorem o_feed {σ τ : x_S} (h : z_Rel σ τ) (a1 : Int32) : z_op (fX7_feed a1 σ) (fX8_feed a1 τ) z_Rel := by
  unfold z_op fX7_feed fX8_feed
  rw [z_isWithin, show (0 : Int64) = (0 : Int32).toInt64 from rfl, show (255 : Int64) = (255 : Int32).toInt64 from rfl, z_in64, z_p, z_p]
  by_cases q : z_W a1 0 255 = 0
  · rw [if_pos q, if_pos q]
    exact ⟨_, _, _, rfl, rfl, h⟩
  · rw [if_neg q, if_neg q]
    obtain ⟨hst, hr, ⟨L, hL, t1, t2, t3⟩, hf, hto, him, htr⟩ := h
    unfold fX4_append fX4_isFull
    rw [t1, t2]
    by_cases c : L = 120
    · subst c
      rw [if_neg (by decide), z_p, if_neg z_10, if_pos (by decide)]
      exact ⟨_, _, _, rfl, rfl, hst, hr, ⟨120, hL, t1, t2, t3⟩, hf, hto, him, htr⟩
    · rw [if_pos ((z_ltL (y := (120 : Int32)) 120 rfl (by omega) (by decide)).mpr (by omega)), z_p, if_pos rfl, z_p, if_pos rfl, if_neg (fun z => c ((z_eqL (y := (120 : Int32)) 120 rfl (by omega) (by decide)).mp z)), z_gi (n := 120) (by omega) (by decide), z_gi (n := 120) (by omega) (by decide), z_w, z_w, z_w, z_w, z_cl (by omega)]
      have a13 : x_u σ 14 L a1 13 = σ 13 := z_uk (by decide)
      have b0 : x_u τ 6 L a1 0 = τ 0 := z_uk (by decide)
      rw [a13, t1, b0, t2, nI_1, z_b]
      rw [z_us, z_us]
      refine ⟨_, _, _, rfl, rfl, ?_, z_rows_c hr (fun k g1 g2 => (z_uk (by omega)).trans (z_uk (by omega))) ((z_uk (by decide)).trans (z_uk (by decide))) ((z_uk (by decide)).trans (z_uk (by decide))) ((z_uk (by decide)).trans (z_uk (by decide))), ⟨L + 1, by omega, z_us _ _ _ _, z_us _ _ _ _, fun i hi => ?_⟩, ?_, z_town_c hto (fun k g1 g2 => (z_uk (by omega)).trans (z_uk (by omega))) (fun k g1 g2 => (z_uk (by omega)).trans (z_uk (by omega))) (fun k g => congrFun ((z_uk (by decide)).trans (z_uk (by decide))) k) ((z_ui (by decide)).trans (congrFun b0 1)) ((z_ui (by decide)).trans (congrFun b0 2)), z_ims_c him (fun k g1 g2 => (z_uk (by omega)).trans (z_uk (by omega))) (fun k g => congrFun ((z_uk (by decide)).trans (z_uk (by decide))) _) ((z_uk (by decide)).trans (z_uk (by decide))) (fun z => (z_ui (by decide)).trans ((congrFun b0 1).trans z)), z_tr_c htr (congrFun ((z_uk (by decide)).trans (z_uk (by decide))) 1) ((z_uk (by decide)).trans (z_uk (by decide))) ((z_ui (by decide)).trans (congrFun b0 12)) ((z_uk (by decide)).trans (z_uk (by decide)))⟩
      · show x_u (x_u σ 14 L a1) 13 1 (nI (L + 1)) 0 8 = x_u (x_u τ 6 L a1) 0 8 (nI (L + 1)) 0 10
        rw [z_uk (by decide), z_uk (by decide), z_ui (by decide), b0]
        exact hst
      · rw [z_uk (k := 13) (by decide), z_uk (k := 0) (by decide)]
        by_cases e : i = L
        · subst e; rw [z_us, z_us]
        · rw [z_ui e, z_ui e]; exact t3 i (by omega)
      · rw [z_ui (by decide), z_ui (by decide), a13, b0]
        exact hf
end
section
/-! ===== pure: saved, worst, shut, quick ===== -/
theorem z_mean (a : Int32) (σ τ : x_S) : ∃ r, fX7_isMeaning a σ = some r ∧ fX8_isMeans a τ = some r := by
  unfold fX7_isMeaning fX8_isMeans
  rw [z_isWithin, z_p, z_g (z_Wand _ _ _), show (0 : Int64) = (0 : Int32).toInt64 from rfl, show (3 : Int64) = (3 : Int32).toInt64 from rfl, z_in64, z_p, z_g (z_Wand _ _ _)]
  exact ⟨_, rfl, rfl⟩
/-- streets a up to b -/
theorem z_T.stretch {σ τ : x_S} {v : z_V} (h : z_T σ τ v) (a b : Int32) : (fX7_isStretch a b σ = some 0 ∧ fX8_areStreets a b τ = some 0) ∨ ∃ i j, i ≤ j ∧ j < v 1 ∧ a = nI i ∧ b = nI j ∧ fX7_isStretch a b σ = some 1 ∧ fX8_areStreets a b τ = some 1 := by
  have h7 := h.1.2.1
  unfold fX7_isStretch fX8_areStreets
  rcases h.str a with ⟨h1, h2⟩ | ⟨i, hi, rfl, h1, h2⟩
  · exact Or.inl ⟨by rw [h1, z_p, if_pos rfl], by rw [h2, z_p, if_pos rfl]⟩
  · rcases h.str b with ⟨h3, h4⟩ | ⟨j, hj, rfl, h3, h4⟩
    · exact Or.inl ⟨by rw [h1, h3, z_p, z_p, if_neg z_10, if_pos rfl], by rw [h2, h4, z_p, z_p, if_neg z_10, if_pos rfl]⟩
    · by_cases q : j < i
      · exact Or.inl ⟨by rw [h1, h3, z_p, z_p, if_neg z_10, if_neg z_10, if_pos (nI_lt q (by omega))], by rw [h2, h4, z_p, z_p, if_neg z_10, if_neg z_10, if_pos (nI_lt q (by omega))]⟩
      · exact Or.inr ⟨i, j, by omega, hj, rfl, rfl, by rw [h1, h3, z_p, z_p, if_neg z_10, if_neg z_10, if_neg (nI_nlt (by omega) (by omega))], by rw [h2, h4, z_p, z_p, if_neg z_10, if_neg z_10, if_neg (nI_nlt (by omega) (by omega))]⟩
/-- a gesture by which such a thing can be told in a street -/
def z_tl (v : z_V) (m : Int32) (g s : Nat) : Bool := decide (nI (v (31 + g)) = m) && z_seen v g s
theorem z_Stl {σ : x_S} {c : Nat} {v : z_V} (hS : z_S σ c v) (hv : z_ok v) (m : Int32) {g s : Nat} (hg : g < v 2) (hs : s < v 1) : fX2_tells c (nI g) m (nI s) σ = some (z_B (z_tl v m g s)) := by
  have h6 := hv.2.2.1
  obtain ⟨-, -, e3, -⟩ := hS.2.2.2.2.2.2 g hg
  unfold fX2_tells z_tl
  rw [z_gi (n := 6) (by omega) (by decide), z_cl (by omega), e3]
  by_cases q : nI (v (31 + g)) = m
  · rw [if_pos q, z_Sseen hS hv hg hs, z_p]
    cases hz : z_seen v g s <;> simp [z_B, q]
  · rw [if_neg q]
    simp [z_B, q]
theorem z_Mtl {τ : x_S} {v : z_V} (hM : z_M τ 0 v) (hv : z_ok v) (m : Int32) {g s : Nat} (hg : g < v 2) (hs : s < v 1) : fX8_tells (nI g) m (nI s) τ = some (z_B (z_tl v m g s)) := by
  have h6 := hv.2.2.1
  obtain ⟨-, -, e3, -⟩ := hM.2.2.2.2.2.2 g hg
  rw [Nat.zero_add] at e3
  unfold fX8_tells z_tl
  rw [show (31 : Int32) + nI g = nI (31 + g) from nI_add 31 g, z_gi (n := 1372) (by omega) (by decide), z_cl (by omega), e3]
  by_cases q : nI (v (31 + g)) = m
  · rw [if_pos q, z_Mseen hM hv hg hs, z_p]
    cases hz : z_seen v g s <;> simp [z_B, q]
  · rw [if_neg q]
    simp [z_B, q]
def z_lt (v : z_V) (m : Int32) (s : Nat) (g : Nat) (a : Int32) : Int32 := if z_tl v m g s = true then (if a = -1000000 then nI (v (37 + g)) else if a ≤ nI (v (37 + g)) then a else nI (v (37 + g))) else a
def z_least (v : z_V) (m : Int32) (s : Nat) : Int32 := z_fold (z_lt v m s) 0 (v 2) (-1000000)
theorem z_Sleast {σ : x_S} {v : z_V} (hS : z_S σ 32 v) (hv : z_ok v) (m : Int32) {s : Nat} (hs : s < v 1) : fX2_leastTime 32 m (nI s) σ = some (z_least v m s) := by
  have h6 := hv.2.2.1
  unfold fX2_leastTime bX2_leastTime_6
  refine z_loop (N := v 2) (r := fun a => some a) (f := z_lt v m s) (fun K a i hi => ?_) (fun K a => ?_) (v 2) x_F 0 _ (by omega) (z_fuel (by omega))
  · obtain ⟨-, -, -, e4, -⟩ := hS.2.2.2.2.2.2 i hi
    have e4 : σ 38 i = nI (v (37 + i)) := e4
    show gX2_leastTime_6 32 m (nI s) K a (nI i) σ = _
    unfold gX2_leastTime_6 z_lt bX2_leastTime_43
    rw [hS.2.2.1, if_neg (nI_ge hi (by omega)), z_Stl hS hv m hi hs, z_p, z_gi (n := 6) (by omega) (by decide), z_gi (n := 6) (by omega) (by decide), z_cl (by omega), e4, nI_1]
    by_cases q : z_tl v m i s = true
    · rw [if_neg (by rw [q]; decide), if_pos q]
      by_cases q2 : a = -1000000
      · rw [if_pos q2, if_pos q2]
      · rw [if_neg q2, if_neg q2]
        by_cases q3 : a ≤ nI (v (37 + i))
        · rw [if_pos q3, if_pos q3]
        · rw [if_neg q3, if_neg q3]
    · rw [if_pos (z_B0.mpr (by simpa using q)), if_neg q]
  · show gX2_leastTime_6 32 m (nI s) K a (nI (v 2)) σ = _
    unfold gX2_leastTime_6
    rw [hS.2.2.1, if_pos (Int32.le_refl _)]
theorem z_Mleast {τ : x_S} {v : z_V} (hM : z_M τ 0 v) (hv : z_ok v) (m : Int32) {s : Nat} (hs : s < v 1) : fX8_soonest m (nI s) τ = some (z_least v m s) := by
  have h6 := hv.2.2.1
  have hn : τ 1 2 = nI (v 2) := hM.2.2.1
  unfold fX8_soonest bX8_soonest_6
  refine z_loop (N := v 2) (r := fun a => some a) (f := z_lt v m s) (fun K a i hi => ?_) (fun K a => ?_) (v 2) x_F 0 _ (by omega) (z_fuel (by omega))
  · obtain ⟨-, -, -, e4, -⟩ := hM.2.2.2.2.2.2 i hi
    rw [Nat.zero_add] at e4
    show gX8_soonest_6 m (nI s) K a (nI i) τ = _
    unfold gX8_soonest_6 z_lt bX8_soonest_52 bX8_soonest_53
    rw [z_c2, hn, if_neg (nI_ge hi (by omega)), z_Mtl hM hv m hi hs, z_p, show (37 : Int32) + nI i = nI (37 + i) from nI_add 37 i, z_gi (n := 1372) (by omega) (by decide), z_gi (n := 1372) (by omega) (by decide), z_cl (by omega), e4, nI_1, if_pos rfl, if_neg z_10]
    by_cases q : z_tl v m i s = true
    · rw [if_neg (by rw [q]; decide), if_pos q]
      by_cases q2 : a = -1000000
      · rw [if_pos q2, if_pos q2]
      · rw [if_neg q2, if_neg q2]
        by_cases q3 : a ≤ nI (v (37 + i))
        · rw [if_pos q3, if_pos q3]
        · rw [if_neg q3, if_neg q3]
    · rw [if_pos (z_B0.mpr (by simpa using q)), if_neg q]
  · show gX8_soonest_6 m (nI s) K a (nI (v 2)) τ = _
    unfold gX8_soonest_6
    rw [z_c2, hn, if_pos (Int32.le_refl _)]
/-- shut -/
theorem o_shut {σ τ : x_S} {v : z_V} (h : z_T σ τ v) (hst : (σ 32 0 = 1 ∧ τ 0 1 = 1) ∨ (σ 32 0 = 0 ∧ τ 0 1 = 0 ∧ v 1 = 0 ∧ v 2 = 0)) (a1 : Int32) : z_rd (fX7_shut a1 σ) (fX8_shut a1 τ) := by
  have h7 := h.1.2.1
  unfold z_rd fX7_shut fX8_shut
  rcases hst with ⟨s1, s2⟩ | ⟨s1, s2, -⟩
  · rw [s1, s2, if_neg z_10, if_neg z_10]
    obtain ⟨r, r1, r2⟩ := z_mean a1 σ τ
    rw [r1, r2, z_p, z_p]
    by_cases q : r = 0
    · rw [if_pos q, if_pos q]; exact ⟨_, rfl, rfl⟩
    · rw [if_neg q, if_neg q]
      refine ⟨z_fold (z_bits (fun s => decide (z_least v a1 s = -1000000))) 0 (v 1) 0, ?_, ?_⟩
      · unfold fX2_streetsWithout bX2_streetsWithout_4
        refine (congrArg (fun o => x_p o (fun r6 => some r6)) (z_loop (N := v 1) (r := fun a => some a) (f := z_bits (fun s => decide (z_least v a1 s = -1000000))) (fun K a i hi => ?_) (fun K a => ?_) (v 1) x_F 0 0 (by omega) (z_fuel (by omega)))).trans rfl
        · show gX2_streetsWithout_4 32 a1 K a (nI i) σ = _
          unfold gX2_streetsWithout_4 z_bits
          rw [h.2.1.2.1, if_neg (nI_ge hi (by omega)), z_Sleast h.2.1 h.1 a1 hi, z_p, nI_1]
          by_cases c : z_least v a1 i = -1000000
          · rw [if_pos c, if_pos (by simpa using c)]
          · rw [if_neg c, if_neg (by simpa using c)]
        · show gX2_streetsWithout_4 32 a1 K a (nI (v 1)) σ = _
          unfold gX2_streetsWithout_4
          rw [h.2.1.2.1, if_pos (Int32.le_refl _)]
      · unfold bX8_shut_24
        have hn : τ 1 1 = nI (v 1) := h.2.2.2.1
        refine z_loop (N := v 1) (r := fun a => some a) (f := z_bits (fun s => decide (z_least v a1 s = -1000000))) (fun K a i hi => ?_) (fun K a => ?_) (v 1) x_F 0 0 (by omega) (z_fuel (by omega))
        · show gX8_shut_24 a1 K a (nI i) τ = _
          unfold gX8_shut_24 z_bits
          rw [z_c1, hn, if_neg (nI_ge hi (by omega)), z_Mleast h.2.2 h.1 a1 hi, z_p, nI_1]
          by_cases c : z_least v a1 i = -1000000
          · rw [if_pos c, if_pos (by simpa using c)]
          · rw [if_neg c, if_neg (by simpa using c)]
        · show gX8_shut_24 a1 K a (nI (v 1)) τ = _
          unfold gX8_shut_24
          rw [z_c1, hn, if_pos (Int32.le_refl _)]
  · rw [s1, s2, if_pos rfl, if_pos rfl]; exact ⟨_, rfl, rfl⟩
/-- quick -/
theorem o_quick {σ τ : x_S} {v : z_V} (h : z_T σ τ v) (a1 a2 a3 : Int32) : z_rd (fX7_quick a1 a2 a3 σ) (fX8_quick a1 a2 a3 τ) := by
  have h7 := h.1.2.1
  unfold z_rd fX7_quick fX8_quick
  obtain ⟨r, r1, r2⟩ := z_mean a1 σ τ
  rw [r1, r2, z_p, z_p]
  by_cases q : r = 0
  · rw [if_pos q, if_pos q]; exact ⟨_, rfl, rfl⟩
  · rw [if_neg q, if_neg q]
    rcases h.stretch a2 a3 with ⟨h1, h2⟩ | ⟨i, j, hij, hj, rfl, rfl, h1, h2⟩
    · rw [h1, h2, z_p, z_p, if_pos rfl, if_pos rfl]; exact ⟨_, rfl, rfl⟩
    · rw [h1, h2, z_p, z_p, if_neg z_10, if_neg z_10]
      unfold bX7_quick_25 bX8_quick_25
      have key : ∀ d n i a, i + d = j + 1 → d < n → ∃ r, x_fx (α := Int32 → Int32 → Option Int32) (fun _ _ => none) (fun K => fun x4 x5 => gX7_quick_25 a1 (nI j) K x4 x5 σ) n a (nI i) = some r ∧ x_fx (α := Int32 → Int32 → Option Int32) (fun _ _ => none) (fun K => fun x4 x5 => gX8_quick_25 a1 (nI j) K x4 x5 τ) n a (nI i) = some r := by
        intro d
        induction d with
        | zero =>
          intro n i a hi hn
          cases n with
          | zero => exact absurd hn (by omega)
          | succ n =>
            show ∃ r, gX7_quick_25 a1 (nI j) _ a (nI i) σ = some r ∧ gX8_quick_25 a1 (nI j) _ a (nI i) τ = some r
            unfold gX7_quick_25 gX8_quick_25
            rw [if_pos (nI_lt (by omega) (by omega)), if_pos (nI_lt (by omega) (by omega))]
            exact ⟨_, rfl, rfl⟩
        | succ d ih =>
          intro n i a hi hn
          cases n with
          | zero => exact absurd hn (by omega)
          | succ n =>
            show ∃ r, gX7_quick_25 a1 (nI j) (x_fx _ _ n) a (nI i) σ = some r ∧ gX8_quick_25 a1 (nI j) (x_fx _ _ n) a (nI i) τ = some r
            unfold gX7_quick_25 gX8_quick_25
            rw [if_neg (nI_nlt (by omega) (by omega)), if_neg (nI_nlt (by omega) (by omega)), z_Sleast h.2.1 h.1 a1 (by omega), z_Mleast h.2.2 h.1 a1 (by omega), z_p, z_p]
            by_cases c : z_least v a1 i = -1000000
            · rw [if_pos c, if_pos c]; exact ⟨_, rfl, rfl⟩
            · rw [if_neg c, if_neg c, z_p, nI_1]
              exact ih n (i + 1) _ (by omega) (by omega)
      exact key (j + 1 - i) x_F i 0 (by omega) (z_fuel (by omega))
/-- saved -/
theorem o_saved {σ τ : x_S} {v : z_V} (h : z_T σ τ v) (a1 : Int32) : z_rd (fX7_saved a1 σ) (fX8_saved a1 τ) := by
  have h7 := h.1.2.1
  have h6 := h.1.2.2.1
  unfold z_rd fX7_saved fX8_saved
  rcases h.ges a1 with ⟨h1, h2⟩ | ⟨g, hg, rfl, h1, h2⟩
  · rw [h1, h2, z_p, z_p, if_pos rfl, if_pos rfl]; exact ⟨_, rfl, rfl⟩
  · rw [h1, h2, z_p, z_p, if_neg z_10, if_neg z_10]
    obtain ⟨hk, hi, -, -⟩ := h.1.2.2.2.2.2.2 g hg
    obtain ⟨e1, e2, -⟩ := h.2.1.2.2.2.2.2.2 g hg
    obtain ⟨f1, f2, -⟩ := h.2.2.2.2.2.2.2.2 g hg
    rw [Nat.zero_add] at f1 f2
    have e1 : σ 35 g = nI (v (19 + g)) := e1
    have e2 : σ 36 g = nI (v (25 + g)) := e2
    refine ⟨z_fold (fun s a => a + (nI (z_D v g s) - nI (z_U v (v (19 + g)) (v (25 + g)) s / 2))) 0 (v 1) 0, ?_, ?_⟩
    · unfold bX7_saved_15
      refine z_loop (N := v 1) (r := fun a => some a) (f := fun s a => a + (nI (z_D v g s) - nI (z_U v (v (19 + g)) (v (25 + g)) s / 2))) (fun K a i hi2 => ?_) (fun K a => ?_) (v 1) x_F 0 0 (by omega) (z_fuel (by omega))
      · show gX7_saved_15 (nI g) K a (nI i) σ = _
        have hU := z_U_le (kd := v (19 + g)) (s := i) h.1.1 (inc := v (25 + g)) (by omega) (h.1.2.2.2.2.2.1 i hi2).2
        unfold gX7_saved_15 fX2_owesIfKnown
        rw [h.2.1.2.1, if_neg (nI_ge hi2 (by omega)), z_SD h.2.1 h.1 hg hi2, z_p, z_gi (n := 6) (by omega) (by decide), z_gi (n := 6) (by omega) (by decide), z_cl (by omega), e1, e2, z_SU h.2.1 h.1 hi2 hk (by omega), z_p, z_half (by omega), z_p, nI_1]
      · show gX7_saved_15 (nI g) K a (nI (v 1)) σ = _
        unfold gX7_saved_15
        rw [h.2.1.2.1, if_pos (Int32.le_refl _)]
    · unfold bX8_saved_15
      have hn : τ 1 1 = nI (v 1) := h.2.2.2.1
      refine z_loop (N := v 1) (r := fun a => some a) (f := fun s a => a + (nI (z_D v g s) - nI (z_U v (v (19 + g)) (v (25 + g)) s / 2))) (fun K a i hi2 => ?_) (fun K a => ?_) (v 1) x_F 0 0 (by omega) (z_fuel (by omega))
      · show gX8_saved_15 (nI g) K a (nI i) τ = _
        have hU := z_U_le (kd := v (19 + g)) (s := i) h.1.1 (inc := v (25 + g)) (by omega) (h.1.2.2.2.2.2.1 i hi2).2
        unfold gX8_saved_15
        rw [z_c1, hn, if_neg (nI_ge hi2 (by omega)), z_MD h.2.2 h.1 hg hi2, z_p, show (19 : Int32) + nI g = nI (19 + g) from nI_add 19 g, show (25 : Int32) + nI g = nI (25 + g) from nI_add 25 g, z_gi (n := 1372) (by omega) (by decide), z_gi (n := 1372) (by omega) (by decide), z_cl (by omega), z_cl (by omega), f1, f2, z_MU h.2.2 h.1 hi2 hk (by omega), z_p, z_half (by omega), nI_1]
      · show gX8_saved_15 (nI g) K a (nI (v 1)) τ = _
        unfold gX8_saved_15
        rw [z_c1, hn, if_pos (Int32.le_refl _)]
end
section
/-! ===== pure: worst ===== -/
def z_best (v : z_V) (g : Nat) (s w : Nat) : Nat := if z_D v g s ≤ z_D v g w then w else s
theorem z_fold_best (v : z_V) (g N : Nat) : ∀ d i w, i + d = N → w < N → z_fold (z_best v g) i d w < N := by
  intro d
  induction d with
  | zero => intro i w _ hw; exact hw
  | succ d ih =>
    intro i w hi hw
    refine ih (i + 1) _ (by omega) ?_
    unfold z_best
    split <;> omega
theorem z_D_le {v : z_V} (hv : z_ok v) {g s : Nat} (hg : g < v 2) (hs : s < v 1) : z_D v g s ≤ 600 := z_O_le hv.1 (by have := (hv.2.2.2.2.2.2 g hg).2.1; omega) (hv.2.2.2.2.2.1 s hs).2
theorem o_worst {σ τ : x_S} {v : z_V} (h : z_T σ τ v) (a1 a2 : Int32) : z_rd (fX7_worst a1 a2 σ) (fX8_worst a1 a2 τ) := by
  have h7 := h.1.2.1
  have h6 := h.1.2.2.1
  unfold z_rd fX7_worst fX8_worst
  rcases h.ges a1 with ⟨h1, h2⟩ | ⟨g, hg, rfl, h1, h2⟩
  · rw [h1, h2, z_p, z_p, if_pos rfl, if_pos rfl]; exact ⟨_, rfl, rfl⟩
  · rw [h1, h2, z_p, z_p, if_neg z_10, if_neg z_10, z_isWithin, show (0 : Int64) = (0 : Int32).toInt64 from rfl, show (1 : Int64) = (1 : Int32).toInt64 from rfl, z_in64, z_p, z_p]
    by_cases q : z_W a2 0 1 = 0
    · rw [if_pos q, if_pos q]; exact ⟨_, rfl, rfl⟩
    · rw [if_neg q, if_neg q, h.2.1.2.1]
      have hn : τ 1 1 = nI (v 1) := h.2.2.2.1
      unfold bX8_worst_31
      obtain ⟨F, hF⟩ : ∃ F, x_F = F + 1 ∧ F = 4095 := ⟨4095, rfl, rfl⟩
      have hD : ∀ s, s < v 1 → z_D v g s ≤ 600 := fun s hs => z_D_le h.1 hg hs
      by_cases c : v 1 = 0
      · rw [c, if_pos (by decide), hF.1]
        refine ⟨-1000000, rfl, ?_⟩
        show gX8_worst_31 (nI g) a2 _ (-1000000) (-1000000) 0 τ = _
        unfold gX8_worst_31
        rw [z_c1, hn, c, if_pos (by decide)]
        split <;> rfl
      · rw [if_neg (fun z => c ((z_eqL (y := (0 : Int32)) 0 rfl (by omega) (by decide)).mp z))]
        have tS : ∀ (K : Int32 → Int32 → Option Int32) i w, i < v 1 → w < v 1 → gX2_dearestStreet_4 32 (nI g) K (nI w) (nI i) σ = K (nI (z_best v g i w)) (nI (i + 1)) := by
          intro K i w hi hw
          have d1 := hD i hi
          have d2 := hD w hw
          unfold gX2_dearestStreet_4 z_best
          rw [h.2.1.2.1, if_neg (nI_ge (by omega) (by omega)), z_SD h.2.1 h.1 hg hi, z_SD h.2.1 h.1 hg hw, z_p, z_p, nI_1]
          by_cases cc : z_D v g i ≤ z_D v g w
          · rw [if_pos ((nI_leI (by omega) (by omega)).mpr cc), if_pos cc]
          · rw [if_neg (fun z => cc ((nI_leI (by omega) (by omega)).mp z)), if_neg cc]
        have tM : ∀ (K : Int32 → Int32 → Int32 → Option Int32) i w, i < v 1 → w < v 1 → gX8_worst_31 (nI g) a2 K (nI w) (nI (z_D v g w)) (nI i) τ = K (nI (z_best v g i w)) (nI (z_D v g (z_best v g i w))) (nI (i + 1)) := by
          intro K i w hi hw
          have d1 := hD i hi
          have d2 := hD w hw
          unfold gX8_worst_31 bX8_worst_64 z_best
          rw [z_c1, hn, if_neg (nI_ge (by omega) (by omega)), z_MD h.2.2 h.1 hg hi, z_p, nI_1]
          by_cases cc : z_D v g i ≤ z_D v g w
          · rw [if_pos ((nI_leI (by omega) (by omega)).mpr cc), if_pos ((nI_leI (by omega) (by omega)).mpr cc), if_pos cc]
          · rw [if_neg (fun z => cc ((nI_leI (by omega) (by omega)).mp z)), if_neg (fun z => cc ((nI_leI (by omega) (by omega)).mp z)), if_neg cc]
        have tM0 : ∀ (K : Int32 → Int32 → Int32 → Option Int32), gX8_worst_31 (nI g) a2 K (-1000000) (-1000000) (nI 0) τ = K (nI 0) (nI (z_D v g 0)) (nI (0 + 1)) := by
          intro K
          have d0 := hD 0 (by omega)
          have neg : ∀ k : Nat, k ≤ 600 → ¬ (nI k ≤ -1000000) := by
            intro k hk z
            have h1 : (nI k).toInt = (k : Int) := nI_toInt (by omega)
            have h2 := Int32.le_iff_toInt_le.mp z
            rw [h1] at h2
            have h3 : ((-1000000 : Int32)).toInt = -1000000 := by decide
            rw [h3] at h2
            omega
          unfold gX8_worst_31 bX8_worst_64
          rw [z_c1, hn, if_neg (nI_ge (by omega) (by omega)), z_MD h.2.2 h.1 hg (show 0 < v 1 by omega), z_p, nI_1, if_neg (neg _ d0), if_neg (neg _ d0)]
        have kS : ∀ d n i w, i + d = v 1 → w < v 1 → d < n → x_fx (α := Int32 → Int32 → Option Int32) (fun _ _ => none) (fun K => fun x2 x3 => gX2_dearestStreet_4 32 (nI g) K x2 x3 σ) n (nI w) (nI i) = some (nI (z_fold (z_best v g) i d w)) := by
          intro d
          induction d with
          | zero =>
            intro n i w hi hw hn2
            cases n with
            | zero => exact absurd hn2 (by omega)
            | succ n =>
              show gX2_dearestStreet_4 32 (nI g) _ (nI w) (nI i) σ = _
              unfold gX2_dearestStreet_4
              rw [h.2.1.2.1, if_pos (nI_le (by omega) (by omega))]
              rfl
          | succ d ih =>
            intro n i w hi hw hn2
            cases n with
            | zero => exact absurd hn2 (by omega)
            | succ n =>
              show gX2_dearestStreet_4 32 (nI g) (x_fx _ _ n) (nI w) (nI i) σ = _
              exact (tS _ i w (by omega) hw).trans (ih n (i + 1) (z_best v g i w) (by omega) (by unfold z_best; split <;> omega) (by omega))
        have kM : ∀ d n i w, i + d = v 1 → w < v 1 → d < n → x_fx (α := Int32 → Int32 → Int32 → Option Int32) (fun _ _ _ => none) (fun K => fun x3 x4 x5 => gX8_worst_31 (nI g) a2 K x3 x4 x5 τ) n (nI w) (nI (z_D v g w)) (nI i) = if a2 = 0 then some (nI (z_fold (z_best v g) i d w)) else some (nI (z_D v g (z_fold (z_best v g) i d w))) := by
          intro d
          induction d with
          | zero =>
            intro n i w hi hw hn2
            cases n with
            | zero => exact absurd hn2 (by omega)
            | succ n =>
              show gX8_worst_31 (nI g) a2 _ (nI w) (nI (z_D v g w)) (nI i) τ = _
              unfold gX8_worst_31
              rw [z_c1, hn, if_pos (nI_le (by omega) (by omega))]
              rfl
          | succ d ih =>
            intro n i w hi hw hn2
            cases n with
            | zero => exact absurd hn2 (by omega)
            | succ n =>
              show gX8_worst_31 (nI g) a2 (x_fx _ _ n) (nI w) (nI (z_D v g w)) (nI i) τ = _
              exact (tM _ i w (by omega) hw).trans (ih n (i + 1) (z_best v g i w) (by omega) (by unfold z_best; split <;> omega) (by omega))
        have fS : fX2_dearestStreet 32 (nI g) σ = some (nI (z_fold (z_best v g) 1 (v 1 - 1) 0)) := kS (v 1 - 1) x_F 1 0 (by omega) (by omega) (z_fuel (by omega))
        have hb : z_fold (z_best v g) 1 (v 1 - 1) 0 < v 1 := z_fold_best v g (v 1) (v 1 - 1) 1 0 (by omega) (by omega)
        have fM : x_fx (α := Int32 → Int32 → Int32 → Option Int32) (fun _ _ _ => none) (fun K => fun x3 x4 x5 => gX8_worst_31 (nI g) a2 K x3 x4 x5 τ) x_F (-1000000) (-1000000) 0 = if a2 = 0 then some (nI (z_fold (z_best v g) 1 (v 1 - 1) 0)) else some (nI (z_D v g (z_fold (z_best v g) 1 (v 1 - 1) 0))) := by
          rw [hF.1]
          show gX8_worst_31 (nI g) a2 (x_fx _ _ F) (-1000000) (-1000000) (nI 0) τ = _
          refine (tM0 _).trans ?_
          exact kM (v 1 - 1) F 1 0 (by omega) (by omega) (by omega)
        rw [fM, fS, z_p]
        by_cases c0 : a2 = 0
        · rw [if_pos c0, if_pos c0]; exact ⟨_, rfl, rfl⟩
        · rw [if_neg c0, if_neg c0, z_SD h.2.1 h.1 hg hb, z_p]; exact ⟨_, rfl, rfl⟩
end
section
/-! ===== pure: the acts ===== -/
theorem z_loopP {α β : Type} (P : α → Prop) {z : Int32 → α → Option β} {b : (Int32 → α → Option β) → Int32 → α → Option β} {N : Nat} {f : Nat → α → α} {r : α → Option β} (hP : ∀ a i, P a → P (f i a)) (hs : ∀ K a i, P a → i < N → b K (nI i) a = K (nI (i + 1)) (f i a)) (he : ∀ K a, P a → b K (nI N) a = r a) :
    ∀ d n i a, P a → i + d = N → d < n → x_fx z b n (nI i) a = r (z_fold f i d a) := by
  intro d
  induction d with
  | zero =>
    intro n i a ha hi hn
    cases n with
    | zero => exact absurd hn (by omega)
    | succ n =>
      show b (x_fx z b n) (nI i) a = _
      rw [show i = N by omega, he _ _ ha]
      rfl
  | succ d ih =>
    intro n i a ha hi hn
    cases n with
    | zero => exact absurd hn (by omega)
    | succ n =>
      show b (x_fx z b n) (nI i) a = _
      rw [hs _ _ _ ha (by omega), ih n (i + 1) _ (hP _ _ ha) (by omega) (by omega)]
      rfl
theorem z_copyTown {τ : x_S} {a b : Nat} (ha : a + 49 ≤ 1372) (hb : b + 49 ≤ 1372) (hab : b ≤ a ∨ a + 49 ≤ b) : ∃ τ', fX8_copyTown (nI a) (nI b) τ = some τ' ∧ (∀ c, c ≠ 1 → τ' c = τ c) ∧ (∀ j, (j < b ∨ b + 49 ≤ j) → τ' 1 j = τ 1 j) ∧ ∀ t, t < 49 → τ' 1 (b + t) = τ 1 (a + t) := by
  obtain ⟨h1, h2, h3⟩ := z_fold_cp 1 a b 49 hab 49 0 τ (by omega)
  refine ⟨_, ?_, h1, fun j hj => h2 j (by omega), fun t ht => h3 t (by omega) ht⟩
  unfold fX8_copyTown bX8_copyTown_2
  refine (z_loopS (N := 49) (r := fun a => some a) (f := fun i σ => x_u σ 1 (b + i) (σ 1 (a + i))) (fun K u i hi => ?_) (fun K u => ?_) 49 x_F 0 _ (by omega) (z_fuel (by omega)))
  · show gX8_copyTown_2 (nI a) (nI b) K (nI i) u = _
    unfold gX8_copyTown_2
    rw [if_neg (fun z => by have := (z_geL (a := i) (y := (49 : Int32)) 49 rfl (by omega) (by decide)).mp z; omega), nI_add, nI_add, z_gi (n := 1372) (by omega) (by decide), z_gi (n := 1372) (by omega) (by decide), z_w, z_cl (by omega), z_cl (by omega), nI_1]
  · show gX8_copyTown_2 (nI a) (nI b) K (nI 49) u = _
    unfold gX8_copyTown_2
    rw [if_pos (by decide)]
theorem z_keepPast {τ : x_S} {n : Nat} (hn : n ≤ 24) (h2 : τ 0 2 = nI n) : ∃ τ', fX8_keepPast τ = some τ' ∧ (∀ c, c ≠ 0 → c ≠ 1 → τ' c = τ c) ∧ (∀ j, j ≠ 2 → τ' 0 j = τ 0 j) ∧ τ' 0 2 = nI (min (n + 1) 24) ∧ (∀ j, (j < 49 ∨ 1225 ≤ j) → τ' 1 j = τ 1 j) ∧ (∀ k, k < 49 → τ' 1 (49 + 49 * (min n 23) + k) = τ 1 k) ∧ ∀ k, k < 49 * (min n 23) → τ' 1 (49 + k) = if n = 24 then τ 1 (98 + k) else τ 1 (49 + k) := by
  have b61 : ∀ (u : x_S) (m y : Nat), m ≤ 23 → u 0 2 = nI n → n = m + y → ∃ τ', bX8_keepPast_61 (nI y) (nI n) u = some τ' ∧ (∀ c, c ≠ 0 → c ≠ 1 → τ' c = u c) ∧ (∀ j, j ≠ 2 → τ' 0 j = u 0 j) ∧ τ' 0 2 = nI (m + 1) ∧ (∀ j, (j < 49 + 49 * m ∨ 49 + 49 * m + 49 ≤ j) → τ' 1 j = u 1 j) ∧ ∀ k, k < 49 → τ' 1 (49 + 49 * m + k) = u 1 k := by
    intro u m y hm hu hy
    subst hy
    obtain ⟨w, w1, w2, w3, w4⟩ := z_copyTown (τ := x_u u 0 2 (nI m)) (a := 0) (b := 49 + 49 * m) (by omega) (by omega) (by omega)
    refine ⟨x_u w 0 2 (nI m + 1), ?_, fun c c0 c1 => (z_uk c0).trans ((w2 c c1).trans (z_uk c0)), fun j hj => (z_ui hj).trans ((congrFun (w2 0 (by decide)) j).trans (z_ui hj)), (z_us _ _ _ _).trans (nI_1 m), fun j hj => (congrFun (z_uk (by decide)) j).trans ((w3 j hj).trans (congrFun (z_uk (by decide)) j)), fun k hk => (congrFun (z_uk (by decide)) _).trans ((w4 k hk).trans ?_)⟩
    · unfold bX8_keepPast_61
      have e1 : nI (m + y) - nI y = nI m := by rw [pk_sub (by omega)]; congr 1; omega
      rw [z_w, e1, z_us, show (49 : Int32) + 49 * nI m = nI (49 + 49 * m) by rw [show (49 : Int32) = nI 49 from rfl, pk_mul, nI_add], show (0 : Int32) = nI 0 from rfl, w1, z_v, z_w, show w 0 2 = nI m from (congrFun (w2 0 (by decide)) 2).trans (z_us _ _ _ _)]
    · rw [Nat.zero_add, z_uk (by decide)]
  unfold fX8_keepPast bX8_keepPast_2
  by_cases q : n = 24
  · subst q
    obtain ⟨f1, f2, f3⟩ := z_fold_cp 1 98 49 1127 (by omega) 1127 0 τ (by omega)
    have g02 : z_fold (fun i σ => x_u σ 1 (49 + i) (σ 1 (98 + i))) 0 1127 τ 0 2 = nI 24 := by rw [f1 0 (by decide)]; exact h2
    obtain ⟨τ', t1, t2, t3, t4, t5, t6⟩ := b61 _ 23 1 (by omega) g02 (by omega)
    refine ⟨τ', ?_, fun c c0 c1 => (t2 c c0 c1).trans (f1 c c1), fun j hj => (t3 j hj).trans (congrFun (f1 0 (by decide)) j), t4, fun j hj => (t5 j (by omega)).trans (f2 j (by omega)), fun k hk => (t6 k hk).trans (f2 k (by omega)), fun k hk => ?_⟩
    · refine (z_loopP (fun u : x_S => u 0 2 = nI 24) (N := 1127) (r := bX8_keepPast_42) (f := fun i σ => x_u σ 1 (49 + i) (σ 1 (98 + i))) (fun u i hu => (congrFun (z_uk (by decide)) 2).trans hu) (fun K u i hu hi => ?_) (fun K u hu => ?_) 1127 x_F 0 _ h2 (by omega) (z_fuel (by omega))).trans ?_
      · show gX8_keepPast_2 K (nI i) u = _
        unfold gX8_keepPast_2
        rw [if_neg (fun z => by have := (z_geL (a := i) (y := (1127 : Int32)) 1127 rfl (by omega) (by decide)).mp z; omega), hu, if_pos (by decide), show (98 : Int32) + nI i = nI (98 + i) from nI_add 98 i, show (49 : Int32) + nI i = nI (49 + i) from nI_add 49 i, z_gi (n := 1372) (by omega) (by decide), z_gi (n := 1372) (by omega) (by decide), z_w, z_cl (by omega), z_cl (by omega), nI_1]
      · show gX8_keepPast_2 K (nI 1127) u = _
        unfold gX8_keepPast_2
        rw [if_pos (by decide)]
      · unfold bX8_keepPast_42
        rw [g02, if_pos (by decide)]
        exact t1
    · have hk : k < 1127 := by have : min 24 23 = 23 := rfl; omega
      rw [if_pos rfl]
      exact (t5 _ (by omega)).trans (f3 k (by omega) hk)
  · have m1 : min n 23 = n := by omega
    have m2 : min (n + 1) 24 = n + 1 := by omega
    rw [m1, m2]
    obtain ⟨τ', t1, t2, t3, t4, t5, t6⟩ := b61 τ n 0 (by omega) h2 (by omega)
    refine ⟨τ', ?_, t2, t3, t4, fun j hj => t5 j (by omega), t6, fun k hk => ?_⟩
    · obtain ⟨F, hF⟩ : ∃ F, x_F = F + 1 := ⟨4095, rfl⟩
      rw [hF]
      show gX8_keepPast_2 _ 0 τ = _
      unfold gX8_keepPast_2 bX8_keepPast_42
      have h24 : ¬ nI n = 24 := fun z => q ((z_eqL (y := (24 : Int32)) 24 rfl (by omega) (by decide)).mp z)
      rw [if_neg (by decide), h2, if_neg h24, if_neg h24]
      exact t1
    · rw [if_neg q]; exact t5 _ (by omega)
theorem z_keep {σ : x_S} {n p : Nat} (hn : n ≤ 24) (hp : p < 24) (h3 : σ 16 3 = nI p) (h4 : σ 16 4 = nI n) (a1 a2 a3 : Int32) : ∃ σ', fX0_keep a1 a2 a3 σ = some σ' ∧ (∀ c, (c < 16 ∨ 20 ≤ c) → σ' c = σ c) ∧ σ' 16 3 = nI ((p + 1) % 24) ∧ σ' 16 4 = nI (min (n + 1) 24) ∧ σ' 17 p = a1 ∧ σ' 18 p = a2 ∧ σ' 19 p = a3 ∧ ∀ j, j ≠ p → σ' 17 j = σ 17 j ∧ σ' 18 j = σ 18 j ∧ σ' 19 j = σ 19 j := by
  have e1 : (nI p + 1) - (nI p + 1) / 24 * 24 = nI ((p + 1) % 24) := by
    have : ∀ p, p < 24 → (nI p + 1) - (nI p + 1) / 24 * 24 = nI ((p + 1) % 24) := by decide +kernel
    exact this p hp
  have e2 : (if 24 < nI n + 1 then 24 else nI n + 1) = nI (min (n + 1) 24) := by
    have : ∀ n, n < 25 → (if 24 < nI n + 1 then 24 else nI n + 1) = nI (min (n + 1) 24) := by decide +kernel
    exact this n (by omega)
  refine ⟨x_u (x_u (x_u (x_u (x_u σ 17 p a1) 18 p a2) 19 p a3) 16 3 (nI ((p + 1) % 24))) 16 4 (nI (min (n + 1) 24)), ?_, fun c hc => ?_, ?_, z_us _ _ _ _, ?_, ?_, ?_, fun j hj => ⟨?_, ?_, ?_⟩⟩
  · unfold fX0_keep
    rw [h3, z_gi hp (by decide), z_w, z_uk (k := 17) (by decide), h3, z_gi hp (by decide), z_w, z_uk (k := 18) (by decide), z_uk (k := 17) (by decide), h3, z_gi hp (by decide), z_w, z_uk (k := 19) (by decide), z_uk (k := 18) (by decide), z_uk (k := 17) (by decide), h3, z_w, z_ui (by decide), z_uk (k := 19) (by decide), z_uk (k := 18) (by decide), z_uk (k := 17) (by decide), h4, z_w, z_cl (by omega), e1, e2]
  · rw [z_uk (by omega), z_uk (by omega), z_uk (by omega), z_uk (by omega), z_uk (by omega)]
  · rw [z_ui (by decide), z_us]
  · rw [z_uk (by decide), z_uk (by decide), z_uk (by decide), z_uk (by decide), z_us]
  · rw [z_uk (by decide), z_uk (by decide), z_uk (by decide), z_us]
  · rw [z_uk (by decide), z_uk (by decide), z_us]
  · rw [z_uk (by decide), z_uk (by decide), z_uk (by decide), z_uk (by decide), z_ui hj]
  · rw [z_uk (by decide), z_uk (by decide), z_uk (by decide), z_ui hj, z_uk (by decide)]
  · rw [z_uk (by decide), z_uk (by decide), z_ui hj, z_uk (by decide), z_uk (by decide)]
end
section
/-! ===== pure: make, dim, train, know, undo ===== -/
/-- the town alone has changed -/
theorem z_Rel_town {σ τ σ' τ' : x_S} (h : z_Rel σ τ) (ht : z_town σ' τ') (h1 : ∀ k, (k < 16 ∨ 20 ≤ k) → (k < 32 ∨ 40 ≤ k) → σ' k = σ k) (h2 : ∀ k, k ≠ 0 → k ≠ 1 → τ' k = τ k) (h3 : ∀ j, j ≠ 1 → j ≠ 2 → τ' 0 j = τ 0 j) (h4 : ∀ j, 1225 ≤ j → τ' 1 j = τ 1 j) (h5 : τ 0 1 = 1 → τ' 0 1 = 1) : z_Rel σ' τ' := by
  obtain ⟨hs, hr, hta, hf, -, him, htr⟩ := h
  refine ⟨?_, z_rows_c hr (fun k g1 g2 => h1 k (by omega) (by omega)) (h2 3 (by decide) (by decide)) (h2 4 (by decide) (by decide)) (h2 5 (by decide) (by decide)), z_tape_c hta (by rw [h1 13 (by omega) (by omega)]) (h1 14 (by omega) (by omega)) (h3 8 (by decide) (by decide)) (h2 6 (by decide) (by decide)), ?_, ht, z_ims_c him (fun k g1 g2 => h1 k (by omega) (by omega)) (fun k hk => h4 _ (by omega)) (h2 2 (by decide) (by decide)) h5, z_tr_c htr (by rw [h1 30 (by omega) (by omega)]) (h1 31 (by omega) (by omega)) (h3 12 (by decide) (by decide)) (h2 7 (by decide) (by decide))⟩
  · show σ' 0 8 = τ' 0 10
    rw [h1 0 (by omega) (by omega), h3 10 (by decide) (by decide)]; exact hs
  · rw [h1 13 (by omega) (by omega), h3 9 (by decide) (by decide)]; exact hf
/-- an act: v' from v, to be undone by d w x -/
theorem z_act {σ σ1 τ : x_S} (h : z_Rel σ τ) {v v' : z_V} {n p : Nat} {V : Nat → z_V} (ht : z_T σ τ v) (hst : (σ 32 0 = 1 ∧ τ 0 1 = 1) ∨ (σ 32 0 = 0 ∧ τ 0 1 = 0 ∧ v 1 = 0 ∧ v 2 = 0)) (hn : n ≤ 24) (hp : p < 24) (k1 : σ 16 4 = nI n) (k2 : τ 0 2 = nI n) (k3 : σ 16 3 = nI p) (hV : V 0 = v) (hpast : z_past σ τ n p V)
    {d w x : Nat} (ha : z_actok d w x v') (hu : z_undo d w x v' = v) (hv' : z_ok v') (hσ : ∀ c, (c < 32 ∨ 40 ≤ c) → σ1 c = σ c) (h0 : σ1 32 0 = σ 32 0) (hS : z_S σ1 32 v') :
    ∃ σ2, fX0_keep (nI d) (nI w) (nI x) σ1 = some σ2 ∧ (∀ c, (c < 16 ∨ 20 ≤ c) → σ2 c = σ1 c) ∧ ∃ τ1, fX8_keepPast τ = some τ1 ∧ (∀ j, j < 49 → τ1 1 j = τ 1 j) ∧ ∀ τ2, (∀ c, c ≠ 1 → τ2 c = τ1 c) → (∀ j, 49 ≤ j → τ2 1 j = τ1 1 j) → z_M τ2 0 v' → z_Rel σ2 τ2 := by
  obtain ⟨σ2, s1, s2, s3, s4, s5, s6, s7, s8⟩ := z_keep (σ := σ1) hn hp (by rw [hσ 16 (by omega)]; exact k3) (by rw [hσ 16 (by omega)]; exact k1) (nI d) (nI w) (nI x)
  obtain ⟨τ1, t1, t2, t3, t4, t5, t6, t7⟩ := z_keepPast hn k2
  refine ⟨σ2, s1, s2, τ1, t1, fun j hj => t5 j (by omega), fun τ2 u1 u2 hM => ?_⟩
  have hsg := z_undo_sg ha
  rw [hu] at hsg
  refine z_Rel_town h ?_ (fun k g1 g2 => (s2 k g1).trans (hσ k g2)) (fun k g1 g2 => (u1 k g2).trans (t2 k g1 g2)) (fun j g1 g2 => (congrFun (u1 0 (by decide)) j).trans (t3 j g2)) (fun j hj => (u2 j (by omega)).trans (t5 j (by omega))) (fun z => (congrFun (u1 0 (by decide)) 1).trans ((t3 1 (by decide)).trans z))
  refine ⟨v', min (n + 1) 24, (p + 1) % 24, fun i => if i = 0 then v' else V (i - 1), ⟨hv', z_S_c hS (fun k g1 g2 => s2 k (by omega)), hM⟩, ?_, by omega, by omega, s4, (congrFun (u1 0 (by decide)) 2).trans t4, s3, if_pos rfl, ?_⟩
  · rw [s2 32 (by omega), h0, u1 0 (by decide), t3 1 (by decide)]
    rcases hst with g | ⟨g1, g2, g3, g4⟩
    · exact Or.inl g
    · exact Or.inr ⟨g1, g2, hsg.1 ▸ g3, hsg.2 ▸ g4⟩
  · intro i hi
    have hv12 : v 1 ≤ 7 ∧ v 2 ≤ 6 := ⟨ht.1.2.1, ht.1.2.2.1⟩
    by_cases i0 : i = 0
    · subst i0
      have ep : ((p + 1) % 24 + 23 - 0) % 24 = p := by omega
      rw [ep]
      refine ⟨d, w, x, s5, s6, s7, ha, ?_, ?_⟩
      · show V 0 = z_undo d w x v'
        rw [hu]; exact hV
      · show z_M τ2 _ (V 0)
        rw [hV]
        refine z_M_c ht.2.2 hv12 (fun k hk => ?_)
        have e : min (n + 1) 24 - 1 - 0 = min n 23 := by omega
        rw [e, u2 _ (by omega), Nat.zero_add]
        exact t6 k hk
    · have hi1 : i - 1 < n := by omega
      obtain ⟨d', w', x', a1, a2, a3, a4, a5, a6⟩ := hpast (i - 1) hi1
      have ep : ((p + 1) % 24 + 23 - i) % 24 = (p + 23 - (i - 1)) % 24 := by omega
      have np : (p + 23 - (i - 1)) % 24 ≠ p := by omega
      obtain ⟨b1, b2, b3⟩ := s8 _ np
      have ei : i - 1 + 1 = i := by omega
      rw [ei] at a5 a6
      refine ⟨d', w', x', ?_, ?_, ?_, ?_, ?_, ?_⟩
      · rw [ep, b1, hσ 17 (by omega)]; exact a1
      · rw [ep, b2, hσ 18 (by omega)]; exact a2
      · rw [ep, b3, hσ 19 (by omega)]; exact a3
      · show z_actok d' w' x' (if i = 0 then v' else V (i - 1))
        rw [if_neg i0]; exact a4
      · show (if i + 1 = 0 then v' else V (i + 1 - 1)) = z_undo d' w' x' (if i = 0 then v' else V (i - 1))
        rw [if_neg i0, if_neg (by omega), Nat.add_sub_cancel]; exact a5
      · show z_M τ2 _ (if i + 1 = 0 then v' else V (i + 1 - 1))
        rw [if_neg (by omega), Nat.add_sub_cancel]
        have sg := z_past_sg hpast i (by omega)
        rw [hV] at sg
        refine z_M_c a6 (by omega) (fun k hk => ?_)
        rw [u2 _ (by omega)]
        by_cases q : n = 24
        · subst q
          have m : min 24 23 = 23 := rfl
          have := t7 (49 * (min (24 + 1) 24 - 1 - i) + k) (by omega)
          rw [if_pos rfl] at this
          rw [Nat.add_assoc, this]
          congr 1
          omega
        · have := t7 (49 * (min (n + 1) 24 - 1 - i) + k) (by omega)
          rw [if_neg q] at this
          rw [Nat.add_assoc, this]
          congr 1
          omega
end
section
/-! ===== pure: one number of a city set ===== -/
def z_set (v : z_V) (K y : Nat) : z_V := fun k => if k = K then y else v k
theorem z_sete {v : z_V} {K y : Nat} : z_set v K y K = y := if_pos rfl
theorem z_setn {v : z_V} {K y k : Nat} (h : k ≠ K) : z_set v K y k = v k := if_neg h
theorem z_set_comm {v : z_V} {K L a b : Nat} (h : K ≠ L) : z_set (z_set v K a) L b = z_set (z_set v L b) K a := by
  funext k
  unfold z_set
  by_cases h1 : k = L
  · rw [if_pos h1, if_neg (by omega), if_pos h1]
  · rw [if_neg h1, if_neg h1]
theorem z_ok_set {v : z_V} (hv : z_ok v) {K y : Nat} (h0 : K ≠ 0) (h1 : K ≠ 1) (h2 : K ≠ 2) (h3 : K = 3 → y ≤ 99999) (h4 : K = 4 → y < 128) (h5 : ∀ s, s < 7 → K = 5 + s → y ≤ 30) (h6 : ∀ s, s < 7 → K ≠ 12 + s) (h7 : ∀ g, g < 6 → K ≠ 19 + g) (h8 : ∀ g, g < 6 → K = 25 + g → 1 ≤ y ∧ y ≤ 30) (h9 : ∀ g, g < 6 → K ≠ 31 + g) (h10 : ∀ g, g < 6 → K ≠ 37 + g) : z_ok (z_set v K y) := by
  obtain ⟨v0, v1, v2, v3, v4, vs, vg⟩ := hv
  refine ⟨by rw [z_setn (Ne.symm h0)]; exact v0, by rw [z_setn (Ne.symm h1)]; exact v1, by rw [z_setn (Ne.symm h2)]; exact v2, ?_, ?_, fun s hs => ?_, fun g hg => ?_⟩
  · by_cases e : 3 = K
    · subst e; rw [z_sete]; exact h3 rfl
    · rw [z_setn e]; exact v3
  · by_cases e : 4 = K
    · subst e; rw [z_sete]; exact h4 rfl
    · rw [z_setn e]; exact v4
  · rw [z_setn (Ne.symm h1)] at hs
    rw [z_setn (v := v) (k := 12 + s) (fun z => h6 s (by omega) z.symm)]
    refine ⟨?_, (vs s hs).2⟩
    by_cases e : 5 + s = K
    · subst e; rw [z_sete]; exact h5 s (by omega) rfl
    · rw [z_setn e]; exact (vs s hs).1
  · rw [z_setn (Ne.symm h2)] at hg
    obtain ⟨g1, g2, g3, g4⟩ := vg g hg
    rw [z_setn (v := v) (k := 19 + g) (fun z => h7 g (by omega) z.symm), z_setn (v := v) (k := 31 + g) (fun z => h9 g (by omega) z.symm), z_setn (v := v) (k := 37 + g) (fun z => h10 g (by omega) z.symm)]
    refine ⟨g1, ?_, g3, g4⟩
    by_cases e : 25 + g = K
    · subst e; rw [z_sete]; exact h8 g (by omega) rfl
    · rw [z_setn e]; exact g2
theorem z_M_set {τ : x_S} {v : z_V} (h : z_M τ 0 v) {K : Nat} (h1 : K ≠ 1) (h2 : K ≠ 2) (y : Nat) : z_M (x_u τ 1 K (nI y)) 0 (z_set v K y) := by
  have key : ∀ k, τ 1 k = nI (v k) → x_u τ 1 K (nI y) 1 k = nI (z_set v K y k) := by
    intro k hk
    by_cases e : k = K
    · subst e; rw [z_us, z_sete]
    · rw [z_ui e, z_setn e, hk]
  obtain ⟨a0, a1, a2, a3, a4, as, ag⟩ := h
  refine ⟨key _ a0, key _ a1, key _ a2, key _ a3, key _ a4, fun s hs => ?_, fun g hg => ?_⟩
  · rw [z_setn (Ne.symm h1)] at hs
    have := as s hs
    rw [Nat.zero_add, Nat.zero_add] at this ⊢
    exact ⟨key _ this.1, key _ this.2⟩
  · rw [z_setn (Ne.symm h2)] at hg
    have := ag g hg
    rw [Nat.zero_add, Nat.zero_add, Nat.zero_add, Nat.zero_add, Nat.zero_add] at this ⊢
    exact ⟨key _ this.1, key _ this.2.1, key _ this.2.2.1, key _ this.2.2.2.1, key _ this.2.2.2.2⟩
theorem z_S_paid {σ : x_S} {c : Nat} {v : z_V} (h : z_S σ c v) (hv1 : v 1 ≤ 7) (hv2 : v 2 ≤ 6) (y : Nat) : z_S (x_u σ c 2 (nI y)) c (z_set v (3) y) := by
  obtain ⟨a0, a1, a2, a3, a4, as, ag⟩ := h
  refine ⟨by rw [z_ui (by decide), z_setn (by decide)]; exact a0, by rw [z_ui (by decide), z_setn (by decide)]; exact a1, by rw [z_ui (by decide), z_setn (by decide)]; exact a2, by rw [z_us, z_sete], by rw [z_ui (by decide), z_setn (by decide)]; exact a4, fun t ht => ?_, fun t ht => ?_⟩
  · rw [z_setn (by omega)] at ht
    obtain ⟨b1, b2⟩ := as t ht
    refine ⟨?_, ?_⟩
    · rw [z_uk (by omega), z_setn (by omega)]; exact b1
    · rw [z_uk (by omega), z_setn (by omega)]; exact b2
  · rw [z_setn (by omega)] at ht
    obtain ⟨b1, b2, b3, b4, b5⟩ := ag t ht
    refine ⟨?_, ?_, ?_, ?_, ?_⟩
    · rw [z_uk (by omega), z_setn (by omega)]; exact b1
    · rw [z_uk (by omega), z_setn (by omega)]; exact b2
    · rw [z_uk (by omega), z_setn (by omega)]; exact b3
    · rw [z_uk (by omega), z_setn (by omega)]; exact b4
    · rw [z_uk (by omega), z_setn (by omega)]; exact b5
theorem z_S_known {σ : x_S} {c : Nat} {v : z_V} (h : z_S σ c v) (hv1 : v 1 ≤ 7) (hv2 : v 2 ≤ 6) (y : Nat) : z_S (x_u σ c 4 (nI y)) c (z_set v (4) y) := by
  obtain ⟨a0, a1, a2, a3, a4, as, ag⟩ := h
  refine ⟨by rw [z_ui (by decide), z_setn (by decide)]; exact a0, by rw [z_ui (by decide), z_setn (by decide)]; exact a1, by rw [z_ui (by decide), z_setn (by decide)]; exact a2, by rw [z_ui (by decide), z_setn (by decide)]; exact a3, by rw [z_us, z_sete], fun t ht => ?_, fun t ht => ?_⟩
  · rw [z_setn (by omega)] at ht
    obtain ⟨b1, b2⟩ := as t ht
    refine ⟨?_, ?_⟩
    · rw [z_uk (by omega), z_setn (by omega)]; exact b1
    · rw [z_uk (by omega), z_setn (by omega)]; exact b2
  · rw [z_setn (by omega)] at ht
    obtain ⟨b1, b2, b3, b4, b5⟩ := ag t ht
    refine ⟨?_, ?_, ?_, ?_, ?_⟩
    · rw [z_uk (by omega), z_setn (by omega)]; exact b1
    · rw [z_uk (by omega), z_setn (by omega)]; exact b2
    · rw [z_uk (by omega), z_setn (by omega)]; exact b3
    · rw [z_uk (by omega), z_setn (by omega)]; exact b4
    · rw [z_uk (by omega), z_setn (by omega)]; exact b5
theorem z_S_dim {σ : x_S} {c : Nat} {v : z_V} (h : z_S σ c v) (hv1 : v 1 ≤ 7) (hv2 : v 2 ≤ 6) {s : Nat} (hi : s < 7) (y : Nat) : z_S (x_u σ (c + 1) s (nI y)) c (z_set v (5 + s) y) := by
  obtain ⟨a0, a1, a2, a3, a4, as, ag⟩ := h
  refine ⟨by rw [z_uk (by omega), z_setn (by omega)]; exact a0, by rw [z_uk (by omega), z_setn (by omega)]; exact a1, by rw [z_uk (by omega), z_setn (by omega)]; exact a2, by rw [z_uk (by omega), z_setn (by omega)]; exact a3, by rw [z_uk (by omega), z_setn (by omega)]; exact a4, fun t ht => ?_, fun t ht => ?_⟩
  · rw [z_setn (by omega)] at ht
    obtain ⟨b1, b2⟩ := as t ht
    refine ⟨?_, ?_⟩
    · by_cases e : t = s
      · subst e; rw [z_us, z_sete]
      · rw [z_ui e, z_setn (by omega)]; exact b1
    · rw [z_uk (by omega), z_setn (by omega)]; exact b2
  · rw [z_setn (by omega)] at ht
    obtain ⟨b1, b2, b3, b4, b5⟩ := ag t ht
    refine ⟨?_, ?_, ?_, ?_, ?_⟩
    · rw [z_uk (by omega), z_setn (by omega)]; exact b1
    · rw [z_uk (by omega), z_setn (by omega)]; exact b2
    · rw [z_uk (by omega), z_setn (by omega)]; exact b3
    · rw [z_uk (by omega), z_setn (by omega)]; exact b4
    · rw [z_uk (by omega), z_setn (by omega)]; exact b5
theorem z_S_inch {σ : x_S} {c : Nat} {v : z_V} (h : z_S σ c v) (hv1 : v 1 ≤ 7) (hv2 : v 2 ≤ 6) {g : Nat} (hi : g < 6) (y : Nat) : z_S (x_u σ (c + 4) g (nI y)) c (z_set v (25 + g) y) := by
  obtain ⟨a0, a1, a2, a3, a4, as, ag⟩ := h
  refine ⟨by rw [z_uk (by omega), z_setn (by omega)]; exact a0, by rw [z_uk (by omega), z_setn (by omega)]; exact a1, by rw [z_uk (by omega), z_setn (by omega)]; exact a2, by rw [z_uk (by omega), z_setn (by omega)]; exact a3, by rw [z_uk (by omega), z_setn (by omega)]; exact a4, fun t ht => ?_, fun t ht => ?_⟩
  · rw [z_setn (by omega)] at ht
    obtain ⟨b1, b2⟩ := as t ht
    refine ⟨?_, ?_⟩
    · rw [z_uk (by omega), z_setn (by omega)]; exact b1
    · rw [z_uk (by omega), z_setn (by omega)]; exact b2
  · rw [z_setn (by omega)] at ht
    obtain ⟨b1, b2, b3, b4, b5⟩ := ag t ht
    refine ⟨?_, ?_, ?_, ?_, ?_⟩
    · rw [z_uk (by omega), z_setn (by omega)]; exact b1
    · by_cases e : t = g
      · subst e; rw [z_us, z_sete]
      · rw [z_ui e, z_setn (by omega)]; exact b2
    · rw [z_uk (by omega), z_setn (by omega)]; exact b3
    · rw [z_uk (by omega), z_setn (by omega)]; exact b4
    · rw [z_uk (by omega), z_setn (by omega)]; exact b5
theorem z_S_made {σ : x_S} {c : Nat} {v : z_V} (h : z_S σ c v) (hv1 : v 1 ≤ 7) (hv2 : v 2 ≤ 6) {g : Nat} (hi : g < 6) (y : Nat) : z_S (x_u σ (c + 7) g (nI y)) c (z_set v (43 + g) y) := by
  obtain ⟨a0, a1, a2, a3, a4, as, ag⟩ := h
  refine ⟨by rw [z_uk (by omega), z_setn (by omega)]; exact a0, by rw [z_uk (by omega), z_setn (by omega)]; exact a1, by rw [z_uk (by omega), z_setn (by omega)]; exact a2, by rw [z_uk (by omega), z_setn (by omega)]; exact a3, by rw [z_uk (by omega), z_setn (by omega)]; exact a4, fun t ht => ?_, fun t ht => ?_⟩
  · rw [z_setn (by omega)] at ht
    obtain ⟨b1, b2⟩ := as t ht
    refine ⟨?_, ?_⟩
    · rw [z_uk (by omega), z_setn (by omega)]; exact b1
    · rw [z_uk (by omega), z_setn (by omega)]; exact b2
  · rw [z_setn (by omega)] at ht
    obtain ⟨b1, b2, b3, b4, b5⟩ := ag t ht
    refine ⟨?_, ?_, ?_, ?_, ?_⟩
    · rw [z_uk (by omega), z_setn (by omega)]; exact b1
    · rw [z_uk (by omega), z_setn (by omega)]; exact b2
    · rw [z_uk (by omega), z_setn (by omega)]; exact b3
    · rw [z_uk (by omega), z_setn (by omega)]; exact b4
    · by_cases e : t = g
      · subst e; rw [z_us, z_sete]
      · rw [z_ui e, z_setn (by omega)]; exact b5
theorem z_W4 {x : Int32} {m n : Nat} (hm : m < 65536) (hn : n < 2 ^ 31) (h : ¬ z_W x (nI m) (nI n) = 0) : ∃ j, m ≤ j ∧ j ≤ n ∧ x = nI j := by
  obtain ⟨h1, h2⟩ := z_W1 h
  have h0 : ¬ x < 0 := fun z => h1 (Int32.lt_of_lt_of_le z (Int32.not_lt.mp (nI_pos (by omega))))
  obtain ⟨j, hj, rfl⟩ := nI_of h0
  exact ⟨j, Nat.not_lt.mp (fun q => h1 ((nI_ltI hj (by omega)).mpr q)), Nat.not_lt.mp (fun q => h2 ((nI_ltI hn hj).mpr q)), rfl⟩
theorem z_xor : ∀ k, k < 128 → ∀ s, s < 7 → nI k ^^^ (1 <<< (nI s &&& 31)) = nI (k ^^^ (1 <<< s)) ∧ k ^^^ (1 <<< s) < 128 ∧ (k ^^^ (1 <<< s)) ^^^ (1 <<< s) = k := by decide +kernel
theorem z_undo0 {v : z_V} {w x : Nat} : z_undo 0 w x v = z_set (z_set v 3 (v 3 - x)) (43 + w) (v (43 + w) - 1) := by
  funext k
  unfold z_undo z_set
  by_cases h1 : k = 43 + w
  · subst h1; simp
  · by_cases h2 : k = 3
    · subst h2; simp [h1]
    · simp [h1, h2]
theorem z_undo1 {v : z_V} {w x : Nat} : z_undo 1 w x v = z_set v (5 + w) x := by
  funext k
  unfold z_undo z_set
  simp
theorem z_undo2 {v : z_V} {w x : Nat} : z_undo 2 w x v = z_set v (25 + w) (v (25 + w) + x) := by
  funext k
  unfold z_undo z_set
  by_cases h1 : k = 25 + w
  · subst h1; simp
  · simp [h1]
theorem z_undo3 {v : z_V} {w x : Nat} : z_undo 3 w x v = z_set v 4 (v 4 ^^^ (1 <<< w)) := by
  funext k
  unfold z_undo z_set
  by_cases h1 : k = 4
  · subst h1; simp
  · simp [h1]
theorem z_set2 {v : z_V} {K a : Nat} (b : Nat) (h : b = v K) : z_set (z_set v K a) K b = v := by
  funext k
  unfold z_set
  by_cases h1 : k = K
  · subst h1; rw [if_pos rfl, h]
  · rw [if_neg h1, if_neg h1]
end
section
/-! ===== pure: make, dim, train, know, undo ===== -/
theorem z_r3 : x_in (3 : Int32) 1372 := z_in (j := 3) (by decide) (by decide)
theorem z_r4 : x_in (4 : Int32) 1372 := z_in (j := 4) (by decide) (by decide)
/-- make -/
theorem o_make {σ τ : x_S} (h : z_Rel σ τ) (a1 a2 : Int32) : z_op (fX7_make a1 a2 σ) (fX8_make a1 a2 τ) z_Rel := by
  obtain ⟨v, n, p, V, ht, hst, hn, hp, k1, k2, k3, hV, hpast⟩ := h.2.2.2.2.1
  have h7 := ht.1.2.1
  have h6 := ht.1.2.2.1
  have h5 := ht.1.2.2.2.1
  unfold z_op fX7_make fX8_make
  rcases ht.ges a1 with ⟨h1, h2⟩ | ⟨g, hg, rfl, h1, h2⟩
  · rw [h1, h2, z_p, z_p, if_pos rfl, if_pos rfl]; exact ⟨_, _, _, rfl, rfl, h⟩
  · rcases ht.str a2 with ⟨h3, h4⟩ | ⟨s, hs, rfl, h3, h4⟩
    · rw [h1, h2, z_p, z_p, if_neg z_10, if_neg z_10, h3, h4, z_p, z_p, if_pos rfl, if_pos rfl]; exact ⟨_, _, _, rfl, rfl, h⟩
    · rw [h1, h2, z_p, z_p, if_neg z_10, if_neg z_10, h3, h4, z_p, z_p, if_neg z_10, if_neg z_10, z_Sseen ht.2.1 ht.1 hg hs, z_Mseen ht.2.2 ht.1 hg hs, z_p, z_p]
      by_cases c : z_seen v g s = true
      · rw [if_neg (by rw [c]; decide), if_neg (by rw [c]; decide), z_SD ht.2.1 ht.1 hg hs, z_MD ht.2.2 ht.1 hg hs, z_p, z_p]
        have hD := z_D_le ht.1 hg hs
        have e2 : σ 32 2 = nI (v 3) := ht.2.1.2.2.2.1
        have m2 : τ 1 3 = nI (v 3) := ht.2.2.2.2.2.1
        have cS : (σ 32 2 + nI (z_D v g s) ≤ 99999) ↔ v 3 + z_D v g s ≤ 99999 := by
          rw [e2, nI_add]; exact z_leL (y := (99999 : Int32)) 99999 rfl (by omega) (by decide)
        have cM : (τ 1 (3 : Int32).toNatClampNeg + nI (z_D v g s) ≤ 99999) ↔ v 3 + z_D v g s ≤ 99999 := by
          rw [z_c3, m2, nI_add]; exact z_leL (y := (99999 : Int32)) 99999 rfl (by omega) (by decide)
        by_cases q : v 3 + z_D v g s ≤ 99999
        · rw [if_pos (cS.mpr q), if_pos (cM.mpr q)]
          obtain ⟨-, -, -, -, e39⟩ := ht.2.1.2.2.2.2.2.2 g hg
          have e39 : σ 39 g = nI (v (43 + g)) := e39
          obtain ⟨-, -, -, -, m43⟩ := ht.2.2.2.2.2.2.2.2 g hg
          rw [Nat.zero_add] at m43
          have hS1 := z_S_paid (z_S_made ht.2.1 h7 h6 (show g < 6 by omega) (v (43 + g) + 1)) (by rw [z_setn (by omega)]; exact h7) (by rw [z_setn (by omega)]; exact h6) (v 3 + z_D v g s)
          obtain ⟨σ2, s1, s2, τ1, t1, t2, key⟩ := z_act h ht hst hn hp k1 k2 k3 hV hpast (σ1 := x_u (x_u σ 39 g (nI (v (43 + g) + 1))) 32 2 (nI (v 3 + z_D v g s))) (v' := z_set (z_set v (43 + g) (v (43 + g) + 1)) 3 (v 3 + z_D v g s)) (d := 0) (w := g) (x := z_D v g s) (Or.inl ⟨rfl, by rw [z_setn (by omega), z_setn (by omega)]; exact hg, by rw [z_setn (by omega), z_sete]; omega, by rw [z_sete]; omega⟩) (by
              rw [z_undo0, z_set2 (v := z_set v (43 + g) (v (43 + g) + 1)) (K := 3) _ (by rw [z_sete, z_setn (by omega)]; omega)]
              exact z_set2 _ (by rw [z_setn (by omega), z_sete]; omega)) (z_ok_set (z_ok_set ht.1 (by omega) (by omega) (by omega) (by omega) (by omega) (by omega) (by omega) (by omega) (by omega) (by omega) (by omega)) (by decide) (by decide) (by decide) (fun _ => q) (by omega) (by omega) (by omega) (by omega) (by omega) (by omega) (by omega)) (fun c hc => (z_uk (by omega)).trans (z_uk (by omega))) ((z_ui (by decide)).trans (congrFun (z_uk (by decide)) 0)) hS1
          have s1 : fX0_keep 0 (nI g) (nI (z_D v g s)) (x_u (x_u σ 39 g (nI (v (43 + g) + 1))) 32 2 (nI (v 3 + z_D v g s))) = some σ2 := s1
          have ew : x_u σ 39 g (nI (v (43 + g) + 1)) 32 2 = nI (v 3) := (congrFun (z_uk (by decide)) 2).trans e2
          have ew2 : x_u τ1 1 3 (nI (v 3 + z_D v g s)) 1 (43 + g) = nI (v (43 + g)) := by rw [z_ui (by omega), t2 _ (by omega)]; exact m43
          rw [z_gi (n := 6) (by omega) (by decide), z_gi (n := 6) (by omega) (by decide), z_w, z_w, z_cl (by omega), e39, nI_1, ew, nI_add, s1, z_v, t1, z_v, z_g z_r3, z_w, z_c3, m2, nI_add, show (43 : Int32) + nI g = nI (43 + g) from nI_add 43 g, z_gi (n := 1372) (by omega) (by decide), z_gi (n := 1372) (by omega) (by decide), z_w, z_cl (by omega), ew2, nI_1]
          refine ⟨nI (v 3 + z_D v g s), σ2, _, ?_, rfl, key _ (fun c hc => (z_uk hc).trans (z_uk hc)) (fun j hj => (z_ui (by omega)).trans (z_ui (by omega))) ?_⟩
          · rw [s2 32 (by omega), z_us]
          · rw [z_set_comm (by omega)]
            exact z_M_set (z_M_set (z_M_c ht.2.2 ⟨h7, h6⟩ (fun k hk => by rw [Nat.zero_add]; exact t2 k hk)) (by decide) (by decide) _) (by omega) (by omega) _
        · rw [if_neg (fun z => q (cS.mp z)), if_neg (fun z => q (cM.mp z))]
          exact ⟨_, _, _, rfl, rfl, h⟩
      · rw [if_pos (z_B0.mpr (by simpa using c)), if_pos (z_B0.mpr (by simpa using c))]; exact ⟨_, _, _, rfl, rfl, h⟩
/-- dim -/
theorem o_dim {σ τ : x_S} (h : z_Rel σ τ) (a1 a2 : Int32) : z_op (fX7_dim a1 a2 σ) (fX8_dim a1 a2 τ) z_Rel := by
  obtain ⟨v, n, p, V, ht, hst, hn, hp, k1, k2, k3, hV, hpast⟩ := h.2.2.2.2.1
  have h7 := ht.1.2.1
  have h6 := ht.1.2.2.1
  unfold z_op fX7_dim fX8_dim
  rcases ht.str a1 with ⟨h1, h2⟩ | ⟨s, hs, rfl, h1, h2⟩
  · rw [h1, h2, z_p, z_p, if_pos rfl, if_pos rfl]; exact ⟨_, _, _, rfl, rfl, h⟩
  · rw [h1, h2, z_p, z_p, if_neg z_10, if_neg z_10, z_isWithin, show (0 : Int64) = (0 : Int32).toInt64 from rfl, show (30 : Int64) = (30 : Int32).toInt64 from rfl, z_in64, z_p, z_p]
    by_cases q : z_W a2 0 30 = 0
    · rw [if_pos q, if_pos q]; exact ⟨_, _, _, rfl, rfl, h⟩
    · rw [if_neg q, if_neg q]
      obtain ⟨y, hy, rfl⟩ := z_W3 (n := 30) (by decide) q
      have e33 : σ 33 s = nI (v (5 + s)) := (ht.2.1.2.2.2.2.2.1 s hs).1
      have m5 := (ht.2.2.2.2.2.2.2.1 s hs).1
      rw [Nat.zero_add] at m5
      have hd := (ht.1.2.2.2.2.2.1 s hs).1
      obtain ⟨σ2, s1, s2, τ1, t1, t2, key⟩ := z_act h ht hst hn hp k1 k2 k3 hV hpast (σ1 := x_u σ 33 s (nI y)) (v' := z_set v (5 + s) y) (d := 1) (w := s) (x := v (5 + s)) (Or.inr (Or.inl ⟨rfl, by rw [z_setn (by omega)]; exact hs, hd⟩)) (by
          rw [z_undo1]
          exact z_set2 _ rfl) (z_ok_set ht.1 (by omega) (by omega) (by omega) (by omega) (by omega) (fun _ _ _ => hy) (by omega) (by omega) (by omega) (by omega) (by omega)) (fun c hc => z_uk (by omega)) (congrFun (z_uk (by decide)) 0) (z_S_dim ht.2.1 h7 h6 (by omega) y)
      have s1 : fX0_keep 1 (nI s) (nI (v (5 + s))) (x_u σ 33 s (nI y)) = some σ2 := s1
      have ew2 : τ1 1 (5 + s) = nI (v (5 + s)) := by rw [t2 _ (by omega)]; exact m5
      rw [z_gi (n := 7) (by omega) (by decide), z_gi (n := 7) (by omega) (by decide), z_w, z_cl (by omega), e33, s1, z_v, t1, z_v, show (5 : Int32) + nI s = nI (5 + s) from nI_add 5 s, z_gi (n := 1372) (by omega) (by decide), z_gi (n := 1372) (by omega) (by decide), z_w, z_cl (by omega), ew2]
      exact ⟨_, _, _, rfl, rfl, key _ (fun c hc => z_uk hc) (fun j hj => z_ui (by omega)) (z_M_set (z_M_c ht.2.2 ⟨h7, h6⟩ (fun k hk => by rw [Nat.zero_add]; exact t2 k hk)) (by omega) (by omega) _)⟩
theorem z_m1 : ∀ i, i < 31 → ∀ y, y < 31 → ((1 ≤ nI i - nI y) ↔ y + 1 ≤ i) := by decide +kernel
/-- train -/
theorem o_train {σ τ : x_S} (h : z_Rel σ τ) (a1 a2 : Int32) : z_op (fX7_train a1 a2 σ) (fX8_train a1 a2 τ) z_Rel := by
  obtain ⟨v, n, p, V, ht, hst, hn, hp, k1, k2, k3, hV, hpast⟩ := h.2.2.2.2.1
  have h7 := ht.1.2.1
  have h6 := ht.1.2.2.1
  unfold z_op fX7_train fX8_train
  rcases ht.ges a1 with ⟨h1, h2⟩ | ⟨g, hg, rfl, h1, h2⟩
  · rw [h1, h2, z_p, z_p, if_pos rfl, if_pos rfl]; exact ⟨_, _, _, rfl, rfl, h⟩
  · rw [h1, h2, z_p, z_p, if_neg z_10, if_neg z_10, z_isWithin, show (1 : Int64) = (1 : Int32).toInt64 from rfl, show (29 : Int64) = (29 : Int32).toInt64 from rfl, z_in64, z_p, z_p]
    by_cases q : z_W a2 1 29 = 0
    · rw [if_pos q, if_pos q]; exact ⟨_, _, _, rfl, rfl, h⟩
    · rw [if_neg q, if_neg q]
      obtain ⟨y, hy1, hy, rfl⟩ := z_W4 (m := 1) (n := 29) (by decide) (by decide) q
      have e36 : σ 36 g = nI (v (25 + g)) := (ht.2.1.2.2.2.2.2.2 g hg).2.1
      have m25 := (ht.2.2.2.2.2.2.2.2 g hg).2.1
      rw [Nat.zero_add] at m25
      have hd := (ht.1.2.2.2.2.2.2 g hg).2.1
      have z1 := z_m1 (v (25 + g)) (by omega) y (by omega)
      rw [z_gi (n := 6) (by omega) (by decide), show (25 : Int32) + nI g = nI (25 + g) from nI_add 25 g, z_gi (n := 1372) (by omega) (by decide)]
      have eS : (nI g).toNatClampNeg = g := z_cl (by omega)
      have eM : (nI (25 + g)).toNatClampNeg = 25 + g := z_cl (by omega)
      have cS : (1 ≤ σ 36 (nI g).toNatClampNeg - nI y) ↔ y + 1 ≤ v (25 + g) := by rw [eS, e36]; exact z1
      have cM : (1 ≤ τ 1 (nI (25 + g)).toNatClampNeg - nI y) ↔ y + 1 ≤ v (25 + g) := by rw [eM, m25]; exact z1
      by_cases c : y + 1 ≤ v (25 + g)
      · rw [if_pos (cS.mpr c), if_pos (cM.mpr c)]
        have esub : nI (v (25 + g)) - nI y = nI (v (25 + g) - y) := pk_sub (by omega)
        obtain ⟨σ2, s1, s2, τ1, t1, t2, key⟩ := z_act h ht hst hn hp k1 k2 k3 hV hpast (σ1 := x_u σ 36 g (nI (v (25 + g) - y))) (v' := z_set v (25 + g) (v (25 + g) - y)) (d := 2) (w := g) (x := y) (Or.inr (Or.inr (Or.inl ⟨rfl, by rw [z_setn (by omega)]; exact hg, hy1, by rw [z_sete]; omega⟩))) (by
            rw [z_undo2]
            exact z_set2 _ (by rw [z_sete]; omega)) (z_ok_set ht.1 (by omega) (by omega) (by omega) (by omega) (by omega) (by omega) (by omega) (by omega) (fun _ _ _ => by omega) (by omega) (by omega)) (fun c hc => z_uk (by omega)) (congrFun (z_uk (by decide)) 0) (z_S_inch ht.2.1 h7 h6 (by omega) _)
        have s1 : fX0_keep 2 (nI g) (nI y) (x_u σ 36 g (nI (v (25 + g) - y))) = some σ2 := s1
        have ew2 : τ1 1 (25 + g) = nI (v (25 + g)) := by rw [t2 _ (by omega)]; exact m25
        have w36 : x_u σ 36 (nI g).toNatClampNeg (σ 36 (nI g).toNatClampNeg - nI y) = x_u σ 36 g (nI (v (25 + g) - y)) := by rw [eS, e36, esub]
        rw [z_gi (n := 6) (by omega) (by decide), z_gi (n := 6) (by omega) (by decide), z_w, w36, s1, z_v, z_gi (n := 6) (by omega) (by decide), eS, t1, z_v, z_gi (n := 1372) (by omega) (by decide), z_gi (n := 1372) (by omega) (by decide), z_w, z_gi (n := 1372) (by omega) (by decide), eM, ew2, esub]
        refine ⟨nI (v (25 + g) - y), σ2, _, ?_, ?_, key _ (fun c hc => z_uk hc) (fun j hj => z_ui (by omega)) (z_M_set (z_M_c ht.2.2 ⟨h7, h6⟩ (fun k hk => by rw [Nat.zero_add]; exact t2 k hk)) (by omega) (by omega) _)⟩
        · rw [s2 36 (by omega), z_us]
        · rw [z_us]
      · rw [if_neg (fun z => c (cS.mp z)), if_neg (fun z => c (cM.mp z))]; exact ⟨_, _, _, rfl, rfl, h⟩
/-- know -/
theorem o_know {σ τ : x_S} (h : z_Rel σ τ) (a1 a2 : Int32) : z_op (fX7_know a1 a2 σ) (fX8_know a1 a2 τ) z_Rel := by
  obtain ⟨v, n, p, V, ht, hst, hn, hp, k1, k2, k3, hV, hpast⟩ := h.2.2.2.2.1
  have h7 := ht.1.2.1
  have h6 := ht.1.2.2.1
  have h128 := ht.1.2.2.2.2.1
  unfold z_op fX7_know fX8_know
  rcases ht.str a1 with ⟨h1, h2⟩ | ⟨s, hs, rfl, h1, h2⟩
  · rw [h1, h2, z_p, z_p, if_pos rfl, if_pos rfl]; exact ⟨_, _, _, rfl, rfl, h⟩
  · rw [h1, h2, z_p, z_p, if_neg z_10, if_neg z_10, z_isWithin, show (0 : Int64) = (0 : Int32).toInt64 from rfl, show (1 : Int64) = (1 : Int32).toInt64 from rfl, z_in64, z_p, z_p]
    by_cases q : z_W a2 0 1 = 0
    · rw [if_pos q, if_pos q]; exact ⟨_, _, _, rfl, rfl, h⟩
    · rw [if_neg q, if_neg q]
      have e4 : σ 32 4 = nI (v 4) := ht.2.1.2.2.2.2.1
      have m4 : τ 1 4 = nI (v 4) := ht.2.2.2.2.2.2.1
      have hb := z_bit (v 4) h128 s (by omega)
      obtain ⟨x1, x2, x3⟩ := z_xor (v 4) h128 s (by omega)
      have kS : fX2_isKnown 32 (nI s) σ = some (z_B ((v 4).testBit s)) := by
        unfold fX2_isKnown
        rw [e4]
        by_cases c : (v 4).testBit s = true
        · rw [if_pos (hb.mpr c), c]; rfl
        · rw [if_neg (fun z => c (hb.mp z)), show (v 4).testBit s = false by simpa using c]; rfl
      have kM : fX8_has (nI (v 4)) (nI s) τ = some (z_B ((v 4).testBit s)) := by
        unfold fX8_has
        by_cases c : (v 4).testBit s = true
        · rw [if_pos (hb.mpr c), c]; rfl
        · rw [if_neg (fun z => c (hb.mp z)), show (v 4).testBit s = false by simpa using c]; rfl
      rw [kS, z_c4, m4, kM, z_p, z_p]
      have fin : ∀ y0 : Int32, z_op (bX7_know_38 (nI s) y0 (z_B ((v 4).testBit s)) σ) (bX8_know_41 (nI s) y0 (z_B ((v 4).testBit s)) τ) z_Rel := by
        intro y0
        unfold z_op bX7_know_38 bX8_know_41
        by_cases c : z_B ((v 4).testBit s) = y0
        · rw [if_pos c, if_pos c]; exact ⟨_, _, _, rfl, rfl, h⟩
        · rw [if_neg c, if_neg c]
          obtain ⟨σ2, s1, s2, τ1, t1, t2, key⟩ := z_act h ht hst hn hp k1 k2 k3 hV hpast (σ1 := x_u σ 32 4 (nI (v 4 ^^^ (1 <<< s)))) (v' := z_set v 4 (v 4 ^^^ (1 <<< s))) (d := 3) (w := s) (x := 0) (Or.inr (Or.inr (Or.inr ⟨rfl, by rw [z_setn (by omega)]; exact hs, rfl⟩))) (by
              rw [z_undo3]
              exact z_set2 _ (by rw [z_sete]; exact x3)) (z_ok_set ht.1 (by decide) (by decide) (by decide) (by omega) (fun _ => x2) (by omega) (by omega) (by omega) (by omega) (by omega) (by omega)) (fun c hc => z_uk (by omega)) (z_ui (by decide)) (z_S_known ht.2.1 h7 h6 _)
          have s1 : fX0_keep 3 (nI s) 0 (x_u σ 32 4 (nI (v 4 ^^^ (1 <<< s)))) = some σ2 := s1
          have ew2 : τ1 1 4 = nI (v 4) := by rw [t2 _ (by omega)]; exact m4
          unfold fX2_turnKnown
          rw [e4, x1, z_w, z_v, s1, z_v, t1, z_v, z_g z_r4, z_w, z_c4, ew2, x1]
          refine ⟨nI (v 4 ^^^ (1 <<< s)), σ2, _, ?_, ?_, key _ (fun c hc => z_uk hc) (fun j hj => z_ui (by omega)) (z_M_set (z_M_c ht.2.2 ⟨h7, h6⟩ (fun k hk => by rw [Nat.zero_add]; exact t2 k hk)) (by omega) (by omega) _)⟩
          · rw [s2 32 (by omega), z_us]
          · rw [z_us]
      by_cases c : a2 = 1
      · rw [if_pos c, if_pos c]; exact fin 1
      · rw [if_neg c, if_neg c]; exact fin 0
theorem z_undo_ok {v : z_V} {d w x : Nat} (hv : z_ok v) (h : z_actok d w x v) : z_ok (z_undo d w x v) := by
  have h7 := hv.2.1
  have h6 := hv.2.2.1
  have h5 := hv.2.2.2.1
  rcases h with ⟨rfl, hw, h1, h2⟩ | ⟨rfl, hw, h1⟩ | ⟨rfl, hw, h1, h2⟩ | ⟨rfl, hw, h1⟩
  · rw [z_undo0]
    exact z_ok_set (z_ok_set hv (by decide) (by decide) (by decide) (fun _ => by omega) (by omega) (by omega) (by omega) (by omega) (by omega) (by omega) (by omega)) (by omega) (by omega) (by omega) (by omega) (by omega) (by omega) (by omega) (by omega) (by omega) (by omega) (by omega)
  · rw [z_undo1]
    exact z_ok_set hv (by omega) (by omega) (by omega) (by omega) (by omega) (fun _ _ _ => h1) (by omega) (by omega) (by omega) (by omega) (by omega)
  · rw [z_undo2]
    exact z_ok_set hv (by omega) (by omega) (by omega) (by omega) (by omega) (by omega) (by omega) (by omega) (fun _ _ _ => by omega) (by omega) (by omega)
  · rw [z_undo3]
    exact z_ok_set hv (by decide) (by decide) (by decide) (by omega) (fun _ => (z_xor (v 4) hv.2.2.2.2.1 w (by omega)).2.1) (by omega) (by omega) (by omega) (by omega) (by omega) (by omega)
end
section
/-! ===== pure: undo, image, restore ===== -/
theorem z_setf {A B : x_S} {c0 c1 i : Nat} (h : x_u A c0 i (A c1 i) = B) : (∀ c, c ≠ c0 → B c = A c) ∧ B c0 i = A c1 i ∧ ∀ j, j ≠ i → B c0 j = A c0 j := by
  subst h
  exact ⟨fun c hc => z_uk hc, z_us _ _ _ _, fun j hj => z_ui hj⟩
theorem z_setr {A B : x_S} {k k' n : Nat} (h : x_r A k (va_cpy (A k') (A k) (0 : Int32).toNatClampNeg (0 : Int32).toNatClampNeg n) = B) : (∀ c, c ≠ k → B c = A c) ∧ ∀ j, j < n → B k j = A k' j := by
  subst h
  refine ⟨fun c hc => by rw [z_r, if_neg hc], fun j hj => ?_⟩
  rw [z_r, if_pos rfl, z_c0, pk_cpy_in (by omega) (by omega)]
  congr 1
  omega
theorem z_become {σ : x_S} {c0 c1 : Nat} {v : z_V} (hc : c0 + 8 ≤ c1 ∨ c1 + 8 ≤ c0) (hS : z_S σ c1 v) (hk : σ c1 0 = 0 ∨ σ c1 0 = 1) (hv1 : v 1 ≤ 7) (hv2 : v 2 ≤ 6) : ∃ σ', fX2_become c0 c1 σ = some σ' ∧ (∀ c, (c < c0 ∨ c0 + 8 ≤ c) → σ' c = σ c) ∧ z_S σ' c0 v ∧ σ' c0 0 = σ c1 0 := by
  have g7 : ¬ (0 : Int32) < 0 ∧ ¬ (0 : Int32) < 0 ∧ ¬ (7 : Int32) < 0 ∧ (0 : Int32).toNatClampNeg + (7 : Int32).toNatClampNeg ≤ 7 ∧ (0 : Int32).toNatClampNeg + (7 : Int32).toNatClampNeg ≤ 7 := by decide
  have g6 : ¬ (0 : Int32) < 0 ∧ ¬ (0 : Int32) < 0 ∧ ¬ (6 : Int32) < 0 ∧ (0 : Int32).toNatClampNeg + (6 : Int32).toNatClampNeg ≤ 6 ∧ (0 : Int32).toNatClampNeg + (6 : Int32).toNatClampNeg ≤ 6 := by decide
  unfold fX2_become
  rw [z_g hk]
  rw [z_w]
  generalize q0 : x_u σ c0 0 (σ c1 0) = t1
  have a0 := z_setf q0
  rw [z_w]
  generalize q1 : x_u t1 c0 1 (t1 c1 1) = t2
  have a1 := z_setf q1
  rw [z_w]
  generalize q2 : x_u t2 c0 2 (t2 c1 2) = t3
  have a2 := z_setf q2
  rw [z_w]
  generalize q3 : x_u t3 c0 3 (t3 c1 3) = t4
  have a3 := z_setf q3
  rw [z_w]
  generalize q4 : x_u t4 c0 4 (t4 c1 4) = t5
  have a4 := z_setf q4
  rw [z_w]
  generalize q5 : x_u t5 c0 5 (t5 c1 5) = t6
  have a5 := z_setf q5
  rw [z_g g7, z_w]
  generalize r1 : x_r t6 (c0 + 1) (va_cpy (t6 (c1 + 1)) (t6 (c0 + 1)) (0 : Int32).toNatClampNeg (0 : Int32).toNatClampNeg (7 : Int32).toNatClampNeg) = t7
  have b1 := z_setr r1
  rw [z_g g7, z_w]
  generalize r2 : x_r t7 (c0 + 2) (va_cpy (t7 (c1 + 2)) (t7 (c0 + 2)) (0 : Int32).toNatClampNeg (0 : Int32).toNatClampNeg (7 : Int32).toNatClampNeg) = t8
  have b2 := z_setr r2
  rw [z_g g6, z_w]
  generalize r3 : x_r t8 (c0 + 3) (va_cpy (t8 (c1 + 3)) (t8 (c0 + 3)) (0 : Int32).toNatClampNeg (0 : Int32).toNatClampNeg (6 : Int32).toNatClampNeg) = t9
  have b3 := z_setr r3
  rw [z_g g6, z_w]
  generalize r4 : x_r t9 (c0 + 4) (va_cpy (t9 (c1 + 4)) (t9 (c0 + 4)) (0 : Int32).toNatClampNeg (0 : Int32).toNatClampNeg (6 : Int32).toNatClampNeg) = t10
  have b4 := z_setr r4
  rw [z_g g6, z_w]
  generalize r5 : x_r t10 (c0 + 5) (va_cpy (t10 (c1 + 5)) (t10 (c0 + 5)) (0 : Int32).toNatClampNeg (0 : Int32).toNatClampNeg (6 : Int32).toNatClampNeg) = t11
  have b5 := z_setr r5
  rw [z_g g6, z_w]
  generalize r6 : x_r t11 (c0 + 6) (va_cpy (t11 (c1 + 6)) (t11 (c0 + 6)) (0 : Int32).toNatClampNeg (0 : Int32).toNatClampNeg (6 : Int32).toNatClampNeg) = t12
  have b6 := z_setr r6
  rw [z_g g6, z_w]
  generalize r7 : x_r t12 (c0 + 7) (va_cpy (t12 (c1 + 7)) (t12 (c0 + 7)) (0 : Int32).toNatClampNeg (0 : Int32).toNatClampNeg (6 : Int32).toNatClampNeg) = t13
  have b7 := z_setr r7
  have fr : ∀ c, (c < c0 ∨ c0 + 8 ≤ c) → t13 c = σ c := fun c hc2 => (b7.1 c (by omega)).trans ((b6.1 c (by omega)).trans ((b5.1 c (by omega)).trans ((b4.1 c (by omega)).trans ((b3.1 c (by omega)).trans ((b2.1 c (by omega)).trans ((b1.1 c (by omega)).trans ((a5.1 c (by omega)).trans ((a4.1 c (by omega)).trans ((a3.1 c (by omega)).trans ((a2.1 c (by omega)).trans ((a1.1 c (by omega)).trans (a0.1 c (by omega)))))))))))))
  have e1 : ∀ c, (c < c0 ∨ c0 < c) → t1 c = σ c := fun c hc2 => a0.1 c (by omega)
  have e2 : ∀ c, (c < c0 ∨ c0 < c) → t2 c = σ c := fun c hc2 => (a1.1 c (by omega)).trans (a0.1 c (by omega))
  have e3 : ∀ c, (c < c0 ∨ c0 < c) → t3 c = σ c := fun c hc2 => (a2.1 c (by omega)).trans ((a1.1 c (by omega)).trans (a0.1 c (by omega)))
  have e4 : ∀ c, (c < c0 ∨ c0 < c) → t4 c = σ c := fun c hc2 => (a3.1 c (by omega)).trans ((a2.1 c (by omega)).trans ((a1.1 c (by omega)).trans (a0.1 c (by omega))))
  have e5 : ∀ c, (c < c0 ∨ c0 < c) → t5 c = σ c := fun c hc2 => (a4.1 c (by omega)).trans ((a3.1 c (by omega)).trans ((a2.1 c (by omega)).trans ((a1.1 c (by omega)).trans (a0.1 c (by omega)))))
  have e6 : ∀ c, (c < c0 ∨ c0 < c) → t6 c = σ c := fun c hc2 => (a5.1 c (by omega)).trans ((a4.1 c (by omega)).trans ((a3.1 c (by omega)).trans ((a2.1 c (by omega)).trans ((a1.1 c (by omega)).trans (a0.1 c (by omega))))))
  have f0 : t13 c0 = t6 c0 := (b7.1 c0 (by omega)).trans ((b6.1 c0 (by omega)).trans ((b5.1 c0 (by omega)).trans ((b4.1 c0 (by omega)).trans ((b3.1 c0 (by omega)).trans ((b2.1 c0 (by omega)).trans (b1.1 c0 (by omega)))))))
  have s0 : t13 c0 0 = σ c1 0 := (congrFun f0 0).trans ((a5.2.2 0 (by decide)).trans ((a4.2.2 0 (by decide)).trans ((a3.2.2 0 (by decide)).trans ((a2.2.2 0 (by decide)).trans ((a1.2.2 0 (by decide)).trans (a0.2.1))))))
  have s1 : t13 c0 1 = σ c1 1 := (congrFun f0 1).trans ((a5.2.2 1 (by decide)).trans ((a4.2.2 1 (by decide)).trans ((a3.2.2 1 (by decide)).trans ((a2.2.2 1 (by decide)).trans ((a1.2.1).trans (congrFun (e1 c1 (by omega)) 1))))))
  have s2 : t13 c0 2 = σ c1 2 := (congrFun f0 2).trans ((a5.2.2 2 (by decide)).trans ((a4.2.2 2 (by decide)).trans ((a3.2.2 2 (by decide)).trans ((a2.2.1).trans (congrFun (e2 c1 (by omega)) 2)))))
  have s3 : t13 c0 3 = σ c1 3 := (congrFun f0 3).trans ((a5.2.2 3 (by decide)).trans ((a4.2.2 3 (by decide)).trans ((a3.2.1).trans (congrFun (e3 c1 (by omega)) 3))))
  have s4 : t13 c0 4 = σ c1 4 := (congrFun f0 4).trans ((a5.2.2 4 (by decide)).trans ((a4.2.1).trans (congrFun (e4 c1 (by omega)) 4)))
  have s5 : t13 c0 5 = σ c1 5 := (congrFun f0 5).trans ((a5.2.1).trans (congrFun (e5 c1 (by omega)) 5))
  have m1 : ∀ j, j < 7 → t13 (c0 + 1) j = σ (c1 + 1) j := fun j hj => (congrFun (b7.1 (c0 + 1) (by omega)) j).trans ((congrFun (b6.1 (c0 + 1) (by omega)) j).trans ((congrFun (b5.1 (c0 + 1) (by omega)) j).trans ((congrFun (b4.1 (c0 + 1) (by omega)) j).trans ((congrFun (b3.1 (c0 + 1) (by omega)) j).trans ((congrFun (b2.1 (c0 + 1) (by omega)) j).trans ((b1.2 j hj).trans (congrFun (e6 (c1 + 1) (by omega)) j)))))))
  have m2 : ∀ j, j < 7 → t13 (c0 + 2) j = σ (c1 + 2) j := fun j hj => (congrFun (b7.1 (c0 + 2) (by omega)) j).trans ((congrFun (b6.1 (c0 + 2) (by omega)) j).trans ((congrFun (b5.1 (c0 + 2) (by omega)) j).trans ((congrFun (b4.1 (c0 + 2) (by omega)) j).trans ((congrFun (b3.1 (c0 + 2) (by omega)) j).trans ((b2.2 j hj).trans ((congrFun (b1.1 (c1 + 2) (by omega)) j).trans (congrFun (e6 (c1 + 2) (by omega)) j)))))))
  have m3 : ∀ j, j < 6 → t13 (c0 + 3) j = σ (c1 + 3) j := fun j hj => (congrFun (b7.1 (c0 + 3) (by omega)) j).trans ((congrFun (b6.1 (c0 + 3) (by omega)) j).trans ((congrFun (b5.1 (c0 + 3) (by omega)) j).trans ((congrFun (b4.1 (c0 + 3) (by omega)) j).trans ((b3.2 j hj).trans ((congrFun (b2.1 (c1 + 3) (by omega)) j).trans ((congrFun (b1.1 (c1 + 3) (by omega)) j).trans (congrFun (e6 (c1 + 3) (by omega)) j)))))))
  have m4 : ∀ j, j < 6 → t13 (c0 + 4) j = σ (c1 + 4) j := fun j hj => (congrFun (b7.1 (c0 + 4) (by omega)) j).trans ((congrFun (b6.1 (c0 + 4) (by omega)) j).trans ((congrFun (b5.1 (c0 + 4) (by omega)) j).trans ((b4.2 j hj).trans ((congrFun (b3.1 (c1 + 4) (by omega)) j).trans ((congrFun (b2.1 (c1 + 4) (by omega)) j).trans ((congrFun (b1.1 (c1 + 4) (by omega)) j).trans (congrFun (e6 (c1 + 4) (by omega)) j)))))))
  have m5 : ∀ j, j < 6 → t13 (c0 + 5) j = σ (c1 + 5) j := fun j hj => (congrFun (b7.1 (c0 + 5) (by omega)) j).trans ((congrFun (b6.1 (c0 + 5) (by omega)) j).trans ((b5.2 j hj).trans ((congrFun (b4.1 (c1 + 5) (by omega)) j).trans ((congrFun (b3.1 (c1 + 5) (by omega)) j).trans ((congrFun (b2.1 (c1 + 5) (by omega)) j).trans ((congrFun (b1.1 (c1 + 5) (by omega)) j).trans (congrFun (e6 (c1 + 5) (by omega)) j)))))))
  have m6 : ∀ j, j < 6 → t13 (c0 + 6) j = σ (c1 + 6) j := fun j hj => (congrFun (b7.1 (c0 + 6) (by omega)) j).trans ((b6.2 j hj).trans ((congrFun (b5.1 (c1 + 6) (by omega)) j).trans ((congrFun (b4.1 (c1 + 6) (by omega)) j).trans ((congrFun (b3.1 (c1 + 6) (by omega)) j).trans ((congrFun (b2.1 (c1 + 6) (by omega)) j).trans ((congrFun (b1.1 (c1 + 6) (by omega)) j).trans (congrFun (e6 (c1 + 6) (by omega)) j)))))))
  have m7 : ∀ j, j < 6 → t13 (c0 + 7) j = σ (c1 + 7) j := fun j hj => (b7.2 j hj).trans ((congrFun (b6.1 (c1 + 7) (by omega)) j).trans ((congrFun (b5.1 (c1 + 7) (by omega)) j).trans ((congrFun (b4.1 (c1 + 7) (by omega)) j).trans ((congrFun (b3.1 (c1 + 7) (by omega)) j).trans ((congrFun (b2.1 (c1 + 7) (by omega)) j).trans ((congrFun (b1.1 (c1 + 7) (by omega)) j).trans (congrFun (e6 (c1 + 7) (by omega)) j)))))))
  obtain ⟨z0, z1, z2, z3, z4, zs, zg⟩ := hS
  refine ⟨t13, rfl, fr, ⟨s1.trans z0, s3.trans z1, s5.trans z2, s2.trans z3, s4.trans z4, fun s hs => ?_, fun g hg => ?_⟩, s0⟩
  · obtain ⟨w1, w2⟩ := zs s hs
    exact ⟨(m1 s (by omega)).trans w1, (m2 s (by omega)).trans w2⟩
  · obtain ⟨w1, w2, w3, w4, w5⟩ := zg g hg
    exact ⟨(m3 g (by omega)).trans w1, (m4 g (by omega)).trans w2, (m5 g (by omega)).trans w3, (m6 g (by omega)).trans w4, (m7 g (by omega)).trans w5⟩
end
section
theorem z_take {σ : x_S} {v : z_V} {n p d w x : Nat} (hS : z_S σ 32 v) (hv : z_ok v) (hn0 : 1 ≤ n) (hn : n ≤ 24) (hp : p < 24) (h3 : σ 16 3 = nI p) (h4 : σ 16 4 = nI n) (d1 : σ 17 ((p + 23) % 24) = nI d) (d2 : σ 18 ((p + 23) % 24) = nI w) (d3 : σ 19 ((p + 23) % 24) = nI x) (ha : z_actok d w x v) : ∃ σ', fX0_takeBack 32 σ = some σ' ∧ (∀ c, c ≠ 16 → (c < 32 ∨ 40 ≤ c) → σ' c = σ c) ∧ σ' 16 3 = nI ((p + 23) % 24) ∧ σ' 16 4 = nI (n - 1) ∧ σ' 32 0 = σ 32 0 ∧ z_S σ' 32 (z_undo d w x v) := by
  have h7 := hv.2.1
  have h6 := hv.2.2.1
  have hp2 : (p + 23) % 24 < 24 := Nat.mod_lt _ (by decide)
  have e1 : ((nI p + 24) - 1) - ((nI p + 24) - 1) / 24 * 24 = nI ((p + 23) % 24) := by
    have : ∀ p, p < 24 → ((nI p + 24) - 1) - ((nI p + 24) - 1) / 24 * 24 = nI ((p + 23) % 24) := by decide +kernel
    exact this p hp
  have e2 : nI n - 1 = nI (n - 1) := pk_sub (a := n) (b := 1) hn0
  unfold fX0_takeBack
  rw [h3, e1, z_w]
  generalize q1 : x_u σ 16 3 (nI ((p + 23) % 24)) = t1
  have a1 : ∀ c, c ≠ 16 → t1 c = σ c := fun c hc => by rw [← q1]; exact z_uk hc
  have a2 : t1 16 3 = nI ((p + 23) % 24) := by rw [← q1]; exact z_us _ _ _ _
  have a3 : t1 16 4 = nI n := by rw [← q1, z_ui (by decide)]; exact h4
  rw [a3, e2, z_w]
  generalize q2 : x_u t1 16 4 (nI (n - 1)) = t2
  have b1 : ∀ c, c ≠ 16 → t2 c = σ c := fun c hc => by rw [← q2]; exact (z_uk hc).trans (a1 c hc)
  have b2 : t2 16 3 = nI ((p + 23) % 24) := by rw [← q2, z_ui (by decide)]; exact a2
  have b3 : t2 16 4 = nI (n - 1) := by rw [← q2]; exact z_us _ _ _ _
  have bS : z_S t2 32 v := z_S_c hS (fun k g1 g2 => b1 k (by omega))
  have b0 : t2 32 0 = σ 32 0 := congrFun (b1 32 (by decide)) 0
  generalize hP : (p + 23) % 24 = P at hp2 d1 d2 d3 b2
  rw [b2, z_gi hp2 (by decide), z_gi hp2 (by decide), z_gi hp2 (by decide), z_cl (by omega), b1 17 (by decide), b1 18 (by decide), b1 19 (by decide), d1, d2, d3]
  rcases ha with ⟨rfl, hw, g1, g2⟩ | ⟨rfl, hw, g1⟩ | ⟨rfl, hw, g1, g2⟩ | ⟨rfl, hw, g1⟩
  · have e39 : t2 39 w = nI (v (43 + w)) := (bS.2.2.2.2.2.2 w hw).2.2.2.2
    have s1 : nI (v (43 + w)) - 1 = nI (v (43 + w) - 1) := pk_sub (a := v (43 + w)) (b := 1) g1
    have s2 : nI (v 3) - nI x = nI (v 3 - x) := pk_sub g2
    have w2 : x_u t2 39 w (nI (v (43 + w) - 1)) 32 2 = nI (v 3) := (congrFun (z_uk (by decide)) 2).trans bS.2.2.2.1
    have f := z_S_paid (z_S_made bS h7 h6 (show w < 6 by omega) (v (43 + w) - 1)) (by rw [z_setn (by omega)]; exact h7) (by rw [z_setn (by omega)]; exact h6) (v 3 - x)
    rw [if_pos (show (nI 0 : Int32) = 0 from rfl), z_gi (n := 6) (by omega) (by decide), z_gi (n := 6) (by omega) (by decide), z_w, z_w, z_cl (by omega), e39, s1, w2, s2]
    refine ⟨_, rfl, fun c h1 h2 => ?_, ?_, ?_, ?_, ?_⟩
    · rw [z_uk (by omega), z_uk (by omega)]; exact b1 c h1
    · rw [z_uk (by decide), z_uk (by decide)]; exact b2
    · rw [z_uk (by decide), z_uk (by decide)]; exact b3
    · rw [z_ui (by decide), z_uk (by decide)]; exact b0
    · rw [z_undo0, z_set_comm (by omega)]; exact f
  · have f := z_S_dim bS h7 h6 (show w < 7 by omega) x
    rw [if_neg (show ¬ (nI 1 : Int32) = 0 by decide), if_pos (show (nI 1 : Int32) = 1 from rfl), z_gi (n := 7) (by omega) (by decide), z_w, z_cl (by omega)]
    refine ⟨_, rfl, fun c h1 h2 => ?_, ?_, ?_, ?_, ?_⟩
    · rw [z_uk (by omega)]; exact b1 c h1
    · rw [z_uk (by decide)]; exact b2
    · rw [z_uk (by decide)]; exact b3
    · rw [z_uk (by decide)]; exact b0
    · rw [z_undo1]; exact f
  · have e36 : t2 36 w = nI (v (25 + w)) := (bS.2.2.2.2.2.2 w hw).2.1
    have f := z_S_inch bS h7 h6 (show w < 6 by omega) (v (25 + w) + x)
    rw [if_neg (show ¬ (nI 2 : Int32) = 0 by decide), if_neg (show ¬ (nI 2 : Int32) = 1 by decide), if_pos (show (nI 2 : Int32) = 2 from rfl), z_gi (n := 6) (by omega) (by decide), z_gi (n := 6) (by omega) (by decide), z_w, z_cl (by omega), e36, nI_add]
    refine ⟨_, rfl, fun c h1 h2 => ?_, ?_, ?_, ?_, ?_⟩
    · rw [z_uk (by omega)]; exact b1 c h1
    · rw [z_uk (by decide)]; exact b2
    · rw [z_uk (by decide)]; exact b3
    · rw [z_uk (by decide)]; exact b0
    · rw [z_undo2]; exact f
  · have e4 : t2 32 4 = nI (v 4) := bS.2.2.2.2.1
    have x1 := (z_xor (v 4) hv.2.2.2.2.1 w (by omega)).1
    have f := z_S_known bS h7 h6 (v 4 ^^^ (1 <<< w))
    unfold fX2_turnKnown
    rw [if_neg (show ¬ (nI 3 : Int32) = 0 by decide), if_neg (show ¬ (nI 3 : Int32) = 1 by decide), if_neg (show ¬ (nI 3 : Int32) = 2 by decide), if_pos (show (nI 3 : Int32) = 3 from rfl), e4, x1, z_w, z_v]
    refine ⟨_, rfl, fun c h1 h2 => ?_, ?_, ?_, ?_, ?_⟩
    · rw [z_uk (by omega)]; exact b1 c h1
    · rw [z_uk (by decide)]; exact b2
    · rw [z_uk (by decide)]; exact b3
    · rw [z_ui (by decide)]; exact b0
    · rw [z_undo3]; exact f
/-- undo -/
theorem o_undo {σ τ : x_S} (h : z_Rel σ τ) : z_op (fX7_undo σ) (fX8_undo τ) z_Rel := by
  obtain ⟨v, n, p, V, ht, hst, hn, hp, k1, k2, k3, hV, hpast⟩ := h.2.2.2.2.1
  have h7 := ht.1.2.1
  have h6 := ht.1.2.2.1
  unfold z_op fX7_undo fX8_undo
  by_cases c : n = 0
  · subst c
    rw [if_pos (by rw [k1]; rfl), if_pos (by rw [k2]; rfl)]; exact ⟨_, _, _, rfl, rfl, h⟩
  · have cS : ¬ σ 16 4 = 0 := by rw [k1]; exact fun z => c ((z_eqL (y := (0 : Int32)) 0 rfl (by omega) (by decide)).mp z)
    have cM : ¬ τ 0 2 = 0 := by rw [k2]; exact fun z => c ((z_eqL (y := (0 : Int32)) 0 rfl (by omega) (by decide)).mp z)
    obtain ⟨d, w, x, d1, d2, d3, ha, hu, hM⟩ := hpast 0 (by omega)
    rw [hV] at ha hu
    rw [Nat.sub_zero] at d1 d2 d3 hM
    obtain ⟨σ', s1, s2, s3, s4, s5, s6⟩ := z_take ht.2.1 ht.1 (by omega) hn hp k3 k1 d1 d2 d3 ha
    obtain ⟨τ', t1, t2, t3, t4⟩ := z_copyTown (τ := x_u τ 0 2 (nI (n - 1))) (a := 49 + 49 * (n - 1)) (b := 0) (by omega) (by omega) (by omega)
    have e2 : nI n - 1 = nI (n - 1) := pk_sub (a := n) (b := 1) (by omega)
    have t1 : fX8_copyTown (nI (49 + 49 * (n - 1))) 0 (x_u τ 0 2 (nI (n - 1))) = some τ' := t1
    have u0 : τ' 0 = x_u τ 0 2 (nI (n - 1)) 0 := t2 0 (by decide)
    have u1 : x_u τ 0 2 (nI (n - 1)) 1 = τ 1 := z_uk (by decide)
    rw [u1] at t3 t4
    have sg := z_past_sg hpast 1 (by omega)
    rw [hV] at sg
    rw [if_neg cS, if_neg cM, s1, z_v, k2, e2, z_w, z_us, show (49 : Int32) + 49 * nI (n - 1) = nI (49 + 49 * (n - 1)) by rw [show (49 : Int32) = nI 49 from rfl, pk_mul, nI_add], t1, z_v]
    refine ⟨nI (n - 1), σ', τ', by rw [s4], by rw [u0, z_us], z_Rel_town h ?_ (fun k g1 g2 => s2 k (by omega) g2) (fun k g1 g2 => (t2 k g2).trans (z_uk g1)) (fun j g1 g2 => (congrFun u0 j).trans (z_ui g2)) (fun j hj => t3 j (by omega)) (fun z => (congrFun u0 1).trans ((z_ui (by decide)).trans z))⟩
    refine ⟨V 1, n - 1, (p + 23) % 24, fun i => V (i + 1), ⟨by rw [hu]; exact z_undo_ok ht.1 ha, by rw [hu]; exact s6, z_M_c hM (by omega) (fun k hk => by rw [t4 k hk])⟩, ?_, by omega, by omega, s4, by rw [u0, z_us], s3, rfl, ?_⟩
    · rw [s5, u0, z_ui (by decide), sg.1, sg.2]; exact hst
    · intro i hi
      obtain ⟨d', w', x', g1, g2, g3, g4, g5, g6⟩ := hpast (i + 1) (by omega)
      have ep : ((p + 23) % 24 + 23 - i) % 24 = (p + 23 - (i + 1)) % 24 := by omega
      have sg2 := z_past_sg hpast (i + 1 + 1) (by omega)
      rw [hV] at sg2
      refine ⟨d', w', x', ?_, ?_, ?_, g4, g5, ?_⟩
      · rw [ep, s2 17 (by omega) (by omega)]; exact g1
      · rw [ep, s2 18 (by omega) (by omega)]; exact g2
      · rw [ep, s2 19 (by omega) (by omega)]; exact g3
      · refine z_M_c (v := V (i + 1 + 1)) g6 ⟨by omega, by omega⟩ (fun k hk => ?_)
        rw [t3 _ (by omega)]
        congr 1
        omega
end
section
/-- image -/
theorem o_image {σ τ : x_S} (h : z_Rel σ τ) (a1 : Int32) : z_op (fX7_image a1 σ) (fX8_image a1 τ) z_Rel := by
  obtain ⟨hs, hr, hta, hf, hto, him, htr⟩ := id h
  obtain ⟨v, n, p, V, ht, hst, -⟩ := hto
  have h7 := ht.1.2.1
  have h6 := ht.1.2.2.1
  unfold z_op fX7_image fX8_image
  rw [z_isWithin, show (0 : Int64) = (0 : Int32).toInt64 from rfl, show (1 : Int64) = (1 : Int32).toInt64 from rfl, z_in64, z_p, z_p]
  by_cases q : z_W a1 0 1 = 0
  · rw [if_pos q, if_pos q]; exact ⟨_, _, _, rfl, rfl, h⟩
  · rw [if_neg q, if_neg q]
    obtain ⟨k, hk, rfl⟩ := z_W3 (n := 1) (by decide) q
    rcases hst with ⟨g1, g2⟩ | ⟨g1, g2, -⟩
    · rw [if_neg (by rw [g1]; decide), if_neg (by rw [g2]; decide)]
      obtain ⟨σ', s1, s2, s3, s4⟩ := z_become (σ := σ) (c0 := 48 + 8 * k) (c1 := 32) (by omega) ht.2.1 (Or.inr g1) h7 h6
      obtain ⟨τ', t1, t2, t3, t4⟩ := z_copyTown (τ := τ) (a := 0) (b := 1225 + 49 * k) (by omega) (by omega) (by omega)
      have t1 : fX8_copyTown 0 (nI (1225 + 49 * k)) τ = some τ' := t1
      have ek : (nI k).toNatClampNeg = k := z_cl (by omega)
      have s1 : fX2_become (48 + 8 * (nI k).toNatClampNeg) 32 σ = some σ' := by rw [ek]; exact s1
      have u2 : ∀ j, j ≠ k → x_u τ' 2 k 1 2 j = τ 2 j := fun j hj => (z_ui hj).trans (congrFun (t2 2 (by decide)) j)
      have u0 : x_u τ' 2 k 1 0 = τ 0 := (z_uk (by decide)).trans (t2 0 (by decide))
      have u1 : ∀ j, (j < 1225 + 49 * k ∨ 1225 + 49 * k + 49 ≤ j) → x_u τ' 2 k 1 1 j = τ 1 j := fun j hj => (congrFun (z_uk (by decide)) j).trans (t3 j hj)
      have u : ∀ c, c ≠ 1 → c ≠ 2 → x_u τ' 2 k 1 c = τ c := fun c h1 h2 => (z_uk h2).trans (t2 c h1)
      rw [z_gi (n := 2) (by omega) (by decide), s1, z_v, show (1225 : Int32) + 49 * nI k = nI (1225 + 49 * k) by rw [show (1225 : Int32) = nI 1225 from rfl, show (49 : Int32) = nI 49 from rfl, pk_mul, nI_add], t1, z_v, z_gi (n := 2) (by omega) (by decide), z_w, ek]
      refine ⟨_, _, _, rfl, rfl, ?_, z_rows_c hr (fun c c1 c2 => s2 c (by omega)) (u 3 (by decide) (by decide)) (u 4 (by decide) (by decide)) (u 5 (by decide) (by decide)), z_tape_c hta (by rw [s2 13 (by omega)]) (s2 14 (by omega)) (by rw [u0]) (u 6 (by decide) (by decide)), ?_, z_town_c h.2.2.2.2.1 (fun c c1 c2 => s2 c (by omega)) (fun c c1 c2 => s2 c (by omega)) (fun j hj => u1 j (by omega)) (by rw [u0]) (by rw [u0]), fun j hj => ?_, z_tr_c htr (by rw [s2 30 (by omega)]) (s2 31 (by omega)) (by rw [u0]) (u 7 (by decide) (by decide))⟩
      · show σ' 0 8 = _
        rw [s2 0 (by omega), u0]; exact hs
      · rw [s2 13 (by omega), u0]; exact hf
      · by_cases e : j = k
        · subst e
          refine ⟨v, ht.1, s3, z_M_c ht.2.2 ⟨h7, h6⟩ (fun t ht2 => ?_), Or.inl ⟨s4.trans g1, z_us _ _ _ _, by rw [u0]; exact g2⟩⟩
          rw [z_uk (by decide)]; exact t4 t ht2
        · obtain ⟨v', w1, w2, w3, w4⟩ := him j hj
          refine ⟨v', w1, z_S_c w2 (fun c c1 c2 => s2 c (by omega)), z_M_c w3 ⟨w1.2.1, w1.2.2.1⟩ (fun t ht2 => u1 _ (by omega)), ?_⟩
          rw [s2 _ (by omega), u2 j e, u0]; exact w4
    · rw [if_pos g1, if_pos g2]; exact ⟨_, _, _, rfl, rfl, h⟩
/-- restore -/
theorem o_restore {σ τ : x_S} (h : z_Rel σ τ) (a1 : Int32) : z_op (fX7_restore a1 σ) (fX8_restore a1 τ) z_Rel := by
  obtain ⟨v, n, p, V, ht, hst, hn, hp, k1, k2, k3, hV, hpast⟩ := h.2.2.2.2.1
  unfold z_op fX7_restore fX8_restore
  rw [z_isWithin, show (0 : Int64) = (0 : Int32).toInt64 from rfl, show (1 : Int64) = (1 : Int32).toInt64 from rfl, z_in64, z_p, z_p]
  by_cases q : z_W a1 0 1 = 0
  · rw [if_pos q, if_pos q]; exact ⟨_, _, _, rfl, rfl, h⟩
  · rw [if_neg q, if_neg q]
    obtain ⟨k, hk, rfl⟩ := z_W3 (n := 1) (by decide) q
    have ek : (nI k).toNatClampNeg = k := z_cl (by omega)
    obtain ⟨v', w1, w2, w3, w4⟩ := h.2.2.2.2.2.1 k (by omega)
    rw [z_gi (n := 2) (by omega) (by decide), z_gi (n := 2) (by omega) (by decide)]
    rcases w4 with ⟨g1, g2, g3⟩ | ⟨g1, g2⟩
    · rw [if_neg (by rw [ek, g1]; decide), if_neg (by rw [ek, g2]; decide), z_gi (n := 2) (by omega) (by decide), ek]
      obtain ⟨σ', s1, s2, s3, s4⟩ := z_become (σ := σ) (c0 := 32) (c1 := 48 + 8 * k) (by omega) w2 (Or.inr g1) w1.2.1 w1.2.2.1
      obtain ⟨τ', t1, t2, t3, t4⟩ := z_copyTown (τ := τ) (a := 1225 + 49 * k) (b := 0) (by omega) (by omega) (by omega)
      have t1 : fX8_copyTown (nI (1225 + 49 * k)) 0 τ = some τ' := t1
      unfold fX0_forgetAll
      rw [s1, z_v, z_w, z_v, show (1225 : Int32) + 49 * nI k = nI (1225 + 49 * k) by rw [show (1225 : Int32) = nI 1225 from rfl, show (49 : Int32) = nI 49 from rfl, pk_mul, nI_add], t1, z_v, z_w]
      refine ⟨_, _, _, rfl, rfl, z_Rel_town h ?_ (fun c h1 h2 => (z_uk (by omega)).trans (s2 c (by omega))) (fun c h1 h2 => (z_uk h1).trans (t2 c h2)) (fun j h1 h2 => (z_ui h2).trans (congrFun (t2 0 (by decide)) j)) (fun j hj => (congrFun (z_uk (by decide)) j).trans (t3 j (by omega))) (fun z => (z_ui (by decide)).trans ((congrFun (t2 0 (by decide)) 1).trans z))⟩
      refine ⟨v', 0, p, fun _ => v', ⟨w1, z_S_c s3 (fun c c1 c2 => z_uk (by omega)), z_M_c w3 ⟨w1.2.1, w1.2.2.1⟩ (fun t ht2 => ?_)⟩, Or.inl ⟨?_, ?_⟩, by omega, hp, z_us _ _ _ _, z_us _ _ _ _, ?_, rfl, fun i hi => absurd hi (by omega)⟩
      · rw [z_uk (by decide)]; exact t4 t ht2
      · rw [z_uk (by decide)]; exact s4.trans g1
      · rw [z_ui (by decide), t2 0 (by decide)]; exact g3
      · rw [z_ui (by decide), s2 16 (by omega)]; exact k3
    · rw [if_pos (by rw [ek, g1]), if_pos (by rw [ek, g2]), z_gi (n := 2) (by omega) (by decide)]; exact ⟨_, _, _, rfl, rfl, h⟩
end
section
/-! ===== pure: thread, inches, sorts ===== -/
theorem z_at {σ : x_S} {r y : Nat} (hr : r < 8) (hy : y < 40) : fX5_at (nI r) (nI y) σ = some (σ (3 + r) y) := by
  unfold fX5_at
  rw [z_gi hr (by decide), z_gi hy (by decide), z_cl (by omega), z_cl (by omega)]
theorem z_e2 (j : Nat) : (2 : Int32) * nI j = nI (2 * j) := by rw [show (2 : Int32) = nI 2 from rfl, pk_mul]
theorem z_e40 (r i j : Nat) : (40 : Int32) * nI r + nI i + 2 * nI j = nI (40 * r + i + 2 * j) := by rw [z_e2, show (40 : Int32) = nI 40 from rfl, pk_mul, nI_add, nI_add]
theorem z_streets {σ τ : x_S} {v : z_V} (h : z_T σ τ v) {r i n : Nat} (hr : r < 8) (hn : n ≤ 12) (hin : i + 2 * n ≤ 40) (hrow : ∀ y, y < 40 → σ (3 + r) y = τ 5 (40 * r + y)) : ∀ d f j, j + d = n → d < f → ((∀ t, j ≤ t → t < n → ∃ s, s < v 1 ∧ σ (3 + r) (i + 2 * t) = nI s) ∧ x_fx (α := Int32 → x_S → Option (Int32 × x_S)) (fun _ _ => none) (fun K => fun x5 σ => gX7_refusalOfThread_49 (nI r) (nI i) (nI n) K x5 σ) f (nI j) σ = some (0, σ) ∧ x_fx (α := Int32 → Int32 → x_S → Option (Int32 × x_S)) (fun _ _ _ => none) (fun K => fun x4 x5 σ => gX8_noPairs_39 (nI r) (nI i) (nI n) K x4 x5 σ) f 1 (nI j) τ = some (0, τ)) ∨ (x_fx (α := Int32 → x_S → Option (Int32 × x_S)) (fun _ _ => none) (fun K => fun x5 σ => gX7_refusalOfThread_49 (nI r) (nI i) (nI n) K x5 σ) f (nI j) σ = some (-1000001, σ) ∧ x_fx (α := Int32 → Int32 → x_S → Option (Int32 × x_S)) (fun _ _ _ => none) (fun K => fun x4 x5 σ => gX8_noPairs_39 (nI r) (nI i) (nI n) K x4 x5 σ) f 1 (nI j) τ = some (-1000001, τ)) := by
  have z0 : ∀ d f j, j + d = n → d < f → x_fx (α := Int32 → Int32 → x_S → Option (Int32 × x_S)) (fun _ _ _ => none) (fun K => fun x4 x5 σ => gX8_noPairs_39 (nI r) (nI i) (nI n) K x4 x5 σ) f 0 (nI j) τ = some (-1000001, τ) := by
    intro d
    induction d with
    | zero =>
      intro f j hj hf
      cases f with
      | zero => exact absurd hf (by omega)
      | succ f =>
        show gX8_noPairs_39 (nI r) (nI i) (nI n) _ 0 (nI j) τ = _
        unfold gX8_noPairs_39
        rw [if_pos (nI_le (by omega) (by omega)), if_pos rfl]
    | succ d ih =>
      intro f j hj hf
      cases f with
      | zero => exact absurd hf (by omega)
      | succ f =>
        have u : ∀ K : Int32 → Int32 → x_S → Option (Int32 × x_S), gX8_noPairs_39 (nI r) (nI i) (nI n) K 0 (nI j) τ = K 0 (nI (j + 1)) τ := by
          intro K
          unfold gX8_noPairs_39
          rw [if_neg (nI_ge (by omega) (by omega)), if_pos rfl, nI_1]
        exact (u _).trans (ih f (j + 1) (by omega) (by omega))
  intro d
  induction d with
  | zero =>
    intro f j hj hf
    cases f with
    | zero => exact absurd hf (by omega)
    | succ f =>
      refine Or.inl ⟨fun t h1 h2 => absurd h2 (by omega), ?_, ?_⟩
      · show gX7_refusalOfThread_49 (nI r) (nI i) (nI n) _ (nI j) σ = _
        unfold gX7_refusalOfThread_49
        rw [if_pos (nI_le (by omega) (by omega))]
      · show gX8_noPairs_39 (nI r) (nI i) (nI n) _ 1 (nI j) τ = _
        unfold gX8_noPairs_39
        rw [if_pos (nI_le (by omega) (by omega)), if_neg z_10]
  | succ d ih =>
    intro f j hj hf
    cases f with
    | zero => exact absurd hf (by omega)
    | succ f =>
      have hm : τ 5 (40 * r + i + 2 * j) = σ (3 + r) (i + 2 * j) := by rw [hrow _ (by omega)]; congr 1; omega
      have uS : ∀ K : Int32 → x_S → Option (Int32 × x_S), gX7_refusalOfThread_49 (nI r) (nI i) (nI n) K (nI j) σ = x_p (fX7_isStreet (σ (3 + r) (i + 2 * j)) σ) (fun r5 => if r5 = 0 then some (-1000001, σ) else K (nI (j + 1)) σ) := by
        intro K
        unfold gX7_refusalOfThread_49
        rw [if_neg (nI_ge (by omega) (by omega)), z_e2, nI_add, z_at hr (by omega), z_p, nI_1]
      have uM : ∀ K : Int32 → Int32 → x_S → Option (Int32 × x_S), gX8_noPairs_39 (nI r) (nI i) (nI n) K 1 (nI j) τ = x_p (fX8_isStreet (σ (3 + r) (i + 2 * j)) τ) (fun r6 => if r6 = 0 then K 0 (nI (j + 1)) τ else K 1 (nI (j + 1)) τ) := by
        intro K
        unfold gX8_noPairs_39
        rw [if_neg (nI_ge (by omega) (by omega)), if_neg z_10, z_e40, z_gi (n := 320) (by omega) (by decide), z_cl (by omega), hm, nI_1]
      rcases h.str (σ (3 + r) (i + 2 * j)) with ⟨q1, q2⟩ | ⟨s, hs, e, q1, q2⟩
      · refine Or.inr ⟨(uS _).trans (by rw [q1, z_p, if_pos rfl]), (uM _).trans ?_⟩
        rw [q2, z_p, if_pos rfl]
        exact z0 d f (j + 1) (by omega) (by omega)
      · have wS : ∀ K : Int32 → x_S → Option (Int32 × x_S), gX7_refusalOfThread_49 (nI r) (nI i) (nI n) K (nI j) σ = K (nI (j + 1)) σ := fun K => (uS K).trans (by rw [q1, z_p, if_neg z_10])
        have wM : ∀ K : Int32 → Int32 → x_S → Option (Int32 × x_S), gX8_noPairs_39 (nI r) (nI i) (nI n) K 1 (nI j) τ = K 1 (nI (j + 1)) τ := fun K => (uM K).trans (by rw [q2, z_p, if_neg z_10])
        rcases ih f (j + 1) (by omega) (by omega) with ⟨g1, g2, g3⟩ | ⟨g2, g3⟩
        · refine Or.inl ⟨fun t h1 h2 => ?_, (wS _).trans g2, (wM _).trans g3⟩
          by_cases et : t = j
          · subst et; exact ⟨s, hs, e⟩
          · exact g1 t (by omega) h2
        · exact Or.inr ⟨(wS _).trans g2, (wM _).trans g3⟩
/-- the reference's refusals of a thread, then F -/
def z_chM (a1 a2 a3 : Int32) (F : x_S → Option (Int32 × x_S)) (τ : x_S) : Option (Int32 × x_S) :=
  x_p (fX8_isRow a1 τ) (fun r3 => if r3 = 0 then (some ((-1000001), τ)) else (x_p (fX8_in a3.toInt64 1 12 τ) (fun r6 => if r6 = 0 then (some ((-1000001), τ)) else (x_b (fX8_noPairs a1 a2 a3 τ) (fun r9 σ10 => if r9 = 0 then (F σ10) else (some (r9, σ10)))))))
theorem z_refuse {σ τ : x_S} {v : z_V} (hR : z_Rel σ τ) (h : z_T σ τ v) (a1 a2 a3 : Int32) : (∃ k σ' τ', k ≠ 0 ∧ fX7_refusalOfThread a1 a2 a3 σ = some (k, σ') ∧ (∀ F, z_chM a1 a2 a3 F τ = some (k, τ')) ∧ z_Rel σ' τ') ∨ (∃ r i n, r < 8 ∧ 1 ≤ n ∧ n ≤ 12 ∧ i + 2 * n ≤ 40 ∧ a1 = nI r ∧ a2 = nI i ∧ a3 = nI n ∧ (∀ t, t < n → ∃ s, s < v 1 ∧ σ (3 + r) (i + 2 * t) = nI s) ∧ fX7_refusalOfThread a1 a2 a3 σ = some (0, σ) ∧ ∀ F, z_chM a1 a2 a3 F τ = F τ) := by
  unfold fX7_refusalOfThread z_chM
  have k1 : ¬ (-1000001 : Int32) = 0 := by decide
  rcases z_isRow a1 σ τ with ⟨h1, h2⟩ | ⟨r, hr, rfl, h1, h2⟩
  · exact Or.inl ⟨-1000001, σ, τ, k1, by rw [h1, z_p, if_pos rfl], fun F => by rw [h2, z_p, if_pos rfl], hR⟩
  · rw [h1, h2, z_p, if_neg z_10, z_isWithin, show (1 : Int64) = (1 : Int32).toInt64 from rfl, show (12 : Int64) = (12 : Int32).toInt64 from rfl, z_in64, z_p]
    by_cases q : z_W a3 1 12 = 0
    · exact Or.inl ⟨-1000001, σ, τ, k1, by rw [if_pos q], fun F => by rw [z_p, if_neg z_10, z_p, if_pos q], hR⟩
    · rw [if_neg q]
      obtain ⟨n, hn1, hn, rfl⟩ := z_W4 (m := 1) (n := 12) (by decide) (by decide) q
      have hw := hR.2.1 r hr
      have hrow := hw.2.2
      unfold fX5_findingOf fX8_noPairs
      rw [z_gi hr (by decide)]
      have ec : (nI r).toNatClampNeg = r := z_cl (by omega)
      rcases z_isMissing hr hw with ⟨e1, e2⟩ | ⟨m, hm, e1, e2, e3⟩
      · refine Or.inl ⟨-1000010 - 1, x_u σ 0 8 1, x_u τ 0 10 1, by decide, ?_, fun F => ?_, z_Rel_st hR 1⟩
        · rw [e1, z_p, if_neg z_10, z_p, if_neg z_10, z_found, z_b]
        · rw [z_p, if_neg z_10, z_p, if_neg q, if_neg (by rw [ec, e2]; decide), z_find, z_b, z_b, if_neg (by decide)]
      · rw [e3, z_p, if_pos rfl]
        have cM : 0 ≤ τ 4 (nI r).toNatClampNeg := by rw [ec, e2]; exact nI_pos' (by omega)
        rcases z_Sreach hr hm e1 a2 (2 * nI n) with ⟨x1, y1⟩ | ⟨x1, y1⟩
        · rcases z_Mreach hr hm e2 a2 (2 * nI n) with ⟨x2, -⟩ | ⟨-, y2⟩
          · obtain ⟨i, n', rfl, en, hin⟩ := y1
            rw [z_e2] at en
            have en2 : 2 * n = n' := (nI_eq (by omega) (by omega)).mp en
            subst en2
            rw [x1, z_p, if_neg z_10, z_p, if_pos rfl]
            have hs := z_streets h hr (i := i) hn (by omega) hrow n x_F 0 (by omega) (z_fuel (by omega))
            rw [show (nI 0 : Int32) = 0 from rfl] at hs
            unfold bX7_refusalOfThread_49 bX8_noPairs_39
            rcases hs with ⟨g1, g2, g3⟩ | ⟨g2, g3⟩
            · refine Or.inr ⟨r, i, n, hr, hn1, hn, by omega, rfl, rfl, rfl, fun t ht => g1 t (by omega) ht, g2, fun F => ?_⟩
              rw [z_p, if_neg z_10, z_p, if_neg q, if_pos cM, x2, z_p, if_neg z_10, g3, z_b, if_pos rfl]
            · refine Or.inl ⟨-1000001, σ, τ, k1, g2, fun F => ?_, hR⟩
              rw [z_p, if_neg z_10, z_p, if_neg q, if_pos cM, x2, z_p, if_neg z_10, g3, z_b, if_neg k1]
          · exact absurd y1 y2
        · rcases z_Mreach hr hm e2 a2 (2 * nI n) with ⟨-, y2⟩ | ⟨x2, -⟩
          · exact absurd y2 y1
          · refine Or.inl ⟨-1000010 - 2, x_u σ 0 8 2, x_u τ 0 10 2, by decide, ?_, fun F => ?_, z_Rel_st hR 2⟩
            · rw [x1, z_p, if_pos rfl, z_p, if_neg (by decide), z_found, z_b]
            · rw [z_p, if_neg z_10, z_p, if_neg q, if_pos cM, x2, z_p, if_pos rfl, z_find, z_b, z_b, if_neg (by decide)]
end
section
/-! ===== pure: along a thread ===== -/
theorem z_and1 : (1 : Int32) &&& 1 = 1 := rfl
theorem z_and0 : (0 : Int32) &&& 1 = 0 := rfl
theorem z_ow0 {τ : x_S} (x1 x2 : Int32) {r i n : Nat} (hr : r < 8) (hin : i + 2 * n ≤ 40) : ∀ d f j, j + d = n → d < f → x_fx (α := Int32 → Int32 → Option Int32) (fun _ _ => none) (fun K => fun x6 x7 => gX8_owesSo_12 x1 x2 (nI r) (nI i) (nI n) K x6 x7 τ) f 0 (nI (40 * r + i + 2 * j)) = some 0 := by
  intro d
  induction d with
  | zero =>
    intro f j hj hf
    cases f with
    | zero => exact absurd hf (by omega)
    | succ f =>
      show gX8_owesSo_12 x1 x2 (nI r) (nI i) (nI n) _ 0 _ τ = _
      unfold gX8_owesSo_12
      rw [z_e40, if_pos (nI_le (by omega) (by omega)), z_g z_and0]
  | succ d ih =>
    intro f j hj hf
    cases f with
    | zero => exact absurd hf (by omega)
    | succ f =>
      have u : ∀ K : Int32 → Int32 → Option Int32, gX8_owesSo_12 x1 x2 (nI r) (nI i) (nI n) K 0 (nI (40 * r + i + 2 * j)) τ = K 0 (nI (40 * r + i + 2 * (j + 1))) := by
        intro K
        unfold gX8_owesSo_12
        rw [z_e40, if_neg (nI_ge (by omega) (by omega)), if_pos rfl]
        exact congrArg (K 0) (nI_add (40 * r + i + 2 * j) 2)
      exact (u _).trans (ih f (j + 1) (by omega) (by omega))
theorem z_isStr {σ τ : x_S} {v : z_V} (h : z_T σ τ v) {s : Nat} (hs : s < v 1) : fX7_isStreet (nI s) σ = some 1 := by
  have h7 := h.1.2.1
  unfold fX7_isStreet
  rw [h.2.1.2.1, if_neg (nI_pos (by omega)), if_neg (nI_ge hs (by omega))]
theorem z_owes {σ τ : x_S} {v : z_V} (h : z_T σ τ v) {r i n : Nat} (hr : r < 8) (hn : n ≤ 12) (hin : i + 2 * n ≤ 40) (hrow : ∀ y, y < 40 → σ (3 + r) y = τ 5 (40 * r + y)) (hst : ∀ t, t < n → ∃ s, s < v 1 ∧ σ (3 + r) (i + 2 * t) = nI s) {kd inc : Nat} (hk : 1 ≤ kd ∧ kd ≤ 5) (hi : inc ≤ 31) : ∃ b, (b = 0 ∨ b = 1) ∧ fX7_owesAlong (nI kd) (nI inc) (nI r) (nI i) (nI n) σ = some b ∧ fX8_owesSo (nI kd) (nI inc) (nI r) (nI i) (nI n) τ = some b := by
  have h7 := h.1.2.1
  have key : ∀ d f j, j + d = n → d < f → ∃ b, (b = 0 ∨ b = 1) ∧ x_fx (α := Int32 → Option Int32) (fun _ => none) (fun K => fun x6 => gX7_owesAlong_3 (nI kd) (nI inc) (nI r) (nI i) (nI n) K x6 σ) f (nI j) = some b ∧ x_fx (α := Int32 → Int32 → Option Int32) (fun _ _ => none) (fun K => fun x6 x7 => gX8_owesSo_12 (nI kd) (nI inc) (nI r) (nI i) (nI n) K x6 x7 τ) f 1 (nI (40 * r + i + 2 * j)) = some b := by
    intro d
    induction d with
    | zero =>
      intro f j hj hf
      cases f with
      | zero => exact absurd hf (by omega)
      | succ f =>
        refine ⟨1, Or.inr rfl, ?_, ?_⟩
        · show gX7_owesAlong_3 (nI kd) (nI inc) (nI r) (nI i) (nI n) _ (nI j) σ = _
          unfold gX7_owesAlong_3
          rw [if_pos (nI_le (by omega) (by omega))]
        · show gX8_owesSo_12 (nI kd) (nI inc) (nI r) (nI i) (nI n) _ 1 _ τ = _
          unfold gX8_owesSo_12
          rw [z_e40, if_pos (nI_le (by omega) (by omega)), z_g z_and1]
    | succ d ih =>
      intro f j hj hf
      cases f with
      | zero => exact absurd hf (by omega)
      | succ f =>
        obtain ⟨s, hs, es⟩ := hst j (by omega)
        have q1 : fX7_isStreet (nI s) σ = some 1 := z_isStr h hs
        have hm : τ 5 (40 * r + i + 2 * j) = nI s := by rw [← es, hrow _ (by omega)]; congr 1; omega
        have hm2 : τ 5 (40 * r + i + 2 * j + 1) = σ (3 + r) (i + 2 * j + 1) := by rw [hrow _ (by omega)]; congr 1; omega
        have uS : ∀ K : Int32 → Option Int32, gX7_owesAlong_3 (nI kd) (nI inc) (nI r) (nI i) (nI n) K (nI j) σ = if nI (z_O v kd inc s) = σ (3 + r) (i + 2 * j + 1) then K (nI (j + 1)) else some 0 := by
          intro K
          unfold gX7_owesAlong_3
          rw [if_neg (nI_ge (by omega) (by omega)), z_e2, nI_add, nI_1, nI_1, z_at hr (by omega), z_at hr (by omega), z_p, z_p, es, q1, z_p, if_neg z_10, z_SO h.2.1 h.1 hs hk hi, z_p]
        have uM : ∀ K : Int32 → Int32 → Option Int32, gX8_owesSo_12 (nI kd) (nI inc) (nI r) (nI i) (nI n) K 1 (nI (40 * r + i + 2 * j)) τ = if nI (z_O v kd inc s) = σ (3 + r) (i + 2 * j + 1) then K 1 (nI (40 * r + i + 2 * (j + 1))) else K 0 (nI (40 * r + i + 2 * (j + 1))) := by
          intro K
          have e2 : nI (40 * r + i + 2 * j) + 2 = nI (40 * r + i + 2 * (j + 1)) := nI_add (40 * r + i + 2 * j) 2
          have c1 : (nI (40 * r + i + 2 * j)).toNatClampNeg = 40 * r + i + 2 * j := z_cl (by omega)
          have c2 : (nI (40 * r + i + 2 * j + 1)).toNatClampNeg = 40 * r + i + 2 * j + 1 := z_cl (by omega)
          have cc : (nI (z_O v kd inc s) = τ 5 (nI (40 * r + i + 2 * j + 1)).toNatClampNeg) ↔ (nI (z_O v kd inc s) = σ (3 + r) (i + 2 * j + 1)) := by rw [c2, hm2]
          unfold gX8_owesSo_12
          rw [z_e40, if_neg (nI_ge (by omega) (by omega)), if_neg z_10, e2, nI_1, z_gi (n := 320) (by omega) (by decide), c1, hm, z_MO h.2.2 h.1 hs hk hi, z_p, z_gi (n := 320) (by omega) (by decide)]
          by_cases c : nI (z_O v kd inc s) = σ (3 + r) (i + 2 * j + 1)
          · rw [if_pos (cc.mpr c), if_pos c]
          · rw [if_neg (fun z => c (cc.mp z)), if_neg c]
        by_cases c : nI (z_O v kd inc s) = σ (3 + r) (i + 2 * j + 1)
        · obtain ⟨b, hb, g1, g2⟩ := ih f (j + 1) (by omega) (by omega)
          exact ⟨b, hb, ((uS _).trans (if_pos c)).trans g1, ((uM _).trans (if_pos c)).trans g2⟩
        · exact ⟨0, Or.inl rfl, (uS _).trans (if_neg c), ((uM _).trans (if_neg c)).trans (z_ow0 (nI kd) (nI inc) hr hin d f (j + 1) (by omega) (by omega))⟩
  obtain ⟨b, hb, g1, g2⟩ := key n x_F 0 (by omega) (z_fuel (by omega))
  refine ⟨b, hb, g1, ?_⟩
  unfold fX8_owesSo bX8_owesSo_12
  rw [show (40 : Int32) * nI r + nI i = nI (40 * r + i + 2 * 0) by rw [show (40 : Int32) = nI 40 from rfl, pk_mul, nI_add]; rfl]
  exact g2
theorem z_sn0 {τ : x_S} (x1 : Int32) {r i n : Nat} (hr : r < 8) (hin : i + 2 * n ≤ 40) : ∀ d f j, j + d = n → d < f → x_fx (α := Int32 → Int32 → Option Int32) (fun _ _ => none) (fun K => fun x5 x6 => gX8_isSeenSo_11 x1 (nI r) (nI i) (nI n) K x5 x6 τ) f 0 (nI (40 * r + i + 2 * j)) = some 0 := by
  intro d
  induction d with
  | zero =>
    intro f j hj hf
    cases f with
    | zero => exact absurd hf (by omega)
    | succ f =>
      show gX8_isSeenSo_11 x1 (nI r) (nI i) (nI n) _ 0 _ τ = _
      unfold gX8_isSeenSo_11
      rw [z_e40, if_pos (nI_le (by omega) (by omega)), z_g z_and0]
  | succ d ih =>
    intro f j hj hf
    cases f with
    | zero => exact absurd hf (by omega)
    | succ f =>
      have u : ∀ K : Int32 → Int32 → Option Int32, gX8_isSeenSo_11 x1 (nI r) (nI i) (nI n) K 0 (nI (40 * r + i + 2 * j)) τ = K 0 (nI (40 * r + i + 2 * (j + 1))) := by
        intro K
        unfold gX8_isSeenSo_11
        rw [z_e40, if_neg (nI_ge (by omega) (by omega)), if_pos rfl]
        exact congrArg (K 0) (nI_add (40 * r + i + 2 * j) 2)
      exact (u _).trans (ih f (j + 1) (by omega) (by omega))
theorem z_sees {σ τ : x_S} {v : z_V} (h : z_T σ τ v) {r i n : Nat} (hr : r < 8) (hn : n ≤ 12) (hin : i + 2 * n ≤ 40) (hrow : ∀ y, y < 40 → σ (3 + r) y = τ 5 (40 * r + y)) (hst : ∀ t, t < n → ∃ s, s < v 1 ∧ σ (3 + r) (i + 2 * t) = nI s) {g : Nat} (hg : g < v 2) : ∃ b, (b = 0 ∨ b = 1) ∧ fX7_isSeenAlong (nI g) (nI r) (nI i) (nI n) σ = some b ∧ fX8_isSeenSo (nI g) (nI r) (nI i) (nI n) τ = some b := by
  have h7 := h.1.2.1
  have key : ∀ d f j, j + d = n → d < f → ∃ b, (b = 0 ∨ b = 1) ∧ x_fx (α := Int32 → Option Int32) (fun _ => none) (fun K => fun x5 => gX7_isSeenAlong_3 (nI g) (nI r) (nI i) (nI n) K x5 σ) f (nI j) = some b ∧ x_fx (α := Int32 → Int32 → Option Int32) (fun _ _ => none) (fun K => fun x5 x6 => gX8_isSeenSo_11 (nI g) (nI r) (nI i) (nI n) K x5 x6 τ) f 1 (nI (40 * r + i + 2 * j)) = some b := by
    intro d
    induction d with
    | zero =>
      intro f j hj hf
      cases f with
      | zero => exact absurd hf (by omega)
      | succ f =>
        refine ⟨1, Or.inr rfl, ?_, ?_⟩
        · show gX7_isSeenAlong_3 (nI g) (nI r) (nI i) (nI n) _ (nI j) σ = _
          unfold gX7_isSeenAlong_3
          rw [if_pos (nI_le (by omega) (by omega))]
        · show gX8_isSeenSo_11 (nI g) (nI r) (nI i) (nI n) _ 1 _ τ = _
          unfold gX8_isSeenSo_11
          rw [z_e40, if_pos (nI_le (by omega) (by omega)), z_g z_and1]
    | succ d ih =>
      intro f j hj hf
      cases f with
      | zero => exact absurd hf (by omega)
      | succ f =>
        obtain ⟨s, hs, es⟩ := hst j (by omega)
        have q1 : fX7_isStreet (nI s) σ = some 1 := z_isStr h hs
        have hm : τ 5 (40 * r + i + 2 * j) = nI s := by rw [← es, hrow _ (by omega)]; congr 1; omega
        have uS : ∀ K : Int32 → Option Int32, gX7_isSeenAlong_3 (nI g) (nI r) (nI i) (nI n) K (nI j) σ = if z_B (z_seen v g s) = 0 then some 0 else K (nI (j + 1)) := by
          intro K
          unfold gX7_isSeenAlong_3
          rw [if_neg (nI_ge (by omega) (by omega)), z_e2, nI_add, nI_1, z_at hr (by omega), z_p, es, q1, z_p, if_neg z_10, z_Sseen h.2.1 h.1 hg hs, z_p]
        have uM : ∀ K : Int32 → Int32 → Option Int32, gX8_isSeenSo_11 (nI g) (nI r) (nI i) (nI n) K 1 (nI (40 * r + i + 2 * j)) τ = if z_B (z_seen v g s) = 0 then K 0 (nI (40 * r + i + 2 * (j + 1))) else K 1 (nI (40 * r + i + 2 * (j + 1))) := by
          intro K
          have e2 : nI (40 * r + i + 2 * j) + 2 = nI (40 * r + i + 2 * (j + 1)) := nI_add (40 * r + i + 2 * j) 2
          have c1 : (nI (40 * r + i + 2 * j)).toNatClampNeg = 40 * r + i + 2 * j := z_cl (by omega)
          unfold gX8_isSeenSo_11
          rw [z_e40, if_neg (nI_ge (by omega) (by omega)), if_neg z_10, e2, z_gi (n := 320) (by omega) (by decide), c1, hm, z_Mseen h.2.2 h.1 hg hs, z_p]
        by_cases c : z_B (z_seen v g s) = 0
        · exact ⟨0, Or.inl rfl, (uS _).trans (if_pos c), ((uM _).trans (if_pos c)).trans (z_sn0 (nI g) hr hin d f (j + 1) (by omega) (by omega))⟩
        · obtain ⟨b, hb, g1, g2⟩ := ih f (j + 1) (by omega) (by omega)
          exact ⟨b, hb, ((uS _).trans (if_neg c)).trans g1, ((uM _).trans (if_neg c)).trans g2⟩
  obtain ⟨b, hb, g1, g2⟩ := key n x_F 0 (by omega) (z_fuel (by omega))
  refine ⟨b, hb, g1, ?_⟩
  unfold fX8_isSeenSo bX8_isSeenSo_11
  rw [show (40 : Int32) * nI r + nI i = nI (40 * r + i + 2 * 0) by rw [show (40 : Int32) = nI 40 from rfl, pk_mul, nI_add]; rfl]
  exact g2
end
section
/-! ===== pure: thread, inches, sorts: the answers ===== -/
theorem z_or0 (a : Int32) : a ||| 0 = a := Int32.or_zero
/-- thread -/
theorem o_thread {σ τ : x_S} (h : z_Rel σ τ) (a1 a2 a3 : Int32) : z_op (fX7_thread a1 a2 a3 σ) (fX8_thread a1 a2 a3 τ) z_Rel := by
  obtain ⟨v, n0, p, V, ht, hst, -⟩ := h.2.2.2.2.1
  have h6 := ht.1.2.2.1
  unfold z_op fX7_thread fX8_thread
  rcases hst with ⟨g1, g2⟩ | ⟨g1, g2, -⟩
  · rw [if_neg (by rw [g1]; decide), if_neg (by rw [g2]; decide)]
    rcases z_refuse h ht a1 a2 a3 with ⟨k, σ', τ', k0, e1, e2, hR⟩ | ⟨r, i, n, hr, hn1, hn, hin, rfl, rfl, rfl, hstr, e1, e2⟩
    · rw [e1, z_b, if_neg k0]
      exact ⟨k, σ', τ', rfl, e2 (fun σ => bX8_thread_55 a1 a2 a3 0 0 σ), hR⟩
    · rw [e1, z_b, if_pos rfl]
      have hrow := (h.2.1 r hr).2.2
      have hn2 : τ 1 2 = nI (v 2) := ht.2.2.2.2.1
      have key : ∀ d f g a, g + d = v 2 → d < f → ∃ w, x_fx (α := Int32 → Int32 → x_S → Option (Int32 × x_S)) (fun _ _ _ => none) (fun K => fun x5 x6 σ => gX7_thread_36 (nI r) (nI i) (nI n) K x5 x6 σ) f a (nI g) σ = some (w, x_u σ 0 8 0) ∧ x_fx (α := Int32 → Int32 → x_S → Option (Int32 × x_S)) (fun _ _ _ => none) (fun K => fun x5 x6 σ => gX8_thread_55 (nI r) (nI i) (nI n) K x5 x6 σ) f a (nI g) τ = some (w, x_u τ 0 10 0) := by
        intro d
        induction d with
        | zero =>
          intro f g a hg hf
          cases f with
          | zero => exact absurd hf (by omega)
          | succ f =>
            refine ⟨a, ?_, ?_⟩
            · show gX7_thread_36 (nI r) (nI i) (nI n) _ a (nI g) σ = _
              unfold gX7_thread_36
              rw [ht.2.1.2.2.1, if_pos (nI_le (by omega) (by omega)), z_fno, z_b]
            · show gX8_thread_55 (nI r) (nI i) (nI n) _ a (nI g) τ = _
              unfold gX8_thread_55
              rw [z_c2, hn2, if_pos (nI_le (by omega) (by omega)), z_well, z_b]
        | succ d ih =>
          intro f g a hg hf
          cases f with
          | zero => exact absurd hf (by omega)
          | succ f =>
            have hg2 : g < v 2 := by omega
            obtain ⟨hk, hi, -, -⟩ := ht.1.2.2.2.2.2.2 g hg2
            obtain ⟨f1, f2, -⟩ := ht.2.1.2.2.2.2.2.2 g hg2
            have f1 : σ 35 g = nI (v (19 + g)) := f1
            have f2 : σ 36 g = nI (v (25 + g)) := f2
            obtain ⟨m1, m2, -⟩ := ht.2.2.2.2.2.2.2.2 g hg2
            rw [Nat.zero_add] at m1 m2
            obtain ⟨b1, hb1, o1, o2⟩ := z_owes ht hr hn hin hrow hstr hk (inc := v (25 + g)) (by omega)
            obtain ⟨b2, hb2, s1, s2⟩ := z_sees ht hr hn hin hrow hstr hg2
            have uS : ∀ K : Int32 → Int32 → x_S → Option (Int32 × x_S), gX7_thread_36 (nI r) (nI i) (nI n) K a (nI g) σ = if b1 = 0 then K a (nI (g + 1)) σ else if b2 = 0 then K a (nI (g + 1)) σ else K (a ||| (1 <<< (nI g &&& 31))) (nI (g + 1)) σ := by
              intro K
              unfold gX7_thread_36
              rw [ht.2.1.2.2.1, if_neg (nI_ge hg2 (by omega)), z_gi (n := 6) (by omega) (by decide), z_gi (n := 6) (by omega) (by decide), z_cl (by omega), f1, f2, o1, z_p, s1, z_p, nI_1]
            have uM : ∀ K : Int32 → Int32 → x_S → Option (Int32 × x_S), gX8_thread_55 (nI r) (nI i) (nI n) K a (nI g) τ = if b2 = 0 then K a (nI (g + 1)) τ else if b1 = 0 then K a (nI (g + 1)) τ else K (a ||| (1 <<< (nI g &&& 31))) (nI (g + 1)) τ := by
              intro K
              unfold gX8_thread_55
              rw [z_c2, hn2, if_neg (nI_ge hg2 (by omega)), s2, z_p, show (19 : Int32) + nI g = nI (19 + g) from nI_add 19 g, show (25 : Int32) + nI g = nI (25 + g) from nI_add 25 g, z_gi (n := 1372) (by omega) (by decide), z_gi (n := 1372) (by omega) (by decide), z_cl (by omega), z_cl (by omega), m1, m2, o2, z_p, nI_1, z_or0]
            rcases hb1 with rfl | rfl
            · obtain ⟨w, w1, w2⟩ := ih f (g + 1) a (by omega) (by omega)
              refine ⟨w, ((uS _).trans (if_pos rfl)).trans w1, (uM _).trans ?_⟩
              rcases hb2 with rfl | rfl
              · rw [if_pos rfl]; exact w2
              · rw [if_neg z_10, if_pos rfl]; exact w2
            · rcases hb2 with rfl | rfl
              · obtain ⟨w, w1, w2⟩ := ih f (g + 1) a (by omega) (by omega)
                exact ⟨w, ((uS _).trans ((if_neg z_10).trans (if_pos rfl))).trans w1, ((uM _).trans (if_pos rfl)).trans w2⟩
              · obtain ⟨w, w1, w2⟩ := ih f (g + 1) (a ||| (1 <<< (nI g &&& 31))) (by omega) (by omega)
                exact ⟨w, ((uS _).trans ((if_neg z_10).trans (if_neg z_10))).trans w1, ((uM _).trans ((if_neg z_10).trans (if_neg z_10))).trans w2⟩
      obtain ⟨w, w1, w2⟩ := key (v 2) x_F 0 0 (by omega) (z_fuel (by omega))
      exact ⟨w, _, _, w1, (e2 (fun σ => bX8_thread_55 (nI r) (nI i) (nI n) 0 0 σ)).trans w2, z_Rel_st h 0⟩
  · rw [if_pos g1, if_pos g2]; exact ⟨_, _, _, rfl, rfl, h⟩
/-- inches -/
theorem o_inches {σ τ : x_S} (h : z_Rel σ τ) (a1 a2 a3 a4 : Int32) : z_op (fX7_inches a1 a2 a3 a4 σ) (fX8_inches a1 a2 a3 a4 τ) z_Rel := by
  obtain ⟨v, n0, p, V, ht, -⟩ := h.2.2.2.2.1
  have h6 := ht.1.2.2.1
  unfold z_op fX7_inches fX8_inches
  rcases ht.ges a1 with ⟨h1, h2⟩ | ⟨g, hg, rfl, h1, h2⟩
  · rw [h1, h2, z_p, z_p, if_pos rfl, if_pos rfl]
    unfold bX7_inches_21
    rw [if_neg (by decide)]
    exact ⟨_, _, _, rfl, rfl, h⟩
  · rw [h1, h2, z_p, z_p, if_neg z_10, if_neg z_10]
    rcases z_refuse h ht a2 a3 a4 with ⟨k, σ', τ', k0, e1, e2, hR⟩ | ⟨r, i, n, hr, hn1, hn, hin, rfl, rfl, rfl, hstr, e1, e2⟩
    · rw [e1, z_b]
      unfold bX7_inches_21
      rw [if_neg k0]
      exact ⟨k, σ', τ', rfl, e2 (fun σ => bX8_inches_55 (nI g) a2 a3 a4 0 0 σ), hR⟩
    · rw [e1, z_b]
      unfold bX7_inches_21
      rw [if_pos rfl]
      have hrow := (h.2.1 r hr).2.2
      obtain ⟨hk, hi, -, -⟩ := ht.1.2.2.2.2.2.2 g hg
      obtain ⟨f1, f2, -⟩ := ht.2.1.2.2.2.2.2.2 g hg
      have f1 : σ 35 g = nI (v (19 + g)) := f1
      have f2 : σ 36 g = nI (v (25 + g)) := f2
      obtain ⟨m1, m2, -⟩ := ht.2.2.2.2.2.2.2.2 g hg
      rw [Nat.zero_add] at m1 m2
      have key : ∀ d f j a, j + d = 30 → 0 ≤ j → d < f → ∃ w, x_fx (α := Int32 → Int32 → x_S → Option (Int32 × x_S)) (fun _ _ _ => none) (fun K => fun x6 x7 σ => gX7_inches_37 (nI g) (nI r) (nI i) (nI n) K x6 x7 σ) f a (nI (j + 1)) σ = some (w, x_u σ 0 8 0) ∧ x_fx (α := Int32 → Int32 → x_S → Option (Int32 × x_S)) (fun _ _ _ => none) (fun K => fun x6 x7 σ => gX8_inches_55 (nI g) (nI r) (nI i) (nI n) K x6 x7 σ) f a (nI j) τ = some (w, x_u τ 0 10 0) := by
        intro d
        induction d with
        | zero =>
          intro f j a hj hj1 hf
          cases f with
          | zero => exact absurd hf (by omega)
          | succ f =>
            have ej : j = 30 := by omega
            subst ej
            refine ⟨a, ?_, ?_⟩
            · show gX7_inches_37 (nI g) (nI r) (nI i) (nI n) _ a _ σ = _
              unfold gX7_inches_37
              rw [if_pos (by decide), z_fno, z_b]
            · show gX8_inches_55 (nI g) (nI r) (nI i) (nI n) _ a _ τ = _
              unfold gX8_inches_55
              rw [if_pos (by decide), z_well, z_b]
        | succ d ih =>
          intro f j a hj hj1 hf
          cases f with
          | zero => exact absurd hf (by omega)
          | succ f =>
            obtain ⟨b1, hb1, o1, o2⟩ := z_owes ht hr hn hin hrow hstr hk (inc := j + 1) (by omega)
            have ej : nI (j + 1) - 1 = nI j := pk_sub (a := j + 1) (b := 1) (by omega)
            have uS : ∀ K : Int32 → Int32 → x_S → Option (Int32 × x_S), gX7_inches_37 (nI g) (nI r) (nI i) (nI n) K a (nI (j + 1)) σ = if b1 = 0 then K a (nI (j + 1 + 1)) σ else K (a ||| (1 <<< (nI j &&& 31))) (nI (j + 1 + 1)) σ := by
              intro K
              unfold gX7_inches_37
              rw [if_neg (fun z => by have := (z_gtL (a := j + 1) (y := (30 : Int32)) 30 rfl (by omega) (by decide)).mp z; omega), z_gi (n := 6) (by omega) (by decide), z_cl (by omega), f1, o1, z_p, ej, nI_1]
            have uM : ∀ K : Int32 → Int32 → x_S → Option (Int32 × x_S), gX8_inches_55 (nI g) (nI r) (nI i) (nI n) K a (nI j) τ = if b1 = 0 then K a (nI (j + 1)) τ else K (a ||| (1 <<< (nI j &&& 31))) (nI (j + 1)) τ := by
              intro K
              unfold gX8_inches_55
              rw [if_neg (fun z => by have := (z_geL (a := j) (y := (30 : Int32)) 30 rfl (by omega) (by decide)).mp z; omega), show (19 : Int32) + nI g = nI (19 + g) from nI_add 19 g, z_gi (n := 1372) (by omega) (by decide), z_cl (by omega), m1, nI_1, o2, z_p, z_or0]
            rcases hb1 with rfl | rfl
            · obtain ⟨w, w1, w2⟩ := ih f (j + 1) a (by omega) (by omega) (by omega)
              exact ⟨w, ((uS _).trans (if_pos rfl)).trans w1, ((uM _).trans (if_pos rfl)).trans w2⟩
            · obtain ⟨w, w1, w2⟩ := ih f (j + 1) (a ||| (1 <<< (nI j &&& 31))) (by omega) (by omega) (by omega)
              exact ⟨w, ((uS _).trans (if_neg z_10)).trans w1, ((uM _).trans (if_neg z_10)).trans w2⟩
      obtain ⟨w, w1, w2⟩ := key (30 - 0) x_F 0 0 (by omega) (by omega) (z_fuel (by omega))
      exact ⟨w, _, _, w1, (e2 (fun σ => bX8_inches_55 (nI g) (nI r) (nI i) (nI n) 0 0 σ)).trans w2, z_Rel_st h 0⟩
/-- sorts -/
theorem o_sorts {σ τ : x_S} (h : z_Rel σ τ) (a1 a2 a3 a4 : Int32) : z_op (fX7_sorts a1 a2 a3 a4 σ) (fX8_sorts a1 a2 a3 a4 τ) z_Rel := by
  obtain ⟨v, n0, p, V, ht, -⟩ := h.2.2.2.2.1
  have h6 := ht.1.2.2.1
  unfold z_op fX7_sorts fX8_sorts
  rcases ht.ges a1 with ⟨h1, h2⟩ | ⟨g, hg, rfl, h1, h2⟩
  · rw [h1, h2, z_p, z_p, if_pos rfl, if_pos rfl]
    unfold bX7_sorts_21
    rw [if_neg (by decide)]
    exact ⟨_, _, _, rfl, rfl, h⟩
  · rw [h1, h2, z_p, z_p, if_neg z_10, if_neg z_10]
    rcases z_refuse h ht a2 a3 a4 with ⟨k, σ', τ', k0, e1, e2, hR⟩ | ⟨r, i, n, hr, hn1, hn, hin, rfl, rfl, rfl, hstr, e1, e2⟩
    · rw [e1, z_b]
      unfold bX7_sorts_21
      rw [if_neg k0]
      exact ⟨k, σ', τ', rfl, e2 (fun σ => bX8_sorts_55 (nI g) a2 a3 a4 0 1 σ), hR⟩
    · rw [e1, z_b]
      unfold bX7_sorts_21
      rw [if_pos rfl]
      have hrow := (h.2.1 r hr).2.2
      obtain ⟨hk, hi, -, -⟩ := ht.1.2.2.2.2.2.2 g hg
      obtain ⟨f1, f2, -⟩ := ht.2.1.2.2.2.2.2.2 g hg
      have f1 : σ 35 g = nI (v (19 + g)) := f1
      have f2 : σ 36 g = nI (v (25 + g)) := f2
      obtain ⟨m1, m2, -⟩ := ht.2.2.2.2.2.2.2.2 g hg
      rw [Nat.zero_add] at m1 m2
      have key : ∀ d f j a, j + d = 6 → 1 ≤ j → d < f → ∃ w, x_fx (α := Int32 → Int32 → x_S → Option (Int32 × x_S)) (fun _ _ _ => none) (fun K => fun x6 x7 σ => gX7_sorts_37 (nI g) (nI r) (nI i) (nI n) K x6 x7 σ) f a (nI j) σ = some (w, x_u σ 0 8 0) ∧ x_fx (α := Int32 → Int32 → x_S → Option (Int32 × x_S)) (fun _ _ _ => none) (fun K => fun x6 x7 σ => gX8_sorts_55 (nI g) (nI r) (nI i) (nI n) K x6 x7 σ) f a (nI j) τ = some (w, x_u τ 0 10 0) := by
        intro d
        induction d with
        | zero =>
          intro f j a hj hj1 hf
          cases f with
          | zero => exact absurd hf (by omega)
          | succ f =>
            have ej : j = 6 := by omega
            subst ej
            refine ⟨a, ?_, ?_⟩
            · show gX7_sorts_37 (nI g) (nI r) (nI i) (nI n) _ a _ σ = _
              unfold gX7_sorts_37
              rw [if_pos (by decide), z_fno, z_b]
            · show gX8_sorts_55 (nI g) (nI r) (nI i) (nI n) _ a _ τ = _
              unfold gX8_sorts_55
              rw [if_pos (by decide), z_well, z_b]
        | succ d ih =>
          intro f j a hj hj1 hf
          cases f with
          | zero => exact absurd hf (by omega)
          | succ f =>
            obtain ⟨b1, hb1, o1, o2⟩ := z_owes ht hr hn hin hrow hstr (kd := j) (by omega) (inc := v (25 + g)) (by omega)
            have uS : ∀ K : Int32 → Int32 → x_S → Option (Int32 × x_S), gX7_sorts_37 (nI g) (nI r) (nI i) (nI n) K a (nI j) σ = if b1 = 0 then K a (nI (j + 1)) σ else K (a ||| (1 <<< (nI j &&& 31))) (nI (j + 1)) σ := by
              intro K
              unfold gX7_sorts_37
              rw [if_neg (fun z => by have := (z_gtL (a := j) (y := (5 : Int32)) 5 rfl (by omega) (by decide)).mp z; omega), z_gi (n := 6) (by omega) (by decide), z_cl (by omega), f2, o1, z_p, nI_1]
            have uM : ∀ K : Int32 → Int32 → x_S → Option (Int32 × x_S), gX8_sorts_55 (nI g) (nI r) (nI i) (nI n) K a (nI j) τ = if b1 = 0 then K a (nI (j + 1)) τ else K (a ||| (1 <<< (nI j &&& 31))) (nI (j + 1)) τ := by
              intro K
              unfold gX8_sorts_55
              rw [if_neg (fun z => by have := (z_geL (a := j) (y := (6 : Int32)) 6 rfl (by omega) (by decide)).mp z; omega), show (25 : Int32) + nI g = nI (25 + g) from nI_add 25 g, z_gi (n := 1372) (by omega) (by decide), z_cl (by omega), m2, o2, z_p, nI_1, z_or0]
            rcases hb1 with rfl | rfl
            · obtain ⟨w, w1, w2⟩ := ih f (j + 1) a (by omega) (by omega) (by omega)
              exact ⟨w, ((uS _).trans (if_pos rfl)).trans w1, ((uM _).trans (if_pos rfl)).trans w2⟩
            · obtain ⟨w, w1, w2⟩ := ih f (j + 1) (a ||| (1 <<< (nI j &&& 31))) (by omega) (by omega) (by omega)
              exact ⟨w, ((uS _).trans (if_neg z_10)).trans w1, ((uM _).trans (if_neg z_10)).trans w2⟩
      obtain ⟨w, w1, w2⟩ := key (6 - 1) x_F 1 0 (by omega) (by omega) (z_fuel (by omega))
      exact ⟨w, _, _, w1, (e2 (fun σ => bX8_sorts_55 (nI g) (nI r) (nI i) (nI n) 0 1 σ)).trans w2, z_Rel_st h 0⟩
end
section
/-! ===== pure: ask ===== -/
/-- σ, τ are σ0, τ0 but for the trace, that has n numbers -/
def z_Q (σ0 τ0 : x_S) (n : Nat) (σ τ : x_S) : Prop := (∀ c, c ≠ 30 → c ≠ 31 → σ c = σ0 c) ∧ (∀ c, c ≠ 0 → c ≠ 7 → τ c = τ0 c) ∧ (∀ j, j ≠ 12 → τ 0 j = τ0 0 j) ∧ σ 30 1 = nI n ∧ τ 0 12 = nI n ∧ ∀ i, i < n → σ 31 i = τ 7 i
def z_an (σ0 τ0 : x_S) (N : Nat) (x y : Option (Int32 × x_S)) : Prop := ∃ m r σ' τ', x = some (r, σ') ∧ y = some (r, τ') ∧ m ≤ N ∧ z_Q σ0 τ0 m σ' τ'
theorem z_lv {σ0 τ0 σ τ : x_S} {n : Nat} (h : z_Q σ0 τ0 n σ τ) (hn : n < 16) (a : Int32) : ∃ σ' τ', fX1_leave a σ = some σ' ∧ fX8_begin a τ = some τ' ∧ z_Q σ0 τ0 (n + 1) σ' τ' := by
  obtain ⟨h1, h2, h3, h4, h5, h6⟩ := h
  have cc : ¬ 16 ≤ nI n := fun z => by have := (z_geL (a := n) (y := (16 : Int32)) 16 rfl (by omega) (by decide)).mp z; omega
  have w1 : x_u σ 31 n a 30 1 = nI n := (congrFun (z_uk (by decide)) 1).trans h4
  have w2 : x_u τ 7 n a 0 12 = nI n := (congrFun (z_uk (by decide)) 12).trans h5
  refine ⟨x_u (x_u σ 31 n a) 30 1 (nI (n + 1)), x_u (x_u τ 7 n a) 0 12 (nI (n + 1)), ?_, ?_, fun c g1 g2 => ?_, fun c g1 g2 => ?_, fun j hj => ?_, z_us _ _ _ _, z_us _ _ _ _, fun i hi => ?_⟩
  · unfold fX1_leave
    rw [h4, if_neg cc, z_gi hn (by decide), z_w, z_cl (by omega), w1, nI_1, z_w]
  · unfold fX8_begin
    rw [h5, if_neg cc, z_gi hn (by decide), z_w, z_cl (by omega), w2, nI_1, z_w]
  · rw [z_uk g1, z_uk g2]; exact h1 c g1 g2
  · rw [z_uk g1, z_uk g2]; exact h2 c g1 g2
  · rw [z_ui hj, z_uk (by decide)]; exact h3 j hj
  · rw [z_uk (k := 30) (by decide), z_uk (k := 0) (by decide)]
    by_cases e : i = n
    · subst e; rw [z_us, z_us]
    · rw [z_ui e, z_ui e]; exact h6 i (by omega)
theorem z_d16 {d : Nat} (h : d < 16) : nI d < 16 := (z_ltL (y := (16 : Int32)) 16 rfl (by omega) (by decide)).mpr h
/-- a body by its number -/
theorem z_xb {X : Option (Int32 × x_S)} : x_b X (fun r s => some (r, s)) = X := by
  rcases X with _ | ⟨r, s⟩ <;> rfl
theorem z_gv {σ σ' : x_S} {d : Nat} {b g : Int32} (f : Nat) (hd : d < 16) (l1 : fX1_leave b σ = some σ') : fX1_given_n (f + 1) b 32 g (nI d) σ = if 20 ≤ b then fX1_markBy (fX1_given_n f) b 32 g (nI (d + 1)) σ' else fX1_sizeBy (fX1_given_n f) b 32 g (nI (d + 1)) σ' := by
  show hX1_given (fX1_given_n f) b 32 g (nI d) σ = _
  unfold hX1_given
  rw [if_pos (z_d16 hd), l1, z_v, z_xb, z_xb, nI_1]
section
variable {σ0 τ0 : x_S} {v : z_V} {g : Nat}
theorem z_b10 (ht : z_T σ0 τ0 v) (hg : g < v 2) {σ τ : x_S} {n d : Nat} (h : z_Q σ0 τ0 n σ τ) (hn : n < 16) (hd : d < 16) (f : Nat) : z_an σ0 τ0 (n + 1) (fX1_given_n (f + 1) 10 32 (nI g) (nI d) σ) (fX8_lentSize (nI g) τ) := by
  have h6 := ht.1.2.2.1
  obtain ⟨σ', τ', l1, l2, q⟩ := z_lv h hn 10
  have e1 : σ' 38 g = nI (v (37 + g)) := (congrFun (q.1 38 (by decide) (by decide)) g).trans (ht.2.1.2.2.2.2.2.2 g hg).2.2.2.1
  have e2 : τ' 1 (37 + g) = nI (v (37 + g)) := by
    have := (ht.2.2.2.2.2.2.2.2 g hg).2.2.2.1
    rw [Nat.zero_add] at this
    exact (congrFun (q.2.1 1 (by decide) (by decide)) _).trans this
  refine ⟨n + 1, nI (v (37 + g)), σ', τ', ?_, ?_, Nat.le_refl _, q⟩
  · rw [show fX1_given_n (f + 1) 10 32 (nI g) (nI d) σ = _ from z_gv f (by omega) l1, if_neg (by decide)]
    unfold fX1_sizeBy
    rw [if_pos rfl, z_gi (n := 6) (by omega) (by decide), z_cl (by omega), e1]
  · unfold fX8_lentSize
    rw [l2, z_v, show (37 : Int32) + nI g = nI (37 + g) from nI_add 37 g, z_gi (n := 1372) (by omega) (by decide), z_cl (by omega), e2]
theorem z_b20 {σ τ : x_S} {n d : Nat} (h : z_Q σ0 τ0 n σ τ) (hn : n < 16) (hd : d < 16) (f : Nat) : z_an σ0 τ0 (n + 1) (fX1_given_n (f + 1) 20 32 (nI g) (nI d) σ) (fX8_lentMark (nI g) τ) := by
  obtain ⟨σ', τ', l1, l2, q⟩ := z_lv h hn 20
  refine ⟨n + 1, nI g, σ', τ', ?_, ?_, Nat.le_refl _, q⟩
  · rw [show fX1_given_n (f + 1) 20 32 (nI g) (nI d) σ = _ from z_gv f (by omega) l1, if_pos (by decide)]
    unfold fX1_markBy
    rw [if_pos rfl]
  · unfold fX8_lentMark
    rw [l2, z_v]
theorem z_b21 (ht : z_T σ0 τ0 v) (hg : g < v 2) {σ τ : x_S} {n d : Nat} (h : z_Q σ0 τ0 n σ τ) (hn : n + 1 < 16) (hd : d + 1 < 16) (f : Nat) : z_an σ0 τ0 (n + 2) (fX1_given_n (f + 2) 21 32 (nI g) (nI d) σ) (fX8_wavesMark (nI g) τ) := by
  have h6 := ht.1.2.2.1
  obtain ⟨σ', τ', l1, l2, q⟩ := z_lv h (by omega) 21
  obtain ⟨m, r, σ2, τ2, g1, g2, hm, q2⟩ := z_b20 (g := g) q (d := d + 1) (by omega) hd f
  have e1 : σ2 36 g = nI (v (25 + g)) := (congrFun (q2.1 36 (by decide) (by decide)) g).trans (ht.2.1.2.2.2.2.2.2 g hg).2.1
  have e2 : τ2 1 (25 + g) = nI (v (25 + g)) := by
    have := (ht.2.2.2.2.2.2.2.2 g hg).2.1
    rw [Nat.zero_add] at this
    exact (congrFun (q2.2.1 1 (by decide) (by decide)) _).trans this
  refine ⟨m, r + nI (v (25 + g)), σ2, τ2, ?_, ?_, by omega, q2⟩
  · rw [show fX1_given_n (f + 2) 21 32 (nI g) (nI d) σ = _ from z_gv (f + 1) (by omega) l1, if_pos (by decide)]
    unfold fX1_markBy
    rw [if_neg (by decide), if_pos rfl, g1, z_b, z_gi (n := 6) (by omega) (by decide), z_cl (by omega), e1]
  · unfold fX8_wavesMark
    rw [l2, z_v, g2, z_b, show (25 : Int32) + nI g = nI (25 + g) from nI_add 25 g, z_gi (n := 1372) (by omega) (by decide), z_cl (by omega), e2]
theorem z_bodies : ∀ kd, kd < 6 → 1 ≤ kd → fX1_bodyFor 1 (nI kd) (fun _ _ => 0) = some (if kd = 1 then 11 else if kd = 2 then 12 else if kd = 3 then 11 else if kd = 4 then 13 else 14) ∧ fX1_bodyFor 2 (nI kd) (fun _ _ => 0) = some (if kd = 1 then 21 else if kd = 2 then 24 else if kd = 3 then 22 else 23) := by decide +kernel
/-- asked for the mark, of a wave -/
theorem z_mk (ht : z_T σ0 τ0 v) (hg : g < v 2) (hk3 : v (19 + g) ≤ 3) {σ τ : x_S} {n d : Nat} (h : z_Q σ0 τ0 n σ τ) (hn : n + 2 < 16) (hd : d + 2 < 16) (f : Nat) : z_an σ0 τ0 (n + 3) (fX1_asked (fX1_given_n (f + 3)) 32 (nI g) 1 (nI d) σ) (fX8_mark (nI g) τ) := by
  have h6 := ht.1.2.2.1
  obtain ⟨⟨k1, k5⟩, -⟩ := ht.1.2.2.2.2.2.2 g hg
  have e1 : σ 35 g = nI (v (19 + g)) := (congrFun (h.1 35 (by decide) (by decide)) g).trans (ht.2.1.2.2.2.2.2.2 g hg).1
  have e2 : τ 1 (19 + g) = nI (v (19 + g)) := by
    have := (ht.2.2.2.2.2.2.2.2 g hg).1
    rw [Nat.zero_add] at this
    exact (congrFun (h.2.1 1 (by decide) (by decide)) _).trans this
  have hb : fX1_bodyFor 2 (nI (v (19 + g))) σ = some (if v (19 + g) = 1 then 21 else if v (19 + g) = 2 then 24 else if v (19 + g) = 3 then 22 else 23) := (z_bodies (v (19 + g)) (by omega) k1).2
  have cg : (nI (19 + g)).toNatClampNeg = 19 + g := z_cl (by omega)
  unfold z_an fX1_asked bX1_asked_13 fX8_mark
  rw [if_neg z_10, z_gi (n := 6) (by omega) (by decide), z_cl (by omega), e1, hb, z_p, show (19 : Int32) + nI g = nI (19 + g) from nI_add 19 g, z_gi (n := 1372) (by omega) (by decide)]
  have key2 : ∀ k : Nat, k < 6 → ((τ 1 (nI (19 + g)).toNatClampNeg = nI k) ↔ v (19 + g) = k) := fun k hk => by rw [cg, e2]; exact nI_eq (by omega) (by omega)
  have cA : (τ 1 (nI (19 + g)).toNatClampNeg = 2) ↔ v (19 + g) = 2 := key2 2 (by omega)
  have cB : (τ 1 (nI (19 + g)).toNatClampNeg = 3) ↔ v (19 + g) = 3 := key2 3 (by omega)
  rcases (show v (19 + g) = 1 ∨ v (19 + g) = 2 ∨ v (19 + g) = 3 by omega) with e | e | e
  · obtain ⟨m, r, σ2, τ2, g1, g2, hm, q2⟩ := z_b21 ht hg h (d := d) (by omega) (by omega) (f + 1)
    refine ⟨m, r, σ2, τ2, ?_, ?_, by omega, q2⟩
    · rw [if_pos e, g1, z_b]
    · rw [if_neg (fun z => by have := cA.mp z; omega), if_neg (fun z => by have := cB.mp z; omega), g2, z_b]
  · obtain ⟨σ', τ', l1, l2, q⟩ := z_lv h (by omega) 24
    obtain ⟨m, r, σ2, τ2, g1, g2, hm, q2⟩ := z_b21 ht hg q (d := d + 1) (by omega) (by omega) f
    have s1 : fX1_given_n (f + 3) 24 32 (nI g) (nI d) σ = some (2 * r, σ2) := by
      rw [show fX1_given_n (f + 3) 24 32 (nI g) (nI d) σ = _ from z_gv (f + 2) (by omega) l1, if_pos (by decide)]
      unfold fX1_markBy
      rw [if_neg (by decide), if_neg (by decide), if_neg (by decide), if_neg (by decide), if_pos rfl, g1, z_b]
    refine ⟨m, 2 * r, σ2, τ2, ?_, ?_, by omega, q2⟩
    · rw [if_neg (by omega), if_pos e, s1, z_b]
    · rw [if_pos (cA.mpr e), l2, z_v, g2, z_b]
  · obtain ⟨σ', τ', l1, l2, q⟩ := z_lv h (by omega) 22
    obtain ⟨m, r, σ2, τ2, g1, g2, hm, q2⟩ := z_b21 ht hg q (d := d + 1) (by omega) (by omega) f
    have s1 : fX1_given_n (f + 3) 22 32 (nI g) (nI d) σ = some (r - 1000, σ2) := by
      rw [show fX1_given_n (f + 3) 22 32 (nI g) (nI d) σ = _ from z_gv (f + 2) (by omega) l1, if_pos (by decide)]
      unfold fX1_markBy
      rw [if_neg (by decide), if_neg (by decide), if_pos rfl, g1, z_b]
    refine ⟨m, r - 1000, σ2, τ2, ?_, ?_, by omega, q2⟩
    · rw [if_neg (by omega), if_neg (by omega), if_pos e, s1, z_b]
    · rw [if_neg (fun z => by have := cA.mp z; omega), if_pos (cB.mpr e), l2, z_v, g2, z_b]
end
end
section
/-! ===== pure: ask, on ===== -/
section
variable {σ0 τ0 : x_S} {v : z_V} {g : Nat}
theorem z_b11 (ht : z_T σ0 τ0 v) (hg : g < v 2) (hk3 : v (19 + g) ≤ 3) {σ τ : x_S} {n d : Nat} (h : z_Q σ0 τ0 n σ τ) (hn : n + 4 < 16) (hd : d + 3 < 16) (f : Nat) : z_an σ0 τ0 (n + 5) (fX1_given_n (f + 4) 11 32 (nI g) (nI d) σ) (fX8_wavesSize (nI g) τ) := by
  obtain ⟨σ', τ', l1, l2, q⟩ := z_lv h (by omega) 11
  obtain ⟨m, r, σ2, τ2, g1, g2, hm, q2⟩ := z_b10 ht hg q (d := d + 1) (by omega) (by omega) (f + 2)
  obtain ⟨m3, r3, σ3, τ3, g3, g4, hm3, q3⟩ := z_mk ht hg hk3 q2 (d := d + 1) (by omega) (by omega) f
  refine ⟨m3, r + r3, σ3, τ3, ?_, ?_, by omega, q3⟩
  · rw [show fX1_given_n (f + 4) 11 32 (nI g) (nI d) σ = _ from z_gv (f + 3) (by omega) l1, if_neg (by decide)]
    unfold fX1_sizeBy
    rw [if_neg (by decide), if_pos rfl, g1, z_b, g3, z_b]
  · unfold fX8_wavesSize
    rw [l2, z_v, g2, z_b, g4, z_b]
theorem z_b13 (ht : z_T σ0 τ0 v) (hg : g < v 2) {σ τ : x_S} {n d : Nat} (h : z_Q σ0 τ0 n σ τ) (hn : n + 1 < 16) (hd : d + 1 < 16) (f : Nat) : z_an σ0 τ0 (n + 2) (fX1_given_n (f + 2) 13 32 (nI g) (nI d) σ) (fX8_winksSize (nI g) τ) := by
  obtain ⟨σ', τ', l1, l2, q⟩ := z_lv h (by omega) 13
  obtain ⟨m, r, σ2, τ2, g1, g2, hm, q2⟩ := z_b10 ht hg q (d := d + 1) (by omega) (by omega) f
  refine ⟨m, r - 100, σ2, τ2, ?_, ?_, by omega, q2⟩
  · rw [show fX1_given_n (f + 2) 13 32 (nI g) (nI d) σ = _ from z_gv (f + 1) (by omega) l1, if_neg (by decide)]
    unfold fX1_sizeBy
    rw [if_neg (by decide), if_neg (by decide), if_neg (by decide), if_pos rfl, g1, z_b]
  · unfold fX8_winksSize
    rw [l2, z_v, g2, z_b]
/-- asked for the size -/
theorem z_szk (ht : z_T σ0 τ0 v) (hg : g < v 2) {σ τ : x_S} {n d : Nat} (h : z_Q σ0 τ0 n σ τ) (hn : n + 5 < 16) (hd : d + 4 < 16) (f : Nat) : z_an σ0 τ0 (n + 6) (fX1_asked (fX1_given_n (f + 5)) 32 (nI g) 0 (nI d) σ) (fX8_sizeOf (nI g) τ) := by
  have h6 := ht.1.2.2.1
  obtain ⟨⟨k1, k5⟩, -⟩ := ht.1.2.2.2.2.2.2 g hg
  have e1 : σ 35 g = nI (v (19 + g)) := (congrFun (h.1 35 (by decide) (by decide)) g).trans (ht.2.1.2.2.2.2.2.2 g hg).1
  have e2 : τ 1 (19 + g) = nI (v (19 + g)) := by
    have := (ht.2.2.2.2.2.2.2.2 g hg).1
    rw [Nat.zero_add] at this
    exact (congrFun (h.2.1 1 (by decide) (by decide)) _).trans this
  have hb : fX1_bodyFor 1 (nI (v (19 + g))) σ = some (if v (19 + g) = 1 then 11 else if v (19 + g) = 2 then 12 else if v (19 + g) = 3 then 11 else if v (19 + g) = 4 then 13 else 14) := (z_bodies (v (19 + g)) (by omega) k1).1
  have cg : (nI (19 + g)).toNatClampNeg = 19 + g := z_cl (by omega)
  unfold z_an fX1_asked bX1_asked_13 fX8_sizeOf
  rw [if_pos rfl, z_gi (n := 6) (by omega) (by decide), z_cl (by omega), e1, hb, z_p, show (19 : Int32) + nI g = nI (19 + g) from nI_add 19 g, z_gi (n := 1372) (by omega) (by decide)]
  have key2 : ∀ k : Nat, k < 6 → ((τ 1 (nI (19 + g)).toNatClampNeg = nI k) ↔ v (19 + g) = k) := fun k hk => by rw [cg, e2]; exact nI_eq (by omega) (by omega)
  have cA : (τ 1 (nI (19 + g)).toNatClampNeg = 2) ↔ v (19 + g) = 2 := key2 2 (by omega)
  have cB : (τ 1 (nI (19 + g)).toNatClampNeg = 3) ↔ v (19 + g) = 3 := key2 3 (by omega)
  have cC : (τ 1 (nI (19 + g)).toNatClampNeg = 4) ↔ v (19 + g) = 4 := key2 4 (by omega)
  have cD : (τ 1 (nI (19 + g)).toNatClampNeg = 5) ↔ v (19 + g) = 5 := key2 5 (by omega)
  rcases (show v (19 + g) = 1 ∨ v (19 + g) = 2 ∨ v (19 + g) = 3 ∨ v (19 + g) = 4 ∨ v (19 + g) = 5 by omega) with e | e | e | e | e
  · obtain ⟨m, r, σ2, τ2, g1, g2, hm, q2⟩ := z_b11 ht hg (by omega) h (d := d) (by omega) (by omega) (f + 1)
    refine ⟨m, r, σ2, τ2, ?_, ?_, by omega, q2⟩
    · rw [if_pos e, g1, z_b]
    · rw [if_neg (fun z => by have := cA.mp z; omega), if_neg (fun z => by have := cB.mp z; omega), if_neg (fun z => by have := cC.mp z; omega), if_neg (fun z => by have := cD.mp z; omega), g2, z_b]
  · obtain ⟨σ', τ', l1, l2, q⟩ := z_lv h (by omega) 12
    obtain ⟨m, r, σ2, τ2, g1, g2, hm, q2⟩ := z_b11 ht hg (by omega) q (d := d + 1) (by omega) (by omega) f
    have s1 : fX1_given_n (f + 5) 12 32 (nI g) (nI d) σ = some (-r, σ2) := by
      rw [show fX1_given_n (f + 5) 12 32 (nI g) (nI d) σ = _ from z_gv (f + 4) (by omega) l1, if_neg (by decide)]
      unfold fX1_sizeBy
      rw [if_neg (by decide), if_neg (by decide), if_pos rfl, g1, z_b]
    refine ⟨m, -r, σ2, τ2, ?_, ?_, by omega, q2⟩
    · rw [if_neg (by omega), if_pos e, s1, z_b]
    · rw [if_pos (cA.mpr e), l2, z_v, g2, z_b]
  · obtain ⟨m, r, σ2, τ2, g1, g2, hm, q2⟩ := z_b11 ht hg (by omega) h (d := d) (by omega) (by omega) (f + 1)
    refine ⟨m, r, σ2, τ2, ?_, ?_, by omega, q2⟩
    · rw [if_neg (by omega), if_neg (by omega), if_pos e, g1, z_b]
    · rw [if_neg (fun z => by have := cA.mp z; omega), if_pos (cB.mpr e), g2, z_b]
  · obtain ⟨m, r, σ2, τ2, g1, g2, hm, q2⟩ := z_b13 ht hg h (d := d) (by omega) (by omega) (f + 3)
    refine ⟨m, r, σ2, τ2, ?_, ?_, by omega, q2⟩
    · rw [if_neg (by omega), if_neg (by omega), if_neg (by omega), if_pos e, g1, z_b]
    · rw [if_neg (fun z => by have := cA.mp z; omega), if_neg (fun z => by have := cB.mp z; omega), if_pos (cC.mpr e), g2, z_b]
  · obtain ⟨σ', τ', l1, l2, q⟩ := z_lv h (by omega) 14
    obtain ⟨m, r, σ2, τ2, g1, g2, hm, q2⟩ := z_b13 ht hg q (d := d + 1) (by omega) (by omega) (f + 2)
    have s1 : fX1_given_n (f + 5) 14 32 (nI g) (nI d) σ = some (2 * r, σ2) := by
      rw [show fX1_given_n (f + 5) 14 32 (nI g) (nI d) σ = _ from z_gv (f + 4) (by omega) l1, if_neg (by decide)]
      unfold fX1_sizeBy
      rw [if_neg (by decide), if_neg (by decide), if_neg (by decide), if_neg (by decide), if_pos rfl, g1, z_b]
    refine ⟨m, 2 * r, σ2, τ2, ?_, ?_, by omega, q2⟩
    · rw [if_neg (by omega), if_neg (by omega), if_neg (by omega), if_neg (by omega), s1, z_b]
    · rw [if_neg (fun z => by have := cA.mp z; omega), if_neg (fun z => by have := cB.mp z; omega), if_neg (fun z => by have := cC.mp z; omega), if_pos (cD.mpr e), l2, z_v, g2, z_b]
theorem z_b23 (ht : z_T σ0 τ0 v) (hg : g < v 2) {σ τ : x_S} {n d : Nat} (h : z_Q σ0 τ0 n σ τ) (hn : n + 7 < 16) (hd : d + 5 < 16) (f : Nat) : z_an σ0 τ0 (n + 8) (fX1_given_n (f + 6) 23 32 (nI g) (nI d) σ) (fX8_winksMark (nI g) τ) := by
  obtain ⟨σ', τ', l1, l2, q⟩ := z_lv h (by omega) 23
  obtain ⟨m, r, σ2, τ2, g1, g2, hm, q2⟩ := z_b20 (g := g) q (d := d + 1) (by omega) (by omega) (f + 4)
  obtain ⟨m3, r3, σ3, τ3, g3, g4, hm3, q3⟩ := z_szk ht hg q2 (d := d + 1) (by omega) (by omega) f
  refine ⟨m3, r - r3, σ3, τ3, ?_, ?_, by omega, q3⟩
  · rw [show fX1_given_n (f + 6) 23 32 (nI g) (nI d) σ = _ from z_gv (f + 5) (by omega) l1, if_pos (by decide)]
    unfold fX1_markBy
    rw [if_neg (by decide), if_neg (by decide), if_neg (by decide), if_pos rfl, g1, z_b, g3, z_b]
  · unfold fX8_winksMark
    rw [l2, z_v, g2, z_b, g4, z_b]
end
theorem z_Rel_Q {σ τ σ' τ' : x_S} {m : Nat} (h : z_Rel σ τ) (q : z_Q σ τ m σ' τ') (hm : m ≤ 16) : z_Rel σ' τ' := by
  obtain ⟨hs, hr, hta, hf, hto, him, htr⟩ := h
  obtain ⟨q1, q2, q3, q4, q5, q6⟩ := q
  refine ⟨?_, z_rows_c hr (fun k g1 g2 => q1 k (by omega) (by omega)) (q2 3 (by decide) (by decide)) (q2 4 (by decide) (by decide)) (q2 5 (by decide) (by decide)), z_tape_c hta (by rw [q1 13 (by decide) (by decide)]) (q1 14 (by decide) (by decide)) (q3 8 (by decide)) (q2 6 (by decide) (by decide)), ?_, z_town_c hto (fun k g1 g2 => q1 k (by omega) (by omega)) (fun k g1 g2 => q1 k (by omega) (by omega)) (fun k _ => by rw [q2 1 (by decide) (by decide)]) (q3 1 (by decide)) (q3 2 (by decide)), z_ims_c him (fun k g1 g2 => q1 k (by omega) (by omega)) (fun k _ => by rw [q2 1 (by decide) (by decide)]) (q2 2 (by decide) (by decide)) (fun z => (q3 1 (by decide)).trans z), ⟨m, hm, q4, q5, q6⟩⟩
  · show σ' 0 8 = τ' 0 10
    rw [q1 0 (by decide) (by decide), q3 10 (by decide)]; exact hs
  · rw [q1 13 (by decide) (by decide), q3 9 (by decide)]; exact hf
theorem z_isOf4 : ∀ kd, kd < 6 → 1 ≤ kd → (if (4 : Int32) = 0 then some (1 : Int32) else if (4 : Int32) = nI kd then some 1 else if (4 : Int32) = 1 then if nI kd = 2 then some 1 else if nI kd = 3 then some 1 else if (4 : Int32) = 4 then if nI kd = 5 then some 1 else some 0 else some 0 else if (4 : Int32) = 4 then if nI kd = 5 then some 1 else some 0 else some 0) = some (if kd ≤ 3 then 0 else 1) := by decide +kernel
/-- ask -/
theorem o_ask {σ τ : x_S} (h : z_Rel σ τ) (a1 a2 : Int32) : z_op (fX7_ask a1 a2 σ) (fX8_ask a1 a2 τ) z_Rel := by
  obtain ⟨v, n0, p, V, ht, -⟩ := h.2.2.2.2.1
  have h6 := ht.1.2.2.1
  unfold z_op fX7_ask fX8_ask
  rcases ht.ges a1 with ⟨h1, h2⟩ | ⟨g, hg, rfl, h1, h2⟩
  · rw [h1, h2, z_p, z_p, if_pos rfl, if_pos rfl]; exact ⟨_, _, _, rfl, rfl, h⟩
  · rw [h1, h2, z_p, z_p, if_neg z_10, if_neg z_10, z_isWithin, show (0 : Int64) = (0 : Int32).toInt64 from rfl, show (1 : Int64) = (1 : Int32).toInt64 from rfl, z_in64, z_p, z_p]
    by_cases q : z_W a2 0 1 = 0
    · rw [if_pos q, if_pos q]; exact ⟨_, _, _, rfl, rfl, h⟩
    · rw [if_neg q, if_neg q]
      obtain ⟨k, hk, rfl⟩ := z_W3 (n := 1) (by decide) q
      unfold fX1_answer
      rw [z_w, z_w]
      have hq : z_Q σ τ 0 (x_u σ 30 1 0) (x_u τ 0 12 0) := ⟨fun c g1 g2 => z_uk g1, fun c g1 g2 => z_uk g1, fun j hj => z_ui hj, z_us _ _ _ _, z_us _ _ _ _, fun i hi => absurd hi (by omega)⟩
      rcases (show k = 0 ∨ k = 1 by omega) with rfl | rfl
      · obtain ⟨m, r, σ', τ', g1, g2, hm, q2⟩ := z_szk ht hg hq (d := 0) (by omega) (by omega) 7
        have g1 : fX1_asked (fX1_given_n 12) 32 (nI g) (nI 0) 0 (x_u σ 30 1 0) = some (r, σ') := g1
        rw [g1, z_b, z_b, if_pos (show (nI 0 : Int32) = 0 from rfl), g2, z_b]
        exact ⟨_, _, _, rfl, rfl, z_Rel_Q h q2 (by omega)⟩
      · obtain ⟨⟨k1, k5⟩, -⟩ := ht.1.2.2.2.2.2.2 g hg
        obtain ⟨m1, -⟩ := ht.2.2.2.2.2.2.2.2 g hg
        rw [Nat.zero_add] at m1
        have hM : fX8_isOf (nI g) 4 (x_u τ 0 12 0) = some (if v (19 + g) ≤ 3 then 0 else 1) := by
          unfold fX8_isOf bX8_isOf_34
          rw [show (19 : Int32) + nI g = nI (19 + g) from nI_add 19 g, z_gi (n := 1372) (by omega) (by decide), z_cl (by omega), z_uk (by decide), m1]
          exact z_isOf4 (v (19 + g)) (by omega) k1
        rw [if_neg (show ¬ (nI 1 : Int32) = 0 by decide), hM, z_p]
        by_cases c : v (19 + g) ≤ 3
        · obtain ⟨m, r, σ', τ', g1, g2, hm, q2⟩ := z_mk ht hg c hq (d := 0) (by omega) (by omega) 9
          have g1 : fX1_asked (fX1_given_n 12) 32 (nI g) (nI 1) 0 (x_u σ 30 1 0) = some (r, σ') := g1
          rw [g1, z_b, z_b, if_pos c, if_pos rfl, g2, z_b]
          exact ⟨_, _, _, rfl, rfl, z_Rel_Q h q2 (by omega)⟩
        · obtain ⟨m, r, σ', τ', g1, g2, hm, q2⟩ := z_b23 ht hg hq (d := 0) (by omega) (by omega) 6
          have g1 : fX1_given_n 12 23 32 (nI g) 0 (x_u σ 30 1 0) = some (r, σ') := g1
          have hb : fX1_bodyFor 2 (nI (v (19 + g))) (x_u σ 30 1 0) = some (if v (19 + g) = 1 then 21 else if v (19 + g) = 2 then 24 else if v (19 + g) = 3 then 22 else 23) := (z_bodies (v (19 + g)) (by omega) k1).2
          have e1 : x_u σ 30 1 0 35 g = nI (v (19 + g)) := (congrFun (z_uk (by decide)) g).trans (ht.2.1.2.2.2.2.2.2 g hg).1
          have ea : fX1_asked (fX1_given_n 12) 32 (nI g) (nI 1) 0 (x_u σ 30 1 0) = some (r, σ') := by
            unfold fX1_asked bX1_asked_13
            rw [if_neg (show ¬ (nI 1 : Int32) = 0 by decide), z_gi (n := 6) (by omega) (by decide), z_cl (by omega), e1, hb, z_p, if_neg (by omega), if_neg (by omega), if_neg (by omega), g1, z_b]
          rw [ea, z_b, z_b, if_neg c, if_neg z_10, g2, z_b]
          exact ⟨_, _, _, rfl, rfl, z_Rel_Q h q2 (by omega)⟩
end
section
/-! ===== pure: sums over masks ===== -/
def z_sum (f : Nat → Nat) : Nat → Nat
  | 0 => 0
  | n + 1 => z_sum f n + f n
theorem z_sum2 (f : Nat → Nat) : ∀ n, z_sum f (2 * n) = z_sum (fun m => f (2 * m) + f (2 * m + 1)) n := by
  intro n
  induction n with
  | zero => rfl
  | succ n ih =>
    show z_sum f (2 * n) + f (2 * n) + f (2 * n + 1) = z_sum (fun m => f (2 * m) + f (2 * m + 1)) n + (f (2 * n) + f (2 * n + 1))
    rw [ih, Nat.add_assoc]
theorem z_sum_c {f g : Nat → Nat} (h : ∀ m, f m = g m) (n : Nat) : z_sum f n = z_sum g n := by
  have : f = g := funext h
  rw [this]
theorem z_sum_0 (n : Nat) : z_sum (fun _ => 0) n = 0 := by
  induction n with
  | zero => rfl
  | succ n ih => show z_sum (fun _ => 0) n + 0 = 0; rw [ih]
theorem z_sum_l (a b : Nat) (f g : Nat → Nat) (n : Nat) : z_sum (fun m => a * f m + b * g m) n = a * z_sum f n + b * z_sum g n := by
  induction n with
  | zero => rfl
  | succ n ih =>
    show z_sum (fun m => a * f m + b * g m) n + (a * f n + b * g n) = a * (z_sum f n + f n) + b * (z_sum g n + g n)
    rw [ih, Nat.mul_add, Nat.mul_add]; omega
def z_wt (p m : Nat) : Nat → Nat → Nat
  | 0, _ => 1
  | d + 1, k => (if m / 2 ^ k % 2 = 1 then p else 10 - p) * z_wt p m d (k + 1)
def z_ct (D0 D1 : Nat → Nat) (m : Nat) : Nat → Nat → Nat → Nat
  | 0, _, _ => 0
  | d + 1, k, s => (if m / 2 ^ k % 2 = 1 then D1 s else D0 s) + z_ct D0 D1 m d (k + 1) (s + 1)
theorem z_half2 (m k : Nat) : m / 2 ^ (k + 1) = m / 2 / 2 ^ k := by rw [Nat.pow_succ, Nat.mul_comm, Nat.div_div_eq_div_mul]
theorem z_wt_h (p m : Nat) : ∀ d k, z_wt p m d (k + 1) = z_wt p (m / 2) d k := by
  intro d
  induction d with
  | zero => intro k; rfl
  | succ d ih =>
    intro k
    show (if m / 2 ^ (k + 1) % 2 = 1 then p else 10 - p) * z_wt p m d (k + 1 + 1) = (if m / 2 / 2 ^ k % 2 = 1 then p else 10 - p) * z_wt p (m / 2) d (k + 1)
    rw [ih, z_half2]
theorem z_ct_h (D0 D1 : Nat → Nat) (m : Nat) : ∀ d k s, z_ct D0 D1 m d (k + 1) s = z_ct D0 D1 (m / 2) d k s := by
  intro d
  induction d with
  | zero => intro k s; rfl
  | succ d ih =>
    intro k s
    show (if m / 2 ^ (k + 1) % 2 = 1 then D1 s else D0 s) + z_ct D0 D1 m d (k + 1 + 1) (s + 1) = (if m / 2 / 2 ^ k % 2 = 1 then D1 s else D0 s) + z_ct D0 D1 (m / 2) d (k + 1) (s + 1)
    rw [ih, z_half2]
theorem z_ev (m : Nat) : 2 * m / 2 = m := by omega
theorem z_od (m : Nat) : (2 * m + 1) / 2 = m := by omega
theorem z_wt_e (p m d : Nat) : z_wt p (2 * m) (d + 1) 0 = (10 - p) * z_wt p m d 0 := by
  show (if 2 * m / 2 ^ 0 % 2 = 1 then p else 10 - p) * z_wt p (2 * m) d (0 + 1) = _
  rw [z_wt_h, z_ev, if_neg (by rw [Nat.pow_zero, Nat.div_one]; omega)]
theorem z_wt_o (p m d : Nat) : z_wt p (2 * m + 1) (d + 1) 0 = p * z_wt p m d 0 := by
  show (if (2 * m + 1) / 2 ^ 0 % 2 = 1 then p else 10 - p) * z_wt p (2 * m + 1) d (0 + 1) = _
  rw [z_wt_h, z_od, if_pos (by rw [Nat.pow_zero, Nat.div_one]; omega)]
theorem z_ct_e (D0 D1 : Nat → Nat) (m d s : Nat) : z_ct D0 D1 (2 * m) (d + 1) 0 s = D0 s + z_ct D0 D1 m d 0 (s + 1) := by
  show (if 2 * m / 2 ^ 0 % 2 = 1 then D1 s else D0 s) + z_ct D0 D1 (2 * m) d (0 + 1) (s + 1) = _
  rw [z_ct_h, z_ev, if_neg (by rw [Nat.pow_zero, Nat.div_one]; omega)]
theorem z_ct_o (D0 D1 : Nat → Nat) (m d s : Nat) : z_ct D0 D1 (2 * m + 1) (d + 1) 0 s = D1 s + z_ct D0 D1 m d 0 (s + 1) := by
  show (if (2 * m + 1) / 2 ^ 0 % 2 = 1 then D1 s else D0 s) + z_ct D0 D1 (2 * m + 1) d (0 + 1) (s + 1) = _
  rw [z_ct_h, z_od, if_pos (by rw [Nat.pow_zero, Nat.div_one]; omega)]
/-- the tenths within a purse: street by street -/
def z_ten (p : Nat) (D0 D1 : Nat → Nat) : Nat → Nat → Nat → Nat
  | 0, _, _ => 1
  | d + 1, s, x => (10 - p) * (if D0 s ≤ x then z_ten p D0 D1 d (s + 1) (x - D0 s) else 0) + p * (if D1 s ≤ x then z_ten p D0 D1 d (s + 1) (x - D1 s) else 0)
theorem z_ten_sum (p : Nat) (D0 D1 : Nat → Nat) : ∀ d s x, z_ten p D0 D1 d s x = z_sum (fun m => if z_ct D0 D1 m d 0 s ≤ x then z_wt p m d 0 else 0) (2 ^ d) := by
  intro d
  induction d with
  | zero =>
    intro s x
    show 1 = 0 + (if 0 ≤ x then 1 else 0)
    rw [if_pos (Nat.zero_le x)]
  | succ d ih =>
    intro s x
    have part : ∀ D : Nat, (if D ≤ x then z_ten p D0 D1 d (s + 1) (x - D) else 0) = z_sum (fun m => if D + z_ct D0 D1 m d 0 (s + 1) ≤ x then z_wt p m d 0 else 0) (2 ^ d) := by
      intro D
      by_cases c : D ≤ x
      · rw [if_pos c, ih]
        refine z_sum_c (fun m => ?_) _
        by_cases c2 : z_ct D0 D1 m d 0 (s + 1) ≤ x - D
        · rw [if_pos c2, if_pos (by omega)]
        · rw [if_neg c2, if_neg (by omega)]
      · rw [if_neg c]
        refine (z_sum_0 (2 ^ d)).symm.trans (z_sum_c (fun m => ?_) _)
        rw [if_neg (by omega)]
    show (10 - p) * (if D0 s ≤ x then z_ten p D0 D1 d (s + 1) (x - D0 s) else 0) + p * (if D1 s ≤ x then z_ten p D0 D1 d (s + 1) (x - D1 s) else 0) = _
    rw [part, part, ← z_sum_l, Nat.pow_succ, Nat.mul_comm (2 ^ d) 2, z_sum2]
    refine z_sum_c (fun m => ?_) _
    show _ = (if z_ct D0 D1 (2 * m) (d + 1) 0 s ≤ x then z_wt p (2 * m) (d + 1) 0 else 0) + (if z_ct D0 D1 (2 * m + 1) (d + 1) 0 s ≤ x then z_wt p (2 * m + 1) (d + 1) 0 else 0)
    rw [z_ct_e, z_ct_o, z_wt_e, z_wt_o]
    congr 1
    · split
      · rfl
      · rfl
    · split
      · rfl
      · rfl
theorem z_wt_sum {p : Nat} (hp : p ≤ 10) : ∀ d, z_sum (fun m => z_wt p m d 0) (2 ^ d) = 10 ^ d := by
  intro d
  induction d with
  | zero => rfl
  | succ d ih =>
    rw [Nat.pow_succ, Nat.mul_comm (2 ^ d) 2, z_sum2]
    refine (z_sum_c (g := fun m => (10 - p) * z_wt p m d 0 + p * z_wt p m d 0) (fun m => ?_) _).trans ?_
    · show z_wt p (2 * m) (d + 1) 0 + z_wt p (2 * m + 1) (d + 1) 0 = _
      rw [z_wt_e, z_wt_o]
    · rw [z_sum_l, ih, ← Nat.add_mul, Nat.pow_succ, show 10 - p + p = 10 by omega, Nat.mul_comm]
end
section
/-! ===== pure: Euclid, the tenths of the system ===== -/
theorem z_gcd1 (a b : Nat) : Nat.gcd b (a % b) = Nat.gcd a b := by rw [Nat.gcd_comm b, ← Nat.gcd_rec, Nat.gcd_comm]
theorem z_half3 {a b k : Nat} (h0 : 0 < b) (hb : b < 2 ^ (k + 1)) (hr : 0 < a % b) : b % (a % b) < 2 ^ k := by
  have h1 : a % b < b := Nat.mod_lt _ h0
  have h2 : b % (a % b) < a % b := Nat.mod_lt _ hr
  have h3 : b % (a % b) + a % b ≤ b := by
    have e := Nat.div_add_mod b (a % b)
    have q : 1 ≤ b / (a % b) := (Nat.one_le_div_iff hr).mpr (Nat.le_of_lt h1)
    have := Nat.mul_le_mul_left (a % b) q
    omega
  rw [Nat.pow_succ] at hb
  omega
theorem z_pow30 {k : Nat} (hk : k ≤ 29) : 2 ^ k ≤ 2 ^ 29 := Nat.pow_le_pow_right (by decide) hk
theorem z_gS {σ : x_S} : ∀ k a b c f, k ≤ 29 → a < 2 ^ 30 → b < 2 ^ k → c + 2 * k + 1 ≤ 100 → 2 * k + 1 < f → x_fx (α := Int32 → Int32 → Int32 → Option Int32) (fun _ _ _ => none) (fun K => fun x2 x3 x4 => gX7_commonDivisor_7 K x2 x3 x4 σ) f (nI a) (nI b) (nI c) = some (nI (Nat.gcd a b)) := by
  have st : ∀ (K : Int32 → Int32 → Int32 → Option Int32) a b c, a < 2 ^ 30 → b < 2 ^ 30 → 0 < b → c < 100 → gX7_commonDivisor_7 K (nI a) (nI b) (nI c) σ = K (nI b) (nI (a % b)) (nI (c + 1)) := by
    intro K a b c ha hb h0 hc
    have h1 : ¬ nI b = 0 := nI_ne0 h0 (by omega)
    unfold gX7_commonDivisor_7
    rw [if_neg (fun z => by have := (z_geL (a := c) (y := (100 : Int32)) 100 rfl (by omega) (by decide)).mp z; omega), if_neg h1, z_g h1, pk_rem (by omega) h0 (by omega), nI_1]
  have en : ∀ (K : Int32 → Int32 → Int32 → Option Int32) a c, c < 100 → gX7_commonDivisor_7 K (nI a) (nI 0) (nI c) σ = some (nI (Nat.gcd a 0)) := by
    intro K a c hc
    unfold gX7_commonDivisor_7
    rw [if_neg (fun z => by have := (z_geL (a := c) (y := (100 : Int32)) 100 rfl (by omega) (by decide)).mp z; omega), if_pos (show (nI 0 : Int32) = 0 from rfl), Nat.gcd_zero_right]
  intro k
  induction k with
  | zero =>
    intro a b c f hk ha hb hc hf
    have e : b = 0 := by omega
    subst e
    cases f with
    | zero => exact absurd hf (by omega)
    | succ f => exact en _ a c (by omega)
  | succ k ih =>
    intro a b c f hk ha hb hc hf
    have hp := z_pow30 hk
    have hb30 : b < 2 ^ 30 := by omega
    cases f with
    | zero => exact absurd hf (by omega)
    | succ f =>
      rcases Nat.eq_zero_or_pos b with h | h
      · subst h; exact en _ a c (by omega)
      · have h1 : a % b < b := Nat.mod_lt _ h
        refine (st _ a b c ha hb30 h (by omega)).trans ?_
        cases f with
        | zero => exact absurd hf (by omega)
        | succ f =>
          rcases Nat.eq_zero_or_pos (a % b) with h2 | h2
          · rw [h2]
            refine (en _ b (c + 1) (by omega)).trans ?_
            rw [← z_gcd1 a b, h2]
          · refine (st _ b (a % b) (c + 1) hb30 (by omega) h2 (by omega)).trans ?_
            refine (ih (a % b) (b % (a % b)) (c + 1 + 1) f (by omega) (by omega) (z_half3 h hb h2) (by omega) (by omega)).trans ?_
            rw [z_gcd1, z_gcd1]
theorem z_tenNeg {σ : x_S} {a4 : Int32} (h : a4 < 0) (f : Nat) (a1 a2 a3 a5 : Int32) : fX7_tenthsWithin_n (f + 1) 32 a1 a2 a3 a4 a5 σ = some 0 := by
  show hX7_tenthsWithin (fX7_tenthsWithin_n f) 32 a1 a2 a3 a4 a5 σ = _
  unfold hX7_tenthsWithin
  rw [if_neg (Int32.not_le.mpr h)]
theorem z_tenS {σ : x_S} {v : z_V} (hS : z_S σ 32 v) (hv : z_ok v) {g j p : Nat} (hg : g < v 2) (hj : j < v 1) (hp : p ≤ 10) : ∀ d s x f, s + d = j + 1 → d < f → x ≤ 9999 → fX7_tenthsWithin_n f 32 (nI g) (nI s) (nI j) (nI x) (nI p) σ = some (nI (z_ten p (z_O v (v (19 + g)) (v (25 + g))) (z_O v (v (19 + g)) (v (25 + g) + 1)) d s x)) := by
  have h7 := hv.2.1
  have h6 := hv.2.2.1
  obtain ⟨hk, hi, -, -⟩ := hv.2.2.2.2.2.2 g hg
  obtain ⟨e1, e2, -⟩ := hS.2.2.2.2.2.2 g hg
  intro d
  induction d with
  | zero =>
    intro s x f hs hf hx
    cases f with
    | zero => exact absurd hf (by omega)
    | succ f =>
      show hX7_tenthsWithin (fX7_tenthsWithin_n f) 32 (nI g) (nI s) (nI j) (nI x) (nI p) σ = _
      unfold hX7_tenthsWithin
      rw [if_pos (nI_pos' (by omega)), if_pos (nI_lt (by omega) (by omega))]
      rfl
  | succ d ih =>
    intro s x f hs hf hx
    cases f with
    | zero => exact absurd hf (by omega)
    | succ f =>
      have hs1 : s < v 1 := by omega
      have hrec : ∀ D : Nat, D ≤ 600 → fX7_tenthsWithin_n f 32 (nI g) (nI (s + 1)) (nI j) (nI x - nI D) (nI p) σ = some (nI (if D ≤ x then z_ten p (z_O v (v (19 + g)) (v (25 + g))) (z_O v (v (19 + g)) (v (25 + g) + 1)) d (s + 1) (x - D) else 0)) := by
        intro D hD
        by_cases c : D ≤ x
        · rw [if_pos c, pk_sub c]
          exact ih (s + 1) (x - D) f (by omega) (by omega) (by omega)
        · rw [if_neg c]
          cases f with
          | zero => exact absurd hf (by omega)
          | succ f => exact z_tenNeg (pk_sneg (by omega) (by omega)) f _ _ _ _
      have o1 := z_O_le (kd := v (19 + g)) (inc := v (25 + g)) (s := s) hv.1 (by omega) (hv.2.2.2.2.2.1 s hs1).2
      have o2 := z_O_le (kd := v (19 + g)) (inc := v (25 + g) + 1) (s := s) hv.1 (by omega) (hv.2.2.2.2.2.1 s hs1).2
      show hX7_tenthsWithin (fX7_tenthsWithin_n f) 32 (nI g) (nI s) (nI j) (nI x) (nI p) σ = _
      unfold hX7_tenthsWithin
      rw [if_pos (nI_pos' (by omega)), if_neg (nI_nlt (by omega) (by omega)), if_neg (nI_pos (by omega)), if_pos ((z_ltL (y := (7 : Int32)) 7 rfl (by omega) (by decide)).mpr (by omega)), z_gi (n := 6) (by omega) (by decide), z_gi (n := 6) (by omega) (by decide), z_cl (by omega), e1, e2, z_SO hS hv hs1 hk (by omega), z_p, nI_1, z_SO hS hv hs1 hk (by omega), z_p, nI_1, hrec _ o1, z_p, hrec _ o2, z_p, show (10 : Int32) - nI p = nI (10 - p) from pk_sub (a := 10) hp, pk_mul, pk_mul, nI_add]
      rfl
end
section
/-! ===== pure: tremble ===== -/
theorem z_fin {τ : x_S} (x6 : Int32) (A B : Nat) (hA : A < 2 ^ 29) (hB : B < 2 ^ 29) : ∀ k a b f, k ≤ 29 → a < 2 ^ 30 → b < 2 ^ k → 2 * k + 1 < f → 0 < Nat.gcd a b → Nat.gcd a b < 2 ^ 30 → x_fx (α := Int32 → Int32 → Option Int32) (fun _ _ => none) (fun K => fun x10 x11 => gX8_tremble_214 x6 (nI A) (nI B) K x10 x11 τ) f (nI a) (nI b) = some (if x6 = 0 then nI (A / Nat.gcd a b) else nI (B / Nat.gcd a b)) := by
  have st : ∀ (K : Int32 → Int32 → Option Int32) a b, a < 2 ^ 30 → b < 2 ^ 30 → 0 < b → gX8_tremble_214 x6 (nI A) (nI B) K (nI a) (nI b) τ = K (nI b) (nI (a % b)) := by
    intro K a b ha hb h0
    have h1 : ¬ nI b = 0 := nI_ne0 h0 (by omega)
    unfold gX8_tremble_214
    rw [if_neg h1, z_g h1, pk_rem (by omega) h0 (by omega)]
  have en : ∀ (K : Int32 → Int32 → Option Int32) a, 0 < a → a < 2 ^ 30 → gX8_tremble_214 x6 (nI A) (nI B) K (nI a) (nI 0) τ = some (if x6 = 0 then nI (A / a) else nI (B / a)) := by
    intro K a h0 ha
    have h1 : ¬ nI a = 0 := nI_ne0 h0 (by omega)
    unfold gX8_tremble_214
    rw [if_pos (show (nI 0 : Int32) = 0 from rfl), z_g h1, z_g h1, pk_div (by omega) h0 (by omega), pk_div (by omega) h0 (by omega)]
    split <;> rfl
  intro k
  induction k with
  | zero =>
    intro a b f hk ha hb hf h0 h1
    have e : b = 0 := by omega
    subst e
    rw [Nat.gcd_zero_right] at h0 h1 ⊢
    cases f with
    | zero => exact absurd hf (by omega)
    | succ f => exact en _ a h0 h1
  | succ k ih =>
    intro a b f hk ha hb hf h0 h1
    have hp := z_pow30 hk
    have hb30 : b < 2 ^ 30 := by omega
    cases f with
    | zero => exact absurd hf (by omega)
    | succ f =>
      rcases Nat.eq_zero_or_pos b with h | h
      · subst h
        rw [Nat.gcd_zero_right] at h0 h1 ⊢
        exact en _ a h0 h1
      · have hlt : a % b < b := Nat.mod_lt _ h
        refine (st _ a b ha hb30 h).trans ?_
        cases f with
        | zero => exact absurd hf (by omega)
        | succ f =>
          rcases Nat.eq_zero_or_pos (a % b) with h2 | h2
          · have e : Nat.gcd a b = b := by rw [← z_gcd1 a b, h2, Nat.gcd_zero_right]
            rw [h2, e]
            exact en _ b h hb30
          · refine (st _ b (a % b) hb30 (by omega) h2).trans ?_
            have e : Nat.gcd (a % b) (b % (a % b)) = Nat.gcd a b := by rw [z_gcd1, z_gcd1]
            refine (ih (a % b) (b % (a % b)) f (by omega) (by omega) (z_half3 h hb h2) (by omega) (by rw [e]; exact h0) (by rw [e]; exact h1)).trans ?_
            rw [e]
theorem z_tb (m k : Nat) : m.testBit k = decide (m / 2 ^ k % 2 = 1) := Nat.testBit_eq_decide_div_mod_eq
theorem z_inner {τ : x_S} {v : z_V} (hM : z_M τ 0 v) (hv : z_ok v) {g i L p m : Nat} (hg : g < v 2) (hL : i + L ≤ v 1) (hp : p ≤ 10) (hm : m < 128) (K73 : Int32 → Int32 → Int32 → Option Int32) (x x6 x8 x9 : Int32) : ∀ d k a c f, k + d = L → d < f → x_fx (α := Int32 → Int32 → Int32 → Option Int32) (fun _ _ _ => none) (fun K => fun x11 x12 x13 => gX8_tremble_91 K73 (nI g) (nI i) x (nI p) x6 (nI L) x8 x9 (nI m) K x11 x12 x13 τ) f (nI a) (nI c) (nI k) = if x < nI (c + z_ct (z_O v (v (19 + g)) (v (25 + g))) (z_O v (v (19 + g)) (v (25 + g) + 1)) m d k (i + k)) then K73 (x8 + 0) (x9 + nI (a * z_wt p m d k)) (nI (m + 1)) else K73 (x8 + nI (a * z_wt p m d k)) (x9 + nI (a * z_wt p m d k)) (nI (m + 1)) := by
  have h7 := hv.2.1
  have h6 := hv.2.2.1
  obtain ⟨hk, hi, -, -⟩ := hv.2.2.2.2.2.2 g hg
  obtain ⟨m1, m2, -⟩ := hM.2.2.2.2.2.2 g hg
  rw [Nat.zero_add] at m1 m2
  intro d
  induction d with
  | zero =>
    intro k a c f hkL hf
    cases f with
    | zero => exact absurd hf (by omega)
    | succ f =>
      show gX8_tremble_91 K73 (nI g) (nI i) x (nI p) x6 (nI L) x8 x9 (nI m) _ (nI a) (nI c) (nI k) τ = if x < nI (c + 0) then K73 (x8 + 0) (x9 + nI (a * 1)) (nI (m + 1)) else K73 (x8 + nI (a * 1)) (x9 + nI (a * 1)) (nI (m + 1))
      unfold gX8_tremble_91 bX8_tremble_190
      rw [if_pos (nI_le (by omega) (by omega)), Nat.add_zero, Nat.mul_one, nI_1]
  | succ d ih =>
    intro k a c f hkL hf
    cases f with
    | zero => exact absurd hf (by omega)
    | succ f =>
      have hs : i + k < v 1 := by omega
      have hb := z_bit m hm k (by omega)
      have hK : fX8_has (nI m) (nI k) τ = some (z_B (m.testBit k)) := by
        unfold fX8_has
        by_cases c : m.testBit k = true
        · rw [if_pos (hb.mpr c), c]; rfl
        · rw [if_neg (fun z => c (hb.mp z)), show m.testBit k = false by simpa using c]; rfl
      have cg1 : (nI (19 + g)).toNatClampNeg = 19 + g := z_cl (by omega)
      have cg2 : (nI (25 + g)).toNatClampNeg = 25 + g := z_cl (by omega)
      have u : ∀ K : Int32 → Int32 → Int32 → Option Int32, gX8_tremble_91 K73 (nI g) (nI i) x (nI p) x6 (nI L) x8 x9 (nI m) K (nI a) (nI c) (nI k) τ = K (nI (a * (if m / 2 ^ k % 2 = 1 then p else 10 - p))) (nI (c + (if m / 2 ^ k % 2 = 1 then z_O v (v (19 + g)) (v (25 + g) + 1) (i + k) else z_O v (v (19 + g)) (v (25 + g)) (i + k)))) (nI (k + 1)) := by
        intro K
        unfold gX8_tremble_91 bX8_tremble_124 bX8_tremble_158
        rw [if_neg (nI_ge (by omega) (by omega)), hK, z_p, z_tb]
        by_cases q : m / 2 ^ k % 2 = 1
        · rw [show z_B (decide (m / 2 ^ k % 2 = 1)) = 1 by simp [z_B, q], if_neg z_10, if_pos q, if_pos q, show (19 : Int32) + nI g = nI (19 + g) from nI_add 19 g, show (25 : Int32) + nI g = nI (25 + g) from nI_add 25 g, z_gi (n := 1372) (by omega) (by decide), z_gi (n := 1372) (by omega) (by decide), if_neg z_10, cg1, cg2, m1, m2, nI_1, nI_add, z_MO hM hv hs hk (by omega), z_p, pk_mul, nI_add, nI_1]
        · rw [show z_B (decide (m / 2 ^ k % 2 = 1)) = 0 by simp [z_B, q], if_pos rfl, if_neg q, if_neg q, show (19 : Int32) + nI g = nI (19 + g) from nI_add 19 g, show (25 : Int32) + nI g = nI (25 + g) from nI_add 25 g, z_gi (n := 1372) (by omega) (by decide), z_gi (n := 1372) (by omega) (by decide), if_pos rfl, cg1, cg2, m1, m2, show nI (v (25 + g)) + 0 = nI (v (25 + g)) from nI_add _ 0, nI_add, z_MO hM hv hs hk (by omega), z_p, show (10 : Int32) - nI p = nI (10 - p) from pk_sub (a := 10) hp, pk_mul, nI_add, nI_1]
      refine (u _).trans ((ih (k + 1) _ _ f (by omega) (by omega)).trans ?_)
      rw [Nat.mul_assoc, Nat.add_assoc]
      rfl
end
section
theorem z_sum_le {f g : Nat → Nat} (h : ∀ m, f m ≤ g m) (n : Nat) : z_sum f n ≤ z_sum g n := by
  induction n with
  | zero => exact Nat.le_refl _
  | succ n ih => exact Nat.add_le_add ih (h n)
theorem z_ct_le (D0 D1 : Nat → Nat) (m : Nat) : ∀ d k s, (∀ t, s ≤ t → t < s + d → D0 t ≤ 600 ∧ D1 t ≤ 600) → z_ct D0 D1 m d k s ≤ 600 * d := by
  intro d
  induction d with
  | zero => intro k s _; exact Nat.zero_le _
  | succ d ih =>
    intro k s h
    have h1 := h s (by omega) (by omega)
    have h2 := ih (k + 1) (s + 1) (fun t g1 g2 => h t (by omega) (by omega))
    show (if m / 2 ^ k % 2 = 1 then D1 s else D0 s) + z_ct D0 D1 m d (k + 1) (s + 1) ≤ 600 * (d + 1)
    split <;> omega
theorem z_shl : ∀ L, L < 8 → (1 : Int32) <<< (nI L &&& 31) = nI (2 ^ L) := by decide +kernel
theorem z_p2 : ∀ L, L < 8 → 2 ^ L ≤ 128 ∧ 10 ^ L ≤ 10000000 ∧ 0 < 10 ^ L := by decide
theorem z_outer {τ : x_S} {v : z_V} (hM : z_M τ 0 v) (hv : z_ok v) {g i L p x : Nat} (hg : g < v 2) (hL : i + L ≤ v 1) (hp : p ≤ 10) (hx : x ≤ 9999) (x6 : Int32) : ∀ d m f, m + d = 2 ^ L → d < f → x_fx (α := Int32 → Int32 → Int32 → Option Int32) (fun _ _ _ => none) (fun K => fun x8 x9 x10 => gX8_tremble_73 (nI g) (nI i) (nI x) (nI p) x6 (nI L) K x8 x9 x10 τ) f (nI (z_sum (fun m => if z_ct (z_O v (v (19 + g)) (v (25 + g))) (z_O v (v (19 + g)) (v (25 + g) + 1)) m L 0 i ≤ x then z_wt p m L 0 else 0) m)) (nI (z_sum (fun m => z_wt p m L 0) m)) (nI m) = bX8_tremble_214 x6 (nI (z_sum (fun m => if z_ct (z_O v (v (19 + g)) (v (25 + g))) (z_O v (v (19 + g)) (v (25 + g) + 1)) m L 0 i ≤ x then z_wt p m L 0 else 0) (2 ^ L))) (nI (z_sum (fun m => z_wt p m L 0) (2 ^ L))) (nI (z_sum (fun m => if z_ct (z_O v (v (19 + g)) (v (25 + g))) (z_O v (v (19 + g)) (v (25 + g) + 1)) m L 0 i ≤ x then z_wt p m L 0 else 0) (2 ^ L))) (nI (z_sum (fun m => z_wt p m L 0) (2 ^ L))) τ := by
  have h7 := hv.2.1
  obtain ⟨p1, p2, p3⟩ := z_p2 L (by omega)
  obtain ⟨hk, hi, -, -⟩ := hv.2.2.2.2.2.2 g hg
  generalize hf1 : (fun m => if z_ct (z_O v (v (19 + g)) (v (25 + g))) (z_O v (v (19 + g)) (v (25 + g) + 1)) m L 0 i ≤ x then z_wt p m L 0 else 0) = f1
  have hf1 : ∀ m, f1 m = if z_ct (z_O v (v (19 + g)) (v (25 + g))) (z_O v (v (19 + g)) (v (25 + g) + 1)) m L 0 i ≤ x then z_wt p m L 0 else 0 := fun m => (congrFun hf1 m).symm
  intro d
  induction d with
  | zero =>
    intro m f hm hf
    cases f with
    | zero => exact absurd hf (by omega)
    | succ f =>
      have e : m = 2 ^ L := by omega
      subst e
      show gX8_tremble_73 (nI g) (nI i) (nI x) (nI p) x6 (nI L) _ _ _ _ τ = _
      unfold gX8_tremble_73
      rw [z_shl L (by omega), if_pos (Int32.le_refl _)]
  | succ d ih =>
    intro m f hm hf
    cases f with
    | zero => exact absurd hf (by omega)
    | succ f =>
      have hc := z_ct_le (z_O v (v (19 + g)) (v (25 + g))) (z_O v (v (19 + g)) (v (25 + g) + 1)) m L 0 i (fun t g1 g2 => ⟨z_O_le hv.1 (by omega) (hv.2.2.2.2.2.1 t (by omega)).2, z_O_le hv.1 (by omega) (hv.2.2.2.2.2.1 t (by omega)).2⟩)
      have u : ∀ (K : Int32 → Int32 → Int32 → Option Int32) (A B : Nat), gX8_tremble_73 (nI g) (nI i) (nI x) (nI p) x6 (nI L) K (nI A) (nI B) (nI m) τ = K (nI (A + f1 m)) (nI (B + z_wt p m L 0)) (nI (m + 1)) := by
        intro K A B
        unfold gX8_tremble_73 bX8_tremble_91
        rw [z_shl L (by omega), if_neg (nI_ge (by omega) (by omega))]
        have q := z_inner hM hv hg hL hp (m := m) (by omega) K (nI x) x6 (nI A) (nI B) L 0 1 0 x_F (by omega) (z_fuel (by omega))
        refine q.trans ?_
        rw [hf1, Nat.zero_add, Nat.one_mul, Nat.add_zero i, nI_add]
        by_cases c : z_ct (z_O v (v (19 + g)) (v (25 + g))) (z_O v (v (19 + g)) (v (25 + g) + 1)) m L 0 i ≤ x
        · rw [if_neg (fun z => by have := (nI_ltI (by omega) (by omega)).mp z; omega), if_pos c, nI_add]
        · rw [if_pos ((nI_ltI (by omega) (by omega)).mpr (by omega)), if_neg c, show nI A + 0 = nI (A + 0) from nI_add A 0]
      exact (u _ _ _).trans (ih (m + 1) f (by omega) (by omega))
/-- tremble -/
theorem o_tremble {σ τ : x_S} {v : z_V} (h : z_T σ τ v) (a1 a2 a3 a4 a5 a6 : Int32) : z_rd (fX7_tremble a1 a2 a3 a4 a5 a6 σ) (fX8_tremble a1 a2 a3 a4 a5 a6 τ) := by
  have h7 := h.1.2.1
  unfold z_rd fX7_tremble fX8_tremble
  rcases h.ges a1 with ⟨h1, h2⟩ | ⟨g, hg, rfl, h1, h2⟩
  · rw [h1, h2, z_p, z_p, if_pos rfl, if_pos rfl]; exact ⟨_, rfl, rfl⟩
  · rw [h1, h2, z_p, z_p, if_neg z_10, if_neg z_10]
    rcases h.stretch a2 a3 with ⟨h3, h4⟩ | ⟨i, j, hij, hj, rfl, rfl, h3, h4⟩
    · rw [h3, h4, z_p, z_p, if_pos rfl, if_pos rfl]; exact ⟨_, rfl, rfl⟩
    · rw [h3, h4, z_p, z_p, if_neg z_10, if_neg z_10, z_isWithin, z_isWithin, z_isWithin, show (0 : Int64) = (0 : Int32).toInt64 from rfl, show (1 : Int64) = (1 : Int32).toInt64 from rfl, show (10 : Int64) = (10 : Int32).toInt64 from rfl, show (9999 : Int64) = (9999 : Int32).toInt64 from rfl, z_in64, z_in64, z_in64]
      by_cases q4 : z_W a4 0 9999 = 0
      · rw [z_p (z_W a4 0 9999), if_pos q4, z_p (z_W a4 0 9999), if_pos q4]; exact ⟨_, rfl, rfl⟩
      · rw [z_p (z_W a4 0 9999), if_neg q4, z_p (z_W a4 0 9999), if_neg q4]
        by_cases q5 : z_W a5 0 10 = 0
        · rw [z_p (z_W a5 0 10), if_pos q5, z_p (z_W a5 0 10), if_pos q5]; exact ⟨_, rfl, rfl⟩
        · rw [z_p (z_W a5 0 10), if_neg q5, z_p (z_W a5 0 10), if_neg q5]
          by_cases q6 : z_W a6 0 1 = 0
          · rw [z_p (z_W a6 0 1), if_pos q6, z_p (z_W a6 0 1), if_pos q6]; exact ⟨_, rfl, rfl⟩
          · rw [z_p (z_W a6 0 1), if_neg q6, z_p (z_W a6 0 1), if_neg q6]
            obtain ⟨x, hx, rfl⟩ := z_W3 (n := 9999) (by decide) q4
            obtain ⟨p, hp, rfl⟩ := z_W3 (n := 10) (by decide) q5
            obtain ⟨L, hL⟩ : ∃ L, L = j - i + 1 := ⟨_, rfl⟩
            obtain ⟨p1, p2, p3⟩ := z_p2 L (by omega)
            have eL : nI j - nI i + 1 = nI L := by rw [pk_sub hij, nI_1, hL]
            have hS := z_tenS h.2.1 h.1 hg hj hp L i x 12 (by omega) (by omega) hx
            have hO := z_outer h.2.2 h.1 hg (i := i) (L := L) (by omega) hp hx a6 (2 ^ L) 0 x_F (by omega) (z_fuel (by omega))
            rw [z_wt_sum hp, ← z_ten_sum] at hO
            have hA : z_ten p (z_O v (v (19 + g)) (v (25 + g))) (z_O v (v (19 + g)) (v (25 + g) + 1)) L i x ≤ 10 ^ L := by
              rw [z_ten_sum, ← z_wt_sum hp]
              refine z_sum_le (fun m => ?_) _
              split <;> omega
            generalize z_ten p (z_O v (v (19 + g)) (v (25 + g))) (z_O v (v (19 + g)) (v (25 + g) + 1)) L i x = A at hS hO hA
            have hG : 0 < Nat.gcd A (10 ^ L) := Nat.gcd_pos_of_pos_right _ p3
            have hG2 : Nat.gcd A (10 ^ L) ≤ 10 ^ L := Nat.le_of_dvd p3 (Nat.gcd_dvd_right _ _)
            have b24 : 10 ^ L < 2 ^ 24 := by have : (2 : Nat) ^ 24 = 16777216 := by decide
                                             omega
            have hgs := z_gS (σ := σ) 24 A (10 ^ L) 0 x_F (by decide) (by omega) b24 (by decide) (z_fuel (by decide))
            have hfn := z_fin (τ := τ) a6 A (10 ^ L) (by omega) (by omega) 24 A (10 ^ L) x_F (by decide) (by omega) b24 (z_fuel (by decide)) hG (by omega)
            generalize hGe : Nat.gcd A (10 ^ L) = G at hG hG2 hgs hfn
            have gne : ¬ nI G = 0 := nI_ne0 hG (by omega)
            have gif : (if 1 < nI G then nI G else 1) = nI G := by
              by_cases c : 1 < G
              · rw [if_pos ((z_gtL (y := (1 : Int32)) 1 rfl (by omega) (by decide)).mpr c)]
              · rw [if_neg (fun z => c ((z_gtL (y := (1 : Int32)) 1 rfl (by omega) (by decide)).mp z)), show G = 1 by omega]; rfl
            refine ⟨if a6 = 0 then nI (A / G) else nI (10 ^ L / G), ?_, ?_⟩
            · have hS : fX7_tenthsWithin 32 (nI g) (nI i) (nI j) (nI x) (nI p) σ = some (nI A) := hS
              rw [hS, z_p]
              have k78 : ∀ d s t f, s + d = j + 1 → d < f → x_fx (α := Int32 → Int32 → Option Int32) (fun _ _ => none) (fun K => fun x8 x9 => gX7_tremble_78 (nI j) a6 (nI A) K x8 x9 σ) f (nI t) (nI s) = x_p (fX7_commonDivisor (nI A) (nI (t * 10 ^ d)) σ) (fun r3 => if a6 = 0 then (x_g (¬ (if 1 < r3 then r3 else 1) = 0) (some (nI A / (if 1 < r3 then r3 else 1)))) else (x_g (¬ (if 1 < r3 then r3 else 1) = 0) (some (nI (t * 10 ^ d) / (if 1 < r3 then r3 else 1))))) := by
                intro d
                induction d with
                | zero =>
                  intro s t f hs hf
                  cases f with
                  | zero => exact absurd hf (by omega)
                  | succ f =>
                    show gX7_tremble_78 (nI j) a6 (nI A) _ (nI t) (nI s) σ = _
                    unfold gX7_tremble_78
                    rw [if_pos (nI_lt (by omega) (by omega)), Nat.pow_zero, Nat.mul_one]
                | succ d ih =>
                  intro s t f hs hf
                  cases f with
                  | zero => exact absurd hf (by omega)
                  | succ f =>
                    have u : ∀ K : Int32 → Int32 → Option Int32, gX7_tremble_78 (nI j) a6 (nI A) K (nI t) (nI s) σ = K (nI (t * 10)) (nI (s + 1)) := by
                      intro K
                      unfold gX7_tremble_78
                      rw [if_neg (nI_nlt (by omega) (by omega)), show nI t * 10 = nI (t * 10) from pk_mul t 10, nI_1]
                    refine (u _).trans ((ih (s + 1) (t * 10) f (by omega) (by omega)).trans ?_)
                    rw [Nat.mul_assoc, show 10 * 10 ^ d = 10 ^ (d + 1) by rw [Nat.pow_succ, Nat.mul_comm]]
              have q78 := k78 L i 1 x_F (by omega) (z_fuel (by omega))
              rw [Nat.one_mul] at q78
              have hgs : fX7_commonDivisor (nI A) (nI (10 ^ L)) σ = some (nI G) := hgs
              rw [hgs, z_p, gif, z_g gne, z_g gne, pk_div (by omega) hG (by omega), pk_div (by omega) hG (by omega)] at q78
              refine Eq.trans q78 ?_
              split <;> rfl
            · rw [eL]
              exact Eq.trans hO hfn
end
section
/-! ===== pure: the first worlds, the reading ops ===== -/
theorem z_Rel_0 {σ τ : x_S} (h1 : ∀ k j, k ≠ 11 → σ k j = 0) (h2 : ∀ r, r < 8 → σ 11 r = -1) (g1 : ∀ k j, k ≠ 4 → τ k j = 0) (g2 : ∀ r, r < 8 → τ 4 r = -1) : z_Rel σ τ := by
  have z0 : (nI 0 : Int32) = 0 := rfl
  have ok : z_ok (fun _ => 0) := ⟨Nat.zero_le _, Nat.zero_le _, Nat.zero_le _, Nat.zero_le _, (by decide : (0 : Nat) < 128), fun s hs => absurd hs (Nat.not_lt_zero s), fun g hg => absurd hg (Nat.not_lt_zero g)⟩
  have S : ∀ c, 11 < c → z_S σ c (fun _ => 0) := fun c hc => ⟨h1 _ _ (by omega), h1 _ _ (by omega), h1 _ _ (by omega), h1 _ _ (by omega), h1 _ _ (by omega), fun s hs => absurd hs (Nat.not_lt_zero s), fun g hg => absurd hg (Nat.not_lt_zero g)⟩
  have M : ∀ b, z_M τ b (fun _ => 0) := fun b => ⟨g1 _ _ (by decide), g1 _ _ (by decide), g1 _ _ (by decide), g1 _ _ (by decide), g1 _ _ (by decide), fun s hs => absurd hs (Nat.not_lt_zero s), fun g hg => absurd hg (Nat.not_lt_zero g)⟩
  refine ⟨?_, fun r hr => ⟨⟨0, by decide, h1 _ _ (by decide), g1 _ _ (by decide)⟩, Or.inl ⟨h2 r hr, g2 r hr⟩, fun i hi => ?_⟩, ⟨0, by decide, h1 _ _ (by decide), g1 _ _ (by decide), fun i hi => absurd hi (by omega)⟩, ?_, ?_, fun k hk => ⟨fun _ => 0, ok, S _ (by omega), M _, Or.inr ⟨h1 _ _ (by omega), g1 _ _ (by decide)⟩⟩, ⟨0, by decide, h1 _ _ (by decide), g1 _ _ (by decide), fun i hi => absurd hi (by omega)⟩⟩
  · show σ 0 8 = τ 0 10
    rw [h1 _ _ (by decide), g1 _ _ (by decide)]
  · rw [h1 _ _ (by omega), g1 _ _ (by decide)]
  · rw [h1 _ _ (by decide), g1 _ _ (by decide)]
  · exact ⟨fun _ => 0, 0, 0, fun _ => fun _ => 0, ⟨ok, S 32 (by decide), M 0⟩, Or.inr ⟨h1 _ _ (by decide), g1 _ _ (by decide), rfl, rfl⟩, by decide, by decide, h1 _ _ (by decide), g1 _ _ (by decide), h1 _ _ (by decide), rfl, fun i hi => absurd hi (by omega)⟩
theorem z_op_rd {σ τ : x_S} {x y : Option Int32} (h : z_Rel σ τ) (hr : z_rd x y) : z_op (x_p x (fun r => some (r, σ))) (x_p y (fun r => some (r, τ))) z_Rel := by
  obtain ⟨r, r1, r2⟩ := hr
  rw [r1, r2, z_p, z_p]
  exact ⟨r, σ, τ, rfl, rfl, h⟩
theorem z_Rel.town {σ τ : x_S} (h : z_Rel σ τ) : ∃ v, z_T σ τ v ∧ ((σ 32 0 = 1 ∧ τ 0 1 = 1) ∨ (σ 32 0 = 0 ∧ τ 0 1 = 0 ∧ v 1 = 0 ∧ v 2 = 0)) := by
  obtain ⟨v, n, p, V, ht, hst, -⟩ := h.2.2.2.2.1
  exact ⟨v, ht, hst⟩
end
section
/-! ===== pure: the 32 calls ===== -/
theorem z_ops (hcity : ∀ σ τ, z_Rel σ τ → z_op (fX7_city σ) (fX8_city τ) z_Rel) (htell : ∀ σ τ, z_Rel σ τ → ∀ a1 a2 a3 a4 a5, z_op (fX7_tell a1 a2 a3 a4 a5 σ) (fX8_tell a1 a2 a3 a4 a5 τ) z_Rel) : ∀ σ τ, z_Rel σ τ → ∀ k, k < 32 → ∀ a1 a2 a3 a4 a5 a6, z_op (y_S k a1 a2 a3 a4 a5 a6 σ) (y_M k a1 a2 a3 a4 a5 a6 τ) z_Rel := by
  intro σ τ h k hk a1 a2 a3 a4 a5 a6
  obtain ⟨v, ht, hst⟩ := h.town
  rcases (show k = 0 ∨ k = 1 ∨ k = 2 ∨ k = 3 ∨ k = 4 ∨ k = 5 ∨ k = 6 ∨ k = 7 ∨ k = 8 ∨ k = 9 ∨ k = 10 ∨ k = 11 ∨ k = 12 ∨ k = 13 ∨ k = 14 ∨ k = 15 ∨ k = 16 ∨ k = 17 ∨ k = 18 ∨ k = 19 ∨ k = 20 ∨ k = 21 ∨ k = 22 ∨ k = 23 ∨ k = 24 ∨ k = 25 ∨ k = 26 ∨ k = 27 ∨ k = 28 ∨ k = 29 ∨ k = 30 ∨ k = 31 by omega) with rfl | rfl | rfl | rfl | rfl | rfl | rfl | rfl | rfl | rfl | rfl | rfl | rfl | rfl | rfl | rfl | rfl | rfl | rfl | rfl | rfl | rfl | rfl | rfl | rfl | rfl | rfl | rfl | rfl | rfl | rfl | rfl
  · exact o_row h a1 a2 a3
  · exact o_set h a1 a2 a3
  · exact o_copy h a1 a2 a3 a4 a5
  · exact r_drop h a1
  · exact o_feed h a1
  · exact hcity σ τ h
  · exact z_op_rd h (o_fault h)
  · exact o_make h a1 a2
  · exact o_dim h a1 a2
  · exact o_train h a1 a2
  · exact o_know h a1 a2
  · exact o_undo h
  · exact z_op_rd h (o_gesture ht a1 a2)
  · exact z_op_rd h (o_street ht a1 a2)
  · exact z_op_rd h (o_duty ht a1 a2)
  · exact htell σ τ h a1 a2 a3 a4 a5
  · exact z_op_rd h (o_shut ht hst a1)
  · exact z_op_rd h (o_quick ht a1 a2 a3)
  · exact o_thread h a1 a2 a3
  · exact o_inches h a1 a2 a3 a4
  · exact o_sorts h a1 a2 a3 a4
  · exact z_op_rd h (o_saved ht a1)
  · exact z_op_rd h (o_worst ht a1 a2)
  · exact z_op_rd h (o_tremble ht a1 a2 a3 a4 a5 a6)
  · exact o_image h a1
  · exact o_restore h a1
  · exact z_op_rd h (o_kind ht a1)
  · exact o_as h a1 a2
  · exact o_ask h a1 a2
  · exact z_op_rd h (o_trace h a1)
  · exact z_op_rd h (o_count h a1)
  · exact z_op_rd h (o_status h)
end
section
/-! ===== pure: tell, the costs ===== -/
/-- what a gesture g costs in street s with t left, where nx is the cost from the next street on -/
def z_on (v : z_V) (m : Int32) (s : Nat) (nx : Nat → Nat) (t g : Nat) : Nat := if z_tl v m g s = true ∧ v (37 + g) ≤ t then z_D v g s + nx (t - v (37 + g)) else 1000000
def z_cs (v : z_V) (m : Int32) (s : Nat) (nx : Nat → Nat) (t g acc : Nat) : Nat := if z_on v m s nx t g < acc then z_on v m s nx t g else acc
/-- the least cost of the d streets before e, with t left -/
def z_cost (v : z_V) (m : Int32) (e : Nat) : Nat → Nat → Nat
  | 0, _ => 0
  | d + 1, t => z_fold (z_cs v m (e - (d + 1)) (z_cost v m e d) t) 0 (v 2) 1000000
theorem z_cs_le (v : z_V) (m : Int32) (s : Nat) (nx : Nat → Nat) (t : Nat) : ∀ d i a, a ≤ 1000000 → z_fold (z_cs v m s nx t) i d a ≤ 1000000 := by
  intro d
  induction d with
  | zero => intro i a h; exact h
  | succ d ih =>
    intro i a h
    refine ih (i + 1) _ ?_
    unfold z_cs
    split <;> omega
theorem z_cost_le (v : z_V) (m : Int32) (e d t : Nat) : z_cost v m e d t ≤ 1000000 := by
  cases d with
  | zero => exact Nat.zero_le _
  | succ d => exact z_cs_le v m _ _ t (v 2) 0 1000000 (Nat.le_refl _)
theorem z_onBy {τ : x_S} {v : z_V} (hM : z_M τ 0 v) (hv : z_ok v) (m : Int32) {g s t : Nat} {nx : Nat → Nat} (hg : g < v 2) (hs : s < v 1) (ht : t < 100) (hnx : ∀ t, t < 100 → τ 8 (100 * (s + 1) + t) = nI (nx t)) : fX8_onBy (nI g) m (nI s) (nI t) τ = some (nI (z_on v m s nx t g)) := by
  have h7 := hv.2.1
  have h6 := hv.2.2.1
  obtain ⟨-, -, -, e4, -⟩ := hM.2.2.2.2.2.2 g hg
  rw [Nat.zero_add] at e4
  obtain ⟨-, -, -, hk⟩ := hv.2.2.2.2.2.2 g hg
  have ec : (nI (37 + g)).toNatClampNeg = 37 + g := z_cl (by omega)
  have cc : (nI t < τ 1 (nI (37 + g)).toNatClampNeg) ↔ t < v (37 + g) := by rw [ec, e4]; exact nI_ltI (by omega) (by omega)
  unfold fX8_onBy bX8_onBy_28 bX8_onBy_29 z_on
  rw [z_Mtl hM hv m hg hs, z_p, show (37 : Int32) + nI g = nI (37 + g) from nI_add 37 g, z_gi (n := 1372) (by omega) (by decide)]
  by_cases q : z_tl v m g s = true
  · rw [if_neg (by rw [q]; decide)]
    by_cases c : v (37 + g) ≤ t
    · have ei : (100 : Int32) * (nI s + 1) + nI t - nI (v (37 + g)) = nI (100 * (s + 1) + (t - v (37 + g))) := by
        rw [nI_1, show (100 : Int32) = nI 100 from rfl, pk_mul, nI_add, pk_sub (by omega)]
        congr 1
        omega
      rw [if_neg (fun z => by have := cc.mp z; omega), if_neg z_10, z_MD hM hv hg hs, z_p, z_gi (n := 1372) (by omega) (by decide), ec, e4, ei, z_gi (n := 800) (by omega) (by decide), z_cl (by omega), hnx _ (by omega), nI_add, if_pos ⟨q, c⟩]
    · rw [if_pos (cc.mpr (by omega)), if_pos rfl, if_neg (fun z => c z.2)]
      rfl
  · rw [if_pos (z_B0.mpr (by simpa using q)), if_pos rfl, if_neg (fun z => q z.1)]
    rfl
end
section
/-! ===== pure: tell, the reference's table ===== -/
theorem z_e100 (s t : Nat) : (100 : Int32) * nI s + nI t = nI (100 * s + t) := by rw [show (100 : Int32) = nI 100 from rfl, pk_mul, nI_add]
theorem z_lay68 {v : z_V} (hv : z_ok v) (m : Int32) {s t : Nat} {nx : Nat → Nat} (hs : s < v 1) (ht : t < 100) (hle : ∀ t, nx t ≤ 1000000) (K34 K43 : Int32 → x_S → Option x_S) (x2 : Int32) : ∀ d g f a τ, g + d = v 2 → d < f → a ≤ 1000000 → z_M τ 0 v → (∀ t, t < 100 → τ 8 (100 * (s + 1) + t) = nI (nx t)) → τ 8 (100 * s + t) = nI a → ∃ τ', x_fx (α := Int32 → x_S → Option x_S) (fun _ _ => none) (fun K => fun x6 σ => gX8_layCosts_68 K34 K43 m x2 (nI s) (nI t) K x6 σ) f (nI g) τ = K43 (nI (t + 1)) τ' ∧ (∀ c, c ≠ 8 → τ' c = τ c) ∧ (∀ j, j ≠ 100 * s + t → τ' 8 j = τ 8 j) ∧ τ' 8 (100 * s + t) = nI (z_fold (z_cs v m s nx t) g d a) := by
  have h7 := hv.2.1
  have h6 := hv.2.2.1
  intro d
  induction d with
  | zero =>
    intro g f a τ hg hf ha hM hnx h0
    cases f with
    | zero => exact absurd hf (by omega)
    | succ f =>
      have hn : τ 1 2 = nI (v 2) := hM.2.2.1
      refine ⟨τ, ?_, fun _ _ => rfl, fun _ _ => rfl, h0⟩
      show gX8_layCosts_68 K34 K43 m x2 (nI s) (nI t) _ (nI g) τ = _
      unfold gX8_layCosts_68
      rw [z_c2, hn, if_pos (nI_le (by omega) (by omega)), nI_1]
  | succ d ih =>
    intro g f a τ hg hf ha hM hnx h0
    cases f with
    | zero => exact absurd hf (by omega)
    | succ f =>
      have hn : τ 1 2 = nI (v 2) := hM.2.2.1
      have hg2 : g < v 2 := by omega
      have ho := z_onBy hM hv m hg2 hs ht hnx
      have hon : z_on v m s nx t g ≤ 1000600 := by
        have := z_D_le hv hg2 hs
        have := hle (t - v (37 + g))
        unfold z_on
        split <;> omega
      have ec : (nI (100 * s + t)).toNatClampNeg = 100 * s + t := z_cl (by omega)
      have cc : (τ 8 (nI (100 * s + t)).toNatClampNeg ≤ nI (z_on v m s nx t g)) ↔ a ≤ z_on v m s nx t g := by rw [ec, h0]; exact nI_leI (by omega) (by omega)
      have u : ∀ K : Int32 → x_S → Option x_S, gX8_layCosts_68 K34 K43 m x2 (nI s) (nI t) K (nI g) τ = K (nI (g + 1)) (x_u τ 8 (100 * s + t) (nI (z_cs v m s nx t g a))) := by
        intro K
        unfold gX8_layCosts_68 bX8_layCosts_140 z_cs
        rw [z_c2, hn, if_neg (nI_ge hg2 (by omega)), ho, z_p, z_e100, z_gi (n := 800) (by omega) (by decide)]
        by_cases c : a ≤ z_on v m s nx t g
        · rw [if_pos (cc.mpr c), if_neg (by omega), z_gi (n := 800) (by omega) (by decide), z_gi (n := 800) (by omega) (by decide), z_w, ec, h0, nI_1]
        · rw [if_neg (fun z => c (cc.mp z)), if_pos (by omega), z_gi (n := 800) (by omega) (by decide), z_w, ec, nI_1]
      have hcs : z_cs v m s nx t g a ≤ 1000000 := by unfold z_cs; split <;> omega
      obtain ⟨τ', t1, t2, t3, t4⟩ := ih (g + 1) f (z_cs v m s nx t g a) (x_u τ 8 (100 * s + t) (nI (z_cs v m s nx t g a))) (by omega) (by omega) hcs (z_M_c hM ⟨h7, h6⟩ (fun k _ => by rw [z_uk (by decide)])) (fun t2 ht2 => by rw [z_ui (by omega)]; exact hnx t2 ht2) (z_us _ _ _ _)
      exact ⟨τ', (u _).trans t1, fun c hc => (t2 c hc).trans (z_uk hc), fun j hj => (t3 j hj).trans (z_ui hj), t4⟩
end
section
theorem z_lay43 {v : z_V} (hv : z_ok v) (m : Int32) {s : Nat} {nx : Nat → Nat} (hs : s < v 1) (hle : ∀ t, nx t ≤ 1000000) (K34 : Int32 → x_S → Option x_S) (x2 : Int32) : ∀ d t f τ, t + d = 100 → d < f → z_M τ 0 v → (∀ t, t < 100 → τ 8 (100 * (s + 1) + t) = nI (nx t)) → ∃ τ', x_fx (α := Int32 → x_S → Option x_S) (fun _ _ => none) (fun K => fun x5 σ => gX8_layCosts_43 K34 m x2 (nI s) K x5 σ) f (nI t) τ = K34 (nI s + (-1)) τ' ∧ (∀ c, c ≠ 8 → τ' c = τ c) ∧ (∀ j, (j < 100 * s + t ∨ 100 * s + 100 ≤ j) → τ' 8 j = τ 8 j) ∧ ∀ t2, t ≤ t2 → t2 < 100 → τ' 8 (100 * s + t2) = nI (z_fold (z_cs v m s nx t2) 0 (v 2) 1000000) := by
  have h7 := hv.2.1
  have h6 := hv.2.2.1
  intro d
  induction d with
  | zero =>
    intro t f τ ht hf hM hnx
    cases f with
    | zero => exact absurd hf (by omega)
    | succ f =>
      have e : t = 100 := by omega
      subst e
      refine ⟨τ, ?_, fun _ _ => rfl, fun _ _ => rfl, fun t2 g1 g2 => absurd g2 (by omega)⟩
      show gX8_layCosts_43 K34 m x2 (nI s) _ (nI 100) τ = _
      unfold gX8_layCosts_43
      rw [if_pos (by decide)]
  | succ d ih =>
    intro t f τ ht hf hM hnx
    cases f with
    | zero => exact absurd hf (by omega)
    | succ f =>
      have step : ∀ K : Int32 → x_S → Option x_S, ∃ τ1, gX8_layCosts_43 K34 m x2 (nI s) K (nI t) τ = K (nI (t + 1)) τ1 ∧ (∀ c, c ≠ 8 → τ1 c = τ c) ∧ (∀ j, j ≠ 100 * s + t → τ1 8 j = τ 8 j) ∧ τ1 8 (100 * s + t) = nI (z_fold (z_cs v m s nx t) 0 (v 2) 1000000) := by
        intro K
        obtain ⟨τ1, t1, t2, t3, t4⟩ := z_lay68 hv m hs (show t < 100 by omega) hle K34 K x2 (v 2) 0 x_F 1000000 (x_u τ 8 (100 * s + t) (nI 1000000)) (by omega) (z_fuel (by omega)) (Nat.le_refl _) (z_M_c hM ⟨h7, h6⟩ (fun k _ => by rw [z_uk (by decide)])) (fun t2 ht2 => by rw [z_ui (by omega)]; exact hnx t2 ht2) (z_us _ _ _ _)
        refine ⟨τ1, ?_, fun c hc => (t2 c hc).trans (z_uk hc), fun j hj => (t3 j hj).trans (z_ui hj), t4⟩
        unfold gX8_layCosts_43 bX8_layCosts_68
        rw [if_neg (fun z => by have := (z_geL (a := t) (y := (100 : Int32)) 100 rfl (by omega) (by decide)).mp z; omega), z_e100, z_gi (n := 800) (by omega) (by decide), z_w, z_cl (by omega)]
        exact t1
      obtain ⟨τ1, s1, s2, s3, s4⟩ := step (x_fx (α := Int32 → x_S → Option x_S) (fun _ _ => none) (fun K => fun x5 σ => gX8_layCosts_43 K34 m x2 (nI s) K x5 σ) f)
      obtain ⟨τ2, t1, t2, t3, t4⟩ := ih (t + 1) f τ1 (by omega) (by omega) (z_M_c hM ⟨h7, h6⟩ (fun k _ => by rw [s2 1 (by decide)])) (fun t2 ht2 => by rw [s3 _ (by omega)]; exact hnx t2 ht2)
      refine ⟨τ2, Eq.trans s1 t1, fun c hc => (t2 c hc).trans (s2 c hc), fun j hj => (t3 j (by omega)).trans (s3 j (by omega)), fun t3' g1 g2 => ?_⟩
      by_cases e : t3' = t
      · subst e; exact (t3 _ (by omega)).trans s4
      · exact t4 t3' (by omega) g2
theorem z_lay34 {v : z_V} (hv : z_ok v) (m : Int32) {a e : Nat} (he : e ≤ v 1) : ∀ d s f τ, a + d = s + 1 → s < e → d < f → z_M τ 0 v → (∀ t, t < 100 → τ 8 (100 * (s + 1) + t) = nI (z_cost v m e (e - (s + 1)) t)) → ∃ τ', x_fx (α := Int32 → x_S → Option x_S) (fun _ _ => none) (fun K => fun x4 σ => gX8_layCosts_34 m (nI a) K x4 σ) f (nI s) τ = some τ' ∧ (∀ c, c ≠ 8 → τ' c = τ c) ∧ (∀ j, 100 * (s + 1) ≤ j → τ' 8 j = τ 8 j) ∧ ∀ s2, a ≤ s2 → s2 ≤ s → ∀ t, t < 100 → τ' 8 (100 * s2 + t) = nI (z_cost v m e (e - s2) t) := by
  have h7 := hv.2.1
  have h6 := hv.2.2.1
  intro d
  induction d with
  | zero =>
    intro s f τ hd hse hf hM hnx
    cases f with
    | zero => exact absurd hf (by omega)
    | succ f =>
      refine ⟨τ, ?_, fun _ _ => rfl, fun _ _ => rfl, fun s2 g1 g2 => absurd g2 (by omega)⟩
      show gX8_layCosts_34 m (nI a) _ (nI s) τ = _
      unfold gX8_layCosts_34
      rw [if_pos (nI_lt (by omega) (by omega))]
  | succ d ih =>
    intro s f τ hd hse hf hM hnx
    cases f with
    | zero => exact absurd hf (by omega)
    | succ f =>
      have row : ∀ τ1 : x_S, (∀ t2, 0 ≤ t2 → t2 < 100 → τ1 8 (100 * s + t2) = nI (z_fold (z_cs v m s (z_cost v m e (e - (s + 1))) t2) 0 (v 2) 1000000)) → ∀ t, t < 100 → τ1 8 (100 * s + t) = nI (z_cost v m e (e - s) t) := by
        intro τ1 h t ht
        have e1 : e - s = (e - (s + 1)) + 1 := by omega
        have e2 : e - (e - (s + 1) + 1) = s := by omega
        rw [h t (Nat.zero_le _) ht, e1]
        show _ = nI (z_fold (z_cs v m (e - (e - (s + 1) + 1)) (z_cost v m e (e - (s + 1))) t) 0 (v 2) 1000000)
        rw [e2]
      obtain ⟨τ1, s1, s2, s3, s4⟩ := z_lay43 hv m (show s < v 1 by omega) (z_cost_le v m e (e - (s + 1))) (x_fx (α := Int32 → x_S → Option x_S) (fun _ _ => none) (fun K => fun x4 σ => gX8_layCosts_34 m (nI a) K x4 σ) f) (nI a) 100 0 x_F τ (by omega) (z_fuel (by omega)) hM hnx
      have u : gX8_layCosts_34 m (nI a) (x_fx (α := Int32 → x_S → Option x_S) (fun _ _ => none) (fun K => fun x4 σ => gX8_layCosts_34 m (nI a) K x4 σ) f) (nI s) τ = x_fx (α := Int32 → x_S → Option x_S) (fun _ _ => none) (fun K => fun x4 σ => gX8_layCosts_34 m (nI a) K x4 σ) f (nI s + (-1)) τ1 := by
        refine Eq.trans ?_ s1
        generalize x_fx (α := Int32 → x_S → Option x_S) (fun _ _ => none) (fun K => fun x4 σ => gX8_layCosts_34 m (nI a) K x4 σ) f = K34
        unfold gX8_layCosts_34 bX8_layCosts_43
        rw [if_neg (nI_nlt (by omega) (by omega))]
        rfl
      have M1 : z_M τ1 0 v := z_M_c hM ⟨h7, h6⟩ (fun k _ => by rw [s2 1 (by decide)])
      cases d with
      | zero =>
        have es : s = a := by omega
        subst es
        cases f with
        | zero => exact absurd hf (by omega)
        | succ f =>
          refine ⟨τ1, u.trans ?_, s2, fun j hj => s3 j (by omega), fun s2' g1 g2 t ht => ?_⟩
          · show gX8_layCosts_34 m (nI s) _ (nI s + (-1)) τ1 = _
            unfold gX8_layCosts_34
            have hlt : nI s + (-1) < nI s := by
              cases s with
              | zero => decide
              | succ s => rw [pk_m1]; exact nI_lt (by omega) (by omega)
            rw [if_pos hlt]
          · have e2 : s2' = s := by omega
            subst e2
            exact row τ1 s4 t ht
      | succ d =>
        cases s with
        | zero => exact absurd hd (by omega)
        | succ s =>
          rw [pk_m1] at u
          obtain ⟨τ2, t1, t2, t3, t4⟩ := ih s f τ1 (by omega) (by omega) (by omega) M1 (row τ1 s4)
          refine ⟨τ2, u.trans t1, fun c hc => (t2 c hc).trans (s2 c hc), fun j hj => (t3 j (by omega)).trans (s3 j (by omega)), fun s2' g1 g2 t ht => ?_⟩
          by_cases e2 : s2' = s + 1
          · subst e2
            exact (t3 _ (by omega)).trans (row τ1 s4 t ht)
          · exact t4 s2' g1 (by omega) t ht
end
section
/-- the reference's table of costs -/
theorem z_layM {τ : x_S} {v : z_V} (hM : z_M τ 0 v) (hv : z_ok v) (m : Int32) {a b : Nat} (hab : a ≤ b) (hb : b < v 1) : ∃ τ', fX8_layCosts m (nI a) (nI b) τ = some τ' ∧ (∀ c, c ≠ 8 → τ' c = τ c) ∧ ∀ s, a ≤ s → s ≤ b + 1 → ∀ t, t < 100 → τ' 8 (100 * s + t) = nI (z_cost v m (b + 1) (b + 1 - s) t) := by
  have h7 := hv.2.1
  have h6 := hv.2.2.1
  obtain ⟨f1, f2, f3⟩ := z_fold_0 8 (100 * (b + 1)) 0 100 0 τ
  have M1 : z_M (z_fold (fun i σ => x_u σ 8 (100 * (b + 1) + i) 0) 0 100 τ) 0 v := z_M_c hM ⟨h7, h6⟩ (fun k _ => by rw [f1 1 (by decide)])
  obtain ⟨τ', t1, t2, t3, t4⟩ := z_lay34 hv m (a := a) (e := b + 1) (by omega) (b + 1 - a) b x_F (z_fold (fun i σ => x_u σ 8 (100 * (b + 1) + i) 0) 0 100 τ) (by omega) (by omega) (z_fuel (by omega)) M1 (fun t ht => by
    rw [f3 t (Nat.zero_le _) (by omega), Nat.sub_self]
    rfl)
  refine ⟨τ', ?_, fun c hc => (t2 c hc).trans (f1 c hc), fun s g1 g2 t ht => ?_⟩
  · unfold fX8_layCosts bX8_layCosts_3
    refine (z_loopS (N := 100) (r := fun a1 => bX8_layCosts_34 m (nI a) (nI b) a1) (f := fun i σ => x_u σ 8 (100 * (b + 1) + i) 0) (fun K u i hi => ?_) (fun K u => ?_) 100 x_F 0 τ (by omega) (z_fuel (by omega))).trans t1
    · show gX8_layCosts_3 m (nI a) (nI b) K (nI i) u = _
      unfold gX8_layCosts_3
      rw [if_neg (fun z => by have := (z_geL (a := i) (y := (100 : Int32)) 100 rfl (by omega) (by decide)).mp z; omega), nI_1, z_e100, z_gi (n := 800) (by omega) (by decide), z_w, z_cl (by omega), nI_1]
    · show gX8_layCosts_3 m (nI a) (nI b) K (nI 100) u = _
      unfold gX8_layCosts_3
      rw [if_pos (by decide)]
  · by_cases e : s = b + 1
    · subst e
      rw [t3 _ (by omega), f3 t (Nat.zero_le _) (by omega), Nat.sub_self]
      rfl
    · exact t4 s g1 (by omega) t ht
end
section
/-! ===== pure: tell, the system's rows ===== -/
theorem z_off {D k s T : Nat} {nx A : Nat → Nat} (hs : s < 7) (hT : T < 100) (hD : D ≤ 600) (hnx : ∀ t, nx t ≤ 1000000) (hA : ∀ t, A t ≤ 1000000) : ∀ d j f σ, j + d = T + 1 → k ≤ j → d < f → (∀ t, t ≤ T → σ (22 + (s + 1)) t = nI (nx t)) → (∀ t, j ≤ t → t ≤ T → σ (22 + s) t = nI (A t)) → ∃ σ', x_fx (α := Int32 → x_S → Option x_S) (fun _ _ => none) (fun K => fun x5 σ => gX6_offer_3 (nI D) (nI k) (nI s) (nI T) K x5 σ) f (nI j) σ = some σ' ∧ (∀ c, c ≠ 22 + s → σ' c = σ c) ∧ (∀ t, (t < j ∨ T < t) → σ' (22 + s) t = σ (22 + s) t) ∧ ∀ t, j ≤ t → t ≤ T → σ' (22 + s) t = nI (if D + nx (t - k) < A t then D + nx (t - k) else A t) := by
  intro d
  induction d with
  | zero =>
    intro j f σ hj hk hf h1 h2
    cases f with
    | zero => exact absurd hf (by omega)
    | succ f =>
      refine ⟨σ, ?_, fun _ _ => rfl, fun _ _ => rfl, fun t g1 g2 => absurd g2 (by omega)⟩
      show gX6_offer_3 (nI D) (nI k) (nI s) (nI T) _ (nI j) σ = _
      unfold gX6_offer_3
      rw [if_pos (nI_lt (by omega) (by omega))]
  | succ d ih =>
    intro j f σ hj hk hf h1 h2
    cases f with
    | zero => exact absurd hf (by omega)
    | succ f =>
      have n1 := hnx (j - k)
      have n2 := hA j
      have u : ∀ K : Int32 → x_S → Option x_S, gX6_offer_3 (nI D) (nI k) (nI s) (nI T) K (nI j) σ = K (nI (j + 1)) (x_u σ (22 + s) j (nI (if D + nx (j - k) < A j then D + nx (j - k) else A j))) := by
        intro K
        have e : (if nI (D + nx (j - k)) < nI (A j) then nI (D + nx (j - k)) else nI (A j)) = nI (if D + nx (j - k) < A j then D + nx (j - k) else A j) := by
          by_cases c : D + nx (j - k) < A j
          · rw [if_pos ((nI_ltI (by omega) (by omega)).mpr c), if_pos c]
          · rw [if_neg (fun z => c ((nI_ltI (by omega) (by omega)).mp z)), if_neg c]
        unfold gX6_offer_3
        rw [if_neg (nI_nlt (by omega) (by omega)), nI_1, pk_sub hk, nI_1, z_gi (n := 8) (by omega) (by decide), z_gi (n := 8) (by omega) (by decide), z_gi (n := 100) (by omega) (by decide), z_gi (n := 8) (by omega) (by decide), z_gi (n := 100) (by omega) (by decide), z_gi (n := 100) (by omega) (by decide), z_w, z_cl (show s < 65536 by omega), z_cl (show s + 1 < 65536 by omega), z_cl (show j - k < 65536 by omega), z_cl (show j < 65536 by omega), h1 (j - k) (by omega), h2 j (Nat.le_refl _) (by omega), nI_add, e]
      obtain ⟨σ', t1, t2, t3, t4⟩ := ih (j + 1) f (x_u σ (22 + s) j (nI (if D + nx (j - k) < A j then D + nx (j - k) else A j))) (by omega) (by omega) (by omega) (fun t ht => by rw [z_uk (by omega)]; exact h1 t ht) (fun t g1 g2 => by rw [z_ui (by omega)]; exact h2 t (by omega) g2)
      refine ⟨σ', (u _).trans t1, fun c hc => (t2 c hc).trans (z_uk hc), fun t ht => (t3 t (by omega)).trans (z_ui (by omega)), fun t g1 g2 => ?_⟩
      by_cases e : t = j
      · subst e; exact (t3 t (by omega)).trans (z_us _ _ _ _)
      · exact t4 t (by omega) g2
end
section
theorem z_fill70 {v : z_V} (hv : z_ok v) (m : Int32) {s T : Nat} {nx : Nat → Nat} (hs : s < v 1) (hT : T < 100) (hle : ∀ t, nx t ≤ 1000000) (K33 : Int32 → x_S → Option x_S) (x3 : Int32) : ∀ d g f (B : Nat → Nat) σ, g + d = v 2 → d < f → (∀ t, B t ≤ 1000000) → z_S σ 32 v → (∀ t, t ≤ T → σ (22 + (s + 1)) t = nI (nx t)) → (∀ t, t ≤ T → σ (22 + s) t = nI (B t)) → ∃ σ', x_fx (α := Int32 → x_S → Option x_S) (fun _ _ => none) (fun K => fun x7 σ => gX6_fill_70 K33 32 m x3 (nI T) (nI s) K x7 σ) f (nI g) σ = K33 (nI s + (-1)) σ' ∧ (∀ c, c ≠ 22 + s → σ' c = σ c) ∧ ∀ t, t ≤ T → σ' (22 + s) t = nI (z_fold (z_cs v m s nx t) g d (B t)) := by
  have h7 := hv.2.1
  have h6 := hv.2.2.1
  intro d
  induction d with
  | zero =>
    intro g f B σ hg hf hB hS hnx hcur
    cases f with
    | zero => exact absurd hf (by omega)
    | succ f =>
      refine ⟨σ, ?_, fun _ _ => rfl, hcur⟩
      show gX6_fill_70 K33 32 m x3 (nI T) (nI s) _ (nI g) σ = _
      unfold gX6_fill_70
      rw [hS.2.2.1, if_pos (nI_le (by omega) (by omega))]
  | succ d ih =>
    intro g f B σ hg hf hB hS hnx hcur
    cases f with
    | zero => exact absurd hf (by omega)
    | succ f =>
      have hg2 : g < v 2 := by omega
      have hD := z_D_le hv hg2 hs
      obtain ⟨-, -, -, e4, -⟩ := hS.2.2.2.2.2.2 g hg2
      have e4 : σ 38 g = nI (v (37 + g)) := e4
      obtain ⟨-, -, -, hk⟩ := hv.2.2.2.2.2.2 g hg2
      have csB : ∀ t, z_on v m s nx t g = 1000000 → z_cs v m s nx t g (B t) = B t := by
        intro t e
        unfold z_cs
        rw [e]
        exact if_neg (by have := hB t; omega)
      have step : ∀ K : Int32 → x_S → Option x_S, ∃ σ1, gX6_fill_70 K33 32 m x3 (nI T) (nI s) K (nI g) σ = K (nI (g + 1)) σ1 ∧ (∀ c, c ≠ 22 + s → σ1 c = σ c) ∧ ∀ t, t ≤ T → σ1 (22 + s) t = nI (z_cs v m s nx t g (B t)) := by
        intro K
        unfold gX6_fill_70
        rw [hS.2.2.1, if_neg (nI_ge hg2 (by omega)), z_Stl hS hv m hg2 hs, z_p]
        by_cases q : z_tl v m g s = true
        · rw [if_neg (by rw [q]; decide), z_SD hS hv hg2 hs, z_p, z_gi (n := 6) (by omega) (by decide), z_cl (by omega), e4, nI_1]
          unfold fX6_offer bX6_offer_3
          by_cases c : v (37 + g) ≤ T
          · obtain ⟨σ1, t1, t2, t3, t4⟩ := z_off (D := z_D v g s) (k := v (37 + g)) (s := s) (T := T) (nx := nx) (A := B) (by omega) hT hD hle hB (T + 1 - v (37 + g)) (v (37 + g)) x_F σ (by omega) (Nat.le_refl _) (z_fuel (by omega)) hnx (fun t g1 g2 => hcur t g2)
            refine ⟨σ1, by rw [t1, z_v], t2, fun t ht => ?_⟩
            by_cases c2 : v (37 + g) ≤ t
            · rw [t4 t c2 ht]
              have e : z_on v m s nx t g = z_D v g s + nx (t - v (37 + g)) := if_pos ⟨q, c2⟩
              unfold z_cs
              rw [e]
            · rw [t3 t (by omega), hcur t ht]
              have e : z_on v m s nx t g = 1000000 := if_neg (fun z => c2 z.2)
              exact congrArg nI (csB t e).symm
          · refine ⟨σ, ?_, fun _ _ => rfl, fun t ht => ?_⟩
            · obtain ⟨F, hF⟩ : ∃ F, x_F = F + 1 := ⟨4095, rfl⟩
              rw [hF]
              have e : x_fx (α := Int32 → x_S → Option x_S) (fun _ _ => none) (fun K => fun x5 σ => gX6_offer_3 (nI (z_D v g s)) (nI (v (37 + g))) (nI s) (nI T) K x5 σ) (F + 1) (nI (v (37 + g))) σ = some σ := by
                show gX6_offer_3 (nI (z_D v g s)) (nI (v (37 + g))) (nI s) (nI T) _ (nI (v (37 + g))) σ = _
                unfold gX6_offer_3
                rw [if_pos (nI_lt (by omega) (by omega))]
              rw [e, z_v]
            · have e : z_on v m s nx t g = 1000000 := if_neg (fun z => by have := z.2; omega)
              rw [hcur t ht]
              exact congrArg nI (csB t e).symm
        · rw [if_pos (z_B0.mpr (by simpa using q)), nI_1]
          refine ⟨σ, rfl, fun _ _ => rfl, fun t ht => ?_⟩
          have e : z_on v m s nx t g = 1000000 := if_neg (fun z => q z.1)
          rw [hcur t ht]
          exact congrArg nI (csB t e).symm
      obtain ⟨σ1, s1, s2, s3⟩ := step (x_fx (α := Int32 → x_S → Option x_S) (fun _ _ => none) (fun K => fun x7 σ => gX6_fill_70 K33 32 m x3 (nI T) (nI s) K x7 σ) f)
      have hcs : ∀ t, z_cs v m s nx t g (B t) ≤ 1000000 := fun t => by have := hB t; unfold z_cs; split <;> omega
      obtain ⟨σ2, t1, t2, t3⟩ := ih (g + 1) f (fun t => z_cs v m s nx t g (B t)) σ1 (by omega) (by omega) hcs (z_S_c hS (fun k g1 g2 => s2 k (by omega))) (fun t ht => by rw [s2 _ (by omega)]; exact hnx t ht) s3
      exact ⟨σ2, Eq.trans s1 t1, fun c hc => (t2 c hc).trans (s2 c hc), t3⟩
end
section
theorem z_fill42 {v : z_V} (hv : z_ok v) (m : Int32) {s T : Nat} {nx : Nat → Nat} (hs : s < v 1) (hT : T < 100) (hle : ∀ t, nx t ≤ 1000000) (K33 : Int32 → x_S → Option x_S) (x3 : Int32) {σ : x_S} (hS : z_S σ 32 v) (hnx : ∀ t, t ≤ T → σ (22 + (s + 1)) t = nI (nx t)) : ∃ σ', bX6_fill_42 K33 32 m x3 (nI T) (nI s) 0 σ = K33 (nI s + (-1)) σ' ∧ (∀ c, c ≠ 22 + s → σ' c = σ c) ∧ ∀ t, t ≤ T → σ' (22 + s) t = nI (z_fold (z_cs v m s nx t) 0 (v 2) 1000000) := by
  have h7 := hv.2.1
  obtain ⟨f1, f2, f3⟩ := z_fold_0 (22 + s) 0 1000000 (T + 1) 0 σ
  obtain ⟨σ', t1, t2, t3⟩ := z_fill70 hv m hs hT hle K33 x3 (v 2) 0 x_F (fun _ => 1000000) (z_fold (fun i σ => x_u σ (22 + s) (0 + i) 1000000) 0 (T + 1) σ) (by omega) (z_fuel (by have := hv.2.2.1; omega)) (fun _ => Nat.le_refl _) (z_S_c hS (fun k g1 g2 => f1 k (by omega))) (fun t ht => by rw [f1 _ (by omega)]; exact hnx t ht) (fun t ht => by
    have := f3 t (Nat.zero_le _) (by omega)
    rw [Nat.zero_add] at this
    exact this)
  refine ⟨σ', ?_, fun c hc => (t2 c hc).trans (f1 c hc), t3⟩
  unfold bX6_fill_42
  refine (z_loopS (N := T + 1) (r := fun a1 => bX6_fill_70 K33 32 m x3 (nI T) (nI s) 0 a1) (f := fun i σ => x_u σ (22 + s) (0 + i) 1000000) (fun K u i hi => ?_) (fun K u => ?_) (T + 1) x_F 0 σ (by omega) (z_fuel (by omega))).trans t1
  · show gX6_fill_42 K33 32 m x3 (nI T) (nI s) K (nI i) u = _
    unfold gX6_fill_42
    rw [if_neg (nI_nlt (by omega) (by omega)), z_gi (n := 8) (by omega) (by decide), z_gi (n := 100) (by omega) (by decide), z_w, z_cl (by omega), z_cl (by omega), nI_1, Nat.zero_add]
  · show gX6_fill_42 K33 32 m x3 (nI T) (nI s) K (nI (T + 1)) u = _
    unfold gX6_fill_42
    rw [if_pos (nI_lt (by omega) (by omega))]
end
section
/-! ===== pure: tell, the system's table, all streets ===== -/
theorem z_fill33 {v : z_V} (hv : z_ok v) (m : Int32) {a e T : Nat} (he : e ≤ v 1) (hT : T < 100) : ∀ d s f σ, a + d = s + 1 → s < e → d < f → z_S σ 32 v → (∀ t, t ≤ T → σ (22 + (s + 1)) t = nI (z_cost v m e (e - (s + 1)) t)) → ∃ σ', x_fx (α := Int32 → x_S → Option x_S) (fun _ _ => none) (fun K => fun x6 σ => gX6_fill_33 32 m (nI a) (nI T) K x6 σ) f (nI s) σ = some σ' ∧ (∀ c, (c < 22 ∨ 22 + s < c) → σ' c = σ c) ∧ ∀ s2, a ≤ s2 → s2 ≤ s → ∀ t, t ≤ T → σ' (22 + s2) t = nI (z_cost v m e (e - s2) t) := by
  have h7 := hv.2.1
  have h6 := hv.2.2.1
  intro d
  induction d with
  | zero =>
    intro s f σ hd hse hf hS hnx
    cases f with
    | zero => exact absurd hf (by omega)
    | succ f =>
      refine ⟨σ, ?_, fun _ _ => rfl, fun s2 g1 g2 => absurd g2 (by omega)⟩
      show gX6_fill_33 32 m (nI a) (nI T) _ (nI s) σ = _
      unfold gX6_fill_33
      rw [if_pos (nI_lt (by omega) (by omega))]
  | succ d ih =>
    intro s f σ hd hse hf hS hnx
    cases f with
    | zero => exact absurd hf (by omega)
    | succ f =>
      have row : ∀ σ1 : x_S, (∀ t2, t2 ≤ T → σ1 (22 + s) t2 = nI (z_fold (z_cs v m s (z_cost v m e (e - (s + 1))) t2) 0 (v 2) 1000000)) → ∀ t, t ≤ T → σ1 (22 + s) t = nI (z_cost v m e (e - s) t) := by
        intro σ1 h t ht
        have e1 : e - s = (e - (s + 1)) + 1 := by omega
        have e2 : e - (e - (s + 1) + 1) = s := by omega
        rw [h t ht, e1]
        show _ = nI (z_fold (z_cs v m (e - (e - (s + 1) + 1)) (z_cost v m e (e - (s + 1))) t) 0 (v 2) 1000000)
        rw [e2]
      obtain ⟨σ1, s1, s2, s4⟩ := z_fill42 hv m (show s < v 1 by omega) hT (z_cost_le v m e (e - (s + 1))) (x_fx (α := Int32 → x_S → Option x_S) (fun _ _ => none) (fun K => fun x6 σ => gX6_fill_33 32 m (nI a) (nI T) K x6 σ) f) (nI a) hS hnx
      have u : gX6_fill_33 32 m (nI a) (nI T) (x_fx (α := Int32 → x_S → Option x_S) (fun _ _ => none) (fun K => fun x6 σ => gX6_fill_33 32 m (nI a) (nI T) K x6 σ) f) (nI s) σ = x_fx (α := Int32 → x_S → Option x_S) (fun _ _ => none) (fun K => fun x6 σ => gX6_fill_33 32 m (nI a) (nI T) K x6 σ) f (nI s + (-1)) σ1 := by
        refine Eq.trans ?_ s1
        generalize x_fx (α := Int32 → x_S → Option x_S) (fun _ _ => none) (fun K => fun x6 σ => gX6_fill_33 32 m (nI a) (nI T) K x6 σ) f = K33
        unfold gX6_fill_33
        rw [if_neg (nI_nlt (by omega) (by omega))]
      have S1 : z_S σ1 32 v := z_S_c hS (fun k g1 g2 => s2 k (by omega))
      cases d with
      | zero =>
        have es : s = a := by omega
        subst es
        cases f with
        | zero => exact absurd hf (by omega)
        | succ f =>
          refine ⟨σ1, u.trans ?_, fun c hc => s2 c (by omega), fun s2' g1 g2 t ht => ?_⟩
          · show gX6_fill_33 32 m (nI s) (nI T) _ (nI s + (-1)) σ1 = _
            unfold gX6_fill_33
            have hlt : nI s + (-1) < nI s := by
              cases s with
              | zero => decide
              | succ s => rw [pk_m1]; exact nI_lt (by omega) (by omega)
            rw [if_pos hlt]
          · have e2 : s2' = s := by omega
            subst e2
            exact row σ1 s4 t ht
      | succ d =>
        cases s with
        | zero => exact absurd hd (by omega)
        | succ s =>
          rw [pk_m1] at u
          obtain ⟨σ2, t1, t2, t4⟩ := ih s f σ1 (by omega) (by omega) (by omega) S1 (row σ1 s4)
          refine ⟨σ2, u.trans t1, fun c hc => (t2 c (by omega)).trans (s2 c (by omega)), fun s2' g1 g2 t ht => ?_⟩
          by_cases e2 : s2' = s + 1
          · subst e2
            exact (congrFun (t2 _ (by omega)) t).trans (row σ1 s4 t ht)
          · exact t4 s2' g1 (by omega) t ht
/-- the system's table of costs -/
theorem z_fillS {σ : x_S} {v : z_V} (hS : z_S σ 32 v) (hv : z_ok v) (m : Int32) {a b T : Nat} (hab : a ≤ b) (hb : b < v 1) (hT : T < 100) : ∃ σ', fX6_fill 32 m (nI a) (nI b) (nI T) σ = some σ' ∧ (∀ c, (c < 22 ∨ 30 ≤ c) → σ' c = σ c) ∧ ∀ s, a ≤ s → s ≤ b + 1 → ∀ t, t ≤ T → σ' (22 + s) t = nI (z_cost v m (b + 1) (b + 1 - s) t) := by
  have h7 := hv.2.1
  have h6 := hv.2.2.1
  obtain ⟨f1, f2, f3⟩ := z_fold_0 (22 + (b + 1)) 0 0 (T + 1) 0 σ
  have S1 : z_S (z_fold (fun i σ => x_u σ (22 + (b + 1)) (0 + i) 0) 0 (T + 1) σ) 32 v := z_S_c hS (fun k g1 g2 => f1 k (by omega))
  have f4 : ∀ t, t ≤ T → z_fold (fun i σ => x_u σ (22 + (b + 1)) (0 + i) 0) 0 (T + 1) σ (22 + (b + 1)) t = 0 := by
    intro t ht
    have := f3 t (Nat.zero_le _) (by omega)
    rw [Nat.zero_add] at this
    exact this
  obtain ⟨σ', t1, t2, t4⟩ := z_fill33 hv m (a := a) (e := b + 1) (T := T) (by omega) hT (b + 1 - a) b x_F (z_fold (fun i σ => x_u σ (22 + (b + 1)) (0 + i) 0) 0 (T + 1) σ) (by omega) (by omega) (z_fuel (by omega)) S1 (fun t ht => by
    rw [f4 t ht, Nat.sub_self]
    rfl)
  refine ⟨σ', ?_, fun c hc => (t2 c (by omega)).trans (f1 c (by omega)), fun s g1 g2 t ht => ?_⟩
  · unfold fX6_fill bX6_fill_3
    refine (z_loopS (N := T + 1) (r := fun a1 => bX6_fill_33 32 m (nI a) (nI T) (nI b) a1) (f := fun i σ => x_u σ (22 + (b + 1)) (0 + i) 0) (fun K u i hi => ?_) (fun K u => ?_) (T + 1) x_F 0 σ (by omega) (z_fuel (by omega))).trans t1
    · show gX6_fill_3 32 m (nI a) (nI b) (nI T) K (nI i) u = _
      unfold gX6_fill_3
      rw [if_neg (nI_nlt (by omega) (by omega)), nI_1, z_gi (n := 8) (by omega) (by decide), z_gi (n := 100) (by omega) (by decide), z_w, z_cl (by omega), z_cl (by omega), nI_1, Nat.zero_add]
    · show gX6_fill_3 32 m (nI a) (nI b) (nI T) K (nI (T + 1)) u = _
      unfold gX6_fill_3
      rw [if_pos (nI_lt (by omega) (by omega))]
  · by_cases e : s = b + 1
    · subst e
      rw [t2 _ (by omega), f4 t ht, Nat.sub_self]
      rfl
    · exact t4 s g1 (by omega) t ht
end
section
/-! ===== pure: tell, the first of the cheapest ===== -/
theorem z_lt0 {p : Nat} (h : p < 2 ^ 31) : ¬ nI p < (0 : Int32) := nI_nlt (b := 0) (Nat.zero_le _) h
theorem z_ge0 {p : Nat} (h : p < 2 ^ 31) : (0 : Int32) ≤ nI p := nI_le (a := 0) (Nat.zero_le _) h
/-- the first g from i on with P -/
theorem z_least1 (P : Nat → Prop) [DecidablePred P] : ∀ d i g, i + d = g → P g → ∃ h, i ≤ h ∧ h ≤ g ∧ P h ∧ ∀ k, i ≤ k → k < h → ¬ P k := by
  intro d
  induction d with
  | zero =>
    intro i g e hg
    have e2 : i = g := by omega
    subst e2
    exact ⟨i, Nat.le_refl _, Nat.le_refl _, hg, fun k h1 h2 => absurd h2 (by omega)⟩
  | succ d ih =>
    intro i g e hg
    by_cases q : P i
    · exact ⟨i, Nat.le_refl _, by omega, q, fun k h1 h2 => absurd h2 (by omega)⟩
    · obtain ⟨h, h1, h2, h3, h4⟩ := ih (i + 1) g (by omega) hg
      refine ⟨h, by omega, h2, h3, fun k g1 g2 => ?_⟩
      by_cases e2 : k = i
      · subst e2; exact q
      · exact h4 k (by omega) g2
theorem z_cs_is (v : z_V) (m : Int32) (s : Nat) (nx : Nat → Nat) (t : Nat) : ∀ d i a, z_fold (z_cs v m s nx t) i d a = a ∨ ∃ g, i ≤ g ∧ g < i + d ∧ z_on v m s nx t g = z_fold (z_cs v m s nx t) i d a := by
  intro d
  induction d with
  | zero => intro i a; exact Or.inl rfl
  | succ d ih =>
    intro i a
    rcases ih (i + 1) (z_cs v m s nx t i a) with h | ⟨g, g1, g2, g3⟩
    · by_cases c : z_on v m s nx t i < a
      · have e : z_cs v m s nx t i a = z_on v m s nx t i := if_pos c
        exact Or.inr ⟨i, Nat.le_refl _, by omega, e.symm.trans h.symm⟩
      · have e : z_cs v m s nx t i a = a := if_neg c
        exact Or.inl (h.trans e)
    · exact Or.inr ⟨g, by omega, by omega, g3⟩
/-- the first gesture of a cheapest row -/
theorem z_pick {v : z_V} {m : Int32} {s t : Nat} {nx : Nat → Nat} (h : z_fold (z_cs v m s nx t) 0 (v 2) 1000000 < 1000000) : ∃ g, g < v 2 ∧ z_on v m s nx t g = z_fold (z_cs v m s nx t) 0 (v 2) 1000000 ∧ ∀ k, k < g → ¬ z_on v m s nx t k = z_fold (z_cs v m s nx t) 0 (v 2) 1000000 := by
  rcases z_cs_is v m s nx t (v 2) 0 1000000 with q | ⟨g, -, g2, g3⟩
  · exact absurd h (by omega)
  · obtain ⟨k, h1, h2, h3, h4⟩ := z_least1 (fun g => z_on v m s nx t g = z_fold (z_cs v m s nx t) 0 (v 2) 1000000) g 0 g (by omega) g3
    exact ⟨k, by omega, h3, fun j hj => h4 j (Nat.zero_le _) hj⟩
theorem z_used {v : z_V} {m : Int32} {s t g C : Nat} {nx : Nat → Nat} (h : z_on v m s nx t g = C) (hC : C < 1000000) : v (37 + g) ≤ t ∧ nx (t - v (37 + g)) < 1000000 := by
  unfold z_on at h
  by_cases q : z_tl v m g s = true ∧ v (37 + g) ≤ t
  · rw [if_pos q] at h; exact ⟨q.2, by omega⟩
  · rw [if_neg q] at h; exact absurd hC (by omega)
section
variable {v : z_V} {m : Int32} {s t T C : Nat} {nx : Nat → Nat}
theorem z_firstS1 {σ : x_S} (hS : z_S σ 32 v) (hv : z_ok v) (hs : s < v 1) (hT : T < 100) (ht : t ≤ T) (hle : ∀ t, nx t ≤ 1000000) (hnx : ∀ t, t ≤ T → σ (22 + (s + 1)) t = nI (nx t)) (hC : C < 1000000) (h0 : σ (22 + s) t = nI C) {i : Nat} (hi : i < v 2) (K : Int32 → Option Int32) : gX6_firstOfCheapest_3 32 m (nI s) (nI t) K (nI i) σ = if z_on v m s nx t i = C then some (nI i) else K (nI (i + 1)) := by
  have h7 := hv.2.1
  have h6 := hv.2.2.1
  have hD := z_D_le hv hi hs
  obtain ⟨-, -, -, e4, -⟩ := hS.2.2.2.2.2.2 i hi
  have e4 : σ 38 i = nI (v (37 + i)) := e4
  obtain ⟨-, -, -, hk⟩ := hv.2.2.2.2.2.2 i hi
  have n1 := hle (t - v (37 + i))
  unfold gX6_firstOfCheapest_3
  rw [hS.2.2.1, if_neg (nI_ge hi (by omega)), z_gi (n := 6) (by omega) (by decide), show (32 : Nat) + 6 = 38 from rfl, z_cl (show i < 65536 by omega), e4, nI_1]
  by_cases c : v (37 + i) ≤ t
  · rw [pk_sub c, if_neg (z_lt0 (p := t - v (37 + i)) (by omega)), z_Stl hS hv m hi hs, z_p]
    by_cases q : z_tl v m i s = true
    · rw [if_neg (by rw [q]; decide), z_SD hS hv hi hs, z_p, nI_1, z_gi (n := 8) (by omega) (by decide), z_gi (n := 100) (by omega) (by decide), z_gi (n := 8) (by omega) (by decide), z_gi (n := 100) (by omega) (by decide), z_cl (show s + 1 < 65536 by omega), z_cl (show t - v (37 + i) < 65536 by omega), z_cl (show s < 65536 by omega), z_cl (show t < 65536 by omega), h0, hnx _ (by omega), nI_add]
      have e : z_on v m s nx t i = z_D v i s + nx (t - v (37 + i)) := if_pos ⟨q, c⟩
      rw [e]
      by_cases c2 : z_D v i s + nx (t - v (37 + i)) = C
      · rw [if_pos c2, if_pos ((nI_eq (by omega) (by omega)).mpr c2)]
      · rw [if_neg c2, if_neg (fun z => c2 ((nI_eq (by omega) (by omega)).mp z))]
    · have e : z_on v m s nx t i = 1000000 := if_neg (fun z => q z.1)
      rw [if_pos (z_B0.mpr (by simpa using q)), if_neg (by omega)]
  · have e : z_on v m s nx t i = 1000000 := if_neg (fun z => c z.2)
    rw [if_pos (pk_sneg (by omega) (by omega)), if_neg (by omega)]
theorem z_firstS {σ : x_S} (hS : z_S σ 32 v) (hv : z_ok v) (hs : s < v 1) (hT : T < 100) (ht : t ≤ T) (hle : ∀ t, nx t ≤ 1000000) (hnx : ∀ t, t ≤ T → σ (22 + (s + 1)) t = nI (nx t)) (hC : C < 1000000) (h0 : σ (22 + s) t = nI C) {g : Nat} (hg : g < v 2) (hg1 : z_on v m s nx t g = C) (hg2 : ∀ k, k < g → ¬ z_on v m s nx t k = C) : fX6_firstOfCheapest 32 m (nI s) (nI t) σ = some (nI g) := by
  have h6 := hv.2.2.1
  have key : ∀ d i f, i + d = g → d < f → x_fx (α := Int32 → Option Int32) (fun _ => none) (fun K => fun x5 => gX6_firstOfCheapest_3 32 m (nI s) (nI t) K x5 σ) f (nI i) = some (nI g) := by
    intro d
    induction d with
    | zero =>
      intro i f hi hf
      cases f with
      | zero => exact absurd hf (by omega)
      | succ f =>
        have e : i = g := by omega
        subst e
        show gX6_firstOfCheapest_3 32 m (nI s) (nI t) (x_fx _ _ f) (nI i) σ = _
        exact (z_firstS1 hS hv hs hT ht hle hnx hC h0 hg _).trans (if_pos hg1)
    | succ d ih =>
      intro i f hi hf
      cases f with
      | zero => exact absurd hf (by omega)
      | succ f =>
        show gX6_firstOfCheapest_3 32 m (nI s) (nI t) (x_fx _ _ f) (nI i) σ = _
        exact (z_firstS1 hS hv hs hT ht hle hnx hC h0 (by omega) _).trans ((if_neg (hg2 i (by omega))).trans (ih (i + 1) f (by omega) (by omega)))
  exact key g 0 x_F (by omega) (z_fuel (by omega))
theorem z_firstM1 {τ : x_S} (hM : z_M τ 0 v) (hv : z_ok v) (hs : s < v 1) (ht : t < 100) (hle : ∀ t, nx t ≤ 1000000) (hnx : ∀ t, t < 100 → τ 8 (100 * (s + 1) + t) = nI (nx t)) (hC : C < 1000000) (h0 : τ 8 (100 * s + t) = nI C) {i : Nat} (hi : i < v 2) (K97 : Int32 → Int32 → Int32 → x_S → Option (Int32 × x_S)) (K : Int32 → x_S → Option (Int32 × x_S)) (x2 x5 x6 : Int32) : gX8_tell_109 K97 m x2 x5 x6 (nI t) (nI s) K (nI i) τ = if z_on v m s nx t i = C then K97 (nI t - nI (v (37 + i))) (nI i) (nI (s + 1)) τ else K (nI (i + 1)) τ := by
  have h7 := hv.2.1
  have h6 := hv.2.2.1
  have hD := z_D_le hv hi hs
  obtain ⟨-, -, -, e4, -⟩ := hM.2.2.2.2.2.2 i hi
  rw [Nat.zero_add] at e4
  have hon : z_on v m s nx t i ≤ 1000600 := by
    have := hle (t - v (37 + i))
    unfold z_on
    split <;> omega
  unfold gX8_tell_109
  rw [z_onBy hM hv m hi hs ht hnx, z_p, z_e100, z_gi (n := 800) (by omega) (by decide), z_cl (by omega), h0]
  by_cases c : z_on v m s nx t i = C
  · rw [if_pos c, if_pos ((nI_eq (by omega) (by omega)).mpr c), show (37 : Int32) + nI i = nI (37 + i) from nI_add 37 i, z_gi (n := 1372) (by omega) (by decide), z_cl (by omega), e4, nI_1]
  · rw [if_neg c, if_neg (fun z => c ((nI_eq (by omega) (by omega)).mp z)), nI_1]
theorem z_firstM {τ : x_S} (hM : z_M τ 0 v) (hv : z_ok v) (hs : s < v 1) (ht : t < 100) (hle : ∀ t, nx t ≤ 1000000) (hnx : ∀ t, t < 100 → τ 8 (100 * (s + 1) + t) = nI (nx t)) (hC : C < 1000000) (h0 : τ 8 (100 * s + t) = nI C) {g : Nat} (hg : g < v 2) (hg1 : z_on v m s nx t g = C) (hg2 : ∀ k, k < g → ¬ z_on v m s nx t k = C) (K97 : Int32 → Int32 → Int32 → x_S → Option (Int32 × x_S)) (x2 x5 x6 : Int32) : bX8_tell_109 K97 m x2 x5 x6 (nI t) (nI s) 0 τ = K97 (nI t - nI (v (37 + g))) (nI g) (nI (s + 1)) τ := by
  have h6 := hv.2.2.1
  have key : ∀ d i f, i + d = g → d < f → x_fx (α := Int32 → x_S → Option (Int32 × x_S)) (fun _ _ => none) (fun K => fun x8 σ => gX8_tell_109 K97 m x2 x5 x6 (nI t) (nI s) K x8 σ) f (nI i) τ = K97 (nI t - nI (v (37 + g))) (nI g) (nI (s + 1)) τ := by
    intro d
    induction d with
    | zero =>
      intro i f hi hf
      cases f with
      | zero => exact absurd hf (by omega)
      | succ f =>
        have e : i = g := by omega
        subst e
        show gX8_tell_109 K97 m x2 x5 x6 (nI t) (nI s) (x_fx _ _ f) (nI i) τ = _
        exact (z_firstM1 hM hv hs ht hle hnx hC h0 hg K97 _ x2 x5 x6).trans (if_pos hg1)
    | succ d ih =>
      intro i f hi hf
      cases f with
      | zero => exact absurd hf (by omega)
      | succ f =>
        show gX8_tell_109 K97 m x2 x5 x6 (nI t) (nI s) (x_fx _ _ f) (nI i) τ = _
        exact (z_firstM1 hM hv hs ht hle hnx hC h0 (by omega) K97 _ x2 x5 x6).trans ((if_neg (hg2 i (by omega))).trans (ih (i + 1) f (by omega) (by omega)))
  exact key g 0 x_F (by omega) (z_fuel (by omega))
end
end
section
/-! ===== pure: tell ===== -/
theorem z_nM {n : Nat} (h : n < 65536) : ¬ (nI n = -1000000) := fun z => by
  have h1 := congrArg Int32.toInt z
  rw [nI_toInt (by omega)] at h1
  have h2 : (-1000000 : Int32).toInt = -1000000 := by decide
  omega
theorem z_Rel_22 {σ τ σ' τ' : x_S} (h : z_Rel σ τ) (h1 : ∀ c, (c < 22 ∨ 30 ≤ c) → σ' c = σ c) (h2 : ∀ c, c ≠ 8 → τ' c = τ c) : z_Rel σ' τ' := by
  obtain ⟨hs, hr, hta, hf, hto, him, htr⟩ := h
  have e0 : τ' 0 = τ 0 := h2 0 (by decide)
  refine ⟨?_, z_rows_c hr (fun k g1 g2 => h1 k (by omega)) (h2 3 (by decide)) (h2 4 (by decide)) (h2 5 (by decide)), z_tape_c hta (by rw [h1 13 (by decide)]) (h1 14 (by decide)) (by rw [e0]) (h2 6 (by decide)), ?_, z_town_c hto (fun k g1 g2 => h1 k (by omega)) (fun k g1 g2 => h1 k (by omega)) (fun k _ => by rw [h2 1 (by decide)]) (by rw [e0]) (by rw [e0]), z_ims_c him (fun k g1 g2 => h1 k (by omega)) (fun k _ => by rw [h2 1 (by decide)]) (h2 2 (by decide)) (fun z => by rw [e0]; exact z), z_tr_c htr (by rw [h1 30 (by decide)]) (h1 31 (by decide)) (by rw [e0]) (h2 7 (by decide))⟩
  · show σ' 0 8 = τ' 0 10
    rw [h1 0 (by decide), e0]; exact hs
  · rw [h1 13 (by decide), e0]; exact hf
/-- along the streets -/
theorem z_walk {σ τ : x_S} {v : z_V} (hS : z_S σ 32 v) (hM : z_M τ 0 v) (hv : z_ok v) (m : Int32) {a b T q : Nat} (hb : b < v 1) (hq : a + q ≤ b) (hT : T < 100) (h1 : ∀ s, a ≤ s → s ≤ b + 1 → ∀ t, t ≤ T → σ (22 + s) t = nI (z_cost v m (b + 1) (b + 1 - s) t)) (h2 : ∀ s, a ≤ s → s ≤ b + 1 → ∀ t, t < 100 → τ 8 (100 * s + t) = nI (z_cost v m (b + 1) (b + 1 - s) t)) (x6 : Int32) : ∀ d s t x f f', s + d = a + q + 1 → a ≤ s → t ≤ T → z_cost v m (b + 1) (b + 1 - s) t < 1000000 → d < f → d < f' → ∃ r, x_fx (α := Int32 → Int32 → Int32 → x_S → Option (Int32 × x_S)) (fun _ _ _ _ => none) (fun K => fun x7 x8 x9 σ => gX6_gestureOfCheapest_48 32 m (nI a) (nI q) K x7 x8 x9 σ) f (nI t) x (nI s) σ = some (r, σ) ∧ x_fx (α := Int32 → Int32 → Int32 → x_S → Option (Int32 × x_S)) (fun _ _ _ _ => none) (fun K => fun x7 x8 x9 σ => gX8_tell_97 m (nI a) (nI q) x6 K x7 x8 x9 σ) f' (nI t) x (nI s) τ = some (r, τ) := by
  have h7 := hv.2.1
  have h6 := hv.2.2.1
  intro d
  induction d with
  | zero =>
    intro s t x f f' hs has ht hc hf hf'
    cases f with
    | zero => exact absurd hf (by omega)
    | succ f =>
      cases f' with
      | zero => exact absurd hf' (by omega)
      | succ f' =>
        refine ⟨x, ?_, ?_⟩
        · show gX6_gestureOfCheapest_48 32 m (nI a) (nI q) (x_fx _ _ f) (nI t) x (nI s) σ = _
          unfold gX6_gestureOfCheapest_48
          rw [nI_add, if_pos (nI_lt (by omega) (by omega))]
        · show gX8_tell_97 m (nI a) (nI q) x6 (x_fx _ _ f') (nI t) x (nI s) τ = _
          unfold gX8_tell_97
          rw [nI_add, if_pos (nI_lt (by omega) (by omega)), if_pos (z_ge0 (by omega))]
  | succ d ih =>
    intro s t x f f' hs has ht hc hf hf'
    cases f with
    | zero => exact absurd hf (by omega)
    | succ f =>
      cases f' with
      | zero => exact absurd hf' (by omega)
      | succ f' =>
        have e1 : b + 1 - s = (b + 1 - (s + 1)) + 1 := by omega
        have e2 : b + 1 - (b + 1 - (s + 1) + 1) = s := by omega
        have eC : z_cost v m (b + 1) (b + 1 - s) t = z_fold (z_cs v m s (z_cost v m (b + 1) (b + 1 - (s + 1))) t) 0 (v 2) 1000000 := by
          rw [e1]
          show z_fold (z_cs v m (b + 1 - (b + 1 - (s + 1) + 1)) (z_cost v m (b + 1) (b + 1 - (s + 1))) t) 0 (v 2) 1000000 = _
          rw [e2]
        have hle := z_cost_le v m (b + 1) (b + 1 - (s + 1))
        have h10 := h1 s has (by omega) t ht
        have h20 := h2 s has (by omega) t (by omega)
        rw [eC] at hc h10 h20
        obtain ⟨g, g1, g2, g3⟩ := z_pick hc
        obtain ⟨u1, u2⟩ := z_used g2 hc
        have hS1 := z_firstS hS hv (show s < v 1 by omega) hT ht hle (h1 (s + 1) (by omega) (by omega)) hc h10 g1 g2 g3
        have hM1 := fun K97 => z_firstM hM hv (show s < v 1 by omega) (show t < 100 by omega) hle (h2 (s + 1) (by omega) (by omega)) hc h20 g1 g2 g3 K97 (nI a) (nI q) x6
        obtain ⟨-, -, -, e4, -⟩ := hS.2.2.2.2.2.2 g g1
        have e4 : σ 38 g = nI (v (37 + g)) := e4
        obtain ⟨r, r1, r2⟩ := ih (s + 1) (t - v (37 + g)) (nI g) f f' (by omega) (by omega) (by omega) u2 (by omega) (by omega)
        have uS : ∀ K : Int32 → Int32 → Int32 → x_S → Option (Int32 × x_S), gX6_gestureOfCheapest_48 32 m (nI a) (nI q) K (nI t) x (nI s) σ = K (nI (t - v (37 + g))) (nI g) (nI (s + 1)) σ := by
          intro K
          unfold gX6_gestureOfCheapest_48
          rw [nI_add, if_neg (nI_nlt (by omega) (by omega)), hS1, z_p, if_neg (z_nM (show g < 65536 by omega)), z_gi (n := 6) (by omega) (by decide), show (32 : Nat) + 6 = 38 from rfl, z_cl (by omega), e4, pk_sub u1, nI_1]
        have uM : ∀ K : Int32 → Int32 → Int32 → x_S → Option (Int32 × x_S), gX8_tell_97 m (nI a) (nI q) x6 K (nI t) x (nI s) τ = K (nI (t - v (37 + g))) (nI g) (nI (s + 1)) τ := by
          intro K
          unfold gX8_tell_97
          rw [nI_add, if_neg (nI_nlt (by omega) (by omega)), hM1 K, pk_sub u1]
        refine ⟨r, ?_, ?_⟩
        · show gX6_gestureOfCheapest_48 32 m (nI a) (nI q) (x_fx _ _ f) (nI t) x (nI s) σ = _
          exact (uS _).trans r1
        · show gX8_tell_97 m (nI a) (nI q) x6 (x_fx _ _ f') (nI t) x (nI s) τ = _
          exact (uM _).trans r2
/-- tell -/
theorem o_tell {σ τ : x_S} (h : z_Rel σ τ) (a1 a2 a3 a4 a5 : Int32) : z_op (fX7_tell a1 a2 a3 a4 a5 σ) (fX8_tell a1 a2 a3 a4 a5 τ) z_Rel := by
  obtain ⟨v, n0, p, V, ht, -⟩ := h.2.2.2.2.1
  have h7 := ht.1.2.1
  unfold z_op fX7_tell fX8_tell
  obtain ⟨r, r1, r2⟩ := z_mean a1 σ τ
  rw [r1, r2, z_p, z_p]
  by_cases q : r = 0
  · rw [if_pos q, if_pos q]; exact ⟨_, _, _, rfl, rfl, h⟩
  · rw [if_neg q, if_neg q]
    rcases ht.stretch a2 a3 with ⟨h1, h2⟩ | ⟨a, b, hab, hb, rfl, rfl, h1, h2⟩
    · rw [h1, h2, z_p, z_p, if_pos rfl, if_pos rfl]; exact ⟨_, _, _, rfl, rfl, h⟩
    · rw [h1, h2, z_p, z_p, if_neg z_10, if_neg z_10, z_isWithin, z_isWithin, show fX8_in a4.toInt64 0 99 τ = some (z_W a4 0 99) from z_in64 a4 0 99 τ, show fX8_in a5.toInt64 (-1) 6 τ = some (z_W a5 (-1) 6) from z_in64 a5 (-1) 6 τ, z_p, z_p, z_p, z_p]
      rcases z_W_ix a4 99 (by decide) with c | ⟨T, hT, rfl, c⟩
      · have c : z_W a4 0 99 = 0 := c
        rw [c, if_pos rfl, if_pos rfl]; exact ⟨_, _, _, rfl, rfl, h⟩
      · have c : z_W (nI T) 0 99 = 1 := c
        rw [c, if_neg z_10, if_neg z_10]
        by_cases c5 : z_W a5 (-1) 6 = 0
        · rw [if_pos c5, if_pos c5]; exact ⟨_, _, _, rfl, rfl, h⟩
        · obtain ⟨k1, k2⟩ := z_W1 c5
          rw [if_neg c5, if_neg c5]
          obtain ⟨σ', s1, s2, s3⟩ := z_fillS ht.2.1 ht.1 a1 hab hb (show T < 100 by omega)
          obtain ⟨τ', t1, t2, t3⟩ := z_layM ht.2.2 ht.1 a1 hab hb
          have hR : z_Rel σ' τ' := z_Rel_22 h s2 t2
          have hS' : z_S σ' 32 v := z_S_c ht.2.1 (fun k g1 g2 => s2 k (by omega))
          have hM' : z_M τ' 0 v := z_M_c ht.2.2 ⟨ht.1.2.1, ht.1.2.2.1⟩ (fun k _ => by rw [t2 1 (by decide)])
          have e1 := s3 a (Nat.le_refl _) (by omega) T (Nat.le_refl _)
          have e2 := t3 a (Nat.le_refl _) (by omega) T (by omega)
          have hle := z_cost_le v a1 (b + 1) (b + 1 - a) T
          have hlast : ∀ C, C ≤ 1000000 → ((1000000 : Int32) ≤ nI C ↔ C = 1000000) := fun C hC => ⟨fun z => by have := (nI_leI (a := 1000000) (b := C) (by decide) (by omega)).mp z; omega, fun z => by subst z; exact Int32.le_refl _⟩
          rw [t1, z_v, z_e100, z_gi (n := 800) (by omega) (by decide), z_cl (by omega), e2]
          by_cases cC : z_cost v a1 (b + 1) (b + 1 - a) T = 1000000
          · -- none
            refine ⟨-1000000, σ', τ', ?_, by rw [if_pos ((hlast _ hle).mpr cC)], hR⟩
            by_cases k0 : (0 : Int32) ≤ a5
            · rw [if_pos k0]
              unfold fX6_gestureOfCheapest
              rw [s1, z_v]
              by_cases k3 : nI b - nI a < a5
              · rw [if_pos k3, z_b]
              · rw [if_neg k3, z_gi (n := 8) (by omega) (by decide), z_gi (n := 100) (by omega) (by decide), z_cl (by omega), z_cl (by omega), e1, if_neg (fun z => absurd ((hlast _ hle).mpr cC) (Int32.not_le.mpr z)), z_b]
            · rw [if_neg k0]
              unfold fX6_leastDuty
              rw [s1, z_v, z_gi (n := 8) (by omega) (by decide), z_gi (n := 100) (by omega) (by decide), z_gi (n := 8) (by omega) (by decide), z_gi (n := 100) (by omega) (by decide), z_cl (by omega), z_cl (by omega), e1, if_pos ((hlast _ hle).mpr cC), z_b]
          · have cN : ¬ (1000000 : Int32) ≤ nI (z_cost v a1 (b + 1) (b + 1 - a) T) := fun z => cC ((hlast _ hle).mp z)
            rw [if_neg cN]
            by_cases k0 : (0 : Int32) ≤ a5
            · obtain ⟨k, hk, rfl⟩ := nI_of (Int32.not_lt.mpr k0)
              have hk6 : k ≤ 6 := Nat.not_lt.mp (fun z => k2 ((nI_ltI (a := 6) (by decide) hk).mpr z))
              rw [if_pos k0, pk_sub hab]
              unfold fX6_gestureOfCheapest
              rw [s1, z_v, pk_sub hab]
              by_cases k3 : k ≤ b - a
              · rw [if_neg (nI_nlt k3 (by omega)), if_pos (nI_le k3 (by omega)), z_gi (n := 8) (by omega) (by decide), z_gi (n := 100) (by omega) (by decide), z_cl (show a < 65536 by omega), z_cl (show T < 65536 by omega), e1, if_pos (Int32.not_le.mp cN)]
                obtain ⟨r, g1, g2⟩ := z_walk hS' hM' ht.1 a1 hb (show a + k ≤ b by omega) (show T < 100 by omega) s3 t3 (nI (z_cost v a1 (b + 1) (b + 1 - a) T)) (k + 1) a T (-1000000) x_F x_F (by omega) (Nat.le_refl _) (Nat.le_refl _) (by omega) (z_fuel (by omega)) (z_fuel (by omega))
                have g1 : bX6_gestureOfCheapest_48 32 a1 (nI a) (nI k) (nI T) (-1000000) (nI a) σ' = some (r, σ') := g1
                have g2 : bX8_tell_97 a1 (nI a) (nI k) (nI (z_cost v a1 (b + 1) (b + 1 - a) T)) (nI T) (-1000000) (nI a) τ' = some (r, τ') := g2
                rw [g1, g2, z_b]
                exact ⟨_, _, _, rfl, rfl, hR⟩
              · rw [if_pos (nI_lt (by omega) (by omega)), if_neg (fun z => k3 ((nI_leI (by omega) (by omega)).mp z)), z_b]
                exact ⟨_, _, _, rfl, rfl, hR⟩
            · have hm1 : a5 = -1 := by
                have q1 : (-1 : Int32).toInt ≤ a5.toInt := Int32.le_iff_toInt_le.mp (Int32.not_lt.mp k1)
                have q2 : a5.toInt < (0 : Int32).toInt := Int32.lt_iff_toInt_lt.mp (Int32.not_le.mp k0)
                apply Int32.toInt_inj.mp
                have z1 : (-1 : Int32).toInt = -1 := by decide
                have z2 : (0 : Int32).toInt = 0 := by decide
                omega
              subst hm1
              have w1 : (-1 : Int32) ≤ nI b - nI a := by rw [pk_sub hab]; exact Int32.le_trans (by decide) (z_ge0 (by omega))
              have w2 : nI a + (-1) < nI a := by
                cases a with
                | zero => decide
                | succ a => rw [pk_m1]; exact nI_lt (by omega) (by omega)
              rw [if_neg k0, if_pos w1]
              refine ⟨nI (z_cost v a1 (b + 1) (b + 1 - a) T), σ', τ', ?_, ?_, hR⟩
              · unfold fX6_leastDuty
                rw [s1, z_v, z_gi (n := 8) (by omega) (by decide), z_gi (n := 100) (by omega) (by decide), z_gi (n := 8) (by omega) (by decide), z_gi (n := 100) (by omega) (by decide), z_cl (by omega), z_cl (by omega), e1, if_neg cN, z_b]
              · unfold bX8_tell_97
                show gX8_tell_97 a1 (nI a) (-1) _ _ (nI T) (-1000000) (nI a) τ' = _
                unfold gX8_tell_97
                rw [if_pos w2, if_neg (by decide)]
end
section
/-! ===== pure: city, what is read ===== -/
def w_tp (σ τ : x_S) (n : Nat) : Prop := σ 13 1 = nI n ∧ τ 0 8 = nI n ∧ n ≤ 120 ∧ ∀ i, i < n → σ 14 i = τ 6 i
theorem w_tp_c {σ τ σ' τ' : x_S} {n : Nat} (h : w_tp σ τ n) (h1 : σ' 13 1 = σ 13 1) (h2 : σ' 14 = σ 14) (h3 : τ' 0 8 = τ 0 8) (h4 : τ' 6 = τ 6) : w_tp σ' τ' n := ⟨h1.trans h.1, h3.trans h.2.1, h.2.2.1, fun i hi => by rw [h2, h4]; exact h.2.2.2 i hi⟩
theorem w_next {σ : x_S} {n p : Nat} (hn : n ≤ 120) (h1 : σ 13 1 = nI n) (h5 : σ 13 5 = nI p) (hp : p < 1000) : fX4_next σ = some (if p < n then σ 14 p else -1) := by
  unfold fX4_next
  rw [h5, h1, if_neg (z_lt0 (by omega))]
  by_cases c : p < n
  · rw [if_neg (nI_ge c (by omega)), if_neg (fun z => by have := (z_geL (a := p) (y := (120 : Int32)) 120 rfl (by omega) (by decide)).mp z; omega), z_gi (n := 120) (by omega) (by decide), z_cl (by omega), if_pos c]
  · rw [if_pos (nI_le (by omega) (by omega)), if_neg c]
theorem w_digit (x : Int32) : z_W x 48 57 = 0 ∨ ∃ d, d ≤ 9 ∧ x = nI (48 + d) ∧ z_W x 48 57 = 1 := by
  by_cases h : z_W x 48 57 = 0
  · exact Or.inl h
  · obtain ⟨h1, h2⟩ := z_W1 h
    have h3 : ¬ x < 0 := fun z => h1 (Int32.lt_trans z (by decide))
    obtain ⟨j, hj, rfl⟩ := nI_of h3
    have g1 : 48 ≤ j := Nat.not_lt.mp (fun z => h1 ((nI_ltI (b := 48) (by omega) (by decide)).mpr z))
    have g2 : j ≤ 57 := Nat.not_lt.mp (fun z => h2 ((nI_ltI (a := 57) (by decide) (by omega)).mpr z))
    refine Or.inr ⟨j - 48, by omega, by rw [show 48 + (j - 48) = j by omega], ?_⟩
    unfold z_W
    rw [if_neg h1, if_neg h2]
/-- a figure at p, or none -/
theorem w_fig {σ τ : x_S} {n p : Nat} (ht : w_tp σ τ n) (hp : p < 1000) : (fX8_isFigure (nI p) τ = some 0 ∧ (∀ σ', σ' 13 1 = nI n → σ' 14 = σ 14 → σ' 13 5 = nI p → ∃ y, fX4_next σ' = some y ∧ z_W y 48 57 = 0)) ∨ ∃ d, d ≤ 9 ∧ p < n ∧ τ 6 p = nI (48 + d) ∧ fX8_isFigure (nI p) τ = some 1 ∧ ∀ σ', σ' 13 1 = nI n → σ' 14 = σ 14 → σ' 13 5 = nI p → fX4_next σ' = some (nI (48 + d)) := by
  obtain ⟨t1, t2, t3, t4⟩ := ht
  by_cases c : p < n
  · have e : ∀ k, fX8_in (Int32.toInt64 k) 48 57 τ = some (z_W k 48 57) := fun k => z_in64 k 48 57 τ
    rcases w_digit (τ 6 p) with h | ⟨d, hd, h1, h2⟩
    · refine Or.inl ⟨?_, fun σ' g1 g2 g3 => ⟨_, w_next t3 g1 g3 hp, ?_⟩⟩
      · unfold fX8_isFigure
        rw [t2, if_neg (nI_ge c (by omega)), z_gi (n := 120) (by omega) (by decide), z_cl (by omega), e, z_p, if_pos h]
      · rw [if_pos c, g2, t4 p c]; exact h
    · refine Or.inr ⟨d, hd, c, h1, ?_, fun σ' g1 g2 g3 => ?_⟩
      · unfold fX8_isFigure
        rw [t2, if_neg (nI_ge c (by omega)), z_gi (n := 120) (by omega) (by decide), z_cl (by omega), e, z_p, h2, if_neg z_10]
      · rw [w_next t3 g1 g3 hp, if_pos c, g2, t4 p c, h1]
  · refine Or.inl ⟨?_, fun σ' g1 g2 g3 => ⟨_, w_next t3 g1 g3 hp, ?_⟩⟩
    · unfold fX8_isFigure
      rw [t2, if_pos (nI_le (by omega) (by omega))]
    · rw [if_neg c]; decide
/-- a fault is kept with its number e and its place q -/
def w_ft (σ0 τ0 σ τ : x_S) : Prop := ∃ e q, ¬ e = 0 ∧ σ 13 4 = e ∧ σ 13 2 = e ∧ σ 13 3 = q ∧ τ 0 14 = e ∧ τ 0 13 = q ∧ ∀ j, j ≠ 13 → j ≠ 14 → j ≠ 15 → τ 0 j = τ0 0 j
/-- none yet, the place is p -/
def w_lv (σ0 τ0 : x_S) (n p : Nat) (σ τ : x_S) : Prop := w_tp σ τ n ∧ p ≤ n ∧ σ 13 4 = 0 ∧ σ 13 5 = nI p ∧ τ 0 13 = nI p ∧ σ 13 2 = σ0 13 2 ∧ ∀ j, j ≠ 13 → j ≠ 14 → j ≠ 15 → τ 0 j = τ0 0 j
/-- the first fault, e at q -/
theorem w_failAt {σ : x_S} (h : σ 13 4 = 0) (q e : Int32) : ∃ σ', fX4_failAt q e σ = some σ' ∧ (∀ c, c ≠ 13 → σ' c = σ c) ∧ σ' 13 4 = e ∧ σ' 13 2 = e ∧ σ' 13 3 = q ∧ σ' 13 1 = σ 13 1 ∧ σ' 13 5 = σ 13 5 := by
  refine ⟨x_u (x_u (x_u σ 13 4 e) 13 2 e) 13 3 q, ?_, fun c hc => by rw [z_uk hc, z_uk hc, z_uk hc], ?_, ?_, z_us _ _ _ _, ?_, ?_⟩
  · unfold fX4_failAt
    rw [if_pos h, z_w, z_w, z_w]
  · rw [z_ui (by decide), z_ui (by decide), z_us]
  · rw [z_ui (by decide), z_us]
  · rw [z_ui (by decide), z_ui (by decide), z_ui (by decide)]
  · rw [z_ui (by decide), z_ui (by decide), z_ui (by decide)]
/-- a later one -/
theorem w_failD {σ : x_S} (h : ¬ σ 13 4 = 0) (q e : Int32) : fX4_failAt q e σ = some σ := by
  unfold fX4_failAt
  rw [if_neg h]
theorem w_refuse (τ : x_S) (e : Int32) : fX8_refuse e τ = some (0, x_u τ 0 14 e) := rfl
/-- a sign -/
theorem w_sign {σ0 τ0 σ τ : x_S} {n p : Nat} (h : w_lv σ0 τ0 n p σ τ) {a : Int32} (ha : ¬ (-1 : Int32) = a) : ∃ σ' r τ', fX4_readSign a σ = some σ' ∧ fX8_sign a τ = some (r, τ') ∧ (∀ c, c ≠ 13 → σ' c = σ c) ∧ (∀ c, c ≠ 0 → τ' c = τ c) ∧ ((r = 1 ∧ p < n ∧ w_lv σ0 τ0 n (p + 1) σ' τ') ∨ (r = 0 ∧ w_ft σ0 τ0 σ' τ')) := by
  obtain ⟨ht, hp, h4, h5, g5, h2, hj⟩ := h
  have hn := ht.2.2.1
  have hx := w_next hn ht.1 h5 (by omega)
  unfold fX4_readSign fX8_sign fX8_isLetter
  rw [hx, z_p, ht.2.1, g5]
  by_cases c : p < n
  · rw [if_neg (nI_ge c (by omega)), z_gi (n := 120) (by omega) (by decide), z_cl (by omega), if_pos c, ht.2.2.2 p c]
    by_cases c2 : τ 6 p = a
    · rw [if_pos c2, if_pos c2, z_p, if_neg z_10, z_w]
      refine ⟨x_u σ 13 5 (nI (p + 1)), 1, x_u τ 0 13 (nI p + 1), ?_, rfl, fun c hc => z_uk hc, fun c hc => z_uk hc, Or.inl ⟨rfl, c, w_tp_c ht (z_ui (by decide)) (z_uk (by decide)) (z_ui (by decide)) (z_uk (by decide)), by omega, ?_, z_us _ _ _ _, ?_, ?_, fun j h1 h2 h3 => ?_⟩⟩
      · unfold bX4_readSign_13
        rw [z_w, h5, nI_1]
      · rw [z_ui (by decide)]; exact h4
      · rw [z_us, nI_1]
      · rw [z_ui (by decide)]; exact h2
      · rw [z_ui h1]; exact hj j h1 h2 h3
    · rw [if_neg c2, if_neg c2, z_p, if_pos rfl, w_refuse, z_b]
      obtain ⟨σ1, s1, s2, s3, s4, s5, s6, s7⟩ := w_failAt h4 (σ 13 5) 1
      refine ⟨x_u σ1 13 5 (σ1 13 5 + 1), 0, x_u τ 0 14 1, ?_, rfl, fun c hc => (z_uk hc).trans (s2 c hc), fun c hc => z_uk hc, Or.inr ⟨rfl, 1, nI p, z_10, ?_, ?_, ?_, z_us _ _ _ _, ?_, fun j h1 h2 h3 => ?_⟩⟩
      · unfold fX4_fail bX4_readSign_13
        rw [s1]; rfl
      · rw [z_ui (by decide)]; exact s3
      · rw [z_ui (by decide)]; exact s4
      · rw [z_ui (by decide), s5]; exact h5
      · rw [z_ui (by decide)]; exact g5
      · rw [z_ui h2]; exact hj j h1 h2 h3
  · rw [if_pos (nI_le (by omega) (by omega)), if_neg c, if_neg ha, z_p, if_pos rfl, w_refuse, z_b]
    obtain ⟨σ1, s1, s2, s3, s4, s5, s6, s7⟩ := w_failAt h4 (σ 13 5) 1
    refine ⟨x_u σ1 13 5 (σ1 13 5 + 1), 0, x_u τ 0 14 1, ?_, rfl, fun c hc => (z_uk hc).trans (s2 c hc), fun c hc => z_uk hc, Or.inr ⟨rfl, 1, nI p, z_10, ?_, ?_, ?_, z_us _ _ _ _, ?_, fun j h1 h2 h3 => ?_⟩⟩
    · unfold fX4_fail bX4_readSign_13
      rw [s1]; rfl
    · rw [z_ui (by decide)]; exact s3
    · rw [z_ui (by decide)]; exact s4
    · rw [z_ui (by decide), s5]; exact h5
    · rw [z_ui (by decide)]; exact g5
    · rw [z_ui h2]; exact hj j h1 h2 h3
end
section
/-! ===== pure: city, numbers ===== -/
theorem w_nextT (σ : x_S) : ∃ y, fX4_next σ = some y := by
  unfold fX4_next
  by_cases c1 : σ 13 5 < 0
  · exact ⟨_, if_pos c1⟩
  · rw [if_neg c1]
    by_cases c2 : σ 13 1 ≤ σ 13 5
    · exact ⟨_, if_pos c2⟩
    · rw [if_neg c2]
      by_cases c3 : (120 : Int32) ≤ σ 13 5
      · exact ⟨_, if_pos c3⟩
      · rw [if_neg c3]
        obtain ⟨j, hj, e⟩ := nI_of c1
        have hj2 : j < 120 := by
          rw [e] at c3
          exact Nat.not_le.mp (fun z => c3 ((z_geL (a := j) (y := (120 : Int32)) 120 rfl (by
            rcases Nat.lt_or_ge j (2 ^ 30) with q | q
            · exact q
            · exact absurd ((nI_leI (a := 120) (b := j) (by decide) hj).mpr z) c3) (by decide)).mpr z))
        rw [e, z_gi (n := 120) hj2 (by decide)]
        exact ⟨_, rfl⟩
theorem w_st0 {σ : x_S} {y : Int32} {c : Nat} (hc : c < 120) (hy : fX4_next σ = some y) (hw : z_W y 48 57 = 0) (K : Int32 → Int32 → Int32 → x_S → Option (Int32 × x_S)) (lo hi x5 x3 x4 : Int32) : gX4_readNumber_14 lo hi x5 K x3 x4 (nI c) σ = bX4_readNumber_79 lo hi x3 x4 x5 σ := by
  unfold gX4_readNumber_14
  rw [if_neg (fun z => by have := (z_geL (a := c) (y := (120 : Int32)) 120 rfl (by omega) (by decide)).mp z; omega), hy, z_p, z_isWithin, z_p, hw, if_pos rfl]
theorem w_st1 {σ : x_S} {y : Int32} {c : Nat} (hc : c < 120) (hy : fX4_next σ = some y) (hw : ¬ z_W y 48 57 = 0) (K : Int32 → Int32 → Int32 → x_S → Option (Int32 × x_S)) (lo hi x5 x3 x4 : Int32) : gX4_readNumber_14 lo hi x5 K x3 x4 (nI c) σ = K (x3 + 1) (if 2 ≤ x3 then x4 else (x4 * 10 + y) - 48) (nI (c + 1)) (x_u σ 13 5 (σ 13 5 + 1)) := by
  unfold gX4_readNumber_14 bX4_readNumber_58
  rw [if_neg (fun z => by have := (z_geL (a := c) (y := (120 : Int32)) 120 rfl (by omega) (by decide)).mp z; omega), hy, z_p, z_isWithin, z_p, if_neg hw]
  by_cases q : (2 : Int32) ≤ x3
  · rw [if_pos q, if_pos q, z_w, nI_1]
  · rw [if_neg q, if_neg q, z_p, z_w, nI_1]
/-- to the end of a run of figures -/
theorem w_run (lo hi x5 : Int32) : ∀ d c f x3 x4 σ, c + d = 120 → d < f → ∃ x3' x4' σ', x_fx (α := Int32 → Int32 → Int32 → x_S → Option (Int32 × x_S)) (fun _ _ _ _ => none) (fun K => fun x3 x4 x6 σ => gX4_readNumber_14 lo hi x5 K x3 x4 x6 σ) f x3 x4 (nI c) σ = bX4_readNumber_79 lo hi x3' x4' x5 σ' ∧ (∀ k, k ≠ 13 → σ' k = σ k) ∧ (∀ j, j ≠ 5 → σ' 13 j = σ 13 j) ∧ ∀ k, x3 = nI k → 3 ≤ k → k + d < 65536 → ∃ k', 3 ≤ k' ∧ k' < 65536 ∧ x3' = nI k' := by
  intro d
  induction d with
  | zero =>
    intro c f x3 x4 σ hc hf
    cases f with
    | zero => exact absurd hf (by omega)
    | succ f =>
      have e : c = 120 := by omega
      subst e
      refine ⟨x3, x4, σ, ?_, fun _ _ => rfl, fun _ _ => rfl, fun k h1 h2 h3 => ⟨k, h2, by omega, h1⟩⟩
      show gX4_readNumber_14 lo hi x5 _ x3 x4 (nI 120) σ = _
      unfold gX4_readNumber_14
      rw [if_pos (by decide)]
  | succ d ih =>
    intro c f x3 x4 σ hc hf
    cases f with
    | zero => exact absurd hf (by omega)
    | succ f =>
      obtain ⟨y, hy⟩ := w_nextT σ
      by_cases hw : z_W y 48 57 = 0
      · refine ⟨x3, x4, σ, ?_, fun _ _ => rfl, fun _ _ => rfl, fun k h1 h2 h3 => ⟨k, h2, by omega, h1⟩⟩
        show gX4_readNumber_14 lo hi x5 (x_fx _ _ f) x3 x4 (nI c) σ = _
        exact w_st0 (by omega) hy hw _ lo hi x5 x3 x4
      · obtain ⟨x3', x4', σ', r1, r2, r3, r4⟩ := ih (c + 1) f (x3 + 1) (if 2 ≤ x3 then x4 else (x4 * 10 + y) - 48) (x_u σ 13 5 (σ 13 5 + 1)) (by omega) (by omega)
        refine ⟨x3', x4', σ', ?_, fun k hk => (r2 k hk).trans (z_uk hk), fun j hj => (r3 j hj).trans (z_ui hj), fun k h1 h2 h3 => r4 (k + 1) (by rw [h1, nI_1]) (by omega) (by omega)⟩
        refine Eq.trans ?_ r1
        show gX4_readNumber_14 lo hi x5 (x_fx _ _ f) x3 x4 (nI c) σ = _
        exact w_st1 (by omega) hy hw _ lo hi x5 x3 x4
theorem w_dig1 : ∀ d, d < 10 → ¬ z_W (nI (48 + d)) 48 57 = 0 := by decide
/-- the numbers lo to hi -/
theorem w_Wk {k lo hi : Nat} (h1 : k < 65536) (h2 : lo < 65536) (h3 : hi < 65536) : (z_W (nI k) (nI lo) (nI hi) = 1 ∧ lo ≤ k ∧ k ≤ hi) ∨ z_W (nI k) (nI lo) (nI hi) = 0 := by
  unfold z_W
  by_cases c1 : lo ≤ k
  · rw [if_neg (nI_nlt c1 (by omega))]
    by_cases c2 : k ≤ hi
    · rw [if_neg (nI_nlt c2 (by omega))]; exact Or.inl ⟨rfl, c1, c2⟩
    · rw [if_pos (nI_lt (by omega) (by omega))]; exact Or.inr rfl
  · rw [if_pos (nI_lt (by omega) (by omega))]; exact Or.inr rfl
/-- one or two figures are read -/
theorem w_numE {σ0 τ0 σ τ : x_S} {n p c k lo hi : Nat} (ht : w_tp σ τ n) (h4 : σ 13 4 = 0) (h5 : σ 13 5 = nI (p + c)) (hp : p + c ≤ n) (g5 : τ 0 13 = nI p) (h2 : σ 13 2 = σ0 13 2) (hj : ∀ j, j ≠ 13 → j ≠ 14 → j ≠ 15 → τ 0 j = τ0 0 j) (hc : c = 1 ∨ c = 2) (hk : k ≤ 99) (hhi : hi ≤ 30) (hlo : lo ≤ 30) : ∃ x σ' r τ', bX4_readNumber_79 (nI lo) (nI hi) (nI c) (nI k) (nI p) σ = some (x, σ') ∧ bX8_readsNumber_113 (nI lo) (nI hi) (nI c) (nI k) τ = some (r, τ') ∧ (∀ c, c ≠ 13 → σ' c = σ c) ∧ (∀ c, c ≠ 0 → τ' c = τ c) ∧ ((r = 1 ∧ ∃ k p', lo ≤ k ∧ k ≤ hi ∧ x = nI k ∧ τ' 0 15 = nI k ∧ p < p' ∧ w_lv σ0 τ0 n p' σ' τ') ∨ (r = 0 ∧ w_ft σ0 τ0 σ' τ')) := by
  have hn := ht.2.2.1
  have e1 : ¬ nI c = 0 := fun z => by have := (nI_eq (a := c) (b := 0) (by omega) (by decide)).mp z; omega
  have e2 : nI c ≤ 2 := (z_leL (a := c) (y := (2 : Int32)) 2 rfl (by omega) (by decide)).mpr (by omega)
  unfold bX4_readNumber_79 bX8_readsNumber_113
  rw [if_neg e1, if_pos e2, z_isWithin, z_p, z_w, z_us, z_in64, z_p]
  rcases w_Wk (k := k) (lo := lo) (hi := hi) (by omega) (by omega) (by omega) with ⟨w, w1, w2⟩ | w
  · rw [w, if_neg z_10, if_neg z_10, z_ui (show 13 ≠ 15 by decide), g5, nI_add, z_w]
    refine ⟨nI k, σ, 1, x_u (x_u τ 0 15 (nI k)) 0 13 (nI (p + c)), rfl, rfl, fun _ _ => rfl, fun c hc => (z_uk hc).trans (z_uk hc), Or.inl ⟨rfl, k, p + c, w1, w2, rfl, ?_, by omega, w_tp_c ht rfl rfl ?_ ((z_uk (by decide)).trans (z_uk (by decide))), hp, h4, h5, z_us _ _ _ _, h2, fun j j1 j2 j3 => ?_⟩⟩
    · rw [z_ui (by decide), z_us]
    · rw [z_ui (by decide), z_ui (by decide)]
    · rw [z_ui j1, z_ui j3]; exact hj j j1 j2 j3
  · obtain ⟨σ1, s1, s2, s3, s4, s5, s6, s7⟩ := w_failAt h4 (nI p) 2
    rw [w, if_pos rfl, if_pos rfl, s1, z_v, w_refuse, z_b]
    refine ⟨nI k, σ1, 0, x_u (x_u τ 0 15 (nI k)) 0 14 2, rfl, rfl, s2, fun c hc => (z_uk hc).trans (z_uk hc), Or.inr ⟨rfl, 2, nI p, by decide, s3, s4, s5, z_us _ _ _ _, ?_, fun j j1 j2 j3 => ?_⟩⟩
    · rw [z_ui (by decide), z_ui (by decide)]; exact g5
    · rw [z_ui j2, z_ui j3]; exact hj j j1 j2 j3
/-- a number -/
theorem w_number {σ0 τ0 σ τ : x_S} {n p lo hi : Nat} (h : w_lv σ0 τ0 n p σ τ) (hhi : hi ≤ 30) (hlo : lo ≤ 30) : ∃ x σ' r τ', fX4_readNumber (nI lo) (nI hi) σ = some (x, σ') ∧ fX8_readsNumber (nI lo) (nI hi) τ = some (r, τ') ∧ (∀ c, c ≠ 13 → σ' c = σ c) ∧ (∀ c, c ≠ 0 → τ' c = τ c) ∧ ((r = 1 ∧ ∃ k p', lo ≤ k ∧ k ≤ hi ∧ x = nI k ∧ τ' 0 15 = nI k ∧ p < p' ∧ w_lv σ0 τ0 n p' σ' τ') ∨ (r = 0 ∧ w_ft σ0 τ0 σ' τ')) := by
  obtain ⟨ht, hp, h4, h5, g5, h2, hj⟩ := h
  have hn := ht.2.2.1
  obtain ⟨F, hF⟩ : ∃ F, x_F = F + 1 + 1 + 1 := ⟨4093, rfl⟩
  have hF2 : 200 < F + 1 := by have : x_F = 4096 := rfl; omega
  have one : ∀ i, (OfNat.ofNat i : Int32) = nI i := fun i => rfl
  have refS : ∀ (x : Int32) (σ1 : x_S), (∀ k, k ≠ 13 → σ1 k = σ k) → (∀ j, j ≠ 5 → σ1 13 j = σ 13 j) → ∃ σ', bX4_readNumber_88 x (nI p) σ1 = some (x, σ') ∧ (∀ c, c ≠ 13 → σ' c = σ c) ∧ w_ft σ0 τ0 σ' (x_u τ 0 14 1) := by
    intro x σ1 q1 q2
    obtain ⟨σ', s1, s2, s3, s4, s5, s6, s7⟩ := w_failAt ((q2 4 (by decide)).trans h4) (nI p) 1
    refine ⟨σ', ?_, fun c hc => (s2 c hc).trans (q1 c hc), 1, nI p, by decide, s3, s4, s5, z_us _ _ _ _, ?_, fun j j1 j2 j3 => ?_⟩
    · unfold bX4_readNumber_88
      rw [s1, z_v]
    · rw [z_ui (by decide)]; exact g5
    · rw [z_ui j2]; exact hj j j1 j2 j3
  have r37 : bX8_readsNumber_37 τ = some (0, x_u τ 0 14 1) := rfl
  unfold fX4_readNumber bX4_readNumber_14 fX8_readsNumber
  rw [h5, g5, show nI p + 1 = nI (p + 1) from nI_add p 1, show nI p + 2 = nI (p + 2) from nI_add p 2, hF]
  rcases w_fig ht (p := p) (by omega) with ⟨f1, f2⟩ | ⟨d0, hd0, hp0, e0, f1, f2⟩
  · -- no figure
    obtain ⟨y, y1, y2⟩ := f2 σ ht.1 rfl h5
    obtain ⟨σ', s1, s2, s3⟩ := refS 0 σ (fun _ _ => rfl) (fun _ _ => rfl)
    refine ⟨0, σ', 0, x_u τ 0 14 1, ?_, by rw [f1, z_p, if_pos rfl, r37], s2, fun c hc => z_uk hc, Or.inr ⟨rfl, s3⟩⟩
    refine Eq.trans ?_ s1
    show gX4_readNumber_14 (nI lo) (nI hi) (nI p) (x_fx _ _ (F + 1 + 1)) (nI 0) 0 (nI 0) σ = _
    rw [w_st0 (by decide) y1 y2]
    unfold bX4_readNumber_79
    rw [if_pos (show (nI 0 : Int32) = 0 from rfl)]
  · rw [f1, z_p, if_neg z_10]
    have y1 := f2 σ ht.1 rfl h5
    have v0 : (0 : Int32) * 10 + nI (48 + d0) - 48 = nI d0 := by
      rw [show (0 : Int32) * 10 + nI (48 + d0) = nI (0 + (48 + d0)) from nI_add 0 (48 + d0), show (48 : Int32) = nI 48 from rfl, pk_sub (by omega)]
      congr 1
      omega
    have t1 : ∀ K : Int32 → Int32 → Int32 → x_S → Option (Int32 × x_S), gX4_readNumber_14 (nI lo) (nI hi) (nI p) K 0 0 0 σ = K (nI 1) (nI d0) (nI 1) (x_u σ 13 5 (nI (p + 1))) := by
      intro K
      refine (w_st1 (c := 0) (by decide) y1 (w_dig1 d0 (by omega)) K (nI lo) (nI hi) (nI p) 0 0).trans ?_
      rw [if_neg (by decide), v0, h5, nI_1]
      rfl
    have T1 : w_tp (x_u σ 13 5 (nI (p + 1))) τ n := w_tp_c ht (z_ui (by decide)) (z_uk (by decide)) rfl rfl
    have a1 : x_u σ 13 5 (nI (p + 1)) 13 1 = nI n := (z_ui (by decide)).trans ht.1
    have b1 : x_u σ 13 5 (nI (p + 1)) 13 5 = nI (p + 1) := z_us _ _ _ _
    have R43 : ∀ (c : Nat) (k : Int32), c = 1 ∨ c = 2 → fX8_isFigure (nI (p + 1)) τ = some (if c = 1 then 0 else 1) → (c = 1 → k = nI d0) → (c = 2 → p + 1 < n ∧ k = ((10 * nI d0) + (τ 6 (p + 1))) - 48) → bX8_readsNumber_43 (nI lo) (nI hi) τ = bX8_readsNumber_113 (nI lo) (nI hi) (nI c) k (x_u τ 0 15 (nI d0)) := by
      intro c k hc hf h1 h2
      have hf2 : fX8_isFigure (nI (p + 1)) (x_u τ 0 15 (nI d0)) = fX8_isFigure (nI (p + 1)) τ := by
        unfold fX8_isFigure fX8_in
        rw [z_ui (show 8 ≠ 15 by decide), z_uk (show 6 ≠ 0 by decide)]
      have w1 : nI (48 + d0) - 48 = nI d0 := by rw [show (48 : Int32) = nI 48 from rfl, pk_sub (by omega)]; congr 1; omega
      unfold bX8_readsNumber_43 bX8_readsNumber_77
      rw [g5, z_gi (n := 120) (by omega) (by decide), z_w, z_cl (show p < 65536 by omega), e0, w1, z_ui (show 13 ≠ 15 by decide), g5, show nI p + 1 = nI (p + 1) from nI_add p 1, hf2, hf, z_p]
      rcases hc with rfl | rfl
      · rw [if_pos rfl, if_pos rfl, if_neg (by decide), z_us, h1 rfl]
        rfl
      · obtain ⟨g1, g2⟩ := h2 rfl
        rw [if_neg (by decide), if_pos rfl, z_gi (n := 120) (by omega) (by decide), z_cl (show p + 1 < 65536 by omega), z_us, z_uk (show 6 ≠ 0 by decide), ← g2]
        rfl
    have fin : ∀ (c : Nat) (k : Nat) (σc : x_S), (c = 1 ∨ c = 2) → k ≤ 99 → p + c ≤ n → (∀ j, j ≠ 13 → σc j = σ j) → (∀ j, j ≠ 5 → σc 13 j = σ 13 j) → σc 13 5 = nI (p + c) → ∃ x σ' r τ', bX4_readNumber_79 (nI lo) (nI hi) (nI c) (nI k) (nI p) σc = some (x, σ') ∧ bX8_readsNumber_113 (nI lo) (nI hi) (nI c) (nI k) (x_u τ 0 15 (nI d0)) = some (r, τ') ∧ (∀ c, c ≠ 13 → σ' c = σ c) ∧ (∀ c, c ≠ 0 → τ' c = τ c) ∧ ((r = 1 ∧ ∃ k p', lo ≤ k ∧ k ≤ hi ∧ x = nI k ∧ τ' 0 15 = nI k ∧ p < p' ∧ w_lv σ0 τ0 n p' σ' τ') ∨ (r = 0 ∧ w_ft σ0 τ0 σ' τ')) := by
      intro c k σc hc hk hpc q1 q2 q5
      obtain ⟨x, σ', r, τ', s1, s2, s3, s4, s5⟩ := w_numE (σ0 := σ0) (τ0 := τ0) (σ := σc) (τ := x_u τ 0 15 (nI d0)) (n := n) (p := p) (c := c) (k := k) (lo := lo) (hi := hi) (w_tp_c ht (q2 1 (by decide)) (q1 14 (by decide)) (z_ui (by decide)) (z_uk (by decide))) ((q2 4 (by decide)).trans h4) q5 hpc ((z_ui (by decide)).trans g5) ((q2 2 (by decide)).trans h2) (fun j j1 j2 j3 => (z_ui j3).trans (hj j j1 j2 j3)) hc hk hhi hlo
      exact ⟨x, σ', r, τ', s1, s2, fun c hc => (s3 c hc).trans (q1 c hc), fun c hc => (s4 c hc).trans (z_uk hc), s5⟩
    rcases w_fig ht (p := p + 1) (by omega) with ⟨f3, f4⟩ | ⟨d1, hd1, hp1, e1, f3, f4⟩
    · -- one figure
      obtain ⟨y, z1, z2⟩ := f4 _ a1 (z_uk (by decide)) b1
      obtain ⟨x, σ', r, τ', s1, s2, s3, s4, s5⟩ := fin 1 d0 _ (Or.inl rfl) (by omega) (by omega) (fun j hj => z_uk hj) (fun j hj => z_ui hj) b1
      refine ⟨x, σ', r, τ', ?_, ?_, s3, s4, s5⟩
      · refine Eq.trans (t1 _) (Eq.trans ?_ s1)
        show gX4_readNumber_14 (nI lo) (nI hi) (nI p) (x_fx _ _ (F + 1)) (nI 1) (nI d0) (nI 1) _ = _
        exact w_st0 (c := 1) (by decide) z1 z2 _ _ _ _ _ _
      · rw [f3, z_p, if_pos rfl, R43 1 (nI d0) (Or.inl rfl) (by rw [f3, if_pos rfl]) (fun _ => rfl) (fun z => absurd z (by decide))]
        exact s2
    · rw [f3, z_p, if_neg z_10]
      have z1 := f4 _ a1 (z_uk (by decide)) b1
      have v1 : nI d0 * 10 + nI (48 + d1) - 48 = nI (d0 * 10 + d1) := by
        rw [show (10 : Int32) = nI 10 from rfl, pk_mul, nI_add, show (48 : Int32) = nI 48 from rfl, pk_sub (by omega)]
        congr 1
        omega
      have v2 : (10 : Int32) * nI d0 + nI (48 + d1) - 48 = nI (d0 * 10 + d1) := by
        rw [show (10 : Int32) = nI 10 from rfl, pk_mul, nI_add, show (48 : Int32) = nI 48 from rfl, pk_sub (by omega)]
        congr 1
        omega
      have t2 : ∀ K : Int32 → Int32 → Int32 → x_S → Option (Int32 × x_S), gX4_readNumber_14 (nI lo) (nI hi) (nI p) K (nI 1) (nI d0) (nI 1) (x_u σ 13 5 (nI (p + 1))) = K (nI 2) (nI (d0 * 10 + d1)) (nI 2) (x_u (x_u σ 13 5 (nI (p + 1))) 13 5 (nI (p + 2))) := by
        intro K
        refine (w_st1 (c := 1) (by decide) z1 (w_dig1 d1 (by omega)) K (nI lo) (nI hi) (nI p) (nI 1) (nI d0)).trans ?_
        rw [if_neg (by decide), v1, b1, nI_1, nI_1]
      have k1 : ∀ j, j ≠ 13 → x_u (x_u σ 13 5 (nI (p + 1))) 13 5 (nI (p + 2)) j = σ j := fun j hj => (z_uk hj).trans (z_uk hj)
      have k2 : ∀ j, j ≠ 5 → x_u (x_u σ 13 5 (nI (p + 1))) 13 5 (nI (p + 2)) 13 j = σ 13 j := fun j hj => (z_ui hj).trans (z_ui hj)
      have b2 : x_u (x_u σ 13 5 (nI (p + 1))) 13 5 (nI (p + 2)) 13 5 = nI (p + 2) := z_us _ _ _ _
      rcases w_fig ht (p := p + 2) (by omega) with ⟨f5, f6⟩ | ⟨d2, hd2, hp2, e2, f5, f6⟩
      · obtain ⟨y, z3, z4⟩ := f6 _ ((k2 1 (by decide)).trans ht.1) (k1 14 (by decide)) b2
        obtain ⟨x, σ', r, τ', s1, s2, s3, s4, s5⟩ := fin 2 (d0 * 10 + d1) _ (Or.inr rfl) (by omega) (by omega) k1 k2 b2
        refine ⟨x, σ', r, τ', ?_, ?_, s3, s4, s5⟩
        · refine Eq.trans (t1 _) (Eq.trans ?_ s1)
          show gX4_readNumber_14 (nI lo) (nI hi) (nI p) (x_fx _ _ (F + 1)) (nI 1) (nI d0) (nI 1) _ = _
          refine Eq.trans (t2 _) ?_
          show gX4_readNumber_14 (nI lo) (nI hi) (nI p) (x_fx _ _ F) (nI 2) (nI (d0 * 10 + d1)) (nI 2) _ = _
          exact w_st0 (c := 2) (by decide) z3 z4 _ _ _ _ _ _
        · rw [f5, z_p, if_pos rfl, R43 2 (nI (d0 * 10 + d1)) (Or.inr rfl) (by rw [f3, if_neg (by decide)]) (fun z => absurd z (by decide)) (fun _ => ⟨hp1, by rw [e1, v2]⟩)]
          exact s2
      · -- three figures or more
        have z3 := f6 _ ((k2 1 (by decide)).trans ht.1) (k1 14 (by decide)) b2
        have t3 : ∀ K : Int32 → Int32 → Int32 → x_S → Option (Int32 × x_S), gX4_readNumber_14 (nI lo) (nI hi) (nI p) K (nI 2) (nI (d0 * 10 + d1)) (nI 2) (x_u (x_u σ 13 5 (nI (p + 1))) 13 5 (nI (p + 2))) = K (nI 3) (nI (d0 * 10 + d1)) (nI 3) (x_u (x_u (x_u σ 13 5 (nI (p + 1))) 13 5 (nI (p + 2))) 13 5 (nI (p + 3))) := by
          intro K
          refine (w_st1 (c := 2) (by decide) z3 (w_dig1 d2 (by omega)) K (nI lo) (nI hi) (nI p) (nI 2) (nI (d0 * 10 + d1))).trans ?_
          rw [if_pos (by decide), b2, nI_1, nI_1]
        obtain ⟨x3', x4', σ1, r1, r2, r3, r4⟩ := w_run (nI lo) (nI hi) (nI p) 117 3 F (nI 3) (nI (d0 * 10 + d1)) (x_u (x_u (x_u σ 13 5 (nI (p + 1))) 13 5 (nI (p + 2))) 13 5 (nI (p + 3))) (by decide) (by omega)
        obtain ⟨k', g1, g2, g3⟩ := r4 3 rfl (by decide) (by decide)
        obtain ⟨σ', s1, s2, s3⟩ := refS x4' σ1 (fun k hk => (r2 k hk).trans ((z_uk hk).trans (k1 k hk))) (fun j hj => (r3 j hj).trans ((z_ui hj).trans (k2 j hj)))
        refine ⟨x4', σ', 0, x_u τ 0 14 1, ?_, ?_, s2, fun c hc => z_uk hc, Or.inr ⟨rfl, s3⟩⟩
        · refine Eq.trans (t1 _) ?_
          show gX4_readNumber_14 (nI lo) (nI hi) (nI p) (x_fx _ _ (F + 1)) (nI 1) (nI d0) (nI 1) _ = _
          refine Eq.trans (t2 _) ?_
          show gX4_readNumber_14 (nI lo) (nI hi) (nI p) (x_fx _ _ F) (nI 2) (nI (d0 * 10 + d1)) (nI 2) _ = _
          refine Eq.trans (t3 _) (Eq.trans r1 ?_)
          refine Eq.trans ?_ s1
          unfold bX4_readNumber_79
          rw [g3, if_neg (fun z => by have := (nI_eq (a := k') (b := 0) (by omega) (by decide)).mp z; omega), if_neg (fun z => by have := (z_leL (a := k') (y := (2 : Int32)) 2 rfl (by omega) (by decide)).mp z; omega)]
        · rw [f5, z_p, if_neg z_10, r37]
end
section
/-! ===== pure: city, behind a fault ===== -/
/-- nothing but the reader's cells has changed -/
def w_fr (σ0 τ0 σ τ : x_S) : Prop := (∀ c, c ≠ 13 → (c < 40 ∨ 48 ≤ c) → σ c = σ0 c) ∧ (∀ c, c ≠ 0 → c ≠ 1 → τ c = τ0 c) ∧ (∀ j, j < 1323 → τ 1 j = τ0 1 j)
def w_D0 (σ0 τ0 τ σ : x_S) : Prop := w_ft σ0 τ0 σ τ ∧ w_fr σ0 τ0 σ τ
def w_D (σ0 τ0 τ : x_S) (a b : Nat) (σ : x_S) : Prop := w_ft σ0 τ0 σ τ ∧ w_fr σ0 τ0 σ τ ∧ σ 40 3 = nI a ∧ σ 40 5 = nI b
theorem w_ft_c {σ0 τ0 σ τ σ' : x_S} (h : w_ft σ0 τ0 σ τ) (h1 : ∀ j, j ≠ 5 → σ' 13 j = σ 13 j) : w_ft σ0 τ0 σ' τ := by
  obtain ⟨e, q, a, b, c, d, f⟩ := h
  exact ⟨e, q, a, (h1 4 (by decide)).trans b, (h1 2 (by decide)).trans c, (h1 3 (by decide)).trans d, f⟩
theorem w_fr_c {σ0 τ0 σ τ σ' : x_S} (h : w_fr σ0 τ0 σ τ) (h1 : ∀ c, c ≠ 13 → (c < 40 ∨ 48 ≤ c) → σ' c = σ c) : w_fr σ0 τ0 σ' τ := ⟨fun c a b => (h1 c a b).trans (h.1 c a b), h.2⟩
theorem w_fr_d {σ0 τ0 σ τ τ' : x_S} (h : w_fr σ0 τ0 σ τ) (h1 : ∀ c, c ≠ 0 → c ≠ 1 → τ' c = τ c) (h2 : ∀ j, j < 1323 → τ' 1 j = τ 1 j) : w_fr σ0 τ0 σ τ' := ⟨h.1, fun c a b => (h1 c a b).trans (h.2.1 c a b), fun j a => (h2 j a).trans (h.2.2 j a)⟩
theorem w_ftn {σ0 τ0 σ τ : x_S} (h : w_ft σ0 τ0 σ τ) : ¬ σ 13 4 = 0 := by
  obtain ⟨e, q, a, b, -⟩ := h
  rw [b]; exact a
theorem w_ov {o : Option x_S} {k : x_S → Option x_S} {P Q : x_S → Prop} (h : ∃ s, o = some s ∧ P s) (hk : ∀ s, P s → ∃ t, k s = some t ∧ Q t) : ∃ t, x_v o k = some t ∧ Q t := by
  obtain ⟨s, rfl, hp⟩ := h
  exact hk s hp
theorem w_ob {o : Option (Int32 × x_S)} {k : Int32 → x_S → Option x_S} {P Q : x_S → Prop} (h : ∃ x s, o = some (x, s) ∧ P s) (hk : ∀ x s, P s → ∃ t, k x s = some t ∧ Q t) : ∃ t, x_b o k = some t ∧ Q t := by
  obtain ⟨x, s, rfl, hp⟩ := h
  exact hk x s hp
theorem w_signT {σ : x_S} (h : ¬ σ 13 4 = 0) (a : Int32) : ∃ σ', fX4_readSign a σ = some σ' ∧ (∀ c, c ≠ 13 → σ' c = σ c) ∧ (∀ j, j ≠ 5 → σ' 13 j = σ 13 j) := by
  obtain ⟨y, hy⟩ := w_nextT σ
  refine ⟨x_u σ 13 5 (σ 13 5 + 1), ?_, fun c hc => z_uk hc, fun j hj => z_ui hj⟩
  unfold fX4_readSign fX4_fail bX4_readSign_13
  rw [hy, z_p, w_failD h]
  by_cases c : y = a
  · rw [if_pos c]; rfl
  · rw [if_neg c]; rfl
theorem w_numT {σ : x_S} (h : ¬ σ 13 4 = 0) (lo hi : Int32) : ∃ x σ', fX4_readNumber lo hi σ = some (x, σ') ∧ (∀ c, c ≠ 13 → σ' c = σ c) ∧ (∀ j, j ≠ 5 → σ' 13 j = σ 13 j) := by
  obtain ⟨x3, x4, σ', r1, r2, r3, -⟩ := w_run lo hi (σ 13 5) 120 0 x_F 0 0 σ (by decide) (z_fuel (by decide))
  have h' : ¬ σ' 13 4 = 0 := by rw [r3 4 (by decide)]; exact h
  have e88 : bX4_readNumber_88 x4 (σ 13 5) σ' = some (x4, σ') := by
    unfold bX4_readNumber_88
    rw [w_failD h']
    rfl
  refine ⟨x4, σ', Eq.trans (show fX4_readNumber lo hi σ = _ from r1) ?_, r2, r3⟩
  unfold bX4_readNumber_79
  by_cases c1 : x3 = 0
  · rw [if_pos c1]; exact e88
  · rw [if_neg c1]
    by_cases c2 : x3 ≤ 2
    · rw [if_pos c2, z_isWithin, z_p, w_failD h']
      by_cases c3 : z_W x4 lo hi = 0
      · rw [if_pos c3]; rfl
      · rw [if_neg c3]
    · rw [if_neg c2]; exact e88
theorem w_D0sign {σ0 τ0 τ σ : x_S} (h : w_D0 σ0 τ0 τ σ) (a : Int32) : ∃ σ', fX4_readSign a σ = some σ' ∧ w_D0 σ0 τ0 τ σ' := by
  obtain ⟨σ', s1, s2, s3⟩ := w_signT (w_ftn h.1) a
  exact ⟨σ', s1, w_ft_c h.1 s3, w_fr_c h.2 (fun c hc _ => s2 c hc)⟩
theorem w_D0num {σ0 τ0 τ σ : x_S} (h : w_D0 σ0 τ0 τ σ) (lo hi : Int32) : ∃ x σ', fX4_readNumber lo hi σ = some (x, σ') ∧ w_D0 σ0 τ0 τ σ' := by
  obtain ⟨x, σ', s1, s2, s3⟩ := w_numT (w_ftn h.1) lo hi
  exact ⟨x, σ', s1, w_ft_c h.1 s3, w_fr_c h.2 (fun c hc _ => s2 c hc)⟩
theorem w_Dsign {σ0 τ0 τ σ : x_S} {a b : Nat} (h : w_D σ0 τ0 τ a b σ) (k : Int32) : ∃ σ', fX4_readSign k σ = some σ' ∧ w_D σ0 τ0 τ a b σ' := by
  obtain ⟨σ', s1, s2, s3⟩ := w_signT (w_ftn h.1) k
  exact ⟨σ', s1, w_ft_c h.1 s3, w_fr_c h.2.1 (fun c hc _ => s2 c hc), by rw [s2 40 (by decide)]; exact h.2.2.1, by rw [s2 40 (by decide)]; exact h.2.2.2⟩
theorem w_Dnum {σ0 τ0 τ σ : x_S} {a b : Nat} (h : w_D σ0 τ0 τ a b σ) (lo hi : Int32) : ∃ x σ', fX4_readNumber lo hi σ = some (x, σ') ∧ w_D σ0 τ0 τ a b σ' := by
  obtain ⟨x, σ', s1, s2, s3⟩ := w_numT (w_ftn h.1) lo hi
  exact ⟨x, σ', s1, w_ft_c h.1 s3, w_fr_c h.2.1 (fun c hc _ => s2 c hc), by rw [s2 40 (by decide)]; exact h.2.2.1, by rw [s2 40 (by decide)]; exact h.2.2.2⟩
theorem w_Dw {σ0 τ0 τ σ : x_S} {a b : Nat} (h : w_D σ0 τ0 τ a b σ) {c : Nat} (hc : 41 ≤ c ∧ c ≤ 47) (i : Nat) (x : Int32) : w_D σ0 τ0 τ a b (x_u σ c i x) := by
  refine ⟨w_ft_c h.1 (fun j _ => by rw [z_uk (by omega)]), w_fr_c h.2.1 (fun k _ hk => z_uk (by omega)), ?_, ?_⟩
  · rw [z_uk (by omega)]; exact h.2.2.1
  · rw [z_uk (by omega)]; exact h.2.2.2
/-- a street's end, a gesture's end -/
theorem w_Dst {σ0 τ0 τ σ : x_S} {a b : Nat} (h : w_D σ0 τ0 τ a b σ) : w_D σ0 τ0 τ (a + 1) b (x_u σ 40 3 (σ 40 3 + 1)) := by
  refine ⟨w_ft_c h.1 (fun j _ => by rw [z_uk (by decide)]), w_fr_c h.2.1 (fun k _ hk => z_uk (by omega)), ?_, ?_⟩
  · rw [z_us, h.2.2.1, nI_1]
  · rw [z_ui (by decide)]; exact h.2.2.2
theorem w_Dge {σ0 τ0 τ σ : x_S} {a b : Nat} (h : w_D σ0 τ0 τ a b σ) : w_D σ0 τ0 τ a (b + 1) (x_u σ 40 5 (σ 40 5 + 1)) := by
  refine ⟨w_ft_c h.1 (fun j _ => by rw [z_uk (by decide)]), w_fr_c h.2.1 (fun k _ hk => z_uk (by omega)), ?_, ?_⟩
  · rw [z_ui (by decide)]; exact h.2.2.1
  · rw [z_us, h.2.2.2, nI_1]
theorem w_begin (a : Int32) (σ : x_S) : ∃ σ', fX2_begin 40 a σ = some σ' ∧ (∀ c, c ≠ 40 → σ' c = σ c) ∧ σ' 40 0 = 1 ∧ σ' 40 1 = a ∧ σ' 40 2 = 0 ∧ σ' 40 3 = 0 ∧ σ' 40 4 = 0 ∧ σ' 40 5 = 0 := by
  refine ⟨_, rfl, fun c hc => ?_, ?_, ?_, ?_, ?_, ?_, ?_⟩
  · rw [z_uk hc, z_uk hc, z_uk hc, z_uk hc, z_uk hc, z_uk hc]
  · rw [z_ui (by decide), z_ui (by decide), z_ui (by decide), z_ui (by decide), z_ui (by decide), z_us]
  · rw [z_ui (by decide), z_ui (by decide), z_ui (by decide), z_ui (by decide), z_us]
  · rw [z_ui (by decide), z_ui (by decide), z_ui (by decide), z_us]
  · rw [z_ui (by decide), z_ui (by decide), z_us]
  · rw [z_ui (by decide), z_us]
  · rw [z_us]
end
section
/-! ===== pure: city, the law ===== -/
/-- no fault yet, the draft is w -/
def w_L (σ0 τ0 : x_S) (n p : Nat) (w : z_V) (σ τ : x_S) : Prop := w_lv σ0 τ0 n p σ τ ∧ w_fr σ0 τ0 σ τ ∧ z_S σ 40 w ∧ z_M τ 1323 w ∧ σ 40 0 = 1 ∧ z_ok w ∧ ∀ g, g < 6 → τ 1 (1366 + g) = 0
theorem w_lv_c {σ0 τ0 σ τ σ' τ' : x_S} {n p : Nat} (h : w_lv σ0 τ0 n p σ τ) (h1 : σ' 13 = σ 13) (h2 : σ' 14 = σ 14) (h3 : τ' 0 = τ 0) (h4 : τ' 6 = τ 6) : w_lv σ0 τ0 n p σ' τ' := by
  obtain ⟨a, b, c, d, e, f, g⟩ := h
  exact ⟨w_tp_c a (by rw [h1]) h2 (by rw [h3]) h4, b, by rw [h1]; exact c, by rw [h1]; exact d, by rw [h3]; exact e, by rw [h1]; exact f, fun j j1 j2 j3 => by rw [h3]; exact g j j1 j2 j3⟩
theorem z_uu (σ : x_S) (k i : Nat) (v : Int32) : x_u σ k i v k = upd (σ k) i v := by rw [z_u, if_pos rfl]
theorem z_c1323 : (1323 : Int32).toNatClampNeg = 1323 := rfl
theorem z_c1324 : (1324 : Int32).toNatClampNeg = 1324 := rfl
theorem z_c1325 : (1325 : Int32).toNatClampNeg = 1325 := rfl
theorem w_law {σ0 τ0 σ τ : x_S} {n : Nat} (h : w_lv σ0 τ0 n 0 σ τ) (hf : w_fr σ0 τ0 σ τ) (h0 : ∀ k, k < 49 → τ 1 (1323 + k) = 0) : ∃ σ' r τ', fX4_readLaw 40 σ = some σ' ∧ fX8_readsLaw τ = some (r, τ') ∧ ((r = 1 ∧ ∃ p w, w 1 = 0 ∧ w 2 = 0 ∧ w_L σ0 τ0 n p w σ' τ') ∨ (r = 0 ∧ w_D σ0 τ0 τ' 0 0 σ')) := by
  unfold fX4_readLaw fX8_readsLaw
  obtain ⟨σ1, r1, τ1, s1, t1, c1, d1, hh1⟩ := w_sign h (a := 100) (by decide)
  have f1 : w_fr σ0 τ0 σ1 τ1 := w_fr_d (w_fr_c hf (fun c hc _ => c1 c hc)) (fun c hc _ => d1 c hc) (fun j _ => by rw [d1 1 (by decide)])
  rw [t1, z_b]
  have deadB : ∀ τ9 x σ9, w_D0 σ0 τ0 τ9 σ9 → ∃ t, x_v (fX2_begin 40 x σ9) (fun σ7 => x_v (fX4_readSign 59 σ7) (fun σ9 => some σ9)) = some t ∧ w_D σ0 τ0 τ9 0 0 t := by
    intro τ9 x σ9 h9
    obtain ⟨σ', b1, b2, b3, b4, b5, b6, b7, b8⟩ := w_begin x σ9
    have : w_D σ0 τ0 τ9 0 0 σ' := ⟨w_ft_c h9.1 (fun j _ => by rw [b2 13 (by decide)]), w_fr_c h9.2 (fun c _ hc => b2 c (by omega)), b6, b8⟩
    rw [b1, z_v]
    refine w_ov (w_Dsign this 59) (fun s hs => ⟨s, rfl, hs⟩)
  rcases hh1 with ⟨rfl, hp1, l1⟩ | ⟨rfl, l1⟩
  · obtain ⟨x, σ2, r2, τ2, s2, t2, c2, d2, hh2⟩ := w_number l1 (lo := 1) (hi := 9) (by decide) (by decide)
    have s2 : fX4_readNumber 1 9 σ1 = some (x, σ2) := s2
    have t2 : fX8_readsNumber 1 9 τ1 = some (r2, τ2) := t2
    have f2 : w_fr σ0 τ0 σ2 τ2 := w_fr_d (w_fr_c f1 (fun c hc _ => c2 c hc)) (fun c hc _ => d2 c hc) (fun j _ => by rw [d2 1 (by decide)])
    rw [s1, z_v, s2, z_b, if_neg z_10, t2, z_b]
    rcases hh2 with ⟨rfl, k, p2, k1, k9, rfl, e15, hp2, l2⟩ | ⟨rfl, l2⟩
    · obtain ⟨σ3, b1, b2, b3, b4, b5, b6, b7, b8⟩ := w_begin (nI k) σ2
      rw [b1, z_v, if_neg z_10, z_g (show x_in (1323 : Int32) 1372 by decide), z_w, z_c1323, e15]
      have l3 : w_lv σ0 τ0 n p2 σ3 (x_u τ2 1 1323 (nI k)) := w_lv_c l2 (b2 13 (by decide)) (b2 14 (by decide)) (z_uk (by decide)) (z_uk (by decide))
      have f3 : w_fr σ0 τ0 σ3 (x_u τ2 1 1323 (nI k)) := w_fr_d (w_fr_c f2 (fun c _ hc => b2 c (by omega))) (fun c _ hc => z_uk hc) (fun j hj => z_ui (by omega))
      obtain ⟨σ4, r4, τ4, s4, t4, c4, d4, hh4⟩ := w_sign l3 (a := 59) (by decide)
      have f4 : w_fr σ0 τ0 σ4 τ4 := w_fr_d (w_fr_c f3 (fun c hc _ => c4 c hc)) (fun c hc _ => d4 c hc) (fun j _ => by rw [d4 1 (by decide)])
      rw [s4, z_v, t4, z_b]
      have e40 := c4 40 (by decide)
      have e1 : ∀ j, τ4 1 j = if j = 1323 then nI k else τ 1 j := by
        intro j
        rw [d4 1 (by decide), z_uu, z_upd, d2 1 (by decide), d1 1 (by decide)]
      rcases hh4 with ⟨rfl, hp4, l4⟩ | ⟨rfl, l4⟩
      · refine ⟨σ4, 1, τ4, rfl, z_g (by decide) _, Or.inl ⟨rfl, p2 + 1, fun i => if i = 0 then k else 0, rfl, rfl, l4, f4, ⟨?_, ?_, ?_, ?_, ?_, fun s hs => absurd hs (Nat.not_lt_zero _), fun g hg => absurd hg (Nat.not_lt_zero _)⟩, ⟨?_, ?_, ?_, ?_, ?_, fun s hs => absurd hs (Nat.not_lt_zero _), fun g hg => absurd hg (Nat.not_lt_zero _)⟩, ?_, ⟨k9, Nat.zero_le _, Nat.zero_le _, Nat.zero_le _, (show (0 : Nat) < 128 by decide), fun s hs => absurd hs (Nat.not_lt_zero _), fun g hg => absurd hg (Nat.not_lt_zero _)⟩, fun g hg => ?_⟩⟩
        · rw [e40]; exact b4
        · rw [e40]; exact b6
        · rw [e40]; exact b8
        · rw [e40]; exact b5
        · rw [e40]; exact b7
        · rw [e1, if_pos rfl]; rfl
        · rw [e1, if_neg (by decide)]; exact h0 1 (by decide)
        · rw [e1, if_neg (by decide)]; exact h0 2 (by decide)
        · rw [e1, if_neg (by decide)]; exact h0 3 (by decide)
        · rw [e1, if_neg (by decide)]; exact h0 4 (by decide)
        · rw [e40]; exact b3
        · rw [e1, if_neg (by omega)]
          have := h0 (43 + g) (by omega)
          rwa [show 1323 + (43 + g) = 1366 + g by omega] at this
      · exact ⟨σ4, 0, τ4, rfl, z_g (by decide) _, Or.inr ⟨rfl, l4, f4, by rw [e40]; exact b6, by rw [e40]; exact b8⟩⟩
    · rw [if_pos rfl]
      obtain ⟨σ3, g1, g2⟩ := deadB τ2 x σ2 ⟨l2, f2⟩
      exact ⟨σ3, 0, τ2, g1, rfl, Or.inr ⟨rfl, g2⟩⟩
  · rw [s1, z_v, if_pos rfl]
    obtain ⟨σ3, g1, g2⟩ := w_ob (w_D0num (show w_D0 σ0 τ0 τ1 σ1 from ⟨l1, f1⟩) 1 9) (fun x s hs => deadB τ1 x s hs)
    exact ⟨σ3, 0, τ1, g1, rfl, Or.inr ⟨rfl, g2⟩⟩
end
section
/-! ===== pure: city, a street ===== -/
def w_sD (s : x_S) : Option x_S := x_w (x_u s 40 3 ((s 40 3) + 1)) (fun t => some t)
def w_sC (i : Nat) (x : Int32) (s : x_S) : Option x_S := x_g (x_in (nI i) 7) (x_w (x_u s 42 (nI i).toNatClampNeg x) (fun t => x_v (fX4_readSign 59 t) w_sD))
def w_sB (i : Nat) (s : x_S) : Option x_S := x_b (fX4_readNumber 0 9 s) (w_sC i)
def w_sA (i : Nat) (x : Int32) (s : x_S) : Option x_S := x_g (x_in (nI i) 7) (x_w (x_u s 41 (nI i).toNatClampNeg x) (fun t => x_v (fX4_readSign 44 t) (w_sB i)))
theorem w_street0 {σ : x_S} {i : Nat} (h : σ 40 3 = nI i) (hi : i < 7) : fX4_readStreet 40 σ = x_v (fX4_readSign 114 σ) (fun s => x_b (fX4_readNumber 0 30 s) (w_sA i)) := by
  unfold fX4_readStreet
  rw [h, if_pos ((z_ltL (y := (7 : Int32)) 7 rfl (by omega) (by decide)).mpr hi)]
  rfl
def w_mB (N : Int32) (s : x_S) : Option (Int32 × x_S) := x_g (x_in ((1335 : Int32) + N) 1372) (x_w (x_u s 1 ((1335 : Int32) + N).toNatClampNeg (s 0 15)) (fun t => x_g (x_in (1324 : Int32) 1372) (x_w (x_u t 1 (1324 : Int32).toNatClampNeg ((t 1 (1324 : Int32).toNatClampNeg) + 1)) (fun u => x_b (fX8_sign 59 u) (fun r v => x_g (r &&& 1 = r) (some (r, v)))))))
def w_mA (N : Int32) (s : x_S) : Option (Int32 × x_S) := x_g (x_in ((1328 : Int32) + N) 1372) (x_w (x_u s 1 ((1328 : Int32) + N).toNatClampNeg (s 0 15)) (fun t => x_b (fX8_sign 44 t) (fun r u => if r = 0 then some (0, u) else x_b (fX8_readsNumber 0 9 u) (fun r v => if r = 0 then some (0, v) else w_mB N v))))
def w_ms (N : Int32) (τ : x_S) : Option (Int32 × x_S) := if N = 7 then (x_b (fX8_refuse 3 τ) (fun r v => x_g (r &&& 1 = r) (some (r, v)))) else x_b (fX8_readsNumber 0 30 (x_u τ 0 13 (τ 0 13 + 1))) (fun r s => if r = 0 then some (0, s) else w_mA N s)
theorem w_ms0 (τ : x_S) : fX8_readsStreet τ = w_ms (τ 1 1324) τ := rfl
theorem w_mstreet0 {τ : x_S} {i : Nat} (h : τ 1 1324 = nI i) (hi : i < 7) : fX8_readsStreet τ = x_b (fX8_readsNumber 0 30 (x_u τ 0 13 (τ 0 13 + 1))) (fun r s => if r = 0 then some (0, s) else w_mA (nI i) s) := by
  have e : ¬ nI i = (7 : Int32) := fun z => by have := (nI_eq (a := i) (b := 7) (by omega) (by decide)).mp z; omega
  rw [w_ms0, h]
  exact if_neg e
theorem w_sT {σ0 τ0 τ : x_S} {a b i : Nat} (hi : i < 7) : (∀ s, w_D σ0 τ0 τ a b s → ∃ t, w_sD s = some t ∧ w_D σ0 τ0 τ (a + 1) b t) ∧ (∀ x s, w_D σ0 τ0 τ a b s → ∃ t, w_sC i x s = some t ∧ w_D σ0 τ0 τ (a + 1) b t) ∧ (∀ s, w_D σ0 τ0 τ a b s → ∃ t, w_sB i s = some t ∧ w_D σ0 τ0 τ (a + 1) b t) ∧ (∀ x s, w_D σ0 τ0 τ a b s → ∃ t, w_sA i x s = some t ∧ w_D σ0 τ0 τ (a + 1) b t) := by
  have hD : ∀ s, w_D σ0 τ0 τ a b s → ∃ t, w_sD s = some t ∧ w_D σ0 τ0 τ (a + 1) b t := fun s hs => ⟨_, rfl, w_Dst hs⟩
  have hC : ∀ x s, w_D σ0 τ0 τ a b s → ∃ t, w_sC i x s = some t ∧ w_D σ0 τ0 τ (a + 1) b t := by
    intro x s hs
    unfold w_sC
    rw [z_gi hi (by decide), z_w]
    exact w_ov (w_Dsign (w_Dw hs (by decide) _ x) 59) hD
  have hB : ∀ s, w_D σ0 τ0 τ a b s → ∃ t, w_sB i s = some t ∧ w_D σ0 τ0 τ (a + 1) b t := fun s hs => w_ob (w_Dnum hs 0 9) hC
  refine ⟨hD, hC, hB, ?_⟩
  intro x s hs
  unfold w_sA
  rw [z_gi hi (by decide), z_w]
  exact w_ov (w_Dsign (w_Dw hs (by decide) _ x) 44) hB
/-- a sign that stands there -/
theorem w_skip {σ0 τ0 σ τ : x_S} {n p : Nat} (h : w_lv σ0 τ0 n p σ τ) (hp : p < n) {a : Int32} (ha : ¬ (-1 : Int32) = a) (he : τ 6 p = a) : ∃ σ', fX4_readSign a σ = some σ' ∧ (∀ c, c ≠ 13 → σ' c = σ c) ∧ w_lv σ0 τ0 n (p + 1) σ' (x_u τ 0 13 (τ 0 13 + 1)) := by
  have hn := h.1.2.2.1
  obtain ⟨σ', r, τ', s1, s2, s3, s4, s5⟩ := w_sign h ha
  have e : fX8_sign a τ = some (1, x_u τ 0 13 (τ 0 13 + 1)) := by
    unfold fX8_sign fX8_isLetter
    rw [h.1.2.1, h.2.2.2.2.1, if_neg (nI_ge hp (by omega)), z_gi (n := 120) (by omega) (by decide), z_cl (by omega), if_pos he, z_p, if_neg z_10, z_w]
  rw [e] at s2
  obtain ⟨rfl, rfl⟩ : (1 : Int32) = r ∧ x_u τ 0 13 (τ 0 13 + 1) = τ' := by cases s2; exact ⟨rfl, rfl⟩
  rcases s5 with ⟨-, -, l⟩ | ⟨z, -⟩
  · exact ⟨σ', s1, s3, l⟩
  · exact absurd z z_10
theorem w_street {σ0 τ0 σ τ : x_S} {n p : Nat} {w : z_V} (h : w_L σ0 τ0 n p w σ τ) (hp : p < n) (he : τ 6 p = 114) : ∃ σ' r τ', fX4_readStreet 40 σ = some σ' ∧ fX8_readsStreet τ = some (r, τ') ∧ ((r = 1 ∧ w 1 < 7 ∧ ∃ p' w', w' 1 = w 1 + 1 ∧ w' 2 = w 2 ∧ w_L σ0 τ0 n p' w' σ' τ') ∨ (r = 0 ∧ ∃ a b, w_D σ0 τ0 τ' a b σ' ∧ a ≤ 7 ∧ b ≤ 6)) := by
  obtain ⟨hl, hf, hS, hM, h400, hok, hz⟩ := h
  have h7 := hok.2.1
  have h6 := hok.2.2.1
  have e3 : σ 40 3 = nI (w 1) := hS.2.1
  have e5 : σ 40 5 = nI (w 2) := hS.2.2.1
  have m1 : τ 1 1324 = nI (w 1) := hM.2.1
  by_cases c7 : w 1 < 7
  · obtain ⟨σ1, s1, c1, l1⟩ := w_skip hl hp (by decide) he
    obtain ⟨x, σ2, r2, τ2, s2, t2, c2, d2, hh2⟩ := w_number l1 (lo := 0) (hi := 30) (by decide) (by decide)
    have s2 : fX4_readNumber 0 30 σ1 = some (x, σ2) := s2
    have t2 : fX8_readsNumber 0 30 (x_u τ 0 13 (τ 0 13 + 1)) = some (r2, τ2) := t2
    have g2 : ∀ c, c ≠ 13 → σ2 c = σ c := fun c hc => (c2 c hc).trans (c1 c hc)
    have k2 : ∀ c, c ≠ 0 → τ2 c = τ c := fun c hc => (d2 c hc).trans (z_uk hc)
    have f2 : w_fr σ0 τ0 σ2 τ2 := w_fr_d (w_fr_c hf (fun c hc _ => g2 c hc)) (fun c hc _ => k2 c hc) (fun j _ => by rw [k2 1 (by decide)])
    have D2 : ∀ {s t : x_S}, w_ft σ0 τ0 s t → w_fr σ0 τ0 s t → (s 40 = σ 40) → w_D σ0 τ0 t (w 1) (w 2) s := fun a b c => ⟨a, b, by rw [c]; exact e3, by rw [c]; exact e5⟩
    rw [w_street0 e3 c7, w_mstreet0 m1 c7, s1, z_v, s2, z_b, t2, z_b]
    rcases hh2 with ⟨rfl, k, p2, -, kk, rfl, e15, -, l2⟩ | ⟨rfl, l2⟩
    · rw [if_neg z_10]
      unfold w_sA w_mA
      rw [show (1328 : Int32) + nI (w 1) = nI (1328 + w 1) from nI_add 1328 (w 1), z_gi (n := 7) c7 (by decide), z_gi (n := 1372) (by omega) (by decide), z_w, z_w, z_cl (show w 1 < 65536 by omega), z_cl (show 1328 + w 1 < 65536 by omega), e15]
      have l2' : w_lv σ0 τ0 n p2 (x_u σ2 41 (w 1) (nI k)) (x_u τ2 1 (1328 + w 1) (nI k)) := w_lv_c l2 (z_uk (by decide)) (z_uk (by decide)) (z_uk (by decide)) (z_uk (by decide))
      have f2' : w_fr σ0 τ0 (x_u σ2 41 (w 1) (nI k)) (x_u τ2 1 (1328 + w 1) (nI k)) := w_fr_d (w_fr_c f2 (fun c _ hc => z_uk (by omega))) (fun c _ hc => z_uk hc) (fun j hj => z_ui (by omega))
      obtain ⟨σ3, r3, τ3, s3, t3, c3, d3, hh3⟩ := w_sign l2' (a := 44) (by decide)
      have f3 : w_fr σ0 τ0 σ3 τ3 := w_fr_d (w_fr_c f2' (fun c hc _ => c3 c hc)) (fun c hc _ => d3 c hc) (fun j _ => by rw [d3 1 (by decide)])
      have q3 : σ3 40 = σ 40 := by rw [c3 40 (by decide), z_uk (by decide), g2 40 (by decide)]
      rw [s3, z_v, t3, z_b]
      rcases hh3 with ⟨rfl, hp3, l3⟩ | ⟨rfl, l3⟩
      · rw [if_neg z_10]
        unfold w_sB
        obtain ⟨y, σ4, r4, τ4, s4, t4, c4, d4, hh4⟩ := w_number l3 (lo := 0) (hi := 9) (by decide) (by decide)
        have s4 : fX4_readNumber 0 9 σ3 = some (y, σ4) := s4
        have t4 : fX8_readsNumber 0 9 τ3 = some (r4, τ4) := t4
        have f4 : w_fr σ0 τ0 σ4 τ4 := w_fr_d (w_fr_c f3 (fun c hc _ => c4 c hc)) (fun c hc _ => d4 c hc) (fun j _ => by rw [d4 1 (by decide)])
        have q4 : σ4 40 = σ 40 := (c4 40 (by decide)).trans q3
        rw [s4, z_b, t4, z_b]
        rcases hh4 with ⟨rfl, k', p4, -, kk', rfl, e15', -, l4⟩ | ⟨rfl, l4⟩
        · rw [if_neg z_10]
          unfold w_sC w_mB
          have v1 : ∀ j, x_u τ4 1 (1335 + w 1) (nI k') 1 j = if j = 1335 + w 1 then nI k' else if j = 1328 + w 1 then nI k else τ 1 j := by
            intro j
            rw [z_uu, z_upd, d4 1 (by decide), d3 1 (by decide), z_uu, z_upd, k2 1 (by decide)]
          rw [show (1335 : Int32) + nI (w 1) = nI (1335 + w 1) from nI_add 1335 (w 1), z_gi (n := 7) c7 (by decide), z_gi (n := 1372) (by omega) (by decide), z_w, z_w, z_cl (show w 1 < 65536 by omega), z_cl (show 1335 + w 1 < 65536 by omega), e15', z_g (show x_in (1324 : Int32) 1372 by decide), z_w, z_c1324, v1 1324, if_neg (by omega), if_neg (by omega), m1, nI_1]
          have l4' : w_lv σ0 τ0 n p4 (x_u σ4 42 (w 1) (nI k')) (x_u (x_u τ4 1 (1335 + w 1) (nI k')) 1 1324 (nI (w 1 + 1))) := w_lv_c l4 (z_uk (by decide)) (z_uk (by decide)) ((z_uk (by decide)).trans (z_uk (by decide))) ((z_uk (by decide)).trans (z_uk (by decide)))
          have f4' : w_fr σ0 τ0 (x_u σ4 42 (w 1) (nI k')) (x_u (x_u τ4 1 (1335 + w 1) (nI k')) 1 1324 (nI (w 1 + 1))) := w_fr_d (w_fr_c f4 (fun c _ hc => z_uk (by omega))) (fun c _ hc => (z_uk hc).trans (z_uk hc)) (fun j hj => (z_ui (by omega)).trans (z_ui (by omega)))
          obtain ⟨σ5, r5, τ5, s5, t5, c5, d5, hh5⟩ := w_sign l4' (a := 59) (by decide)
          have f5 : w_fr σ0 τ0 σ5 τ5 := w_fr_d (w_fr_c f4' (fun c hc _ => c5 c hc)) (fun c hc _ => d5 c hc) (fun j _ => by rw [d5 1 (by decide)])
          have q5 : σ5 40 = σ 40 := by rw [c5 40 (by decide), z_uk (by decide), q4]
          rw [s5, z_v, t5, z_b]
          rcases hh5 with ⟨rfl, hp5, l5⟩ | ⟨rfl, l5⟩
          · unfold w_sD
            have n40 : ∀ j, x_u σ5 40 3 (nI (w 1 + 1)) 40 j = if j = 3 then nI (w 1 + 1) else σ 40 j := by
              intro j
              rw [z_uu, z_upd, q5]
            have n41 : ∀ j, x_u σ5 40 3 (nI (w 1 + 1)) 41 j = if j = w 1 then nI k else σ 41 j := by
              intro j
              rw [z_uk (by decide), c5 41 (by decide), z_uk (by decide), c4 41 (by decide), c3 41 (by decide), z_uu, z_upd, g2 41 (by decide)]
            have n42 : ∀ j, x_u σ5 40 3 (nI (w 1 + 1)) 42 j = if j = w 1 then nI k' else σ 42 j := by
              intro j
              rw [z_uk (by decide), c5 42 (by decide), z_uu, z_upd, c4 42 (by decide), c3 42 (by decide), z_uk (by decide), g2 42 (by decide)]
            have nS : ∀ c, 43 ≤ c → c ≤ 47 → x_u σ5 40 3 (nI (w 1 + 1)) c = σ c := by
              intro c hc1 hc2
              rw [z_uk (by omega), c5 c (by omega), z_uk (by omega), c4 c (by omega), c3 c (by omega), z_uk (by omega), g2 c (by omega)]
            have n1 : ∀ j, τ5 1 j = if j = 1324 then nI (w 1 + 1) else if j = 1335 + w 1 then nI k' else if j = 1328 + w 1 then nI k else τ 1 j := by
              intro j
              rw [d5 1 (by decide), z_uu, z_upd, v1]
            have eo : ∀ j, j ≠ 1 → j ≠ 5 + w 1 → j ≠ 12 + w 1 → (fun j => if j = 1 then w 1 + 1 else if j = 5 + w 1 then k else if j = 12 + w 1 then k' else w j) j = w j := fun j j1 j2 j3 => by
              show (if j = 1 then w 1 + 1 else if j = 5 + w 1 then k else if j = 12 + w 1 then k' else w j) = w j
              rw [if_neg j1, if_neg j2, if_neg j3]
            have ea : (fun j => if j = 1 then w 1 + 1 else if j = 5 + w 1 then k else if j = 12 + w 1 then k' else w j) (5 + w 1) = k := by
              show (if 5 + w 1 = 1 then w 1 + 1 else if 5 + w 1 = 5 + w 1 then k else if 5 + w 1 = 12 + w 1 then k' else w (5 + w 1)) = k
              rw [if_neg (by omega), if_pos rfl]
            have eb : (fun j => if j = 1 then w 1 + 1 else if j = 5 + w 1 then k else if j = 12 + w 1 then k' else w j) (12 + w 1) = k' := by
              show (if 12 + w 1 = 1 then w 1 + 1 else if 12 + w 1 = 5 + w 1 then k else if 12 + w 1 = 12 + w 1 then k' else w (12 + w 1)) = k'
              rw [if_neg (by omega), if_neg (by omega), if_pos rfl]
            have e1 : (fun j => if j = 1 then w 1 + 1 else if j = 5 + w 1 then k else if j = 12 + w 1 then k' else w j) 1 = w 1 + 1 := rfl
            generalize (fun j => if j = 1 then w 1 + 1 else if j = 5 + w 1 then k else if j = 12 + w 1 then k' else w j) = w' at eo ea eb e1
            rw [z_w, show σ5 40 3 + 1 = nI (w 1 + 1) by rw [q5, e3, nI_1]]
            refine ⟨_, 1, τ5, rfl, z_g (by decide) _, Or.inl ⟨rfl, c7, p4 + 1, w', e1, eo 2 (by decide) (by omega) (by omega), ?_⟩⟩
            have hv3 : w' 2 = w 2 := eo 2 (by decide) (by omega) (by omega)
            refine ⟨w_lv_c l5 (z_uk (by decide)) (z_uk (by decide)) rfl rfl, w_fr_c f5 (fun c _ hc => z_uk (by omega)), ⟨?_, ?_, ?_, ?_, ?_, fun s hs => ⟨?_, ?_⟩, fun g hg => ?_⟩, ⟨?_, ?_, ?_, ?_, ?_, fun s hs => ⟨?_, ?_⟩, fun g hg => ?_⟩, ?_, ⟨?_, by omega, by omega, ?_, ?_, fun s hs => ?_, fun g hg => ?_⟩, fun g hg => ?_⟩
            · rw [n40, if_neg (by decide), eo 0 (by decide) (by omega) (by omega)]; exact hS.1
            · rw [n40, if_pos rfl, e1]
            · rw [n40, if_neg (by decide), hv3]; exact e5
            · rw [n40, if_neg (by decide), eo 3 (by decide) (by omega) (by omega)]; exact hS.2.2.2.1
            · rw [n40, if_neg (by decide), eo 4 (by decide) (by omega) (by omega)]; exact hS.2.2.2.2.1
            · show x_u σ5 40 3 (nI (w 1 + 1)) 41 s = _
              rw [n41]
              by_cases q : s = w 1
              · rw [if_pos q, q, ea]
              · rw [if_neg q, eo (5 + s) (by omega) (by omega) (by omega)]; exact (hS.2.2.2.2.2.1 s (by omega)).1
            · show x_u σ5 40 3 (nI (w 1 + 1)) 42 s = _
              rw [n42]
              by_cases q : s = w 1
              · rw [if_pos q, q, eb]
              · rw [if_neg q, eo (12 + s) (by omega) (by omega) (by omega)]; exact (hS.2.2.2.2.2.1 s (by omega)).2
            · rw [hv3] at hg
              obtain ⟨u1, u2, u3, u4, u5⟩ := hS.2.2.2.2.2.2 g hg
              rw [nS 43 (by decide) (by decide), nS 44 (by decide) (by decide), nS 45 (by decide) (by decide), nS 46 (by decide) (by decide), nS 47 (by decide) (by decide), eo (19 + g) (by omega) (by omega) (by omega), eo (25 + g) (by omega) (by omega) (by omega), eo (31 + g) (by omega) (by omega) (by omega), eo (37 + g) (by omega) (by omega) (by omega), eo (43 + g) (by omega) (by omega) (by omega)]
              exact ⟨u1, u2, u3, u4, u5⟩
            · rw [n1, if_neg (by decide), if_neg (by omega), if_neg (by omega), eo 0 (by decide) (by omega) (by omega)]; exact hM.1
            · rw [n1, if_pos rfl, e1]
            · rw [n1, if_neg (by decide), if_neg (by omega), if_neg (by omega), hv3]; exact hM.2.2.1
            · rw [n1, if_neg (by decide), if_neg (by omega), if_neg (by omega), eo 3 (by decide) (by omega) (by omega)]; exact hM.2.2.2.1
            · rw [n1, if_neg (by decide), if_neg (by omega), if_neg (by omega), eo 4 (by decide) (by omega) (by omega)]; exact hM.2.2.2.2.1
            · rw [n1, if_neg (by omega), if_neg (by omega)]
              by_cases q : s = w 1
              · rw [if_pos (by omega), q, ea]
              · rw [if_neg (by omega), eo (5 + s) (by omega) (by omega) (by omega)]; exact (hM.2.2.2.2.2.1 s (by omega)).1
            · rw [n1, if_neg (by omega)]
              by_cases q : s = w 1
              · rw [if_pos (by omega), q, eb]
              · rw [if_neg (by omega), if_neg (by omega), eo (12 + s) (by omega) (by omega) (by omega)]; exact (hM.2.2.2.2.2.1 s (by omega)).2
            · rw [hv3] at hg
              have u := hM.2.2.2.2.2.2 g hg
              rw [n1, if_neg (by omega), if_neg (by omega), if_neg (by omega), n1, if_neg (by omega), if_neg (by omega), if_neg (by omega), n1, if_neg (by omega), if_neg (by omega), if_neg (by omega), n1, if_neg (by omega), if_neg (by omega), if_neg (by omega), n1, if_neg (by omega), if_neg (by omega), if_neg (by omega), eo (19 + g) (by omega) (by omega) (by omega), eo (25 + g) (by omega) (by omega) (by omega), eo (31 + g) (by omega) (by omega) (by omega), eo (37 + g) (by omega) (by omega) (by omega), eo (43 + g) (by omega) (by omega) (by omega)]
              exact u
            · rw [n40, if_neg (by decide)]; exact h400
            · rw [eo 0 (by decide) (by omega) (by omega)]; exact hok.1
            · rw [eo 3 (by decide) (by omega) (by omega)]; exact hok.2.2.2.1
            · rw [eo 4 (by decide) (by omega) (by omega)]; exact hok.2.2.2.2.1
            · by_cases q : s = w 1
              · rw [q, ea, eb]; exact ⟨kk, kk'⟩
              · rw [eo (5 + s) (by omega) (by omega) (by omega), eo (12 + s) (by omega) (by omega) (by omega)]; exact hok.2.2.2.2.2.1 s (by omega)
            · rw [hv3] at hg
              rw [eo (19 + g) (by omega) (by omega) (by omega), eo (25 + g) (by omega) (by omega) (by omega), eo (31 + g) (by omega) (by omega) (by omega), eo (37 + g) (by omega) (by omega) (by omega)]
              exact hok.2.2.2.2.2.2 g hg
            · rw [n1, if_neg (by omega), if_neg (by omega), if_neg (by omega)]; exact hz g hg
          · obtain ⟨t, a1, a2⟩ := (w_sT (σ0 := σ0) (τ0 := τ0) (τ := τ5) (a := w 1) (b := w 2) c7).1 σ5 (D2 l5 f5 q5)
            exact ⟨t, 0, τ5, a1, z_g (by decide) _, Or.inr ⟨rfl, _, _, a2, by omega, h6⟩⟩
        · rw [if_pos rfl]
          obtain ⟨t, a1, a2⟩ := (w_sT (σ0 := σ0) (τ0 := τ0) (τ := τ4) (a := w 1) (b := w 2) c7).2.1 y σ4 (D2 l4 f4 q4)
          exact ⟨t, 0, τ4, a1, rfl, Or.inr ⟨rfl, _, _, a2, by omega, h6⟩⟩
      · rw [if_pos rfl]
        obtain ⟨t, a1, a2⟩ := (w_sT (σ0 := σ0) (τ0 := τ0) (τ := τ3) (a := w 1) (b := w 2) c7).2.2.1 σ3 (D2 l3 f3 q3)
        exact ⟨t, 0, τ3, a1, rfl, Or.inr ⟨rfl, _, _, a2, by omega, h6⟩⟩
    · rw [if_pos rfl]
      obtain ⟨t, a1, a2⟩ := (w_sT (σ0 := σ0) (τ0 := τ0) (τ := τ2) (a := w 1) (b := w 2) c7).2.2.2 x σ2 (D2 l2 f2 (g2 40 (by decide)))
      exact ⟨t, 0, τ2, a1, rfl, Or.inr ⟨rfl, _, _, a2, by omega, h6⟩⟩
  · have ew : w 1 = 7 := by omega
    obtain ⟨ht, hpn, h4, h5, g5, h2, hj⟩ := hl
    obtain ⟨σ1, s1, s2, s3, s4, s5, s6, s7⟩ := w_failAt h4 (σ 13 5) 3
    refine ⟨σ1, 0, x_u τ 0 14 3, ?_, ?_, Or.inr ⟨rfl, w 1, w 2, ⟨⟨3, nI p, by decide, s3, s4, s5.trans h5, z_us _ _ _ _, (z_ui (by decide)).trans g5, fun j j1 j2 j3 => (z_ui j2).trans (hj j j1 j2 j3)⟩, w_fr_d (w_fr_c hf (fun c hc _ => s2 c hc)) (fun c hc _ => z_uk hc) (fun j _ => by rw [z_uk (by decide)]), by rw [s2 40 (by decide)]; exact e3, by rw [s2 40 (by decide)]; exact e5⟩, h7, h6⟩⟩
    · unfold fX4_readStreet fX4_fail
      rw [e3, ew, if_neg (by decide), s1]
      rfl
    · rw [w_ms0, m1, ew]
      unfold w_ms
      rw [if_pos (by decide), w_refuse, z_b]
      exact z_g (by decide) _
end
section
/-! ===== pure: city, a gesture ===== -/
def w_gF (i : Nat) (s : x_S) : Option x_S := x_g (x_in (nI i) 6) (x_w (x_u s 47 (nI i).toNatClampNeg 0) (fun t => x_w (x_u t 40 5 ((t 40 5) + 1)) (fun u => some u)))
def w_gE (i : Nat) (x : Int32) (s : x_S) : Option x_S := x_g (x_in (nI i) 6) (x_w (x_u s 46 (nI i).toNatClampNeg x) (fun t => x_v (fX4_readSign 59 t) (w_gF i)))
def w_gD (i : Nat) (s : x_S) : Option x_S := x_b (fX4_readNumber 1 9 s) (w_gE i)
def w_gC (i : Nat) (x : Int32) (s : x_S) : Option x_S := x_g (x_in (nI i) 6) (x_w (x_u s 45 (nI i).toNatClampNeg x) (fun t => x_v (fX4_readSign 44 t) (w_gD i)))
def w_gB (i : Nat) (s : x_S) : Option x_S := x_b (fX4_readNumber 0 3 s) (w_gC i)
def w_gA (i : Nat) (x : Int32) (s : x_S) : Option x_S := x_g (x_in (nI i) 6) (x_w (x_u s 44 (nI i).toNatClampNeg x) (fun t => x_v (fX4_readSign 44 t) (w_gB i)))
theorem w_ges0 {σ : x_S} {i kd : Nat} {y : Int32} (h : σ 40 5 = nI i) (hi : i < 6) (hy : fX4_next σ = some y) (hk : fX3_ofLetter y σ = some (nI kd)) : fX4_readGesture 40 σ = x_b (fX4_readNumber 1 30 (x_u (x_u σ 43 i (nI kd)) 13 5 (σ 13 5 + 1))) (w_gA i) := by
  unfold fX4_readGesture
  rw [h, if_pos ((z_ltL (y := (6 : Int32)) 6 rfl (by omega) (by decide)).mpr hi), hy, z_p, hk, z_p, z_gi hi (by decide), z_w, z_w]
  show x_b (fX4_readNumber 1 30 (x_u (x_u σ 43 (nI i).toNatClampNeg (nI kd)) 13 5 (x_u σ 43 (nI i).toNatClampNeg (nI kd) 13 5 + 1))) (w_gA i) = _
  rw [z_cl (by omega), z_uk (show (13 : Nat) ≠ 43 by decide)]
def w_hC (N : Int32) (s : x_S) : Option (Int32 × x_S) := x_g (x_in ((1360 : Int32) + N) 1372) (x_w (x_u s 1 ((1360 : Int32) + N).toNatClampNeg (s 0 15)) (fun t => x_g (x_in (1325 : Int32) 1372) (x_w (x_u t 1 (1325 : Int32).toNatClampNeg ((t 1 (1325 : Int32).toNatClampNeg) + 1)) (fun u => x_b (fX8_sign 59 u) (fun r v => x_g (r &&& 1 = r) (some (r, v)))))))
def w_hB (N : Int32) (s : x_S) : Option (Int32 × x_S) := x_g (x_in ((1354 : Int32) + N) 1372) (x_w (x_u s 1 ((1354 : Int32) + N).toNatClampNeg (s 0 15)) (fun t => x_b (fX8_sign 44 t) (fun r u => if r = 0 then some (0, u) else x_b (fX8_readsNumber 1 9 u) (fun r v => if r = 0 then some (0, v) else w_hC N v))))
def w_hA (N : Int32) (s : x_S) : Option (Int32 × x_S) := x_g (x_in ((1348 : Int32) + N) 1372) (x_w (x_u s 1 ((1348 : Int32) + N).toNatClampNeg (s 0 15)) (fun t => x_b (fX8_sign 44 t) (fun r u => if r = 0 then some (0, u) else x_b (fX8_readsNumber 0 3 u) (fun r v => if r = 0 then some (0, v) else w_hB N v))))
def w_hs (N : Int32) (τ : x_S) : Option (Int32 × x_S) := if N = 6 then (x_b (fX8_refuse 3 τ) (fun r v => x_g (r &&& 1 = r) (some (r, v)))) else x_g (x_in (τ 0 13) 120) (x_p (fX8_kindOfLetter (τ 6 (τ 0 13).toNatClampNeg) τ) (fun x => x_g (x_in ((1342 : Int32) + N) 1372) (x_w (x_u τ 1 ((1342 : Int32) + N).toNatClampNeg x) (fun s => x_w (x_u s 0 13 (s 0 13 + 1)) (fun t => x_b (fX8_readsNumber 1 30 t) (fun r s => if r = 0 then some (0, s) else w_hA N s))))))
theorem w_hs0 (τ : x_S) : fX8_readsGesture τ = w_hs (τ 1 1325) τ := rfl
theorem w_mges0 {τ : x_S} {i kd p : Nat} (h : τ 1 1325 = nI i) (hi : i < 6) (h13 : τ 0 13 = nI p) (hp : p < 120) (hk : fX8_kindOfLetter (τ 6 p) τ = some (nI kd)) : fX8_readsGesture τ = x_b (fX8_readsNumber 1 30 (x_u (x_u τ 1 (1342 + i) (nI kd)) 0 13 (nI (p + 1)))) (fun r s => if r = 0 then some (0, s) else w_hA (nI i) s) := by
  have e : ¬ nI i = (6 : Int32) := fun z => by have := (nI_eq (a := i) (b := 6) (by omega) (by decide)).mp z; omega
  rw [w_hs0, h]
  unfold w_hs
  rw [if_neg e, h13, z_gi (n := 120) hp (by decide), z_cl (show p < 65536 by omega), hk, z_p, show (1342 : Int32) + nI i = nI (1342 + i) from nI_add 1342 i, z_gi (n := 1372) (by omega) (by decide), z_w, z_w, z_cl (by omega), z_uk (show (0 : Nat) ≠ 1 by decide), h13, nI_1]
theorem w_gT {σ0 τ0 τ : x_S} {a b i : Nat} (hi : i < 6) : (∀ s, w_D σ0 τ0 τ a b s → ∃ t, w_gF i s = some t ∧ w_D σ0 τ0 τ a (b + 1) t) ∧ (∀ x s, w_D σ0 τ0 τ a b s → ∃ t, w_gE i x s = some t ∧ w_D σ0 τ0 τ a (b + 1) t) ∧ (∀ s, w_D σ0 τ0 τ a b s → ∃ t, w_gD i s = some t ∧ w_D σ0 τ0 τ a (b + 1) t) ∧ (∀ x s, w_D σ0 τ0 τ a b s → ∃ t, w_gC i x s = some t ∧ w_D σ0 τ0 τ a (b + 1) t) ∧ (∀ s, w_D σ0 τ0 τ a b s → ∃ t, w_gB i s = some t ∧ w_D σ0 τ0 τ a (b + 1) t) ∧ (∀ x s, w_D σ0 τ0 τ a b s → ∃ t, w_gA i x s = some t ∧ w_D σ0 τ0 τ a (b + 1) t) := by
  have hF : ∀ s, w_D σ0 τ0 τ a b s → ∃ t, w_gF i s = some t ∧ w_D σ0 τ0 τ a (b + 1) t := by
    intro s hs
    unfold w_gF
    rw [z_gi hi (by decide), z_w]
    exact ⟨_, rfl, w_Dge (w_Dw hs (by decide) _ 0)⟩
  have hE : ∀ x s, w_D σ0 τ0 τ a b s → ∃ t, w_gE i x s = some t ∧ w_D σ0 τ0 τ a (b + 1) t := by
    intro x s hs
    unfold w_gE
    rw [z_gi hi (by decide), z_w]
    exact w_ov (w_Dsign (w_Dw hs (by decide) _ x) 59) hF
  have hD : ∀ s, w_D σ0 τ0 τ a b s → ∃ t, w_gD i s = some t ∧ w_D σ0 τ0 τ a (b + 1) t := fun s hs => w_ob (w_Dnum hs 1 9) hE
  have hC : ∀ x s, w_D σ0 τ0 τ a b s → ∃ t, w_gC i x s = some t ∧ w_D σ0 τ0 τ a (b + 1) t := by
    intro x s hs
    unfold w_gC
    rw [z_gi hi (by decide), z_w]
    exact w_ov (w_Dsign (w_Dw hs (by decide) _ x) 44) hD
  have hB : ∀ s, w_D σ0 τ0 τ a b s → ∃ t, w_gB i s = some t ∧ w_D σ0 τ0 τ a (b + 1) t := fun s hs => w_ob (w_Dnum hs 0 3) hC
  refine ⟨hF, hE, hD, hC, hB, ?_⟩
  intro x s hs
  unfold w_gA
  rw [z_gi hi (by decide), z_w]
  exact w_ov (w_Dsign (w_Dw hs (by decide) _ x) 44) hB
theorem w_adv {σ0 τ0 σ τ : x_S} {n p : Nat} (h : w_lv σ0 τ0 n p σ τ) (hp : p < n) : w_lv σ0 τ0 n (p + 1) (x_u σ 13 5 (σ 13 5 + 1)) (x_u τ 0 13 (nI (p + 1))) := by
  obtain ⟨ht, -, h4, h5, g5, h2, hj⟩ := h
  refine ⟨w_tp_c ht (z_ui (by decide)) (z_uk (by decide)) (z_ui (by decide)) (z_uk (by decide)), hp, ?_, ?_, z_us _ _ _ _, ?_, fun j j1 j2 j3 => ?_⟩
  · rw [z_ui (by decide)]; exact h4
  · rw [z_us, h5, nI_1]
  · rw [z_ui (by decide)]; exact h2
  · rw [z_ui j1]; exact hj j j1 j2 j3
theorem w_kind (x : Int32) (σ τ : x_S) : ∃ kd, kd ≤ 5 ∧ fX3_ofLetter x σ = some (nI kd) ∧ fX8_kindOfLetter x τ = some (nI kd) := by
  unfold fX3_ofLetter fX8_kindOfLetter
  by_cases c1 : x = 98
  · subst c1; exact ⟨3, by decide, rfl, rfl⟩
  · by_cases c2 : x = 107
    · subst c2; exact ⟨4, by decide, rfl, rfl⟩
    · by_cases c3 : x = 110
      · subst c3; exact ⟨2, by decide, rfl, rfl⟩
      · by_cases c4 : x = 115
        · subst c4; exact ⟨5, by decide, rfl, rfl⟩
        · by_cases c5 : x = 119
          · subst c5; exact ⟨1, by decide, rfl, rfl⟩
          · rw [if_neg c1, if_neg c2, if_neg c3, if_neg c4, if_neg c5, if_neg c5, if_neg c3, if_neg c1, if_neg c2, if_neg c4]
            exact ⟨0, by decide, rfl, rfl⟩
theorem w_gesture {σ0 τ0 σ τ : x_S} {n p kd : Nat} {w : z_V} (h : w_L σ0 τ0 n p w σ τ) (hp : p < n) (hk1 : 1 ≤ kd) (hk5 : kd ≤ 5) (hkS : ∀ s, fX3_ofLetter (τ 6 p) s = some (nI kd)) (hkM : ∀ s, fX8_kindOfLetter (τ 6 p) s = some (nI kd)) : ∃ σ' r τ', fX4_readGesture 40 σ = some σ' ∧ fX8_readsGesture τ = some (r, τ') ∧ ((r = 1 ∧ w 2 < 6 ∧ ∃ p' w', w' 1 = w 1 ∧ w' 2 = w 2 + 1 ∧ w_L σ0 τ0 n p' w' σ' τ') ∨ (r = 0 ∧ ∃ a b, w_D σ0 τ0 τ' a b σ' ∧ a ≤ 7 ∧ b ≤ 6)) := by
  obtain ⟨hl, hf, hS, hM, h400, hok, hz⟩ := h
  have h7 := hok.2.1
  have h6 := hok.2.2.1
  have e3 : σ 40 3 = nI (w 1) := hS.2.1
  have e5 : σ 40 5 = nI (w 2) := hS.2.2.1
  have m1 : τ 1 1325 = nI (w 2) := hM.2.2.1
  have hn := hl.1.2.2.1
  have hx : fX4_next σ = some (τ 6 p) := by rw [w_next hn hl.1.1 hl.2.2.2.1 (by omega), if_pos hp, hl.1.2.2.2 p hp]
  by_cases c6 : w 2 < 6
  · have l0 : w_lv σ0 τ0 n p (x_u σ 43 (w 2) (nI kd)) (x_u τ 1 (1342 + w 2) (nI kd)) := w_lv_c hl (z_uk (by decide)) (z_uk (by decide)) (z_uk (by decide)) (z_uk (by decide))
    have l1 := w_adv l0 hp
    rw [show x_u σ 43 (w 2) (nI kd) 13 = σ 13 from z_uk (by decide)] at l1
    obtain ⟨x, σ2, r2, τ2, s2, t2, c2, d2, hh2⟩ := w_number l1 (lo := 1) (hi := 30) (by decide) (by decide)
    have s2 : fX4_readNumber 1 30 (x_u (x_u σ 43 (w 2) (nI kd)) 13 5 (σ 13 5 + 1)) = some (x, σ2) := s2
    have t2 : fX8_readsNumber 1 30 (x_u (x_u τ 1 (1342 + w 2) (nI kd)) 0 13 (nI (p + 1))) = some (r2, τ2) := t2
    have g2 : ∀ c, c ≠ 13 → c ≠ 43 → σ2 c = σ c := fun c hc hd => (c2 c hc).trans ((z_uk hc).trans (z_uk hd))
    have g43 : ∀ j, σ2 43 j = if j = w 2 then nI kd else σ 43 j := fun j => by rw [c2 43 (by decide), z_uk (by decide), z_uu, z_upd]
    have k1 : ∀ j, τ2 1 j = if j = 1342 + w 2 then nI kd else τ 1 j := fun j => by rw [d2 1 (by decide), z_uk (by decide), z_uu, z_upd]
    have k2 : ∀ c, c ≠ 0 → c ≠ 1 → τ2 c = τ c := fun c hc hd => (d2 c hc).trans ((z_uk hc).trans (z_uk hd))
    have f2 : w_fr σ0 τ0 σ2 τ2 := w_fr_d (w_fr_c hf (fun c hc hd => g2 c hc (by omega))) (fun c hc hd => k2 c hc hd) (fun j hj => by rw [k1, if_neg (by omega)])
    have D2 : ∀ {s t : x_S}, w_ft σ0 τ0 s t → w_fr σ0 τ0 s t → (s 40 = σ 40) → w_D σ0 τ0 t (w 1) (w 2) s := fun a b c => ⟨a, b, by rw [c]; exact e3, by rw [c]; exact e5⟩
    rw [w_ges0 e5 c6 hx (hkS σ), w_mges0 m1 c6 hl.2.2.2.2.1 (by omega) (hkM τ), s2, z_b, t2, z_b]
    rcases hh2 with ⟨rfl, k, p2, kl, kk, rfl, e15, -, l2⟩ | ⟨rfl, l2⟩
    · rw [if_neg z_10]
      unfold w_gA w_hA
      rw [show (1348 : Int32) + nI (w 2) = nI (1348 + w 2) from nI_add 1348 (w 2), z_gi (n := 6) c6 (by decide), z_gi (n := 1372) (by omega) (by decide), z_w, z_w, z_cl (show w 2 < 65536 by omega), z_cl (show 1348 + w 2 < 65536 by omega), e15]
      have l2' : w_lv σ0 τ0 n p2 (x_u σ2 44 (w 2) (nI k)) (x_u τ2 1 (1348 + w 2) (nI k)) := w_lv_c l2 (z_uk (by decide)) (z_uk (by decide)) (z_uk (by decide)) (z_uk (by decide))
      have f2' : w_fr σ0 τ0 (x_u σ2 44 (w 2) (nI k)) (x_u τ2 1 (1348 + w 2) (nI k)) := w_fr_d (w_fr_c f2 (fun c _ hc => z_uk (by omega))) (fun c _ hc => z_uk hc) (fun j hj => z_ui (by omega))
      obtain ⟨σ3, r3, τ3, s3, t3, c3, d3, hh3⟩ := w_sign l2' (a := 44) (by decide)
      have f3 : w_fr σ0 τ0 σ3 τ3 := w_fr_d (w_fr_c f2' (fun c hc _ => c3 c hc)) (fun c hc _ => d3 c hc) (fun j _ => by rw [d3 1 (by decide)])
      have q3 : σ3 40 = σ 40 := by rw [c3 40 (by decide), z_uk (by decide), g2 40 (by decide) (by decide)]
      rw [s3, z_v, t3, z_b]
      rcases hh3 with ⟨rfl, hp3, l3⟩ | ⟨rfl, l3⟩
      · rw [if_neg z_10]
        unfold w_gB
        obtain ⟨y, σ4, r4, τ4, s4, t4, c4, d4, hh4⟩ := w_number l3 (lo := 0) (hi := 3) (by decide) (by decide)
        have s4 : fX4_readNumber 0 3 σ3 = some (y, σ4) := s4
        have t4 : fX8_readsNumber 0 3 τ3 = some (r4, τ4) := t4
        have f4 : w_fr σ0 τ0 σ4 τ4 := w_fr_d (w_fr_c f3 (fun c hc _ => c4 c hc)) (fun c hc _ => d4 c hc) (fun j _ => by rw [d4 1 (by decide)])
        have q4 : σ4 40 = σ 40 := (c4 40 (by decide)).trans q3
        rw [s4, z_b, t4, z_b]
        rcases hh4 with ⟨rfl, k', p4, -, kk', rfl, e15', -, l4⟩ | ⟨rfl, l4⟩
        · rw [if_neg z_10]
          unfold w_gC w_hB
          have v1 : ∀ j, τ4 1 j = if j = 1348 + w 2 then nI k else if j = 1342 + w 2 then nI kd else τ 1 j := by
            intro j
            rw [d4 1 (by decide), d3 1 (by decide), z_uu, z_upd, k1]
          rw [show (1354 : Int32) + nI (w 2) = nI (1354 + w 2) from nI_add 1354 (w 2), z_gi (n := 6) c6 (by decide), z_gi (n := 1372) (by omega) (by decide), z_w, z_w, z_cl (show w 2 < 65536 by omega), z_cl (show 1354 + w 2 < 65536 by omega), e15']
          have l4' : w_lv σ0 τ0 n p4 (x_u σ4 45 (w 2) (nI k')) (x_u τ4 1 (1354 + w 2) (nI k')) := w_lv_c l4 (z_uk (by decide)) (z_uk (by decide)) (z_uk (by decide)) (z_uk (by decide))
          have f4' : w_fr σ0 τ0 (x_u σ4 45 (w 2) (nI k')) (x_u τ4 1 (1354 + w 2) (nI k')) := w_fr_d (w_fr_c f4 (fun c _ hc => z_uk (by omega))) (fun c _ hc => z_uk hc) (fun j hj => z_ui (by omega))
          obtain ⟨σ5, r5, τ5, s5, t5, c5, d5, hh5⟩ := w_sign l4' (a := 44) (by decide)
          have f5 : w_fr σ0 τ0 σ5 τ5 := w_fr_d (w_fr_c f4' (fun c hc _ => c5 c hc)) (fun c hc _ => d5 c hc) (fun j _ => by rw [d5 1 (by decide)])
          have q5 : σ5 40 = σ 40 := by rw [c5 40 (by decide), z_uk (by decide), q4]
          rw [s5, z_v, t5, z_b]
          rcases hh5 with ⟨rfl, hp5, l5⟩ | ⟨rfl, l5⟩
          · rw [if_neg z_10]
            unfold w_gD
            obtain ⟨y6, σ6, r6, τ6, s6, t6, c6', d6, hh6⟩ := w_number l5 (lo := 1) (hi := 9) (by decide) (by decide)
            have s6 : fX4_readNumber 1 9 σ5 = some (y6, σ6) := s6
            have t6 : fX8_readsNumber 1 9 τ5 = some (r6, τ6) := t6
            have f6 : w_fr σ0 τ0 σ6 τ6 := w_fr_d (w_fr_c f5 (fun c hc _ => c6' c hc)) (fun c hc _ => d6 c hc) (fun j _ => by rw [d6 1 (by decide)])
            have q6 : σ6 40 = σ 40 := (c6' 40 (by decide)).trans q5
            rw [s6, z_b, t6, z_b]
            rcases hh6 with ⟨rfl, k'', p6, kl'', kk'', rfl, e15'', -, l6⟩ | ⟨rfl, l6⟩
            · rw [if_neg z_10]
              unfold w_gE w_hC
              have v2 : ∀ j, x_u τ6 1 (1360 + w 2) (nI k'') 1 j = if j = 1360 + w 2 then nI k'' else if j = 1354 + w 2 then nI k' else if j = 1348 + w 2 then nI k else if j = 1342 + w 2 then nI kd else τ 1 j := by
                intro j
                rw [z_uu, z_upd, d6 1 (by decide), d5 1 (by decide), z_uu, z_upd, v1]
              rw [show (1360 : Int32) + nI (w 2) = nI (1360 + w 2) from nI_add 1360 (w 2), z_gi (n := 6) c6 (by decide), z_gi (n := 1372) (by omega) (by decide), z_w, z_w, z_cl (show w 2 < 65536 by omega), z_cl (show 1360 + w 2 < 65536 by omega), e15'', z_g (show x_in (1325 : Int32) 1372 by decide), z_w, z_c1325, v2 1325, if_neg (by omega), if_neg (by omega), if_neg (by omega), if_neg (by omega), m1, nI_1]
              have l6' : w_lv σ0 τ0 n p6 (x_u σ6 46 (w 2) (nI k'')) (x_u (x_u τ6 1 (1360 + w 2) (nI k'')) 1 1325 (nI (w 2 + 1))) := w_lv_c l6 (z_uk (by decide)) (z_uk (by decide)) ((z_uk (by decide)).trans (z_uk (by decide))) ((z_uk (by decide)).trans (z_uk (by decide)))
              have f6' : w_fr σ0 τ0 (x_u σ6 46 (w 2) (nI k'')) (x_u (x_u τ6 1 (1360 + w 2) (nI k'')) 1 1325 (nI (w 2 + 1))) := w_fr_d (w_fr_c f6 (fun c _ hc => z_uk (by omega))) (fun c _ hc => (z_uk hc).trans (z_uk hc)) (fun j hj => (z_ui (by omega)).trans (z_ui (by omega)))
              obtain ⟨σ7, r7, τ7, s7, t7, c7, d7, hh7⟩ := w_sign l6' (a := 59) (by decide)
              have f7 : w_fr σ0 τ0 σ7 τ7 := w_fr_d (w_fr_c f6' (fun c hc _ => c7 c hc)) (fun c hc _ => d7 c hc) (fun j _ => by rw [d7 1 (by decide)])
              have q7 : σ7 40 = σ 40 := by rw [c7 40 (by decide), z_uk (by decide), q6]
              rw [s7, z_v, t7, z_b]
              rcases hh7 with ⟨rfl, hp7, l7⟩ | ⟨rfl, l7⟩
              · unfold w_gF
                rw [z_gi (n := 6) c6 (by decide), z_w, z_w, z_cl (show w 2 < 65536 by omega), z_uk (show (40 : Nat) ≠ 47 by decide), show σ7 40 5 + 1 = nI (w 2 + 1) by rw [q7, e5, nI_1]]
                have n40 : ∀ j, x_u (x_u σ7 47 (w 2) 0) 40 5 (nI (w 2 + 1)) 40 j = if j = 5 then nI (w 2 + 1) else σ 40 j := by
                  intro j
                  rw [z_uu, z_upd, z_uk (by decide), q7]
                have n43 : ∀ j, x_u (x_u σ7 47 (w 2) 0) 40 5 (nI (w 2 + 1)) 43 j = if j = w 2 then nI kd else σ 43 j := by
                  intro j
                  rw [z_uk (by decide), z_uk (by decide), c7 43 (by decide), z_uk (by decide), c6' 43 (by decide), c5 43 (by decide), z_uk (by decide), c4 43 (by decide), c3 43 (by decide), z_uk (by decide), g43]
                have n44 : ∀ j, x_u (x_u σ7 47 (w 2) 0) 40 5 (nI (w 2 + 1)) 44 j = if j = w 2 then nI k else σ 44 j := by
                  intro j
                  rw [z_uk (by decide), z_uk (by decide), c7 44 (by decide), z_uk (by decide), c6' 44 (by decide), c5 44 (by decide), z_uk (by decide), c4 44 (by decide), c3 44 (by decide), z_uu, z_upd, g2 44 (by decide) (by decide)]
                have n45 : ∀ j, x_u (x_u σ7 47 (w 2) 0) 40 5 (nI (w 2 + 1)) 45 j = if j = w 2 then nI k' else σ 45 j := by
                  intro j
                  rw [z_uk (by decide), z_uk (by decide), c7 45 (by decide), z_uk (by decide), c6' 45 (by decide), c5 45 (by decide), z_uu, z_upd, c4 45 (by decide), c3 45 (by decide), z_uk (by decide), g2 45 (by decide) (by decide)]
                have n46 : ∀ j, x_u (x_u σ7 47 (w 2) 0) 40 5 (nI (w 2 + 1)) 46 j = if j = w 2 then nI k'' else σ 46 j := by
                  intro j
                  rw [z_uk (by decide), z_uk (by decide), c7 46 (by decide), z_uu, z_upd, c6' 46 (by decide), c5 46 (by decide), z_uk (by decide), c4 46 (by decide), c3 46 (by decide), z_uk (by decide), g2 46 (by decide) (by decide)]
                have n47 : ∀ j, x_u (x_u σ7 47 (w 2) 0) 40 5 (nI (w 2 + 1)) 47 j = if j = w 2 then 0 else σ 47 j := by
                  intro j
                  rw [z_uk (by decide), z_uu, z_upd, c7 47 (by decide), z_uk (by decide), c6' 47 (by decide), c5 47 (by decide), z_uk (by decide), c4 47 (by decide), c3 47 (by decide), z_uk (by decide), g2 47 (by decide) (by decide)]
                have nS : ∀ c, 41 ≤ c → c ≤ 42 → x_u (x_u σ7 47 (w 2) 0) 40 5 (nI (w 2 + 1)) c = σ c := by
                  intro c hc1 hc2
                  rw [z_uk (by omega), z_uk (by omega), c7 c (by omega), z_uk (by omega), c6' c (by omega), c5 c (by omega), z_uk (by omega), c4 c (by omega), c3 c (by omega), z_uk (by omega), g2 c (by omega) (by omega)]
                have n1 : ∀ j, τ7 1 j = if j = 1325 then nI (w 2 + 1) else if j = 1360 + w 2 then nI k'' else if j = 1354 + w 2 then nI k' else if j = 1348 + w 2 then nI k else if j = 1342 + w 2 then nI kd else τ 1 j := by
                  intro j
                  rw [d7 1 (by decide), z_uu, z_upd, v2]
                have no : ∀ j, j ≠ 1325 → j ≠ 1360 + w 2 → j ≠ 1354 + w 2 → j ≠ 1348 + w 2 → j ≠ 1342 + w 2 → τ7 1 j = τ 1 j := by
                  intro j j1 j2 j3 j4 j5
                  rw [n1, if_neg j1, if_neg j2, if_neg j3, if_neg j4, if_neg j5]
                have eo : ∀ j, j ≠ 2 → (j < 19 ∨ (∃ g, g < w 2 ∧ (j = 19 + g ∨ j = 25 + g ∨ j = 31 + g ∨ j = 37 + g ∨ j = 43 + g))) → (fun j => if j = 2 then w 2 + 1 else if j = 19 + w 2 then kd else if j = 25 + w 2 then k else if j = 31 + w 2 then k' else if j = 37 + w 2 then k'' else if j = 43 + w 2 then 0 else w j) j = w j := fun j j1 j2 => by
                  show (if j = 2 then w 2 + 1 else if j = 19 + w 2 then kd else if j = 25 + w 2 then k else if j = 31 + w 2 then k' else if j = 37 + w 2 then k'' else if j = 43 + w 2 then 0 else w j) = w j
                  rw [if_neg j1, if_neg (by omega), if_neg (by omega), if_neg (by omega), if_neg (by omega), if_neg (by omega)]
                have ea : (fun j => if j = 2 then w 2 + 1 else if j = 19 + w 2 then kd else if j = 25 + w 2 then k else if j = 31 + w 2 then k' else if j = 37 + w 2 then k'' else if j = 43 + w 2 then 0 else w j) (19 + w 2) = kd := by
                  show (if (19 + w 2) = 2 then w 2 + 1 else if (19 + w 2) = 19 + w 2 then kd else if (19 + w 2) = 25 + w 2 then k else if (19 + w 2) = 31 + w 2 then k' else if (19 + w 2) = 37 + w 2 then k'' else if (19 + w 2) = 43 + w 2 then 0 else w (19 + w 2)) = kd
                  rw [if_neg (by omega), if_pos rfl]
                have eb : (fun j => if j = 2 then w 2 + 1 else if j = 19 + w 2 then kd else if j = 25 + w 2 then k else if j = 31 + w 2 then k' else if j = 37 + w 2 then k'' else if j = 43 + w 2 then 0 else w j) (25 + w 2) = k := by
                  show (if (25 + w 2) = 2 then w 2 + 1 else if (25 + w 2) = 19 + w 2 then kd else if (25 + w 2) = 25 + w 2 then k else if (25 + w 2) = 31 + w 2 then k' else if (25 + w 2) = 37 + w 2 then k'' else if (25 + w 2) = 43 + w 2 then 0 else w (25 + w 2)) = k
                  rw [if_neg (by omega), if_neg (by omega), if_pos rfl]
                have ec : (fun j => if j = 2 then w 2 + 1 else if j = 19 + w 2 then kd else if j = 25 + w 2 then k else if j = 31 + w 2 then k' else if j = 37 + w 2 then k'' else if j = 43 + w 2 then 0 else w j) (31 + w 2) = k' := by
                  show (if (31 + w 2) = 2 then w 2 + 1 else if (31 + w 2) = 19 + w 2 then kd else if (31 + w 2) = 25 + w 2 then k else if (31 + w 2) = 31 + w 2 then k' else if (31 + w 2) = 37 + w 2 then k'' else if (31 + w 2) = 43 + w 2 then 0 else w (31 + w 2)) = k'
                  rw [if_neg (by omega), if_neg (by omega), if_neg (by omega), if_pos rfl]
                have ed : (fun j => if j = 2 then w 2 + 1 else if j = 19 + w 2 then kd else if j = 25 + w 2 then k else if j = 31 + w 2 then k' else if j = 37 + w 2 then k'' else if j = 43 + w 2 then 0 else w j) (37 + w 2) = k'' := by
                  show (if (37 + w 2) = 2 then w 2 + 1 else if (37 + w 2) = 19 + w 2 then kd else if (37 + w 2) = 25 + w 2 then k else if (37 + w 2) = 31 + w 2 then k' else if (37 + w 2) = 37 + w 2 then k'' else if (37 + w 2) = 43 + w 2 then 0 else w (37 + w 2)) = k''
                  rw [if_neg (by omega), if_neg (by omega), if_neg (by omega), if_neg (by omega), if_pos rfl]
                have ee : (fun j => if j = 2 then w 2 + 1 else if j = 19 + w 2 then kd else if j = 25 + w 2 then k else if j = 31 + w 2 then k' else if j = 37 + w 2 then k'' else if j = 43 + w 2 then 0 else w j) (43 + w 2) = 0 := by
                  show (if (43 + w 2) = 2 then w 2 + 1 else if (43 + w 2) = 19 + w 2 then kd else if (43 + w 2) = 25 + w 2 then k else if (43 + w 2) = 31 + w 2 then k' else if (43 + w 2) = 37 + w 2 then k'' else if (43 + w 2) = 43 + w 2 then 0 else w (43 + w 2)) = 0
                  rw [if_neg (by omega), if_neg (by omega), if_neg (by omega), if_neg (by omega), if_neg (by omega), if_pos rfl]
                have e2 : (fun j => if j = 2 then w 2 + 1 else if j = 19 + w 2 then kd else if j = 25 + w 2 then k else if j = 31 + w 2 then k' else if j = 37 + w 2 then k'' else if j = 43 + w 2 then 0 else w j) 2 = w 2 + 1 := rfl
                generalize (fun j => if j = 2 then w 2 + 1 else if j = 19 + w 2 then kd else if j = 25 + w 2 then k else if j = 31 + w 2 then k' else if j = 37 + w 2 then k'' else if j = 43 + w 2 then 0 else w j) = w' at eo ea eb ec ed ee e2
                have hv1 : w' 1 = w 1 := eo 1 (by decide) (Or.inl (by decide))
                refine ⟨_, 1, τ7, rfl, z_g (by decide) _, Or.inl ⟨rfl, c6, p6 + 1, w', hv1, e2, ?_⟩⟩
                refine ⟨w_lv_c l7 ((z_uk (by decide)).trans (z_uk (by decide))) ((z_uk (by decide)).trans (z_uk (by decide))) rfl rfl, w_fr_c f7 (fun c _ hc => (z_uk (by omega)).trans (z_uk (by omega))), ⟨?_, ?_, ?_, ?_, ?_, fun s hs => ?_, fun g hg => ⟨?_, ?_, ?_, ?_, ?_⟩⟩, ⟨?_, ?_, ?_, ?_, ?_, fun s hs => ?_, fun g hg => ⟨?_, ?_, ?_, ?_, ?_⟩⟩, ?_, ⟨?_, by omega, by omega, ?_, ?_, fun s hs => ?_, fun g hg => ?_⟩, fun g hg => ?_⟩
                · rw [n40, if_neg (by decide), eo 0 (by decide) (Or.inl (by decide))]; exact hS.1
                · rw [n40, if_neg (by decide), hv1]; exact e3
                · rw [n40, if_pos rfl, e2]
                · rw [n40, if_neg (by decide), eo 3 (by decide) (Or.inl (by decide))]; exact hS.2.2.2.1
                · rw [n40, if_neg (by decide), eo 4 (by decide) (Or.inl (by decide))]; exact hS.2.2.2.2.1
                · rw [hv1] at hs
                  rw [nS 41 (by decide) (by decide), nS 42 (by decide) (by decide), eo (5 + s) (by omega) (Or.inl (by omega)), eo (12 + s) (by omega) (Or.inl (by omega))]
                  exact hS.2.2.2.2.2.1 s hs
                · show x_u (x_u σ7 47 (w 2) 0) 40 5 (nI (w 2 + 1)) 43 g = _
                  rw [n43]
                  by_cases q : g = w 2
                  · rw [if_pos q, q, ea]
                  · rw [if_neg q, eo (19 + g) (by omega) (Or.inr ⟨g, by omega, by omega⟩)]; exact (hS.2.2.2.2.2.2 g (by omega)).1
                · show x_u (x_u σ7 47 (w 2) 0) 40 5 (nI (w 2 + 1)) 44 g = _
                  rw [n44]
                  by_cases q : g = w 2
                  · rw [if_pos q, q, eb]
                  · rw [if_neg q, eo (25 + g) (by omega) (Or.inr ⟨g, by omega, by omega⟩)]; exact (hS.2.2.2.2.2.2 g (by omega)).2.1
                · show x_u (x_u σ7 47 (w 2) 0) 40 5 (nI (w 2 + 1)) 45 g = _
                  rw [n45]
                  by_cases q : g = w 2
                  · rw [if_pos q, q, ec]
                  · rw [if_neg q, eo (31 + g) (by omega) (Or.inr ⟨g, by omega, by omega⟩)]; exact (hS.2.2.2.2.2.2 g (by omega)).2.2.1
                · show x_u (x_u σ7 47 (w 2) 0) 40 5 (nI (w 2 + 1)) 46 g = _
                  rw [n46]
                  by_cases q : g = w 2
                  · rw [if_pos q, q, ed]
                  · rw [if_neg q, eo (37 + g) (by omega) (Or.inr ⟨g, by omega, by omega⟩)]; exact (hS.2.2.2.2.2.2 g (by omega)).2.2.2.1
                · show x_u (x_u σ7 47 (w 2) 0) 40 5 (nI (w 2 + 1)) 47 g = _
                  rw [n47]
                  by_cases q : g = w 2
                  · rw [if_pos q, q, ee]; rfl
                  · rw [if_neg q, eo (43 + g) (by omega) (Or.inr ⟨g, by omega, by omega⟩)]; exact (hS.2.2.2.2.2.2 g (by omega)).2.2.2.2
                · rw [no 1323 (by decide) (by omega) (by omega) (by omega) (by omega), eo 0 (by decide) (Or.inl (by decide))]; exact hM.1
                · rw [no (1323 + 1) (by decide) (by omega) (by omega) (by omega) (by omega), hv1]; exact hM.2.1
                · rw [n1, if_pos rfl, e2]
                · rw [no (1323 + 3) (by decide) (by omega) (by omega) (by omega) (by omega), eo 3 (by decide) (Or.inl (by decide))]; exact hM.2.2.2.1
                · rw [no (1323 + 4) (by decide) (by omega) (by omega) (by omega) (by omega), eo 4 (by decide) (Or.inl (by decide))]; exact hM.2.2.2.2.1
                · rw [hv1] at hs
                  rw [no _ (by omega) (by omega) (by omega) (by omega) (by omega), no _ (by omega) (by omega) (by omega) (by omega) (by omega), eo (5 + s) (by omega) (Or.inl (by omega)), eo (12 + s) (by omega) (Or.inl (by omega))]
                  exact hM.2.2.2.2.2.1 s hs
                · by_cases q : g = w 2
                  · rw [n1, if_neg (by omega), if_neg (by omega), if_neg (by omega), if_neg (by omega), if_pos (by omega), q, ea]
                  · rw [no _ (by omega) (by omega) (by omega) (by omega) (by omega), eo (19 + g) (by omega) (Or.inr ⟨g, by omega, by omega⟩)]; exact (hM.2.2.2.2.2.2 g (by omega)).1
                · by_cases q : g = w 2
                  · rw [n1, if_neg (by omega), if_neg (by omega), if_neg (by omega), if_pos (by omega), q, eb]
                  · rw [no _ (by omega) (by omega) (by omega) (by omega) (by omega), eo (25 + g) (by omega) (Or.inr ⟨g, by omega, by omega⟩)]; exact (hM.2.2.2.2.2.2 g (by omega)).2.1
                · by_cases q : g = w 2
                  · rw [n1, if_neg (by omega), if_neg (by omega), if_pos (by omega), q, ec]
                  · rw [no _ (by omega) (by omega) (by omega) (by omega) (by omega), eo (31 + g) (by omega) (Or.inr ⟨g, by omega, by omega⟩)]; exact (hM.2.2.2.2.2.2 g (by omega)).2.2.1
                · by_cases q : g = w 2
                  · rw [n1, if_neg (by omega), if_pos (by omega), q, ed]
                  · rw [no _ (by omega) (by omega) (by omega) (by omega) (by omega), eo (37 + g) (by omega) (Or.inr ⟨g, by omega, by omega⟩)]; exact (hM.2.2.2.2.2.2 g (by omega)).2.2.2.1
                · rw [no _ (by omega) (by omega) (by omega) (by omega) (by omega)]
                  by_cases q : g = w 2
                  · have hz2 := hz g (by omega)
                    rw [show 1323 + (43 + g) = 1366 + g by omega, hz2, q, ee]; rfl
                  · rw [eo (43 + g) (by omega) (Or.inr ⟨g, by omega, by omega⟩)]; exact (hM.2.2.2.2.2.2 g (by omega)).2.2.2.2
                · rw [n40, if_neg (by decide)]; exact h400
                · rw [eo 0 (by decide) (Or.inl (by decide))]; exact hok.1
                · rw [eo 3 (by decide) (Or.inl (by decide))]; exact hok.2.2.2.1
                · rw [eo 4 (by decide) (Or.inl (by decide))]; exact hok.2.2.2.2.1
                · rw [hv1] at hs
                  rw [eo (5 + s) (by omega) (Or.inl (by omega)), eo (12 + s) (by omega) (Or.inl (by omega))]; exact hok.2.2.2.2.2.1 s hs
                · by_cases q : g = w 2
                  · rw [q, ea, eb, ec, ed]; exact ⟨⟨hk1, hk5⟩, ⟨kl, kk⟩, kk', ⟨kl'', kk''⟩⟩
                  · rw [eo (19 + g) (by omega) (Or.inr ⟨g, by omega, by omega⟩), eo (25 + g) (by omega) (Or.inr ⟨g, by omega, by omega⟩), eo (31 + g) (by omega) (Or.inr ⟨g, by omega, by omega⟩), eo (37 + g) (by omega) (Or.inr ⟨g, by omega, by omega⟩)]
                    exact hok.2.2.2.2.2.2 g (by omega)
                · rw [no _ (by omega) (by omega) (by omega) (by omega) (by omega)]; exact hz g hg
              · obtain ⟨t, a1, a2⟩ := (w_gT (σ0 := σ0) (τ0 := τ0) (τ := τ7) (a := w 1) (b := w 2) c6).1 σ7 (D2 l7 f7 q7)
                exact ⟨t, 0, τ7, a1, z_g (by decide) _, Or.inr ⟨rfl, _, _, a2, h7, by omega⟩⟩
            · rw [if_pos rfl]
              obtain ⟨t, a1, a2⟩ := (w_gT (σ0 := σ0) (τ0 := τ0) (τ := τ6) (a := w 1) (b := w 2) c6).2.1 y6 σ6 (D2 l6 f6 q6)
              exact ⟨t, 0, τ6, a1, rfl, Or.inr ⟨rfl, _, _, a2, h7, by omega⟩⟩
          · rw [if_pos rfl]
            obtain ⟨t, a1, a2⟩ := (w_gT (σ0 := σ0) (τ0 := τ0) (τ := τ5) (a := w 1) (b := w 2) c6).2.2.1 σ5 (D2 l5 f5 q5)
            exact ⟨t, 0, τ5, a1, rfl, Or.inr ⟨rfl, _, _, a2, h7, by omega⟩⟩
        · rw [if_pos rfl]
          obtain ⟨t, a1, a2⟩ := (w_gT (σ0 := σ0) (τ0 := τ0) (τ := τ4) (a := w 1) (b := w 2) c6).2.2.2.1 y σ4 (D2 l4 f4 q4)
          exact ⟨t, 0, τ4, a1, rfl, Or.inr ⟨rfl, _, _, a2, h7, by omega⟩⟩
      · rw [if_pos rfl]
        obtain ⟨t, a1, a2⟩ := (w_gT (σ0 := σ0) (τ0 := τ0) (τ := τ3) (a := w 1) (b := w 2) c6).2.2.2.2.1 σ3 (D2 l3 f3 q3)
        exact ⟨t, 0, τ3, a1, rfl, Or.inr ⟨rfl, _, _, a2, h7, by omega⟩⟩
    · rw [if_pos rfl]
      obtain ⟨t, a1, a2⟩ := (w_gT (σ0 := σ0) (τ0 := τ0) (τ := τ2) (a := w 1) (b := w 2) c6).2.2.2.2.2 x σ2 (D2 l2 f2 (g2 40 (by decide) (by decide)))
      exact ⟨t, 0, τ2, a1, rfl, Or.inr ⟨rfl, _, _, a2, h7, by omega⟩⟩
  · have ew : w 2 = 6 := by omega
    obtain ⟨ht, hpn, h4, h5, g5, h2, hj⟩ := hl
    obtain ⟨σ1, s1, s2, s3, s4, s5, s6, s7⟩ := w_failAt h4 (σ 13 5) 3
    refine ⟨σ1, 0, x_u τ 0 14 3, ?_, ?_, Or.inr ⟨rfl, w 1, w 2, ⟨⟨3, nI p, by decide, s3, s4, s5.trans h5, z_us _ _ _ _, (z_ui (by decide)).trans g5, fun j j1 j2 j3 => (z_ui j2).trans (hj j j1 j2 j3)⟩, w_fr_d (w_fr_c hf (fun c hc _ => s2 c hc)) (fun c hc _ => z_uk hc) (fun j _ => by rw [z_uk (by decide)]), by rw [s2 40 (by decide)]; exact e3, by rw [s2 40 (by decide)]; exact e5⟩, h7, h6⟩⟩
    · unfold fX4_readGesture fX4_fail
      rw [e5, ew, if_neg (by decide), s1]
      rfl
    · rw [w_hs0, m1, ew]
      unfold w_hs
      rw [if_pos (by decide), w_refuse, z_b]
      exact z_g (by decide) _
end
section
/-! ===== pure: city, the whole text ===== -/
def w_j (τ0 τ : x_S) : Prop := ∀ j, j ≠ 13 → j ≠ 14 → j ≠ 15 → τ 0 j = τ0 0 j
/-- the end of a reading: the answers of both, and what they left -/
def w_end (σ0 τ0 : x_S) (a : Int32) (σ' : x_S) (r : Int32) (τ' : x_S) : Prop := w_fr σ0 τ0 σ' τ' ∧ w_j τ0 τ' ∧ σ' 13 1 = 0 ∧ ((a = 1 ∧ r = 1 ∧ σ' 13 2 = σ0 13 2 ∧ ∃ w, z_S σ' 40 w ∧ z_M τ' 1323 w ∧ σ' 40 0 = 1 ∧ z_ok w) ∨ (a = 0 ∧ r = 0 ∧ σ' 13 2 = τ' 0 14 ∧ σ' 13 3 = τ' 0 13))
def w_E (σ0 τ0 : x_S) (x y : Option (Int32 × x_S)) : Prop := ∃ a σ' r τ', x = some (a, σ') ∧ y = some (r, τ') ∧ w_end σ0 τ0 a σ' r τ'
theorem w_dead86 {σ0 τ0 σ τ : x_S} (h : w_ft σ0 τ0 σ τ) (hf : w_fr σ0 τ0 σ τ) : w_E σ0 τ0 (bX4_reads_86 σ) (some (0, τ)) := by
  have hn := w_ftn h
  obtain ⟨e, q, h1, h2, h3, h4, h5, h6, h7⟩ := h
  have e1 : bX4_reads_102 σ = some (0, x_u σ 13 1 0) := by
    unfold bX4_reads_102
    rw [z_w, z_ui (show (4 : Nat) ≠ 1 by decide), if_neg hn]
  have e2 : bX4_reads_86 σ = some (0, x_u σ 13 1 0) := by
    unfold bX4_reads_86 fX4_fail
    rw [w_failD hn]
    by_cases c : σ 13 1 ≤ σ 13 5
    · rw [if_pos c, e1]
    · rw [if_neg c]; exact e1
  refine ⟨0, _, 0, τ, e2, rfl, w_fr_c hf (fun c hc _ => z_uk hc), h7, z_us _ _ _ _, Or.inr ⟨rfl, rfl, ?_, ?_⟩⟩
  · rw [z_ui (by decide), h3, h5]
  · rw [z_ui (by decide), h4, h6]
theorem w_dead52 {σ0 τ0 σ τ : x_S} (h : w_ft σ0 τ0 σ τ) (hf : w_fr σ0 τ0 σ τ) (K : Int32 → x_S → Option (Int32 × x_S)) (K' : Int32 → x_S → Option (Int32 × x_S)) (x : Int32) : w_E σ0 τ0 (gX4_reads_52 40 K x σ) (gX8_reads_56 K' 0 τ) := by
  have e1 : gX4_reads_52 40 K x σ = bX4_reads_86 σ := by
    unfold gX4_reads_52
    by_cases c : (120 : Int32) ≤ x
    · rw [if_pos c]
    · rw [if_neg c, if_neg (w_ftn h)]
  have e2 : gX8_reads_56 K' 0 τ = some (0, τ) := rfl
  rw [e1, e2]
  exact w_dead86 h hf
theorem w_dead17 {σ0 τ0 σ τ : x_S} (h : w_ft σ0 τ0 σ τ) (hf : w_fr σ0 τ0 σ τ) (K : Int32 → x_S → Option (Int32 × x_S)) (K' : Int32 → x_S → Option (Int32 × x_S)) (x : Int32) : w_E σ0 τ0 (gX4_reads_17 40 K x σ) (gX8_reads_35 K' 0 τ) := by
  have e1 : gX4_reads_17 40 K x σ = bX4_reads_52 40 0 σ := by
    unfold gX4_reads_17
    by_cases c : (120 : Int32) ≤ x
    · rw [if_pos c]
    · rw [if_neg c, if_neg (w_ftn h)]
  have e2 : gX8_reads_35 K' 0 τ = bX8_reads_56 0 τ := rfl
  obtain ⟨F, hF⟩ : ∃ F, x_F = F + 1 := ⟨4095, rfl⟩
  rw [e1, e2]
  unfold bX4_reads_52 bX8_reads_56
  rw [hF]
  show w_E σ0 τ0 (gX4_reads_52 40 (x_fx _ _ F) 0 σ) (gX8_reads_56 (x_fx _ _ F) 0 τ)
  exact w_dead52 h hf _ _ _
/-- the end of the text -/
theorem w_live86 {σ0 τ0 σ τ : x_S} {n p : Nat} {w : z_V} (h : w_L σ0 τ0 n p w σ τ) : w_E σ0 τ0 (bX4_reads_86 σ) (bX8_reads_94 1 τ) := by
  obtain ⟨hl, hf, hS, hM, h400, hok, hz⟩ := h
  obtain ⟨ht, hp, h4, h5, g5, h2, hj⟩ := hl
  have hn := ht.2.2.1
  unfold bX4_reads_86 bX8_reads_94
  rw [if_neg z_10, ht.1, h5, g5, ht.2.1]
  by_cases c : p < n
  · obtain ⟨σ1, s1, s2, s3, s4, s5, s6, s7⟩ := w_failAt h4 (σ 13 5) 1
    have e1 : fX4_fail 1 σ = some σ1 := by unfold fX4_fail; rw [s1]; rfl
    rw [if_neg (nI_ge c (by omega)), if_neg (show ¬ nI p = nI n from fun z => by have := (nI_eq (a := p) (b := n) (by omega) (by omega)).mp z; omega), e1, z_v, w_refuse, z_b, if_pos rfl]
    unfold bX4_reads_102
    rw [z_w, z_ui (show (4 : Nat) ≠ 1 by decide), if_neg (by rw [s3]; exact z_10)]
    refine ⟨0, _, 0, _, rfl, rfl, w_fr_d (w_fr_c hf (fun c hc _ => (z_uk hc).trans (s2 c hc))) (fun c hc _ => z_uk hc) (fun j _ => by rw [z_uk (by decide)]), fun j j1 j2 j3 => (z_ui j2).trans (hj j j1 j2 j3), z_us _ _ _ _, Or.inr ⟨rfl, rfl, ?_, ?_⟩⟩
    · rw [z_ui (by decide), s4, z_us]
    · rw [z_ui (by decide), s5, h5, z_ui (by decide), g5]
  · have e : p = n := by omega
    subst e
    rw [if_pos (Int32.le_refl _), if_pos rfl]
    unfold bX4_reads_102
    rw [z_w, z_ui (show (4 : Nat) ≠ 1 by decide), if_pos h4]
    refine ⟨1, _, 1, _, rfl, rfl, w_fr_c hf (fun c hc _ => z_uk hc), hj, z_us _ _ _ _, Or.inl ⟨rfl, rfl, (z_ui (by decide)).trans h2, w, z_S_c hS (fun k g1 g2 => z_uk (by omega)), hM, ?_, hok⟩⟩
    rw [z_uk (by decide)]; exact h400
theorem w_gesL {σ0 τ0 : x_S} {n : Nat} : ∀ d w p f f' σ τ, 6 < w 2 + d → d < f → d < f' → w_L σ0 τ0 n p w σ τ → w_E σ0 τ0 (x_fx (α := Int32 → x_S → Option (Int32 × x_S)) (fun _ _ => none) (fun K => fun x2 σ => gX4_reads_52 40 K x2 σ) f (nI (w 2)) σ) (x_fx (α := Int32 → x_S → Option (Int32 × x_S)) (fun _ _ => none) (fun K => fun x1 σ => gX8_reads_56 K x1 σ) f' 1 τ) := by
  intro d
  induction d with
  | zero =>
    intro w p f f' σ τ hd hf hf' h
    have := h.2.2.2.2.2.1.2.2.1
    exact absurd hd (by omega)
  | succ d ih =>
    intro w p f f' σ τ hd hf hf' h
    have h6 := h.2.2.2.2.2.1.2.2.1
    obtain ⟨ht, hp, h4, h5, g5, h2, hj⟩ := h.1
    have hn := ht.2.2.1
    cases f with
    | zero => exact absurd hf (by omega)
    | succ f =>
      cases f' with
      | zero => exact absurd hf' (by omega)
      | succ f' =>
        have hx := w_next hn ht.1 h5 (show p < 1000 by omega)
        have hc : ¬ (120 : Int32) ≤ nI (w 2) := fun z => by have := (z_geL (a := w 2) (y := (120 : Int32)) 120 rfl (by omega) (by decide)).mp z; omega
        show w_E σ0 τ0 (gX4_reads_52 40 (x_fx _ _ f) (nI (w 2)) σ) (gX8_reads_56 (x_fx _ _ f') 1 τ)
        by_cases c : p < n
        · obtain ⟨kd, k5, kS, kM⟩ := w_kind (τ 6 p) σ τ
          have hx2 : fX4_next σ = some (τ 6 p) := by rw [hx, if_pos c, ht.2.2.2 p c]
          have eM : ∀ K : Int32 → x_S → Option (Int32 × x_S), gX8_reads_56 K 1 τ = if nI kd ≤ 0 then bX8_reads_94 1 τ else x_b (fX8_readsGesture τ) (fun r s => K r s) := by
            intro K
            unfold gX8_reads_56
            rw [if_neg z_10, ht.2.1, g5, if_neg (nI_ge c (by omega)), z_gi (n := 120) (by omega) (by decide), z_cl (by omega), kM, z_p]
          have eS : ∀ K : Int32 → x_S → Option (Int32 × x_S), gX4_reads_52 40 K (nI (w 2)) σ = if nI kd = 0 then bX4_reads_86 σ else x_v (fX4_readGesture 40 σ) (fun s => K (nI (w 2 + 1)) s) := by
            intro K
            unfold gX4_reads_52
            rw [if_neg hc, if_pos h4, hx2, z_p, kS, z_p, nI_1]
          rw [eM, eS]
          by_cases k0 : kd = 0
          · subst k0
            rw [if_pos (show nI 0 = (0 : Int32) from rfl), if_pos (by decide)]
            exact w_live86 h
          · rw [if_neg (show ¬ nI kd = (0 : Int32) from fun z => k0 ((nI_eq (a := kd) (b := 0) (by omega) (by decide)).mp z)), if_neg (show ¬ nI kd ≤ (0 : Int32) from fun z => k0 (by have := (nI_leI (a := kd) (b := 0) (by omega) (by decide)).mp z; omega))]
            obtain ⟨σ', r, τ', s1, s2, s3⟩ := w_gesture h c (Nat.one_le_iff_ne_zero.mpr k0) k5 (fun s => kS) (fun s => kM)
            rw [s1, s2, z_v, z_b]
            rcases s3 with ⟨rfl, c6, p', w', e1, e2, hL⟩ | ⟨rfl, a, b, hD, ha, hb⟩
            · rw [← e2]
              exact ih w' p' f f' σ' τ' (by omega) (by omega) (by omega) hL
            · cases f with
              | zero => exact absurd hf (by omega)
              | succ f =>
                cases f' with
                | zero => exact absurd hf' (by omega)
                | succ f' =>
                  show w_E σ0 τ0 (gX4_reads_52 40 (x_fx _ _ f) (nI (w 2 + 1)) σ') (gX8_reads_56 (x_fx _ _ f') 0 τ')
                  exact w_dead52 hD.1 hD.2.1 _ _ _
        · have hx2 : fX4_next σ = some (-1) := by rw [hx, if_neg c]
          have eM : ∀ K : Int32 → x_S → Option (Int32 × x_S), gX8_reads_56 K 1 τ = bX8_reads_94 1 τ := by
            intro K
            unfold gX8_reads_56
            rw [if_neg z_10, ht.2.1, g5, if_pos (nI_le (by omega) (by omega))]
          have eS : ∀ K : Int32 → x_S → Option (Int32 × x_S), gX4_reads_52 40 K (nI (w 2)) σ = bX4_reads_86 σ := by
            intro K
            unfold gX4_reads_52
            rw [if_neg hc, if_pos h4, hx2, z_p]
            rfl
          rw [eM, eS]
          exact w_live86 h
theorem w_strL {σ0 τ0 : x_S} {n : Nat} : ∀ d w p f f' σ τ, 7 < w 1 + d → d < f → d < f' → w 2 = 0 → w_L σ0 τ0 n p w σ τ → w_E σ0 τ0 (x_fx (α := Int32 → x_S → Option (Int32 × x_S)) (fun _ _ => none) (fun K => fun x2 σ => gX4_reads_17 40 K x2 σ) f (nI (w 1)) σ) (x_fx (α := Int32 → x_S → Option (Int32 × x_S)) (fun _ _ => none) (fun K => fun x1 σ => gX8_reads_35 K x1 σ) f' 1 τ) := by
  intro d
  induction d with
  | zero =>
    intro w p f f' σ τ hd hf hf' h0 h
    have := h.2.2.2.2.2.1.2.1
    exact absurd hd (by omega)
  | succ d ih =>
    intro w p f f' σ τ hd hf hf' h0 h
    have h7 := h.2.2.2.2.2.1.2.1
    obtain ⟨ht, hp, h4, h5, g5, h2, hj⟩ := h.1
    have hn := ht.2.2.1
    cases f with
    | zero => exact absurd hf (by omega)
    | succ f =>
      cases f' with
      | zero => exact absurd hf' (by omega)
      | succ f' =>
        have hx := w_next hn ht.1 h5 (show p < 1000 by omega)
        have hc : ¬ (120 : Int32) ≤ nI (w 1) := fun z => by have := (z_geL (a := w 1) (y := (120 : Int32)) 120 rfl (by omega) (by decide)).mp z; omega
        have ends : w_E σ0 τ0 (bX4_reads_52 40 0 σ) (bX8_reads_56 1 τ) := by
          have := w_gesL (σ0 := σ0) (τ0 := τ0) (n := n) 7 w p x_F x_F σ τ (by omega) (z_fuel (by decide)) (z_fuel (by decide)) h
          rw [h0] at this
          exact this
        show w_E σ0 τ0 (gX4_reads_17 40 (x_fx _ _ f) (nI (w 1)) σ) (gX8_reads_35 (x_fx _ _ f') 1 τ)
        by_cases c : p < n
        · have hx2 : fX4_next σ = some (τ 6 p) := by rw [hx, if_pos c, ht.2.2.2 p c]
          have eM : ∀ K : Int32 → x_S → Option (Int32 × x_S), gX8_reads_35 K 1 τ = if τ 6 p = 114 then x_b (fX8_readsStreet τ) (fun r s => K r s) else bX8_reads_56 1 τ := by
            intro K
            unfold gX8_reads_35 fX8_isLetter
            rw [if_neg z_10, ht.2.1, g5, if_neg (nI_ge c (by omega)), z_gi (n := 120) (by omega) (by decide), z_cl (by omega)]
            by_cases k : τ 6 p = 114
            · rw [if_pos k, z_p, if_neg z_10, if_pos k]
            · rw [if_neg k, z_p, if_pos rfl, if_neg k]
          have eS : ∀ K : Int32 → x_S → Option (Int32 × x_S), gX4_reads_17 40 K (nI (w 1)) σ = if τ 6 p = 114 then x_v (fX4_readStreet 40 σ) (fun s => K (nI (w 1 + 1)) s) else bX4_reads_52 40 0 σ := by
            intro K
            unfold gX4_reads_17
            rw [if_neg hc, if_pos h4, hx2, z_p, nI_1]
          rw [eM, eS]
          by_cases k0 : τ 6 p = 114
          · rw [if_pos k0, if_pos k0]
            obtain ⟨σ', r, τ', s1, s2, s3⟩ := w_street h c k0
            rw [s1, s2, z_v, z_b]
            rcases s3 with ⟨rfl, c6, p', w', e1, e2, hL⟩ | ⟨rfl, a, b, hD, ha, hb⟩
            · rw [← e1]
              exact ih w' p' f f' σ' τ' (by omega) (by omega) (by omega) (e2.trans h0) hL
            · cases f with
              | zero => exact absurd hf (by omega)
              | succ f =>
                cases f' with
                | zero => exact absurd hf' (by omega)
                | succ f' =>
                  show w_E σ0 τ0 (gX4_reads_17 40 (x_fx _ _ f) (nI (w 1 + 1)) σ') (gX8_reads_35 (x_fx _ _ f') 0 τ')
                  exact w_dead17 hD.1 hD.2.1 _ _ _
          · rw [if_neg k0, if_neg k0]
            exact ends
        · have hx2 : fX4_next σ = some (-1) := by rw [hx, if_neg c]
          have eM : ∀ K : Int32 → x_S → Option (Int32 × x_S), gX8_reads_35 K 1 τ = bX8_reads_56 1 τ := by
            intro K
            unfold gX8_reads_35 fX8_isLetter
            rw [if_neg z_10, ht.2.1, g5, if_pos (nI_le (by omega) (by omega)), z_p, if_pos rfl]
          have eS : ∀ K : Int32 → x_S → Option (Int32 × x_S), gX4_reads_17 40 K (nI (w 1)) σ = bX4_reads_52 40 0 σ := by
            intro K
            unfold gX4_reads_17
            rw [if_neg hc, if_pos h4, hx2, z_p, if_neg (by decide)]
          rw [eM, eS]
          exact ends
theorem w_reads {σ τ : x_S} (h : z_tape σ τ) : w_E σ τ (fX4_reads 40 σ) (fX8_reads τ) := by
  obtain ⟨n, hn, h1, h2, h3⟩ := h
  obtain ⟨f1, f2, f3⟩ := z_fold_0 1 1323 0 49 0 τ
  have eM : fX8_reads τ = x_b (fX8_readsLaw (x_u (z_fold (fun i σ => x_u σ 1 (1323 + i) 0) 0 49 τ) 0 13 0)) (fun r s => bX8_reads_35 r s) := by
    unfold fX8_reads bX8_reads_2
    refine (z_loopS (N := 49) (r := fun s => x_b (fX8_readsLaw (x_u s 0 13 0)) (fun r s => bX8_reads_35 r s)) (f := fun i σ => x_u σ 1 (1323 + i) 0) (fun K u i hi => ?_) (fun K u => ?_) 49 x_F 0 τ (by omega) (z_fuel (by omega)))
    · show gX8_reads_2 K (nI i) u = _
      unfold gX8_reads_2
      rw [if_neg (fun z => by have := (z_geL (a := i) (y := (49 : Int32)) 49 rfl (by omega) (by decide)).mp z; omega), show (1323 : Int32) + nI i = nI (1323 + i) from nI_add 1323 i, z_gi (n := 1372) (by omega) (by decide), z_w, z_cl (by omega), nI_1]
    · show gX8_reads_2 K (nI 49) u = _
      unfold gX8_reads_2
      rw [if_pos (by decide), z_w]
  have eS : fX4_reads 40 σ = x_v (fX4_readLaw 40 (x_u (x_u σ 13 4 0) 13 5 0)) (fun s => bX4_reads_17 40 0 s) := by
    unfold fX4_reads
    rw [z_w, z_w]
  rw [eM, eS]
  generalize qM : z_fold (fun i σ => x_u σ 1 (1323 + i) 0) 0 49 τ = τ1 at f1 f2 f3
  have l : w_lv σ τ n 0 (x_u (x_u σ 13 4 0) 13 5 0) (x_u τ1 0 13 0) := by
    refine ⟨⟨?_, ?_, hn, fun i hi => ?_⟩, Nat.zero_le _, ?_, z_us _ _ _ _, z_us _ _ _ _, ?_, fun j j1 j2 j3 => ?_⟩
    · rw [z_ui (by decide), z_ui (by decide)]; exact h1
    · rw [z_ui (by decide), f1 0 (by decide)]; exact h2
    · rw [z_uk (by decide), z_uk (by decide), z_uk (by decide), f1 6 (by decide)]; exact h3 i hi
    · rw [z_ui (by decide), z_us]
    · rw [z_ui (by decide), z_ui (by decide)]
    · rw [z_ui j1, f1 0 (by decide)]
  have hf : w_fr σ τ (x_u (x_u σ 13 4 0) 13 5 0) (x_u τ1 0 13 0) := ⟨fun c hc _ => (z_uk hc).trans (z_uk hc), fun c hc hd => (z_uk hc).trans (f1 c hd), fun j hj => by rw [z_uk (by decide)]; exact f2 j (Or.inl hj)⟩
  obtain ⟨σ', r, τ', s1, s2, s3⟩ := w_law l hf (fun k hk => by rw [z_uk (by decide)]; exact f3 k (Nat.zero_le _) (by omega))
  rw [s1, s2, z_v, z_b]
  rcases s3 with ⟨rfl, p, w, w1, w2, hL⟩ | ⟨rfl, hD⟩
  · have := w_strL (σ0 := σ) (τ0 := τ) (n := n) 8 w p x_F x_F σ' τ' (by omega) (z_fuel (by decide)) (z_fuel (by decide)) w2 hL
    rw [w1] at this
    exact this
  · obtain ⟨F, hF⟩ : ∃ F, x_F = F + 1 := ⟨4095, rfl⟩
    unfold bX4_reads_17 bX8_reads_35
    rw [hF]
    show w_E σ τ (gX4_reads_17 40 (x_fx _ _ F) 0 σ') (gX8_reads_35 (x_fx _ _ F) 0 τ')
    exact w_dead17 hD.1 hD.2.1 _ _ _
/-- city -/
theorem o_city {σ τ : x_S} (h : z_Rel σ τ) : z_op (fX7_city σ) (fX8_city τ) z_Rel := by
  obtain ⟨hst, hr, hta, hf, hto, him, htr⟩ := h
  obtain ⟨a, σ1, r, τ1, s1, t1, ⟨q1, q2, q3⟩, qj, q13, qq⟩ := w_reads hta
  unfold z_op fX7_city fX8_city
  rw [s1, t1, z_b, z_b, z_w]
  rcases qq with ⟨rfl, rfl, e2, w, wS, wM, w40, wok⟩ | ⟨rfl, rfl, e2, e3⟩
  · rw [if_neg z_10, if_neg z_10]
    obtain ⟨v, n, p, V, hT, hsd, hn, hp, k1, k2, k3, hV, hpast⟩ := hto
    obtain ⟨σ2, b1, b2, b3, b4⟩ := z_become (σ := σ1) (c0 := 32) (c1 := 40) (by omega) wS (Or.inr w40) wok.2.1 wok.2.2.1
    obtain ⟨τ2, y1, y2, y3, y4⟩ := z_copyTown (τ := x_u τ1 0 8 0) (a := 1323) (b := 0) (by omega) (by omega) (by omega)
    have y1 : fX8_copyTown 1323 0 (x_u τ1 0 8 0) = some τ2 := y1
    have ef : fX0_forgetAll σ2 = some (x_u σ2 16 4 0) := rfl
    rw [b1, z_v, ef, z_v, y1, z_v, z_w, z_w, z_c2]
    have M2 : z_M τ2 0 w := z_M_c (τ := τ1) wM ⟨wok.2.1, wok.2.2.1⟩ (fun k hk => by
      have := y4 k hk
      rw [z_uk (by decide)] at this
      exact this)
    have es : ∀ c, c ≠ 13 → c ≠ 16 → (c < 32 ∨ 48 ≤ c) → x_u σ2 16 4 0 c = σ c := fun c h1 h2 h3 => (z_uk h2).trans ((b2 c (by omega)).trans (q1 c h1 (by omega)))
    have et : ∀ c, c ≠ 0 → c ≠ 1 → x_u (x_u τ2 0 1 1) 0 2 0 c = τ c := fun c h1 h2 => (z_uk h1).trans ((z_uk h1).trans ((y2 c h2).trans ((z_uk h1).trans (q2 c h1 h2))))
    have e0 : ∀ j, j ≠ 1 → j ≠ 2 → j ≠ 8 → j ≠ 13 → j ≠ 14 → j ≠ 15 → x_u (x_u τ2 0 1 1) 0 2 0 0 j = τ 0 j := fun j j1 j2 j3 j4 j5 j6 => by
      rw [z_ui j2, z_ui j1, y2 0 (by decide), z_ui j3]; exact qj j j4 j5 j6
    have eM : ∀ k, k < 98 → x_u (x_u τ2 0 1 1) 0 2 0 1 (1225 + k) = τ 1 (1225 + k) := fun k hk => by
      rw [z_uk (by decide), z_uk (by decide), y3 _ (Or.inr (by omega)), z_uk (by decide)]; exact q3 _ (by omega)
    refine ⟨nI (w 2), _, _, ?_, ?_, ?_, z_rows_c hr (fun k g1 g2 => es k (by omega) (by omega) (by omega)) (et 3 (by decide) (by decide)) (et 4 (by decide) (by decide)) (et 5 (by decide) (by decide)), ⟨0, Nat.zero_le _, ?_, ?_, fun i hi => absurd hi (Nat.not_lt_zero _)⟩, ?_, ?_, z_ims_c him (fun k g1 g2 => es k (by omega) (by omega) (by omega)) eM (et 2 (by decide) (by decide)) (fun _ => ?_), z_tr_c htr (by rw [es 30 (by decide) (by decide) (by decide)]) (es 31 (by decide) (by decide) (by decide)) (e0 12 (by decide) (by decide) (by decide) (by decide) (by decide) (by decide)) (et 7 (by decide) (by decide))⟩
    · rw [show x_u σ2 16 4 0 32 5 = nI (w 2) by rw [z_uk (by decide)]; exact b3.2.2.1]
    · rw [show x_u (x_u τ2 0 1 1) 0 2 0 1 2 = nI (w 2) by rw [z_uk (by decide), z_uk (by decide)]; exact M2.2.2.1]
    · show x_u σ2 16 4 0 0 8 = x_u (x_u τ2 0 1 1) 0 2 0 0 10
      rw [es 0 (by decide) (by decide) (by decide), e0 10 (by decide) (by decide) (by decide) (by decide) (by decide) (by decide)]; exact hst
    · rw [z_uk (by decide), b2 13 (by decide)]; exact q13
    · rw [z_ui (by decide), z_ui (by decide), y2 0 (by decide), z_us]; rfl
    · rw [z_uk (by decide), b2 13 (by decide), e2, e0 9 (by decide) (by decide) (by decide) (by decide) (by decide) (by decide)]; exact hf
    · refine ⟨w, 0, p, fun _ => w, ⟨wok, z_S_c b3 (fun k g1 g2 => z_uk (by omega)), z_M_c M2 ⟨wok.2.1, wok.2.2.1⟩ (fun k _ => by rw [z_uk (by decide), z_uk (by decide)])⟩, Or.inl ⟨?_, ?_⟩, Nat.zero_le _, hp, z_us _ _ _ _, z_us _ _ _ _, ?_, rfl, fun i hi => absurd hi (Nat.not_lt_zero _)⟩
      · rw [z_uk (by decide), b4]; exact w40
      · rw [z_ui (by decide), z_us]
      · rw [z_ui (by decide), b2 16 (by decide), q1 16 (by decide) (by decide)]; exact k3
    · rw [z_ui (by decide), z_us]
  · rw [if_pos rfl, if_pos rfl, z_w]
    have et : ∀ c, c ≠ 0 → c ≠ 1 → x_u (x_u τ1 0 8 0) 0 9 (x_u τ1 0 8 0 0 14) c = τ c := fun c h1 h2 => (z_uk h1).trans ((z_uk h1).trans (q2 c h1 h2))
    have e0 : ∀ j, j ≠ 9 → j ≠ 8 → j ≠ 13 → j ≠ 14 → j ≠ 15 → x_u (x_u τ1 0 8 0) 0 9 (x_u τ1 0 8 0 0 14) 0 j = τ 0 j := fun j j1 j3 j4 j5 j6 => by
      rw [z_ui j1, z_ui j3]; exact qj j j4 j5 j6
    have eM : ∀ k, k < 1323 → x_u (x_u τ1 0 8 0) 0 9 (x_u τ1 0 8 0 0 14) 1 k = τ 1 k := fun k hk => by
      rw [z_uk (by decide), z_uk (by decide)]; exact q3 k hk
    refine ⟨(-1000100) - (σ1 13 3), σ1, _, rfl, ?_, ?_, z_rows_c hr (fun k g1 g2 => q1 k (by omega) (by omega)) (et 3 (by decide) (by decide)) (et 4 (by decide) (by decide)) (et 5 (by decide) (by decide)), ⟨0, Nat.zero_le _, q13, ?_, fun i hi => absurd hi (Nat.not_lt_zero _)⟩, ?_, z_town_c hto (fun k g1 g2 => q1 k (by omega) (by omega)) (fun k g1 g2 => q1 k (by omega) (by omega)) (fun k hk => eM k (by omega)) (e0 1 (by decide) (by decide) (by decide) (by decide) (by decide)) (e0 2 (by decide) (by decide) (by decide) (by decide) (by decide)), z_ims_c him (fun k g1 g2 => q1 k (by omega) (by omega)) (fun k hk => eM _ (by omega)) (et 2 (by decide) (by decide)) (fun z => (e0 1 (by decide) (by decide) (by decide) (by decide) (by decide)).trans z), z_tr_c htr (by rw [q1 30 (by decide) (by decide)]) (q1 31 (by decide) (by decide)) (e0 12 (by decide) (by decide) (by decide) (by decide) (by decide)) (et 7 (by decide) (by decide))⟩
    · rw [show x_u (x_u τ1 0 8 0) 0 9 (x_u τ1 0 8 0 0 14) 0 13 = σ1 13 3 by rw [z_ui (by decide), z_ui (by decide)]; exact e3.symm]
    · show σ1 0 8 = x_u (x_u τ1 0 8 0) 0 9 (x_u τ1 0 8 0 0 14) 0 10
      rw [q1 0 (by decide) (by decide), e0 10 (by decide) (by decide) (by decide) (by decide) (by decide)]; exact hst
    · rw [z_ui (by decide), z_us]; rfl
    · rw [z_us, z_ui (by decide)]; exact e2
end
section
/-! ===== pure: every call ===== -/
theorem z_all : ∀ σ τ, z_Rel σ τ → ∀ k, k < 32 → ∀ a1 a2 a3 a4 a5 a6, z_op (y_S k a1 a2 a3 a4 a5 a6 σ) (y_M k a1 a2 a3 a4 a5 a6 τ) z_Rel := z_ops (fun _ _ h => o_city h) (fun _ _ h a1 a2 a3 a4 a5 => o_tell h a1 a2 a3 a4 a5)
end
