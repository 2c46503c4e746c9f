section
-- ===== PART A: goes FIRST, ahead of the names: the tables' words, and 'selects' of the private methods out of them =====
/-- a private method of a class that the tables say can be made, by its rows of tables_1 -/
def lw_okq (q : MethodName × Nat) : Prop := (q.1.cls ≠ "java/lang/invoke/MethodHandle" ∧ q.1.cls ≠ "java/lang/invoke/VarHandle") ∧ Cond.instantiable q.1.cls q.2 ∈ tables_1 ∧ Cond.privateMethod q.1 ∈ tables_1 ∧ Cond.instanceMethod q.1 ∈ tables_1
theorem lw_p0 : lw_okq (⟨"SignDuty", "found", "(I)I"⟩, 9) := ⟨⟨by decide +kernel, by decide +kernel⟩, List.mem_of_getElem? (i := 14) (by decide +kernel), List.mem_of_getElem? (i := 233) (by decide +kernel), List.mem_of_getElem? (i := 234) (by decide +kernel)⟩
theorem lw_p1 : lw_okq (⟨"SignDuty", "foundNothing", "(I)I"⟩, 9) := ⟨⟨by decide +kernel, by decide +kernel⟩, List.mem_of_getElem? (i := 14) (by decide +kernel), List.mem_of_getElem? (i := 242) (by decide +kernel), List.mem_of_getElem? (i := 243) (by decide +kernel)⟩
theorem lw_p2 : lw_okq (⟨"SignDuty$Reader", "readLaw", "(LSignDuty$City;)V"⟩, 6) := ⟨⟨by decide +kernel, by decide +kernel⟩, List.mem_of_getElem? (i := 41) (by decide +kernel), List.mem_of_getElem? (i := 316) (by decide +kernel), List.mem_of_getElem? (i := 317) (by decide +kernel)⟩
theorem lw_p3 : lw_okq (⟨"SignDuty$Reader", "readSign", "(I)V"⟩, 6) := ⟨⟨by decide +kernel, by decide +kernel⟩, List.mem_of_getElem? (i := 41) (by decide +kernel), List.mem_of_getElem? (i := 320) (by decide +kernel), List.mem_of_getElem? (i := 321) (by decide +kernel)⟩
theorem lw_p4 : lw_okq (⟨"SignDuty$Reader", "next", "()I"⟩, 6) := ⟨⟨by decide +kernel, by decide +kernel⟩, List.mem_of_getElem? (i := 41) (by decide +kernel), List.mem_of_getElem? (i := 324) (by decide +kernel), List.mem_of_getElem? (i := 325) (by decide +kernel)⟩
theorem lw_p5 : lw_okq (⟨"SignDuty$Reader", "fail", "(I)V"⟩, 6) := ⟨⟨by decide +kernel, by decide +kernel⟩, List.mem_of_getElem? (i := 41) (by decide +kernel), List.mem_of_getElem? (i := 328) (by decide +kernel), List.mem_of_getElem? (i := 329) (by decide +kernel)⟩
theorem lw_p6 : lw_okq (⟨"SignDuty$Reader", "failAt", "(II)V"⟩, 6) := ⟨⟨by decide +kernel, by decide +kernel⟩, List.mem_of_getElem? (i := 41) (by decide +kernel), List.mem_of_getElem? (i := 332) (by decide +kernel), List.mem_of_getElem? (i := 333) (by decide +kernel)⟩
theorem lw_p7 : lw_okq (⟨"SignDuty$Reader", "readNumber", "(II)I"⟩, 6) := ⟨⟨by decide +kernel, by decide +kernel⟩, List.mem_of_getElem? (i := 41) (by decide +kernel), List.mem_of_getElem? (i := 336) (by decide +kernel), List.mem_of_getElem? (i := 337) (by decide +kernel)⟩
theorem lw_p8 : lw_okq (⟨"SignDuty$Reader", "readStreet", "(LSignDuty$City;)V"⟩, 6) := ⟨⟨by decide +kernel, by decide +kernel⟩, List.mem_of_getElem? (i := 41) (by decide +kernel), List.mem_of_getElem? (i := 345) (by decide +kernel), List.mem_of_getElem? (i := 346) (by decide +kernel)⟩
theorem lw_p9 : lw_okq (⟨"SignDuty$Reader", "readGesture", "(LSignDuty$City;)V"⟩, 6) := ⟨⟨by decide +kernel, by decide +kernel⟩, List.mem_of_getElem? (i := 41) (by decide +kernel), List.mem_of_getElem? (i := 352) (by decide +kernel), List.mem_of_getElem? (i := 353) (by decide +kernel)⟩
theorem lw_p10 : lw_okq (⟨"SignDuty", "isGesture", "(I)Z"⟩, 9) := ⟨⟨by decide +kernel, by decide +kernel⟩, List.mem_of_getElem? (i := 14) (by decide +kernel), List.mem_of_getElem? (i := 374) (by decide +kernel), List.mem_of_getElem? (i := 375) (by decide +kernel)⟩
theorem lw_p11 : lw_okq (⟨"SignDuty", "isStreet", "(I)Z"⟩, 9) := ⟨⟨by decide +kernel, by decide +kernel⟩, List.mem_of_getElem? (i := 14) (by decide +kernel), List.mem_of_getElem? (i := 378) (by decide +kernel), List.mem_of_getElem? (i := 379) (by decide +kernel)⟩
theorem lw_p12 : lw_okq (⟨"SignDuty$City", "owesUnknown", "(III)I"⟩, 13) := ⟨⟨by decide +kernel, by decide +kernel⟩, List.mem_of_getElem? (i := 69) (by decide +kernel), List.mem_of_getElem? (i := 395) (by decide +kernel), List.mem_of_getElem? (i := 396) (by decide +kernel)⟩
theorem lw_p13 : lw_okq (⟨"SignDuty", "isStretch", "(II)Z"⟩, 9) := ⟨⟨by decide +kernel, by decide +kernel⟩, List.mem_of_getElem? (i := 14) (by decide +kernel), List.mem_of_getElem? (i := 468) (by decide +kernel), List.mem_of_getElem? (i := 469) (by decide +kernel)⟩
theorem lw_p14 : lw_okq (⟨"SignDuty$Teller", "fill", "(LSignDuty$City;IIII)V"⟩, 1) := ⟨⟨by decide +kernel, by decide +kernel⟩, List.mem_of_getElem? (i := 170) (by decide +kernel), List.mem_of_getElem? (i := 476) (by decide +kernel), List.mem_of_getElem? (i := 477) (by decide +kernel)⟩
theorem lw_p15 : lw_okq (⟨"SignDuty$Teller", "offer", "(IIII)V"⟩, 1) := ⟨⟨by decide +kernel, by decide +kernel⟩, List.mem_of_getElem? (i := 170) (by decide +kernel), List.mem_of_getElem? (i := 486) (by decide +kernel), List.mem_of_getElem? (i := 487) (by decide +kernel)⟩
def lw_privs_1 : List (MethodName × Nat) := [(⟨"SignDuty", "found", "(I)I"⟩, 9), (⟨"SignDuty", "foundNothing", "(I)I"⟩, 9), (⟨"SignDuty$Reader", "readLaw", "(LSignDuty$City;)V"⟩, 6), (⟨"SignDuty$Reader", "readSign", "(I)V"⟩, 6), (⟨"SignDuty$Reader", "next", "()I"⟩, 6), (⟨"SignDuty$Reader", "fail", "(I)V"⟩, 6), (⟨"SignDuty$Reader", "failAt", "(II)V"⟩, 6), (⟨"SignDuty$Reader", "readNumber", "(II)I"⟩, 6), (⟨"SignDuty$Reader", "readStreet", "(LSignDuty$City;)V"⟩, 6), (⟨"SignDuty$Reader", "readGesture", "(LSignDuty$City;)V"⟩, 6), (⟨"SignDuty", "isGesture", "(I)Z"⟩, 9), (⟨"SignDuty", "isStreet", "(I)Z"⟩, 9), (⟨"SignDuty$City", "owesUnknown", "(III)I"⟩, 13), (⟨"SignDuty", "isStretch", "(II)Z"⟩, 9), (⟨"SignDuty$Teller", "fill", "(LSignDuty$City;IIII)V"⟩, 1), (⟨"SignDuty$Teller", "offer", "(IIII)V"⟩, 1)]
theorem lw_r1 : ∀ q ∈ lw_privs_1, lw_okq q := List.forall_mem_cons.mpr ⟨lw_p0, List.forall_mem_cons.mpr ⟨lw_p1, List.forall_mem_cons.mpr ⟨lw_p2, List.forall_mem_cons.mpr ⟨lw_p3, List.forall_mem_cons.mpr ⟨lw_p4, List.forall_mem_cons.mpr ⟨lw_p5, List.forall_mem_cons.mpr ⟨lw_p6, List.forall_mem_cons.mpr ⟨lw_p7, List.forall_mem_cons.mpr ⟨lw_p8, List.forall_mem_cons.mpr ⟨lw_p9, List.forall_mem_cons.mpr ⟨lw_p10, List.forall_mem_cons.mpr ⟨lw_p11, List.forall_mem_cons.mpr ⟨lw_p12, List.forall_mem_cons.mpr ⟨lw_p13, List.forall_mem_cons.mpr ⟨lw_p14, List.forall_mem_cons.mpr ⟨lw_p15, fun _ h => absurd h List.not_mem_nil⟩⟩⟩⟩⟩⟩⟩⟩⟩⟩⟩⟩⟩⟩⟩⟩
theorem lw_p16 : lw_okq (⟨"SignDuty$Teller", "firstOfCheapest", "(LSignDuty$City;III)I"⟩, 1) := ⟨⟨by decide +kernel, by decide +kernel⟩, List.mem_of_getElem? (i := 170) (by decide +kernel), List.mem_of_getElem? (i := 496) (by decide +kernel), List.mem_of_getElem? (i := 497) (by decide +kernel)⟩
theorem lw_p17 : lw_okq (⟨"SignDuty", "refusalOfThread", "(III)I"⟩, 9) := ⟨⟨by decide +kernel, by decide +kernel⟩, List.mem_of_getElem? (i := 14) (by decide +kernel), List.mem_of_getElem? (i := 524) (by decide +kernel), List.mem_of_getElem? (i := 525) (by decide +kernel)⟩
theorem lw_p18 : lw_okq (⟨"SignDuty", "owesAlong", "(IIIII)Z"⟩, 9) := ⟨⟨by decide +kernel, by decide +kernel⟩, List.mem_of_getElem? (i := 14) (by decide +kernel), List.mem_of_getElem? (i := 532) (by decide +kernel), List.mem_of_getElem? (i := 533) (by decide +kernel)⟩
theorem lw_p19 : lw_okq (⟨"SignDuty", "isSeenAlong", "(IIII)Z"⟩, 9) := ⟨⟨by decide +kernel, by decide +kernel⟩, List.mem_of_getElem? (i := 14) (by decide +kernel), List.mem_of_getElem? (i := 537) (by decide +kernel), List.mem_of_getElem? (i := 538) (by decide +kernel)⟩
theorem lw_p20 : lw_okq (⟨"SignDuty$Asks", "asked", "(LSignDuty$City;III)I"⟩, 2) := ⟨⟨by decide +kernel, by decide +kernel⟩, List.mem_of_getElem? (i := 181) (by decide +kernel), List.mem_of_getElem? (i := 609) (by decide +kernel), List.mem_of_getElem? (i := 610) (by decide +kernel)⟩
theorem lw_p21 : lw_okq (⟨"SignDuty$Asks", "given", "(ILSignDuty$City;II)I"⟩, 2) := ⟨⟨by decide +kernel, by decide +kernel⟩, List.mem_of_getElem? (i := 181) (by decide +kernel), List.mem_of_getElem? (i := 621) (by decide +kernel), List.mem_of_getElem? (i := 622) (by decide +kernel)⟩
theorem lw_p22 : lw_okq (⟨"SignDuty$Asks", "leave", "(I)V"⟩, 2) := ⟨⟨by decide +kernel, by decide +kernel⟩, List.mem_of_getElem? (i := 181) (by decide +kernel), List.mem_of_getElem? (i := 625) (by decide +kernel), List.mem_of_getElem? (i := 626) (by decide +kernel)⟩
theorem lw_p23 : lw_okq (⟨"SignDuty$Asks", "sizeBy", "(ILSignDuty$City;II)I"⟩, 2) := ⟨⟨by decide +kernel, by decide +kernel⟩, List.mem_of_getElem? (i := 181) (by decide +kernel), List.mem_of_getElem? (i := 629) (by decide +kernel), List.mem_of_getElem? (i := 630) (by decide +kernel)⟩
theorem lw_p24 : lw_okq (⟨"SignDuty$Asks", "markBy", "(ILSignDuty$City;II)I"⟩, 2) := ⟨⟨by decide +kernel, by decide +kernel⟩, List.mem_of_getElem? (i := 181) (by decide +kernel), List.mem_of_getElem? (i := 633) (by decide +kernel), List.mem_of_getElem? (i := 634) (by decide +kernel)⟩
theorem lw_p25 : lw_okq (⟨"SignDutyModel", "find", "(I)I"⟩, 17) := ⟨⟨by decide +kernel, by decide +kernel⟩, List.mem_of_getElem? (i := 664) (by decide +kernel), List.mem_of_getElem? (i := 736) (by decide +kernel), List.mem_of_getElem? (i := 737) (by decide +kernel)⟩
theorem lw_p26 : lw_okq (⟨"SignDutyModel", "well", "(I)I"⟩, 17) := ⟨⟨by decide +kernel, by decide +kernel⟩, List.mem_of_getElem? (i := 664) (by decide +kernel), List.mem_of_getElem? (i := 741) (by decide +kernel), List.mem_of_getElem? (i := 742) (by decide +kernel)⟩
theorem lw_p27 : lw_okq (⟨"SignDutyModel", "isSpan", "(III)Z"⟩, 17) := ⟨⟨by decide +kernel, by decide +kernel⟩, List.mem_of_getElem? (i := 664) (by decide +kernel), List.mem_of_getElem? (i := 756) (by decide +kernel), List.mem_of_getElem? (i := 757) (by decide +kernel)⟩
theorem lw_p28 : lw_okq (⟨"SignDutyModel", "reads", "()Z"⟩, 17) := ⟨⟨by decide +kernel, by decide +kernel⟩, List.mem_of_getElem? (i := 664) (by decide +kernel), List.mem_of_getElem? (i := 774) (by decide +kernel), List.mem_of_getElem? (i := 775) (by decide +kernel)⟩
theorem lw_p29 : lw_okq (⟨"SignDutyModel", "readsLaw", "()Z"⟩, 17) := ⟨⟨by decide +kernel, by decide +kernel⟩, List.mem_of_getElem? (i := 664) (by decide +kernel), List.mem_of_getElem? (i := 778) (by decide +kernel), List.mem_of_getElem? (i := 779) (by decide +kernel)⟩
theorem lw_p30 : lw_okq (⟨"SignDutyModel", "sign", "(I)Z"⟩, 17) := ⟨⟨by decide +kernel, by decide +kernel⟩, List.mem_of_getElem? (i := 664) (by decide +kernel), List.mem_of_getElem? (i := 782) (by decide +kernel), List.mem_of_getElem? (i := 783) (by decide +kernel)⟩
theorem lw_p31 : lw_okq (⟨"SignDutyModel", "isLetter", "(I)Z"⟩, 17) := ⟨⟨by decide +kernel, by decide +kernel⟩, List.mem_of_getElem? (i := 664) (by decide +kernel), List.mem_of_getElem? (i := 786) (by decide +kernel), List.mem_of_getElem? (i := 787) (by decide +kernel)⟩
def lw_privs_2 : List (MethodName × Nat) := [(⟨"SignDuty$Teller", "firstOfCheapest", "(LSignDuty$City;III)I"⟩, 1), (⟨"SignDuty", "refusalOfThread", "(III)I"⟩, 9), (⟨"SignDuty", "owesAlong", "(IIIII)Z"⟩, 9), (⟨"SignDuty", "isSeenAlong", "(IIII)Z"⟩, 9), (⟨"SignDuty$Asks", "asked", "(LSignDuty$City;III)I"⟩, 2), (⟨"SignDuty$Asks", "given", "(ILSignDuty$City;II)I"⟩, 2), (⟨"SignDuty$Asks", "leave", "(I)V"⟩, 2), (⟨"SignDuty$Asks", "sizeBy", "(ILSignDuty$City;II)I"⟩, 2), (⟨"SignDuty$Asks", "markBy", "(ILSignDuty$City;II)I"⟩, 2), (⟨"SignDutyModel", "find", "(I)I"⟩, 17), (⟨"SignDutyModel", "well", "(I)I"⟩, 17), (⟨"SignDutyModel", "isSpan", "(III)Z"⟩, 17), (⟨"SignDutyModel", "reads", "()Z"⟩, 17), (⟨"SignDutyModel", "readsLaw", "()Z"⟩, 17), (⟨"SignDutyModel", "sign", "(I)Z"⟩, 17), (⟨"SignDutyModel", "isLetter", "(I)Z"⟩, 17)]
theorem lw_r2 : ∀ q ∈ lw_privs_2, lw_okq q := List.forall_mem_cons.mpr ⟨lw_p16, List.forall_mem_cons.mpr ⟨lw_p17, List.forall_mem_cons.mpr ⟨lw_p18, List.forall_mem_cons.mpr ⟨lw_p19, List.forall_mem_cons.mpr ⟨lw_p20, List.forall_mem_cons.mpr ⟨lw_p21, List.forall_mem_cons.mpr ⟨lw_p22, List.forall_mem_cons.mpr ⟨lw_p23, List.forall_mem_cons.mpr ⟨lw_p24, List.forall_mem_cons.mpr ⟨lw_p25, List.forall_mem_cons.mpr ⟨lw_p26, List.forall_mem_cons.mpr ⟨lw_p27, List.forall_mem_cons.mpr ⟨lw_p28, List.forall_mem_cons.mpr ⟨lw_p29, List.forall_mem_cons.mpr ⟨lw_p30, List.forall_mem_cons.mpr ⟨lw_p31, fun _ h => absurd h List.not_mem_nil⟩⟩⟩⟩⟩⟩⟩⟩⟩⟩⟩⟩⟩⟩⟩⟩
theorem lw_p32 : lw_okq (⟨"SignDutyModel", "refuse", "(I)Z"⟩, 17) := ⟨⟨by decide +kernel, by decide +kernel⟩, List.mem_of_getElem? (i := 664) (by decide +kernel), List.mem_of_getElem? (i := 790) (by decide +kernel), List.mem_of_getElem? (i := 791) (by decide +kernel)⟩
theorem lw_p33 : lw_okq (⟨"SignDutyModel", "readsNumber", "(II)Z"⟩, 17) := ⟨⟨by decide +kernel, by decide +kernel⟩, List.mem_of_getElem? (i := 664) (by decide +kernel), List.mem_of_getElem? (i := 794) (by decide +kernel), List.mem_of_getElem? (i := 795) (by decide +kernel)⟩
theorem lw_p34 : lw_okq (⟨"SignDutyModel", "isFigure", "(I)Z"⟩, 17) := ⟨⟨by decide +kernel, by decide +kernel⟩, List.mem_of_getElem? (i := 664) (by decide +kernel), List.mem_of_getElem? (i := 798) (by decide +kernel), List.mem_of_getElem? (i := 799) (by decide +kernel)⟩
theorem lw_p35 : lw_okq (⟨"SignDutyModel", "readsStreet", "()Z"⟩, 17) := ⟨⟨by decide +kernel, by decide +kernel⟩, List.mem_of_getElem? (i := 664) (by decide +kernel), List.mem_of_getElem? (i := 804) (by decide +kernel), List.mem_of_getElem? (i := 805) (by decide +kernel)⟩
theorem lw_p36 : lw_okq (⟨"SignDutyModel", "readsGesture", "()Z"⟩, 17) := ⟨⟨by decide +kernel, by decide +kernel⟩, List.mem_of_getElem? (i := 664) (by decide +kernel), List.mem_of_getElem? (i := 811) (by decide +kernel), List.mem_of_getElem? (i := 812) (by decide +kernel)⟩
theorem lw_p37 : lw_okq (⟨"SignDutyModel", "copyTown", "(II)V"⟩, 17) := ⟨⟨by decide +kernel, by decide +kernel⟩, List.mem_of_getElem? (i := 664) (by decide +kernel), List.mem_of_getElem? (i := 816) (by decide +kernel), List.mem_of_getElem? (i := 817) (by decide +kernel)⟩
theorem lw_p38 : lw_okq (⟨"SignDutyModel", "isGesture", "(I)Z"⟩, 17) := ⟨⟨by decide +kernel, by decide +kernel⟩, List.mem_of_getElem? (i := 664) (by decide +kernel), List.mem_of_getElem? (i := 833) (by decide +kernel), List.mem_of_getElem? (i := 834) (by decide +kernel)⟩
theorem lw_p39 : lw_okq (⟨"SignDutyModel", "isStreet", "(I)Z"⟩, 17) := ⟨⟨by decide +kernel, by decide +kernel⟩, List.mem_of_getElem? (i := 664) (by decide +kernel), List.mem_of_getElem? (i := 837) (by decide +kernel), List.mem_of_getElem? (i := 838) (by decide +kernel)⟩
theorem lw_p40 : lw_okq (⟨"SignDutyModel", "isSeen", "(II)Z"⟩, 17) := ⟨⟨by decide +kernel, by decide +kernel⟩, List.mem_of_getElem? (i := 664) (by decide +kernel), List.mem_of_getElem? (i := 841) (by decide +kernel), List.mem_of_getElem? (i := 842) (by decide +kernel)⟩
theorem lw_p41 : lw_okq (⟨"SignDutyModel", "dutyOf", "(II)I"⟩, 17) := ⟨⟨by decide +kernel, by decide +kernel⟩, List.mem_of_getElem? (i := 664) (by decide +kernel), List.mem_of_getElem? (i := 845) (by decide +kernel), List.mem_of_getElem? (i := 846) (by decide +kernel)⟩
theorem lw_p42 : lw_okq (⟨"SignDutyModel", "owes", "(III)I"⟩, 17) := ⟨⟨by decide +kernel, by decide +kernel⟩, List.mem_of_getElem? (i := 664) (by decide +kernel), List.mem_of_getElem? (i := 849) (by decide +kernel), List.mem_of_getElem? (i := 850) (by decide +kernel)⟩
theorem lw_p43 : lw_okq (⟨"SignDutyModel", "plainDuty", "(III)I"⟩, 17) := ⟨⟨by decide +kernel, by decide +kernel⟩, List.mem_of_getElem? (i := 664) (by decide +kernel), List.mem_of_getElem? (i := 853) (by decide +kernel), List.mem_of_getElem? (i := 854) (by decide +kernel)⟩
theorem lw_p44 : lw_okq (⟨"SignDutyModel", "wave", "(II)I"⟩, 17) := ⟨⟨by decide +kernel, by decide +kernel⟩, List.mem_of_getElem? (i := 664) (by decide +kernel), List.mem_of_getElem? (i := 857) (by decide +kernel), List.mem_of_getElem? (i := 858) (by decide +kernel)⟩
theorem lw_p45 : lw_okq (⟨"SignDutyModel", "keepPast", "()V"⟩, 17) := ⟨⟨by decide +kernel, by decide +kernel⟩, List.mem_of_getElem? (i := 664) (by decide +kernel), List.mem_of_getElem? (i := 865) (by decide +kernel), List.mem_of_getElem? (i := 866) (by decide +kernel)⟩
theorem lw_p46 : lw_okq (⟨"SignDutyModel", "seenStreets", "(I)I"⟩, 17) := ⟨⟨by decide +kernel, by decide +kernel⟩, List.mem_of_getElem? (i := 664) (by decide +kernel), List.mem_of_getElem? (i := 887) (by decide +kernel), List.mem_of_getElem? (i := 888) (by decide +kernel)⟩
theorem lw_p47 : lw_okq (⟨"SignDutyModel", "seenGestures", "(I)I"⟩, 17) := ⟨⟨by decide +kernel, by decide +kernel⟩, List.mem_of_getElem? (i := 664) (by decide +kernel), List.mem_of_getElem? (i := 895) (by decide +kernel), List.mem_of_getElem? (i := 896) (by decide +kernel)⟩
def lw_privs_3 : List (MethodName × Nat) := [(⟨"SignDutyModel", "refuse", "(I)Z"⟩, 17), (⟨"SignDutyModel", "readsNumber", "(II)Z"⟩, 17), (⟨"SignDutyModel", "isFigure", "(I)Z"⟩, 17), (⟨"SignDutyModel", "readsStreet", "()Z"⟩, 17), (⟨"SignDutyModel", "readsGesture", "()Z"⟩, 17), (⟨"SignDutyModel", "copyTown", "(II)V"⟩, 17), (⟨"SignDutyModel", "isGesture", "(I)Z"⟩, 17), (⟨"SignDutyModel", "isStreet", "(I)Z"⟩, 17), (⟨"SignDutyModel", "isSeen", "(II)Z"⟩, 17), (⟨"SignDutyModel", "dutyOf", "(II)I"⟩, 17), (⟨"SignDutyModel", "owes", "(III)I"⟩, 17), (⟨"SignDutyModel", "plainDuty", "(III)I"⟩, 17), (⟨"SignDutyModel", "wave", "(II)I"⟩, 17), (⟨"SignDutyModel", "keepPast", "()V"⟩, 17), (⟨"SignDutyModel", "seenStreets", "(I)I"⟩, 17), (⟨"SignDutyModel", "seenGestures", "(I)I"⟩, 17)]
theorem lw_r3 : ∀ q ∈ lw_privs_3, lw_okq q := List.forall_mem_cons.mpr ⟨lw_p32, List.forall_mem_cons.mpr ⟨lw_p33, List.forall_mem_cons.mpr ⟨lw_p34, List.forall_mem_cons.mpr ⟨lw_p35, List.forall_mem_cons.mpr ⟨lw_p36, List.forall_mem_cons.mpr ⟨lw_p37, List.forall_mem_cons.mpr ⟨lw_p38, List.forall_mem_cons.mpr ⟨lw_p39, List.forall_mem_cons.mpr ⟨lw_p40, List.forall_mem_cons.mpr ⟨lw_p41, List.forall_mem_cons.mpr ⟨lw_p42, List.forall_mem_cons.mpr ⟨lw_p43, List.forall_mem_cons.mpr ⟨lw_p44, List.forall_mem_cons.mpr ⟨lw_p45, List.forall_mem_cons.mpr ⟨lw_p46, List.forall_mem_cons.mpr ⟨lw_p47, fun _ h => absurd h List.not_mem_nil⟩⟩⟩⟩⟩⟩⟩⟩⟩⟩⟩⟩⟩⟩⟩⟩
theorem lw_p48 : lw_okq (⟨"SignDutyModel", "areStreets", "(II)Z"⟩, 17) := ⟨⟨by decide +kernel, by decide +kernel⟩, List.mem_of_getElem? (i := 664) (by decide +kernel), List.mem_of_getElem? (i := 911) (by decide +kernel), List.mem_of_getElem? (i := 912) (by decide +kernel)⟩
theorem lw_p49 : lw_okq (⟨"SignDutyModel", "layCosts", "(III)V"⟩, 17) := ⟨⟨by decide +kernel, by decide +kernel⟩, List.mem_of_getElem? (i := 664) (by decide +kernel), List.mem_of_getElem? (i := 918) (by decide +kernel), List.mem_of_getElem? (i := 919) (by decide +kernel)⟩
theorem lw_p50 : lw_okq (⟨"SignDutyModel", "onBy", "(IIII)I"⟩, 17) := ⟨⟨by decide +kernel, by decide +kernel⟩, List.mem_of_getElem? (i := 664) (by decide +kernel), List.mem_of_getElem? (i := 923) (by decide +kernel), List.mem_of_getElem? (i := 924) (by decide +kernel)⟩
theorem lw_p51 : lw_okq (⟨"SignDutyModel", "tells", "(III)Z"⟩, 17) := ⟨⟨by decide +kernel, by decide +kernel⟩, List.mem_of_getElem? (i := 664) (by decide +kernel), List.mem_of_getElem? (i := 927) (by decide +kernel), List.mem_of_getElem? (i := 928) (by decide +kernel)⟩
theorem lw_p52 : lw_okq (⟨"SignDutyModel", "soonest", "(II)I"⟩, 17) := ⟨⟨by decide +kernel, by decide +kernel⟩, List.mem_of_getElem? (i := 664) (by decide +kernel), List.mem_of_getElem? (i := 936) (by decide +kernel), List.mem_of_getElem? (i := 937) (by decide +kernel)⟩
theorem lw_p53 : lw_okq (⟨"SignDutyModel", "noPairs", "(III)I"⟩, 17) := ⟨⟨by decide +kernel, by decide +kernel⟩, List.mem_of_getElem? (i := 664) (by decide +kernel), List.mem_of_getElem? (i := 949) (by decide +kernel), List.mem_of_getElem? (i := 950) (by decide +kernel)⟩
theorem lw_p54 : lw_okq (⟨"SignDutyModel", "isSeenSo", "(IIII)Z"⟩, 17) := ⟨⟨by decide +kernel, by decide +kernel⟩, List.mem_of_getElem? (i := 664) (by decide +kernel), List.mem_of_getElem? (i := 953) (by decide +kernel), List.mem_of_getElem? (i := 954) (by decide +kernel)⟩
theorem lw_p55 : lw_okq (⟨"SignDutyModel", "owesSo", "(IIIII)Z"⟩, 17) := ⟨⟨by decide +kernel, by decide +kernel⟩, List.mem_of_getElem? (i := 664) (by decide +kernel), List.mem_of_getElem? (i := 957) (by decide +kernel), List.mem_of_getElem? (i := 958) (by decide +kernel)⟩
theorem lw_p56 : lw_okq (⟨"SignDutyModel", "isOf", "(II)Z"⟩, 17) := ⟨⟨by decide +kernel, by decide +kernel⟩, List.mem_of_getElem? (i := 664) (by decide +kernel), List.mem_of_getElem? (i := 1000) (by decide +kernel), List.mem_of_getElem? (i := 1001) (by decide +kernel)⟩
theorem lw_p57 : lw_okq (⟨"SignDutyModel", "sizeOf", "(I)I"⟩, 17) := ⟨⟨by decide +kernel, by decide +kernel⟩, List.mem_of_getElem? (i := 664) (by decide +kernel), List.mem_of_getElem? (i := 1008) (by decide +kernel), List.mem_of_getElem? (i := 1009) (by decide +kernel)⟩
theorem lw_p58 : lw_okq (⟨"SignDutyModel", "begin", "(I)V"⟩, 17) := ⟨⟨by decide +kernel, by decide +kernel⟩, List.mem_of_getElem? (i := 664) (by decide +kernel), List.mem_of_getElem? (i := 1012) (by decide +kernel), List.mem_of_getElem? (i := 1013) (by decide +kernel)⟩
theorem lw_p59 : lw_okq (⟨"SignDutyModel", "wavesSize", "(I)I"⟩, 17) := ⟨⟨by decide +kernel, by decide +kernel⟩, List.mem_of_getElem? (i := 664) (by decide +kernel), List.mem_of_getElem? (i := 1016) (by decide +kernel), List.mem_of_getElem? (i := 1017) (by decide +kernel)⟩
theorem lw_p60 : lw_okq (⟨"SignDutyModel", "lentSize", "(I)I"⟩, 17) := ⟨⟨by decide +kernel, by decide +kernel⟩, List.mem_of_getElem? (i := 664) (by decide +kernel), List.mem_of_getElem? (i := 1020) (by decide +kernel), List.mem_of_getElem? (i := 1021) (by decide +kernel)⟩
theorem lw_p61 : lw_okq (⟨"SignDutyModel", "mark", "(I)I"⟩, 17) := ⟨⟨by decide +kernel, by decide +kernel⟩, List.mem_of_getElem? (i := 664) (by decide +kernel), List.mem_of_getElem? (i := 1024) (by decide +kernel), List.mem_of_getElem? (i := 1025) (by decide +kernel)⟩
theorem lw_p62 : lw_okq (⟨"SignDutyModel", "wavesMark", "(I)I"⟩, 17) := ⟨⟨by decide +kernel, by decide +kernel⟩, List.mem_of_getElem? (i := 664) (by decide +kernel), List.mem_of_getElem? (i := 1028) (by decide +kernel), List.mem_of_getElem? (i := 1029) (by decide +kernel)⟩
theorem lw_p63 : lw_okq (⟨"SignDutyModel", "lentMark", "(I)I"⟩, 17) := ⟨⟨by decide +kernel, by decide +kernel⟩, List.mem_of_getElem? (i := 664) (by decide +kernel), List.mem_of_getElem? (i := 1032) (by decide +kernel), List.mem_of_getElem? (i := 1033) (by decide +kernel)⟩
def lw_privs_4 : List (MethodName × Nat) := [(⟨"SignDutyModel", "areStreets", "(II)Z"⟩, 17), (⟨"SignDutyModel", "layCosts", "(III)V"⟩, 17), (⟨"SignDutyModel", "onBy", "(IIII)I"⟩, 17), (⟨"SignDutyModel", "tells", "(III)Z"⟩, 17), (⟨"SignDutyModel", "soonest", "(II)I"⟩, 17), (⟨"SignDutyModel", "noPairs", "(III)I"⟩, 17), (⟨"SignDutyModel", "isSeenSo", "(IIII)Z"⟩, 17), (⟨"SignDutyModel", "owesSo", "(IIIII)Z"⟩, 17), (⟨"SignDutyModel", "isOf", "(II)Z"⟩, 17), (⟨"SignDutyModel", "sizeOf", "(I)I"⟩, 17), (⟨"SignDutyModel", "begin", "(I)V"⟩, 17), (⟨"SignDutyModel", "wavesSize", "(I)I"⟩, 17), (⟨"SignDutyModel", "lentSize", "(I)I"⟩, 17), (⟨"SignDutyModel", "mark", "(I)I"⟩, 17), (⟨"SignDutyModel", "wavesMark", "(I)I"⟩, 17), (⟨"SignDutyModel", "lentMark", "(I)I"⟩, 17)]
theorem lw_r4 : ∀ q ∈ lw_privs_4, lw_okq q := List.forall_mem_cons.mpr ⟨lw_p48, List.forall_mem_cons.mpr ⟨lw_p49, List.forall_mem_cons.mpr ⟨lw_p50, List.forall_mem_cons.mpr ⟨lw_p51, List.forall_mem_cons.mpr ⟨lw_p52, List.forall_mem_cons.mpr ⟨lw_p53, List.forall_mem_cons.mpr ⟨lw_p54, List.forall_mem_cons.mpr ⟨lw_p55, List.forall_mem_cons.mpr ⟨lw_p56, List.forall_mem_cons.mpr ⟨lw_p57, List.forall_mem_cons.mpr ⟨lw_p58, List.forall_mem_cons.mpr ⟨lw_p59, List.forall_mem_cons.mpr ⟨lw_p60, List.forall_mem_cons.mpr ⟨lw_p61, List.forall_mem_cons.mpr ⟨lw_p62, List.forall_mem_cons.mpr ⟨lw_p63, fun _ h => absurd h List.not_mem_nil⟩⟩⟩⟩⟩⟩⟩⟩⟩⟩⟩⟩⟩⟩⟩⟩
theorem lw_p64 : lw_okq (⟨"SignDutyModel", "winksSize", "(I)I"⟩, 17) := ⟨⟨by decide +kernel, by decide +kernel⟩, List.mem_of_getElem? (i := 664) (by decide +kernel), List.mem_of_getElem? (i := 1036) (by decide +kernel), List.mem_of_getElem? (i := 1037) (by decide +kernel)⟩
theorem lw_p65 : lw_okq (⟨"SignDutyModel", "winksMark", "(I)I"⟩, 17) := ⟨⟨by decide +kernel, by decide +kernel⟩, List.mem_of_getElem? (i := 664) (by decide +kernel), List.mem_of_getElem? (i := 1040) (by decide +kernel), List.mem_of_getElem? (i := 1041) (by decide +kernel)⟩
def lw_privs_5 : List (MethodName × Nat) := [(⟨"SignDutyModel", "winksSize", "(I)I"⟩, 17), (⟨"SignDutyModel", "winksMark", "(I)I"⟩, 17)]
theorem lw_r5 : ∀ q ∈ lw_privs_5, lw_okq q := List.forall_mem_cons.mpr ⟨lw_p64, List.forall_mem_cons.mpr ⟨lw_p65, fun _ h => absurd h List.not_mem_nil⟩⟩
def lw_privs : List (MethodName × Nat) := lw_privs_1 ++ (lw_privs_2 ++ (lw_privs_3 ++ (lw_privs_4 ++ (lw_privs_5))))
def lw_tbl : List Cond := k2_sels lw_privs ++ tables_1
theorem lw_privs_ok : ∀ q ∈ lw_privs, lw_okq q := by
  show ∀ q ∈ lw_privs_1 ++ (lw_privs_2 ++ (lw_privs_3 ++ (lw_privs_4 ++ (lw_privs_5)))), lw_okq q
  exact List.forall_mem_append.mpr ⟨lw_r1, List.forall_mem_append.mpr ⟨lw_r2, List.forall_mem_append.mpr ⟨lw_r3, List.forall_mem_append.mpr ⟨lw_r4, lw_r5⟩⟩⟩⟩
-- ===== end of PART A; then your names; then what follows =====
end
section
/-! ===== THE FLAT WORLD: N cells at addresses ad k; what is in cell k is C (σ k) k; σ : cell, slot ↦ int ===== -/
abbrev x_S : Type := Nat → Nat → Int32
/-- row k of σ is f -/
def x_r (σ : x_S) (k : Nat) (f : Nat → Int32) : x_S := fun a => if a = k then f else σ a
/-- slot i of row k of σ is v -/
def x_u (σ : x_S) (k i : Nat) (v : Int32) : x_S := x_r σ k (upd (σ k) i v)
abbrev x_C : Type := (Nat → Int32) → Nat → va_E
def x_l (N : Nat) (C : x_C) (ad : Nat → Nat) (σ : x_S) : va_W := (List.range N).map (fun k => (ad k, C (σ k) k))
theorem x_l_at {N : Nat} (C : x_C) (ad : Nat → Nat) (σ : x_S) {k : Nat} (hk : k < N) : (x_l N C ad σ)[k]? = some (ad k, C (σ k) k) := by
  simp [x_l, hk]
theorem x_l_in {N : Nat} {C : x_C} {ad : Nat → Nat} {σ : x_S} {k : Nat} {q : Nat × va_E} (h : (x_l N C ad σ)[k]? = some q) : k < N ∧ q = (ad k, C (σ k) k) := by
  have hl : k < (x_l N C ad σ).length := (List.getElem?_eq_some_iff.mp h).1
  have hk : k < N := by simpa [x_l] using hl
  rw [x_l_at C ad σ hk] at h
  exact ⟨hk, (Option.some.inj h).symm⟩
theorem x_l_set {N : Nat} (C : x_C) (ad : Nat → Nat) (σ : x_S) {k : Nat} (hk : k < N) (f : Nat → Int32) : (x_l N C ad σ).set k (ad k, C f k) = x_l N C ad (x_r σ k f) := by
  apply List.ext_getElem?
  intro i
  by_cases hi : i = k
  · subst hi
    have hl : i < (x_l N C ad σ).length := by simpa [x_l] using hk
    rw [List.getElem?_set_self hl, x_l_at _ _ _ hk]
    simp [x_r]
  · rw [List.getElem?_set_ne (Ne.symm hi)]
    by_cases hN : i < N
    · rw [x_l_at _ _ _ hN, x_l_at _ _ _ hN]
      simp [x_r, hi]
    · rw [List.getElem?_eq_none (by simp [x_l]; omega), List.getElem?_eq_none (by simp [x_l]; omega)]
/-- the cells' addresses -/
def x_A (N : Nat) (ad : Nat → Nat) : Nat → Prop := fun q => ∃ k, k < N ∧ q = ad k
def x_I (D : va_G) (cl : List vw_C) (N : Nat) (C : x_C) (ad : Nat → Nat) (σ : x_S) : Heap → Prop := fun H => va_P D cl (x_l N C ad σ) H
def x_dis (N : Nat) (ad : Nat → Nat) : Prop := ∀ i j, i < N → j < N → ad i = ad j → i = j
theorem x_D {N : Nat} {C : x_C} {ad : Nat → Nat} {A : Nat → Prop} (h : x_dis N ad) (hA : ∀ k, k < N → A (ad k)) (σ : x_S) : va_D A (x_l N C ad σ) := by
  refine ⟨fun i j p q hi hj hpq => ?_, fun k q hk => ?_⟩
  · obtain ⟨h1, rfl⟩ := x_l_in hi
    obtain ⟨h2, rfl⟩ := x_l_in hj
    exact h i j h1 h2 hpq
  · obtain ⟨h1, rfl⟩ := x_l_in hk
    exact hA k h1
theorem x_A_in {N : Nat} {ad : Nat → Nat} : ∀ k, k < N → x_A N ad (ad k) := fun k h => ⟨k, h, rfl⟩
/-- what is said of statics: it stays while nothing outside A is written -/
abbrev x_St : Type := (Nat → Prop) → State → Heap → Prop
def x_StOk (St : x_St) : Prop := (∀ (A : Nat → Prop) (u U : State) (H : Heap), u.vm.Alike U.vm → St A u H → St A U H) ∧ (∀ (A : Nat → Prop) (U : State) (H H1 : Heap), (∀ a : Nat, a < H.size → ¬ A a → H1[a]? = H[a]?) → St A U H → St A U H1) ∧ (∀ (A B : Nat → Prop) (U : State) (H : Heap), (∀ q, B q → A q) → St A U H → St B U H)
/-- a method's start -/
def x_Pre (D : va_G) (cl : List vw_C) (tys : List (ClassId × FieldType)) (N : Nat) (C : x_C) (ad : Nat → Nat) (St : x_St) (σ : x_S) : State → Prop := fun U => x_I D cl N C ad σ U.heap ∧ va_K D cl tys U ∧ St (x_A N ad) U U.heap
def x_Post (D : va_G) (cl : List vw_C) (N : Nat) (C : x_C) (ad : Nat → Nat) : x_S → State → Prop := fun u t => x_I D cl N C ad u t.heap
abbrev x_Qi (D : va_G) (cl : List vw_C) (N : Nat) (C : x_C) (ad : Nat → Nat) (r0 : Int32) (σ0 : x_S) : Array Value → State → Outcome → State → Prop := va_Qi (fun (r : Int32) (u : x_S) => r = r0 ∧ u = σ0) (x_Post D cl N C ad) (x_A N ad)
abbrev x_Qv (D : va_G) (cl : List vw_C) (N : Nat) (C : x_C) (ad : Nat → Nat) (σ0 : x_S) : Array Value → State → Outcome → State → Prop := va_Qv (fun (u : x_S) => u = σ0) (x_Post D cl N C ad) (x_A N ad)
/-- room for calls n deep -/
def x_rm (n : Nat) : Room := { frames := n, cells := 0, slots := 0, locals := 100 * n }
theorem x_rm_ok {k n maxL : Nat} (h : k < n) (hm : maxL ≤ 81) : (x_rm k).frames + 1 ≤ (x_rm n).frames ∧ 8 + (maxL + 11) + (x_rm k).locals ≤ (x_rm n).locals := by
  simp only [x_rm]
  omega
abbrev x_MI (l : Launch) (y : MethodName) (ws : List Cond) (n : Nat) (D : va_G) (cl : List vw_C) (tys : List (ClassId × FieldType)) (N : Nat) (C : x_C) (ad : Nat → Nat) (St : x_St) (vs : List Value) (σ : x_S) (r0 : Int32) (σ0 : x_S) : Prop := Met l y ws (x_rm n) (va_Pc vs (x_Pre D cl tys N C ad St σ)) (x_Qi D cl N C ad r0 σ0) 0 0 (x_A N ad)
abbrev x_MV (l : Launch) (y : MethodName) (ws : List Cond) (n : Nat) (D : va_G) (cl : List vw_C) (tys : List (ClassId × FieldType)) (N : Nat) (C : x_C) (ad : Nat → Nat) (St : x_St) (vs : List Value) (σ : x_S) (σ0 : x_S) : Prop := Met l y ws (x_rm n) (va_Pc vs (x_Pre D cl tys N C ad St σ)) (x_Qv D cl N C ad σ0) 0 0 (x_A N ad)
theorem x_blind (vs : List Value) {D : va_G} {cl : List vw_C} {tys : List (ClassId × FieldType)} {N : Nat} {C : x_C} {ad : Nat → Nat} {St : x_St} (hSt : x_StOk St) (σ : x_S) : FrameBlind (va_Pc vs (x_Pre D cl tys N C ad St σ)) := by
  intro a U g mk q
  obtain ⟨q0, qP, qK, qS⟩ := q
  exact ⟨q0, qP, va_K.moved (u := U) (U := U.calling g mk a) (Vm.Alike.refl U.vm) qK, hSt.1 _ U (U.calling g mk a) _ (Vm.Alike.refl U.vm) qS⟩
/-! ===== partial functions ===== -/
/-- c must hold -/
def x_g {β : Type} (c : Prop) [Decidable c] (x : Option β) : Option β := if c then x else none
theorem x_gs {β : Type} {c : Prop} [Decidable c] {x : Option β} {y : β} (h : x_g c x = some y) : c ∧ x = some y := by
  unfold x_g at h
  split at h
  · exact ⟨by assumption, h⟩
  · cases h
def x_p {β : Type} (o : Option Int32) (k : Int32 → Option β) : Option β := match o with
  | some r => k r
  | none => none
theorem x_ps {β : Type} {o : Option Int32} {k : Int32 → Option β} {y : β} (h : x_p o k = some y) : ∃ r, o = some r ∧ k r = some y := by
  cases o with
  | none => cases h
  | some r => exact ⟨r, rfl, h⟩
def x_b {β : Type} (o : Option (Int32 × x_S)) (k : Int32 → x_S → Option β) : Option β := match o with
  | some (r, u) => k r u
  | none => none
theorem x_bs {β : Type} {o : Option (Int32 × x_S)} {k : Int32 → x_S → Option β} {y : β} (h : x_b o k = some y) : ∃ r u, o = some (r, u) ∧ k r u = some y := by
  match o, h with
  | some (r, u), h => exact ⟨r, u, rfl, h⟩
def x_v {β : Type} (o : Option x_S) (k : x_S → Option β) : Option β := match o with
  | some u => k u
  | none => none
theorem x_vs {β : Type} {o : Option x_S} {k : x_S → Option β} {y : β} (h : x_v o k = some y) : ∃ u, o = some u ∧ k u = some y := by
  cases o with
  | none => cases h
  | some r => exact ⟨r, rfl, h⟩
theorem x_it {β : Type} {c : Prop} [Decidable c] {a b : Option β} {y : β} (h : c) (hf : (if c then a else b) = some y) : a = some y := by rwa [if_pos h] at hf
theorem x_if {β : Type} {c : Prop} [Decidable c] {a b : Option β} {y : β} (h : ¬ c) (hf : (if c then a else b) = some y) : b = some y := by rwa [if_neg h] at hf
theorem x_retI {a r : Int32} {b u : x_S} (h : some (a, b) = some (r, u)) : r = a ∧ u = b := by cases h; exact ⟨rfl, rfl⟩
theorem x_retP {a r : Int32} (h : some a = some r) : r = a := by cases h; rfl
theorem x_retV {b u : x_S} (h : some b = some u) : u = b := by cases h; rfl
/-- n rounds of a loop, then z -/
def x_fx {α : Type} (z : α) (b : α → α) : Nat → α
  | 0 => z
  | n + 1 => b (x_fx z b n)
/-- rounds enough for any loop here -/
def x_F : Nat := 4096
end
section
abbrev x_in (i : Int32) (n : Nat) : Prop := ¬ (i < 0 ∨ n ≤ i.toNatClampNeg)
section XJ
variable {p : Program} {l : Launch} {e : Env} {R : Room} {s : State} {m : MethodId} {args : Array Value} {below : List Frame} {meth : Method} {c : Code} {cells slots : Nat} {Q : State → Prop}
variable {cc : ByteArray} {nL : Nat} {Ts : List Cond} {own : String} {A : Nat → Prop} {I : Heap → Prop} {lv lv' : List (Nat × Value)} {st : List Value} {pc : Nat}
variable {D : va_G} {cl : List vw_C} {tys : List (ClassId × FieldType)} {N : Nat} {C : x_C} {ad : Nat → Nat} {St : x_St} {σ : x_S}
/-- what a method's body may use of the machine -/
def x_B (p : Program) (s : State) (m : MethodId) (args : Array Value) (meth : Method) (c : Code) (cc : ByteArray) (nL : Nat) (Ts : List Cond) (own : String) : Prop :=
  p.tables.exec = Jvm.exec ∧ c.code = cc ∧ c.maxLocals = nL ∧ s.vm.findClass own = some m.cls ∧ (∀ w ∈ Ts, w.before args s = true) ∧ meth.locks = false
/-- what it may use of the flat world -/
def x_G (s : State) (D : va_G) (cl : List vw_C) (tys : List (ClassId × FieldType)) (N : Nat) (ad : Nat → Nat) (A : Nat → Prop) (St : x_St) : Prop :=
  va_K D cl tys s ∧ x_dis N ad ∧ (∀ k, k < N → A (ad k)) ∧ x_StOk St ∧ St A s s.heap
/-- from here on, with any heap that holds I and any locals that hold lv, the machine comes to Q -/
def x_J (p : Program) (l : Launch) (e : Env) (R : Room) (s : State) (m : MethodId) (args : Array Value) (below : List Frame) (meth : Method) (c : Code) (cells slots : Nat) (Q : State → Prop) (A : Nat → Prop) (nL : Nat) (I : Heap → Prop) (lv : List (Nat × Value)) (st : List Value) (pc : Nat) : Prop :=
  ∀ (H : Heap) (locs : List Loc) (ls : Array Slot), I H → va_S A s.heap H locs → lv_has ls nL lv → W p l e R s m args below meth c H locs cells slots Q (F0 m pc ls st)
theorem x_sub (ks : List Nat) (hl : lv_pick lv ks = lv') (k : x_J p l e R s m args below meth c cells slots Q A nL I lv' st pc) : x_J p l e R s m args below meth c cells slots Q A nL I lv st pc := fun H locs ls h1 h2 h3 => k H locs ls h1 h2 (lv_sub h3 ks hl)
theorem x_pc {pc' : Nat} (h : pc' = pc) (k : x_J p l e R s m args below meth c cells slots Q A nL I lv st pc') : x_J p l e R s m args below meth c cells slots Q A nL I lv st pc := h ▸ k
theorem x_iconst (B : x_B p s m args meth c cc nL Ts own) {n : Int} {v : Int32} (hdg : decode cc pc = .ok (.iconst n, 1)) (hv : Int32.ofInt n = v) (k : x_J p l e R s m args below meth c cells slots Q A nL I lv (.int v :: st) (pc + 1)) : x_J p l e R s m args below meth c cells slots Q A nL I lv (st) pc :=
  fun H locs ls h1 h2 h3 => lv_iconst B.1 B.2.1 hdg hv (k H locs ls h1 h2 h3)
theorem x_bipush (B : x_B p s m args meth c cc nL Ts own) {n : Int} {v : Int32} (hdg : decode cc pc = .ok (.bipush n, 2)) (hv : (Int8.ofInt n).toInt32 = v) (k : x_J p l e R s m args below meth c cells slots Q A nL I lv (.int v :: st) (pc + 2)) : x_J p l e R s m args below meth c cells slots Q A nL I lv (st) pc :=
  fun H locs ls h1 h2 h3 => lv_bipush B.1 B.2.1 hdg hv (k H locs ls h1 h2 h3)
theorem x_sipush (B : x_B p s m args meth c cc nL Ts own) {n : Int} {v : Int32} (hdg : decode cc pc = .ok (.sipush n, 3)) (hv : (Int16.ofInt n).toInt32 = v) (k : x_J p l e R s m args below meth c cells slots Q A nL I lv (.int v :: st) (pc + 3)) : x_J p l e R s m args below meth c cells slots Q A nL I lv (st) pc :=
  fun H locs ls h1 h2 h3 => lv_sipush B.1 B.2.1 hdg hv (k H locs ls h1 h2 h3)
theorem x_lconst (B : x_B p s m args meth c cc nL Ts own) {n : Fin 2} {v : Int64} (hdg : decode cc pc = .ok (.lconst n, 1)) (hv : Int64.ofNat (n : Nat) = v) (k : x_J p l e R s m args below meth c cells slots Q A nL I lv (.long v :: st) (pc + 1)) : x_J p l e R s m args below meth c cells slots Q A nL I lv (st) pc :=
  fun H locs ls h1 h2 h3 => lv_lconst B.1 B.2.1 hdg hv (k H locs ls h1 h2 h3)
theorem x_iload_n (B : x_B p s m args meth c cc nL Ts own) {k0 : Fin 4} {i : Nat} {x : Int32} (hdg : decode cc pc = .ok (.iload_n k0, 1)) (hi : (k0 : Nat) = i) (j : Nat) (hj : lv[j]? = some (i, .int x)) (k : x_J p l e R s m args below meth c cells slots Q A nL I lv (.int x :: st) (pc + 1)) : x_J p l e R s m args below meth c cells slots Q A nL I lv st pc :=
  fun H locs ls h1 h2 h3 => lv_iload_n B.1 B.2.1 hdg hi (lv_at h3 j hj) (k H locs ls h1 h2 h3)
theorem x_iload (B : x_B p s m args meth c cc nL Ts own) {i : Nat} {x : Int32} (hdg : decode cc pc = .ok (.iload i, 2)) (j : Nat) (hj : lv[j]? = some (i, .int x)) (k : x_J p l e R s m args below meth c cells slots Q A nL I lv (.int x :: st) (pc + 2)) : x_J p l e R s m args below meth c cells slots Q A nL I lv st pc :=
  fun H locs ls h1 h2 h3 => lv_iload B.1 B.2.1 hdg (lv_at h3 j hj) (k H locs ls h1 h2 h3)
theorem x_lload_n (B : x_B p s m args meth c cc nL Ts own) {k0 : Fin 4} {i : Nat} {x : Int64} (hdg : decode cc pc = .ok (.lload_n k0, 1)) (hi : (k0 : Nat) = i) (j : Nat) (hj : lv[j]? = some (i, .long x)) (k : x_J p l e R s m args below meth c cells slots Q A nL I lv (.long x :: st) (pc + 1)) : x_J p l e R s m args below meth c cells slots Q A nL I lv st pc :=
  fun H locs ls h1 h2 h3 => lv_lload_n B.1 B.2.1 hdg hi (lv_at h3 j hj) (k H locs ls h1 h2 h3)
theorem x_lload (B : x_B p s m args meth c cc nL Ts own) {i : Nat} {x : Int64} (hdg : decode cc pc = .ok (.lload i, 2)) (j : Nat) (hj : lv[j]? = some (i, .long x)) (k : x_J p l e R s m args below meth c cells slots Q A nL I lv (.long x :: st) (pc + 2)) : x_J p l e R s m args below meth c cells slots Q A nL I lv st pc :=
  fun H locs ls h1 h2 h3 => lv_lload B.1 B.2.1 hdg (lv_at h3 j hj) (k H locs ls h1 h2 h3)
theorem x_aload_n (B : x_B p s m args meth c cc nL Ts own) {k0 : Fin 4} {i : Nat} {x : Nat} (hdg : decode cc pc = .ok (.aload_n k0, 1)) (hi : (k0 : Nat) = i) (j : Nat) (hj : lv[j]? = some (i, .ref x)) (k : x_J p l e R s m args below meth c cells slots Q A nL I lv (.ref x :: st) (pc + 1)) : x_J p l e R s m args below meth c cells slots Q A nL I lv st pc :=
  fun H locs ls h1 h2 h3 => lv_aload_n B.1 B.2.1 hdg hi (lv_at h3 j hj) (k H locs ls h1 h2 h3)
theorem x_aload (B : x_B p s m args meth c cc nL Ts own) {i : Nat} {x : Nat} (hdg : decode cc pc = .ok (.aload i, 2)) (j : Nat) (hj : lv[j]? = some (i, .ref x)) (k : x_J p l e R s m args below meth c cells slots Q A nL I lv (.ref x :: st) (pc + 2)) : x_J p l e R s m args below meth c cells slots Q A nL I lv st pc :=
  fun H locs ls h1 h2 h3 => lv_aload B.1 B.2.1 hdg (lv_at h3 j hj) (k H locs ls h1 h2 h3)
theorem x_istore_n (B : x_B p s m args meth c cc nL Ts own) {k0 : Fin 4} {i : Nat} {x : Int32} (hdg : decode cc pc = .ok (.istore_n k0, 1)) (hi : (k0 : Nat) = i) (hn : i < nL) (hl : (i, Value.int x) :: lv.filter (fun q => !(q.1 == i) && !(q.1 + 1 == i && q.2.category == 2)) = lv') (k : x_J p l e R s m args below meth c cells slots Q A nL I lv' st (pc + 1)) : x_J p l e R s m args below meth c cells slots Q A nL I lv (.int x :: st) pc :=
  fun H locs ls h1 h2 h3 => lv_istore_n B.1 B.2.1 hdg hi h3 hn hl (fun ls' h' => k H locs ls' h1 h2 h')
theorem x_istore (B : x_B p s m args meth c cc nL Ts own) {i : Nat} {x : Int32} (hdg : decode cc pc = .ok (.istore i, 2)) (hn : i < nL) (hl : (i, Value.int x) :: lv.filter (fun q => !(q.1 == i) && !(q.1 + 1 == i && q.2.category == 2)) = lv') (k : x_J p l e R s m args below meth c cells slots Q A nL I lv' st (pc + 2)) : x_J p l e R s m args below meth c cells slots Q A nL I lv (.int x :: st) pc :=
  fun H locs ls h1 h2 h3 => lv_istore B.1 B.2.1 hdg h3 hn hl (fun ls' h' => k H locs ls' h1 h2 h')
theorem x_astore_n (B : x_B p s m args meth c cc nL Ts own) {k0 : Fin 4} {i : Nat} {x : Nat} (hdg : decode cc pc = .ok (.astore_n k0, 1)) (hi : (k0 : Nat) = i) (hn : i < nL) (hl : (i, Value.ref x) :: lv.filter (fun q => !(q.1 == i) && !(q.1 + 1 == i && q.2.category == 2)) = lv') (k : x_J p l e R s m args below meth c cells slots Q A nL I lv' st (pc + 1)) : x_J p l e R s m args below meth c cells slots Q A nL I lv (.ref x :: st) pc :=
  fun H locs ls h1 h2 h3 => lv_astore_n B.1 B.2.1 hdg hi h3 hn hl (fun ls' h' => k H locs ls' h1 h2 h')
theorem x_astore (B : x_B p s m args meth c cc nL Ts own) {i : Nat} {x : Nat} (hdg : decode cc pc = .ok (.astore i, 2)) (hn : i < nL) (hl : (i, Value.ref x) :: lv.filter (fun q => !(q.1 == i) && !(q.1 + 1 == i && q.2.category == 2)) = lv') (k : x_J p l e R s m args below meth c cells slots Q A nL I lv' st (pc + 2)) : x_J p l e R s m args below meth c cells slots Q A nL I lv (.ref x :: st) pc :=
  fun H locs ls h1 h2 h3 => lv_astore B.1 B.2.1 hdg h3 hn hl (fun ls' h' => k H locs ls' h1 h2 h')
theorem x_iinc (B : x_B p s m args meth c cc nL Ts own) {i : Nat} {n : Int} {x v : Int32} (hdg : decode cc pc = .ok (.iinc i n, 3)) (j : Nat) (hj : lv[j]? = some (i, .int x)) (hv : x + Int32.ofInt n = v) (hn : i < nL) (hl : (i, Value.int v) :: lv.filter (fun q => !(q.1 == i) && !(q.1 + 1 == i && q.2.category == 2)) = lv') (k : x_J p l e R s m args below meth c cells slots Q A nL I lv' st (pc + 3)) : x_J p l e R s m args below meth c cells slots Q A nL I lv st pc :=
  fun H locs ls h1 h2 h3 => lv_iinc B.1 B.2.1 hdg h3 hj hv hn hl (fun ls' h' => k H locs ls' h1 h2 h')
theorem x_iadd (B : x_B p s m args meth c cc nL Ts own) {x y : Int32} (hdg : decode cc pc = .ok (.iadd, 1)) (k : x_J p l e R s m args below meth c cells slots Q A nL I lv (.int (x + y) :: st) (pc + 1)) : x_J p l e R s m args below meth c cells slots Q A nL I lv (.int y :: .int x :: st) pc :=
  fun H locs ls h1 h2 h3 => lv_iadd B.1 B.2.1 hdg (k H locs ls h1 h2 h3)
theorem x_isub (B : x_B p s m args meth c cc nL Ts own) {x y : Int32} (hdg : decode cc pc = .ok (.isub, 1)) (k : x_J p l e R s m args below meth c cells slots Q A nL I lv (.int (x - y) :: st) (pc + 1)) : x_J p l e R s m args below meth c cells slots Q A nL I lv (.int y :: .int x :: st) pc :=
  fun H locs ls h1 h2 h3 => lv_isub B.1 B.2.1 hdg (k H locs ls h1 h2 h3)
theorem x_imul (B : x_B p s m args meth c cc nL Ts own) {x y : Int32} (hdg : decode cc pc = .ok (.imul, 1)) (k : x_J p l e R s m args below meth c cells slots Q A nL I lv (.int (x * y) :: st) (pc + 1)) : x_J p l e R s m args below meth c cells slots Q A nL I lv (.int y :: .int x :: st) pc :=
  fun H locs ls h1 h2 h3 => lv_imul B.1 B.2.1 hdg (k H locs ls h1 h2 h3)
theorem x_iand (B : x_B p s m args meth c cc nL Ts own) {x y : Int32} (hdg : decode cc pc = .ok (.iand, 1)) (k : x_J p l e R s m args below meth c cells slots Q A nL I lv (.int (x &&& y) :: st) (pc + 1)) : x_J p l e R s m args below meth c cells slots Q A nL I lv (.int y :: .int x :: st) pc :=
  fun H locs ls h1 h2 h3 => lv_iand B.1 B.2.1 hdg (k H locs ls h1 h2 h3)
theorem x_ior (B : x_B p s m args meth c cc nL Ts own) {x y : Int32} (hdg : decode cc pc = .ok (.ior, 1)) (k : x_J p l e R s m args below meth c cells slots Q A nL I lv (.int (x ||| y) :: st) (pc + 1)) : x_J p l e R s m args below meth c cells slots Q A nL I lv (.int y :: .int x :: st) pc :=
  fun H locs ls h1 h2 h3 => lv_ior B.1 B.2.1 hdg (k H locs ls h1 h2 h3)
theorem x_ixor (B : x_B p s m args meth c cc nL Ts own) {x y : Int32} (hdg : decode cc pc = .ok (.ixor, 1)) (k : x_J p l e R s m args below meth c cells slots Q A nL I lv (.int (x ^^^ y) :: st) (pc + 1)) : x_J p l e R s m args below meth c cells slots Q A nL I lv (.int y :: .int x :: st) pc :=
  fun H locs ls h1 h2 h3 => lv_ixor B.1 B.2.1 hdg (k H locs ls h1 h2 h3)
theorem x_ishl (B : x_B p s m args meth c cc nL Ts own) {x y : Int32} (hdg : decode cc pc = .ok (.ishl, 1)) (k : x_J p l e R s m args below meth c cells slots Q A nL I lv (.int (x <<< (y &&& 31)) :: st) (pc + 1)) : x_J p l e R s m args below meth c cells slots Q A nL I lv (.int y :: .int x :: st) pc :=
  fun H locs ls h1 h2 h3 => lv_ishl B.1 B.2.1 hdg (k H locs ls h1 h2 h3)
theorem x_ishr (B : x_B p s m args meth c cc nL Ts own) {x y : Int32} (hdg : decode cc pc = .ok (.ishr, 1)) (k : x_J p l e R s m args below meth c cells slots Q A nL I lv (.int (x >>> (y &&& 31)) :: st) (pc + 1)) : x_J p l e R s m args below meth c cells slots Q A nL I lv (.int y :: .int x :: st) pc :=
  fun H locs ls h1 h2 h3 => lv_ishr B.1 B.2.1 hdg (k H locs ls h1 h2 h3)
theorem x_idiv (B : x_B p s m args meth c cc nL Ts own) {x y : Int32} (hdg : decode cc pc = .ok (.idiv, 1)) (hne : ¬ y = 0) (k : x_J p l e R s m args below meth c cells slots Q A nL I lv (.int (x / y) :: st) (pc + 1)) : x_J p l e R s m args below meth c cells slots Q A nL I lv (.int y :: .int x :: st) pc :=
  fun H locs ls h1 h2 h3 => lv_idiv B.1 B.2.1 hdg hne (k H locs ls h1 h2 h3)
theorem x_irem (B : x_B p s m args meth c cc nL Ts own) {x y : Int32} (hdg : decode cc pc = .ok (.irem, 1)) (hne : ¬ y = 0) (k : x_J p l e R s m args below meth c cells slots Q A nL I lv (.int (x - x / y * y) :: st) (pc + 1)) : x_J p l e R s m args below meth c cells slots Q A nL I lv (.int y :: .int x :: st) pc :=
  fun H locs ls h1 h2 h3 => lv_irem B.1 B.2.1 hdg hne (k H locs ls h1 h2 h3)
theorem x_ineg (B : x_B p s m args meth c cc nL Ts own) {x : Int32} (hdg : decode cc pc = .ok (.ineg, 1)) (k : x_J p l e R s m args below meth c cells slots Q A nL I lv (.int (-x) :: st) (pc + 1)) : x_J p l e R s m args below meth c cells slots Q A nL I lv (.int x :: st) pc :=
  fun H locs ls h1 h2 h3 => lv_ineg B.1 B.2.1 hdg (k H locs ls h1 h2 h3)
theorem x_iushr (B : x_B p s m args meth c cc nL Ts own) {x y : Int32} (hdg : decode cc pc = .ok (.iushr, 1)) (k : x_J p l e R s m args below meth c cells slots Q A nL I lv (.int (x.toUInt32 >>> (y.toUInt32 &&& Int32.toUInt32 31)).toInt32 :: st) (pc + 1)) : x_J p l e R s m args below meth c cells slots Q A nL I lv (.int y :: .int x :: st) pc :=
  fun H locs ls h1 h2 h3 => lv_iushr B.1 B.2.1 hdg rfl (k H locs ls h1 h2 h3)
theorem x_i2l (B : x_B p s m args meth c cc nL Ts own) {x : Int32} (hdg : decode cc pc = .ok (.i2l, 1)) (k : x_J p l e R s m args below meth c cells slots Q A nL I lv (.long x.toInt64 :: st) (pc + 1)) : x_J p l e R s m args below meth c cells slots Q A nL I lv (.int x :: st) pc :=
  fun H locs ls h1 h2 h3 => lv_i2l B.1 B.2.1 hdg rfl (k H locs ls h1 h2 h3)
theorem x_l2i (B : x_B p s m args meth c cc nL Ts own) {x : Int64} (hdg : decode cc pc = .ok (.l2i, 1)) (k : x_J p l e R s m args below meth c cells slots Q A nL I lv (.int x.toInt32 :: st) (pc + 1)) : x_J p l e R s m args below meth c cells slots Q A nL I lv (.long x :: st) pc :=
  fun H locs ls h1 h2 h3 => lv_l2i B.1 B.2.1 hdg rfl (k H locs ls h1 h2 h3)
theorem x_i2b (B : x_B p s m args meth c cc nL Ts own) {x : Int32} (hdg : decode cc pc = .ok (.i2b, 1)) (k : x_J p l e R s m args below meth c cells slots Q A nL I lv (.int x.toInt8.toInt32 :: st) (pc + 1)) : x_J p l e R s m args below meth c cells slots Q A nL I lv (.int x :: st) pc :=
  fun H locs ls h1 h2 h3 => lv_i2b B.1 B.2.1 hdg rfl (k H locs ls h1 h2 h3)
theorem x_i2s (B : x_B p s m args meth c cc nL Ts own) {x : Int32} (hdg : decode cc pc = .ok (.i2s, 1)) (k : x_J p l e R s m args below meth c cells slots Q A nL I lv (.int x.toInt16.toInt32 :: st) (pc + 1)) : x_J p l e R s m args below meth c cells slots Q A nL I lv (.int x :: st) pc :=
  fun H locs ls h1 h2 h3 => lv_i2s B.1 B.2.1 hdg rfl (k H locs ls h1 h2 h3)
theorem x_ladd (B : x_B p s m args meth c cc nL Ts own) {x y : Int64} (hdg : decode cc pc = .ok (.ladd, 1)) (k : x_J p l e R s m args below meth c cells slots Q A nL I lv (.long (x + y) :: st) (pc + 1)) : x_J p l e R s m args below meth c cells slots Q A nL I lv (.long y :: .long x :: st) pc :=
  fun H locs ls h1 h2 h3 => lv_ladd B.1 B.2.1 hdg (k H locs ls h1 h2 h3)
theorem x_lcmp (B : x_B p s m args meth c cc nL Ts own) {x y : Int64} (hdg : decode cc pc = .ok (.lcmp, 1)) (k : x_J p l e R s m args below meth c cells slots Q A nL I lv (.int (lg_cmp x y) :: st) (pc + 1)) : x_J p l e R s m args below meth c cells slots Q A nL I lv (.long y :: .long x :: st) pc :=
  fun H locs ls h1 h2 h3 => W.lcmp B.1 B.2.1 hdg (k H locs ls h1 h2 h3)
theorem x_dup (B : x_B p s m args meth c cc nL Ts own) {va : Value} (hdg : decode cc pc = .ok (.dup, 1)) (hva : va.category = 1) (k : x_J p l e R s m args below meth c cells slots Q A nL I lv (va :: va :: st) (pc + 1)) : x_J p l e R s m args below meth c cells slots Q A nL I lv (va :: st) pc :=
  fun H locs ls h1 h2 h3 => lv_dup B.1 B.2.1 hdg hva (k H locs ls h1 h2 h3)
theorem x_pop (B : x_B p s m args meth c cc nL Ts own) {va : Value} (hdg : decode cc pc = .ok (.pop, 1)) (hva : va.category = 1) (k : x_J p l e R s m args below meth c cells slots Q A nL I lv (st) (pc + 1)) : x_J p l e R s m args below meth c cells slots Q A nL I lv (va :: st) pc :=
  fun H locs ls h1 h2 h3 => lv_pop B.1 B.2.1 hdg hva (k H locs ls h1 h2 h3)
theorem x_dup_x1 (B : x_B p s m args meth c cc nL Ts own) {va vb : Value} (hdg : decode cc pc = .ok (.dup_x1, 1)) (hva : va.category = 1) (hvb : vb.category = 1) (k : x_J p l e R s m args below meth c cells slots Q A nL I lv (va :: vb :: va :: st) (pc + 1)) : x_J p l e R s m args below meth c cells slots Q A nL I lv (va :: vb :: st) pc :=
  fun H locs ls h1 h2 h3 => lv_dup_x1 B.1 B.2.1 hdg hva hvb (k H locs ls h1 h2 h3)
theorem x_dup_x2 (B : x_B p s m args meth c cc nL Ts own) {va vb vd : Value} (hdg : decode cc pc = .ok (.dup_x2, 1)) (hva : va.category = 1) (hvb : vb.category = 1) (hvd : vd.category = 1) (k : x_J p l e R s m args below meth c cells slots Q A nL I lv (va :: vb :: vd :: va :: st) (pc + 1)) : x_J p l e R s m args below meth c cells slots Q A nL I lv (va :: vb :: vd :: st) pc :=
  fun H locs ls h1 h2 h3 => lv_dup_x2 B.1 B.2.1 hdg hva hvb hvd (k H locs ls h1 h2 h3)
theorem x_dup2 (B : x_B p s m args meth c cc nL Ts own) {va vb : Value} (hdg : decode cc pc = .ok (.dup2, 1)) (hva : va.category = 1) (hvb : vb.category = 1) (k : x_J p l e R s m args below meth c cells slots Q A nL I lv (va :: vb :: va :: vb :: st) (pc + 1)) : x_J p l e R s m args below meth c cells slots Q A nL I lv (va :: vb :: st) pc :=
  fun H locs ls h1 h2 h3 => lv_dup2_11 B.1 B.2.1 hdg hva hvb (k H locs ls h1 h2 h3)
theorem x_if_eq (B : x_B p s m args meth c cc nL Ts own) {x : Int32} {off : Int} {tgt : Nat} (hdg : decode cc pc = .ok (.ifCond .eq off, 3)) (ht : (pc : Int) + off = (tgt : Int)) (kt : x = 0 → x_J p l e R s m args below meth c cells slots Q A nL I lv st tgt) (kf : ¬ x = 0 → x_J p l e R s m args below meth c cells slots Q A nL I lv st (pc + 3)) : x_J p l e R s m args below meth c cells slots Q A nL I lv (.int x :: st) pc :=
  fun H locs ls h1 h2 h3 => lv_if_eq B.1 B.2.1 hdg ht (fun h => kt h H locs ls h1 h2 h3) (fun h => kf h H locs ls h1 h2 h3)
theorem x_if_ne (B : x_B p s m args meth c cc nL Ts own) {x : Int32} {off : Int} {tgt : Nat} (hdg : decode cc pc = .ok (.ifCond .ne off, 3)) (ht : (pc : Int) + off = (tgt : Int)) (kt : ¬ x = 0 → x_J p l e R s m args below meth c cells slots Q A nL I lv st tgt) (kf : x = 0 → x_J p l e R s m args below meth c cells slots Q A nL I lv st (pc + 3)) : x_J p l e R s m args below meth c cells slots Q A nL I lv (.int x :: st) pc :=
  fun H locs ls h1 h2 h3 => lv_if_ne B.1 B.2.1 hdg ht (fun h => kt h H locs ls h1 h2 h3) (fun h => kf h H locs ls h1 h2 h3)
theorem x_if_lt (B : x_B p s m args meth c cc nL Ts own) {x : Int32} {off : Int} {tgt : Nat} (hdg : decode cc pc = .ok (.ifCond .lt off, 3)) (ht : (pc : Int) + off = (tgt : Int)) (kt : x < 0 → x_J p l e R s m args below meth c cells slots Q A nL I lv st tgt) (kf : ¬ x < 0 → x_J p l e R s m args below meth c cells slots Q A nL I lv st (pc + 3)) : x_J p l e R s m args below meth c cells slots Q A nL I lv (.int x :: st) pc :=
  fun H locs ls h1 h2 h3 => lv_if_lt B.1 B.2.1 hdg ht (fun h => kt h H locs ls h1 h2 h3) (fun h => kf h H locs ls h1 h2 h3)
theorem x_if_ge (B : x_B p s m args meth c cc nL Ts own) {x : Int32} {off : Int} {tgt : Nat} (hdg : decode cc pc = .ok (.ifCond .ge off, 3)) (ht : (pc : Int) + off = (tgt : Int)) (kt : 0 ≤ x → x_J p l e R s m args below meth c cells slots Q A nL I lv st tgt) (kf : ¬ 0 ≤ x → x_J p l e R s m args below meth c cells slots Q A nL I lv st (pc + 3)) : x_J p l e R s m args below meth c cells slots Q A nL I lv (.int x :: st) pc :=
  fun H locs ls h1 h2 h3 => lv_if_ge B.1 B.2.1 hdg ht (fun h => kt h H locs ls h1 h2 h3) (fun h => kf h H locs ls h1 h2 h3)
theorem x_if_gt (B : x_B p s m args meth c cc nL Ts own) {x : Int32} {off : Int} {tgt : Nat} (hdg : decode cc pc = .ok (.ifCond .gt off, 3)) (ht : (pc : Int) + off = (tgt : Int)) (kt : 0 < x → x_J p l e R s m args below meth c cells slots Q A nL I lv st tgt) (kf : ¬ 0 < x → x_J p l e R s m args below meth c cells slots Q A nL I lv st (pc + 3)) : x_J p l e R s m args below meth c cells slots Q A nL I lv (.int x :: st) pc :=
  fun H locs ls h1 h2 h3 => lv_if_gt B.1 B.2.1 hdg ht (fun h => kt h H locs ls h1 h2 h3) (fun h => kf h H locs ls h1 h2 h3)
theorem x_if_le (B : x_B p s m args meth c cc nL Ts own) {x : Int32} {off : Int} {tgt : Nat} (hdg : decode cc pc = .ok (.ifCond .le off, 3)) (ht : (pc : Int) + off = (tgt : Int)) (kt : x ≤ 0 → x_J p l e R s m args below meth c cells slots Q A nL I lv st tgt) (kf : ¬ x ≤ 0 → x_J p l e R s m args below meth c cells slots Q A nL I lv st (pc + 3)) : x_J p l e R s m args below meth c cells slots Q A nL I lv (.int x :: st) pc :=
  fun H locs ls h1 h2 h3 => lv_if_le B.1 B.2.1 hdg ht (fun h => kt h H locs ls h1 h2 h3) (fun h => kf h H locs ls h1 h2 h3)
theorem x_icmp_eq (B : x_B p s m args meth c cc nL Ts own) {x y : Int32} {off : Int} {tgt : Nat} (hdg : decode cc pc = .ok (.if_icmp .eq off, 3)) (ht : (pc : Int) + off = (tgt : Int)) (kt : x = y → x_J p l e R s m args below meth c cells slots Q A nL I lv st tgt) (kf : ¬ x = y → x_J p l e R s m args below meth c cells slots Q A nL I lv st (pc + 3)) : x_J p l e R s m args below meth c cells slots Q A nL I lv (.int y :: .int x :: st) pc :=
  fun H locs ls h1 h2 h3 => lv_icmp_eq B.1 B.2.1 hdg ht (fun h => kt h H locs ls h1 h2 h3) (fun h => kf h H locs ls h1 h2 h3)
theorem x_icmp_ne (B : x_B p s m args meth c cc nL Ts own) {x y : Int32} {off : Int} {tgt : Nat} (hdg : decode cc pc = .ok (.if_icmp .ne off, 3)) (ht : (pc : Int) + off = (tgt : Int)) (kt : ¬ x = y → x_J p l e R s m args below meth c cells slots Q A nL I lv st tgt) (kf : x = y → x_J p l e R s m args below meth c cells slots Q A nL I lv st (pc + 3)) : x_J p l e R s m args below meth c cells slots Q A nL I lv (.int y :: .int x :: st) pc :=
  fun H locs ls h1 h2 h3 => lv_icmp_ne B.1 B.2.1 hdg ht (fun h => kt h H locs ls h1 h2 h3) (fun h => kf h H locs ls h1 h2 h3)
theorem x_icmp_lt (B : x_B p s m args meth c cc nL Ts own) {x y : Int32} {off : Int} {tgt : Nat} (hdg : decode cc pc = .ok (.if_icmp .lt off, 3)) (ht : (pc : Int) + off = (tgt : Int)) (kt : x < y → x_J p l e R s m args below meth c cells slots Q A nL I lv st tgt) (kf : ¬ x < y → x_J p l e R s m args below meth c cells slots Q A nL I lv st (pc + 3)) : x_J p l e R s m args below meth c cells slots Q A nL I lv (.int y :: .int x :: st) pc :=
  fun H locs ls h1 h2 h3 => lv_icmp_lt B.1 B.2.1 hdg ht (fun h => kt h H locs ls h1 h2 h3) (fun h => kf h H locs ls h1 h2 h3)
theorem x_icmp_ge (B : x_B p s m args meth c cc nL Ts own) {x y : Int32} {off : Int} {tgt : Nat} (hdg : decode cc pc = .ok (.if_icmp .ge off, 3)) (ht : (pc : Int) + off = (tgt : Int)) (kt : y ≤ x → x_J p l e R s m args below meth c cells slots Q A nL I lv st tgt) (kf : ¬ y ≤ x → x_J p l e R s m args below meth c cells slots Q A nL I lv st (pc + 3)) : x_J p l e R s m args below meth c cells slots Q A nL I lv (.int y :: .int x :: st) pc :=
  fun H locs ls h1 h2 h3 => lv_icmp_ge B.1 B.2.1 hdg ht (fun h => kt h H locs ls h1 h2 h3) (fun h => kf h H locs ls h1 h2 h3)
theorem x_icmp_gt (B : x_B p s m args meth c cc nL Ts own) {x y : Int32} {off : Int} {tgt : Nat} (hdg : decode cc pc = .ok (.if_icmp .gt off, 3)) (ht : (pc : Int) + off = (tgt : Int)) (kt : y < x → x_J p l e R s m args below meth c cells slots Q A nL I lv st tgt) (kf : ¬ y < x → x_J p l e R s m args below meth c cells slots Q A nL I lv st (pc + 3)) : x_J p l e R s m args below meth c cells slots Q A nL I lv (.int y :: .int x :: st) pc :=
  fun H locs ls h1 h2 h3 => lv_icmp_gt B.1 B.2.1 hdg ht (fun h => kt h H locs ls h1 h2 h3) (fun h => kf h H locs ls h1 h2 h3)
theorem x_icmp_le (B : x_B p s m args meth c cc nL Ts own) {x y : Int32} {off : Int} {tgt : Nat} (hdg : decode cc pc = .ok (.if_icmp .le off, 3)) (ht : (pc : Int) + off = (tgt : Int)) (kt : x ≤ y → x_J p l e R s m args below meth c cells slots Q A nL I lv st tgt) (kf : ¬ x ≤ y → x_J p l e R s m args below meth c cells slots Q A nL I lv st (pc + 3)) : x_J p l e R s m args below meth c cells slots Q A nL I lv (.int y :: .int x :: st) pc :=
  fun H locs ls h1 h2 h3 => lv_icmp_le B.1 B.2.1 hdg ht (fun h => kt h H locs ls h1 h2 h3) (fun h => kf h H locs ls h1 h2 h3)
theorem x_goto (B : x_B p s m args meth c cc nL Ts own) {off : Int} {tgt : Nat} (hdg : decode cc pc = .ok (.goto off, 3)) (ht : (pc : Int) + off = (tgt : Int)) (k : x_J p l e R s m args below meth c cells slots Q A nL I lv st tgt) : x_J p l e R s m args below meth c cells slots Q A nL I lv st pc :=
  fun H locs ls h1 h2 h3 => lv_goto B.1 B.2.1 hdg ht (k H locs ls h1 h2 h3)
theorem x_lookup (B : x_B p s m args meth c cc nL Ts own) {dflt : Int} {ps : Array (Int × Int)} {len : Nat} {x : Int32} {off : Int} {tgt : Nat} (hdg : decode cc pc = .ok (.lookupswitch dflt ps, len)) (hp : (ps.toList.zip (ps.toList.drop 1)).all (fun (a, next) => a.1 < next.1) = true) (ho : Op.lookupswitch.offset ps.toList dflt x.toInt = off) (ht : (pc : Int) + off = (tgt : Int)) (k : x_J p l e R s m args below meth c cells slots Q A nL I lv st tgt) : x_J p l e R s m args below meth c cells slots Q A nL I lv (.int x :: st) pc :=
  fun H locs ls h1 h2 h3 => lv_lookup B.1 B.2.1 hdg hp ho ht (k H locs ls h1 h2 h3)
theorem x_tableOut (B : x_B p s m args meth c cc nL Ts own) {dflt lo hi : Int} {offs : Array Int} {len : Nat} {x : Int32} {tgt : Nat} (hdg : decode cc pc = .ok (.tableswitch dflt lo hi offs, len)) (h : x.toInt < lo ∨ hi < x.toInt) (ht : (pc : Int) + dflt = (tgt : Int)) (k : x_J p l e R s m args below meth c cells slots Q A nL I lv st tgt) : x_J p l e R s m args below meth c cells slots Q A nL I lv (.int x :: st) pc :=
  fun H locs ls h1 h2 h3 => lv_tableOut B.1 B.2.1 hdg h ht (k H locs ls h1 h2 h3)
theorem x_tableIn (B : x_B p s m args meth c cc nL Ts own) {dflt lo hi : Int} {offs : Array Int} {len : Nat} {x : Int32} {off : Int} {tgt : Nat} (hdg : decode cc pc = .ok (.tableswitch dflt lo hi offs, len)) (h1 : ¬ x.toInt < lo) (h2 : ¬ hi < x.toInt) (ho : offs[(x.toInt - lo).toNat]? = some off) (ht : (pc : Int) + off = (tgt : Int)) (k : x_J p l e R s m args below meth c cells slots Q A nL I lv st tgt) : x_J p l e R s m args below meth c cells slots Q A nL I lv (.int x :: st) pc :=
  fun H locs ls g1 g2 g3 => lv_tableIn B.1 B.2.1 hdg h1 h2 ho ht (k H locs ls g1 g2 g3)
theorem x_ldc (B : x_B p s m args meth c cc nL Ts own) {index : Nat} {v : Int32} (hconst : Jvm.Cond.constant own index v ∈ Ts) (hdg : decode cc pc = .ok (.ldc index, 2)) (k : x_J p l e R s m args below meth c cells slots Q A nL I lv (.int v :: st) (pc + 2)) : x_J p l e R s m args below meth c cells slots Q A nL I lv st pc :=
  fun H locs ls h1 h2 h3 => lv_ldc B.1 B.2.1 B.2.2.2.1 (B.2.2.2.2.1 _ hconst) hdg (k H locs ls h1 h2 h3)
theorem x_ldcw (B : x_B p s m args meth c cc nL Ts own) {index : Nat} {v : Int32} (hconst : Jvm.Cond.constant own index v ∈ Ts) (hdg : decode cc pc = .ok (.ldc_w index, 3)) (k : x_J p l e R s m args below meth c cells slots Q A nL I lv (.int v :: st) (pc + 3)) : x_J p l e R s m args below meth c cells slots Q A nL I lv st pc :=
  fun H locs ls h1 h2 h3 => lv_ldcw B.1 B.2.1 B.2.2.2.1 (B.2.2.2.2.1 _ hconst) hdg (k H locs ls h1 h2 h3)
theorem x_ldc2 (B : x_B p s m args meth c cc nL Ts own) {index : Nat} {v : Int64} (hconst : Jvm.Cond.constantLong own index v ∈ Ts) (hdg : decode cc pc = .ok (.ldc2_w index, 3)) (k : x_J p l e R s m args below meth c cells slots Q A nL I lv (.long v :: st) (pc + 3)) : x_J p l e R s m args below meth c cells slots Q A nL I lv st pc :=
  fun H locs ls h1 h2 h3 => lv_ldc2 B.1 B.2.1 B.2.2.2.1 (B.2.2.2.2.1 _ hconst) hdg (k H locs ls h1 h2 h3)
/-- a field is read -/
theorem x_get (B : x_B p s m args meth c cc nL Ts own) (G : x_G s D cl tys N ad A St) {Cn : String} {T : u_T} {n ci kc index : Nat} (hin : ∀ w ∈ u_ws Cn T n, w ∈ Ts) (hc : cl[ci]? = some (Cn, T, n)) (hk : kc < N) {fs : (Nat → Int32) → List Value} (hC : ∀ r, C r kc = .inr (ci, fs r)) (j : Nat) (hj : j < n) (hlink : Cond.fieldLink own index (T j).1 (T j).2.1 (T j).2.2.1 ∈ Ts) {v : Value} (hv : (fs (σ kc))[j]? = some v) (hdg : decode cc pc = .ok (.getfield index, 3))
    (k : x_J p l e R s m args below meth c cells slots Q A nL (x_I D cl N C ad σ) lv (v :: st) (pc + 3)) : x_J p l e R s m args below meth c cells slots Q A nL (x_I D cl N C ad σ) lv (.ref (ad kc) :: st) pc :=
  fun H locs ls h1 h2 h3 => va_get (D := D) (cl := cl) (ws := x_l N C ad σ) (ci := ci) (C := Cn) (T := T) (N := n) B.1 B.2.1 B.2.2.2.2.1 hin B.2.2.2.1 G.1 h1 kc (by rw [x_l_at C ad σ hk, hC]) hc j hj (B.2.2.2.2.1 _ hlink) (fun _ h9 => h9) hv hdg (k H locs ls h1 h2 h3)
/-- an int field is written -/
theorem x_put (B : x_B p s m args meth c cc nL Ts own) (G : x_G s D cl tys N ad A St) {Cn : String} {T : u_T} {n ci kc index : Nat} (hin : ∀ w ∈ u_ws Cn T n, w ∈ Ts) (ty0 : Nat → FieldType) (hty : ∀ k, k < n → parseFieldDescriptor (T k).2.2.1 = some (ty0 k)) (hnm : ∀ a, a < n → ∀ b, b < n → a ≠ b → (T a).2.1 ≠ (T b).2.1) (hc : cl[ci]? = some (Cn, T, n)) (hk : kc < N) {fs : (Nat → Int32) → List Value} (hC : ∀ r, C r kc = .inr (ci, fs r)) (j : Nat) (hj : j < n) (hlink : Cond.fieldLink own index (T j).1 (T j).2.1 (T j).2.2.1 ∈ Ts) (hfin : (T j).2.2.2 = false) {ty : FieldType} {v : Int32} (hd : ty0 j = ty) (hn : narrow ty (.int v) = .int v) (hfit : fits ty (.int v) = true) (hlen : j < (fs (σ kc)).length) (hset : (fs (σ kc)).set j (.int v) = fs (upd (σ kc) j v)) (hdg : decode cc pc = .ok (.putfield index, 3))
    (k : x_J p l e R s m args below meth c cells slots Q A nL (x_I D cl N C ad (x_u σ kc j v)) lv st (pc + 3)) : x_J p l e R s m args below meth c cells slots Q A nL (x_I D cl N C ad σ) lv (.int v :: .ref (ad kc) :: st) pc := by
  intro H locs ls h1 h2 h3
  refine va_put (D := D) (cl := cl) (ws := x_l N C ad σ) (ci := ci) (C := Cn) (T := T) (N := n) (A := A) B.1 B.2.1 B.2.2.2.2.1 hin ty0 hty hnm B.2.2.2.1 G.1 h1 (x_D G.2.1 G.2.2.1 σ) h2 kc (fs := fs (σ kc)) (by rw [x_l_at C ad σ hk, hC]) hc j hj (B.2.2.2.2.1 _ hlink) (fun _ h9 => h9) hfin (ty := ty) (by rw [hty j hj, hd]) hn hfit hlen hdg (fun H1 locs1 g1 _ g2 => ?_)
  rw [hset, ← hC, x_l_set C ad σ hk] at g1
  exact k H1 locs1 ls g1 g2 h3
/-- a place of an int array is read -/
theorem x_iald (B : x_B p s m args meth c cc nL Ts own) (G : x_G s D cl tys N ad A St) {kc n t0 : Nat} {cA : ClassId} (hk : kc < N) (hC : ∀ r, C r kc = .inl (cA, n, .inl r)) (ht : tys[t0]? = some (cA, .int)) {i : Int32} (hi : x_in i n) (hdg : decode cc pc = .ok (.iaload, 1)) (k : x_J p l e R s m args below meth c cells slots Q A nL (x_I D cl N C ad σ) lv (.int (σ kc i.toNatClampNeg) :: st) (pc + 1)) : x_J p l e R s m args below meth c cells slots Q A nL (x_I D cl N C ad σ) lv (.int i :: .ref (ad kc) :: st) pc :=
  fun H locs ls h1 h2 h3 => va_iald (D := D) (cl := cl) (ws := x_l N C ad σ) B.1 B.2.1 G.1 h1 kc t0 (f := σ kc) (by rw [x_l_at C ad σ hk, hC]) ht hi hdg (k H locs ls h1 h2 h3)
theorem x_zald (B : x_B p s m args meth c cc nL Ts own) (G : x_G s D cl tys N ad A St) {kc n t0 : Nat} {cA : ClassId} (hk : kc < N) (hC : ∀ r, C r kc = .inl (cA, n, .inl r)) (ht : tys[t0]? = some (cA, .boolean)) {i : Int32} (hi : x_in i n) (hdg : decode cc pc = .ok (.baload, 1)) (k : x_J p l e R s m args below meth c cells slots Q A nL (x_I D cl N C ad σ) lv (.int (σ kc i.toNatClampNeg) :: st) (pc + 1)) : x_J p l e R s m args below meth c cells slots Q A nL (x_I D cl N C ad σ) lv (.int i :: .ref (ad kc) :: st) pc :=
  fun H locs ls h1 h2 h3 => va_zald (D := D) (cl := cl) (ws := x_l N C ad σ) B.1 B.2.1 G.1 h1 kc t0 (f := σ kc) (by rw [x_l_at C ad σ hk, hC]) ht hi hdg (k H locs ls h1 h2 h3)
theorem x_iast (B : x_B p s m args meth c cc nL Ts own) (G : x_G s D cl tys N ad A St) {kc n t0 : Nat} {cA : ClassId} (hk : kc < N) (hC : ∀ r, C r kc = .inl (cA, n, .inl r)) (ht : tys[t0]? = some (cA, .int)) {i x : Int32} (hi : x_in i n) (hdg : decode cc pc = .ok (.iastore, 1)) (k : x_J p l e R s m args below meth c cells slots Q A nL (x_I D cl N C ad (x_u σ kc i.toNatClampNeg x)) lv st (pc + 1)) : x_J p l e R s m args below meth c cells slots Q A nL (x_I D cl N C ad σ) lv (.int x :: .int i :: .ref (ad kc) :: st) pc := by
  intro H locs ls h1 h2 h3
  refine va_iast (D := D) (cl := cl) (ws := x_l N C ad σ) (A := A) B.1 B.2.1 G.1 h1 (x_D G.2.1 G.2.2.1 σ) h2 kc t0 (f := σ kc) (by rw [x_l_at C ad σ hk, hC]) ht hi hdg (fun H1 locs1 g1 _ g2 => ?_)
  rw [← hC, x_l_set C ad σ hk] at g1
  exact k H1 locs1 ls g1 g2 h3
theorem x_zast (B : x_B p s m args meth c cc nL Ts own) (G : x_G s D cl tys N ad A St) {kc n t0 : Nat} {cA : ClassId} (hk : kc < N) (hC : ∀ r, C r kc = .inl (cA, n, .inl r)) (ht : tys[t0]? = some (cA, .boolean)) {i x : Int32} (hi : x_in i n) (hx : x &&& 1 = x) (hdg : decode cc pc = .ok (.bastore, 1)) (k : x_J p l e R s m args below meth c cells slots Q A nL (x_I D cl N C ad (x_u σ kc i.toNatClampNeg x)) lv st (pc + 1)) : x_J p l e R s m args below meth c cells slots Q A nL (x_I D cl N C ad σ) lv (.int x :: .int i :: .ref (ad kc) :: st) pc := by
  intro H locs ls h1 h2 h3
  refine va_zast (D := D) (cl := cl) (ws := x_l N C ad σ) (A := A) B.1 B.2.1 G.1 h1 (x_D G.2.1 G.2.2.1 σ) h2 kc t0 (f := σ kc) (by rw [x_l_at C ad σ hk, hC]) ht hi hdg (fun H1 locs1 g1 _ g2 => ?_)
  have hx2 : vp_nar .boolean x = x := hx
  rw [hx2, ← hC, x_l_set C ad σ hk] at g1
  exact k H1 locs1 ls g1 g2 h3
/-- a place of an array of references is read -/
theorem x_aald (B : x_B p s m args meth c cc nL Ts own) (G : x_G s D cl tys N ad A St) {kc n t0 : Nat} {cA : ClassId} {ty : FieldType} {f : Nat → Nat} (hk : kc < N) (hC : ∀ r, C r kc = .inl (cA, n, .inr (.inr (.inr (.inr (fun j => some (f j))))))) (ht : tys[t0]? = some (cA, ty)) (hty : ty.isReference = true) {i : Int32} (hi : x_in i n) (hdg : decode cc pc = .ok (.aaload, 1)) (k : x_J p l e R s m args below meth c cells slots Q A nL (x_I D cl N C ad σ) lv (.ref (f i.toNatClampNeg) :: st) (pc + 1)) : x_J p l e R s m args below meth c cells slots Q A nL (x_I D cl N C ad σ) lv (.int i :: .ref (ad kc) :: st) pc := by
  intro H locs ls h1 h2 h3
  have hlt : i.toNatClampNeg < n := Nat.not_le.mp fun q => hi (Or.inr q)
  have hP : va_P D cl (x_l N C ad σ) H := h1
  have ha : (x_l N C ad σ)[kc]? = some (ad kc, .inl (cA, n, .inr (.inr (.inr (.inr (fun j => some (f j))))))) := by rw [x_l_at C ad σ hk, hC]
  exact W.aald (v := va_rf (some (f i.toNatClampNeg))) (ty := ty) B.1 B.2.1 (hP kc _ ha) ((G.1.2 t0 _ ht).1 n (fun j => va_rf (some (f j)))) hty (fun q => by cases q) (by show ¬ (i < 0 ∨ (arrV _ _ _).slots.size ≤ _); rw [arrV_size]; exact hi) (by show (arrV _ _ _).slots[_]? = _; rw [arrV_read _ _ hlt]) rfl rfl hdg (k H locs ls h1 h2 h3)
theorem x_alen (B : x_B p s m args meth c cc nL Ts own) (G : x_G s D cl tys N ad A St) {kc t0 : Nat} {cA : ClassId} {x : (Nat → Int32) → vp_A} (hk : kc < N) (hC : ∀ r, C r kc = .inl (cA, x r)) {ty : FieldType} (ht : tys[t0]? = some (cA, ty)) {v : Int32} (hv : Int32.ofNat (x (σ kc)).1 = v) (hdg : decode cc pc = .ok (.arraylength, 1)) (k : x_J p l e R s m args below meth c cells slots Q A nL (x_I D cl N C ad σ) lv (.int v :: st) (pc + 1)) : x_J p l e R s m args below meth c cells slots Q A nL (x_I D cl N C ad σ) lv (.ref (ad kc) :: st) pc :=
  fun H locs ls h1 h2 h3 => va_alen (D := D) (cl := cl) (ws := x_l N C ad σ) B.1 B.2.1 G.1 h1 kc t0 (x := x (σ kc)) (by rw [x_l_at C ad σ hk, hC]) ht hv hdg (k H locs ls h1 h2 h3)
/-- ints are copied from row to row -/
theorem x_copy (B : x_B p s m args meth c cc nL Ts own) (G : x_G s D cl tys N ad A St) {index k0 k1 n0 n1 t0 : Nat} {cA : ClassId} (hlink : Cond.methodLink own index arraycopyName ∈ Ts) (hnat : Cond.native arraycopyName ∈ Ts) (hstat : Cond.static arraycopyName ∈ Ts) (hini : Cond.initialized "java/lang/System" ∈ Ts) (hk0 : k0 < N) (hk1 : k1 < N) (hC0 : ∀ r, C r k0 = .inl (cA, n0, .inl r)) (hC1 : ∀ r, C r k1 = .inl (cA, n1, .inl r)) (ht : tys[t0]? = some (cA, .int))
    {sp dp n : Int32} (hh : ¬ sp < 0 ∧ ¬ dp < 0 ∧ ¬ n < 0 ∧ sp.toNatClampNeg + n.toNatClampNeg ≤ n0 ∧ dp.toNatClampNeg + n.toNatClampNeg ≤ n1) (hR : 1 ≤ R.frames ∧ (st.map fun v => v.category).sum + (nativeFrameWords "java/lang/System" "arraycopy" 5 + 11) ≤ R.locals) (hdg : decode cc pc = .ok (.invokestatic index, 3))
    (k : x_J p l e R s m args below meth c cells slots Q A nL (x_I D cl N C ad (x_r σ k1 (va_cpy (σ k0) (σ k1) sp.toNatClampNeg dp.toNatClampNeg n.toNatClampNeg))) lv st (pc + 3)) : x_J p l e R s m args below meth c cells slots Q A nL (x_I D cl N C ad σ) lv (.int n :: .int dp :: .ref (ad k1) :: .int sp :: .ref (ad k0) :: st) pc := by
  intro H locs ls h1 h2 h3
  refine va_copyi (D := D) (cl := cl) (ws := x_l N C ad σ) (A := A) B.1 B.2.1 (by rw [B.2.2.1, h3.1]) B.2.2.2.1 (B.2.2.2.2.1 _ hlink) (B.2.2.2.2.1 _ hnat) (B.2.2.2.2.1 _ hstat) (B.2.2.2.2.1 _ hini) G.1 h1 (x_D G.2.1 G.2.2.1 σ) h2 k0 k1 t0 t0 (f := σ k0) (g := σ k1) (ty := .int) (by rw [x_l_at C ad σ hk0, hC0]) (by rw [x_l_at C ad σ hk1, hC1]) ht ht rfl hh.1 hh.2.1 hh.2.2.1 hh.2.2.2.1 hh.2.2.2.2 (fun i _ => rfl) hR.1 hR.2 hdg (fun H1 locs1 g1 _ g2 => ?_)
  rw [← hC1, x_l_set C ad σ hk1] at g1
  exact k H1 locs1 ls g1 g2 h3
theorem x_mmax (B : x_B p s m args meth c cc nL Ts own) {index : Nat} (hlink : Cond.methodLink own index Lib.Math.max.name ∈ Ts) (hstat : Cond.static Lib.Math.max.name ∈ Ts) (hini : Cond.initialized "java/lang/Math" ∈ Ts) (hcode : Cond.code Lib.Math.max.name Lib.Math.max.code 2 (some .int) ∈ Ts) (hR : 1 ≤ R.frames ∧ (st.map fun v => v.category).sum + 13 ≤ R.locals) (hcs : cells ≤ R.cells ∧ slots ≤ R.slots) {x y : Int32} (hdg : decode cc pc = .ok (.invokestatic index, 3)) (k : x_J p l e R s m args below meth c cells slots Q A nL I lv (.int (if x < y then y else x) :: st) (pc + 3)) : x_J p l e R s m args below meth c cells slots Q A nL I lv (.int y :: .int x :: st) pc :=
  fun H locs ls h1 h2 h3 => va_mmax B.1 B.2.1 (by rw [B.2.2.1, h3.1]) B.2.2.2.1 (B.2.2.2.2.1 _ hlink) (B.2.2.2.2.1 _ hstat) (B.2.2.2.2.1 _ hini) (B.2.2.2.2.1 _ hcode) hR.1 hR.2 hcs.1 hcs.2 hdg (k H locs ls h1 h2 h3)
theorem x_mmin (B : x_B p s m args meth c cc nL Ts own) {index : Nat} (hlink : Cond.methodLink own index Lib.Math.min.name ∈ Ts) (hstat : Cond.static Lib.Math.min.name ∈ Ts) (hini : Cond.initialized "java/lang/Math" ∈ Ts) (hcode : Cond.code Lib.Math.min.name Lib.Math.min.code 2 (some .int) ∈ Ts) (hR : 1 ≤ R.frames ∧ (st.map fun v => v.category).sum + 13 ≤ R.locals) (hcs : cells ≤ R.cells ∧ slots ≤ R.slots) {x y : Int32} (hdg : decode cc pc = .ok (.invokestatic index, 3)) (k : x_J p l e R s m args below meth c cells slots Q A nL I lv (.int (if y < x then y else x) :: st) (pc + 3)) : x_J p l e R s m args below meth c cells slots Q A nL I lv (.int y :: .int x :: st) pc :=
  fun H locs ls h1 h2 h3 => va_mmin B.1 B.2.1 (by rw [B.2.2.1, h3.1]) B.2.2.2.1 (B.2.2.2.2.1 _ hlink) (B.2.2.2.2.1 _ hstat) (B.2.2.2.2.1 _ hini) (B.2.2.2.2.1 _ hcode) hR.1 hR.2 hcs.1 hcs.2 hdg (k H locs ls h1 h2 h3)
/-- a static that holds a reference; a table is read -/
theorem x_gets (B : x_B p s m args meth c cc nL Ts own) {Cn nm d : String} {v : Value} {index : Nat} (hZ : va_Z Cn nm d v A s s.heap) (hlink : Cond.fieldLink own index Cn nm d ∈ Ts) (hdg : decode cc pc = .ok (.getstatic index, 3)) (k : x_J p l e R s m args below meth c cells slots Q A nL I lv (v :: st) (pc + 3)) : x_J p l e R s m args below meth c cells slots Q A nL I lv st pc :=
  fun H locs ls h1 h2 h3 => va_gets B.1 B.2.1 hZ h2 B.2.2.2.1 (B.2.2.2.2.1 _ hlink) (fun _ h9 => h9) hdg (k H locs ls h1 h2 h3)
theorem x_tald (B : x_B p s m args meth c cc nL Ts own) {t n : Nat} {f : Nat → Int32} (hT : va_T .int t n (fun j => .int (f j)) A s s.heap) {i : Int32} (hi : x_in i n) (hdg : decode cc pc = .ok (.iaload, 1)) (k : x_J p l e R s m args below meth c cells slots Q A nL I lv (.int (f i.toNatClampNeg) :: st) (pc + 1)) : x_J p l e R s m args below meth c cells slots Q A nL I lv (.int i :: .ref t :: st) pc :=
  fun H locs ls h1 h2 h3 => va_ti B.1 B.2.1 hT h2 hi rfl hdg (k H locs ls h1 h2 h3)
theorem x_talen (B : x_B p s m args meth c cc nL Ts own) {t n : Nat} {f : Nat → Value} {v : Int32} (hT : va_T .int t n f A s s.heap) (hv : Int32.ofNat n = v) (hdg : decode cc pc = .ok (.arraylength, 1)) (k : x_J p l e R s m args below meth c cells slots Q A nL I lv (.int v :: st) (pc + 1)) : x_J p l e R s m args below meth c cells slots Q A nL I lv (.ref t :: st) pc := by
  intro H locs ls h1 h2 h3
  obtain ⟨cell, g1, g2, g3, g4, g5, g6, g7⟩ := hT
  exact W.alen B.1 B.2.1 (a := t) (cell := cell) (ty := .int) (by rw [h2.2.1 t (Array.getElem?_eq_some_iff.mp g1).1 g7]; exact g1) g2 (g5.trans hv) rfl rfl hdg (k H locs ls h1 h2 h3)
end XJ
end
section
/-! ===== BEGIN words of one list among another's, by their places ===== -/
theorem goodIn_r {big : List Cond} (ws : List Cond) (ps : List Nat) (hp : ws = ps.filterMap (fun i => big[i]?)) (h : ws.all goodWord = true) : GoodIn big ws := by
  intro w hw
  have h1 := List.all_eq_true.mp h w hw
  rw [hp] at hw
  obtain ⟨i, -, hi⟩ := List.mem_filterMap.mp hw
  have hm : w ∈ big := by first | exact List.mem_of_getElem? hi | exact List.getElem?_mem hi
  exact ⟨hm, good_of_word h1⟩
theorem goodIn_app {big a b : List Cond} (ha : GoodIn big a) (hb : GoodIn big b) : GoodIn big (a ++ b) := fun w h => (List.mem_append.mp h).elim (ha w) (hb w)
theorem goodIn_ca {big a b : List Cond} {c : Cond} (ha : GoodIn big (c :: a)) (hb : GoodIn big b) : GoodIn big (c :: (a ++ b)) := fun w h => (List.mem_cons.mp h).elim (fun e => ha w (List.mem_cons.mpr (Or.inl e))) (fun h => (List.mem_append.mp h).elim (fun h => ha w (List.mem_cons.mpr (Or.inr h))) (hb w))
theorem goodIn_sub {big ws : List Cond} (hm : ∀ w ∈ ws, w ∈ big) (h : ws.all goodWord = true) : GoodIn big ws := fun w hw => ⟨hm w hw, good_of_word (List.all_eq_true.mp h w hw)⟩
/-! ===== END ===== -/

/-! ===== BEGIN printed: names, fields, word lists, decode rows ===== -/
def RX0 : String := "SignDuty$Acts"
def TX0 : u_T := fun k => match k with
  | 0 => ("SignDuty$Acts", "deeds", "[I", true)
  | 1 => ("SignDuty$Acts", "whats", "[I", true)
  | 2 => ("SignDuty$Acts", "values", "[I", true)
  | 3 => ("SignDuty$Acts", "nextSlot", "I", false)
  | _ => ("SignDuty$Acts", "kept", "I", false)
def tyX0 : Nat → FieldType := fun k => match k with
  | 0 => .array .int
  | 1 => .array .int
  | 2 => .array .int
  | 3 => .int
  | _ => .int
abbrev wsX00 : List Cond := u_ws RX0 TX0 5
theorem nmX0 : ∀ a, a < 5 → ∀ b, b < 5 → a ≠ b → (TX0 a).2.1 ≠ (TX0 b).2.1 := by decide +kernel
theorem tyX0_ok : ∀ k, k < 5 → parseFieldDescriptor (TX0 k).2.2.1 = some (tyX0 k) := by decide +kernel
abbrev cX0_init : ByteArray := prog_2_method_1_code
def yX0_init : MethodName := ⟨RX0, "<init>", "()V"⟩
abbrev cX0_forgetAll : ByteArray := prog_2_method_2_code
def yX0_forgetAll : MethodName := ⟨RX0, "forgetAll", "()V"⟩
abbrev cX0_keep : ByteArray := prog_2_method_3_code
def yX0_keep : MethodName := ⟨RX0, "keep", "(III)V"⟩
abbrev cX0_takeBack : ByteArray := prog_2_method_4_code
def yX0_takeBack : MethodName := ⟨RX0, "takeBack", "(LSignDuty$City;)V"⟩
def RX1 : String := "SignDuty$Asks"
def TX1 : u_T := fun k => match k with
  | 0 => ("SignDuty$Asks", "numbers", "[I", true)
  | _ => ("SignDuty$Asks", "left", "I", false)
def tyX1 : Nat → FieldType := fun k => match k with
  | 0 => .array .int
  | _ => .int
abbrev wsX10 : List Cond := u_ws RX1 TX1 2
theorem nmX1 : ∀ a, a < 2 → ∀ b, b < 2 → a ≠ b → (TX1 a).2.1 ≠ (TX1 b).2.1 := by decide +kernel
theorem tyX1_ok : ∀ k, k < 2 → parseFieldDescriptor (TX1 k).2.2.1 = some (tyX1 k) := by decide +kernel
abbrev cX1_init : ByteArray := prog_3_method_1_code
def yX1_init : MethodName := ⟨RX1, "<init>", "()V"⟩
abbrev cX1_answer : ByteArray := prog_3_method_2_code
def yX1_answer : MethodName := ⟨RX1, "answer", "(LSignDuty$City;II)I"⟩
abbrev cX1_numberLeft : ByteArray := prog_3_method_3_code
def yX1_numberLeft : MethodName := ⟨RX1, "numberLeft", "(I)I"⟩
abbrev cX1_asked : ByteArray := prog_3_method_4_code
def yX1_asked : MethodName := ⟨RX1, "asked", "(LSignDuty$City;III)I"⟩
abbrev cX1_bodyFor : ByteArray := prog_3_method_5_code
def yX1_bodyFor : MethodName := ⟨RX1, "bodyFor", "([II)I"⟩
abbrev cX1_given : ByteArray := prog_3_method_6_code
def yX1_given : MethodName := ⟨RX1, "given", "(ILSignDuty$City;II)I"⟩
abbrev cX1_sizeBy : ByteArray := prog_3_method_7_code
def yX1_sizeBy : MethodName := ⟨RX1, "sizeBy", "(ILSignDuty$City;II)I"⟩
abbrev cX1_markBy : ByteArray := prog_3_method_8_code
def yX1_markBy : MethodName := ⟨RX1, "markBy", "(ILSignDuty$City;II)I"⟩
abbrev cX1_leave : ByteArray := prog_3_method_9_code
def yX1_leave : MethodName := ⟨RX1, "leave", "(I)V"⟩
def RX2 : String := "SignDuty$City"
def TX2 : u_T := fun k => match k with
  | 0 => ("SignDuty$City", "stands", "Z", false)
  | 1 => ("SignDuty$City", "rate", "I", false)
  | 2 => ("SignDuty$City", "paid", "I", false)
  | 3 => ("SignDuty$City", "streets", "I", false)
  | 4 => ("SignDuty$City", "known", "I", false)
  | 5 => ("SignDuty$City", "gestures", "I", false)
  | 6 => ("SignDuty$City", "dim", "[I", true)
  | 7 => ("SignDuty$City", "strict", "[I", true)
  | 8 => ("SignDuty$City", "kind", "[I", true)
  | 9 => ("SignDuty$City", "inches", "[I", true)
  | 10 => ("SignDuty$City", "means", "[I", true)
  | 11 => ("SignDuty$City", "takes", "[I", true)
  | _ => ("SignDuty$City", "made", "[I", true)
def tyX2 : Nat → FieldType := fun k => match k with
  | 0 => .boolean
  | 1 => .int
  | 2 => .int
  | 3 => .int
  | 4 => .int
  | 5 => .int
  | 6 => .array .int
  | 7 => .array .int
  | 8 => .array .int
  | 9 => .array .int
  | 10 => .array .int
  | 11 => .array .int
  | _ => .array .int
abbrev wsX20 : List Cond := u_ws RX2 TX2 13
theorem nmX2 : ∀ a, a < 13 → ∀ b, b < 13 → a ≠ b → (TX2 a).2.1 ≠ (TX2 b).2.1 := by decide +kernel
theorem tyX2_ok : ∀ k, k < 13 → parseFieldDescriptor (TX2 k).2.2.1 = some (tyX2 k) := by decide +kernel
abbrev cX2_init : ByteArray := prog_4_method_1_code
def yX2_init : MethodName := ⟨RX2, "<init>", "()V"⟩
abbrev cX2_begin : ByteArray := prog_4_method_2_code
def yX2_begin : MethodName := ⟨RX2, "begin", "(I)V"⟩
abbrev cX2_become : ByteArray := prog_4_method_3_code
def yX2_become : MethodName := ⟨RX2, "become", "(LSignDuty$City;)V"⟩
abbrev cX2_isKnown : ByteArray := prog_4_method_4_code
def yX2_isKnown : MethodName := ⟨RX2, "isKnown", "(I)Z"⟩
abbrev cX2_turnKnown : ByteArray := prog_4_method_5_code
def yX2_turnKnown : MethodName := ⟨RX2, "turnKnown", "(I)V"⟩
abbrev cX2_owes : ByteArray := prog_4_method_6_code
def yX2_owes : MethodName := ⟨RX2, "owes", "(II)I"⟩
abbrev cX2_owesIfKnown : ByteArray := prog_4_method_7_code
def yX2_owesIfKnown : MethodName := ⟨RX2, "owesIfKnown", "(II)I"⟩
abbrev cX2_owesSuch : ByteArray := prog_4_method_8_code
def yX2_owesSuch : MethodName := ⟨RX2, "owesSuch", "(III)I"⟩
abbrev cX2_owesUnknown : ByteArray := prog_4_method_9_code
def yX2_owesUnknown : MethodName := ⟨RX2, "owesUnknown", "(III)I"⟩
abbrev cX2_isSeen : ByteArray := prog_4_method_10_code
def yX2_isSeen : MethodName := ⟨RX2, "isSeen", "(II)Z"⟩
abbrev cX2_tells : ByteArray := prog_4_method_11_code
def yX2_tells : MethodName := ⟨RX2, "tells", "(III)Z"⟩
abbrev cX2_streetsThatSee : ByteArray := prog_4_method_12_code
def yX2_streetsThatSee : MethodName := ⟨RX2, "streetsThatSee", "(I)I"⟩
abbrev cX2_gesturesSeenIn : ByteArray := prog_4_method_13_code
def yX2_gesturesSeenIn : MethodName := ⟨RX2, "gesturesSeenIn", "(I)I"⟩
abbrev cX2_streetsWithout : ByteArray := prog_4_method_14_code
def yX2_streetsWithout : MethodName := ⟨RX2, "streetsWithout", "(I)I"⟩
abbrev cX2_leastTime : ByteArray := prog_4_method_15_code
def yX2_leastTime : MethodName := ⟨RX2, "leastTime", "(II)I"⟩
abbrev cX2_dearestStreet : ByteArray := prog_4_method_16_code
def yX2_dearestStreet : MethodName := ⟨RX2, "dearestStreet", "(I)I"⟩
def RX3 : String := "SignDuty$Kinds"
def TX3 : u_T := fun k => match k with
  | _ => ("", "", "", false)
def tyX3 : Nat → FieldType := fun k => match k with
  | _ => .int
abbrev wsX30 : List Cond := u_ws RX3 TX3 0
theorem nmX3 : ∀ a, a < 0 → ∀ b, b < 0 → a ≠ b → (TX3 a).2.1 ≠ (TX3 b).2.1 := by decide +kernel
theorem tyX3_ok : ∀ k, k < 0 → parseFieldDescriptor (TX3 k).2.2.1 = some (tyX3 k) := by decide +kernel
abbrev cX3_widerThan : ByteArray := prog_5_method_2_code
def yX3_widerThan : MethodName := ⟨RX3, "widerThan", "(I)I"⟩
abbrev cX3_isOneOf : ByteArray := prog_5_method_3_code
def yX3_isOneOf : MethodName := ⟨RX3, "isOneOf", "(II)Z"⟩
abbrev cX3_ofLetter : ByteArray := prog_5_method_4_code
def yX3_ofLetter : MethodName := ⟨RX3, "ofLetter", "(I)I"⟩
def RX4 : String := "SignDuty$Reader"
def TX4 : u_T := fun k => match k with
  | 0 => ("SignDuty$Reader", "tape", "[I", true)
  | 1 => ("SignDuty$Reader", "length", "I", false)
  | 2 => ("SignDuty$Reader", "lastFault", "I", false)
  | 3 => ("SignDuty$Reader", "faultPlace", "I", false)
  | 4 => ("SignDuty$Reader", "fault", "I", false)
  | _ => ("SignDuty$Reader", "at", "I", false)
def tyX4 : Nat → FieldType := fun k => match k with
  | 0 => .array .int
  | 1 => .int
  | 2 => .int
  | 3 => .int
  | 4 => .int
  | _ => .int
abbrev wsX40 : List Cond := u_ws RX4 TX4 6
theorem nmX4 : ∀ a, a < 6 → ∀ b, b < 6 → a ≠ b → (TX4 a).2.1 ≠ (TX4 b).2.1 := by decide +kernel
theorem tyX4_ok : ∀ k, k < 6 → parseFieldDescriptor (TX4 k).2.2.1 = some (tyX4 k) := by decide +kernel
abbrev cX4_init : ByteArray := prog_6_method_1_code
def yX4_init : MethodName := ⟨RX4, "<init>", "()V"⟩
abbrev cX4_isFull : ByteArray := prog_6_method_2_code
def yX4_isFull : MethodName := ⟨RX4, "isFull", "()Z"⟩
abbrev cX4_append : ByteArray := prog_6_method_3_code
def yX4_append : MethodName := ⟨RX4, "append", "(I)I"⟩
abbrev cX4_reads : ByteArray := prog_6_method_4_code
def yX4_reads : MethodName := ⟨RX4, "reads", "(LSignDuty$City;)Z"⟩
abbrev cX4_readLaw : ByteArray := prog_6_method_5_code
def yX4_readLaw : MethodName := ⟨RX4, "readLaw", "(LSignDuty$City;)V"⟩
abbrev cX4_readStreet : ByteArray := prog_6_method_6_code
def yX4_readStreet : MethodName := ⟨RX4, "readStreet", "(LSignDuty$City;)V"⟩
abbrev cX4_readGesture : ByteArray := prog_6_method_7_code
def yX4_readGesture : MethodName := ⟨RX4, "readGesture", "(LSignDuty$City;)V"⟩
abbrev cX4_next : ByteArray := prog_6_method_8_code
def yX4_next : MethodName := ⟨RX4, "next", "()I"⟩
abbrev cX4_readSign : ByteArray := prog_6_method_9_code
def yX4_readSign : MethodName := ⟨RX4, "readSign", "(I)V"⟩
abbrev cX4_readNumber : ByteArray := prog_6_method_10_code
def yX4_readNumber : MethodName := ⟨RX4, "readNumber", "(II)I"⟩
abbrev cX4_fail : ByteArray := prog_6_method_11_code
def yX4_fail : MethodName := ⟨RX4, "fail", "(I)V"⟩
abbrev cX4_failAt : ByteArray := prog_6_method_12_code
def yX4_failAt : MethodName := ⟨RX4, "failAt", "(II)V"⟩
def RX5 : String := "SignDuty$Rows"
def TX5 : u_T := fun k => match k with
  | 0 => ("SignDuty$Rows", "items", "[[I", true)
  | 1 => ("SignDuty$Rows", "lengths", "[I", true)
  | _ => ("SignDuty$Rows", "lanes", "[I", true)
def tyX5 : Nat → FieldType := fun k => match k with
  | 0 => .array (.array .int)
  | 1 => .array .int
  | _ => .array .int
abbrev wsX50 : List Cond := u_ws RX5 TX5 3
theorem nmX5 : ∀ a, a < 3 → ∀ b, b < 3 → a ≠ b → (TX5 a).2.1 ≠ (TX5 b).2.1 := by decide +kernel
theorem tyX5_ok : ∀ k, k < 3 → parseFieldDescriptor (TX5 k).2.2.1 = some (tyX5 k) := by decide +kernel
abbrev cX5_init : ByteArray := prog_7_method_1_code
def yX5_init : MethodName := ⟨RX5, "<init>", "()V"⟩
abbrev cX5_isRow : ByteArray := prog_7_method_2_code
def yX5_isRow : MethodName := ⟨RX5, "isRow", "(I)Z"⟩
abbrev cX5_isMissing : ByteArray := prog_7_method_3_code
def yX5_isMissing : MethodName := ⟨RX5, "isMissing", "(I)Z"⟩
abbrev cX5_areAlike : ByteArray := prog_7_method_4_code
def yX5_areAlike : MethodName := ⟨RX5, "areAlike", "(II)Z"⟩
abbrev cX5_reaches : ByteArray := prog_7_method_5_code
def yX5_reaches : MethodName := ⟨RX5, "reaches", "(III)Z"⟩
abbrev cX5_findingOf : ByteArray := prog_7_method_6_code
def yX5_findingOf : MethodName := ⟨RX5, "findingOf", "(III)I"⟩
abbrev cX5_lay : ByteArray := prog_7_method_7_code
def yX5_lay : MethodName := ⟨RX5, "lay", "(III)V"⟩
abbrev cX5_put : ByteArray := prog_7_method_8_code
def yX5_put : MethodName := ⟨RX5, "put", "(III)I"⟩
abbrev cX5_at : ByteArray := prog_7_method_9_code
def yX5_at : MethodName := ⟨RX5, "at", "(II)I"⟩
abbrev cX5_carry : ByteArray := prog_7_method_10_code
def yX5_carry : MethodName := ⟨RX5, "carry", "(IIIII)V"⟩
abbrev cX5_takeAway : ByteArray := prog_7_method_11_code
def yX5_takeAway : MethodName := ⟨RX5, "takeAway", "(I)I"⟩
abbrev cX5_howMany : ByteArray := prog_7_method_12_code
def yX5_howMany : MethodName := ⟨RX5, "howMany", "()I"⟩
abbrev cX5_lowestBits : ByteArray := prog_7_method_13_code
def yX5_lowestBits : MethodName := ⟨RX5, "lowestBits", "(II)I"⟩
def RX6 : String := "SignDuty$Teller"
def TX6 : u_T := fun k => match k with
  | _ => ("SignDuty$Teller", "least", "[[I", true)
def tyX6 : Nat → FieldType := fun k => match k with
  | _ => .array (.array .int)
abbrev wsX60 : List Cond := u_ws RX6 TX6 1
theorem nmX6 : ∀ a, a < 1 → ∀ b, b < 1 → a ≠ b → (TX6 a).2.1 ≠ (TX6 b).2.1 := by decide +kernel
theorem tyX6_ok : ∀ k, k < 1 → parseFieldDescriptor (TX6 k).2.2.1 = some (tyX6 k) := by decide +kernel
abbrev cX6_init : ByteArray := prog_8_method_1_code
def yX6_init : MethodName := ⟨RX6, "<init>", "()V"⟩
abbrev cX6_leastDuty : ByteArray := prog_8_method_2_code
def yX6_leastDuty : MethodName := ⟨RX6, "leastDuty", "(LSignDuty$City;IIII)I"⟩
abbrev cX6_gestureOfCheapest : ByteArray := prog_8_method_3_code
def yX6_gestureOfCheapest : MethodName := ⟨RX6, "gestureOfCheapest", "(LSignDuty$City;IIIII)I"⟩
abbrev cX6_fill : ByteArray := prog_8_method_4_code
def yX6_fill : MethodName := ⟨RX6, "fill", "(LSignDuty$City;IIII)V"⟩
abbrev cX6_offer : ByteArray := prog_8_method_5_code
def yX6_offer : MethodName := ⟨RX6, "offer", "(IIII)V"⟩
abbrev cX6_firstOfCheapest : ByteArray := prog_8_method_6_code
def yX6_firstOfCheapest : MethodName := ⟨RX6, "firstOfCheapest", "(LSignDuty$City;III)I"⟩
def RX7 : String := "SignDuty"
def TX7 : u_T := fun k => match k with
  | 0 => ("SignDuty", "rows", "LSignDuty$Rows;", true)
  | 1 => ("SignDuty", "reader", "LSignDuty$Reader;", true)
  | 2 => ("SignDuty", "city", "LSignDuty$City;", true)
  | 3 => ("SignDuty", "draft", "LSignDuty$City;", true)
  | 4 => ("SignDuty", "images", "[LSignDuty$City;", true)
  | 5 => ("SignDuty", "acts", "LSignDuty$Acts;", true)
  | 6 => ("SignDuty", "teller", "LSignDuty$Teller;", true)
  | 7 => ("SignDuty", "asks", "LSignDuty$Asks;", true)
  | _ => ("SignDuty", "lastFinding", "I", false)
def tyX7 : Nat → FieldType := fun k => match k with
  | 0 => .object "SignDuty$Rows"
  | 1 => .object "SignDuty$Reader"
  | 2 => .object "SignDuty$City"
  | 3 => .object "SignDuty$City"
  | 4 => .array (.object "SignDuty$City")
  | 5 => .object "SignDuty$Acts"
  | 6 => .object "SignDuty$Teller"
  | 7 => .object "SignDuty$Asks"
  | _ => .int
abbrev wsX70 : List Cond := u_ws RX7 TX7 9
theorem nmX7 : ∀ a, a < 9 → ∀ b, b < 9 → a ≠ b → (TX7 a).2.1 ≠ (TX7 b).2.1 := by decide +kernel
theorem tyX7_ok : ∀ k, k < 9 → parseFieldDescriptor (TX7 k).2.2.1 = some (tyX7 k) := by decide +kernel
abbrev cX7_init : ByteArray := prog_1_method_1_code
def yX7_init : MethodName := ⟨RX7, "<init>", "()V"⟩
abbrev cX7_row : ByteArray := prog_1_method_2_code
def yX7_row : MethodName := ⟨RX7, "row", "(III)I"⟩
abbrev cX7_set : ByteArray := prog_1_method_3_code
def yX7_set : MethodName := ⟨RX7, "set", "(III)I"⟩
abbrev cX7_copy : ByteArray := prog_1_method_4_code
def yX7_copy : MethodName := ⟨RX7, "copy", "(IIIII)I"⟩
abbrev cX7_drop : ByteArray := prog_1_method_5_code
def yX7_drop : MethodName := ⟨RX7, "drop", "(I)I"⟩
abbrev cX7_feed : ByteArray := prog_1_method_6_code
def yX7_feed : MethodName := ⟨RX7, "feed", "(I)I"⟩
abbrev cX7_city : ByteArray := prog_1_method_7_code
def yX7_city : MethodName := ⟨RX7, "city", "()I"⟩
abbrev cX7_fault : ByteArray := prog_1_method_8_code
def yX7_fault : MethodName := ⟨RX7, "fault", "()I"⟩
abbrev cX7_make : ByteArray := prog_1_method_9_code
def yX7_make : MethodName := ⟨RX7, "make", "(II)I"⟩
abbrev cX7_dim : ByteArray := prog_1_method_10_code
def yX7_dim : MethodName := ⟨RX7, "dim", "(II)I"⟩
abbrev cX7_train : ByteArray := prog_1_method_11_code
def yX7_train : MethodName := ⟨RX7, "train", "(II)I"⟩
abbrev cX7_know : ByteArray := prog_1_method_12_code
def yX7_know : MethodName := ⟨RX7, "know", "(II)I"⟩
abbrev cX7_undo : ByteArray := prog_1_method_13_code
def yX7_undo : MethodName := ⟨RX7, "undo", "()I"⟩
abbrev cX7_gesture : ByteArray := prog_1_method_14_code
def yX7_gesture : MethodName := ⟨RX7, "gesture", "(II)I"⟩
abbrev cX7_street : ByteArray := prog_1_method_15_code
def yX7_street : MethodName := ⟨RX7, "street", "(II)I"⟩
abbrev cX7_duty : ByteArray := prog_1_method_16_code
def yX7_duty : MethodName := ⟨RX7, "duty", "(II)I"⟩
abbrev cX7_tell : ByteArray := prog_1_method_17_code
def yX7_tell : MethodName := ⟨RX7, "tell", "(IIIII)I"⟩
abbrev cX7_shut : ByteArray := prog_1_method_18_code
def yX7_shut : MethodName := ⟨RX7, "shut", "(I)I"⟩
abbrev cX7_quick : ByteArray := prog_1_method_19_code
def yX7_quick : MethodName := ⟨RX7, "quick", "(III)I"⟩
abbrev cX7_thread : ByteArray := prog_1_method_20_code
def yX7_thread : MethodName := ⟨RX7, "thread", "(III)I"⟩
abbrev cX7_inches : ByteArray := prog_1_method_21_code
def yX7_inches : MethodName := ⟨RX7, "inches", "(IIII)I"⟩
abbrev cX7_sorts : ByteArray := prog_1_method_22_code
def yX7_sorts : MethodName := ⟨RX7, "sorts", "(IIII)I"⟩
abbrev cX7_saved : ByteArray := prog_1_method_23_code
def yX7_saved : MethodName := ⟨RX7, "saved", "(I)I"⟩
abbrev cX7_worst : ByteArray := prog_1_method_24_code
def yX7_worst : MethodName := ⟨RX7, "worst", "(II)I"⟩
abbrev cX7_tremble : ByteArray := prog_1_method_25_code
def yX7_tremble : MethodName := ⟨RX7, "tremble", "(IIIIII)I"⟩
abbrev cX7_image : ByteArray := prog_1_method_26_code
def yX7_image : MethodName := ⟨RX7, "image", "(I)I"⟩
abbrev cX7_restore : ByteArray := prog_1_method_27_code
def yX7_restore : MethodName := ⟨RX7, "restore", "(I)I"⟩
abbrev cX7_kind : ByteArray := prog_1_method_28_code
def yX7_kind : MethodName := ⟨RX7, "kind", "(I)I"⟩
abbrev cX7_as : ByteArray := prog_1_method_29_code
def yX7_as : MethodName := ⟨RX7, "as", "(II)I"⟩
abbrev cX7_ask : ByteArray := prog_1_method_30_code
def yX7_ask : MethodName := ⟨RX7, "ask", "(II)I"⟩
abbrev cX7_trace : ByteArray := prog_1_method_31_code
def yX7_trace : MethodName := ⟨RX7, "trace", "(I)I"⟩
abbrev cX7_count : ByteArray := prog_1_method_32_code
def yX7_count : MethodName := ⟨RX7, "count", "(I)I"⟩
abbrev cX7_status : ByteArray := prog_1_method_33_code
def yX7_status : MethodName := ⟨RX7, "status", "()I"⟩
abbrev cX7_isWithin : ByteArray := prog_1_method_34_code
def yX7_isWithin : MethodName := ⟨RX7, "isWithin", "(III)Z"⟩
abbrev cX7_isMeaning : ByteArray := prog_1_method_35_code
def yX7_isMeaning : MethodName := ⟨RX7, "isMeaning", "(I)Z"⟩
abbrev cX7_isGesture : ByteArray := prog_1_method_36_code
def yX7_isGesture : MethodName := ⟨RX7, "isGesture", "(I)Z"⟩
abbrev cX7_isStreet : ByteArray := prog_1_method_37_code
def yX7_isStreet : MethodName := ⟨RX7, "isStreet", "(I)Z"⟩
abbrev cX7_isStretch : ByteArray := prog_1_method_38_code
def yX7_isStretch : MethodName := ⟨RX7, "isStretch", "(II)Z"⟩
abbrev cX7_found : ByteArray := prog_1_method_39_code
def yX7_found : MethodName := ⟨RX7, "found", "(I)I"⟩
abbrev cX7_foundNothing : ByteArray := prog_1_method_40_code
def yX7_foundNothing : MethodName := ⟨RX7, "foundNothing", "(I)I"⟩
abbrev cX7_refusalOfThread : ByteArray := prog_1_method_41_code
def yX7_refusalOfThread : MethodName := ⟨RX7, "refusalOfThread", "(III)I"⟩
abbrev cX7_owesAlong : ByteArray := prog_1_method_42_code
def yX7_owesAlong : MethodName := ⟨RX7, "owesAlong", "(IIIII)Z"⟩
abbrev cX7_isSeenAlong : ByteArray := prog_1_method_43_code
def yX7_isSeenAlong : MethodName := ⟨RX7, "isSeenAlong", "(IIII)Z"⟩
abbrev cX7_tenthsWithin : ByteArray := prog_1_method_44_code
def yX7_tenthsWithin : MethodName := ⟨RX7, "tenthsWithin", "(LSignDuty$City;IIIII)I"⟩
abbrev cX7_commonDivisor : ByteArray := prog_1_method_45_code
def yX7_commonDivisor : MethodName := ⟨RX7, "commonDivisor", "(II)I"⟩
def RX8 : String := "SignDutyModel"
def TX8 : u_T := fun k => match k with
  | 0 => ("SignDutyModel", "row", "[I", true)
  | 1 => ("SignDutyModel", "isCity", "Z", false)
  | 2 => ("SignDutyModel", "undos", "I", false)
  | 3 => ("SignDutyModel", "isKept", "[Z", true)
  | 4 => ("SignDutyModel", "lanes", "[I", true)
  | 5 => ("SignDutyModel", "sizes", "[I", true)
  | 6 => ("SignDutyModel", "items", "[I", true)
  | 7 => ("SignDutyModel", "tape", "[I", true)
  | 8 => ("SignDutyModel", "length", "I", false)
  | 9 => ("SignDutyModel", "fault", "I", false)
  | 10 => ("SignDutyModel", "status", "I", false)
  | 11 => ("SignDutyModel", "trace", "[I", true)
  | 12 => ("SignDutyModel", "traced", "I", false)
  | 13 => ("SignDutyModel", "at", "I", false)
  | 14 => ("SignDutyModel", "wrong", "I", false)
  | 15 => ("SignDutyModel", "number", "I", false)
  | _ => ("SignDutyModel", "costs", "[I", true)
def tyX8 : Nat → FieldType := fun k => match k with
  | 0 => .array .int
  | 1 => .boolean
  | 2 => .int
  | 3 => .array .boolean
  | 4 => .array .int
  | 5 => .array .int
  | 6 => .array .int
  | 7 => .array .int
  | 8 => .int
  | 9 => .int
  | 10 => .int
  | 11 => .array .int
  | 12 => .int
  | 13 => .int
  | 14 => .int
  | 15 => .int
  | _ => .array .int
abbrev wsX80 : List Cond := u_ws RX8 TX8 17
theorem nmX8 : ∀ a, a < 17 → ∀ b, b < 17 → a ≠ b → (TX8 a).2.1 ≠ (TX8 b).2.1 := by decide +kernel
theorem tyX8_ok : ∀ k, k < 17 → parseFieldDescriptor (TX8 k).2.2.1 = some (tyX8 k) := by decide +kernel
abbrev cX8_init : ByteArray := prog_10_method_1_code
def yX8_init : MethodName := ⟨RX8, "<init>", "()V"⟩
abbrev cX8_in : ByteArray := prog_10_method_2_code
def yX8_in : MethodName := ⟨RX8, "in", "(JJJ)Z"⟩
abbrev cX8_has : ByteArray := prog_10_method_3_code
def yX8_has : MethodName := ⟨RX8, "has", "(II)Z"⟩
abbrev cX8_bits : ByteArray := prog_10_method_4_code
def yX8_bits : MethodName := ⟨RX8, "bits", "(I)I"⟩
abbrev cX8_find : ByteArray := prog_10_method_5_code
def yX8_find : MethodName := ⟨RX8, "find", "(I)I"⟩
abbrev cX8_well : ByteArray := prog_10_method_6_code
def yX8_well : MethodName := ⟨RX8, "well", "(I)I"⟩
abbrev cX8_isRow : ByteArray := prog_10_method_7_code
def yX8_isRow : MethodName := ⟨RX8, "isRow", "(I)Z"⟩
abbrev cX8_row : ByteArray := prog_10_method_8_code
def yX8_row : MethodName := ⟨RX8, "row", "(III)I"⟩
abbrev cX8_narrow : ByteArray := prog_10_method_9_code
def yX8_narrow : MethodName := ⟨RX8, "narrow", "(II)I"⟩
abbrev cX8_set : ByteArray := prog_10_method_10_code
def yX8_set : MethodName := ⟨RX8, "set", "(III)I"⟩
abbrev cX8_isSpan : ByteArray := prog_10_method_11_code
def yX8_isSpan : MethodName := ⟨RX8, "isSpan", "(III)Z"⟩
abbrev cX8_copy : ByteArray := prog_10_method_12_code
def yX8_copy : MethodName := ⟨RX8, "copy", "(IIIII)I"⟩
abbrev cX8_drop : ByteArray := prog_10_method_13_code
def yX8_drop : MethodName := ⟨RX8, "drop", "(I)I"⟩
abbrev cX8_feed : ByteArray := prog_10_method_14_code
def yX8_feed : MethodName := ⟨RX8, "feed", "(I)I"⟩
abbrev cX8_isLetter : ByteArray := prog_10_method_15_code
def yX8_isLetter : MethodName := ⟨RX8, "isLetter", "(I)Z"⟩
abbrev cX8_isFigure : ByteArray := prog_10_method_16_code
def yX8_isFigure : MethodName := ⟨RX8, "isFigure", "(I)Z"⟩
abbrev cX8_refuse : ByteArray := prog_10_method_17_code
def yX8_refuse : MethodName := ⟨RX8, "refuse", "(I)Z"⟩
abbrev cX8_sign : ByteArray := prog_10_method_18_code
def yX8_sign : MethodName := ⟨RX8, "sign", "(I)Z"⟩
abbrev cX8_readsNumber : ByteArray := prog_10_method_19_code
def yX8_readsNumber : MethodName := ⟨RX8, "readsNumber", "(II)Z"⟩
abbrev cX8_readsLaw : ByteArray := prog_10_method_20_code
def yX8_readsLaw : MethodName := ⟨RX8, "readsLaw", "()Z"⟩
abbrev cX8_readsStreet : ByteArray := prog_10_method_21_code
def yX8_readsStreet : MethodName := ⟨RX8, "readsStreet", "()Z"⟩
abbrev cX8_kindOfLetter : ByteArray := prog_10_method_22_code
def yX8_kindOfLetter : MethodName := ⟨RX8, "kindOfLetter", "(I)I"⟩
abbrev cX8_readsGesture : ByteArray := prog_10_method_23_code
def yX8_readsGesture : MethodName := ⟨RX8, "readsGesture", "()Z"⟩
abbrev cX8_reads : ByteArray := prog_10_method_24_code
def yX8_reads : MethodName := ⟨RX8, "reads", "()Z"⟩
abbrev cX8_city : ByteArray := prog_10_method_25_code
def yX8_city : MethodName := ⟨RX8, "city", "()I"⟩
abbrev cX8_fault : ByteArray := prog_10_method_26_code
def yX8_fault : MethodName := ⟨RX8, "fault", "()I"⟩
abbrev cX8_copyTown : ByteArray := prog_10_method_27_code
def yX8_copyTown : MethodName := ⟨RX8, "copyTown", "(II)V"⟩
abbrev cX8_keepPast : ByteArray := prog_10_method_28_code
def yX8_keepPast : MethodName := ⟨RX8, "keepPast", "()V"⟩
abbrev cX8_undo : ByteArray := prog_10_method_29_code
def yX8_undo : MethodName := ⟨RX8, "undo", "()I"⟩
abbrev cX8_isGesture : ByteArray := prog_10_method_30_code
def yX8_isGesture : MethodName := ⟨RX8, "isGesture", "(I)Z"⟩
abbrev cX8_isStreet : ByteArray := prog_10_method_31_code
def yX8_isStreet : MethodName := ⟨RX8, "isStreet", "(I)Z"⟩
abbrev cX8_wave : ByteArray := prog_10_method_32_code
def yX8_wave : MethodName := ⟨RX8, "wave", "(II)I"⟩
abbrev cX8_plainDuty : ByteArray := prog_10_method_33_code
def yX8_plainDuty : MethodName := ⟨RX8, "plainDuty", "(III)I"⟩
abbrev cX8_owes : ByteArray := prog_10_method_34_code
def yX8_owes : MethodName := ⟨RX8, "owes", "(III)I"⟩
abbrev cX8_dutyOf : ByteArray := prog_10_method_35_code
def yX8_dutyOf : MethodName := ⟨RX8, "dutyOf", "(II)I"⟩
abbrev cX8_isSeen : ByteArray := prog_10_method_36_code
def yX8_isSeen : MethodName := ⟨RX8, "isSeen", "(II)Z"⟩
abbrev cX8_make : ByteArray := prog_10_method_37_code
def yX8_make : MethodName := ⟨RX8, "make", "(II)I"⟩
abbrev cX8_dim : ByteArray := prog_10_method_38_code
def yX8_dim : MethodName := ⟨RX8, "dim", "(II)I"⟩
abbrev cX8_train : ByteArray := prog_10_method_39_code
def yX8_train : MethodName := ⟨RX8, "train", "(II)I"⟩
abbrev cX8_know : ByteArray := prog_10_method_40_code
def yX8_know : MethodName := ⟨RX8, "know", "(II)I"⟩
abbrev cX8_seenStreets : ByteArray := prog_10_method_41_code
def yX8_seenStreets : MethodName := ⟨RX8, "seenStreets", "(I)I"⟩
abbrev cX8_seenGestures : ByteArray := prog_10_method_42_code
def yX8_seenGestures : MethodName := ⟨RX8, "seenGestures", "(I)I"⟩
abbrev cX8_gesture : ByteArray := prog_10_method_43_code
def yX8_gesture : MethodName := ⟨RX8, "gesture", "(II)I"⟩
abbrev cX8_street : ByteArray := prog_10_method_44_code
def yX8_street : MethodName := ⟨RX8, "street", "(II)I"⟩
abbrev cX8_duty : ByteArray := prog_10_method_45_code
def yX8_duty : MethodName := ⟨RX8, "duty", "(II)I"⟩
abbrev cX8_tells : ByteArray := prog_10_method_46_code
def yX8_tells : MethodName := ⟨RX8, "tells", "(III)Z"⟩
abbrev cX8_onBy : ByteArray := prog_10_method_47_code
def yX8_onBy : MethodName := ⟨RX8, "onBy", "(IIII)I"⟩
abbrev cX8_layCosts : ByteArray := prog_10_method_48_code
def yX8_layCosts : MethodName := ⟨RX8, "layCosts", "(III)V"⟩
abbrev cX8_isMeans : ByteArray := prog_10_method_49_code
def yX8_isMeans : MethodName := ⟨RX8, "isMeans", "(I)Z"⟩
abbrev cX8_areStreets : ByteArray := prog_10_method_50_code
def yX8_areStreets : MethodName := ⟨RX8, "areStreets", "(II)Z"⟩
abbrev cX8_tell : ByteArray := prog_10_method_51_code
def yX8_tell : MethodName := ⟨RX8, "tell", "(IIIII)I"⟩
abbrev cX8_soonest : ByteArray := prog_10_method_52_code
def yX8_soonest : MethodName := ⟨RX8, "soonest", "(II)I"⟩
abbrev cX8_shut : ByteArray := prog_10_method_53_code
def yX8_shut : MethodName := ⟨RX8, "shut", "(I)I"⟩
abbrev cX8_quick : ByteArray := prog_10_method_54_code
def yX8_quick : MethodName := ⟨RX8, "quick", "(III)I"⟩
abbrev cX8_noPairs : ByteArray := prog_10_method_55_code
def yX8_noPairs : MethodName := ⟨RX8, "noPairs", "(III)I"⟩
abbrev cX8_owesSo : ByteArray := prog_10_method_56_code
def yX8_owesSo : MethodName := ⟨RX8, "owesSo", "(IIIII)Z"⟩
abbrev cX8_isSeenSo : ByteArray := prog_10_method_57_code
def yX8_isSeenSo : MethodName := ⟨RX8, "isSeenSo", "(IIII)Z"⟩
abbrev cX8_thread : ByteArray := prog_10_method_58_code
def yX8_thread : MethodName := ⟨RX8, "thread", "(III)I"⟩
abbrev cX8_inches : ByteArray := prog_10_method_59_code
def yX8_inches : MethodName := ⟨RX8, "inches", "(IIII)I"⟩
abbrev cX8_sorts : ByteArray := prog_10_method_60_code
def yX8_sorts : MethodName := ⟨RX8, "sorts", "(IIII)I"⟩
abbrev cX8_saved : ByteArray := prog_10_method_61_code
def yX8_saved : MethodName := ⟨RX8, "saved", "(I)I"⟩
abbrev cX8_worst : ByteArray := prog_10_method_62_code
def yX8_worst : MethodName := ⟨RX8, "worst", "(II)I"⟩
abbrev cX8_tremble : ByteArray := prog_10_method_63_code
def yX8_tremble : MethodName := ⟨RX8, "tremble", "(IIIIII)I"⟩
abbrev cX8_image : ByteArray := prog_10_method_64_code
def yX8_image : MethodName := ⟨RX8, "image", "(I)I"⟩
abbrev cX8_restore : ByteArray := prog_10_method_65_code
def yX8_restore : MethodName := ⟨RX8, "restore", "(I)I"⟩
abbrev cX8_kind : ByteArray := prog_10_method_66_code
def yX8_kind : MethodName := ⟨RX8, "kind", "(I)I"⟩
abbrev cX8_isOf : ByteArray := prog_10_method_67_code
def yX8_isOf : MethodName := ⟨RX8, "isOf", "(II)Z"⟩
abbrev cX8_as : ByteArray := prog_10_method_68_code
def yX8_as : MethodName := ⟨RX8, "as", "(II)I"⟩
abbrev cX8_begin : ByteArray := prog_10_method_69_code
def yX8_begin : MethodName := ⟨RX8, "begin", "(I)V"⟩
abbrev cX8_lentSize : ByteArray := prog_10_method_70_code
def yX8_lentSize : MethodName := ⟨RX8, "lentSize", "(I)I"⟩
abbrev cX8_wavesSize : ByteArray := prog_10_method_71_code
def yX8_wavesSize : MethodName := ⟨RX8, "wavesSize", "(I)I"⟩
abbrev cX8_winksSize : ByteArray := prog_10_method_72_code
def yX8_winksSize : MethodName := ⟨RX8, "winksSize", "(I)I"⟩
abbrev cX8_sizeOf : ByteArray := prog_10_method_73_code
def yX8_sizeOf : MethodName := ⟨RX8, "sizeOf", "(I)I"⟩
abbrev cX8_lentMark : ByteArray := prog_10_method_74_code
def yX8_lentMark : MethodName := ⟨RX8, "lentMark", "(I)I"⟩
abbrev cX8_wavesMark : ByteArray := prog_10_method_75_code
def yX8_wavesMark : MethodName := ⟨RX8, "wavesMark", "(I)I"⟩
abbrev cX8_mark : ByteArray := prog_10_method_76_code
def yX8_mark : MethodName := ⟨RX8, "mark", "(I)I"⟩
abbrev cX8_winksMark : ByteArray := prog_10_method_77_code
def yX8_winksMark : MethodName := ⟨RX8, "winksMark", "(I)I"⟩
abbrev cX8_ask : ByteArray := prog_10_method_78_code
def yX8_ask : MethodName := ⟨RX8, "ask", "(II)I"⟩
abbrev cX8_trace : ByteArray := prog_10_method_79_code
def yX8_trace : MethodName := ⟨RX8, "trace", "(I)I"⟩
abbrev cX8_count : ByteArray := prog_10_method_80_code
def yX8_count : MethodName := ⟨RX8, "count", "(I)I"⟩
abbrev cX8_status : ByteArray := prog_10_method_81_code
def yX8_status : MethodName := ⟨RX8, "status", "()I"⟩
def RJ6 : String := "java/lang/Integer"
def TJ6 : u_T := fun k => match k with
  | _ => ("", "", "", false)
def tyJ6 : Nat → FieldType := fun k => match k with
  | _ => .int
abbrev wsJ60 : List Cond := u_ws RJ6 TJ6 0
theorem nmJ6 : ∀ a, a < 0 → ∀ b, b < 0 → a ≠ b → (TJ6 a).2.1 ≠ (TJ6 b).2.1 := by decide +kernel
theorem tyJ6_ok : ∀ k, k < 0 → parseFieldDescriptor (TJ6 k).2.2.1 = some (tyJ6 k) := by decide +kernel
abbrev cJ6_bitCount_0f7a4 : ByteArray := prog_11_method_49_code
def yJ6_bitCount_0f7a4 : MethodName := ⟨RJ6, "bitCount", "(I)I"⟩
def RJ9 : String := "java/lang/Math"
def TJ9 : u_T := fun k => match k with
  | _ => ("", "", "", false)
def tyJ9 : Nat → FieldType := fun k => match k with
  | _ => .int
abbrev wsJ90 : List Cond := u_ws RJ9 TJ9 0
theorem nmJ9 : ∀ a, a < 0 → ∀ b, b < 0 → a ≠ b → (TJ9 a).2.1 ≠ (TJ9 b).2.1 := by decide +kernel
theorem tyJ9_ok : ∀ k, k < 0 → parseFieldDescriptor (TJ9 k).2.2.1 = some (tyJ9 k) := by decide +kernel
abbrev cJ9_max_7cf53 : ByteArray := prog_12_method_65_code
def yJ9_max_7cf53 : MethodName := ⟨RJ9, "max", "(II)I"⟩
abbrev cJ9_min_7cf53 : ByteArray := prog_12_method_69_code
def yJ9_min_7cf53 : MethodName := ⟨RJ9, "min", "(II)I"⟩
def RJ10 : String := "java/lang/System"
def TJ10 : u_T := fun k => match k with
  | _ => ("", "", "", false)
def tyJ10 : Nat → FieldType := fun k => match k with
  | _ => .int
abbrev wsJ100 : List Cond := u_ws RJ10 TJ10 0
theorem nmJ10 : ∀ a, a < 0 → ∀ b, b < 0 → a ≠ b → (TJ10 a).2.1 ≠ (TJ10 b).2.1 := by decide +kernel
theorem tyJ10_ok : ∀ k, k < 0 → parseFieldDescriptor (TJ10 k).2.2.1 = some (tyJ10 k) := by decide +kernel
def RL : String := "SignDutyLaw"
abbrev cL_law : ByteArray := code
def yL_law : MethodName := ⟨RL, "law", "([I)Z"⟩
abbrev vwCl : List vw_C := [(RX0, TX0, 5), (RX1, TX1, 2), (RX2, TX2, 13), (RX4, TX4, 6), (RX5, TX5, 3), (RX6, TX6, 1), (RX7, TX7, 9), (RX8, TX8, 17)]
end
section
/-- a state by a name -/
def x_w {β : Type} (u : x_S) (k : x_S → Option β) : Option β := k u
theorem x_ws {β : Type} {u : x_S} {k : x_S → Option β} {y : β} (h : x_w u k = some y) : ∃ w, w = u ∧ k w = some y := ⟨u, rfl, h⟩
/-! ===== words that change with what is warm: nest mates' private methods ===== -/
abbrev x_Nt : Type := State → Prop
def x_NwOk (NW : x_Nt) : Prop := (∀ u U : State, u.WarmedH U.vm → NW u → NW U) ∧ (∀ u U : State, u.vm = U.vm → NW u → NW U)
def x_H (s : State) (D : va_G) (cl : List vw_C) (tys : List (ClassId × FieldType)) (N : Nat) (ad : Nat → Nat) (A : Nat → Prop) (St : x_St) (NW : x_Nt) : Prop := x_G s D cl tys N ad A St ∧ x_NwOk NW ∧ NW s
def x_Pr2 (D : va_G) (cl : List vw_C) (tys : List (ClassId × FieldType)) (N : Nat) (C : x_C) (ad : Nat → Nat) (St : x_St) (NW : x_Nt) (σ : x_S) : State → Prop := fun U => x_Pre D cl tys N C ad St σ U ∧ NW U
abbrev x_NI (l : Launch) (y : MethodName) (ws : List Cond) (n : Nat) (D : va_G) (cl : List vw_C) (tys : List (ClassId × FieldType)) (N : Nat) (C : x_C) (ad : Nat → Nat) (St : x_St) (NW : x_Nt) (vs : List Value) (σ : x_S) (r0 : Int32) (σ0 : x_S) : Prop := Met l y ws (x_rm n) (va_Pc vs (x_Pr2 D cl tys N C ad St NW σ)) (x_Qi D cl N C ad r0 σ0) 0 0 (x_A N ad)
abbrev x_NV (l : Launch) (y : MethodName) (ws : List Cond) (n : Nat) (D : va_G) (cl : List vw_C) (tys : List (ClassId × FieldType)) (N : Nat) (C : x_C) (ad : Nat → Nat) (St : x_St) (NW : x_Nt) (vs : List Value) (σ : x_S) (σ0 : x_S) : Prop := Met l y ws (x_rm n) (va_Pc vs (x_Pr2 D cl tys N C ad St NW σ)) (x_Qv D cl N C ad σ0) 0 0 (x_A N ad)
theorem x_blind2 (vs : List Value) {D : va_G} {cl : List vw_C} {tys : List (ClassId × FieldType)} {N : Nat} {C : x_C} {ad : Nat → Nat} {St : x_St} {NW : x_Nt} (hSt : x_StOk St) (hN : x_NwOk NW) (σ : x_S) : FrameBlind (va_Pc vs (x_Pr2 D cl tys N C ad St NW σ)) := by
  intro a U g mk q
  obtain ⟨q0, ⟨qP, qK, qS⟩, qN⟩ := q
  exact ⟨q0, ⟨qP, va_K.moved (u := U) (U := U.calling g mk a) (Vm.Alike.refl U.vm) qK, hSt.1 _ U (U.calling g mk a) _ (Vm.Alike.refl U.vm) qS⟩, hN.2 U (U.calling g mk a) rfl qN⟩
/-! ===== calls and returns over the flat world ===== -/
section XC
variable {p : Program} {l : Launch} {e : Env} {R : Room} {s : State} {m : MethodId} {args : Array Value} {below : List Frame} {meth : Method} {c : Code} {cells slots : Nat} {Q : State → Prop}
variable {cc : ByteArray} {nL : Nat} {Ts : List Cond} {own : String} {A : Nat → Prop} {I : Heap → Prop} {lv lv' : List (Nat × Value)} {st st0 : List Value} {pc : Nat}
variable {D : va_G} {cl : List vw_C} {tys : List (ClassId × FieldType)} {N : Nat} {C : x_C} {ad : Nat → Nat} {St : x_St} {NW : x_Nt} {σ σ0 : x_S} {r0 : Int32}
theorem x_start (G : x_H s D cl tys N ad A St NW) {H : Heap} {locs : List Loc} (h1 : x_I D cl N C ad σ H) (h2 : va_S A s.heap H locs) {U : State} (hU : U.heap = H) (hW : s.WarmedH U.vm) : x_Pr2 D cl tys N C ad St NW σ U := by
  obtain ⟨⟨hK, -, hA, hSt, hst⟩, hN1, hN2⟩ := G
  refine ⟨⟨by rw [hU]; exact h1, va_K.moved hW.alike hK, ?_⟩, hN1.1 s U hW hN2⟩
  rw [hU]
  refine hSt.1 _ s U H hW.alike (hSt.2.2 A _ s H (fun q h => ?_) (hSt.2.1 A s s.heap H h2.2.1 hst))
  obtain ⟨k, hk, rfl⟩ := h
  exact hA k hk
theorem x_callV (B : x_B p s m args meth c cc nL Ts own) (G : x_H s D cl tys N ad A St NW) {y : MethodName} {ws : List Cond} {bytes : ByteArray} {maxL n index na kc ci nf : Nat} {ret : Option FieldType} {Cn : String} {T : u_T} {As : List Value} {fs : (Nat → Int32) → List Value}
    (hM : x_NI l y ws n D cl tys N C ad St NW (.ref (ad kc) :: As) σ r0 σ0) (cw : CallW R s args own Cn index y bytes maxL ret ws (x_rm n) 0 0 na) (hk : kc < N) (hC : ∀ r, C r kc = .inr (ci, fs r)) (hc : cl[ci]? = some (Cn, T, nf)) (hs : st0 = As.reverse ++ .ref (ad kc) :: st) (hn : As.length = na) (hst : (st.map fun v => v.category).sum ≤ 8) (hcs : cells ≤ R.cells ∧ slots ≤ R.slots) (hdg : decode cc pc = .ok (.invokevirtual index, 3))
    (k : x_J p l e R s m args below meth c cells slots Q A nL (x_I D cl N C ad σ0) lv (.int r0 :: st) (pc + 3)) : x_J p l e R s m args below meth c cells slots Q A nL (x_I D cl N C ad σ) lv st0 pc := by
  intro H locs ls h1 h2 h3
  subst hs
  have hsub : ∀ q, x_A N ad q → A q := fun q ⟨k, hk, e⟩ => by rw [e]; exact G.1.2.2.1 k hk
  refine va_calli (A0 := A) (va_runV (As := As) (rest := st) ⟨B.1, B.2.1, B.2.2.1, B.2.2.2.1, B.2.2.2.2.1⟩ hM cw ⟨x_blind2 _ G.1.2.2.2.1 G.2.1 σ, va_recv G.1.1 h1 hc (q0 := kc) (fs := fs (σ kc)) (by rw [x_l_at C ad σ hk, hC]), fun U hU hW => ⟨rfl, x_start G h1 h2 hU hW⟩⟩ rfl hn h3.1 rfl (lv_room hst) hdg hcs) h2 (fun q _ h => hsub q h) hsub (fun r u t H1 locs1 ht hvm hw hB _ _ hS => ?_)
  obtain ⟨rfl, rfl⟩ := hw
  have hB1 : x_I D cl N C ad u t.heap := hB
  rw [ht] at hB1
  exact k H1 locs1 ls hB1 hS h3
theorem x_callVv (B : x_B p s m args meth c cc nL Ts own) (G : x_H s D cl tys N ad A St NW) {y : MethodName} {ws : List Cond} {bytes : ByteArray} {maxL n index na kc ci nf : Nat} {ret : Option FieldType} {Cn : String} {T : u_T} {As : List Value} {fs : (Nat → Int32) → List Value}
    (hM : x_NV l y ws n D cl tys N C ad St NW (.ref (ad kc) :: As) σ σ0) (cw : CallW R s args own Cn index y bytes maxL ret ws (x_rm n) 0 0 na) (hk : kc < N) (hC : ∀ r, C r kc = .inr (ci, fs r)) (hc : cl[ci]? = some (Cn, T, nf)) (hs : st0 = As.reverse ++ .ref (ad kc) :: st) (hn : As.length = na) (hst : (st.map fun v => v.category).sum ≤ 8) (hcs : cells ≤ R.cells ∧ slots ≤ R.slots) (hdg : decode cc pc = .ok (.invokevirtual index, 3))
    (k : x_J p l e R s m args below meth c cells slots Q A nL (x_I D cl N C ad σ0) lv st (pc + 3)) : x_J p l e R s m args below meth c cells slots Q A nL (x_I D cl N C ad σ) lv st0 pc := by
  intro H locs ls h1 h2 h3
  subst hs
  have hsub : ∀ q, x_A N ad q → A q := fun q ⟨k, hk, e⟩ => by rw [e]; exact G.1.2.2.1 k hk
  refine va_callv (A0 := A) (va_runV (As := As) (rest := st) ⟨B.1, B.2.1, B.2.2.1, B.2.2.2.1, B.2.2.2.2.1⟩ hM cw ⟨x_blind2 _ G.1.2.2.2.1 G.2.1 σ, va_recv G.1.1 h1 hc (q0 := kc) (fs := fs (σ kc)) (by rw [x_l_at C ad σ hk, hC]), fun U hU hW => ⟨rfl, x_start G h1 h2 hU hW⟩⟩ rfl hn h3.1 rfl (lv_room hst) hdg hcs) h2 (fun q _ h => hsub q h) hsub (fun u t H1 locs1 ht hvm hw hB _ _ hS => ?_)
  have hB1 : x_I D cl N C ad u t.heap := hB
  rw [ht, show u = σ0 from hw] at hB1
  exact k H1 locs1 ls hB1 hS h3
theorem x_callS (B : x_B p s m args meth c cc nL Ts own) (G : x_H s D cl tys N ad A St NW) {y : MethodName} {ws : List Cond} {bytes : ByteArray} {maxL n index na : Nat} {ret : Option FieldType} {As : List Value}
    (hM : x_NI l y ws n D cl tys N C ad St NW As σ r0 σ0) (cw : CallB R s args own index y bytes maxL ret ws (x_rm n) 0 0 na ∧ (Cond.static y).before args s = true) (hs : st0 = As.reverse ++ st) (hn : As.length = na) (hst : (st.map fun v => v.category).sum ≤ 8) (hcs : cells ≤ R.cells ∧ slots ≤ R.slots) (hdg : decode cc pc = .ok (.invokestatic index, 3))
    (k : x_J p l e R s m args below meth c cells slots Q A nL (x_I D cl N C ad σ0) lv (.int r0 :: st) (pc + 3)) : x_J p l e R s m args below meth c cells slots Q A nL (x_I D cl N C ad σ) lv st0 pc := by
  intro H locs ls h1 h2 h3
  subst hs
  have hsub : ∀ q, x_A N ad q → A q := fun q ⟨k, hk, e⟩ => by rw [e]; exact G.1.2.2.1 k hk
  refine va_calli (A0 := A) (va_runS (As := As) (rest := st) ⟨B.1, B.2.1, B.2.2.1, B.2.2.2.1, B.2.2.2.2.1⟩ hM cw ⟨x_blind2 _ G.1.2.2.2.1 G.2.1 σ, fun U hU hW => ⟨rfl, x_start G h1 h2 hU hW⟩⟩ rfl hn h3.1 rfl (lv_room hst) hdg hcs) h2 (fun q _ h => hsub q h) hsub (fun r u t H1 locs1 ht hvm hw hB _ _ hS => ?_)
  obtain ⟨rfl, rfl⟩ := hw
  have hB1 : x_I D cl N C ad u t.heap := hB
  rw [ht] at hB1
  exact k H1 locs1 ls hB1 hS h3
theorem x_callSN (B : x_B p s m args meth c cc nL Ts own) (G : x_H s D cl tys N ad A St NW) {y : MethodName} {ws : List Cond} {host : String} {bytes : ByteArray} {maxL n index na : Nat} {ret : Option FieldType} {As : List Value}
    (hM : x_NI l y ws n D cl tys N C ad St NW As σ r0 σ0) (cw : va_CN R s args own index y host bytes maxL ret ws (x_rm n) 0 0 na ∧ (Cond.static y).before args s = true ∧ True) (hs : st0 = As.reverse ++ st) (hn : As.length = na) (hst : (st.map fun v => v.category).sum ≤ 8) (hcs : cells ≤ R.cells ∧ slots ≤ R.slots) (hdg : decode cc pc = .ok (.invokestatic index, 3))
    (k : x_J p l e R s m args below meth c cells slots Q A nL (x_I D cl N C ad σ0) lv (.int r0 :: st) (pc + 3)) : x_J p l e R s m args below meth c cells slots Q A nL (x_I D cl N C ad σ) lv st0 pc := by
  intro H locs ls h1 h2 h3
  subst hs
  have hsub : ∀ q, x_A N ad q → A q := fun q ⟨k, hk, e⟩ => by rw [e]; exact G.1.2.2.1 k hk
  refine va_calli (A0 := A) (va_runSN (As := As) (rest := st) ⟨B.1, B.2.1, B.2.2.1, B.2.2.2.1, B.2.2.2.2.1⟩ hM cw ⟨x_blind2 _ G.1.2.2.2.1 G.2.1 σ, fun U hU hW => ⟨rfl, x_start G h1 h2 hU hW⟩⟩ rfl hn h3.1 rfl (lv_room hst) hdg hcs) h2 (fun q _ h => hsub q h) hsub (fun r u t H1 locs1 ht hvm hw hB _ _ hS => ?_)
  obtain ⟨rfl, rfl⟩ := hw
  have hB1 : x_I D cl N C ad u t.heap := hB
  rw [ht] at hB1
  exact k H1 locs1 ls hB1 hS h3
theorem x_nm {σ1 σ2 : x_S} (e1 : σ1 = σ2) (k : x_J p l e R s m args below meth c cells slots Q A nL (x_I D cl N C ad σ1) lv st pc) : x_J p l e R s m args below meth c cells slots Q A nL (x_I D cl N C ad σ2) lv st pc := e1 ▸ k
/-- ends -/
theorem x_iret (B : x_B p s m args meth c cc nL Ts own) (hr : meth.sig.returnType = some .int) (hdg : decode cc pc = .ok (.ireturn, 1)) : x_J p l e R s m args below meth c cells slots (MQ below (x_Qi D cl N C ad r0 σ0) args s cells slots (x_A N ad)) (x_A N ad) nL (x_I D cl N C ad σ0) lv [.int r0] pc :=
  fun H locs ls h1 h2 h3 => W.iret (v := r0) B.1 B.2.1 hr (fun t ht hW => ⟨⟨r0, σ0, rfl, ⟨rfl, rfl⟩, (show x_I D cl N C ad σ0 t.heap by rw [ht]; exact h1)⟩, h2.F ht⟩) h2.2.2 hdg (hlocks := B.2.2.2.2.2)
theorem x_zret (B : x_B p s m args meth c cc nL Ts own) (hr : meth.sig.returnType = some .boolean) (hz : r0 &&& 1 = r0) (hdg : decode cc pc = .ok (.ireturn, 1)) : x_J p l e R s m args below meth c cells slots (MQ below (x_Qi D cl N C ad r0 σ0) args s cells slots (x_A N ad)) (x_A N ad) nL (x_I D cl N C ad σ0) lv [.int r0] pc :=
  fun H locs ls h1 h2 h3 => W.zret (v := r0) (ty := .boolean) B.1 B.2.1 hr (show Value.int (r0 &&& 1) = .int r0 by rw [hz]) (fun t ht hW => ⟨⟨r0, σ0, rfl, ⟨rfl, rfl⟩, (show x_I D cl N C ad σ0 t.heap by rw [ht]; exact h1)⟩, h2.F ht⟩) h2.2.2 hdg (hlocks := B.2.2.2.2.2)
theorem x_vret (B : x_B p s m args meth c cc nL Ts own) (hr : meth.sig.returnType = none) (hdg : decode cc pc = .ok (.return_, 1)) : x_J p l e R s m args below meth c cells slots (MQ below (x_Qv D cl N C ad σ0) args s cells slots (x_A N ad)) (x_A N ad) nL (x_I D cl N C ad σ0) lv [] pc :=
  fun H locs ls h1 h2 h3 => W.vret B.1 B.2.1 hr (fun t ht hW => ⟨⟨σ0, rfl, rfl, (show x_I D cl N C ad σ0 t.heap by rw [ht]; exact h1)⟩, h2.F ht⟩) h2.2.2 hdg (hlocks := B.2.2.2.2.2)
/-- a method out of its body -/
theorem x_met {y : MethodName} {ws ws' : List Cond} {maxL n : Nat} {ret : Option FieldType} {vs : List Value} {Qc : Array Value → State → Outcome → State → Prop} (hy : plainName y.cls = true) (hw : ws = Cond.code y cc maxL ret :: ws') (ho : y.cls = own) (hlen : (lg_sl vs).length ≤ maxL) (hdis : x_dis N ad) (hSt : x_StOk St) (hN : x_NwOk NW)
    (body : ∀ (p : Program) (e : Env) (s : State) (m : MethodId) (args : Array Value) (below : List Frame) (meth : Method) (c : Code), x_B p s m args meth c cc maxL ws own → x_H s D cl tys N ad (x_A N ad) St NW → meth.sig.returnType = ret → x_J p l e (x_rm n) s m args below meth c 0 0 (MQ below Qc args s 0 0 (x_A N ad)) (x_A N ad) maxL (x_I D cl N C ad σ) (lv_args 0 vs) [] 0) : Met l y ws (x_rm n) (va_Pc vs (x_Pr2 D cl tys N C ad St NW σ)) Qc 0 0 (x_A N ad) := by
  refine Met.ofW hy hw ?_
  intro p e s m args below meth c s₁ Bd hml hv
  obtain ⟨rfl, ⟨hP, hK, hS⟩, hn⟩ := hv
  have hown : s.vm.findClass y.cls = some m.cls := findClass_of_methodNamed Bd.named
  rw [ho] at hown
  have hl := lv_entry vs (n := maxL) hlen
  rw [lg_entry_eq]
  exact body p e s m _ below meth c ⟨Bd.exec, Bd.bytes, hml, hown, atoms_spec (ws := ws) Bd.pre, Bd.notSynchronized⟩ ⟨⟨hK, hdis, x_A_in, hSt, hS⟩, hN, hn⟩ Bd.returns s.heap [] _ hP va_S.rf hl
end XC
end
section
/-! ===== THE SYSTEM'S CELLS =====
0 SignDuty; 1 Rows, 2 its items (8 rows 3 .. 10), 11 lengths, 12 lanes; 13 Reader, 14 tape; 15 images; 16 Acts, 17 .. 19 deeds, whats, values; 20 Teller, 21 least (8 rows 22 .. 29); 30 Asks, 31 numbers; 32 city, 40 draft, 48 and 56 the images: a City and its 7 arrays -/
abbrev s_N : Nat := 64
abbrev s_tys (cI cQ cC cZ : ClassId) : List (ClassId × FieldType) := [(cI, .int), (cQ, .array .int), (cC, .object "SignDuty$City"), (cZ, .boolean)]
def s_F7 (ad : Nat → Nat) (r : Nat → Int32) : List Value := [.ref (ad 1), .ref (ad 13), .ref (ad 32), .ref (ad 40), .ref (ad 15), .ref (ad 16), .ref (ad 20), .ref (ad 30), .int (r 8)]
def s_F5 (ad : Nat → Nat) (r : Nat → Int32) : List Value := [.ref (ad 2), .ref (ad 11), .ref (ad 12)]
def s_F4 (ad : Nat → Nat) (r : Nat → Int32) : List Value := [.ref (ad 14), .int (r 1), .int (r 2), .int (r 3), .int (r 4), .int (r 5)]
def s_F0 (ad : Nat → Nat) (r : Nat → Int32) : List Value := [.ref (ad 17), .ref (ad 18), .ref (ad 19), .int (r 3), .int (r 4)]
def s_F6 (ad : Nat → Nat) (r : Nat → Int32) : List Value := [.ref (ad 21)]
def s_F1 (ad : Nat → Nat) (r : Nat → Int32) : List Value := [.ref (ad 31), .int (r 1)]
def s_F2 (ad : Nat → Nat) (k : Nat) (r : Nat → Int32) : List Value := [.int (r 0), .int (r 1), .int (r 2), .int (r 3), .int (r 4), .int (r 5), .ref (ad (k + 1)), .ref (ad (k + 2)), .ref (ad (k + 3)), .ref (ad (k + 4)), .ref (ad (k + 5)), .ref (ad (k + 6)), .ref (ad (k + 7))]
def s_q (cA : ClassId) (n : Nat) (f : Nat → Nat) : va_E := .inl (cA, n, .inr (.inr (.inr (.inr (fun j => some (f j))))))
def s_C (cI cQ cC : ClassId) (ad : Nat → Nat) : x_C := fun r k =>
  if k < 32 then
    (if k = 0 then .inr (6, s_F7 ad r) else if k = 1 then .inr (4, s_F5 ad r) else if k = 2 then s_q cQ 8 (fun j => ad (3 + j)) else if k < 11 then .inl (cI, 40, .inl r) else if k < 13 then .inl (cI, 8, .inl r)
    else if k = 13 then .inr (3, s_F4 ad r) else if k = 14 then .inl (cI, 120, .inl r) else if k = 15 then s_q cC 2 (fun j => ad (48 + 8 * j)) else if k = 16 then .inr (0, s_F0 ad r) else if k < 20 then .inl (cI, 24, .inl r)
    else if k = 20 then .inr (5, s_F6 ad r) else if k = 21 then s_q cQ 8 (fun j => ad (22 + j)) else if k < 30 then .inl (cI, 100, .inl r) else if k = 30 then .inr (1, s_F1 ad r) else .inl (cI, 16, .inl r))
  else if k % 8 = 0 then .inr (2, s_F2 ad k r) else if k % 8 < 3 then .inl (cI, 7, .inl r) else .inl (cI, 6, .inl r)
def s_iC (c : Nat) : Prop := c = 32 ∨ c = 40 ∨ c = 48 ∨ c = 56
theorem s_iC32 : s_iC 32 := Or.inl rfl
theorem s_iC40 : s_iC 40 := Or.inr (Or.inl rfl)
theorem s_iCim {i : Int32} (h : x_in i 2) : s_iC (48 + 8 * i.toNatClampNeg) := by
  have hlt : i.toNatClampNeg < 2 := Nat.not_le.mp fun q => h (Or.inr q)
  unfold s_iC
  omega
section SC
variable {cI cQ cC : ClassId} {ad : Nat → Nat}
theorem s_c0 : ∀ r, s_C cI cQ cC ad r 0 = .inr (6, s_F7 ad r) := fun _ => rfl
theorem s_c1 : ∀ r, s_C cI cQ cC ad r 1 = .inr (4, s_F5 ad r) := fun _ => rfl
theorem s_c2 : ∀ r, s_C cI cQ cC ad r 2 = s_q cQ 8 (fun j => ad (3 + j)) := fun _ => rfl
theorem s_c11 : ∀ r, s_C cI cQ cC ad r 11 = .inl (cI, 8, .inl r) := fun _ => rfl
theorem s_c12 : ∀ r, s_C cI cQ cC ad r 12 = .inl (cI, 8, .inl r) := fun _ => rfl
theorem s_c13 : ∀ r, s_C cI cQ cC ad r 13 = .inr (3, s_F4 ad r) := fun _ => rfl
theorem s_c14 : ∀ r, s_C cI cQ cC ad r 14 = .inl (cI, 120, .inl r) := fun _ => rfl
theorem s_c15 : ∀ r, s_C cI cQ cC ad r 15 = s_q cC 2 (fun j => ad (48 + 8 * j)) := fun _ => rfl
theorem s_c16 : ∀ r, s_C cI cQ cC ad r 16 = .inr (0, s_F0 ad r) := fun _ => rfl
theorem s_c17 : ∀ r, s_C cI cQ cC ad r 17 = .inl (cI, 24, .inl r) := fun _ => rfl
theorem s_c18 : ∀ r, s_C cI cQ cC ad r 18 = .inl (cI, 24, .inl r) := fun _ => rfl
theorem s_c19 : ∀ r, s_C cI cQ cC ad r 19 = .inl (cI, 24, .inl r) := fun _ => rfl
theorem s_c20 : ∀ r, s_C cI cQ cC ad r 20 = .inr (5, s_F6 ad r) := fun _ => rfl
theorem s_c21 : ∀ r, s_C cI cQ cC ad r 21 = s_q cQ 8 (fun j => ad (22 + j)) := fun _ => rfl
theorem s_c30 : ∀ r, s_C cI cQ cC ad r 30 = .inr (1, s_F1 ad r) := fun _ => rfl
theorem s_c31 : ∀ r, s_C cI cQ cC ad r 31 = .inl (cI, 16, .inl r) := fun _ => rfl
theorem s_lt8 {i : Int32} (h : x_in i 8) : i.toNatClampNeg < 8 := Nat.not_le.mp fun q => h (Or.inr q)
theorem s_kI {i : Int32} (h : x_in i 8) : 3 + i.toNatClampNeg < s_N := by have := s_lt8 h; show _ < 64; omega
theorem s_kL {i : Int32} (h : x_in i 8) : 22 + i.toNatClampNeg < s_N := by have := s_lt8 h; show _ < 64; omega
theorem s_cI {i : Int32} (h : x_in i 8) : ∀ r, s_C cI cQ cC ad r (3 + i.toNatClampNeg) = .inl (cI, 40, .inl r) := by
  have := s_lt8 h
  generalize i.toNatClampNeg = j at this ⊢
  rcases (show j = 0 ∨ j = 1 ∨ j = 2 ∨ j = 3 ∨ j = 4 ∨ j = 5 ∨ j = 6 ∨ j = 7 by omega) with rfl | rfl | rfl | rfl | rfl | rfl | rfl | rfl <;> exact fun _ => rfl
theorem s_cL {i : Int32} (h : x_in i 8) : ∀ r, s_C cI cQ cC ad r (22 + i.toNatClampNeg) = .inl (cI, 100, .inl r) := by
  have := s_lt8 h
  generalize i.toNatClampNeg = j at this ⊢
  rcases (show j = 0 ∨ j = 1 ∨ j = 2 ∨ j = 3 ∨ j = 4 ∨ j = 5 ∨ j = 6 ∨ j = 7 by omega) with rfl | rfl | rfl | rfl | rfl | rfl | rfl | rfl <;> exact fun _ => rfl
theorem s_kC {c : Nat} (h : s_iC c) : c < s_N := by show _ < 64; unfold s_iC at h; omega
theorem s_cC {c : Nat} (h : s_iC c) : ∀ r, s_C cI cQ cC ad r c = .inr (2, s_F2 ad c r) := by rcases h with rfl | rfl | rfl | rfl <;> exact fun _ => rfl
theorem s_kC1 {c : Nat} (h : s_iC c) : c + 1 < s_N := by show _ < 64; unfold s_iC at h; omega
theorem s_cC1 {c : Nat} (h : s_iC c) : ∀ r, s_C cI cQ cC ad r (c + 1) = .inl (cI, 7, .inl r) := by rcases h with rfl | rfl | rfl | rfl <;> exact fun _ => rfl
theorem s_kC2 {c : Nat} (h : s_iC c) : c + 2 < s_N := by show _ < 64; unfold s_iC at h; omega
theorem s_cC2 {c : Nat} (h : s_iC c) : ∀ r, s_C cI cQ cC ad r (c + 2) = .inl (cI, 7, .inl r) := by rcases h with rfl | rfl | rfl | rfl <;> exact fun _ => rfl
theorem s_kC3 {c : Nat} (h : s_iC c) : c + 3 < s_N := by show _ < 64; unfold s_iC at h; omega
theorem s_cC3 {c : Nat} (h : s_iC c) : ∀ r, s_C cI cQ cC ad r (c + 3) = .inl (cI, 6, .inl r) := by rcases h with rfl | rfl | rfl | rfl <;> exact fun _ => rfl
theorem s_kC4 {c : Nat} (h : s_iC c) : c + 4 < s_N := by show _ < 64; unfold s_iC at h; omega
theorem s_cC4 {c : Nat} (h : s_iC c) : ∀ r, s_C cI cQ cC ad r (c + 4) = .inl (cI, 6, .inl r) := by rcases h with rfl | rfl | rfl | rfl <;> exact fun _ => rfl
theorem s_kC5 {c : Nat} (h : s_iC c) : c + 5 < s_N := by show _ < 64; unfold s_iC at h; omega
theorem s_cC5 {c : Nat} (h : s_iC c) : ∀ r, s_C cI cQ cC ad r (c + 5) = .inl (cI, 6, .inl r) := by rcases h with rfl | rfl | rfl | rfl <;> exact fun _ => rfl
theorem s_kC6 {c : Nat} (h : s_iC c) : c + 6 < s_N := by show _ < 64; unfold s_iC at h; omega
theorem s_cC6 {c : Nat} (h : s_iC c) : ∀ r, s_C cI cQ cC ad r (c + 6) = .inl (cI, 6, .inl r) := by rcases h with rfl | rfl | rfl | rfl <;> exact fun _ => rfl
theorem s_kC7 {c : Nat} (h : s_iC c) : c + 7 < s_N := by show _ < 64; unfold s_iC at h; omega
theorem s_cC7 {c : Nat} (h : s_iC c) : ∀ r, s_C cI cQ cC ad r (c + 7) = .inl (cI, 6, .inl r) := by rcases h with rfl | rfl | rfl | rfl <;> exact fun _ => rfl
theorem s_w7_8 (r : Nat → Int32) (v : Int32) : (s_F7 ad r).set 8 (.int v) = s_F7 ad (upd r 8 v) := rfl
theorem s_w4_1 (r : Nat → Int32) (v : Int32) : (s_F4 ad r).set 1 (.int v) = s_F4 ad (upd r 1 v) := rfl
theorem s_w4_2 (r : Nat → Int32) (v : Int32) : (s_F4 ad r).set 2 (.int v) = s_F4 ad (upd r 2 v) := rfl
theorem s_w4_3 (r : Nat → Int32) (v : Int32) : (s_F4 ad r).set 3 (.int v) = s_F4 ad (upd r 3 v) := rfl
theorem s_w4_4 (r : Nat → Int32) (v : Int32) : (s_F4 ad r).set 4 (.int v) = s_F4 ad (upd r 4 v) := rfl
theorem s_w4_5 (r : Nat → Int32) (v : Int32) : (s_F4 ad r).set 5 (.int v) = s_F4 ad (upd r 5 v) := rfl
theorem s_w0_3 (r : Nat → Int32) (v : Int32) : (s_F0 ad r).set 3 (.int v) = s_F0 ad (upd r 3 v) := rfl
theorem s_w0_4 (r : Nat → Int32) (v : Int32) : (s_F0 ad r).set 4 (.int v) = s_F0 ad (upd r 4 v) := rfl
theorem s_w1_1 (r : Nat → Int32) (v : Int32) : (s_F1 ad r).set 1 (.int v) = s_F1 ad (upd r 1 v) := rfl
theorem s_w2_0 {k : Nat} (r : Nat → Int32) (v : Int32) : (s_F2 ad k r).set 0 (.int v) = s_F2 ad k (upd r 0 v) := rfl
theorem s_w2_1 {k : Nat} (r : Nat → Int32) (v : Int32) : (s_F2 ad k r).set 1 (.int v) = s_F2 ad k (upd r 1 v) := rfl
theorem s_w2_2 {k : Nat} (r : Nat → Int32) (v : Int32) : (s_F2 ad k r).set 2 (.int v) = s_F2 ad k (upd r 2 v) := rfl
theorem s_w2_3 {k : Nat} (r : Nat → Int32) (v : Int32) : (s_F2 ad k r).set 3 (.int v) = s_F2 ad k (upd r 3 v) := rfl
theorem s_w2_4 {k : Nat} (r : Nat → Int32) (v : Int32) : (s_F2 ad k r).set 4 (.int v) = s_F2 ad k (upd r 4 v) := rfl
theorem s_w2_5 {k : Nat} (r : Nat → Int32) (v : Int32) : (s_F2 ad k r).set 5 (.int v) = s_F2 ad k (upd r 5 v) := rfl
end SC
/-- the tables: 0 Kinds.WIDER, 1 Asks.SIZE_BODIES, 2 Asks.MARK_BODIES -/
def s_t (b : Nat) : Nat → Int32 := fun j => if b = 0 then [0, 0, 1, 1, 0, 4].getD j 0 else if b = 1 then [10, 11, 12, 0, 13, 14].getD j 0 else [20, 21, 24, 22, 23, 0].getD j 0
def s_St (aS : Nat → Nat) : x_St := fun A U H => va_Z "SignDuty$Kinds" "WIDER" "[I" (.ref (aS 0)) A U H ∧ va_Z "SignDuty$Asks" "SIZE_BODIES" "[I" (.ref (aS 1)) A U H ∧ va_Z "SignDuty$Asks" "MARK_BODIES" "[I" (.ref (aS 2)) A U H ∧ ∀ b, b < 3 → va_T .int (aS b) 6 (fun j => .int (s_t b j)) A U H
theorem s_StOk (aS : Nat → Nat) : x_StOk (s_St aS) := by
  refine ⟨fun A u U H hvm h => ?_, fun A U H H1 hq h => ?_, fun A B U H hq h => ?_⟩
  · exact ⟨h.1.moved hvm, h.2.1.moved hvm, h.2.2.1.moved hvm, fun b hb => (h.2.2.2 b hb).moved hvm⟩
  · exact ⟨h.1.kept hq, h.2.1.kept hq, h.2.2.1.kept hq, fun b hb => (h.2.2.2 b hb).kept hq⟩
  · exact ⟨h.1.narrow hq, h.2.1.narrow hq, h.2.2.1.narrow hq, fun b hb => (h.2.2.2 b hb).narrow hq⟩
def s_NW : x_Nt := fun U => va_Nw (.methodLinkNest RX4 98 yX7_isWithin "SignDuty") U
theorem s_NwOk : x_NwOk s_NW := ⟨fun _ _ hW h => va_Nw.warmM hW h, fun _ _ he h => va_Nw.same rfl he h⟩
def m_NW : x_Nt := fun _ => True
theorem m_NwOk : x_NwOk m_NW := ⟨fun _ _ _ h => h, fun _ _ _ h => h⟩
/-! ===== THE REFERENCE'S CELLS: 0 the object; 1 row, 2 isKept, 3 lanes, 4 sizes, 5 items, 6 tape, 7 trace, 8 costs ===== -/
abbrev m_N : Nat := 9
def m_F (ad : Nat → Nat) (r : Nat → Int32) : List Value := [.ref (ad 1), .int (r 1), .int (r 2), .ref (ad 2), .ref (ad 3), .ref (ad 4), .ref (ad 5), .ref (ad 6), .int (r 8), .int (r 9), .int (r 10), .ref (ad 7), .int (r 12), .int (r 13), .int (r 14), .int (r 15), .ref (ad 8)]
def m_C (cI cZ : ClassId) (ad : Nat → Nat) : x_C := fun r k =>
  if k = 0 then .inr (7, m_F ad r) else if k = 1 then .inl (cI, 1372, .inl r) else if k = 2 then .inl (cZ, 2, .inl r) else if k = 3 then .inl (cI, 8, .inl r) else if k = 4 then .inl (cI, 8, .inl r) else if k = 5 then .inl (cI, 320, .inl r) else if k = 6 then .inl (cI, 120, .inl r) else if k = 7 then .inl (cI, 16, .inl r) else .inl (cI, 800, .inl r)
def m_St : x_St := fun _ _ _ => True
theorem m_StOk : x_StOk m_St := ⟨fun _ _ _ _ _ h => h, fun _ _ _ _ _ h => h, fun _ _ _ _ _ h => h⟩
section MC
variable {cI cZ : ClassId} {ad : Nat → Nat}
theorem m_c0 : ∀ r, m_C cI cZ ad r 0 = .inr (7, m_F ad r) := fun _ => rfl
theorem m_c1 : ∀ r, m_C cI cZ ad r 1 = .inl (cI, 1372, .inl r) := fun _ => rfl
theorem m_c2 : ∀ r, m_C cI cZ ad r 2 = .inl (cZ, 2, .inl r) := fun _ => rfl
theorem m_c3 : ∀ r, m_C cI cZ ad r 3 = .inl (cI, 8, .inl r) := fun _ => rfl
theorem m_c4 : ∀ r, m_C cI cZ ad r 4 = .inl (cI, 8, .inl r) := fun _ => rfl
theorem m_c5 : ∀ r, m_C cI cZ ad r 5 = .inl (cI, 320, .inl r) := fun _ => rfl
theorem m_c6 : ∀ r, m_C cI cZ ad r 6 = .inl (cI, 120, .inl r) := fun _ => rfl
theorem m_c7 : ∀ r, m_C cI cZ ad r 7 = .inl (cI, 16, .inl r) := fun _ => rfl
theorem m_c8 : ∀ r, m_C cI cZ ad r 8 = .inl (cI, 800, .inl r) := fun _ => rfl
theorem m_w_1 (r : Nat → Int32) (v : Int32) : (m_F ad r).set 1 (.int v) = m_F ad (upd r 1 v) := rfl
theorem m_w_2 (r : Nat → Int32) (v : Int32) : (m_F ad r).set 2 (.int v) = m_F ad (upd r 2 v) := rfl
theorem m_w_8 (r : Nat → Int32) (v : Int32) : (m_F ad r).set 8 (.int v) = m_F ad (upd r 8 v) := rfl
theorem m_w_9 (r : Nat → Int32) (v : Int32) : (m_F ad r).set 9 (.int v) = m_F ad (upd r 9 v) := rfl
theorem m_w_10 (r : Nat → Int32) (v : Int32) : (m_F ad r).set 10 (.int v) = m_F ad (upd r 10 v) := rfl
theorem m_w_12 (r : Nat → Int32) (v : Int32) : (m_F ad r).set 12 (.int v) = m_F ad (upd r 12 v) := rfl
theorem m_w_13 (r : Nat → Int32) (v : Int32) : (m_F ad r).set 13 (.int v) = m_F ad (upd r 13 v) := rfl
theorem m_w_14 (r : Nat → Int32) (v : Int32) : (m_F ad r).set 14 (.int v) = m_F ad (upd r 14 v) := rfl
theorem m_w_15 (r : Nat → Int32) (v : Int32) : (m_F ad r).set 15 (.int v) = m_F ad (upd r 15 v) := rfl
end MC
end
section
/-! ===== constructors: worlds that grow, told as lists ===== -/
def n_AOA (ty : FieldType) (U : State) : Prop := (Cond.arrayOver (.array ty)).before #[] U = true
theorem n_AOA.use {ty : FieldType} {B : Array Value} {U : State} (h : n_AOA ty U) : (Cond.arrayOver (.array ty)).before B U = true := h
theorem n_AOA.moved {ty : FieldType} {u U : State} (hvm : u.vm.Alike U.vm) (h : n_AOA ty u) : n_AOA ty U := Jvm.Stand.arrayOver_alikeB (s := u) hvm h
theorem n_outer (c : ClassId) (N h0 : Nat) : ∀ i : Nat, Jvm.Free.Multi.outerC c N h0 i = arrV c N (fun j => va_rf (if j < i then some (h0 + 1 + j) else none))
  | 0 => by
    show ({ cls := c, slots := Array.replicate N .null, vm := .none } : Cell) = _
    rw [arrV_new]
    refine congrArg (arrV c N) (funext fun j => ?_)
    simp [va_rf]
  | i + 1 => by
    show (Jvm.Free.Multi.outerC c N h0 i).setSlot i (.ref (h0 + 1 + i)) = _
    rw [n_outer c N h0 i, arrV_store]
    refine congrArg (arrV c N) (funext fun j => ?_)
    by_cases e : j = i
    · subst e
      simp [updV, va_rf]
    · by_cases h : j < i
      · simp [updV, e, h, Nat.lt_succ_of_lt h]
      · simp [updV, e, h, show ¬ j < i + 1 by omega]
theorem n_cellq {c : ClassId} {n : Nat} {f g : Nat → Option Nat} (h : ∀ j, j < n → f j = g j) : vp_cell c (n, .inr (.inr (.inr (.inr f)))) = vp_cell c (n, .inr (.inr (.inr (.inr g)))) := by
  rw [vp_cell_q, vp_cell_q]
  unfold arrV
  congr 1
  apply Array.ext
  · simp
  · intro i h1 h2
    have hi : i < n := by simpa using h1
    simp [h i hi]
abbrev n_P (D : va_G) (cl : List vw_C) (ws : va_W) : Heap → Prop := fun H => va_P D cl ws H
section NI
variable {p : Program} {l : Launch} {e : Env} {R : Room} {s : State} {m : MethodId} {args : Array Value} {below : List Frame} {meth : Method} {c : Code} {cells slots : Nat} {Q : State → Prop}
variable {cc : ByteArray} {nL : Nat} {Ts : List Cond} {own : String} {A : Nat → Prop} {I : Heap → Prop} {lv lv' : List (Nat × Value)} {st st0 : List Value} {pc : Nat}
variable {D : va_G} {cl : List vw_C} {tys : List (ClassId × FieldType)} {ws : va_W}
theorem n_objInit (B : x_B p s m args meth c cc nL Ts own) {idx : Nat} (hlink : Cond.methodLink own idx Lib.objectInit ∈ Ts) (hinst : Cond.instanceMethod Lib.objectInit ∈ Ts) (hcode : Cond.code Lib.objectInit ⟨#[0xb1]⟩ 1 none ∈ Ts) {a : Addr} (hdg : decode cc pc = .ok (.invokespecial idx, 3)) (hframes : 1 ≤ R.frames) (hlocals : (st.map fun v => v.category).sum + 12 ≤ R.locals) (k : x_J p l e R s m args below meth c cells slots Q A nL I lv st (pc + 3)) : x_J p l e R s m args below meth c cells slots Q A nL I lv (.ref a :: st) pc :=
  fun H locs ls h1 h2 h3 => W.objInit (a := a) (rest := st) B.1 B.2.1 B.2.2.2.1 (B.2.2.2.2.1 _ hlink) (B.2.2.2.2.1 _ hinst) (B.2.2.2.2.1 _ hcode) rfl (by rw [B.2.2.1]; exact h3.1) rfl hdg hframes (by show 2 * 0 + _ + 12 ≤ _; omega) (k H locs ls h1 h2 h3)
theorem n_newa (B : x_B p s m args meth c cc nL Ts own) (hK : va_K D cl tys s) {atype : ArrayType} {ty : FieldType} {t0 N' : Nat} {cI : ClassId} (hty : newarray.typeOf atype = ty) (harr : Cond.arrayClass ty ∈ Ts) (ht : tys[t0]? = some (cI, ty)) (hRA : ∀ c9 : ClassId, va_RA s c9 ty → s.vm.findClass ("[" ++ ty.toString) = some c9) (hA : ∀ q, s.heap.size ≤ q → A q) (hD : va_D A ws) {a0 : vp_A} (ha0 : ∀ cA : ClassId, vp_cell cA a0 = arrV cA N' (fun _ => defaultValue ty)) {n : Int32} (hn : ¬ n < 0) (hN : n.toNatClampNeg = N') (hb : N' * componentBytes ty ≤ 536870912) (hc : cells + 1 ≤ R.cells) (hs : slots + N' ≤ R.slots) (hdg : decode cc pc = .ok (.newarray atype, 2))
    (k : ∀ q : Nat, va_D A (ws ++ [(q, .inl (cI, a0))]) → x_J p l e R s m args below meth c (cells + 1) (slots + N') Q A nL (n_P D cl (ws ++ [(q, .inl (cI, a0))])) lv (.ref q :: st) (pc + 2)) : x_J p l e R s m args below meth c cells slots Q A nL (n_P D cl ws) lv (.int n :: st) pc := by
  intro H locs ls h1 h2 h3
  refine va_newa (D := D) (cl := cl) (tys := tys) (ws := ws) (A := A) (atype := atype) (ty := ty) B.1 B.2.1 (by rw [hty]; exact B.2.2.2.2.1 _ harr) hty hK h1 hD h2 hA ha0 hn hN hb hc hs hdg (fun q cA H1 hK1 hP1 hD1 hS1 => ?_)
  have e1 := hRA _ (hK1.2 tys.length (cA, ty) (by simp)).2
  have e2 := hRA _ (hK.2 t0 _ ht).2
  have e3 : cA = cI := Option.some.inj (e1.symm.trans e2)
  subst e3
  exact k q hD1 H1 locs ls hP1 hS1 h3
theorem n_new (B : x_B p s m args meth c cc nL Ts own) (hK : va_K D cl tys s) {Cn : String} {T : u_T} {n ci index : Nat} (hin : ∀ w ∈ u_ws Cn T n, w ∈ Ts) (ty : Nat → FieldType) (hty : ∀ k, k < n → parseFieldDescriptor (T k).2.2.1 = some (ty k)) (hcl : Cond.classLink own index Cn ∈ Ts) (hinst : Cond.instantiable Cn n ∈ Ts) (hini : Cond.initialized Cn ∈ Ts) (hA : ∀ q, s.heap.size ≤ q → A q) (hD : va_D A ws) (hc : cl[ci]? = some (Cn, T, n)) {fs : List Value} (hfs : ∀ j, j < n → defaultValue (ty j) = vp_V fs j) (hcells : cells + 1 ≤ R.cells) (hslots : slots + n ≤ R.slots) (hdg : decode cc pc = .ok (.new index, 3))
    (k : ∀ q : Nat, va_D A (ws ++ [(q, .inr (ci, fs))]) → x_J p l e R s m args below meth c (cells + 1) (slots + n) Q A nL (n_P D cl (ws ++ [(q, .inr (ci, fs))])) lv (.ref q :: st) (pc + 3)) : x_J p l e R s m args below meth c cells slots Q A nL (n_P D cl ws) lv st pc := by
  intro H locs ls h1 h2 h3
  exact va_new (D := D) (cl := cl) (tys := tys) (ws := ws) (A := A) (ci := ci) B.1 B.2.1 B.2.2.2.2.1 hin ty hty B.2.2.2.1 (B.2.2.2.2.1 _ hcl) (B.2.2.2.2.1 _ hinst) (B.2.2.2.2.1 _ hini) hK h1 hD h2 hA hc hfs hcells hslots hdg (fun q H1 hP1 hD1 hS1 => k q hD1 H1 locs ls hP1 hS1 h3)
theorem n_put (B : x_B p s m args meth c cc nL Ts own) (hK : va_K D cl tys s) {Cn : String} {T : u_T} {n ci index : Nat} (hin : ∀ w ∈ u_ws Cn T n, w ∈ Ts) (ty0 : Nat → FieldType) (hty : ∀ k, k < n → parseFieldDescriptor (T k).2.2.1 = some (ty0 k)) (hnm : ∀ a, a < n → ∀ b, b < n → a ≠ b → (T a).2.1 ≠ (T b).2.1) (hD : va_D A ws) (q0 : Nat) {a : Nat} {fs : List Value} (he : ws[q0]? = some (a, .inr (ci, fs))) (hc : cl[ci]? = some (Cn, T, n)) (j : Nat) (hj : j < n) (hlink : Cond.fieldLink own index (T j).1 (T j).2.1 (T j).2.2.1 ∈ Ts) (hfin : (T j).2.2.2 = false) {ty : FieldType} {v : Value} (hd : ty0 j = ty) (hn : narrow ty v = v) (hfit : fits ty v = true) (hlen : j < fs.length) {ws' : va_W} (hw : ws.set q0 (a, .inr (ci, fs.set j v)) = ws') (hdg : decode cc pc = .ok (.putfield index, 3))
    (k : va_D A ws' → x_J p l e R s m args below meth c cells slots Q A nL (n_P D cl ws') lv st (pc + 3)) : x_J p l e R s m args below meth c cells slots Q A nL (n_P D cl ws) lv (v :: .ref a :: st) pc := by
  intro H locs ls h1 h2 h3
  subst hw
  exact va_put (D := D) (cl := cl) (ws := ws) (ci := ci) (C := Cn) (T := T) (N := n) (A := A) B.1 B.2.1 B.2.2.2.2.1 hin ty0 hty hnm B.2.2.2.1 hK h1 hD h2 q0 he hc j hj (B.2.2.2.2.1 _ hlink) (fun _ h9 => h9) hfin (ty := ty) (by rw [hty j hj, hd]) hn hfit hlen hdg (fun H1 locs1 g1 gD g2 => k gD H1 locs1 ls g1 g2 h3)
theorem n_putF (B : x_B p s m args meth c cc nL Ts own) (hin2 : meth.name = "<init>") (hK : va_K D cl tys s) {Cn : String} {T : u_T} {n ci index : Nat} (hin : ∀ w ∈ u_ws Cn T n, w ∈ Ts) (ty0 : Nat → FieldType) (hty : ∀ k, k < n → parseFieldDescriptor (T k).2.2.1 = some (ty0 k)) (hnm : ∀ a, a < n → ∀ b, b < n → a ≠ b → (T a).2.1 ≠ (T b).2.1) (hD : va_D A ws) (q0 : Nat) {a : Nat} {fs : List Value} (he : ws[q0]? = some (a, .inr (ci, fs))) (hc : cl[ci]? = some (Cn, T, n)) (j : Nat) (hj : j < n) (hlink : Cond.fieldLink own index (T j).1 (T j).2.1 (T j).2.2.1 ∈ Ts) (hfin : (T j).2.2.2 = true) (hdecl : (T j).1 = own) {ty : FieldType} {v : Value} (hd : ty0 j = ty) (hn : narrow ty v = v) (hfit : fits ty v = true) (hlen : j < fs.length) {ws' : va_W} (hw : ws.set q0 (a, .inr (ci, fs.set j v)) = ws') (hdg : decode cc pc = .ok (.putfield index, 3))
    (k : va_D A ws' → x_J p l e R s m args below meth c cells slots Q A nL (n_P D cl ws') lv st (pc + 3)) : x_J p l e R s m args below meth c cells slots Q A nL (n_P D cl ws) lv (v :: .ref a :: st) pc := by
  intro H locs ls h1 h2 h3
  subst hw
  exact va_putF (D := D) (cl := cl) (ws := ws) (ci := ci) (C := Cn) (T := T) (N := n) (A := A) B.1 B.2.1 B.2.2.2.2.1 hin ty0 hty hnm B.2.2.2.1 hK h1 hD h2 q0 he hc j hj (B.2.2.2.2.1 _ hlink) (fun _ h9 => h9) hfin hin2 hdecl (ty := ty) (by rw [hty j hj, hd]) hn hfit hlen hdg (fun H1 locs1 g1 gD g2 => k gD H1 locs1 ls g1 g2 h3)
theorem n_iast (B : x_B p s m args meth c cc nL Ts own) (hK : va_K D cl tys s) (hD : va_D A ws) (q0 t0 : Nat) {a n : Nat} {cA : ClassId} {f : Nat → Int32} (ha : ws[q0]? = some (a, .inl (cA, n, .inl f))) (ht : tys[t0]? = some (cA, .int)) {i x : Int32} (hi : x_in i n) {ws' : va_W} (hw : ws.set q0 (a, .inl (cA, n, .inl (upd f i.toNatClampNeg x))) = ws') (hdg : decode cc pc = .ok (.iastore, 1))
    (k : va_D A ws' → x_J p l e R s m args below meth c cells slots Q A nL (n_P D cl ws') lv st (pc + 1)) : x_J p l e R s m args below meth c cells slots Q A nL (n_P D cl ws) lv (.int x :: .int i :: .ref a :: st) pc := by
  intro H locs ls h1 h2 h3
  subst hw
  exact va_iast (D := D) (cl := cl) (ws := ws) (A := A) B.1 B.2.1 hK h1 hD h2 q0 t0 ha ht hi hdg (fun H1 locs1 g1 gD g2 => k gD H1 locs1 ls g1 g2 h3)
theorem n_newq (B : x_B p s m args meth c cc nL Ts own) (hK : va_K D cl tys s) {Cn : String} {index t0 N' : Nat} {cC : ClassId} (hlink : Cond.classLink own index Cn ∈ Ts) (hover : va_AO Cn s) (ht : tys[t0]? = some (cC, .object Cn)) (hA : ∀ q, s.heap.size ≤ q → A q) (hD : va_D A ws) {n : Int32} (hn : ¬ n < 0) (hN : n.toNatClampNeg = N') (hb : N' * 4 ≤ 536870912) (hc : cells + 1 ≤ R.cells) (hs : slots + N' ≤ R.slots) (hdg : decode cc pc = .ok (.anewarray index, 3))
    (k : ∀ q : Nat, va_D A (ws ++ [(q, .inl (cC, N', .inr (.inr (.inr (.inr (fun _ => none))))))]) → x_J p l e R s m args below meth c (cells + 1) (slots + N') Q A nL (n_P D cl (ws ++ [(q, .inl (cC, N', .inr (.inr (.inr (.inr (fun _ => none))))))])) lv (.ref q :: st) (pc + 3)) : x_J p l e R s m args below meth c cells slots Q A nL (n_P D cl ws) lv (.int n :: st) pc := by
  intro H locs ls h1 h2 h3
  refine va_newq (D := D) (cl := cl) (tys := tys) (ws := ws) (A := A) B.1 B.2.1 B.2.2.2.1 (B.2.2.2.2.1 _ hlink) hover hK h1 hD h2 hA hn hN hb hc hs hdg (fun q cA H1 hK1 hP1 hD1 hS1 => ?_)
  obtain ⟨_, _, _, _, _, e1⟩ := (hK1.2 tys.length (cA, .object Cn) (by simp)).2
  obtain ⟨_, _, _, _, _, e2⟩ := (hK.2 t0 _ ht).2
  have e3 : cA = cC := Option.some.inj (e1.symm.trans e2)
  subst e3
  exact k q hD1 H1 locs ls hP1 hS1 h3
theorem n_astq (B : x_B p s m args meth c cc nL Ts own) (hK : va_K D cl tys s) (hD : va_D A ws) (q0 t0 qk ci : Nat) {a v n : Nat} {cA : ClassId} {r : vw_C} {vs : List Value} {f : Nat → Option Nat} (ha : ws[q0]? = some (a, .inl (cA, n, .inr (.inr (.inr (.inr f)))))) (ht : tys[t0]? = some (cA, .object r.1)) (hv : ws[qk]? = some (v, .inr (ci, vs))) (hc : cl[ci]? = some r) {i : Int32} (hi : x_in i n) {ws' : va_W} (hw : ws.set q0 (a, .inl (cA, n, .inr (.inr (.inr (.inr (va_up f i.toNatClampNeg (some v))))))) = ws') (hdg : decode cc pc = .ok (.aastore, 1))
    (k : va_D A ws' → x_J p l e R s m args below meth c cells slots Q A nL (n_P D cl ws') lv st (pc + 1)) : x_J p l e R s m args below meth c cells slots Q A nL (n_P D cl ws) lv (.ref v :: .int i :: .ref a :: st) pc := by
  intro H locs ls h1 h2 h3
  subst hw
  exact va_astq (D := D) (cl := cl) (ws := ws) (A := A) B.1 B.2.1 hK h1 hD h2 q0 t0 qk ci ha ht hv hc hi hdg (fun H1 locs1 g1 gD g2 => k gD H1 locs1 ls g1 g2 h3)
/-- new int[N'][K'] : the outer array at q, the inner ones behind it -/
theorem n_mna (B : x_B p s m args meth c cc nL Ts own) (hK : va_K D cl tys s) {index t0 t1 N' K' : Nat} {cI cQ : ClassId} (hlink : Cond.classLink own index "[[I" ∈ Ts) (hover : n_AOA .int s) (harr : Cond.arrayClass .int ∈ Ts) (ht0 : tys[t0]? = some (cI, .int)) (ht1 : tys[t1]? = some (cQ, .array .int)) (hA : ∀ q, s.heap.size ≤ q → A q) (hD : va_D A ws) {n k0 : Int32} (hn : ¬ n < 0) (hk : ¬ k0 < 0) (hN : n.toNatClampNeg = N') (hM : k0.toNatClampNeg = K') (hb1 : N' * 4 ≤ 536870912) (hb2 : K' * 4 ≤ 536870912) (hc : cells + (1 + N') ≤ R.cells) (hs : slots + (N' + N' * K') ≤ R.slots) (hdg : decode cc pc = .ok (.multianewarray index 2, 4))
    (k : ∀ q : Nat, va_D A ((ws ++ [(q, .inl (cQ, N', .inr (.inr (.inr (.inr (fun j => some (q + 1 + j)))))))]) ++ (List.range N').map (fun j => (q + 1 + j, .inl (cI, K', .inl (fun _ => 0))))) → x_J p l e R s m args below meth c (cells + 1 + N') (slots + N' + N' * K') Q A nL (n_P D cl ((ws ++ [(q, .inl (cQ, N', .inr (.inr (.inr (.inr (fun j => some (q + 1 + j)))))))]) ++ (List.range N').map (fun j => (q + 1 + j, .inl (cI, K', .inl (fun _ => 0)))))) lv (.ref q :: st) (pc + 4)) : x_J p l e R s m args below meth c cells slots Q A nL (n_P D cl ws) lv (.int k0 :: .int n :: st) pc := by
  intro H locs ls h1 h2 h3
  subst hN
  subst hM
  have hP : va_P D cl ws H := h1
  intro T hT Xs
  obtain ⟨vm₁, cA, comp, -, fA, fC, hO, -, X', step⟩ := Xs.multianewarray2F B.1 B.2.2.2.1 (ty := .int) (B.2.2.2.2.1 _ hlink) (n_AOA.use hover) (B.2.2.2.2.1 _ harr) (g := F0 m pc ls (.int k0 :: .int n :: st)) rfl (by rw [B.2.1]; exact hdg) rfl hn hk hb1 hb2 (by omega) rfl rfl hc hs
  have e1 : s.vm.findClass "[I" = some cI := (hK.2 t0 _ ht0).2
  have e2 : s.vm.findClass "[[I" = some cQ := (hK.2 t1 _ ht1).2
  have ec : comp = cI := Option.some.inj (fC.symm.trans e1)
  have eq : cA = cQ := Option.some.inj (fA.symm.trans e2)
  subst ec
  subst eq
  generalize hF : Jvm.Free.Multi.fill (T.setVm vm₁) cA comp n.toNatClampNeg k0.toNatClampNeg (defaultValue .int) n.toNatClampNeg = F at X' step
  have hTh : (T.setVm vm₁).heap = H := hT
  obtain ⟨f1, f2, -, -⟩ := Jvm.Free.Multi.fill_facts (T.setVm vm₁) cA comp n.toNatClampNeg k0.toNatClampNeg (defaultValue .int) n.toNatClampNeg
  rw [hF, hTh] at f1 f2
  have hold : ∀ x : Nat, x < H.size → F.heap[x]? = H[x]? := fun x hx => by
    have := Jvm.Free.Multi.fill_old (T.setVm vm₁) cA comp n.toNatClampNeg k0.toNatClampNeg (defaultValue .int) (a := x) (by rw [hTh]; exact hx) n.toNatClampNeg
    rw [hF, hTh] at this
    exact this
  have hrow : ∀ j : Nat, j < n.toNatClampNeg → F.heap[H.size + 1 + j]? = some (vp_cell comp (k0.toNatClampNeg, .inl (fun _ => 0))) := fun j hj => by
    have := Jvm.Free.Multi.fill_inner (T.setVm vm₁) cA comp n.toNatClampNeg k0.toNatClampNeg (defaultValue .int) n.toNatClampNeg j hj
    rw [hF, hTh] at this
    rw [this, vp_cell_i, ← arrV_new]
    rfl
  have hout : Jvm.Free.Multi.outerC cA n.toNatClampNeg H.size n.toNatClampNeg = vp_cell cA (n.toNatClampNeg, .inr (.inr (.inr (.inr (fun j => some (H.size + 1 + j)))))) := by
    rw [n_outer cA n.toNatClampNeg H.size n.toNatClampNeg, ← vp_cell_q cA n.toNatClampNeg (fun j => if j < n.toNatClampNeg then some (H.size + 1 + j) else none)]
    exact n_cellq (fun j hj => if_pos hj)
  rw [hout] at f2
  have hW : ∀ (k9 : Nat) (x : Nat × va_E), ((ws ++ [(H.size, .inl (cA, n.toNatClampNeg, .inr (.inr (.inr (.inr (fun j => some (H.size + 1 + j)))))))]) ++ (List.range n.toNatClampNeg).map (fun j => (H.size + 1 + j, .inl (comp, k0.toNatClampNeg, .inl (fun _ => 0)))))[k9]? = some x → (ws[k9]? = some x ∧ k9 < ws.length) ∨ (ws.length ≤ k9 ∧ x.1 = H.size + (k9 - ws.length) ∧ va_at D cl x F.heap) := by
    intro k9 x hx
    rw [List.append_assoc] at hx
    rcases Nat.lt_or_ge k9 ws.length with q | q
    · rw [List.getElem?_append_left q] at hx
      exact Or.inl ⟨hx, q⟩
    · rw [List.getElem?_append_right q] at hx
      refine Or.inr ⟨q, ?_⟩
      cases hz : k9 - ws.length with
      | zero =>
        rw [hz] at hx
        have hx : some (H.size, (.inl (cA, n.toNatClampNeg, .inr (.inr (.inr (.inr (fun j => some (H.size + 1 + j)))))) : va_E)) = some x := hx
        cases hx
        exact ⟨rfl, f2⟩
      | succ j =>
        rw [hz] at hx
        have hx : ((List.range n.toNatClampNeg).map (fun j => ((H.size + 1 + j, .inl (comp, k0.toNatClampNeg, .inl (fun _ => 0))) : Nat × va_E)))[j]? = some x := hx
        rw [List.getElem?_map] at hx
        rcases Nat.lt_or_ge j n.toNatClampNeg with q2 | q2
        · rw [List.getElem?_range q2] at hx
          cases hx
          exact ⟨by show H.size + 1 + j = _; omega, hrow j q2⟩
        · rw [List.getElem?_eq_none (by rw [List.length_range]; exact q2)] at hx
          cases hx
  obtain ⟨t, a1, b1⟩ := k H.size ⟨fun i j x y hx hy hxy => by
      rcases hW i x hx with ⟨g1, l1⟩ | ⟨l1, g1, -⟩ <;> rcases hW j y hy with ⟨g2, l2⟩ | ⟨l2, g2, -⟩
      · exact hD.1 i j x y g1 g2 hxy
      · have := (hP i x g1).lt; omega
      · have := (hP j y g2).lt; omega
      · omega, fun k9 x hx => by
      rcases hW k9 x hx with ⟨g1, l1⟩ | ⟨l1, g1, -⟩
      · exact hD.2 k9 x g1
      · exact hA _ (by have := h2.1; omega)⟩ F.heap locs ls (fun k9 x hx => by
      rcases hW k9 x hx with ⟨g1, l1⟩ | ⟨l1, g1, g3⟩
      · exact (hP k9 x g1).kept (hold x.1 ((hP k9 x g1).lt))
      · exact g3) ⟨by rw [f1]; have := h2.1; omega, fun x g1 g2 => (hold x (Nat.lt_of_lt_of_le g1 h2.1)).trans (h2.2.1 x g1 g2), h2.2.2⟩ h3 F rfl X'
  refine ⟨t, step t ?_, b1⟩
  have e : T.heap.size = H.size := by rw [hT]
  rw [e]
  exact a1
/-- a constructor of a nest mate is called: its cell stands last -/
theorem n_callN (B : x_B p s m args meth c cc nL Ts own) (hK : va_K D cl tys s) (hA : ∀ q, s.heap.size ≤ q → A q) {NW : x_Nt} (hNW : x_NwOk NW ∧ NW s) {y : MethodName} {wsy : List Cond} {host : String} {bytes : ByteArray} {maxL index mc ms h0 nr : Nat} {rm : Room} {e0 : va_E} {wr : va_W} {post : (Nat → Nat) → va_W}
    (hM : ∀ sz : Nat, Met l y wsy rm (va_Pc [.ref h0] (fun U => U.heap.size = sz ∧ va_P D cl [(h0, e0)] U.heap ∧ va_K D cl tys U ∧ NW U)) (va_Qv (fun _ : Nat → Nat => True) (fun u t => va_P D cl (post u) t.heap ∧ va_D (va_A [(h0, e0)] sz) (post u)) (va_A [(h0, e0)] sz)) mc ms (va_A [(h0, e0)] sz))
    (cw : va_CN R s args own index y host bytes maxL none wsy rm mc ms 0 ∧ y.name = "<init>" ∧ (Cond.instanceMethod y).before args s = true) (hD : va_D A ws) (hw : ws = wr ++ [(h0, e0)]) (hnr : nr = wr.length) (hR : (List.range nr).map (fun i => (wr ++ [(h0, e0)])[i]?) = wr.map some) (hnd : va_nd (List.range nr) = true) (hst : (st.map fun v => v.category).sum ≤ 8) (hcs : cells + mc ≤ R.cells ∧ slots + ms ≤ R.slots) (hdg : decode cc pc = .ok (.invokespecial index, 3))
    (k : ∀ u : Nat → Nat, va_D A (wr ++ post u) → x_J p l e R s m args below meth c (cells + mc) (slots + ms) Q A nL (n_P D cl (wr ++ post u)) lv st (pc + 3)) : x_J p l e R s m args below meth c cells slots Q A nL (n_P D cl ws) lv (.ref h0 :: st) pc := by
  intro H locs ls h1 h2 h3
  subst hw
  have hP : va_P D cl (wr ++ [(h0, e0)]) H := h1
  have hlast : (wr ++ [(h0, e0)])[wr.length]? = some (h0, e0) := by simp
  have hPc : va_P D cl [(h0, e0)] H := fun k9 q hq => by
    have hz : k9 < 1 := (List.getElem?_eq_some_iff.mp hq).1
    rw [show k9 = 0 by omega] at hq
    cases hq
    exact hP wr.length _ hlast
  have hFc : ∀ q, va_A [(h0, e0)] H.size q → A q := va_free (wc := [(h0, e0)]) hD h2 hA [wr.length] (by simp)
  refine va_callv (A0 := A) (va_runIN (As := []) (rest := st) ⟨B.1, B.2.1, B.2.2.1, B.2.2.2.1, B.2.2.2.2.1⟩ (hM H.size) cw ⟨?_, fun U hU hW => ⟨rfl, by rw [hU], by rw [hU]; exact hPc, va_K.moved hW.alike hK, hNW.1.1 s U hW hNW.2⟩⟩ rfl rfl h3.1 rfl (lv_room hst) hdg hcs) h2 (fun q _ h => hFc q h) hFc (fun u t H1 locs1 ht hvm hw hB hz1 hk1 hS => ?_)
  · intro a U g mk q
    obtain ⟨q0, q1, qP, qK, qN⟩ := q
    exact ⟨q0, q1, qP, va_K.moved (u := U) (U := U.calling g mk a) (Vm.Alike.refl U.vm) qK, hNW.1.2 U (U.calling g mk a) rfl qN⟩
  · obtain ⟨hP1, hD1⟩ := hB
    rw [ht] at hP1
    obtain ⟨hP2, hD2⟩ := va_join (wc := [(h0, e0)]) (wr := wr) (w1 := post u) hP hD [wr.length] (List.range nr) (by simp) hR hnd (fun i hi => by rw [hnr] at hi; have := List.mem_range.mp hi; simp; omega) hk1 hFc hP1 hD1
    exact k u hD2 H1 locs1 ls hP2 hS h3
theorem n_callI (B : x_B p s m args meth c cc nL Ts own) (hK : va_K D cl tys s) (hA : ∀ q, s.heap.size ≤ q → A q) {NW : x_Nt} (hNW : x_NwOk NW ∧ NW s) {y : MethodName} {wsy : List Cond} {bytes : ByteArray} {maxL index mc ms h0 nr : Nat} {rm : Room} {e0 : va_E} {wr : va_W} {post : (Nat → Nat) → va_W}
    (hM : ∀ sz : Nat, Met l y wsy rm (va_Pc [.ref h0] (fun U => U.heap.size = sz ∧ va_P D cl [(h0, e0)] U.heap ∧ va_K D cl tys U ∧ NW U)) (va_Qv (fun _ : Nat → Nat => True) (fun u t => va_P D cl (post u) t.heap ∧ va_D (va_A [(h0, e0)] sz) (post u)) (va_A [(h0, e0)] sz)) mc ms (va_A [(h0, e0)] sz))
    (cw : CallB R s args own index y bytes maxL none wsy rm mc ms 0 ∧ y.name = "<init>" ∧ (Cond.instanceMethod y).before args s = true) (hD : va_D A ws) (hw : ws = wr ++ [(h0, e0)]) (hnr : nr = wr.length) (hR : (List.range nr).map (fun i => (wr ++ [(h0, e0)])[i]?) = wr.map some) (hnd : va_nd (List.range nr) = true) (hst : (st.map fun v => v.category).sum ≤ 8) (hcs : cells + mc ≤ R.cells ∧ slots + ms ≤ R.slots) (hdg : decode cc pc = .ok (.invokespecial index, 3))
    (k : ∀ u : Nat → Nat, va_D A (wr ++ post u) → x_J p l e R s m args below meth c (cells + mc) (slots + ms) Q A nL (n_P D cl (wr ++ post u)) lv st (pc + 3)) : x_J p l e R s m args below meth c cells slots Q A nL (n_P D cl ws) lv (.ref h0 :: st) pc := by
  intro H locs ls h1 h2 h3
  subst hw
  have hP : va_P D cl (wr ++ [(h0, e0)]) H := h1
  have hlast : (wr ++ [(h0, e0)])[wr.length]? = some (h0, e0) := by simp
  have hPc : va_P D cl [(h0, e0)] H := fun k9 q hq => by
    have hz : k9 < 1 := (List.getElem?_eq_some_iff.mp hq).1
    rw [show k9 = 0 by omega] at hq
    cases hq
    exact hP wr.length _ hlast
  have hFc : ∀ q, va_A [(h0, e0)] H.size q → A q := va_free (wc := [(h0, e0)]) hD h2 hA [wr.length] (by simp)
  refine va_callv (A0 := A) (va_runI (As := []) (rest := st) ⟨B.1, B.2.1, B.2.2.1, B.2.2.2.1, B.2.2.2.2.1⟩ (hM H.size) cw ⟨?_, fun U hU hW => ⟨rfl, by rw [hU], by rw [hU]; exact hPc, va_K.moved hW.alike hK, hNW.1.1 s U hW hNW.2⟩⟩ rfl rfl h3.1 rfl (lv_room hst) hdg hcs) h2 (fun q _ h => hFc q h) hFc (fun u t H1 locs1 ht hvm hw hB hz1 hk1 hS => ?_)
  · intro a U g mk q
    obtain ⟨q0, q1, qP, qK, qN⟩ := q
    exact ⟨q0, q1, qP, va_K.moved (u := U) (U := U.calling g mk a) (Vm.Alike.refl U.vm) qK, hNW.1.2 U (U.calling g mk a) rfl qN⟩
  · obtain ⟨hP1, hD1⟩ := hB
    rw [ht] at hP1
    obtain ⟨hP2, hD2⟩ := va_join (wc := [(h0, e0)]) (wr := wr) (w1 := post u) hP hD [wr.length] (List.range nr) (by simp) hR hnd (fun i hi => by rw [hnr] at hi; have := List.mem_range.mp hi; simp; omega) hk1 hFc hP1 hD1
    exact k u hD2 H1 locs1 ls hP2 hS h3
/-- a constructor's end -/
theorem n_vret (B : x_B p s m args meth c cc nL Ts own) (hr : meth.sig.returnType = none) {post : (Nat → Nat) → va_W} {F : Nat → Prop} (u : Nat → Nat) (hw : ws = post u) (hD : va_D F ws) {mc ms : Nat} (hc : cells ≤ mc) (hs : slots ≤ ms) (hdg : decode cc pc = .ok (.return_, 1)) : x_J p l e R s m args below meth c cells slots (MQ below (va_Qv (fun _ : Nat → Nat => True) (fun u t => va_P D cl (post u) t.heap ∧ va_D F (post u)) F) args s mc ms F) F nL (n_P D cl ws) lv [] pc := by
  intro H locs ls h1 h2 h3
  subst hw
  refine W.widen hc hs ?_
  exact W.vret B.1 B.2.1 hr (fun t ht hW => ⟨⟨u, rfl, trivial, (by rw [ht]; exact h1), hD⟩, h2.F ht⟩) h2.2.2 hdg (hlocks := B.2.2.2.2.2)
/-- a constructor out of its body -/
theorem n_met {y : MethodName} {wsy ws' : List Cond} {maxL h0 mc ms sz : Nat} {rm : Room} {NW : x_Nt} {e0 : va_E} {post : (Nat → Nat) → va_W} (hy : plainName y.cls = true) (hw : wsy = Cond.code y cc maxL none :: ws') (ho : y.cls = own) (hn : y.name = "<init>") (hlen : (lg_sl [Value.ref h0]).length ≤ maxL)
    (body : ∀ (p : Program) (e : Env) (s : State) (m : MethodId) (args : Array Value) (below : List Frame) (meth : Method) (c : Code), x_B p s m args meth c cc maxL wsy own → va_K D cl tys s → NW s → meth.name = "<init>" → meth.sig.returnType = none → (∀ q, s.heap.size ≤ q → va_A [(h0, e0)] sz q) → va_D (va_A [(h0, e0)] sz) [(h0, e0)] → x_J p l e rm s m args below meth c 0 0 (MQ below (va_Qv (fun _ : Nat → Nat => True) (fun u t => va_P D cl (post u) t.heap ∧ va_D (va_A [(h0, e0)] sz) (post u)) (va_A [(h0, e0)] sz)) args s mc ms (va_A [(h0, e0)] sz)) (va_A [(h0, e0)] sz) maxL (n_P D cl [(h0, e0)]) [(0, .ref h0)] [] 0) : Met l y wsy rm (va_Pc [.ref h0] (fun U => U.heap.size = sz ∧ va_P D cl [(h0, e0)] U.heap ∧ va_K D cl tys U ∧ NW U)) (va_Qv (fun _ : Nat → Nat => True) (fun u t => va_P D cl (post u) t.heap ∧ va_D (va_A [(h0, e0)] sz) (post u)) (va_A [(h0, e0)] sz)) mc ms (va_A [(h0, e0)] sz) := by
  refine Met.ofW hy hw ?_
  intro p e s m args below meth c s₁ Bd hml hv
  obtain ⟨rfl, hsz, hP, hK, hNW⟩ := hv
  have hown : s.vm.findClass y.cls = some m.cls := findClass_of_methodNamed Bd.named
  rw [ho] at hown
  have hnm := (name_of_methodNamed Bd.named Bd.method).1
  have hl := lv_entry [Value.ref h0] (n := maxL) hlen
  rw [lg_entry_eq]
  refine body p e s m _ below meth c ⟨Bd.exec, Bd.bytes, hml, hown, atoms_spec (ws := wsy) Bd.pre, Bd.notSynchronized⟩ hK hNW (by first | exact hnm.trans hn | (rw [hnm]; exact hn) | (rw [← hnm]; exact hn)) Bd.returns (fun q h => Or.inr (by rw [← hsz]; exact h)) ⟨fun i j x y hx hy _ => by
      have hi : i < 1 := (List.getElem?_eq_some_iff.mp hx).1
      have hj : j < 1 := (List.getElem?_eq_some_iff.mp hy).1
      omega, fun k q hk => va_A.in hk⟩ s.heap [] _ hP va_S.rf hl
end NI
end
section
/-! ===== by program out of the bytecode: what each method computes; none where the machine would throw or a loop not end in time ===== -/
def fX1_leave (a1 : Int32) (σ : x_S) : Option x_S :=
  if 16 ≤ (σ 30 1) then (some σ) else (x_g (x_in (σ 30 1) 16) (x_w (x_u σ 31 (σ 30 1).toNatClampNeg a1) (fun σ3 => x_w (x_u σ3 30 1 ((σ3 30 1) + 1)) (fun σ5 => some σ5))))
def fX5_isRow (a0 : Int32) (σ : x_S) : Option Int32 :=
  if a0 < 0 then (some 0) else (if 8 ≤ a0 then (some 0) else (some 1))
def fX7_isWithin (a0 : Int32) (a1 : Int32) (a2 : Int32) (σ : x_S) : Option Int32 :=
  if a0 < a1 then (some 0) else (if a2 < a0 then (some 0) else (some 1))
def fX7_found (a1 : Int32) (σ : x_S) : Option (Int32 × x_S) :=
  x_w (x_u σ 0 8 a1) (fun σ1 => some (((-1000010) - a1), σ1))
def gX5_lay_17 (x1 : Int32) (K17 : Int32 → x_S → Option x_S) (x4 : Int32) (σ : x_S) : Option x_S :=
  if 40 ≤ x4 then (some σ) else (x_g (x_in x1 8) (x_g (x_in x4 40) (x_w (x_u σ (3 + x1.toNatClampNeg) x4.toNatClampNeg 0) (fun σ4 => K17 (x4 + 1) σ4))))
def bX5_lay_17 (x1 : Int32) (x4 : Int32) (σ : x_S) : Option x_S :=
  x_fx (α := Int32 → x_S → Option x_S) (fun _ _ => none) (fun K => fun x4 σ => gX5_lay_17  x1 K x4 σ) x_F x4 σ
def fX5_lay (a1 : Int32) (a2 : Int32) (a3 : Int32) (σ : x_S) : Option x_S :=
  x_g (x_in a1 8) (x_w (x_u σ 11 a1.toNatClampNeg a3) (fun σ2 => x_g (x_in a1 8) (x_w (x_u σ2 12 a1.toNatClampNeg a2) (fun σ5 => bX5_lay_17 a1 0 σ5))))
def fX7_foundNothing (a1 : Int32) (σ : x_S) : Option (Int32 × x_S) :=
  x_w (x_u σ 0 8 0) (fun σ1 => some (a1, σ1))
def fX7_row (a1 : Int32) (a2 : Int32) (a3 : Int32) (σ : x_S) : Option (Int32 × x_S) :=
  x_p (fX5_isRow a1 σ) (fun r2 => if r2 = 0 then (some ((-1000001), σ)) else (x_p (fX7_isWithin a2 0 2 σ) (fun r5 => if r5 = 0 then (some ((-1000001), σ)) else (if a3 ≤ 40 then (if 0 ≤ a3 then (x_v (fX5_lay a1 a2 a3 σ) (fun σ10 => x_b (fX7_foundNothing a3 σ10) (fun r12 σ13 => some (r12, σ13)))) else (x_b (fX7_found 4 σ) (fun r15 σ16 => some (r15, σ16)))) else (some ((-1000001), σ))))))
def fX5_isMissing (a1 : Int32) (σ : x_S) : Option Int32 :=
  x_g (x_in a1 8) (if (σ 11 a1.toNatClampNeg) = (-1) then (some 1) else (some 0))
def fX5_reaches (a1 : Int32) (a2 : Int32) (a3 : Int32) (σ : x_S) : Option Int32 :=
  if a2 < 0 then (some 0) else (if a3 < 0 then (some 0) else (x_g (x_in a1 8) (if (σ 11 a1.toNatClampNeg) < a3 then (some 0) else (x_g (x_in a1 8) (if ((σ 11 a1.toNatClampNeg) - a3) < a2 then (some 0) else (some 1))))))
def fX5_findingOf (a1 : Int32) (a2 : Int32) (a3 : Int32) (σ : x_S) : Option Int32 :=
  x_p (fX5_isMissing a1 σ) (fun r2 => if r2 = 0 then (x_p (fX5_reaches a1 a2 a3 σ) (fun r5 => if r5 = 0 then (some 2) else (some 0))) else (some 1))
def fX5_lowestBits (a0 : Int32) (a1 : Int32) (σ : x_S) : Option Int32 :=
  if a1 = 0 then (some a0.toInt8.toInt32) else (if a1 = 1 then (some a0.toInt16.toInt32) else (some a0))
def fX5_put (a1 : Int32) (a2 : Int32) (a3 : Int32) (σ : x_S) : Option (Int32 × x_S) :=
  x_g (x_in a1 8) (x_g (x_in a1 8) (x_p (fX5_lowestBits a3 (σ 12 a1.toNatClampNeg) σ) (fun r4 => x_g (x_in a2 40) (x_w (x_u σ (3 + a1.toNatClampNeg) a2.toNatClampNeg r4) (fun σ6 => x_g (x_in a1 8) (x_g (x_in a2 40) (some ((σ6 (3 + a1.toNatClampNeg) a2.toNatClampNeg), σ6))))))))
def fX7_set (a1 : Int32) (a2 : Int32) (a3 : Int32) (σ : x_S) : Option (Int32 × x_S) :=
  x_p (fX5_isRow a1 σ) (fun r2 => if r2 = 0 then (some ((-1000001), σ)) else (x_p (fX5_findingOf a1 a2 1 σ) (fun r5 => if r5 = 0 then (x_b (fX5_put a1 a2 a3 σ) (fun r8 σ9 => x_b (fX7_foundNothing r8 σ9) (fun r11 σ12 => some (r11, σ12)))) else (x_b (fX7_found r5 σ) (fun r14 σ15 => some (r14, σ15))))))
def fX5_areAlike (a1 : Int32) (a2 : Int32) (σ : x_S) : Option Int32 :=
  x_g (x_in a1 8) (x_g (x_in a2 8) (if (σ 12 a1.toNatClampNeg) = (σ 12 a2.toNatClampNeg) then (some 1) else (some 0)))
def fX5_carry (a1 : Int32) (a2 : Int32) (a3 : Int32) (a4 : Int32) (a5 : Int32) (σ : x_S) : Option x_S :=
  x_g (x_in a1 8) (x_g (x_in a3 8) (x_g (¬ a2 < 0 ∧ ¬ a4 < 0 ∧ ¬ a5 < 0 ∧ a2.toNatClampNeg + a5.toNatClampNeg ≤ 40 ∧ a4.toNatClampNeg + a5.toNatClampNeg ≤ 40) (x_w (x_r σ (3 + a3.toNatClampNeg) (va_cpy (σ (3 + a1.toNatClampNeg)) (σ (3 + a3.toNatClampNeg)) a2.toNatClampNeg a4.toNatClampNeg a5.toNatClampNeg)) (fun σ4 => some σ4))))
def bX7_copy_39 (σ : x_S) : Option (Int32 × x_S) :=
  x_b (fX7_found 1 σ) (fun r2 σ3 => some (r2, σ3))
def bX7_copy_92 (σ : x_S) : Option (Int32 × x_S) :=
  x_b (fX7_found 2 σ) (fun r2 σ3 => some (r2, σ3))
def fX7_copy (a1 : Int32) (a2 : Int32) (a3 : Int32) (a4 : Int32) (a5 : Int32) (σ : x_S) : Option (Int32 × x_S) :=
  x_p (fX5_isRow a1 σ) (fun r2 => if r2 = 0 then (some ((-1000001), σ)) else (x_p (fX5_isRow a3 σ) (fun r5 => if r5 = 0 then (some ((-1000001), σ)) else (x_p (fX5_isMissing a1 σ) (fun r8 => if r8 = 0 then (x_p (fX5_isMissing a3 σ) (fun r11 => if r11 = 0 then (x_p (fX5_areAlike a1 a3 σ) (fun r14 => if r14 = 0 then (x_b (fX7_found 5 σ) (fun r28 σ29 => some (r28, σ29))) else (x_p (fX5_reaches a1 a2 a5 σ) (fun r17 => if r17 = 0 then (bX7_copy_92 σ) else (x_p (fX5_reaches a3 a4 a5 σ) (fun r20 => if r20 = 0 then (bX7_copy_92 σ) else (x_v (fX5_carry a1 a2 a3 a4 a5 σ) (fun σ23 => x_b (fX7_foundNothing a5 σ23) (fun r25 σ26 => some (r25, σ26)))))))))) else (bX7_copy_39 σ))) else (bX7_copy_39 σ))))))
def fX5_takeAway (a1 : Int32) (σ : x_S) : Option (Int32 × x_S) :=
  x_g (x_in a1 8) (x_g (x_in a1 8) (x_w (x_u σ 11 a1.toNatClampNeg (-1)) (fun σ3 => some ((σ 11 a1.toNatClampNeg), σ3))))
def fX7_drop (a1 : Int32) (σ : x_S) : Option (Int32 × x_S) :=
  x_p (fX5_isRow a1 σ) (fun r2 => if r2 = 0 then (some ((-1000001), σ)) else (x_p (fX5_isMissing a1 σ) (fun r5 => if r5 = 0 then (x_b (fX5_takeAway a1 σ) (fun r8 σ9 => x_b (fX7_foundNothing r8 σ9) (fun r11 σ12 => some (r11, σ12)))) else (x_b (fX7_found 1 σ) (fun r14 σ15 => some (r14, σ15))))))
def fX4_isFull (σ : x_S) : Option Int32 :=
  if (σ 13 1) < 120 then (some 0) else (some 1)
def fX4_append (a1 : Int32) (σ : x_S) : Option (Int32 × x_S) :=
  x_p (fX4_isFull σ) (fun r2 => if r2 = 0 then (x_g (x_in (σ 13 1) 120) (x_w (x_u σ 14 (σ 13 1).toNatClampNeg a1) (fun σ5 => x_w (x_u σ5 13 1 ((σ5 13 1) + 1)) (fun σ7 => some ((σ7 13 1), σ7))))) else (some ((σ 13 1), σ)))
def fX7_feed (a1 : Int32) (σ : x_S) : Option (Int32 × x_S) :=
  x_p (fX7_isWithin a1 0 255 σ) (fun r2 => if r2 = 0 then (some ((-1000001), σ)) else (x_p (fX4_isFull σ) (fun r5 => if r5 = 0 then (x_b (fX4_append a1 σ) (fun r8 σ9 => some (r8, σ9))) else (some ((-1000003), σ)))))
def fX4_next (σ : x_S) : Option Int32 :=
  if (σ 13 5) < 0 then (some (-1)) else (if (σ 13 1) ≤ (σ 13 5) then (some (-1)) else (if 120 ≤ (σ 13 5) then (some (-1)) else (x_g (x_in (σ 13 5) 120) (some (σ 14 (σ 13 5).toNatClampNeg)))))
def fX4_failAt (a1 : Int32) (a2 : Int32) (σ : x_S) : Option x_S :=
  if (σ 13 4) = 0 then (x_w (x_u σ 13 4 a2) (fun σ2 => x_w (x_u σ2 13 2 a2) (fun σ4 => x_w (x_u σ4 13 3 a1) (fun σ6 => some σ6)))) else (some σ)
def fX4_fail (a1 : Int32) (σ : x_S) : Option x_S :=
  x_v (fX4_failAt (σ 13 5) a1 σ) (fun σ2 => some σ2)
def bX4_readSign_13 (σ : x_S) : Option x_S :=
  x_w (x_u σ 13 5 ((σ 13 5) + 1)) (fun σ1 => some σ1)
def fX4_readSign (a1 : Int32) (σ : x_S) : Option x_S :=
  x_p (fX4_next σ) (fun r2 => if r2 = a1 then (bX4_readSign_13 σ) else (x_v (fX4_fail 1 σ) (fun σ5 => bX4_readSign_13 σ5)))
def bX4_readNumber_88 (x4 : Int32) (x5 : Int32) (σ : x_S) : Option (Int32 × x_S) :=
  x_v (fX4_failAt x5 1 σ) (fun σ2 => some (x4, σ2))
def bX4_readNumber_79 (x1 : Int32) (x2 : Int32) (x3 : Int32) (x4 : Int32) (x5 : Int32) (σ : x_S) : Option (Int32 × x_S) :=
  if x3 = 0 then (bX4_readNumber_88 x4 x5 σ) else (if x3 ≤ 2 then (x_p (fX7_isWithin x4 x1 x2 σ) (fun r4 => if r4 = 0 then (x_v (fX4_failAt x5 2 σ) (fun σ7 => some (x4, σ7))) else (some (x4, σ)))) else (bX4_readNumber_88 x4 x5 σ))
def bX4_readNumber_58 (K14 : Int32 → Int32 → Int32 → x_S → Option (Int32 × x_S)) (x1 : Int32) (x2 : Int32) (x3 : Int32) (x5 : Int32) (x6 : Int32) (y0 : Int32) (σ : x_S) : Option (Int32 × x_S) :=
  x_w (x_u σ 13 5 ((σ 13 5) + 1)) (fun σ1 => K14 (x3 + 1) y0 (x6 + 1) σ1)
def gX4_readNumber_14 (x1 : Int32) (x2 : Int32) (x5 : Int32) (K14 : Int32 → Int32 → Int32 → x_S → Option (Int32 × x_S)) (x3 : Int32) (x4 : Int32) (x6 : Int32) (σ : x_S) : Option (Int32 × x_S) :=
  if 120 ≤ x6 then (bX4_readNumber_79 x1 x2 x3 x4 x5 σ) else (x_p (fX4_next σ) (fun r3 => x_p (fX7_isWithin r3 48 57 σ) (fun r5 => if r5 = 0 then (bX4_readNumber_79 x1 x2 x3 x4 x5 σ) else (if 2 ≤ x3 then (bX4_readNumber_58 K14 x1 x2 x3 x5 x6 x4 σ) else (x_p (fX4_next σ) (fun r9 => bX4_readNumber_58 K14 x1 x2 x3 x5 x6 (((x4 * 10) + r9) - 48) σ))))))
def bX4_readNumber_14 (x1 : Int32) (x2 : Int32) (x5 : Int32) (x3 : Int32) (x4 : Int32) (x6 : Int32) (σ : x_S) : Option (Int32 × x_S) :=
  x_fx (α := Int32 → Int32 → Int32 → x_S → Option (Int32 × x_S)) (fun _ _ _ _ => none) (fun K => fun x3 x4 x6 σ => gX4_readNumber_14  x1 x2 x5 K x3 x4 x6 σ) x_F x3 x4 x6 σ
def fX4_readNumber (a1 : Int32) (a2 : Int32) (σ : x_S) : Option (Int32 × x_S) :=
  bX4_readNumber_14 a1 a2 (σ 13 5) 0 0 0 σ
def fX2_begin (c0 : Nat) (a1 : Int32) (σ : x_S) : Option x_S :=
  x_w (x_u σ c0 0 1) (fun σ1 => x_w (x_u σ1 c0 1 a1) (fun σ3 => x_w (x_u σ3 c0 2 0) (fun σ5 => x_w (x_u σ5 c0 3 0) (fun σ7 => x_w (x_u σ7 c0 4 0) (fun σ9 => x_w (x_u σ9 c0 5 0) (fun σ11 => some σ11))))))
def fX4_readLaw (c1 : Nat) (σ : x_S) : Option x_S :=
  x_v (fX4_readSign 100 σ) (fun σ2 => x_b (fX4_readNumber 1 9 σ2) (fun r4 σ5 => x_v (fX2_begin c1 r4 σ5) (fun σ7 => x_v (fX4_readSign 59 σ7) (fun σ9 => some σ9))))
def fX4_readStreet (c1 : Nat) (σ : x_S) : Option x_S :=
  if (σ c1 3) < 7 then (x_v (fX4_readSign 114 σ) (fun σ3 => x_b (fX4_readNumber 0 30 σ3) (fun r5 σ6 => x_g (x_in (σ c1 3) 7) (x_w (x_u σ6 (c1 + 1) (σ c1 3).toNatClampNeg r5) (fun σ8 => x_v (fX4_readSign 44 σ8) (fun σ11 => x_b (fX4_readNumber 0 9 σ11) (fun r13 σ14 => x_g (x_in (σ c1 3) 7) (x_w (x_u σ14 (c1 + 2) (σ c1 3).toNatClampNeg r13) (fun σ16 => x_v (fX4_readSign 59 σ16) (fun σ19 => x_w (x_u σ19 c1 3 ((σ19 c1 3) + 1)) (fun σ20 => some σ20))))))))))) else (x_v (fX4_fail 3 σ) (fun σ23 => some σ23))
def fX3_ofLetter (a0 : Int32) (σ : x_S) : Option Int32 :=
  if a0 = 98 then (some 3) else (if a0 = 107 then (some 4) else (if a0 = 110 then (some 2) else (if a0 = 115 then (some 5) else (if a0 = 119 then (some 1) else (some 0)))))
def fX4_readGesture (c1 : Nat) (σ : x_S) : Option x_S :=
  if (σ c1 5) < 6 then (x_p (fX4_next σ) (fun r3 => x_p (fX3_ofLetter r3 σ) (fun r5 => x_g (x_in (σ c1 5) 6) (x_w (x_u σ (c1 + 3) (σ c1 5).toNatClampNeg r5) (fun σ7 => x_w (x_u σ7 13 5 ((σ7 13 5) + 1)) (fun σ9 => x_b (fX4_readNumber 1 30 σ9) (fun r12 σ13 => x_g (x_in (σ c1 5) 6) (x_w (x_u σ13 (c1 + 4) (σ c1 5).toNatClampNeg r12) (fun σ15 => x_v (fX4_readSign 44 σ15) (fun σ18 => x_b (fX4_readNumber 0 3 σ18) (fun r20 σ21 => x_g (x_in (σ c1 5) 6) (x_w (x_u σ21 (c1 + 5) (σ c1 5).toNatClampNeg r20) (fun σ23 => x_v (fX4_readSign 44 σ23) (fun σ26 => x_b (fX4_readNumber 1 9 σ26) (fun r28 σ29 => x_g (x_in (σ c1 5) 6) (x_w (x_u σ29 (c1 + 6) (σ c1 5).toNatClampNeg r28) (fun σ31 => x_v (fX4_readSign 59 σ31) (fun σ34 => x_g (x_in (σ c1 5) 6) (x_w (x_u σ34 (c1 + 7) (σ c1 5).toNatClampNeg 0) (fun σ36 => x_w (x_u σ36 c1 5 ((σ36 c1 5) + 1)) (fun σ38 => some σ38))))))))))))))))))))) else (x_v (fX4_fail 3 σ) (fun σ41 => some σ41))
def bX4_reads_102 (σ : x_S) : Option (Int32 × x_S) :=
  x_w (x_u σ 13 1 0) (fun σ1 => if (σ1 13 4) = 0 then (some (1, σ1)) else (some (0, σ1)))
def bX4_reads_86 (σ : x_S) : Option (Int32 × x_S) :=
  if (σ 13 1) ≤ (σ 13 5) then (bX4_reads_102 σ) else (x_v (fX4_fail 1 σ) (fun σ3 => bX4_reads_102 σ3))
def gX4_reads_52 (c1 : Nat) (K52 : Int32 → x_S → Option (Int32 × x_S)) (x2 : Int32) (σ : x_S) : Option (Int32 × x_S) :=
  if 120 ≤ x2 then (bX4_reads_86 σ) else (if (σ 13 4) = 0 then (x_p (fX4_next σ) (fun r4 => x_p (fX3_ofLetter r4 σ) (fun r6 => if r6 = 0 then (bX4_reads_86 σ) else (x_v (fX4_readGesture c1 σ) (fun σ9 => K52 (x2 + 1) σ9))))) else (bX4_reads_86 σ))
def bX4_reads_52 (c1 : Nat) (x2 : Int32) (σ : x_S) : Option (Int32 × x_S) :=
  x_fx (α := Int32 → x_S → Option (Int32 × x_S)) (fun _ _ => none) (fun K => fun x2 σ => gX4_reads_52  c1 K x2 σ) x_F x2 σ
def gX4_reads_17 (c1 : Nat) (K17 : Int32 → x_S → Option (Int32 × x_S)) (x2 : Int32) (σ : x_S) : Option (Int32 × x_S) :=
  if 120 ≤ x2 then (bX4_reads_52 c1 0 σ) else (if (σ 13 4) = 0 then (x_p (fX4_next σ) (fun r4 => if r4 = 114 then (x_v (fX4_readStreet c1 σ) (fun σ7 => K17 (x2 + 1) σ7)) else (bX4_reads_52 c1 0 σ))) else (bX4_reads_52 c1 0 σ))
def bX4_reads_17 (c1 : Nat) (x2 : Int32) (σ : x_S) : Option (Int32 × x_S) :=
  x_fx (α := Int32 → x_S → Option (Int32 × x_S)) (fun _ _ => none) (fun K => fun x2 σ => gX4_reads_17  c1 K x2 σ) x_F x2 σ
def fX4_reads (c1 : Nat) (σ : x_S) : Option (Int32 × x_S) :=
  x_w (x_u σ 13 4 0) (fun σ1 => x_w (x_u σ1 13 5 0) (fun σ3 => x_v (fX4_readLaw c1 σ3) (fun σ6 => bX4_reads_17 c1 0 σ6)))
def fX2_become (c0 : Nat) (c1 : Nat) (σ : x_S) : Option x_S :=
  x_g ((σ c1 0) = 0 ∨ (σ c1 0) = 1) (x_w (x_u σ c0 0 (σ c1 0)) (fun σ2 => x_w (x_u σ2 c0 1 (σ2 c1 1)) (fun σ4 => x_w (x_u σ4 c0 2 (σ4 c1 2)) (fun σ6 => x_w (x_u σ6 c0 3 (σ6 c1 3)) (fun σ8 => x_w (x_u σ8 c0 4 (σ8 c1 4)) (fun σ10 => x_w (x_u σ10 c0 5 (σ10 c1 5)) (fun σ12 => x_g (¬ (0 : Int32) < 0 ∧ ¬ (0 : Int32) < 0 ∧ ¬ (7 : Int32) < 0 ∧ (0 : Int32).toNatClampNeg + (7 : Int32).toNatClampNeg ≤ 7 ∧ (0 : Int32).toNatClampNeg + (7 : Int32).toNatClampNeg ≤ 7) (x_w (x_r σ12 (c0 + 1) (va_cpy (σ12 (c1 + 1)) (σ12 (c0 + 1)) (0 : Int32).toNatClampNeg (0 : Int32).toNatClampNeg (7 : Int32).toNatClampNeg)) (fun σ15 => x_g (¬ (0 : Int32) < 0 ∧ ¬ (0 : Int32) < 0 ∧ ¬ (7 : Int32) < 0 ∧ (0 : Int32).toNatClampNeg + (7 : Int32).toNatClampNeg ≤ 7 ∧ (0 : Int32).toNatClampNeg + (7 : Int32).toNatClampNeg ≤ 7) (x_w (x_r σ15 (c0 + 2) (va_cpy (σ15 (c1 + 2)) (σ15 (c0 + 2)) (0 : Int32).toNatClampNeg (0 : Int32).toNatClampNeg (7 : Int32).toNatClampNeg)) (fun σ18 => x_g (¬ (0 : Int32) < 0 ∧ ¬ (0 : Int32) < 0 ∧ ¬ (6 : Int32) < 0 ∧ (0 : Int32).toNatClampNeg + (6 : Int32).toNatClampNeg ≤ 6 ∧ (0 : Int32).toNatClampNeg + (6 : Int32).toNatClampNeg ≤ 6) (x_w (x_r σ18 (c0 + 3) (va_cpy (σ18 (c1 + 3)) (σ18 (c0 + 3)) (0 : Int32).toNatClampNeg (0 : Int32).toNatClampNeg (6 : Int32).toNatClampNeg)) (fun σ21 => x_g (¬ (0 : Int32) < 0 ∧ ¬ (0 : Int32) < 0 ∧ ¬ (6 : Int32) < 0 ∧ (0 : Int32).toNatClampNeg + (6 : Int32).toNatClampNeg ≤ 6 ∧ (0 : Int32).toNatClampNeg + (6 : Int32).toNatClampNeg ≤ 6) (x_w (x_r σ21 (c0 + 4) (va_cpy (σ21 (c1 + 4)) (σ21 (c0 + 4)) (0 : Int32).toNatClampNeg (0 : Int32).toNatClampNeg (6 : Int32).toNatClampNeg)) (fun σ24 => x_g (¬ (0 : Int32) < 0 ∧ ¬ (0 : Int32) < 0 ∧ ¬ (6 : Int32) < 0 ∧ (0 : Int32).toNatClampNeg + (6 : Int32).toNatClampNeg ≤ 6 ∧ (0 : Int32).toNatClampNeg + (6 : Int32).toNatClampNeg ≤ 6) (x_w (x_r σ24 (c0 + 5) (va_cpy (σ24 (c1 + 5)) (σ24 (c0 + 5)) (0 : Int32).toNatClampNeg (0 : Int32).toNatClampNeg (6 : Int32).toNatClampNeg)) (fun σ27 => x_g (¬ (0 : Int32) < 0 ∧ ¬ (0 : Int32) < 0 ∧ ¬ (6 : Int32) < 0 ∧ (0 : Int32).toNatClampNeg + (6 : Int32).toNatClampNeg ≤ 6 ∧ (0 : Int32).toNatClampNeg + (6 : Int32).toNatClampNeg ≤ 6) (x_w (x_r σ27 (c0 + 6) (va_cpy (σ27 (c1 + 6)) (σ27 (c0 + 6)) (0 : Int32).toNatClampNeg (0 : Int32).toNatClampNeg (6 : Int32).toNatClampNeg)) (fun σ30 => x_g (¬ (0 : Int32) < 0 ∧ ¬ (0 : Int32) < 0 ∧ ¬ (6 : Int32) < 0 ∧ (0 : Int32).toNatClampNeg + (6 : Int32).toNatClampNeg ≤ 6 ∧ (0 : Int32).toNatClampNeg + (6 : Int32).toNatClampNeg ≤ 6) (x_w (x_r σ30 (c0 + 7) (va_cpy (σ30 (c1 + 7)) (σ30 (c0 + 7)) (0 : Int32).toNatClampNeg (0 : Int32).toNatClampNeg (6 : Int32).toNatClampNeg)) (fun σ33 => some σ33)))))))))))))))))))))
def fX0_forgetAll (σ : x_S) : Option x_S :=
  x_w (x_u σ 16 4 0) (fun σ1 => some σ1)
def fX7_city (σ : x_S) : Option (Int32 × x_S) :=
  x_b (fX4_reads 40 σ) (fun r2 σ3 => if r2 = 0 then (some (((-1000100) - (σ3 13 3)), σ3)) else (x_v (fX2_become 32 40 σ3) (fun σ6 => x_v (fX0_forgetAll σ6) (fun σ8 => some ((σ8 32 5), σ8)))))
def fX7_fault (σ : x_S) : Option Int32 :=
  some (σ 13 2)
def fX7_isGesture (a1 : Int32) (σ : x_S) : Option Int32 :=
  if a1 < 0 then (some 0) else (if (σ 32 5) ≤ a1 then (some 0) else (some 1))
def fX7_isStreet (a1 : Int32) (σ : x_S) : Option Int32 :=
  if a1 < 0 then (some 0) else (if (σ 32 3) ≤ a1 then (some 0) else (some 1))
def bX2_isSeen_41 (c0 : Nat) (x2 : Int32) (y0 : Int32) (y1 : Int32) (σ : x_S) : Option Int32 :=
  x_g (x_in x2 7) (if (y1 + y0) < (σ (c0 + 1) x2.toNatClampNeg) then (some 0) else (some 1))
def bX2_isSeen_25 (c0 : Nat) (x1 : Int32) (x2 : Int32) (y0 : Int32) (σ : x_S) : Option Int32 :=
  x_g (x_in x1 6) (if y0 = 0 then (bX2_isSeen_41 c0 x2 0 (σ (c0 + 4) x1.toNatClampNeg) σ) else (bX2_isSeen_41 c0 x2 5 (σ (c0 + 4) x1.toNatClampNeg) σ))
def fX2_isSeen (c0 : Nat) (a1 : Int32) (a2 : Int32) (σ : x_S) : Option Int32 :=
  x_g (x_in a1 6) (if (σ (c0 + 3) a1.toNatClampNeg) = 4 then (bX2_isSeen_25 c0 a1 a2 1 σ) else (x_g (x_in a1 6) (if (σ (c0 + 3) a1.toNatClampNeg) = 5 then (bX2_isSeen_25 c0 a1 a2 1 σ) else (bX2_isSeen_25 c0 a1 a2 0 σ))))
def fX2_owesUnknown (c0 : Nat) (a1 : Int32) (a2 : Int32) (a3 : Int32) (σ : x_S) : Option Int32 :=
  x_g (x_in a3 7) (if a1 = 1 then (some ((a2 * (σ c0 1)) + ((a2 * (σ (c0 + 2) a3.toNatClampNeg)) / 10))) else (if a1 = 2 then (some (((a2 * (σ c0 1)) + ((a2 * (σ (c0 + 2) a3.toNatClampNeg)) / 10)) / 2)) else (if a1 = 3 then (some (((a2 * (σ c0 1)) + ((a2 * (σ (c0 + 2) a3.toNatClampNeg)) / 10)) + ((σ c0 1) * (if 0 < (a2 - 10) then (a2 - 10) else 0)))) else (if a1 = 4 then (some 1) else (if a1 = 5 then (x_g (x_in a3 7) (if (σ (c0 + 2) a3.toNatClampNeg) < 5 then (some 1) else (some ((a2 * (σ c0 1)) + ((a2 * (σ (c0 + 2) a3.toNatClampNeg)) / 10))))) else (some 1))))))
def fX2_isKnown (c0 : Nat) (a1 : Int32) (σ : x_S) : Option Int32 :=
  if (((σ c0 4) >>> (a1 &&& 31)) &&& 1) = 1 then (some 1) else (some 0)
def fX2_owesSuch (c0 : Nat) (a1 : Int32) (a2 : Int32) (a3 : Int32) (σ : x_S) : Option Int32 :=
  x_p (fX2_owesUnknown c0 a1 a2 a3 σ) (fun r2 => x_p (fX2_isKnown c0 a3 σ) (fun r4 => if r4 = 0 then (some r2) else (some (r2 / 2))))
def fX2_owes (c0 : Nat) (a1 : Int32) (a2 : Int32) (σ : x_S) : Option Int32 :=
  x_g (x_in a1 6) (x_g (x_in a1 6) (x_p (fX2_owesSuch c0 (σ (c0 + 3) a1.toNatClampNeg) (σ (c0 + 4) a1.toNatClampNeg) a2 σ) (fun r4 => some r4)))
def fX0_keep (a1 : Int32) (a2 : Int32) (a3 : Int32) (σ : x_S) : Option x_S :=
  x_g (x_in (σ 16 3) 24) (x_w (x_u σ 17 (σ 16 3).toNatClampNeg a1) (fun σ2 => x_g (x_in (σ2 16 3) 24) (x_w (x_u σ2 18 (σ2 16 3).toNatClampNeg a2) (fun σ5 => x_g (x_in (σ5 16 3) 24) (x_w (x_u σ5 19 (σ5 16 3).toNatClampNeg a3) (fun σ8 => x_w (x_u σ8 16 3 (((σ8 16 3) + 1) - ((σ8 16 3) + 1) / 24 * 24)) (fun σ10 => x_w (x_u σ10 16 4 (if 24 < ((σ10 16 4) + 1) then 24 else ((σ10 16 4) + 1))) (fun σ12 => some σ12))))))))
def fX7_make (a1 : Int32) (a2 : Int32) (σ : x_S) : Option (Int32 × x_S) :=
  x_p (fX7_isGesture a1 σ) (fun r2 => if r2 = 0 then (some ((-1000001), σ)) else (x_p (fX7_isStreet a2 σ) (fun r5 => if r5 = 0 then (some ((-1000001), σ)) else (x_p (fX2_isSeen 32 a1 a2 σ) (fun r8 => if r8 = 0 then (some ((-1000002), σ)) else (x_p (fX2_owes 32 a1 a2 σ) (fun r11 => if ((σ 32 2) + r11) ≤ 99999 then (x_g (x_in a1 6) (x_g (x_in a1 6) (x_w (x_u σ 39 a1.toNatClampNeg ((σ 39 a1.toNatClampNeg) + 1)) (fun σ15 => x_w (x_u σ15 32 2 ((σ15 32 2) + r11)) (fun σ17 => x_v (fX0_keep 0 a1 r11 σ17) (fun σ20 => some ((σ20 32 2), σ20))))))) else (some ((-1000003), σ)))))))))
def fX7_dim (a1 : Int32) (a2 : Int32) (σ : x_S) : Option (Int32 × x_S) :=
  x_p (fX7_isStreet a1 σ) (fun r2 => if r2 = 0 then (some ((-1000001), σ)) else (x_p (fX7_isWithin a2 0 30 σ) (fun r5 => if r5 = 0 then (some ((-1000001), σ)) else (x_g (x_in a1 7) (x_g (x_in a1 7) (x_w (x_u σ 33 a1.toNatClampNeg a2) (fun σ9 => x_v (fX0_keep 1 a1 (σ 33 a1.toNatClampNeg) σ9) (fun σ12 => some ((σ 33 a1.toNatClampNeg), σ12)))))))))
def fX7_train (a1 : Int32) (a2 : Int32) (σ : x_S) : Option (Int32 × x_S) :=
  x_p (fX7_isGesture a1 σ) (fun r2 => if r2 = 0 then (some ((-1000001), σ)) else (x_p (fX7_isWithin a2 1 29 σ) (fun r5 => if r5 = 0 then (some ((-1000001), σ)) else (x_g (x_in a1 6) (if 1 ≤ ((σ 36 a1.toNatClampNeg) - a2) then (x_g (x_in a1 6) (x_g (x_in a1 6) (x_w (x_u σ 36 a1.toNatClampNeg ((σ 36 a1.toNatClampNeg) - a2)) (fun σ11 => x_v (fX0_keep 2 a1 a2 σ11) (fun σ14 => x_g (x_in a1 6) (some ((σ14 36 a1.toNatClampNeg), σ14))))))) else (some ((-1000002), σ)))))))
def fX2_turnKnown (c0 : Nat) (a1 : Int32) (σ : x_S) : Option x_S :=
  x_w (x_u σ c0 4 ((σ c0 4) ^^^ (1 <<< (a1 &&& 31)))) (fun σ1 => some σ1)
def bX7_know_38 (x1 : Int32) (y0 : Int32) (y1 : Int32) (σ : x_S) : Option (Int32 × x_S) :=
  if y1 = y0 then (some ((-1000002), σ)) else (x_v (fX2_turnKnown 32 x1 σ) (fun σ3 => x_v (fX0_keep 3 x1 0 σ3) (fun σ5 => some ((σ5 32 4), σ5))))
def fX7_know (a1 : Int32) (a2 : Int32) (σ : x_S) : Option (Int32 × x_S) :=
  x_p (fX7_isStreet a1 σ) (fun r2 => if r2 = 0 then (some ((-1000001), σ)) else (x_p (fX7_isWithin a2 0 1 σ) (fun r5 => if r5 = 0 then (some ((-1000001), σ)) else (x_p (fX2_isKnown 32 a1 σ) (fun r8 => if a2 = 1 then (bX7_know_38 a1 1 r8 σ) else (bX7_know_38 a1 0 r8 σ))))))
def fX0_takeBack (c1 : Nat) (σ : x_S) : Option x_S :=
  x_w (x_u σ 16 3 ((((σ 16 3) + 24) - 1) - (((σ 16 3) + 24) - 1) / 24 * 24)) (fun σ1 => x_w (x_u σ1 16 4 ((σ1 16 4) - 1)) (fun σ3 => x_g (x_in (σ3 16 3) 24) (x_g (x_in (σ3 16 3) 24) (x_g (x_in (σ3 16 3) 24) (if (σ3 17 (σ3 16 3).toNatClampNeg) = 0 then (x_g (x_in (σ3 18 (σ3 16 3).toNatClampNeg) 6) (x_g (x_in (σ3 18 (σ3 16 3).toNatClampNeg) 6) (x_w (x_u σ3 (c1 + 7) (σ3 18 (σ3 16 3).toNatClampNeg).toNatClampNeg ((σ3 (c1 + 7) (σ3 18 (σ3 16 3).toNatClampNeg).toNatClampNeg) - 1)) (fun σ11 => x_w (x_u σ11 c1 2 ((σ11 c1 2) - (σ3 19 (σ3 16 3).toNatClampNeg))) (fun σ13 => some σ13))))) else (if (σ3 17 (σ3 16 3).toNatClampNeg) = 1 then (x_g (x_in (σ3 18 (σ3 16 3).toNatClampNeg) 7) (x_w (x_u σ3 (c1 + 1) (σ3 18 (σ3 16 3).toNatClampNeg).toNatClampNeg (σ3 19 (σ3 16 3).toNatClampNeg)) (fun σ17 => some σ17))) else (if (σ3 17 (σ3 16 3).toNatClampNeg) = 2 then (x_g (x_in (σ3 18 (σ3 16 3).toNatClampNeg) 6) (x_g (x_in (σ3 18 (σ3 16 3).toNatClampNeg) 6) (x_w (x_u σ3 (c1 + 4) (σ3 18 (σ3 16 3).toNatClampNeg).toNatClampNeg ((σ3 (c1 + 4) (σ3 18 (σ3 16 3).toNatClampNeg).toNatClampNeg) + (σ3 19 (σ3 16 3).toNatClampNeg))) (fun σ22 => some σ22)))) else (if (σ3 17 (σ3 16 3).toNatClampNeg) = 3 then (x_v (fX2_turnKnown c1 (σ3 18 (σ3 16 3).toNatClampNeg) σ3) (fun σ26 => some σ26)) else (some σ3)))))))))
def fX7_undo (σ : x_S) : Option (Int32 × x_S) :=
  if (σ 16 4) = 0 then (some ((-1000002), σ)) else (x_v (fX0_takeBack 32 σ) (fun σ3 => some ((σ3 16 4), σ3)))
def gX2_streetsThatSee_4 (c0 : Nat) (x1 : Int32) (K4 : Int32 → Int32 → Option Int32) (x2 : Int32) (x3 : Int32) (σ : x_S) : Option Int32 :=
  if (σ c0 3) ≤ x3 then (some x2) else (x_p (fX2_isSeen c0 x1 x3 σ) (fun r3 => if r3 = 0 then (K4 (x2 ||| 0) (x3 + 1)) else (K4 (x2 ||| (1 <<< (x3 &&& 31))) (x3 + 1))))
def bX2_streetsThatSee_4 (c0 : Nat) (x1 : Int32) (x2 : Int32) (x3 : Int32) (σ : x_S) : Option Int32 :=
  x_fx (α := Int32 → Int32 → Option Int32) (fun _ _ => none) (fun K => fun x2 x3 => gX2_streetsThatSee_4  c0 x1 K x2 x3 σ) x_F x2 x3
def fX2_streetsThatSee (c0 : Nat) (a1 : Int32) (σ : x_S) : Option Int32 :=
  bX2_streetsThatSee_4 c0 a1 0 0 σ
def fX7_gesture (a1 : Int32) (a2 : Int32) (σ : x_S) : Option Int32 :=
  x_p (fX7_isGesture a1 σ) (fun r2 => if r2 = 0 then (some (-1000001)) else (if a2 = 0 then (x_g (x_in a1 6) (some (σ 36 a1.toNatClampNeg))) else (if a2 = 1 then (x_g (x_in a1 6) (some (σ 37 a1.toNatClampNeg))) else (if a2 = 2 then (x_g (x_in a1 6) (some (σ 38 a1.toNatClampNeg))) else (if a2 = 3 then (x_p (fX2_streetsThatSee 32 a1 σ) (fun r12 => some r12)) else (if a2 = 4 then (x_g (x_in a1 6) (some (σ 39 a1.toNatClampNeg))) else (some (-1000001))))))))
def gX2_gesturesSeenIn_4 (c0 : Nat) (x1 : Int32) (K4 : Int32 → Int32 → Option Int32) (x2 : Int32) (x3 : Int32) (σ : x_S) : Option Int32 :=
  if (σ c0 5) ≤ x3 then (some x2) else (x_p (fX2_isSeen c0 x3 x1 σ) (fun r3 => if r3 = 0 then (K4 (x2 ||| 0) (x3 + 1)) else (K4 (x2 ||| (1 <<< (x3 &&& 31))) (x3 + 1))))
def bX2_gesturesSeenIn_4 (c0 : Nat) (x1 : Int32) (x2 : Int32) (x3 : Int32) (σ : x_S) : Option Int32 :=
  x_fx (α := Int32 → Int32 → Option Int32) (fun _ _ => none) (fun K => fun x2 x3 => gX2_gesturesSeenIn_4  c0 x1 K x2 x3 σ) x_F x2 x3
def fX2_gesturesSeenIn (c0 : Nat) (a1 : Int32) (σ : x_S) : Option Int32 :=
  bX2_gesturesSeenIn_4 c0 a1 0 0 σ
def fX7_street (a1 : Int32) (a2 : Int32) (σ : x_S) : Option Int32 :=
  x_p (fX7_isStreet a1 σ) (fun r2 => if r2 = 0 then (some (-1000001)) else (if a2 = 0 then (x_g (x_in a1 7) (some (σ 33 a1.toNatClampNeg))) else (if a2 = 1 then (x_g (x_in a1 7) (some (σ 34 a1.toNatClampNeg))) else (if a2 = 2 then (x_p (fX2_isKnown 32 a1 σ) (fun r10 => if r10 = 0 then (some 0) else (some 1))) else (if a2 = 3 then (x_p (fX2_gesturesSeenIn 32 a1 σ) (fun r14 => some r14)) else (some (-1000001)))))))
def fX7_duty (a1 : Int32) (a2 : Int32) (σ : x_S) : Option Int32 :=
  x_p (fX7_isGesture a1 σ) (fun r2 => if r2 = 0 then (some (-1000001)) else (x_p (fX7_isStreet a2 σ) (fun r5 => if r5 = 0 then (some (-1000001)) else (x_p (fX2_owes 32 a1 a2 σ) (fun r8 => some r8)))))
def fX7_isMeaning (a0 : Int32) (σ : x_S) : Option Int32 :=
  x_p (fX7_isWithin a0 0 3 σ) (fun r2 => x_g (r2 &&& 1 = r2) (some r2))
def fX7_isStretch (a1 : Int32) (a2 : Int32) (σ : x_S) : Option Int32 :=
  x_p (fX7_isStreet a1 σ) (fun r2 => if r2 = 0 then (some 0) else (x_p (fX7_isStreet a2 σ) (fun r5 => if r5 = 0 then (some 0) else (if a2 < a1 then (some 0) else (some 1)))))
def fX2_tells (c0 : Nat) (a1 : Int32) (a2 : Int32) (a3 : Int32) (σ : x_S) : Option Int32 :=
  x_g (x_in a1 6) (if (σ (c0 + 5) a1.toNatClampNeg) = a2 then (x_p (fX2_isSeen c0 a1 a3 σ) (fun r4 => if r4 = 0 then (some 0) else (some 1))) else (some 0))
def gX6_offer_3 (x1 : Int32) (x2 : Int32) (x3 : Int32) (x4 : Int32) (K3 : Int32 → x_S → Option x_S) (x5 : Int32) (σ : x_S) : Option x_S :=
  if x4 < x5 then (some σ) else (x_g (x_in x3 8) (x_g (x_in x3 8) (x_g (x_in x5 100) (x_g (x_in (x3 + 1) 8) (x_g (x_in (x5 - x2) 100) (x_g (x_in x5 100) (x_w (x_u σ (22 + x3.toNatClampNeg) x5.toNatClampNeg (if (x1 + (σ (22 + (x3 + 1).toNatClampNeg) (x5 - x2).toNatClampNeg)) < (σ (22 + x3.toNatClampNeg) x5.toNatClampNeg) then (x1 + (σ (22 + (x3 + 1).toNatClampNeg) (x5 - x2).toNatClampNeg)) else (σ (22 + x3.toNatClampNeg) x5.toNatClampNeg))) (fun σ8 => K3 (x5 + 1) σ8))))))))
def bX6_offer_3 (x1 : Int32) (x2 : Int32) (x3 : Int32) (x4 : Int32) (x5 : Int32) (σ : x_S) : Option x_S :=
  x_fx (α := Int32 → x_S → Option x_S) (fun _ _ => none) (fun K => fun x5 σ => gX6_offer_3  x1 x2 x3 x4 K x5 σ) x_F x5 σ
def fX6_offer (a1 : Int32) (a2 : Int32) (a3 : Int32) (a4 : Int32) (σ : x_S) : Option x_S :=
  bX6_offer_3 a1 a2 a3 a4 a2 σ
def gX6_fill_70 (K33 : Int32 → x_S → Option x_S) (c1 : Nat) (x2 : Int32) (x3 : Int32) (x5 : Int32) (x6 : Int32) (K70 : Int32 → x_S → Option x_S) (x7 : Int32) (σ : x_S) : Option x_S :=
  if (σ c1 5) ≤ x7 then (K33 (x6 + (-1)) σ) else (x_p (fX2_tells c1 x7 x2 x6 σ) (fun r3 => if r3 = 0 then (K70 (x7 + 1) σ) else (x_p (fX2_owes c1 x7 x6 σ) (fun r6 => x_g (x_in x7 6) (x_v (fX6_offer r6 (σ (c1 + 6) x7.toNatClampNeg) x6 x5 σ) (fun σ9 => K70 (x7 + 1) σ9))))))
def bX6_fill_70 (K33 : Int32 → x_S → Option x_S) (c1 : Nat) (x2 : Int32) (x3 : Int32) (x5 : Int32) (x6 : Int32) (x7 : Int32) (σ : x_S) : Option x_S :=
  x_fx (α := Int32 → x_S → Option x_S) (fun _ _ => none) (fun K => fun x7 σ => gX6_fill_70 K33 c1 x2 x3 x5 x6 K x7 σ) x_F x7 σ
def gX6_fill_42 (K33 : Int32 → x_S → Option x_S) (c1 : Nat) (x2 : Int32) (x3 : Int32) (x5 : Int32) (x6 : Int32) (K42 : Int32 → x_S → Option x_S) (x7 : Int32) (σ : x_S) : Option x_S :=
  if x5 < x7 then (bX6_fill_70 K33 c1 x2 x3 x5 x6 0 σ) else (x_g (x_in x6 8) (x_g (x_in x7 100) (x_w (x_u σ (22 + x6.toNatClampNeg) x7.toNatClampNeg 1000000) (fun σ4 => K42 (x7 + 1) σ4))))
def bX6_fill_42 (K33 : Int32 → x_S → Option x_S) (c1 : Nat) (x2 : Int32) (x3 : Int32) (x5 : Int32) (x6 : Int32) (x7 : Int32) (σ : x_S) : Option x_S :=
  x_fx (α := Int32 → x_S → Option x_S) (fun _ _ => none) (fun K => fun x7 σ => gX6_fill_42 K33 c1 x2 x3 x5 x6 K x7 σ) x_F x7 σ
def gX6_fill_33 (c1 : Nat) (x2 : Int32) (x3 : Int32) (x5 : Int32) (K33 : Int32 → x_S → Option x_S) (x6 : Int32) (σ : x_S) : Option x_S :=
  if x6 < x3 then (some σ) else (bX6_fill_42 K33 c1 x2 x3 x5 x6 0 σ)
def bX6_fill_33 (c1 : Nat) (x2 : Int32) (x3 : Int32) (x5 : Int32) (x6 : Int32) (σ : x_S) : Option x_S :=
  x_fx (α := Int32 → x_S → Option x_S) (fun _ _ => none) (fun K => fun x6 σ => gX6_fill_33  c1 x2 x3 x5 K x6 σ) x_F x6 σ
def gX6_fill_3 (c1 : Nat) (x2 : Int32) (x3 : Int32) (x4 : Int32) (x5 : Int32) (K3 : Int32 → x_S → Option x_S) (x6 : Int32) (σ : x_S) : Option x_S :=
  if x5 < x6 then (bX6_fill_33 c1 x2 x3 x5 x4 σ) else (x_g (x_in (x4 + 1) 8) (x_g (x_in x6 100) (x_w (x_u σ (22 + (x4 + 1).toNatClampNeg) x6.toNatClampNeg 0) (fun σ4 => K3 (x6 + 1) σ4))))
def bX6_fill_3 (c1 : Nat) (x2 : Int32) (x3 : Int32) (x4 : Int32) (x5 : Int32) (x6 : Int32) (σ : x_S) : Option x_S :=
  x_fx (α := Int32 → x_S → Option x_S) (fun _ _ => none) (fun K => fun x6 σ => gX6_fill_3  c1 x2 x3 x4 x5 K x6 σ) x_F x6 σ
def fX6_fill (c1 : Nat) (a2 : Int32) (a3 : Int32) (a4 : Int32) (a5 : Int32) (σ : x_S) : Option x_S :=
  bX6_fill_3 c1 a2 a3 a4 a5 0 σ
def fX6_leastDuty (c1 : Nat) (a2 : Int32) (a3 : Int32) (a4 : Int32) (a5 : Int32) (σ : x_S) : Option (Int32 × x_S) :=
  x_v (fX6_fill c1 a2 a3 a4 a5 σ) (fun σ2 => x_g (x_in a3 8) (x_g (x_in a5 100) (if 1000000 ≤ (σ2 (22 + a3.toNatClampNeg) a5.toNatClampNeg) then (some ((-1000000), σ2)) else (x_g (x_in a3 8) (x_g (x_in a5 100) (some ((σ2 (22 + a3.toNatClampNeg) a5.toNatClampNeg), σ2)))))))
def gX6_firstOfCheapest_3 (c1 : Nat) (x2 : Int32) (x3 : Int32) (x4 : Int32) (K3 : Int32 → Option Int32) (x5 : Int32) (σ : x_S) : Option Int32 :=
  if (σ c1 5) ≤ x5 then (some (-1000000)) else (x_g (x_in x5 6) (if (x4 - (σ (c1 + 6) x5.toNatClampNeg)) < 0 then (K3 (x5 + 1)) else (x_p (fX2_tells c1 x5 x2 x3 σ) (fun r5 => if r5 = 0 then (K3 (x5 + 1)) else (x_p (fX2_owes c1 x5 x3 σ) (fun r8 => x_g (x_in (x3 + 1) 8) (x_g (x_in (x4 - (σ (c1 + 6) x5.toNatClampNeg)) 100) (x_g (x_in x3 8) (x_g (x_in x4 100) (if (r8 + (σ (22 + (x3 + 1).toNatClampNeg) (x4 - (σ (c1 + 6) x5.toNatClampNeg)).toNatClampNeg)) = (σ (22 + x3.toNatClampNeg) x4.toNatClampNeg) then (some x5) else (K3 (x5 + 1))))))))))))
def bX6_firstOfCheapest_3 (c1 : Nat) (x2 : Int32) (x3 : Int32) (x4 : Int32) (x5 : Int32) (σ : x_S) : Option Int32 :=
  x_fx (α := Int32 → Option Int32) (fun _ => none) (fun K => fun x5 => gX6_firstOfCheapest_3  c1 x2 x3 x4 K x5 σ) x_F x5
def fX6_firstOfCheapest (c1 : Nat) (a2 : Int32) (a3 : Int32) (a4 : Int32) (σ : x_S) : Option Int32 :=
  bX6_firstOfCheapest_3 c1 a2 a3 a4 0 σ
def gX6_gestureOfCheapest_48 (c1 : Nat) (x2 : Int32) (x3 : Int32) (x6 : Int32) (K48 : Int32 → Int32 → Int32 → x_S → Option (Int32 × x_S)) (x7 : Int32) (x8 : Int32) (x9 : Int32) (σ : x_S) : Option (Int32 × x_S) :=
  if (x3 + x6) < x9 then (some (x8, σ)) else (x_p (fX6_firstOfCheapest c1 x2 x9 x7 σ) (fun r3 => if r3 = (-1000000) then (some ((-1000000), σ)) else (x_g (x_in r3 6) (K48 (x7 - (σ (c1 + 6) r3.toNatClampNeg)) r3 (x9 + 1) σ))))
def bX6_gestureOfCheapest_48 (c1 : Nat) (x2 : Int32) (x3 : Int32) (x6 : Int32) (x7 : Int32) (x8 : Int32) (x9 : Int32) (σ : x_S) : Option (Int32 × x_S) :=
  x_fx (α := Int32 → Int32 → Int32 → x_S → Option (Int32 × x_S)) (fun _ _ _ _ => none) (fun K => fun x7 x8 x9 σ => gX6_gestureOfCheapest_48  c1 x2 x3 x6 K x7 x8 x9 σ) x_F x7 x8 x9 σ
def fX6_gestureOfCheapest (c1 : Nat) (a2 : Int32) (a3 : Int32) (a4 : Int32) (a5 : Int32) (a6 : Int32) (σ : x_S) : Option (Int32 × x_S) :=
  x_v (fX6_fill c1 a2 a3 a4 a5 σ) (fun σ2 => if (a4 - a3) < a6 then (some ((-1000000), σ2)) else (x_g (x_in a3 8) (x_g (x_in a5 100) (if (σ2 (22 + a3.toNatClampNeg) a5.toNatClampNeg) < 1000000 then (bX6_gestureOfCheapest_48 c1 a2 a3 a6 a5 (-1000000) a3 σ2) else (some ((-1000000), σ2))))))
def fX7_tell (a1 : Int32) (a2 : Int32) (a3 : Int32) (a4 : Int32) (a5 : Int32) (σ : x_S) : Option (Int32 × x_S) :=
  x_p (fX7_isMeaning a1 σ) (fun r2 => if r2 = 0 then (some ((-1000001), σ)) else (x_p (fX7_isStretch a2 a3 σ) (fun r5 => if r5 = 0 then (some ((-1000001), σ)) else (x_p (fX7_isWithin a4 0 99 σ) (fun r8 => if r8 = 0 then (some ((-1000001), σ)) else (x_p (fX7_isWithin a5 (-1) 6 σ) (fun r11 => if r11 = 0 then (some ((-1000001), σ)) else (if 0 ≤ a5 then (x_b (fX6_gestureOfCheapest 32 a1 a2 a3 a4 a5 σ) (fun r15 σ16 => some (r15, σ16))) else (x_b (fX6_leastDuty 32 a1 a2 a3 a4 σ) (fun r18 σ19 => some (r18, σ19)))))))))))
def bX2_leastTime_43 (K6 : Int32 → Int32 → Option Int32) (c0 : Nat) (x1 : Int32) (x2 : Int32) (x4 : Int32) (σ : x_S) : Option Int32 :=
  x_g (x_in x4 6) (K6 (σ (c0 + 6) x4.toNatClampNeg) (x4 + 1))
def gX2_leastTime_6 (c0 : Nat) (x1 : Int32) (x2 : Int32) (K6 : Int32 → Int32 → Option Int32) (x3 : Int32) (x4 : Int32) (σ : x_S) : Option Int32 :=
  if (σ c0 5) ≤ x4 then (some x3) else (x_p (fX2_tells c0 x4 x1 x2 σ) (fun r3 => if r3 = 0 then (K6 x3 (x4 + 1)) else (if x3 = (-1000000) then (bX2_leastTime_43 K6 c0 x1 x2 x4 σ) else (x_g (x_in x4 6) (if x3 ≤ (σ (c0 + 6) x4.toNatClampNeg) then (K6 x3 (x4 + 1)) else (bX2_leastTime_43 K6 c0 x1 x2 x4 σ))))))
def bX2_leastTime_6 (c0 : Nat) (x1 : Int32) (x2 : Int32) (x3 : Int32) (x4 : Int32) (σ : x_S) : Option Int32 :=
  x_fx (α := Int32 → Int32 → Option Int32) (fun _ _ => none) (fun K => fun x3 x4 => gX2_leastTime_6  c0 x1 x2 K x3 x4 σ) x_F x3 x4
def fX2_leastTime (c0 : Nat) (a1 : Int32) (a2 : Int32) (σ : x_S) : Option Int32 :=
  bX2_leastTime_6 c0 a1 a2 (-1000000) 0 σ
def gX2_streetsWithout_4 (c0 : Nat) (x1 : Int32) (K4 : Int32 → Int32 → Option Int32) (x2 : Int32) (x3 : Int32) (σ : x_S) : Option Int32 :=
  if (σ c0 3) ≤ x3 then (some x2) else (x_p (fX2_leastTime c0 x1 x3 σ) (fun r3 => if r3 = (-1000000) then (K4 (x2 ||| (1 <<< (x3 &&& 31))) (x3 + 1)) else (K4 (x2 ||| 0) (x3 + 1))))
def bX2_streetsWithout_4 (c0 : Nat) (x1 : Int32) (x2 : Int32) (x3 : Int32) (σ : x_S) : Option Int32 :=
  x_fx (α := Int32 → Int32 → Option Int32) (fun _ _ => none) (fun K => fun x2 x3 => gX2_streetsWithout_4  c0 x1 K x2 x3 σ) x_F x2 x3
def fX2_streetsWithout (c0 : Nat) (a1 : Int32) (σ : x_S) : Option Int32 :=
  bX2_streetsWithout_4 c0 a1 0 0 σ
def fX7_shut (a1 : Int32) (σ : x_S) : Option Int32 :=
  if (σ 32 0) = 0 then (some (-1000002)) else (x_p (fX7_isMeaning a1 σ) (fun r3 => if r3 = 0 then (some (-1000001)) else (x_p (fX2_streetsWithout 32 a1 σ) (fun r6 => some r6))))
def gX7_quick_25 (x1 : Int32) (x3 : Int32) (K25 : Int32 → Int32 → Option Int32) (x4 : Int32) (x5 : Int32) (σ : x_S) : Option Int32 :=
  if x3 < x5 then (some x4) else (x_p (fX2_leastTime 32 x1 x5 σ) (fun r3 => if r3 = (-1000000) then (some (-1000000)) else (K25 (x4 + r3) (x5 + 1))))
def bX7_quick_25 (x1 : Int32) (x3 : Int32) (x4 : Int32) (x5 : Int32) (σ : x_S) : Option Int32 :=
  x_fx (α := Int32 → Int32 → Option Int32) (fun _ _ => none) (fun K => fun x4 x5 => gX7_quick_25  x1 x3 K x4 x5 σ) x_F x4 x5
def fX7_quick (a1 : Int32) (a2 : Int32) (a3 : Int32) (σ : x_S) : Option Int32 :=
  x_p (fX7_isMeaning a1 σ) (fun r2 => if r2 = 0 then (some (-1000001)) else (x_p (fX7_isStretch a2 a3 σ) (fun r5 => if r5 = 0 then (some (-1000001)) else (bX7_quick_25 a1 a3 0 a2 σ))))
def fX5_at (a1 : Int32) (a2 : Int32) (σ : x_S) : Option Int32 :=
  x_g (x_in a1 8) (x_g (x_in a2 40) (some (σ (3 + a1.toNatClampNeg) a2.toNatClampNeg)))
def gX7_refusalOfThread_49 (x1 : Int32) (x2 : Int32) (x3 : Int32) (K49 : Int32 → x_S → Option (Int32 × x_S)) (x5 : Int32) (σ : x_S) : Option (Int32 × x_S) :=
  if x3 ≤ x5 then (some (0, σ)) else (x_p (fX5_at x1 (x2 + (2 * x5)) σ) (fun r3 => x_p (fX7_isStreet r3 σ) (fun r5 => if r5 = 0 then (some ((-1000001), σ)) else (K49 (x5 + 1) σ))))
def bX7_refusalOfThread_49 (x1 : Int32) (x2 : Int32) (x3 : Int32) (x5 : Int32) (σ : x_S) : Option (Int32 × x_S) :=
  x_fx (α := Int32 → x_S → Option (Int32 × x_S)) (fun _ _ => none) (fun K => fun x5 σ => gX7_refusalOfThread_49  x1 x2 x3 K x5 σ) x_F x5 σ
def fX7_refusalOfThread (a1 : Int32) (a2 : Int32) (a3 : Int32) (σ : x_S) : Option (Int32 × x_S) :=
  x_p (fX5_isRow a1 σ) (fun r2 => if r2 = 0 then (some ((-1000001), σ)) else (x_p (fX7_isWithin a3 1 12 σ) (fun r5 => if r5 = 0 then (some ((-1000001), σ)) else (x_p (fX5_findingOf a1 a2 (2 * a3) σ) (fun r8 => if r8 = 0 then (bX7_refusalOfThread_49 a1 a2 a3 0 σ) else (x_b (fX7_found r8 σ) (fun r11 σ12 => some (r11, σ12))))))))
def gX7_owesAlong_3 (x1 : Int32) (x2 : Int32) (x3 : Int32) (x4 : Int32) (x5 : Int32) (K3 : Int32 → Option Int32) (x6 : Int32) (σ : x_S) : Option Int32 :=
  if x5 ≤ x6 then (some 1) else (x_p (fX5_at x3 (x4 + (2 * x6)) σ) (fun r3 => x_p (fX5_at x3 ((x4 + (2 * x6)) + 1) σ) (fun r5 => x_p (fX7_isStreet r3 σ) (fun r7 => if r7 = 0 then (some 0) else (x_p (fX2_owesSuch 32 x1 x2 r3 σ) (fun r10 => if r10 = r5 then (K3 (x6 + 1)) else (some 0)))))))
def bX7_owesAlong_3 (x1 : Int32) (x2 : Int32) (x3 : Int32) (x4 : Int32) (x5 : Int32) (x6 : Int32) (σ : x_S) : Option Int32 :=
  x_fx (α := Int32 → Option Int32) (fun _ => none) (fun K => fun x6 => gX7_owesAlong_3  x1 x2 x3 x4 x5 K x6 σ) x_F x6
def fX7_owesAlong (a1 : Int32) (a2 : Int32) (a3 : Int32) (a4 : Int32) (a5 : Int32) (σ : x_S) : Option Int32 :=
  bX7_owesAlong_3 a1 a2 a3 a4 a5 0 σ
def gX7_isSeenAlong_3 (x1 : Int32) (x2 : Int32) (x3 : Int32) (x4 : Int32) (K3 : Int32 → Option Int32) (x5 : Int32) (σ : x_S) : Option Int32 :=
  if x4 ≤ x5 then (some 1) else (x_p (fX5_at x2 (x3 + (2 * x5)) σ) (fun r3 => x_p (fX7_isStreet r3 σ) (fun r5 => if r5 = 0 then (some 0) else (x_p (fX2_isSeen 32 x1 r3 σ) (fun r8 => if r8 = 0 then (some 0) else (K3 (x5 + 1)))))))
def bX7_isSeenAlong_3 (x1 : Int32) (x2 : Int32) (x3 : Int32) (x4 : Int32) (x5 : Int32) (σ : x_S) : Option Int32 :=
  x_fx (α := Int32 → Option Int32) (fun _ => none) (fun K => fun x5 => gX7_isSeenAlong_3  x1 x2 x3 x4 K x5 σ) x_F x5
def fX7_isSeenAlong (a1 : Int32) (a2 : Int32) (a3 : Int32) (a4 : Int32) (σ : x_S) : Option Int32 :=
  bX7_isSeenAlong_3 a1 a2 a3 a4 0 σ
def gX7_thread_36 (x1 : Int32) (x2 : Int32) (x3 : Int32) (K36 : Int32 → Int32 → x_S → Option (Int32 × x_S)) (x5 : Int32) (x6 : Int32) (σ : x_S) : Option (Int32 × x_S) :=
  if (σ 32 5) ≤ x6 then (x_b (fX7_foundNothing x5 σ) (fun r3 σ4 => some (r3, σ4))) else (x_g (x_in x6 6) (x_g (x_in x6 6) (x_p (fX7_owesAlong (σ 35 x6.toNatClampNeg) (σ 36 x6.toNatClampNeg) x1 x2 x3 σ) (fun r8 => if r8 = 0 then (K36 x5 (x6 + 1) σ) else (x_p (fX7_isSeenAlong x6 x1 x2 x3 σ) (fun r11 => if r11 = 0 then (K36 x5 (x6 + 1) σ) else (K36 (x5 ||| (1 <<< (x6 &&& 31))) (x6 + 1) σ)))))))
def bX7_thread_36 (x1 : Int32) (x2 : Int32) (x3 : Int32) (x5 : Int32) (x6 : Int32) (σ : x_S) : Option (Int32 × x_S) :=
  x_fx (α := Int32 → Int32 → x_S → Option (Int32 × x_S)) (fun _ _ _ => none) (fun K => fun x5 x6 σ => gX7_thread_36  x1 x2 x3 K x5 x6 σ) x_F x5 x6 σ
def fX7_thread (a1 : Int32) (a2 : Int32) (a3 : Int32) (σ : x_S) : Option (Int32 × x_S) :=
  if (σ 32 0) = 0 then (some ((-1000002), σ)) else (x_b (fX7_refusalOfThread a1 a2 a3 σ) (fun r3 σ4 => if r3 = 0 then (bX7_thread_36 a1 a2 a3 0 0 σ4) else (some (r3, σ4))))
def gX7_inches_37 (x1 : Int32) (x2 : Int32) (x3 : Int32) (x4 : Int32) (K37 : Int32 → Int32 → x_S → Option (Int32 × x_S)) (x6 : Int32) (x7 : Int32) (σ : x_S) : Option (Int32 × x_S) :=
  if 30 < x7 then (x_b (fX7_foundNothing x6 σ) (fun r3 σ4 => some (r3, σ4))) else (x_g (x_in x1 6) (x_p (fX7_owesAlong (σ 35 x1.toNatClampNeg) x7 x2 x3 x4 σ) (fun r7 => if r7 = 0 then (K37 x6 (x7 + 1) σ) else (K37 (x6 ||| (1 <<< ((x7 - 1) &&& 31))) (x7 + 1) σ))))
def bX7_inches_37 (x1 : Int32) (x2 : Int32) (x3 : Int32) (x4 : Int32) (x6 : Int32) (x7 : Int32) (σ : x_S) : Option (Int32 × x_S) :=
  x_fx (α := Int32 → Int32 → x_S → Option (Int32 × x_S)) (fun _ _ _ => none) (fun K => fun x6 x7 σ => gX7_inches_37  x1 x2 x3 x4 K x6 x7 σ) x_F x6 x7 σ
def bX7_inches_21 (x1 : Int32) (x2 : Int32) (x3 : Int32) (x4 : Int32) (y0 : Int32) (σ : x_S) : Option (Int32 × x_S) :=
  if y0 = 0 then (bX7_inches_37 x1 x2 x3 x4 0 1 σ) else (some (y0, σ))
def fX7_inches (a1 : Int32) (a2 : Int32) (a3 : Int32) (a4 : Int32) (σ : x_S) : Option (Int32 × x_S) :=
  x_p (fX7_isGesture a1 σ) (fun r2 => if r2 = 0 then (bX7_inches_21 a1 a2 a3 a4 (-1000001) σ) else (x_b (fX7_refusalOfThread a2 a3 a4 σ) (fun r5 σ6 => bX7_inches_21 a1 a2 a3 a4 r5 σ6)))
def gX7_sorts_37 (x1 : Int32) (x2 : Int32) (x3 : Int32) (x4 : Int32) (K37 : Int32 → Int32 → x_S → Option (Int32 × x_S)) (x6 : Int32) (x7 : Int32) (σ : x_S) : Option (Int32 × x_S) :=
  if 5 < x7 then (x_b (fX7_foundNothing x6 σ) (fun r3 σ4 => some (r3, σ4))) else (x_g (x_in x1 6) (x_p (fX7_owesAlong x7 (σ 36 x1.toNatClampNeg) x2 x3 x4 σ) (fun r7 => if r7 = 0 then (K37 x6 (x7 + 1) σ) else (K37 (x6 ||| (1 <<< (x7 &&& 31))) (x7 + 1) σ))))
def bX7_sorts_37 (x1 : Int32) (x2 : Int32) (x3 : Int32) (x4 : Int32) (x6 : Int32) (x7 : Int32) (σ : x_S) : Option (Int32 × x_S) :=
  x_fx (α := Int32 → Int32 → x_S → Option (Int32 × x_S)) (fun _ _ _ => none) (fun K => fun x6 x7 σ => gX7_sorts_37  x1 x2 x3 x4 K x6 x7 σ) x_F x6 x7 σ
def bX7_sorts_21 (x1 : Int32) (x2 : Int32) (x3 : Int32) (x4 : Int32) (y0 : Int32) (σ : x_S) : Option (Int32 × x_S) :=
  if y0 = 0 then (bX7_sorts_37 x1 x2 x3 x4 0 1 σ) else (some (y0, σ))
def fX7_sorts (a1 : Int32) (a2 : Int32) (a3 : Int32) (a4 : Int32) (σ : x_S) : Option (Int32 × x_S) :=
  x_p (fX7_isGesture a1 σ) (fun r2 => if r2 = 0 then (bX7_sorts_21 a1 a2 a3 a4 (-1000001) σ) else (x_b (fX7_refusalOfThread a2 a3 a4 σ) (fun r5 σ6 => bX7_sorts_21 a1 a2 a3 a4 r5 σ6)))
def fX2_owesIfKnown (c0 : Nat) (a1 : Int32) (a2 : Int32) (σ : x_S) : Option Int32 :=
  x_g (x_in a1 6) (x_g (x_in a1 6) (x_p (fX2_owesUnknown c0 (σ (c0 + 3) a1.toNatClampNeg) (σ (c0 + 4) a1.toNatClampNeg) a2 σ) (fun r4 => some (r4 / 2))))
def gX7_saved_15 (x1 : Int32) (K15 : Int32 → Int32 → Option Int32) (x2 : Int32) (x3 : Int32) (σ : x_S) : Option Int32 :=
  if (σ 32 3) ≤ x3 then (some x2) else (x_p (fX2_owes 32 x1 x3 σ) (fun r3 => x_p (fX2_owesIfKnown 32 x1 x3 σ) (fun r5 => K15 (x2 + (r3 - r5)) (x3 + 1))))
def bX7_saved_15 (x1 : Int32) (x2 : Int32) (x3 : Int32) (σ : x_S) : Option Int32 :=
  x_fx (α := Int32 → Int32 → Option Int32) (fun _ _ => none) (fun K => fun x2 x3 => gX7_saved_15  x1 K x2 x3 σ) x_F x2 x3
def fX7_saved (a1 : Int32) (σ : x_S) : Option Int32 :=
  x_p (fX7_isGesture a1 σ) (fun r2 => if r2 = 0 then (some (-1000001)) else (bX7_saved_15 a1 0 0 σ))
def gX2_dearestStreet_4 (c0 : Nat) (x1 : Int32) (K4 : Int32 → Int32 → Option Int32) (x2 : Int32) (x3 : Int32) (σ : x_S) : Option Int32 :=
  if (σ c0 3) ≤ x3 then (some x2) else (x_p (fX2_owes c0 x1 x3 σ) (fun r3 => x_p (fX2_owes c0 x1 x2 σ) (fun r5 => if r3 ≤ r5 then (K4 x2 (x3 + 1)) else (K4 x3 (x3 + 1)))))
def bX2_dearestStreet_4 (c0 : Nat) (x1 : Int32) (x2 : Int32) (x3 : Int32) (σ : x_S) : Option Int32 :=
  x_fx (α := Int32 → Int32 → Option Int32) (fun _ _ => none) (fun K => fun x2 x3 => gX2_dearestStreet_4  c0 x1 K x2 x3 σ) x_F x2 x3
def fX2_dearestStreet (c0 : Nat) (a1 : Int32) (σ : x_S) : Option Int32 :=
  bX2_dearestStreet_4 c0 a1 0 1 σ
def fX7_worst (a1 : Int32) (a2 : Int32) (σ : x_S) : Option Int32 :=
  x_p (fX7_isGesture a1 σ) (fun r2 => if r2 = 0 then (some (-1000001)) else (x_p (fX7_isWithin a2 0 1 σ) (fun r5 => if r5 = 0 then (some (-1000001)) else (if (σ 32 3) = 0 then (some (-1000000)) else (x_p (fX2_dearestStreet 32 a1 σ) (fun r9 => if a2 = 0 then (some r9) else (x_p (fX2_owes 32 a1 r9 σ) (fun r12 => some r12))))))))
def hX7_tenthsWithin (rec : Nat → Int32 → Int32 → Int32 → Int32 → Int32 → x_S → Option Int32) (c0 : Nat) (a1 : Int32) (a2 : Int32) (a3 : Int32) (a4 : Int32) (a5 : Int32) (σ : x_S) : Option Int32 :=
  if 0 ≤ a4 then (if a3 < a2 then (some 1) else (if a2 < 0 then (some 1) else (if a2 < 7 then (x_g (x_in a1 6) (x_g (x_in a1 6) (x_p (fX2_owesSuch c0 (σ (c0 + 3) a1.toNatClampNeg) (σ (c0 + 4) a1.toNatClampNeg) a2 σ) (fun r8 => x_p (fX2_owesSuch c0 (σ (c0 + 3) a1.toNatClampNeg) ((σ (c0 + 4) a1.toNatClampNeg) + 1) a2 σ) (fun r10 => x_p (rec c0 a1 (a2 + 1) a3 (a4 - r8) a5 σ) (fun r12 => x_p (rec c0 a1 (a2 + 1) a3 (a4 - r10) a5 σ) (fun r14 => some (((10 - a5) * r12) + (a5 * r14))))))))) else (some 1)))) else (some 0)
def fX7_tenthsWithin_n (n : Nat) : Nat → Int32 → Int32 → Int32 → Int32 → Int32 → x_S → Option Int32 :=
  x_fx (α := Nat → Int32 → Int32 → Int32 → Int32 → Int32 → x_S → Option Int32) (fun _ _ _ _ _ _ _ => none) (fun rec => fun c0 a1 a2 a3 a4 a5 σ => hX7_tenthsWithin rec c0 a1 a2 a3 a4 a5 σ) n
def fX7_tenthsWithin (c0 : Nat) (a1 : Int32) (a2 : Int32) (a3 : Int32) (a4 : Int32) (a5 : Int32) (σ : x_S) : Option Int32 := fX7_tenthsWithin_n 12 c0 a1 a2 a3 a4 a5 σ
def gX7_commonDivisor_7 (K7 : Int32 → Int32 → Int32 → Option Int32) (x2 : Int32) (x3 : Int32) (x4 : Int32) (σ : x_S) : Option Int32 :=
  if 100 ≤ x4 then (some x2) else (if x3 = 0 then (some x2) else (x_g (¬ x3 = 0) (K7 x3 (x2 - x2 / x3 * x3) (x4 + 1))))
def bX7_commonDivisor_7 (x2 : Int32) (x3 : Int32) (x4 : Int32) (σ : x_S) : Option Int32 :=
  x_fx (α := Int32 → Int32 → Int32 → Option Int32) (fun _ _ _ => none) (fun K => fun x2 x3 x4 => gX7_commonDivisor_7   K x2 x3 x4 σ) x_F x2 x3 x4
def fX7_commonDivisor (a0 : Int32) (a1 : Int32) (σ : x_S) : Option Int32 :=
  bX7_commonDivisor_7 a0 a1 0 σ
def gX7_tremble_78 (x3 : Int32) (x6 : Int32) (x7 : Int32) (K78 : Int32 → Int32 → Option Int32) (x8 : Int32) (x9 : Int32) (σ : x_S) : Option Int32 :=
  if x3 < x9 then (x_p (fX7_commonDivisor x7 x8 σ) (fun r3 => if x6 = 0 then (x_g (¬ (if 1 < r3 then r3 else 1) = 0) (some (x7 / (if 1 < r3 then r3 else 1)))) else (x_g (¬ (if 1 < r3 then r3 else 1) = 0) (some (x8 / (if 1 < r3 then r3 else 1)))))) else (K78 (x8 * 10) (x9 + 1))
def bX7_tremble_78 (x3 : Int32) (x6 : Int32) (x7 : Int32) (x8 : Int32) (x9 : Int32) (σ : x_S) : Option Int32 :=
  x_fx (α := Int32 → Int32 → Option Int32) (fun _ _ => none) (fun K => fun x8 x9 => gX7_tremble_78  x3 x6 x7 K x8 x9 σ) x_F x8 x9
def fX7_tremble (a1 : Int32) (a2 : Int32) (a3 : Int32) (a4 : Int32) (a5 : Int32) (a6 : Int32) (σ : x_S) : Option Int32 :=
  x_p (fX7_isGesture a1 σ) (fun r2 => if r2 = 0 then (some (-1000001)) else (x_p (fX7_isStretch a2 a3 σ) (fun r5 => if r5 = 0 then (some (-1000001)) else (x_p (fX7_isWithin a4 0 9999 σ) (fun r8 => if r8 = 0 then (some (-1000001)) else (x_p (fX7_isWithin a5 0 10 σ) (fun r11 => if r11 = 0 then (some (-1000001)) else (x_p (fX7_isWithin a6 0 1 σ) (fun r14 => if r14 = 0 then (some (-1000001)) else (x_p (fX7_tenthsWithin 32 a1 a2 a3 a4 a5 σ) (fun r17 => bX7_tremble_78 a3 a6 r17 1 a2 σ)))))))))))
def fX7_image (a1 : Int32) (σ : x_S) : Option (Int32 × x_S) :=
  x_p (fX7_isWithin a1 0 1 σ) (fun r2 => if r2 = 0 then (some ((-1000001), σ)) else (if (σ 32 0) = 0 then (some ((-1000002), σ)) else (x_g (x_in a1 2) (x_v (fX2_become (48 + 8 * a1.toNatClampNeg) 32 σ) (fun σ7 => some (1, σ7))))))
def fX7_restore (a1 : Int32) (σ : x_S) : Option (Int32 × x_S) :=
  x_p (fX7_isWithin a1 0 1 σ) (fun r2 => if r2 = 0 then (some ((-1000001), σ)) else (x_g (x_in a1 2) (if (σ (48 + 8 * a1.toNatClampNeg) 0) = 0 then (some ((-1000002), σ)) else (x_g (x_in a1 2) (x_v (fX2_become 32 (48 + 8 * a1.toNatClampNeg) σ) (fun σ8 => x_v (fX0_forgetAll σ8) (fun σ10 => some (1, σ10))))))))
def fX7_kind (a1 : Int32) (σ : x_S) : Option Int32 :=
  x_p (fX7_isGesture a1 σ) (fun r2 => if r2 = 0 then (some (-1000001)) else (x_g (x_in a1 6) (some (σ 35 a1.toNatClampNeg))))
def fX3_widerThan (a0 : Int32) (σ : x_S) : Option Int32 :=
  if a0 < 0 then (some 0) else (if 6 ≤ a0 then (some 0) else (x_g (x_in a0 6) (some (s_t 0 a0.toNatClampNeg))))
def bX3_isOneOf_28 (x1 : Int32) (x2 : Int32) (σ : x_S) : Option Int32 :=
  if x2 = x1 then (some 1) else (some 0)
def gX3_isOneOf_4 (x1 : Int32) (K4 : Int32 → Int32 → Option Int32) (x2 : Int32) (x3 : Int32) (σ : x_S) : Option Int32 :=
  if 6 ≤ x3 then (bX3_isOneOf_28 x1 x2 σ) else (if x2 = x1 then (bX3_isOneOf_28 x1 x2 σ) else (x_p (fX3_widerThan x2 σ) (fun r4 => K4 r4 (x3 + 1))))
def bX3_isOneOf_4 (x1 : Int32) (x2 : Int32) (x3 : Int32) (σ : x_S) : Option Int32 :=
  x_fx (α := Int32 → Int32 → Option Int32) (fun _ _ => none) (fun K => fun x2 x3 => gX3_isOneOf_4  x1 K x2 x3 σ) x_F x2 x3
def fX3_isOneOf (a0 : Int32) (a1 : Int32) (σ : x_S) : Option Int32 :=
  bX3_isOneOf_4 a1 a0 0 σ
def fX7_as (a1 : Int32) (a2 : Int32) (σ : x_S) : Option (Int32 × x_S) :=
  x_p (fX7_isGesture a1 σ) (fun r2 => if r2 = 0 then (some ((-1000001), σ)) else (x_p (fX7_isWithin a2 0 5 σ) (fun r5 => if r5 = 0 then (some ((-1000001), σ)) else (x_g (x_in a1 6) (x_p (fX3_isOneOf (σ 35 a1.toNatClampNeg) a2 σ) (fun r9 => if r9 = 0 then (x_b (fX7_found 3 σ) (fun r12 σ13 => some (r12, σ13))) else (x_b (fX7_foundNothing a1 σ) (fun r15 σ16 => some (r15, σ16)))))))))
def bX1_bodyFor_30 (K4 : Int32 → Int32 → Option Int32) (b0 : Nat) (x2 : Int32) (x3 : Int32) (σ : x_S) : Option Int32 :=
  x_p (fX3_widerThan x2 σ) (fun r2 => K4 r2 (x3 + 1))
def gX1_bodyFor_4 (b0 : Nat) (K4 : Int32 → Int32 → Option Int32) (x2 : Int32) (x3 : Int32) (σ : x_S) : Option Int32 :=
  if 6 ≤ x3 then (some 0) else (if x2 < 0 then (bX1_bodyFor_30 K4 b0 x2 x3 σ) else (if 6 ≤ x2 then (bX1_bodyFor_30 K4 b0 x2 x3 σ) else (x_g (x_in x2 6) (if (s_t b0 x2.toNatClampNeg) = 0 then (bX1_bodyFor_30 K4 b0 x2 x3 σ) else (x_g (x_in x2 6) (some (s_t b0 x2.toNatClampNeg)))))))
def bX1_bodyFor_4 (b0 : Nat) (x2 : Int32) (x3 : Int32) (σ : x_S) : Option Int32 :=
  x_fx (α := Int32 → Int32 → Option Int32) (fun _ _ => none) (fun K => fun x2 x3 => gX1_bodyFor_4  b0 K x2 x3 σ) x_F x2 x3
def fX1_bodyFor (b0 : Nat) (a1 : Int32) (σ : x_S) : Option Int32 :=
  bX1_bodyFor_4 b0 a1 0 σ
def bX1_asked_13 (rec : Int32 → Nat → Int32 → Int32 → x_S → Option (Int32 × x_S)) (c1 : Nat) (x2 : Int32) (x4 : Int32) (yb0 : Nat) (σ : x_S) : Option (Int32 × x_S) :=
  x_g (x_in x2 6) (x_p (fX1_bodyFor yb0 (σ (c1 + 3) x2.toNatClampNeg) σ) (fun r3 => x_b (rec r3 c1 x2 x4 σ) (fun r5 σ6 => some (r5, σ6))))
def fX1_asked (rec : Int32 → Nat → Int32 → Int32 → x_S → Option (Int32 × x_S)) (c1 : Nat) (a2 : Int32) (a3 : Int32) (a4 : Int32) (σ : x_S) : Option (Int32 × x_S) :=
  if a3 = 0 then (bX1_asked_13 rec c1 a2 a4 1 σ) else (bX1_asked_13 rec c1 a2 a4 2 σ)
def fX1_sizeBy (rec : Int32 → Nat → Int32 → Int32 → x_S → Option (Int32 × x_S)) (a1 : Int32) (c2 : Nat) (a3 : Int32) (a4 : Int32) (σ : x_S) : Option (Int32 × x_S) :=
  if a1 = 10 then (x_g (x_in a3 6) (some ((σ (c2 + 6) a3.toNatClampNeg), σ))) else (if a1 = 11 then (x_b (rec 10 c2 a3 a4 σ) (fun r5 σ6 => x_b (fX1_asked rec c2 a3 1 a4 σ6) (fun r8 σ9 => some ((r5 + r8), σ9)))) else (if a1 = 12 then (x_b (rec 11 c2 a3 a4 σ) (fun r12 σ13 => some ((-r12), σ13))) else (if a1 = 13 then (x_b (rec 10 c2 a3 a4 σ) (fun r16 σ17 => some ((r16 - 100), σ17))) else (if a1 = 14 then (x_b (rec 13 c2 a3 a4 σ) (fun r20 σ21 => some ((2 * r20), σ21))) else (some (0, σ))))))
def fX1_markBy (rec : Int32 → Nat → Int32 → Int32 → x_S → Option (Int32 × x_S)) (a1 : Int32) (c2 : Nat) (a3 : Int32) (a4 : Int32) (σ : x_S) : Option (Int32 × x_S) :=
  if a1 = 20 then (some (a3, σ)) else (if a1 = 21 then (x_b (rec 20 c2 a3 a4 σ) (fun r4 σ5 => x_g (x_in a3 6) (some ((r4 + (σ5 (c2 + 4) a3.toNatClampNeg)), σ5)))) else (if a1 = 22 then (x_b (rec 21 c2 a3 a4 σ) (fun r9 σ10 => some ((r9 - 1000), σ10))) else (if a1 = 23 then (x_b (rec 20 c2 a3 a4 σ) (fun r13 σ14 => x_b (fX1_asked rec c2 a3 0 a4 σ14) (fun r16 σ17 => some ((r13 - r16), σ17)))) else (if a1 = 24 then (x_b (rec 21 c2 a3 a4 σ) (fun r20 σ21 => some ((2 * r20), σ21))) else (some (0, σ))))))
def hX1_given (rec : Int32 → Nat → Int32 → Int32 → x_S → Option (Int32 × x_S)) (a1 : Int32) (c2 : Nat) (a3 : Int32) (a4 : Int32) (σ : x_S) : Option (Int32 × x_S) :=
  if a4 < 16 then (x_v (fX1_leave a1 σ) (fun σ3 => if 20 ≤ a1 then (x_b (fX1_markBy rec a1 c2 a3 (a4 + 1) σ3) (fun r6 σ7 => some (r6, σ7))) else (x_b (fX1_sizeBy rec a1 c2 a3 (a4 + 1) σ3) (fun r9 σ10 => some (r9, σ10))))) else (some (0, σ))
def fX1_given_n (n : Nat) : Int32 → Nat → Int32 → Int32 → x_S → Option (Int32 × x_S) :=
  x_fx (α := Int32 → Nat → Int32 → Int32 → x_S → Option (Int32 × x_S)) (fun _ _ _ _ _ => none) (fun rec => fun a1 c2 a3 a4 σ => hX1_given rec a1 c2 a3 a4 σ) n
def fX1_given (a1 : Int32) (c2 : Nat) (a3 : Int32) (a4 : Int32) (σ : x_S) : Option (Int32 × x_S) := fX1_given_n 12 a1 c2 a3 a4 σ
def fX1_answer (c1 : Nat) (a2 : Int32) (a3 : Int32) (σ : x_S) : Option (Int32 × x_S) :=
  x_w (x_u σ 30 1 0) (fun σ1 => x_b (fX1_asked (fX1_given_n 12) c1 a2 a3 0 σ1) (fun r4 σ5 => some (r4, σ5)))
def fX7_ask (a1 : Int32) (a2 : Int32) (σ : x_S) : Option (Int32 × x_S) :=
  x_p (fX7_isGesture a1 σ) (fun r2 => if r2 = 0 then (some ((-1000001), σ)) else (x_p (fX7_isWithin a2 0 1 σ) (fun r5 => if r5 = 0 then (some ((-1000001), σ)) else (x_b (fX1_answer 32 a1 a2 σ) (fun r8 σ9 => some (r8, σ9))))))
def fX1_numberLeft (a1 : Int32) (σ : x_S) : Option Int32 :=
  if a1 < 0 then (some (-1000000)) else (if (σ 30 1) ≤ a1 then (some (-1000000)) else (x_g (x_in a1 16) (some (σ 31 a1.toNatClampNeg))))
def fX7_trace (a1 : Int32) (σ : x_S) : Option Int32 :=
  x_p (fX1_numberLeft a1 σ) (fun r2 => some r2)
def gX5_howMany_4 (K4 : Int32 → Int32 → Option Int32) (x1 : Int32) (x2 : Int32) (σ : x_S) : Option Int32 :=
  if 8 ≤ x2 then (some x1) else (x_p (fX5_isMissing x2 σ) (fun r3 => if r3 = 0 then (K4 (x1 + 1) (x2 + 1)) else (K4 (x1 + 0) (x2 + 1))))
def bX5_howMany_4 (x1 : Int32) (x2 : Int32) (σ : x_S) : Option Int32 :=
  x_fx (α := Int32 → Int32 → Option Int32) (fun _ _ => none) (fun K => fun x1 x2 => gX5_howMany_4   K x1 x2 σ) x_F x1 x2
def fX5_howMany (σ : x_S) : Option Int32 :=
  bX5_howMany_4 0 0 σ
def fJ6_bitCount_0f7a4 (a0 : Int32) (σ : x_S) : Option Int32 :=
  some ((((((((a0 - (((a0.toUInt32 >>> ((1 : Int32).toUInt32 &&& Int32.toUInt32 31)).toInt32) &&& 1431655765)) &&& 858993459) + ((((a0 - (((a0.toUInt32 >>> ((1 : Int32).toUInt32 &&& Int32.toUInt32 31)).toInt32) &&& 1431655765)).toUInt32 >>> ((2 : Int32).toUInt32 &&& Int32.toUInt32 31)).toInt32) &&& 858993459)) + (((((a0 - (((a0.toUInt32 >>> ((1 : Int32).toUInt32 &&& Int32.toUInt32 31)).toInt32) &&& 1431655765)) &&& 858993459) + ((((a0 - (((a0.toUInt32 >>> ((1 : Int32).toUInt32 &&& Int32.toUInt32 31)).toInt32) &&& 1431655765)).toUInt32 >>> ((2 : Int32).toUInt32 &&& Int32.toUInt32 31)).toInt32) &&& 858993459)).toUInt32 >>> ((4 : Int32).toUInt32 &&& Int32.toUInt32 31)).toInt32)) &&& 252645135) + (((((((a0 - (((a0.toUInt32 >>> ((1 : Int32).toUInt32 &&& Int32.toUInt32 31)).toInt32) &&& 1431655765)) &&& 858993459) + ((((a0 - (((a0.toUInt32 >>> ((1 : Int32).toUInt32 &&& Int32.toUInt32 31)).toInt32) &&& 1431655765)).toUInt32 >>> ((2 : Int32).toUInt32 &&& Int32.toUInt32 31)).toInt32) &&& 858993459)) + (((((a0 - (((a0.toUInt32 >>> ((1 : Int32).toUInt32 &&& Int32.toUInt32 31)).toInt32) &&& 1431655765)) &&& 858993459) + ((((a0 - (((a0.toUInt32 >>> ((1 : Int32).toUInt32 &&& Int32.toUInt32 31)).toInt32) &&& 1431655765)).toUInt32 >>> ((2 : Int32).toUInt32 &&& Int32.toUInt32 31)).toInt32) &&& 858993459)).toUInt32 >>> ((4 : Int32).toUInt32 &&& Int32.toUInt32 31)).toInt32)) &&& 252645135).toUInt32 >>> ((8 : Int32).toUInt32 &&& Int32.toUInt32 31)).toInt32)) + ((((((((a0 - (((a0.toUInt32 >>> ((1 : Int32).toUInt32 &&& Int32.toUInt32 31)).toInt32) &&& 1431655765)) &&& 858993459) + ((((a0 - (((a0.toUInt32 >>> ((1 : Int32).toUInt32 &&& Int32.toUInt32 31)).toInt32) &&& 1431655765)).toUInt32 >>> ((2 : Int32).toUInt32 &&& Int32.toUInt32 31)).toInt32) &&& 858993459)) + (((((a0 - (((a0.toUInt32 >>> ((1 : Int32).toUInt32 &&& Int32.toUInt32 31)).toInt32) &&& 1431655765)) &&& 858993459) + ((((a0 - (((a0.toUInt32 >>> ((1 : Int32).toUInt32 &&& Int32.toUInt32 31)).toInt32) &&& 1431655765)).toUInt32 >>> ((2 : Int32).toUInt32 &&& Int32.toUInt32 31)).toInt32) &&& 858993459)).toUInt32 >>> ((4 : Int32).toUInt32 &&& Int32.toUInt32 31)).toInt32)) &&& 252645135) + (((((((a0 - (((a0.toUInt32 >>> ((1 : Int32).toUInt32 &&& Int32.toUInt32 31)).toInt32) &&& 1431655765)) &&& 858993459) + ((((a0 - (((a0.toUInt32 >>> ((1 : Int32).toUInt32 &&& Int32.toUInt32 31)).toInt32) &&& 1431655765)).toUInt32 >>> ((2 : Int32).toUInt32 &&& Int32.toUInt32 31)).toInt32) &&& 858993459)) + (((((a0 - (((a0.toUInt32 >>> ((1 : Int32).toUInt32 &&& Int32.toUInt32 31)).toInt32) &&& 1431655765)) &&& 858993459) + ((((a0 - (((a0.toUInt32 >>> ((1 : Int32).toUInt32 &&& Int32.toUInt32 31)).toInt32) &&& 1431655765)).toUInt32 >>> ((2 : Int32).toUInt32 &&& Int32.toUInt32 31)).toInt32) &&& 858993459)).toUInt32 >>> ((4 : Int32).toUInt32 &&& Int32.toUInt32 31)).toInt32)) &&& 252645135).toUInt32 >>> ((8 : Int32).toUInt32 &&& Int32.toUInt32 31)).toInt32)).toUInt32 >>> ((16 : Int32).toUInt32 &&& Int32.toUInt32 31)).toInt32)) &&& 63)
def fX7_count (a1 : Int32) (σ : x_S) : Option Int32 :=
  if a1 = 0 then (x_p (fX5_howMany σ) (fun r3 => some r3)) else (if a1 = 1 then (some (σ 32 3)) else (if a1 = 2 then (some (σ 32 5)) else (if a1 = 3 then (some (σ 32 2)) else (if a1 = 4 then (some (σ 32 1)) else (if a1 = 5 then (x_p (fJ6_bitCount_0f7a4 (σ 32 4) σ) (fun r10 => some r10)) else (if a1 = 6 then (some (σ 16 4)) else (if a1 = 7 then (some (σ 13 1)) else (some (-1000001)))))))))
def fX7_status (σ : x_S) : Option Int32 :=
  some (σ 0 8)
def fX8_in (a0 : Int64) (a2 : Int64) (a4 : Int64) (σ : x_S) : Option Int32 :=
  if (lg_cmp a0 a2) < 0 then (some 0) else (if 0 < (lg_cmp a0 a4) then (some 0) else (some 1))
def fX8_has (a0 : Int32) (a1 : Int32) (σ : x_S) : Option Int32 :=
  if ((a0 >>> (a1 &&& 31)) &&& 1) = 1 then (some 1) else (some 0)
def gX8_bits_4 (x0 : Int32) (K4 : Int32 → Int32 → Option Int32) (x1 : Int32) (x2 : Int32) (σ : x_S) : Option Int32 :=
  if 7 ≤ x2 then (some x1) else (K4 (x1 + ((x0 >>> (x2 &&& 31)) &&& 1)) (x2 + 1))
def bX8_bits_4 (x0 : Int32) (x1 : Int32) (x2 : Int32) (σ : x_S) : Option Int32 :=
  x_fx (α := Int32 → Int32 → Option Int32) (fun _ _ => none) (fun K => fun x1 x2 => gX8_bits_4  x0 K x1 x2 σ) x_F x1 x2
def fX8_bits (a0 : Int32) (σ : x_S) : Option Int32 :=
  bX8_bits_4 a0 0 0 σ
def fX8_find (a1 : Int32) (σ : x_S) : Option (Int32 × x_S) :=
  x_w (x_u σ 0 10 a1) (fun σ1 => some (((-1000010) - a1), σ1))
def fX8_well (a1 : Int32) (σ : x_S) : Option (Int32 × x_S) :=
  x_w (x_u σ 0 10 0) (fun σ1 => some (a1, σ1))
def fX8_isRow (a0 : Int32) (σ : x_S) : Option Int32 :=
  x_p (fX8_in a0.toInt64 0 7 σ) (fun r2 => x_g (r2 &&& 1 = r2) (some r2))
def gX8_row_55 (x1 : Int32) (x3 : Int32) (K55 : Int32 → x_S → Option (Int32 × x_S)) (x4 : Int32) (σ : x_S) : Option (Int32 × x_S) :=
  if 40 ≤ x4 then (x_b (fX8_well x3 σ) (fun r3 σ4 => some (r3, σ4))) else (x_g (x_in ((40 * x1) + x4) 320) (x_w (x_u σ 5 ((40 * x1) + x4).toNatClampNeg 0) (fun σ6 => K55 (x4 + 1) σ6)))
def bX8_row_55 (x1 : Int32) (x3 : Int32) (x4 : Int32) (σ : x_S) : Option (Int32 × x_S) :=
  x_fx (α := Int32 → x_S → Option (Int32 × x_S)) (fun _ _ => none) (fun K => fun x4 σ => gX8_row_55  x1 x3 K x4 σ) x_F x4 σ
def fX8_row (a1 : Int32) (a2 : Int32) (a3 : Int32) (σ : x_S) : Option (Int32 × x_S) :=
  x_p (fX8_isRow a1 σ) (fun r2 => if r2 = 0 then (some ((-1000001), σ)) else (x_p (fX8_in a2.toInt64 0 2 σ) (fun r5 => if r5 = 0 then (some ((-1000001), σ)) else (if a3 ≤ 40 then (if 0 ≤ a3 then (x_g (x_in a1 8) (x_w (x_u σ 3 a1.toNatClampNeg a2) (fun σ10 => x_g (x_in a1 8) (x_w (x_u σ10 4 a1.toNatClampNeg a3) (fun σ13 => bX8_row_55 a1 a3 0 σ13))))) else (x_b (fX8_find 4 σ) (fun r16 σ17 => some (r16, σ17)))) else (some ((-1000001), σ))))))
def fX8_narrow (a0 : Int32) (a1 : Int32) (σ : x_S) : Option Int32 :=
  if a1 = 0 then (some a0.toInt8.toInt32) else (if a1 = 1 then (some a0.toInt16.toInt32) else (some a0))
def fX8_set (a1 : Int32) (a2 : Int32) (a3 : Int32) (σ : x_S) : Option (Int32 × x_S) :=
  x_p (fX8_isRow a1 σ) (fun r2 => if r2 = 0 then (some ((-1000001), σ)) else (x_g (x_in a1 8) (if 0 ≤ (σ 4 a1.toNatClampNeg) then (x_g (x_in a1 8) (x_p (fX8_in a2.toInt64 0 (((σ 4 a1.toNatClampNeg) - 1).toInt64) σ) (fun r8 => if r8 = 0 then (x_b (fX8_find 2 σ) (fun r21 σ22 => some (r21, σ22))) else (x_g (x_in a1 8) (x_p (fX8_narrow a3 (σ 3 a1.toNatClampNeg) σ) (fun r12 => x_g (x_in ((40 * a1) + a2) 320) (x_w (x_u σ 5 ((40 * a1) + a2).toNatClampNeg r12) (fun σ14 => x_g (x_in ((40 * a1) + a2) 320) (x_b (fX8_well (σ14 5 ((40 * a1) + a2).toNatClampNeg) σ14) (fun r18 σ19 => some (r18, σ19))))))))))) else (x_b (fX8_find 1 σ) (fun r24 σ25 => some (r24, σ25))))))
def fX8_isSpan (a1 : Int32) (a2 : Int32) (a3 : Int32) (σ : x_S) : Option Int32 :=
  if a2 < 0 then (some 0) else (if a3 < 0 then (some 0) else (x_g (x_in a1 8) (if 0 < (lg_cmp (a2.toInt64 + a3.toInt64) ((σ 4 a1.toNatClampNeg).toInt64)) then (some 0) else (some 1))))
def bX8_copy_35 (σ : x_S) : Option (Int32 × x_S) :=
  x_b (fX8_find 1 σ) (fun r2 σ3 => some (r2, σ3))
def bX8_copy_85 (σ : x_S) : Option (Int32 × x_S) :=
  x_b (fX8_find 2 σ) (fun r2 σ3 => some (r2, σ3))
def bX8_copy_131 (K107 : Int32 → x_S → Option (Int32 × x_S)) (x1 : Int32) (x2 : Int32) (x3 : Int32) (x4 : Int32) (x5 : Int32) (x6 : Int32) (x7 : Int32) (y0 : Int32) (σ : x_S) : Option (Int32 × x_S) :=
  x_g (x_in (((40 * x1) + x2) + y0) 320) (x_g (x_in (((40 * x3) + x4) + y0) 320) (x_w (x_u σ 5 (((40 * x3) + x4) + y0).toNatClampNeg (σ 5 (((40 * x1) + x2) + y0).toNatClampNeg)) (fun σ3 => K107 (x7 + 1) σ3)))
def gX8_copy_107 (x1 : Int32) (x2 : Int32) (x3 : Int32) (x4 : Int32) (x5 : Int32) (x6 : Int32) (K107 : Int32 → x_S → Option (Int32 × x_S)) (x7 : Int32) (σ : x_S) : Option (Int32 × x_S) :=
  if x5 ≤ x7 then (x_b (fX8_well x5 σ) (fun r3 σ4 => some (r3, σ4))) else (if x6 = 0 then (bX8_copy_131 K107 x1 x2 x3 x4 x5 x6 x7 x7 σ) else (bX8_copy_131 K107 x1 x2 x3 x4 x5 x6 x7 ((x5 - 1) - x7) σ))
def bX8_copy_107 (x1 : Int32) (x2 : Int32) (x3 : Int32) (x4 : Int32) (x5 : Int32) (x6 : Int32) (x7 : Int32) (σ : x_S) : Option (Int32 × x_S) :=
  x_fx (α := Int32 → x_S → Option (Int32 × x_S)) (fun _ _ => none) (fun K => fun x7 σ => gX8_copy_107  x1 x2 x3 x4 x5 x6 K x7 σ) x_F x7 σ
def fX8_copy (a1 : Int32) (a2 : Int32) (a3 : Int32) (a4 : Int32) (a5 : Int32) (σ : x_S) : Option (Int32 × x_S) :=
  x_p (fX8_isRow a1 σ) (fun r2 => if r2 = 0 then (some ((-1000001), σ)) else (x_p (fX8_isRow a3 σ) (fun r5 => if r5 = 0 then (some ((-1000001), σ)) else (x_g (x_in a1 8) (if (σ 4 a1.toNatClampNeg) < 0 then (bX8_copy_35 σ) else (x_g (x_in a3 8) (if 0 ≤ (σ 4 a3.toNatClampNeg) then (x_g (x_in a1 8) (x_g (x_in a3 8) (if (σ 3 a1.toNatClampNeg) = (σ 3 a3.toNatClampNeg) then (x_p (fX8_isSpan a1 a2 a5 σ) (fun r15 => if r15 = 0 then (bX8_copy_85 σ) else (x_p (fX8_isSpan a3 a4 a5 σ) (fun r18 => if r18 = 0 then (bX8_copy_85 σ) else (if a4 ≤ a2 then (bX8_copy_107 a1 a2 a3 a4 a5 0 0 σ) else (bX8_copy_107 a1 a2 a3 a4 a5 1 0 σ)))))) else (x_b (fX8_find 5 σ) (fun r22 σ23 => some (r22, σ23)))))) else (bX8_copy_35 σ))))))))
def fX8_drop (a1 : Int32) (σ : x_S) : Option (Int32 × x_S) :=
  x_p (fX8_isRow a1 σ) (fun r2 => if r2 = 0 then (some ((-1000001), σ)) else (x_g (x_in a1 8) (if 0 ≤ (σ 4 a1.toNatClampNeg) then (x_g (x_in a1 8) (x_g (x_in a1 8) (x_w (x_u σ 4 a1.toNatClampNeg (-1)) (fun σ8 => x_b (fX8_well (σ 4 a1.toNatClampNeg) σ8) (fun r11 σ12 => some (r11, σ12)))))) else (x_b (fX8_find 1 σ) (fun r14 σ15 => some (r14, σ15))))))
def fX8_feed (a1 : Int32) (σ : x_S) : Option (Int32 × x_S) :=
  x_p (fX8_in a1.toInt64 0 255 σ) (fun r2 => if r2 = 0 then (some ((-1000001), σ)) else (if (σ 0 8) = 120 then (some ((-1000003), σ)) else (x_g (x_in (σ 0 8) 120) (x_w (x_u σ 6 (σ 0 8).toNatClampNeg a1) (fun σ6 => x_w (x_u σ6 0 8 ((σ6 0 8) + 1)) (fun σ8 => some ((σ8 0 8), σ8)))))))
def fX8_isLetter (a1 : Int32) (σ : x_S) : Option Int32 :=
  if (σ 0 8) ≤ (σ 0 13) then (some 0) else (x_g (x_in (σ 0 13) 120) (if (σ 6 (σ 0 13).toNatClampNeg) = a1 then (some 1) else (some 0)))
def fX8_isFigure (a1 : Int32) (σ : x_S) : Option Int32 :=
  if (σ 0 8) ≤ a1 then (some 0) else (x_g (x_in a1 120) (x_p (fX8_in ((σ 6 a1.toNatClampNeg).toInt64) 48 57 σ) (fun r4 => if r4 = 0 then (some 0) else (some 1))))
def fX8_refuse (a1 : Int32) (σ : x_S) : Option (Int32 × x_S) :=
  x_w (x_u σ 0 14 a1) (fun σ1 => some (0, σ1))
def fX8_sign (a1 : Int32) (σ : x_S) : Option (Int32 × x_S) :=
  x_p (fX8_isLetter a1 σ) (fun r2 => if r2 = 0 then (x_b (fX8_refuse 1 σ) (fun r7 σ8 => x_g (r7 &&& 1 = r7) (some (r7, σ8)))) else (x_w (x_u σ 0 13 ((σ 0 13) + 1)) (fun σ4 => some (1, σ4))))
def bX8_readsNumber_37 (σ : x_S) : Option (Int32 × x_S) :=
  x_b (fX8_refuse 1 σ) (fun r2 σ3 => x_g (r2 &&& 1 = r2) (some (r2, σ3)))
def bX8_readsNumber_113 (x1 : Int32) (x2 : Int32) (x3 : Int32) (y0 : Int32) (σ : x_S) : Option (Int32 × x_S) :=
  x_w (x_u σ 0 15 y0) (fun σ1 => x_p (fX8_in ((σ1 0 15).toInt64) x1.toInt64 x2.toInt64 σ1) (fun r4 => if r4 = 0 then (x_b (fX8_refuse 2 σ1) (fun r9 σ10 => x_g (r9 &&& 1 = r9) (some (r9, σ10)))) else (x_w (x_u σ1 0 13 ((σ1 0 13) + x3)) (fun σ6 => some (1, σ6)))))
def bX8_readsNumber_77 (x1 : Int32) (x2 : Int32) (y0 : Int32) (σ : x_S) : Option (Int32 × x_S) :=
  if y0 = 2 then (x_g (x_in ((σ 0 13) + 1) 120) (bX8_readsNumber_113 x1 x2 y0 (((10 * (σ 0 15)) + (σ 6 ((σ 0 13) + 1).toNatClampNeg)) - 48) σ)) else (bX8_readsNumber_113 x1 x2 y0 (σ 0 15) σ)
def bX8_readsNumber_43 (x1 : Int32) (x2 : Int32) (σ : x_S) : Option (Int32 × x_S) :=
  x_g (x_in (σ 0 13) 120) (x_w (x_u σ 0 15 ((σ 6 (σ 0 13).toNatClampNeg) - 48)) (fun σ2 => x_p (fX8_isFigure ((σ2 0 13) + 1) σ2) (fun r5 => if r5 = 0 then (bX8_readsNumber_77 x1 x2 1 σ2) else (bX8_readsNumber_77 x1 x2 2 σ2))))
def fX8_readsNumber (a1 : Int32) (a2 : Int32) (σ : x_S) : Option (Int32 × x_S) :=
  x_p (fX8_isFigure (σ 0 13) σ) (fun r2 => if r2 = 0 then (bX8_readsNumber_37 σ) else (x_p (fX8_isFigure ((σ 0 13) + 1) σ) (fun r5 => if r5 = 0 then (bX8_readsNumber_43 a1 a2 σ) else (x_p (fX8_isFigure ((σ 0 13) + 2) σ) (fun r8 => if r8 = 0 then (bX8_readsNumber_43 a1 a2 σ) else (bX8_readsNumber_37 σ))))))
def fX8_readsLaw (σ : x_S) : Option (Int32 × x_S) :=
  x_b (fX8_sign 100 σ) (fun r2 σ3 => if r2 = 0 then (some (0, σ3)) else (x_b (fX8_readsNumber 1 9 σ3) (fun r6 σ7 => if r6 = 0 then (some (0, σ7)) else (x_g (x_in (1323 : Int32) 1372) (x_w (x_u σ7 1 (1323 : Int32).toNatClampNeg (σ7 0 15)) (fun σ10 => x_b (fX8_sign 59 σ10) (fun r13 σ14 => x_g (r13 &&& 1 = r13) (some (r13, σ14)))))))))
def fX8_readsStreet (σ : x_S) : Option (Int32 × x_S) :=
  if (σ 1 (1324 : Int32).toNatClampNeg) = 7 then (x_b (fX8_refuse 3 σ) (fun r32 σ33 => x_g (r32 &&& 1 = r32) (some (r32, σ33)))) else (x_w (x_u σ 0 13 ((σ 0 13) + 1)) (fun σ3 => x_b (fX8_readsNumber 0 30 σ3) (fun r6 σ7 => if r6 = 0 then (some (0, σ7)) else (x_g (x_in (1328 + (σ 1 (1324 : Int32).toNatClampNeg)) 1372) (x_w (x_u σ7 1 (1328 + (σ 1 (1324 : Int32).toNatClampNeg)).toNatClampNeg (σ7 0 15)) (fun σ10 => x_b (fX8_sign 44 σ10) (fun r13 σ14 => if r13 = 0 then (some (0, σ14)) else (x_b (fX8_readsNumber 0 9 σ14) (fun r17 σ18 => if r17 = 0 then (some (0, σ18)) else (x_g (x_in (1335 + (σ 1 (1324 : Int32).toNatClampNeg)) 1372) (x_w (x_u σ18 1 (1335 + (σ 1 (1324 : Int32).toNatClampNeg)).toNatClampNeg (σ18 0 15)) (fun σ21 => x_g (x_in (1324 : Int32) 1372) (x_w (x_u σ21 1 (1324 : Int32).toNatClampNeg ((σ21 1 (1324 : Int32).toNatClampNeg) + 1)) (fun σ25 => x_b (fX8_sign 59 σ25) (fun r28 σ29 => x_g (r28 &&& 1 = r28) (some (r28, σ29)))))))))))))))))
def fX8_kindOfLetter (a0 : Int32) (σ : x_S) : Option Int32 :=
  if a0 = 119 then (some 1) else (if a0 = 110 then (some 2) else (if a0 = 98 then (some 3) else (if a0 = 107 then (some 4) else (if a0 = 115 then (some 5) else (some 0)))))
def fX8_readsGesture (σ : x_S) : Option (Int32 × x_S) :=
  if (σ 1 (1325 : Int32).toNatClampNeg) = 6 then (x_b (fX8_refuse 3 σ) (fun r49 σ50 => x_g (r49 &&& 1 = r49) (some (r49, σ50)))) else (x_g (x_in (σ 0 13) 120) (x_p (fX8_kindOfLetter (σ 6 (σ 0 13).toNatClampNeg) σ) (fun r5 => x_g (x_in (1342 + (σ 1 (1325 : Int32).toNatClampNeg)) 1372) (x_w (x_u σ 1 (1342 + (σ 1 (1325 : Int32).toNatClampNeg)).toNatClampNeg r5) (fun σ7 => x_w (x_u σ7 0 13 ((σ7 0 13) + 1)) (fun σ9 => x_b (fX8_readsNumber 1 30 σ9) (fun r12 σ13 => if r12 = 0 then (some (0, σ13)) else (x_g (x_in (1348 + (σ 1 (1325 : Int32).toNatClampNeg)) 1372) (x_w (x_u σ13 1 (1348 + (σ 1 (1325 : Int32).toNatClampNeg)).toNatClampNeg (σ13 0 15)) (fun σ16 => x_b (fX8_sign 44 σ16) (fun r19 σ20 => if r19 = 0 then (some (0, σ20)) else (x_b (fX8_readsNumber 0 3 σ20) (fun r23 σ24 => if r23 = 0 then (some (0, σ24)) else (x_g (x_in (1354 + (σ 1 (1325 : Int32).toNatClampNeg)) 1372) (x_w (x_u σ24 1 (1354 + (σ 1 (1325 : Int32).toNatClampNeg)).toNatClampNeg (σ24 0 15)) (fun σ27 => x_b (fX8_sign 44 σ27) (fun r30 σ31 => if r30 = 0 then (some (0, σ31)) else (x_b (fX8_readsNumber 1 9 σ31) (fun r34 σ35 => if r34 = 0 then (some (0, σ35)) else (x_g (x_in (1360 + (σ 1 (1325 : Int32).toNatClampNeg)) 1372) (x_w (x_u σ35 1 (1360 + (σ 1 (1325 : Int32).toNatClampNeg)).toNatClampNeg (σ35 0 15)) (fun σ38 => x_g (x_in (1325 : Int32) 1372) (x_w (x_u σ38 1 (1325 : Int32).toNatClampNeg ((σ38 1 (1325 : Int32).toNatClampNeg) + 1)) (fun σ42 => x_b (fX8_sign 59 σ42) (fun r45 σ46 => x_g (r45 &&& 1 = r45) (some (r45, σ46)))))))))))))))))))))))))))
def bX8_reads_94 (x1 : Int32) (σ : x_S) : Option (Int32 × x_S) :=
  if x1 = 0 then (some (0, σ)) else (if (σ 0 13) = (σ 0 8) then (some (1, σ)) else (x_b (fX8_refuse 1 σ) (fun r4 σ5 => if r4 = 0 then (some (0, σ5)) else (some (1, σ5)))))
def gX8_reads_56 (K56 : Int32 → x_S → Option (Int32 × x_S)) (x1 : Int32) (σ : x_S) : Option (Int32 × x_S) :=
  if x1 = 0 then (bX8_reads_94 x1 σ) else (if (σ 0 8) ≤ (σ 0 13) then (bX8_reads_94 x1 σ) else (x_g (x_in (σ 0 13) 120) (x_p (fX8_kindOfLetter (σ 6 (σ 0 13).toNatClampNeg) σ) (fun r5 => if r5 ≤ 0 then (bX8_reads_94 x1 σ) else (x_b (fX8_readsGesture σ) (fun r8 σ9 => K56 r8 σ9))))))
def bX8_reads_56 (x1 : Int32) (σ : x_S) : Option (Int32 × x_S) :=
  x_fx (α := Int32 → x_S → Option (Int32 × x_S)) (fun _ _ => none) (fun K => fun x1 σ => gX8_reads_56   K x1 σ) x_F x1 σ
def gX8_reads_35 (K35 : Int32 → x_S → Option (Int32 × x_S)) (x1 : Int32) (σ : x_S) : Option (Int32 × x_S) :=
  if x1 = 0 then (bX8_reads_56 x1 σ) else (x_p (fX8_isLetter 114 σ) (fun r3 => if r3 = 0 then (bX8_reads_56 x1 σ) else (x_b (fX8_readsStreet σ) (fun r6 σ7 => K35 r6 σ7))))
def bX8_reads_35 (x1 : Int32) (σ : x_S) : Option (Int32 × x_S) :=
  x_fx (α := Int32 → x_S → Option (Int32 × x_S)) (fun _ _ => none) (fun K => fun x1 σ => gX8_reads_35   K x1 σ) x_F x1 σ
def gX8_reads_2 (K2 : Int32 → x_S → Option (Int32 × x_S)) (x1 : Int32) (σ : x_S) : Option (Int32 × x_S) :=
  if 49 ≤ x1 then (x_w (x_u σ 0 13 0) (fun σ2 => x_b (fX8_readsLaw σ2) (fun r5 σ6 => bX8_reads_35 r5 σ6))) else (x_g (x_in (1323 + x1) 1372) (x_w (x_u σ 1 (1323 + x1).toNatClampNeg 0) (fun σ8 => K2 (x1 + 1) σ8)))
def bX8_reads_2 (x1 : Int32) (σ : x_S) : Option (Int32 × x_S) :=
  x_fx (α := Int32 → x_S → Option (Int32 × x_S)) (fun _ _ => none) (fun K => fun x1 σ => gX8_reads_2   K x1 σ) x_F x1 σ
def fX8_reads (σ : x_S) : Option (Int32 × x_S) :=
  bX8_reads_2 0 σ
def gX8_copyTown_2 (x1 : Int32) (x2 : Int32) (K2 : Int32 → x_S → Option x_S) (x3 : Int32) (σ : x_S) : Option x_S :=
  if 49 ≤ x3 then (some σ) else (x_g (x_in (x1 + x3) 1372) (x_g (x_in (x2 + x3) 1372) (x_w (x_u σ 1 (x2 + x3).toNatClampNeg (σ 1 (x1 + x3).toNatClampNeg)) (fun σ4 => K2 (x3 + 1) σ4))))
def bX8_copyTown_2 (x1 : Int32) (x2 : Int32) (x3 : Int32) (σ : x_S) : Option x_S :=
  x_fx (α := Int32 → x_S → Option x_S) (fun _ _ => none) (fun K => fun x3 σ => gX8_copyTown_2  x1 x2 K x3 σ) x_F x3 σ
def fX8_copyTown (a1 : Int32) (a2 : Int32) (σ : x_S) : Option x_S :=
  bX8_copyTown_2 a1 a2 0 σ
def fX8_city (σ : x_S) : Option (Int32 × x_S) :=
  x_b (fX8_reads σ) (fun r2 σ3 => x_w (x_u σ3 0 8 0) (fun σ4 => if r2 = 0 then (x_w (x_u σ4 0 9 (σ4 0 14)) (fun σ14 => some (((-1000100) - (σ14 0 13)), σ14))) else (x_v (fX8_copyTown 1323 0 σ4) (fun σ8 => x_w (x_u σ8 0 1 1) (fun σ9 => x_w (x_u σ9 0 2 0) (fun σ11 => some ((σ11 1 (2 : Int32).toNatClampNeg), σ11)))))))
def fX8_fault (σ : x_S) : Option Int32 :=
  some (σ 0 9)
def bX8_keepPast_61 (y0 : Int32) (y1 : Int32) (σ : x_S) : Option x_S :=
  x_w (x_u σ 0 2 (y1 - y0)) (fun σ1 => x_v (fX8_copyTown 0 (49 + (49 * (σ1 0 2))) σ1) (fun σ4 => x_w (x_u σ4 0 2 ((σ4 0 2) + 1)) (fun σ5 => some σ5)))
def bX8_keepPast_42 (σ : x_S) : Option x_S :=
  if (σ 0 2) = 24 then (bX8_keepPast_61 1 (σ 0 2) σ) else (bX8_keepPast_61 0 (σ 0 2) σ)
def gX8_keepPast_2 (K2 : Int32 → x_S → Option x_S) (x1 : Int32) (σ : x_S) : Option x_S :=
  if 1127 ≤ x1 then (bX8_keepPast_42 σ) else (if (σ 0 2) = 24 then (x_g (x_in (98 + x1) 1372) (x_g (x_in (49 + x1) 1372) (x_w (x_u σ 1 (49 + x1).toNatClampNeg (σ 1 (98 + x1).toNatClampNeg)) (fun σ5 => K2 (x1 + 1) σ5)))) else (bX8_keepPast_42 σ))
def bX8_keepPast_2 (x1 : Int32) (σ : x_S) : Option x_S :=
  x_fx (α := Int32 → x_S → Option x_S) (fun _ _ => none) (fun K => fun x1 σ => gX8_keepPast_2   K x1 σ) x_F x1 σ
def fX8_keepPast (σ : x_S) : Option x_S :=
  bX8_keepPast_2 0 σ
def fX8_undo (σ : x_S) : Option (Int32 × x_S) :=
  if (σ 0 2) = 0 then (some ((-1000002), σ)) else (x_w (x_u σ 0 2 ((σ 0 2) - 1)) (fun σ2 => x_v (fX8_copyTown (49 + (49 * (σ2 0 2))) 0 σ2) (fun σ5 => some ((σ5 0 2), σ5))))
def fX8_isGesture (a1 : Int32) (σ : x_S) : Option Int32 :=
  x_p (fX8_in a1.toInt64 0 (((σ 1 (2 : Int32).toNatClampNeg) - 1).toInt64) σ) (fun r3 => x_g (r3 &&& 1 = r3) (some r3))
def fX8_isStreet (a1 : Int32) (σ : x_S) : Option Int32 :=
  x_p (fX8_in a1.toInt64 0 (((σ 1 (1 : Int32).toNatClampNeg) - 1).toInt64) σ) (fun r3 => x_g (r3 &&& 1 = r3) (some r3))
def fX8_wave (a1 : Int32) (a2 : Int32) (σ : x_S) : Option Int32 :=
  x_g (x_in (12 + a2) 1372) (some ((a1 * (σ 1 (0 : Int32).toNatClampNeg)) + ((a1 * (σ 1 (12 + a2).toNatClampNeg)) / 10)))
def fX8_plainDuty (a1 : Int32) (a2 : Int32) (a3 : Int32) (σ : x_S) : Option Int32 :=
  if a1 = 2 then (x_p (fX8_wave a2 a3 σ) (fun r3 => some (r3 / 2))) else (if a1 = 3 then (x_p (fX8_wave a2 a3 σ) (fun r6 => if a2 ≤ 10 then (some (r6 + 0)) else (some (r6 + ((σ 1 (0 : Int32).toNatClampNeg) * (a2 - 10)))))) else (if a1 = 4 then (some 1) else (if a1 = 5 then (x_g (x_in (12 + a3) 1372) (if 5 ≤ (σ 1 (12 + a3).toNatClampNeg) then (x_p (fX8_wave a2 a3 σ) (fun r14 => some r14)) else (some 1))) else (x_p (fX8_wave a2 a3 σ) (fun r16 => some r16)))))
def fX8_owes (a1 : Int32) (a2 : Int32) (a3 : Int32) (σ : x_S) : Option Int32 :=
  x_p (fX8_plainDuty a1 a2 a3 σ) (fun r2 => x_p (fX8_has (σ 1 (4 : Int32).toNatClampNeg) a3 σ) (fun r5 => if r5 = 0 then (some r2) else (some (r2 / 2))))
def fX8_dutyOf (a1 : Int32) (a2 : Int32) (σ : x_S) : Option Int32 :=
  x_g (x_in (19 + a1) 1372) (x_g (x_in (25 + a1) 1372) (x_p (fX8_owes (σ 1 (19 + a1).toNatClampNeg) (σ 1 (25 + a1).toNatClampNeg) a2 σ) (fun r4 => some r4)))
def bX8_isSeen_18 (x1 : Int32) (x2 : Int32) (y0 : Int32) (σ : x_S) : Option Int32 :=
  x_g (x_in (25 + x1) 1372) (x_g (x_in (5 + x2) 1372) (if ((σ 1 (25 + x1).toNatClampNeg) + y0) < (σ 1 (5 + x2).toNatClampNeg) then (some 0) else (some 1)))
def fX8_isSeen (a1 : Int32) (a2 : Int32) (σ : x_S) : Option Int32 :=
  x_g (x_in (19 + a1) 1372) (if (σ 1 (19 + a1).toNatClampNeg) ≤ 3 then (bX8_isSeen_18 a1 a2 0 σ) else (bX8_isSeen_18 a1 a2 5 σ))
def fX8_make (a1 : Int32) (a2 : Int32) (σ : x_S) : Option (Int32 × x_S) :=
  x_p (fX8_isGesture a1 σ) (fun r2 => if r2 = 0 then (some ((-1000001), σ)) else (x_p (fX8_isStreet a2 σ) (fun r5 => if r5 = 0 then (some ((-1000001), σ)) else (x_p (fX8_isSeen a1 a2 σ) (fun r8 => if r8 = 0 then (some ((-1000002), σ)) else (x_p (fX8_dutyOf a1 a2 σ) (fun r12 => if ((σ 1 (3 : Int32).toNatClampNeg) + r12) ≤ 99999 then (x_v (fX8_keepPast σ) (fun σ15 => x_g (x_in (3 : Int32) 1372) (x_w (x_u σ15 1 (3 : Int32).toNatClampNeg ((σ 1 (3 : Int32).toNatClampNeg) + r12)) (fun σ17 => x_g (x_in (43 + a1) 1372) (x_g (x_in (43 + a1) 1372) (x_w (x_u σ17 1 (43 + a1).toNatClampNeg ((σ17 1 (43 + a1).toNatClampNeg) + 1)) (fun σ21 => some (((σ 1 (3 : Int32).toNatClampNeg) + r12), σ21)))))))) else (some ((-1000003), σ)))))))))
def fX8_dim (a1 : Int32) (a2 : Int32) (σ : x_S) : Option (Int32 × x_S) :=
  x_p (fX8_isStreet a1 σ) (fun r2 => if r2 = 0 then (some ((-1000001), σ)) else (x_p (fX8_in a2.toInt64 0 30 σ) (fun r5 => if r5 = 0 then (some ((-1000001), σ)) else (x_v (fX8_keepPast σ) (fun σ8 => x_g (x_in (5 + a1) 1372) (x_g (x_in (5 + a1) 1372) (x_w (x_u σ8 1 (5 + a1).toNatClampNeg a2) (fun σ11 => some ((σ8 1 (5 + a1).toNatClampNeg), σ11)))))))))
def fX8_train (a1 : Int32) (a2 : Int32) (σ : x_S) : Option (Int32 × x_S) :=
  x_p (fX8_isGesture a1 σ) (fun r2 => if r2 = 0 then (some ((-1000001), σ)) else (x_p (fX8_in a2.toInt64 1 29 σ) (fun r5 => if r5 = 0 then (some ((-1000001), σ)) else (x_g (x_in (25 + a1) 1372) (if 1 ≤ ((σ 1 (25 + a1).toNatClampNeg) - a2) then (x_v (fX8_keepPast σ) (fun σ10 => x_g (x_in (25 + a1) 1372) (x_g (x_in (25 + a1) 1372) (x_w (x_u σ10 1 (25 + a1).toNatClampNeg ((σ10 1 (25 + a1).toNatClampNeg) - a2)) (fun σ13 => x_g (x_in (25 + a1) 1372) (some ((σ13 1 (25 + a1).toNatClampNeg), σ13))))))) else (some ((-1000002), σ)))))))
def bX8_know_41 (x1 : Int32) (y0 : Int32) (y1 : Int32) (σ : x_S) : Option (Int32 × x_S) :=
  if y1 = y0 then (some ((-1000002), σ)) else (x_v (fX8_keepPast σ) (fun σ3 => x_g (x_in (4 : Int32) 1372) (x_w (x_u σ3 1 (4 : Int32).toNatClampNeg ((σ3 1 (4 : Int32).toNatClampNeg) ^^^ (1 <<< (x1 &&& 31)))) (fun σ6 => some ((σ6 1 (4 : Int32).toNatClampNeg), σ6)))))
def fX8_know (a1 : Int32) (a2 : Int32) (σ : x_S) : Option (Int32 × x_S) :=
  x_p (fX8_isStreet a1 σ) (fun r2 => if r2 = 0 then (some ((-1000001), σ)) else (x_p (fX8_in a2.toInt64 0 1 σ) (fun r5 => if r5 = 0 then (some ((-1000001), σ)) else (x_p (fX8_has (σ 1 (4 : Int32).toNatClampNeg) a1 σ) (fun r9 => if a2 = 1 then (bX8_know_41 a1 1 r9 σ) else (bX8_know_41 a1 0 r9 σ))))))
def gX8_seenStreets_4 (x1 : Int32) (K4 : Int32 → Int32 → Option Int32) (x2 : Int32) (x3 : Int32) (σ : x_S) : Option Int32 :=
  if (σ 1 (1 : Int32).toNatClampNeg) ≤ x3 then (some x2) else (x_p (fX8_isSeen x1 x3 σ) (fun r4 => if r4 = 0 then (K4 (x2 ||| 0) (x3 + 1)) else (K4 (x2 ||| (1 <<< (x3 &&& 31))) (x3 + 1))))
def bX8_seenStreets_4 (x1 : Int32) (x2 : Int32) (x3 : Int32) (σ : x_S) : Option Int32 :=
  x_fx (α := Int32 → Int32 → Option Int32) (fun _ _ => none) (fun K => fun x2 x3 => gX8_seenStreets_4  x1 K x2 x3 σ) x_F x2 x3
def fX8_seenStreets (a1 : Int32) (σ : x_S) : Option Int32 :=
  bX8_seenStreets_4 a1 0 0 σ
def gX8_seenGestures_4 (x1 : Int32) (K4 : Int32 → Int32 → Option Int32) (x2 : Int32) (x3 : Int32) (σ : x_S) : Option Int32 :=
  if (σ 1 (2 : Int32).toNatClampNeg) ≤ x3 then (some x2) else (x_p (fX8_isSeen x3 x1 σ) (fun r4 => if r4 = 0 then (K4 (x2 ||| 0) (x3 + 1)) else (K4 (x2 ||| (1 <<< (x3 &&& 31))) (x3 + 1))))
def bX8_seenGestures_4 (x1 : Int32) (x2 : Int32) (x3 : Int32) (σ : x_S) : Option Int32 :=
  x_fx (α := Int32 → Int32 → Option Int32) (fun _ _ => none) (fun K => fun x2 x3 => gX8_seenGestures_4  x1 K x2 x3 σ) x_F x2 x3
def fX8_seenGestures (a1 : Int32) (σ : x_S) : Option Int32 :=
  bX8_seenGestures_4 a1 0 0 σ
def fX8_gesture (a1 : Int32) (a2 : Int32) (σ : x_S) : Option Int32 :=
  x_p (fX8_isGesture a1 σ) (fun r2 => if r2 = 0 then (some (-1000001)) else (if a2 = 0 then (x_g (x_in (25 + a1) 1372) (some (σ 1 (25 + a1).toNatClampNeg))) else (if a2 = 1 then (x_g (x_in (31 + a1) 1372) (some (σ 1 (31 + a1).toNatClampNeg))) else (if a2 = 2 then (x_g (x_in (37 + a1) 1372) (some (σ 1 (37 + a1).toNatClampNeg))) else (if a2 = 3 then (x_p (fX8_seenStreets a1 σ) (fun r12 => some r12)) else (if a2 = 4 then (x_g (x_in (43 + a1) 1372) (some (σ 1 (43 + a1).toNatClampNeg))) else (some (-1000001))))))))
def fX8_street (a1 : Int32) (a2 : Int32) (σ : x_S) : Option Int32 :=
  x_p (fX8_isStreet a1 σ) (fun r2 => if r2 = 0 then (some (-1000001)) else (if a2 = 0 then (x_g (x_in (5 + a1) 1372) (some (σ 1 (5 + a1).toNatClampNeg))) else (if a2 = 1 then (x_g (x_in (12 + a1) 1372) (some (σ 1 (12 + a1).toNatClampNeg))) else (if a2 = 2 then (some (((σ 1 (4 : Int32).toNatClampNeg) >>> (a1 &&& 31)) &&& 1)) else (if a2 = 3 then (x_p (fX8_seenGestures a1 σ) (fun r12 => some r12)) else (some (-1000001)))))))
def fX8_duty (a1 : Int32) (a2 : Int32) (σ : x_S) : Option Int32 :=
  x_p (fX8_isGesture a1 σ) (fun r2 => if r2 = 0 then (some (-1000001)) else (x_p (fX8_isStreet a2 σ) (fun r5 => if r5 = 0 then (some (-1000001)) else (x_p (fX8_dutyOf a1 a2 σ) (fun r8 => some r8)))))
def fX8_tells (a1 : Int32) (a2 : Int32) (a3 : Int32) (σ : x_S) : Option Int32 :=
  x_g (x_in (31 + a1) 1372) (if (σ 1 (31 + a1).toNatClampNeg) = a2 then (x_p (fX8_isSeen a1 a3 σ) (fun r4 => if r4 = 0 then (some 0) else (some 1))) else (some 0))
def bX8_onBy_29 (x1 : Int32) (x3 : Int32) (x4 : Int32) (y0 : Int32) (σ : x_S) : Option Int32 :=
  if y0 = 0 then (some 1000000) else (x_p (fX8_dutyOf x1 x3 σ) (fun r3 => x_g (x_in (37 + x1) 1372) (x_g (x_in (((100 * (x3 + 1)) + x4) - (σ 1 (37 + x1).toNatClampNeg)) 800) (some (r3 + (σ 8 (((100 * (x3 + 1)) + x4) - (σ 1 (37 + x1).toNatClampNeg)).toNatClampNeg))))))
def bX8_onBy_28 (x1 : Int32) (x3 : Int32) (x4 : Int32) (σ : x_S) : Option Int32 :=
  bX8_onBy_29 x1 x3 x4 0 σ
def fX8_onBy (a1 : Int32) (a2 : Int32) (a3 : Int32) (a4 : Int32) (σ : x_S) : Option Int32 :=
  x_p (fX8_tells a1 a2 a3 σ) (fun r2 => if r2 = 0 then (bX8_onBy_28 a1 a3 a4 σ) else (x_g (x_in (37 + a1) 1372) (if a4 < (σ 1 (37 + a1).toNatClampNeg) then (bX8_onBy_28 a1 a3 a4 σ) else (bX8_onBy_29 a1 a3 a4 1 σ))))
def bX8_layCosts_140 (K34 : Int32 → x_S → Option x_S) (K43 : Int32 → x_S → Option x_S) (K68 : Int32 → x_S → Option x_S) (x1 : Int32) (x2 : Int32) (x4 : Int32) (x5 : Int32) (x6 : Int32) (y0 : Int32) (y1 : Int32) (σ : x_S) : Option x_S :=
  x_g (x_in y1 800) (x_w (x_u σ 8 y1.toNatClampNeg y0) (fun σ2 => K68 (x6 + 1) σ2))
def gX8_layCosts_68 (K34 : Int32 → x_S → Option x_S) (K43 : Int32 → x_S → Option x_S) (x1 : Int32) (x2 : Int32) (x4 : Int32) (x5 : Int32) (K68 : Int32 → x_S → Option x_S) (x6 : Int32) (σ : x_S) : Option x_S :=
  if (σ 1 (2 : Int32).toNatClampNeg) ≤ x6 then (K43 (x5 + 1) σ) else (x_p (fX8_onBy x6 x1 x4 x5 σ) (fun r4 => x_g (x_in ((100 * x4) + x5) 800) (if (σ 8 ((100 * x4) + x5).toNatClampNeg) ≤ r4 then (x_g (x_in ((100 * x4) + x5) 800) (bX8_layCosts_140 K34 K43 K68 x1 x2 x4 x5 x6 (σ 8 ((100 * x4) + x5).toNatClampNeg) ((100 * x4) + x5) σ)) else (bX8_layCosts_140 K34 K43 K68 x1 x2 x4 x5 x6 r4 ((100 * x4) + x5) σ))))
def bX8_layCosts_68 (K34 : Int32 → x_S → Option x_S) (K43 : Int32 → x_S → Option x_S) (x1 : Int32) (x2 : Int32) (x4 : Int32) (x5 : Int32) (x6 : Int32) (σ : x_S) : Option x_S :=
  x_fx (α := Int32 → x_S → Option x_S) (fun _ _ => none) (fun K => fun x6 σ => gX8_layCosts_68 K34 K43 x1 x2 x4 x5 K x6 σ) x_F x6 σ
def gX8_layCosts_43 (K34 : Int32 → x_S → Option x_S) (x1 : Int32) (x2 : Int32) (x4 : Int32) (K43 : Int32 → x_S → Option x_S) (x5 : Int32) (σ : x_S) : Option x_S :=
  if 100 ≤ x5 then (K34 (x4 + (-1)) σ) else (x_g (x_in ((100 * x4) + x5) 800) (x_w (x_u σ 8 ((100 * x4) + x5).toNatClampNeg 1000000) (fun σ3 => bX8_layCosts_68 K34 K43 x1 x2 x4 x5 0 σ3)))
def bX8_layCosts_43 (K34 : Int32 → x_S → Option x_S) (x1 : Int32) (x2 : Int32) (x4 : Int32) (x5 : Int32) (σ : x_S) : Option x_S :=
  x_fx (α := Int32 → x_S → Option x_S) (fun _ _ => none) (fun K => fun x5 σ => gX8_layCosts_43 K34 x1 x2 x4 K x5 σ) x_F x5 σ
def gX8_layCosts_34 (x1 : Int32) (x2 : Int32) (K34 : Int32 → x_S → Option x_S) (x4 : Int32) (σ : x_S) : Option x_S :=
  if x4 < x2 then (some σ) else (bX8_layCosts_43 K34 x1 x2 x4 0 σ)
def bX8_layCosts_34 (x1 : Int32) (x2 : Int32) (x4 : Int32) (σ : x_S) : Option x_S :=
  x_fx (α := Int32 → x_S → Option x_S) (fun _ _ => none) (fun K => fun x4 σ => gX8_layCosts_34  x1 x2 K x4 σ) x_F x4 σ
def gX8_layCosts_3 (x1 : Int32) (x2 : Int32) (x3 : Int32) (K3 : Int32 → x_S → Option x_S) (x4 : Int32) (σ : x_S) : Option x_S :=
  if 100 ≤ x4 then (bX8_layCosts_34 x1 x2 x3 σ) else (x_g (x_in ((100 * (x3 + 1)) + x4) 800) (x_w (x_u σ 8 ((100 * (x3 + 1)) + x4).toNatClampNeg 0) (fun σ3 => K3 (x4 + 1) σ3)))
def bX8_layCosts_3 (x1 : Int32) (x2 : Int32) (x3 : Int32) (x4 : Int32) (σ : x_S) : Option x_S :=
  x_fx (α := Int32 → x_S → Option x_S) (fun _ _ => none) (fun K => fun x4 σ => gX8_layCosts_3  x1 x2 x3 K x4 σ) x_F x4 σ
def fX8_layCosts (a1 : Int32) (a2 : Int32) (a3 : Int32) (σ : x_S) : Option x_S :=
  bX8_layCosts_3 a1 a2 a3 0 σ
def fX8_isMeans (a0 : Int32) (σ : x_S) : Option Int32 :=
  x_p (fX8_in a0.toInt64 0 3 σ) (fun r2 => x_g (r2 &&& 1 = r2) (some r2))
def fX8_areStreets (a1 : Int32) (a2 : Int32) (σ : x_S) : Option Int32 :=
  x_p (fX8_isStreet a1 σ) (fun r2 => if r2 = 0 then (some 0) else (x_p (fX8_isStreet a2 σ) (fun r5 => if r5 = 0 then (some 0) else (if a2 < a1 then (some 0) else (some 1)))))
def gX8_tell_109 (K97 : Int32 → Int32 → Int32 → x_S → Option (Int32 × x_S)) (x1 : Int32) (x2 : Int32) (x5 : Int32) (x6 : Int32) (x7 : Int32) (x9 : Int32) (K109 : Int32 → x_S → Option (Int32 × x_S)) (x8 : Int32) (σ : x_S) : Option (Int32 × x_S) :=
  x_p (fX8_onBy x8 x1 x9 x7 σ) (fun r2 => x_g (x_in ((100 * x9) + x7) 800) (if r2 = (σ 8 ((100 * x9) + x7).toNatClampNeg) then (x_g (x_in (37 + x8) 1372) (K97 (x7 - (σ 1 (37 + x8).toNatClampNeg)) x8 (x9 + 1) σ)) else (K109 (x8 + 1) σ)))
def bX8_tell_109 (K97 : Int32 → Int32 → Int32 → x_S → Option (Int32 × x_S)) (x1 : Int32) (x2 : Int32) (x5 : Int32) (x6 : Int32) (x7 : Int32) (x9 : Int32) (x8 : Int32) (σ : x_S) : Option (Int32 × x_S) :=
  x_fx (α := Int32 → x_S → Option (Int32 × x_S)) (fun _ _ => none) (fun K => fun x8 σ => gX8_tell_109 K97 x1 x2 x5 x6 x7 x9 K x8 σ) x_F x8 σ
def gX8_tell_97 (x1 : Int32) (x2 : Int32) (x5 : Int32) (x6 : Int32) (K97 : Int32 → Int32 → Int32 → x_S → Option (Int32 × x_S)) (x7 : Int32) (x8 : Int32) (x9 : Int32) (σ : x_S) : Option (Int32 × x_S) :=
  if (x2 + x5) < x9 then (if 0 ≤ x5 then (some (x8, σ)) else (some (x6, σ))) else (bX8_tell_109 K97 x1 x2 x5 x6 x7 x9 0 σ)
def bX8_tell_97 (x1 : Int32) (x2 : Int32) (x5 : Int32) (x6 : Int32) (x7 : Int32) (x8 : Int32) (x9 : Int32) (σ : x_S) : Option (Int32 × x_S) :=
  x_fx (α := Int32 → Int32 → Int32 → x_S → Option (Int32 × x_S)) (fun _ _ _ _ => none) (fun K => fun x7 x8 x9 σ => gX8_tell_97  x1 x2 x5 x6 K x7 x8 x9 σ) x_F x7 x8 x9 σ
def fX8_tell (a1 : Int32) (a2 : Int32) (a3 : Int32) (a4 : Int32) (a5 : Int32) (σ : x_S) : Option (Int32 × x_S) :=
  x_p (fX8_isMeans a1 σ) (fun r2 => if r2 = 0 then (some ((-1000001), σ)) else (x_p (fX8_areStreets a2 a3 σ) (fun r5 => if r5 = 0 then (some ((-1000001), σ)) else (x_p (fX8_in a4.toInt64 0 99 σ) (fun r8 => if r8 = 0 then (some ((-1000001), σ)) else (x_p (fX8_in a5.toInt64 (-1) 6 σ) (fun r11 => if r11 = 0 then (some ((-1000001), σ)) else (x_v (fX8_layCosts a1 a2 a3 σ) (fun σ14 => x_g (x_in ((100 * a2) + a4) 800) (if 1000000 ≤ (σ14 8 ((100 * a2) + a4).toNatClampNeg) then (some ((-1000000), σ14)) else (if a5 ≤ (a3 - a2) then (bX8_tell_97 a1 a2 a5 (σ14 8 ((100 * a2) + a4).toNatClampNeg) a4 (-1000000) a2 σ14) else (some ((-1000000), σ14)))))))))))))
def bX8_soonest_53 (K6 : Int32 → Int32 → Option Int32) (x1 : Int32) (x2 : Int32) (x3 : Int32) (x4 : Int32) (y0 : Int32) (σ : x_S) : Option Int32 :=
  if y0 = 0 then (K6 x3 (x4 + 1)) else (x_g (x_in (37 + x4) 1372) (K6 (σ 1 (37 + x4).toNatClampNeg) (x4 + 1)))
def bX8_soonest_52 (K6 : Int32 → Int32 → Option Int32) (x1 : Int32) (x2 : Int32) (x3 : Int32) (x4 : Int32) (σ : x_S) : Option Int32 :=
  bX8_soonest_53 K6 x1 x2 x3 x4 0 σ
def gX8_soonest_6 (x1 : Int32) (x2 : Int32) (K6 : Int32 → Int32 → Option Int32) (x3 : Int32) (x4 : Int32) (σ : x_S) : Option Int32 :=
  if (σ 1 (2 : Int32).toNatClampNeg) ≤ x4 then (some x3) else (x_p (fX8_tells x4 x1 x2 σ) (fun r4 => if r4 = 0 then (bX8_soonest_52 K6 x1 x2 x3 x4 σ) else (if x3 = (-1000000) then (bX8_soonest_53 K6 x1 x2 x3 x4 1 σ) else (x_g (x_in (37 + x4) 1372) (if x3 ≤ (σ 1 (37 + x4).toNatClampNeg) then (bX8_soonest_52 K6 x1 x2 x3 x4 σ) else (bX8_soonest_53 K6 x1 x2 x3 x4 1 σ))))))
def bX8_soonest_6 (x1 : Int32) (x2 : Int32) (x3 : Int32) (x4 : Int32) (σ : x_S) : Option Int32 :=
  x_fx (α := Int32 → Int32 → Option Int32) (fun _ _ => none) (fun K => fun x3 x4 => gX8_soonest_6  x1 x2 K x3 x4 σ) x_F x3 x4
def fX8_soonest (a1 : Int32) (a2 : Int32) (σ : x_S) : Option Int32 :=
  bX8_soonest_6 a1 a2 (-1000000) 0 σ
def gX8_shut_24 (x1 : Int32) (K24 : Int32 → Int32 → Option Int32) (x2 : Int32) (x3 : Int32) (σ : x_S) : Option Int32 :=
  if (σ 1 (1 : Int32).toNatClampNeg) ≤ x3 then (some x2) else (x_p (fX8_soonest x1 x3 σ) (fun r4 => if r4 = (-1000000) then (K24 (x2 ||| (1 <<< (x3 &&& 31))) (x3 + 1)) else (K24 (x2 ||| 0) (x3 + 1))))
def bX8_shut_24 (x1 : Int32) (x2 : Int32) (x3 : Int32) (σ : x_S) : Option Int32 :=
  x_fx (α := Int32 → Int32 → Option Int32) (fun _ _ => none) (fun K => fun x2 x3 => gX8_shut_24  x1 K x2 x3 σ) x_F x2 x3
def fX8_shut (a1 : Int32) (σ : x_S) : Option Int32 :=
  if (σ 0 1) = 0 then (some (-1000002)) else (x_p (fX8_isMeans a1 σ) (fun r3 => if r3 = 0 then (some (-1000001)) else (bX8_shut_24 a1 0 0 σ)))
def gX8_quick_25 (x1 : Int32) (x3 : Int32) (K25 : Int32 → Int32 → Option Int32) (x4 : Int32) (x5 : Int32) (σ : x_S) : Option Int32 :=
  if x3 < x5 then (some x4) else (x_p (fX8_soonest x1 x5 σ) (fun r3 => if r3 = (-1000000) then (some (-1000000)) else (x_p (fX8_soonest x1 x5 σ) (fun r6 => K25 (x4 + r6) (x5 + 1)))))
def bX8_quick_25 (x1 : Int32) (x3 : Int32) (x4 : Int32) (x5 : Int32) (σ : x_S) : Option Int32 :=
  x_fx (α := Int32 → Int32 → Option Int32) (fun _ _ => none) (fun K => fun x4 x5 => gX8_quick_25  x1 x3 K x4 x5 σ) x_F x4 x5
def fX8_quick (a1 : Int32) (a2 : Int32) (a3 : Int32) (σ : x_S) : Option Int32 :=
  x_p (fX8_isMeans a1 σ) (fun r2 => if r2 = 0 then (some (-1000001)) else (x_p (fX8_areStreets a2 a3 σ) (fun r5 => if r5 = 0 then (some (-1000001)) else (bX8_quick_25 a1 a3 0 a2 σ))))
def gX8_noPairs_39 (x1 : Int32) (x2 : Int32) (x3 : Int32) (K39 : Int32 → Int32 → x_S → Option (Int32 × x_S)) (x4 : Int32) (x5 : Int32) (σ : x_S) : Option (Int32 × x_S) :=
  if x3 ≤ x5 then (if x4 = 0 then (some ((-1000001), σ)) else (some (0, σ))) else (if x4 = 0 then (K39 0 (x5 + 1) σ) else (x_g (x_in (((40 * x1) + x2) + (2 * x5)) 320) (x_p (fX8_isStreet (σ 5 (((40 * x1) + x2) + (2 * x5)).toNatClampNeg) σ) (fun r6 => if r6 = 0 then (K39 0 (x5 + 1) σ) else (K39 1 (x5 + 1) σ)))))
def bX8_noPairs_39 (x1 : Int32) (x2 : Int32) (x3 : Int32) (x4 : Int32) (x5 : Int32) (σ : x_S) : Option (Int32 × x_S) :=
  x_fx (α := Int32 → Int32 → x_S → Option (Int32 × x_S)) (fun _ _ _ => none) (fun K => fun x4 x5 σ => gX8_noPairs_39  x1 x2 x3 K x4 x5 σ) x_F x4 x5 σ
def fX8_noPairs (a1 : Int32) (a2 : Int32) (a3 : Int32) (σ : x_S) : Option (Int32 × x_S) :=
  x_g (x_in a1 8) (if 0 ≤ (σ 4 a1.toNatClampNeg) then (x_p (fX8_isSpan a1 a2 (2 * a3) σ) (fun r4 => if r4 = 0 then (x_b (fX8_find 2 σ) (fun r7 σ8 => some (r7, σ8))) else (bX8_noPairs_39 a1 a2 a3 1 0 σ))) else (x_b (fX8_find 1 σ) (fun r10 σ11 => some (r10, σ11))))
def gX8_owesSo_12 (x1 : Int32) (x2 : Int32) (x3 : Int32) (x4 : Int32) (x5 : Int32) (K12 : Int32 → Int32 → Option Int32) (x6 : Int32) (x7 : Int32) (σ : x_S) : Option Int32 :=
  if (((40 * x3) + x4) + (2 * x5)) ≤ x7 then (x_g (x6 &&& 1 = x6) (some x6)) else (if x6 = 0 then (K12 0 (x7 + 2)) else (x_g (x_in x7 320) (x_p (fX8_owes x1 x2 (σ 5 x7.toNatClampNeg) σ) (fun r6 => x_g (x_in (x7 + 1) 320) (if r6 = (σ 5 (x7 + 1).toNatClampNeg) then (K12 1 (x7 + 2)) else (K12 0 (x7 + 2)))))))
def bX8_owesSo_12 (x1 : Int32) (x2 : Int32) (x3 : Int32) (x4 : Int32) (x5 : Int32) (x6 : Int32) (x7 : Int32) (σ : x_S) : Option Int32 :=
  x_fx (α := Int32 → Int32 → Option Int32) (fun _ _ => none) (fun K => fun x6 x7 => gX8_owesSo_12  x1 x2 x3 x4 x5 K x6 x7 σ) x_F x6 x7
def fX8_owesSo (a1 : Int32) (a2 : Int32) (a3 : Int32) (a4 : Int32) (a5 : Int32) (σ : x_S) : Option Int32 :=
  bX8_owesSo_12 a1 a2 a3 a4 a5 1 ((40 * a3) + a4) σ
def gX8_isSeenSo_11 (x1 : Int32) (x2 : Int32) (x3 : Int32) (x4 : Int32) (K11 : Int32 → Int32 → Option Int32) (x5 : Int32) (x6 : Int32) (σ : x_S) : Option Int32 :=
  if (((40 * x2) + x3) + (2 * x4)) ≤ x6 then (x_g (x5 &&& 1 = x5) (some x5)) else (if x5 = 0 then (K11 0 (x6 + 2)) else (x_g (x_in x6 320) (x_p (fX8_isSeen x1 (σ 5 x6.toNatClampNeg) σ) (fun r6 => if r6 = 0 then (K11 0 (x6 + 2)) else (K11 1 (x6 + 2))))))
def bX8_isSeenSo_11 (x1 : Int32) (x2 : Int32) (x3 : Int32) (x4 : Int32) (x5 : Int32) (x6 : Int32) (σ : x_S) : Option Int32 :=
  x_fx (α := Int32 → Int32 → Option Int32) (fun _ _ => none) (fun K => fun x5 x6 => gX8_isSeenSo_11  x1 x2 x3 x4 K x5 x6 σ) x_F x5 x6
def fX8_isSeenSo (a1 : Int32) (a2 : Int32) (a3 : Int32) (a4 : Int32) (σ : x_S) : Option Int32 :=
  bX8_isSeenSo_11 a1 a2 a3 a4 1 ((40 * a2) + a3) σ
def gX8_thread_55 (x1 : Int32) (x2 : Int32) (x3 : Int32) (K55 : Int32 → Int32 → x_S → Option (Int32 × x_S)) (x5 : Int32) (x6 : Int32) (σ : x_S) : Option (Int32 × x_S) :=
  if (σ 1 (2 : Int32).toNatClampNeg) ≤ x6 then (x_b (fX8_well x5 σ) (fun r4 σ5 => some (r4, σ5))) else (x_p (fX8_isSeenSo x6 x1 x2 x3 σ) (fun r7 => if r7 = 0 then (K55 (x5 ||| 0) (x6 + 1) σ) else (x_g (x_in (19 + x6) 1372) (x_g (x_in (25 + x6) 1372) (x_p (fX8_owesSo (σ 1 (19 + x6).toNatClampNeg) (σ 1 (25 + x6).toNatClampNeg) x1 x2 x3 σ) (fun r12 => if r12 = 0 then (K55 (x5 ||| 0) (x6 + 1) σ) else (K55 (x5 ||| (1 <<< (x6 &&& 31))) (x6 + 1) σ)))))))
def bX8_thread_55 (x1 : Int32) (x2 : Int32) (x3 : Int32) (x5 : Int32) (x6 : Int32) (σ : x_S) : Option (Int32 × x_S) :=
  x_fx (α := Int32 → Int32 → x_S → Option (Int32 × x_S)) (fun _ _ _ => none) (fun K => fun x5 x6 σ => gX8_thread_55  x1 x2 x3 K x5 x6 σ) x_F x5 x6 σ
def fX8_thread (a1 : Int32) (a2 : Int32) (a3 : Int32) (σ : x_S) : Option (Int32 × x_S) :=
  if (σ 0 1) = 0 then (some ((-1000002), σ)) else (x_p (fX8_isRow a1 σ) (fun r3 => if r3 = 0 then (some ((-1000001), σ)) else (x_p (fX8_in a3.toInt64 1 12 σ) (fun r6 => if r6 = 0 then (some ((-1000001), σ)) else (x_b (fX8_noPairs a1 a2 a3 σ) (fun r9 σ10 => if r9 = 0 then (bX8_thread_55 a1 a2 a3 0 0 σ10) else (some (r9, σ10))))))))
def gX8_inches_55 (x1 : Int32) (x2 : Int32) (x3 : Int32) (x4 : Int32) (K55 : Int32 → Int32 → x_S → Option (Int32 × x_S)) (x6 : Int32) (x7 : Int32) (σ : x_S) : Option (Int32 × x_S) :=
  if 30 ≤ x7 then (x_b (fX8_well x6 σ) (fun r3 σ4 => some (r3, σ4))) else (x_g (x_in (19 + x1) 1372) (x_p (fX8_owesSo (σ 1 (19 + x1).toNatClampNeg) (x7 + 1) x2 x3 x4 σ) (fun r7 => if r7 = 0 then (K55 (x6 ||| 0) (x7 + 1) σ) else (K55 (x6 ||| (1 <<< (x7 &&& 31))) (x7 + 1) σ))))
def bX8_inches_55 (x1 : Int32) (x2 : Int32) (x3 : Int32) (x4 : Int32) (x6 : Int32) (x7 : Int32) (σ : x_S) : Option (Int32 × x_S) :=
  x_fx (α := Int32 → Int32 → x_S → Option (Int32 × x_S)) (fun _ _ _ => none) (fun K => fun x6 x7 σ => gX8_inches_55  x1 x2 x3 x4 K x6 x7 σ) x_F x6 x7 σ
def fX8_inches (a1 : Int32) (a2 : Int32) (a3 : Int32) (a4 : Int32) (σ : x_S) : Option (Int32 × x_S) :=
  x_p (fX8_isGesture a1 σ) (fun r2 => if r2 = 0 then (some ((-1000001), σ)) else (x_p (fX8_isRow a2 σ) (fun r5 => if r5 = 0 then (some ((-1000001), σ)) else (x_p (fX8_in a4.toInt64 1 12 σ) (fun r8 => if r8 = 0 then (some ((-1000001), σ)) else (x_b (fX8_noPairs a2 a3 a4 σ) (fun r11 σ12 => if r11 = 0 then (bX8_inches_55 a1 a2 a3 a4 0 0 σ12) else (some (r11, σ12)))))))))
def gX8_sorts_55 (x1 : Int32) (x2 : Int32) (x3 : Int32) (x4 : Int32) (K55 : Int32 → Int32 → x_S → Option (Int32 × x_S)) (x6 : Int32) (x7 : Int32) (σ : x_S) : Option (Int32 × x_S) :=
  if 6 ≤ x7 then (x_b (fX8_well x6 σ) (fun r3 σ4 => some (r3, σ4))) else (x_g (x_in (25 + x1) 1372) (x_p (fX8_owesSo x7 (σ 1 (25 + x1).toNatClampNeg) x2 x3 x4 σ) (fun r7 => if r7 = 0 then (K55 (x6 ||| 0) (x7 + 1) σ) else (K55 (x6 ||| (1 <<< (x7 &&& 31))) (x7 + 1) σ))))
def bX8_sorts_55 (x1 : Int32) (x2 : Int32) (x3 : Int32) (x4 : Int32) (x6 : Int32) (x7 : Int32) (σ : x_S) : Option (Int32 × x_S) :=
  x_fx (α := Int32 → Int32 → x_S → Option (Int32 × x_S)) (fun _ _ _ => none) (fun K => fun x6 x7 σ => gX8_sorts_55  x1 x2 x3 x4 K x6 x7 σ) x_F x6 x7 σ
def fX8_sorts (a1 : Int32) (a2 : Int32) (a3 : Int32) (a4 : Int32) (σ : x_S) : Option (Int32 × x_S) :=
  x_p (fX8_isGesture a1 σ) (fun r2 => if r2 = 0 then (some ((-1000001), σ)) else (x_p (fX8_isRow a2 σ) (fun r5 => if r5 = 0 then (some ((-1000001), σ)) else (x_p (fX8_in a4.toInt64 1 12 σ) (fun r8 => if r8 = 0 then (some ((-1000001), σ)) else (x_b (fX8_noPairs a2 a3 a4 σ) (fun r11 σ12 => if r11 = 0 then (bX8_sorts_55 a1 a2 a3 a4 0 1 σ12) else (some (r11, σ12)))))))))
def gX8_saved_15 (x1 : Int32) (K15 : Int32 → Int32 → Option Int32) (x2 : Int32) (x3 : Int32) (σ : x_S) : Option Int32 :=
  if (σ 1 (1 : Int32).toNatClampNeg) ≤ x3 then (some x2) else (x_p (fX8_dutyOf x1 x3 σ) (fun r4 => x_g (x_in (19 + x1) 1372) (x_g (x_in (25 + x1) 1372) (x_p (fX8_plainDuty (σ 1 (19 + x1).toNatClampNeg) (σ 1 (25 + x1).toNatClampNeg) x3 σ) (fun r8 => K15 (x2 + (r4 - (r8 / 2))) (x3 + 1))))))
def bX8_saved_15 (x1 : Int32) (x2 : Int32) (x3 : Int32) (σ : x_S) : Option Int32 :=
  x_fx (α := Int32 → Int32 → Option Int32) (fun _ _ => none) (fun K => fun x2 x3 => gX8_saved_15  x1 K x2 x3 σ) x_F x2 x3
def fX8_saved (a1 : Int32) (σ : x_S) : Option Int32 :=
  x_p (fX8_isGesture a1 σ) (fun r2 => if r2 = 0 then (some (-1000001)) else (bX8_saved_15 a1 0 0 σ))
def bX8_worst_64 (K31 : Int32 → Int32 → Int32 → Option Int32) (x1 : Int32) (x2 : Int32) (x4 : Int32) (x5 : Int32) (x6 : Int32) (y0 : Int32) (σ : x_S) : Option Int32 :=
  if x6 ≤ x4 then (K31 y0 x4 (x5 + 1)) else (K31 y0 x6 (x5 + 1))
def gX8_worst_31 (x1 : Int32) (x2 : Int32) (K31 : Int32 → Int32 → Int32 → Option Int32) (x3 : Int32) (x4 : Int32) (x5 : Int32) (σ : x_S) : Option Int32 :=
  if (σ 1 (1 : Int32).toNatClampNeg) ≤ x5 then (if x2 = 0 then (some x3) else (some x4)) else (x_p (fX8_dutyOf x1 x5 σ) (fun r5 => if r5 ≤ x4 then (bX8_worst_64 K31 x1 x2 x4 x5 r5 x3 σ) else (bX8_worst_64 K31 x1 x2 x4 x5 r5 x5 σ)))
def bX8_worst_31 (x1 : Int32) (x2 : Int32) (x3 : Int32) (x4 : Int32) (x5 : Int32) (σ : x_S) : Option Int32 :=
  x_fx (α := Int32 → Int32 → Int32 → Option Int32) (fun _ _ _ => none) (fun K => fun x3 x4 x5 => gX8_worst_31  x1 x2 K x3 x4 x5 σ) x_F x3 x4 x5
def fX8_worst (a1 : Int32) (a2 : Int32) (σ : x_S) : Option Int32 :=
  x_p (fX8_isGesture a1 σ) (fun r2 => if r2 = 0 then (some (-1000001)) else (x_p (fX8_in a2.toInt64 0 1 σ) (fun r5 => if r5 = 0 then (some (-1000001)) else (bX8_worst_31 a1 a2 (-1000000) (-1000000) 0 σ))))
def gX8_tremble_214 (x6 : Int32) (x8 : Int32) (x9 : Int32) (K214 : Int32 → Int32 → Option Int32) (x10 : Int32) (x11 : Int32) (σ : x_S) : Option Int32 :=
  if x11 = 0 then (if x6 = 0 then (x_g (¬ x10 = 0) (some (x8 / x10))) else (x_g (¬ x10 = 0) (some (x9 / x10)))) else (x_g (¬ x11 = 0) (K214 x11 (x10 - x10 / x11 * x11)))
def bX8_tremble_214 (x6 : Int32) (x8 : Int32) (x9 : Int32) (x10 : Int32) (x11 : Int32) (σ : x_S) : Option Int32 :=
  x_fx (α := Int32 → Int32 → Option Int32) (fun _ _ => none) (fun K => fun x10 x11 => gX8_tremble_214  x6 x8 x9 K x10 x11 σ) x_F x10 x11
def bX8_tremble_190 (K73 : Int32 → Int32 → Int32 → Option Int32) (x1 : Int32) (x2 : Int32) (x4 : Int32) (x5 : Int32) (x6 : Int32) (x7 : Int32) (x9 : Int32) (x10 : Int32) (x11 : Int32) (y0 : Int32) (y1 : Int32) (σ : x_S) : Option Int32 :=
  K73 (y1 + y0) (x9 + x11) (x10 + 1)
def bX8_tremble_158 (K73 : Int32 → Int32 → Int32 → Option Int32) (K91 : Int32 → Int32 → Int32 → Option Int32) (x1 : Int32) (x2 : Int32) (x4 : Int32) (x5 : Int32) (x6 : Int32) (x7 : Int32) (x8 : Int32) (x9 : Int32) (x10 : Int32) (x11 : Int32) (x13 : Int32) (y0 : Int32) (y1 : Int32) (y2 : Int32) (y4 : Int32) (σ : x_S) : Option Int32 :=
  x_p (fX8_owes y2 (y1 + y0) (x2 + x13) σ) (fun r2 => K91 x11 (y4 + r2) (x13 + 1))
def bX8_tremble_124 (K73 : Int32 → Int32 → Int32 → Option Int32) (K91 : Int32 → Int32 → Int32 → Option Int32) (x1 : Int32) (x2 : Int32) (x4 : Int32) (x5 : Int32) (x6 : Int32) (x7 : Int32) (x8 : Int32) (x9 : Int32) (x10 : Int32) (x12 : Int32) (x13 : Int32) (x14 : Int32) (y0 : Int32) (y1 : Int32) (σ : x_S) : Option Int32 :=
  x_g (x_in (19 + x1) 1372) (x_g (x_in (25 + x1) 1372) (if x14 = 0 then (bX8_tremble_158 K73 K91 x1 x2 x4 x5 x6 x7 x8 x9 x10 (y1 * y0) x13 0 (σ 1 (25 + x1).toNatClampNeg) (σ 1 (19 + x1).toNatClampNeg) x12 σ) else (bX8_tremble_158 K73 K91 x1 x2 x4 x5 x6 x7 x8 x9 x10 (y1 * y0) x13 1 (σ 1 (25 + x1).toNatClampNeg) (σ 1 (19 + x1).toNatClampNeg) x12 σ)))
def gX8_tremble_91 (K73 : Int32 → Int32 → Int32 → Option Int32) (x1 : Int32) (x2 : Int32) (x4 : Int32) (x5 : Int32) (x6 : Int32) (x7 : Int32) (x8 : Int32) (x9 : Int32) (x10 : Int32) (K91 : Int32 → Int32 → Int32 → Option Int32) (x11 : Int32) (x12 : Int32) (x13 : Int32) (σ : x_S) : Option Int32 :=
  if x7 ≤ x13 then (if x4 < x12 then (bX8_tremble_190 K73 x1 x2 x4 x5 x6 x7 x9 x10 x11 0 x8 σ) else (bX8_tremble_190 K73 x1 x2 x4 x5 x6 x7 x9 x10 x11 x11 x8 σ)) else (x_p (fX8_has x10 x13 σ) (fun r4 => if r4 = 0 then (bX8_tremble_124 K73 K91 x1 x2 x4 x5 x6 x7 x8 x9 x10 x12 x13 r4 (10 - x5) x11 σ) else (bX8_tremble_124 K73 K91 x1 x2 x4 x5 x6 x7 x8 x9 x10 x12 x13 r4 x5 x11 σ)))
def bX8_tremble_91 (K73 : Int32 → Int32 → Int32 → Option Int32) (x1 : Int32) (x2 : Int32) (x4 : Int32) (x5 : Int32) (x6 : Int32) (x7 : Int32) (x8 : Int32) (x9 : Int32) (x10 : Int32) (x11 : Int32) (x12 : Int32) (x13 : Int32) (σ : x_S) : Option Int32 :=
  x_fx (α := Int32 → Int32 → Int32 → Option Int32) (fun _ _ _ => none) (fun K => fun x11 x12 x13 => gX8_tremble_91 K73 x1 x2 x4 x5 x6 x7 x8 x9 x10 K x11 x12 x13 σ) x_F x11 x12 x13
def gX8_tremble_73 (x1 : Int32) (x2 : Int32) (x4 : Int32) (x5 : Int32) (x6 : Int32) (x7 : Int32) (K73 : Int32 → Int32 → Int32 → Option Int32) (x8 : Int32) (x9 : Int32) (x10 : Int32) (σ : x_S) : Option Int32 :=
  if (1 <<< (x7 &&& 31)) ≤ x10 then (bX8_tremble_214 x6 x8 x9 x8 x9 σ) else (bX8_tremble_91 K73 x1 x2 x4 x5 x6 x7 x8 x9 x10 1 0 0 σ)
def bX8_tremble_73 (x1 : Int32) (x2 : Int32) (x4 : Int32) (x5 : Int32) (x6 : Int32) (x7 : Int32) (x8 : Int32) (x9 : Int32) (x10 : Int32) (σ : x_S) : Option Int32 :=
  x_fx (α := Int32 → Int32 → Int32 → Option Int32) (fun _ _ _ => none) (fun K => fun x8 x9 x10 => gX8_tremble_73  x1 x2 x4 x5 x6 x7 K x8 x9 x10 σ) x_F x8 x9 x10
def fX8_tremble (a1 : Int32) (a2 : Int32) (a3 : Int32) (a4 : Int32) (a5 : Int32) (a6 : Int32) (σ : x_S) : Option Int32 :=
  x_p (fX8_isGesture a1 σ) (fun r2 => if r2 = 0 then (some (-1000001)) else (x_p (fX8_areStreets a2 a3 σ) (fun r5 => if r5 = 0 then (some (-1000001)) else (x_p (fX8_in a4.toInt64 0 9999 σ) (fun r8 => if r8 = 0 then (some (-1000001)) else (x_p (fX8_in a5.toInt64 0 10 σ) (fun r11 => if r11 = 0 then (some (-1000001)) else (x_p (fX8_in a6.toInt64 0 1 σ) (fun r14 => if r14 = 0 then (some (-1000001)) else (bX8_tremble_73 a1 a2 a4 a5 a6 ((a3 - a2) + 1) 0 0 0 σ))))))))))
def fX8_image (a1 : Int32) (σ : x_S) : Option (Int32 × x_S) :=
  x_p (fX8_in a1.toInt64 0 1 σ) (fun r2 => if r2 = 0 then (some ((-1000001), σ)) else (if (σ 0 1) = 0 then (some ((-1000002), σ)) else (x_v (fX8_copyTown 0 (1225 + (49 * a1)) σ) (fun σ6 => x_g (x_in a1 2) (x_w (x_u σ6 2 a1.toNatClampNeg 1) (fun σ8 => some (1, σ8)))))))
def fX8_restore (a1 : Int32) (σ : x_S) : Option (Int32 × x_S) :=
  x_p (fX8_in a1.toInt64 0 1 σ) (fun r2 => if r2 = 0 then (some ((-1000001), σ)) else (x_g (x_in a1 2) (if (σ 2 a1.toNatClampNeg) = 0 then (some ((-1000002), σ)) else (x_v (fX8_copyTown (1225 + (49 * a1)) 0 σ) (fun σ7 => x_w (x_u σ7 0 2 0) (fun σ8 => some (1, σ8)))))))
def fX8_kind (a1 : Int32) (σ : x_S) : Option Int32 :=
  x_p (fX8_isGesture a1 σ) (fun r2 => if r2 = 0 then (some (-1000001)) else (x_g (x_in (19 + a1) 1372) (some (σ 1 (19 + a1).toNatClampNeg))))
def bX8_isOf_34 (x2 : Int32) (x3 : Int32) (σ : x_S) : Option Int32 :=
  if x2 = 4 then (if x3 = 5 then (some 1) else (some 0)) else (some 0)
def fX8_isOf (a1 : Int32) (a2 : Int32) (σ : x_S) : Option Int32 :=
  x_g (x_in (19 + a1) 1372) (if a2 = 0 then (some 1) else (if a2 = (σ 1 (19 + a1).toNatClampNeg) then (some 1) else (if a2 = 1 then (if (σ 1 (19 + a1).toNatClampNeg) = 2 then (some 1) else (if (σ 1 (19 + a1).toNatClampNeg) = 3 then (some 1) else (bX8_isOf_34 a2 (σ 1 (19 + a1).toNatClampNeg) σ))) else (bX8_isOf_34 a2 (σ 1 (19 + a1).toNatClampNeg) σ))))
def fX8_as (a1 : Int32) (a2 : Int32) (σ : x_S) : Option (Int32 × x_S) :=
  x_p (fX8_isGesture a1 σ) (fun r2 => if r2 = 0 then (some ((-1000001), σ)) else (x_p (fX8_in a2.toInt64 0 5 σ) (fun r5 => if r5 = 0 then (some ((-1000001), σ)) else (x_p (fX8_isOf a1 a2 σ) (fun r8 => if r8 = 0 then (x_b (fX8_find 3 σ) (fun r11 σ12 => some (r11, σ12))) else (x_b (fX8_well a1 σ) (fun r14 σ15 => some (r14, σ15))))))))
def fX8_begin (a1 : Int32) (σ : x_S) : Option x_S :=
  if 16 ≤ (σ 0 12) then (some σ) else (x_g (x_in (σ 0 12) 16) (x_w (x_u σ 7 (σ 0 12).toNatClampNeg a1) (fun σ3 => x_w (x_u σ3 0 12 ((σ3 0 12) + 1)) (fun σ5 => some σ5))))
def fX8_lentSize (a1 : Int32) (σ : x_S) : Option (Int32 × x_S) :=
  x_v (fX8_begin 10 σ) (fun σ2 => x_g (x_in (37 + a1) 1372) (some ((σ2 1 (37 + a1).toNatClampNeg), σ2)))
def fX8_lentMark (a1 : Int32) (σ : x_S) : Option (Int32 × x_S) :=
  x_v (fX8_begin 20 σ) (fun σ2 => some (a1, σ2))
def fX8_wavesMark (a1 : Int32) (σ : x_S) : Option (Int32 × x_S) :=
  x_v (fX8_begin 21 σ) (fun σ2 => x_b (fX8_lentMark a1 σ2) (fun r4 σ5 => x_g (x_in (25 + a1) 1372) (some ((r4 + (σ5 1 (25 + a1).toNatClampNeg)), σ5))))
def fX8_mark (a1 : Int32) (σ : x_S) : Option (Int32 × x_S) :=
  x_g (x_in (19 + a1) 1372) (if (σ 1 (19 + a1).toNatClampNeg) = 2 then (x_v (fX8_begin 24 σ) (fun σ4 => x_b (fX8_wavesMark a1 σ4) (fun r6 σ7 => some ((2 * r6), σ7)))) else (if (σ 1 (19 + a1).toNatClampNeg) = 3 then (x_v (fX8_begin 22 σ) (fun σ10 => x_b (fX8_wavesMark a1 σ10) (fun r12 σ13 => some ((r12 - 1000), σ13)))) else (x_b (fX8_wavesMark a1 σ) (fun r15 σ16 => some (r15, σ16)))))
def fX8_wavesSize (a1 : Int32) (σ : x_S) : Option (Int32 × x_S) :=
  x_v (fX8_begin 11 σ) (fun σ2 => x_b (fX8_lentSize a1 σ2) (fun r4 σ5 => x_b (fX8_mark a1 σ5) (fun r7 σ8 => some ((r4 + r7), σ8))))
def fX8_winksSize (a1 : Int32) (σ : x_S) : Option (Int32 × x_S) :=
  x_v (fX8_begin 13 σ) (fun σ2 => x_b (fX8_lentSize a1 σ2) (fun r4 σ5 => some ((r4 - 100), σ5)))
def fX8_sizeOf (a1 : Int32) (σ : x_S) : Option (Int32 × x_S) :=
  x_g (x_in (19 + a1) 1372) (if (σ 1 (19 + a1).toNatClampNeg) = 2 then (x_v (fX8_begin 12 σ) (fun σ4 => x_b (fX8_wavesSize a1 σ4) (fun r6 σ7 => some ((-r6), σ7)))) else (if (σ 1 (19 + a1).toNatClampNeg) = 3 then (x_b (fX8_wavesSize a1 σ) (fun r10 σ11 => some (r10, σ11))) else (if (σ 1 (19 + a1).toNatClampNeg) = 4 then (x_b (fX8_winksSize a1 σ) (fun r14 σ15 => some (r14, σ15))) else (if (σ 1 (19 + a1).toNatClampNeg) = 5 then (x_v (fX8_begin 14 σ) (fun σ18 => x_b (fX8_winksSize a1 σ18) (fun r20 σ21 => some ((2 * r20), σ21)))) else (x_b (fX8_wavesSize a1 σ) (fun r23 σ24 => some (r23, σ24)))))))
def fX8_winksMark (a1 : Int32) (σ : x_S) : Option (Int32 × x_S) :=
  x_v (fX8_begin 23 σ) (fun σ2 => x_b (fX8_lentMark a1 σ2) (fun r4 σ5 => x_b (fX8_sizeOf a1 σ5) (fun r7 σ8 => some ((r4 - r7), σ8))))
def fX8_ask (a1 : Int32) (a2 : Int32) (σ : x_S) : Option (Int32 × x_S) :=
  x_p (fX8_isGesture a1 σ) (fun r2 => if r2 = 0 then (some ((-1000001), σ)) else (x_p (fX8_in a2.toInt64 0 1 σ) (fun r5 => if r5 = 0 then (some ((-1000001), σ)) else (x_w (x_u σ 0 12 0) (fun σ7 => if a2 = 0 then (x_b (fX8_sizeOf a1 σ7) (fun r20 σ21 => some (r20, σ21))) else (x_p (fX8_isOf a1 4 σ7) (fun r11 => if r11 = 0 then (x_b (fX8_mark a1 σ7) (fun r14 σ15 => some (r14, σ15))) else (x_b (fX8_winksMark a1 σ7) (fun r17 σ18 => some (r17, σ18))))))))))
def fX8_trace (a1 : Int32) (σ : x_S) : Option Int32 :=
  x_p (fX8_in a1.toInt64 0 (((σ 0 12) - 1).toInt64) σ) (fun r2 => if r2 = 0 then (some (-1000000)) else (x_g (x_in a1 16) (some (σ 7 a1.toNatClampNeg))))
def gX8_count_50 (K50 : Int32 → Int32 → Option Int32) (x2 : Int32) (x3 : Int32) (σ : x_S) : Option Int32 :=
  if 8 ≤ x3 then (some x2) else (x_g (x_in x3 8) (if 0 ≤ (σ 4 x3.toNatClampNeg) then (K50 (x2 + 1) (x3 + 1)) else (K50 (x2 + 0) (x3 + 1))))
def bX8_count_50 (x2 : Int32) (x3 : Int32) (σ : x_S) : Option Int32 :=
  x_fx (α := Int32 → Int32 → Option Int32) (fun _ _ => none) (fun K => fun x2 x3 => gX8_count_50   K x2 x3 σ) x_F x2 x3
def fX8_count (a1 : Int32) (σ : x_S) : Option Int32 :=
  if a1 = 0 then (bX8_count_50 0 0 σ) else (if a1 = 1 then (some (σ 1 (1 : Int32).toNatClampNeg)) else (if a1 = 2 then (some (σ 1 (2 : Int32).toNatClampNeg)) else (if a1 = 3 then (some (σ 1 (3 : Int32).toNatClampNeg)) else (if a1 = 4 then (some (σ 1 (0 : Int32).toNatClampNeg)) else (if a1 = 5 then (x_p (fX8_bits (σ 1 (4 : Int32).toNatClampNeg) σ) (fun r13 => some r13)) else (if a1 = 6 then (some (σ 0 2)) else (if a1 = 7 then (some (σ 0 8)) else (some (-1000001)))))))))
def fX8_status (σ : x_S) : Option Int32 :=
  some (σ 0 10)
end
