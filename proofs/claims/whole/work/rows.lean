section
-- ===== PART A: goes FIRST, ahead of the names: the tables' words, and 'selects' of the private methods out of them =====
/-- a private method of a class that the tables say can be made, by its rows of tables_1 -/
def lw_okq (q : MethodName × Nat) : Prop := (q.1.cls ≠ "java/lang/invoke/MethodHandle" ∧ q.1.cls ≠ "java/lang/invoke/VarHandle") ∧ Cond.instantiable q.1.cls q.2 ∈ tables_1 ∧ Cond.privateMethod q.1 ∈ tables_1 ∧ Cond.instanceMethod q.1 ∈ tables_1
theorem lw_p0 : lw_okq (⟨"SignDuty", "found", "(I)I"⟩, 9) := ⟨⟨by decide +kernel, by decide +kernel⟩, List.mem_of_getElem? (i := 14) (by decide +kernel), List.mem_of_getElem? (i := 233) (by decide +kernel), List.mem_of_getElem? (i := 234) (by decide +kernel)⟩
theorem lw_p1 : lw_okq (⟨"SignDuty", "foundNothing", "(I)I"⟩, 9) := ⟨⟨by decide +kernel, by decide +kernel⟩, List.mem_of_getElem? (i := 14) (by decide +kernel), List.mem_of_getElem? (i := 242) (by decide +kernel), List.mem_of_getElem? (i := 243) (by decide +kernel)⟩
theorem lw_p2 : lw_okq (⟨"SignDuty$Reader", "readLaw", "(LSignDuty$City;)V"⟩, 6) := ⟨⟨by decide +kernel, by decide +kernel⟩, List.mem_of_getElem? (i := 41) (by decide +kernel), List.mem_of_getElem? (i := 316) (by decide +kernel), List.mem_of_getElem? (i := 317) (by decide +kernel)⟩
theorem lw_p3 : lw_okq (⟨"SignDuty$Reader", "readSign", "(I)V"⟩, 6) := ⟨⟨by decide +kernel, by decide +kernel⟩, List.mem_of_getElem? (i := 41) (by decide +kernel), List.mem_of_getElem? (i := 320) (by decide +kernel), List.mem_of_getElem? (i := 321) (by decide +kernel)⟩
theorem lw_p4 : lw_okq (⟨"SignDuty$Reader", "next", "()I"⟩, 6) := ⟨⟨by decide +kernel, by decide +kernel⟩, List.mem_of_getElem? (i := 41) (by decide +kernel), List.mem_of_getElem? (i := 324) (by decide +kernel), List.mem_of_getElem? (i := 325) (by decide +kernel)⟩
theorem lw_p5 : lw_okq (⟨"SignDuty$Reader", "fail", "(I)V"⟩, 6) := ⟨⟨by decide +kernel, by decide +kernel⟩, List.mem_of_getElem? (i := 41) (by decide +kernel), List.mem_of_getElem? (i := 328) (by decide +kernel), List.mem_of_getElem? (i := 329) (by decide +kernel)⟩
theorem lw_p6 : lw_okq (⟨"SignDuty$Reader", "failAt", "(II)V"⟩, 6) := ⟨⟨by decide +kernel, by decide +kernel⟩, List.mem_of_getElem? (i := 41) (by decide +kernel), List.mem_of_getElem? (i := 332) (by decide +kernel), List.mem_of_getElem? (i := 333) (by decide +kernel)⟩
theorem lw_p7 : lw_okq (⟨"SignDuty$Reader", "readNumber", "(II)I"⟩, 6) := ⟨⟨by decide +kernel, by decide +kernel⟩, List.mem_of_getElem? (i := 41) (by decide +kernel), List.mem_of_getElem? (i := 336) (by decide +kernel), List.mem_of_getElem? (i := 337) (by decide +kernel)⟩
theorem lw_p8 : lw_okq (⟨"SignDuty$Reader", "readStreet", "(LSignDuty$City;)V"⟩, 6) := ⟨⟨by decide +kernel, by decide +kernel⟩, List.mem_of_getElem? (i := 41) (by decide +kernel), List.mem_of_getElem? (i := 345) (by decide +kernel), List.mem_of_getElem? (i := 346) (by decide +kernel)⟩
theorem lw_p9 : lw_okq (⟨"SignDuty$Reader", "readGesture", "(LSignDuty$City;)V"⟩, 6) := ⟨⟨by decide +kernel, by decide +kernel⟩, List.mem_of_getElem? (i := 41) (by decide +kernel), List.mem_of_getElem? (i := 352) (by decide +kernel), List.mem_of_getElem? (i := 353) (by decide +kernel)⟩
theorem lw_p10 : lw_okq (⟨"SignDuty", "isGesture", "(I)Z"⟩, 9) := ⟨⟨by decide +kernel, by decide +kernel⟩, List.mem_of_getElem? (i := 14) (by decide +kernel), List.mem_of_getElem? (i := 374) (by decide +kernel), List.mem_of_getElem? (i := 375) (by decide +kernel)⟩
theorem lw_p11 : lw_okq (⟨"SignDuty", "isStreet", "(I)Z"⟩, 9) := ⟨⟨by decide +kernel, by decide +kernel⟩, List.mem_of_getElem? (i := 14) (by decide +kernel), List.mem_of_getElem? (i := 378) (by decide +kernel), List.mem_of_getElem? (i := 379) (by decide +kernel)⟩
theorem lw_p12 : lw_okq (⟨"SignDuty$City", "owesUnknown", "(III)I"⟩, 13) := ⟨⟨by decide +kernel, by decide +kernel⟩, List.mem_of_getElem? (i := 69) (by decide +kernel), List.mem_of_getElem? (i := 395) (by decide +kernel), List.mem_of_getElem? (i := 396) (by decide +kernel)⟩
theorem lw_p13 : lw_okq (⟨"SignDuty", "isStretch", "(II)Z"⟩, 9) := ⟨⟨by decide +kernel, by decide +kernel⟩, List.mem_of_getElem? (i := 14) (by decide +kernel), List.mem_of_getElem? (i := 468) (by decide +kernel), List.mem_of_getElem? (i := 469) (by decide +kernel)⟩
theorem lw_p14 : lw_okq (⟨"SignDuty$Teller", "fill", "(LSignDuty$City;IIII)V"⟩, 1) := ⟨⟨by decide +kernel, by decide +kernel⟩, List.mem_of_getElem? (i := 170) (by decide +kernel), List.mem_of_getElem? (i := 476) (by decide +kernel), List.mem_of_getElem? (i := 477) (by decide +kernel)⟩
theorem lw_p15 : lw_okq (⟨"SignDuty$Teller", "offer", "(IIII)V"⟩, 1) := ⟨⟨by decide +kernel, by decide +kernel⟩, List.mem_of_getElem? (i := 170) (by decide +kernel), List.mem_of_getElem? (i := 486) (by decide +kernel), List.mem_of_getElem? (i := 487) (by decide +kernel)⟩
def lw_privs_1 : List (MethodName × Nat) := [(⟨"SignDuty", "found", "(I)I"⟩, 9), (⟨"SignDuty", "foundNothing", "(I)I"⟩, 9), (⟨"SignDuty$Reader", "readLaw", "(LSignDuty$City;)V"⟩, 6), (⟨"SignDuty$Reader", "readSign", "(I)V"⟩, 6), (⟨"SignDuty$Reader", "next", "()I"⟩, 6), (⟨"SignDuty$Reader", "fail", "(I)V"⟩, 6), (⟨"SignDuty$Reader", "failAt", "(II)V"⟩, 6), (⟨"SignDuty$Reader", "readNumber", "(II)I"⟩, 6), (⟨"SignDuty$Reader", "readStreet", "(LSignDuty$City;)V"⟩, 6), (⟨"SignDuty$Reader", "readGesture", "(LSignDuty$City;)V"⟩, 6), (⟨"SignDuty", "isGesture", "(I)Z"⟩, 9), (⟨"SignDuty", "isStreet", "(I)Z"⟩, 9), (⟨"SignDuty$City", "owesUnknown", "(III)I"⟩, 13), (⟨"SignDuty", "isStretch", "(II)Z"⟩, 9), (⟨"SignDuty$Teller", "fill", "(LSignDuty$City;IIII)V"⟩, 1), (⟨"SignDuty$Teller", "offer", "(IIII)V"⟩, 1)]
theorem lw_r1 : ∀ q ∈ lw_privs_1, lw_okq q := List.forall_mem_cons.mpr ⟨lw_p0, List.forall_mem_cons.mpr ⟨lw_p1, List.forall_mem_cons.mpr ⟨lw_p2, List.forall_mem_cons.mpr ⟨lw_p3, List.forall_mem_cons.mpr ⟨lw_p4, List.forall_mem_cons.mpr ⟨lw_p5, List.forall_mem_cons.mpr ⟨lw_p6, List.forall_mem_cons.mpr ⟨lw_p7, List.forall_mem_cons.mpr ⟨lw_p8, List.forall_mem_cons.mpr ⟨lw_p9, List.forall_mem_cons.mpr ⟨lw_p10, List.forall_mem_cons.mpr ⟨lw_p11, List.forall_mem_cons.mpr ⟨lw_p12, List.forall_mem_cons.mpr ⟨lw_p13, List.forall_mem_cons.mpr ⟨lw_p14, List.forall_mem_cons.mpr ⟨lw_p15, fun _ h => absurd h List.not_mem_nil⟩⟩⟩⟩⟩⟩⟩⟩⟩⟩⟩⟩⟩⟩⟩⟩
theorem lw_p16 : lw_okq (⟨"SignDuty$Teller", "firstOfCheapest", "(LSignDuty$City;III)I"⟩, 1) := ⟨⟨by decide +kernel, by decide +kernel⟩, List.mem_of_getElem? (i := 170) (by decide +kernel), List.mem_of_getElem? (i := 496) (by decide +kernel), List.mem_of_getElem? (i := 497) (by decide +kernel)⟩
theorem lw_p17 : lw_okq (⟨"SignDuty", "refusalOfThread", "(III)I"⟩, 9) := ⟨⟨by decide +kernel, by decide +kernel⟩, List.mem_of_getElem? (i := 14) (by decide +kernel), List.mem_of_getElem? (i := 524) (by decide +kernel), List.mem_of_getElem? (i := 525) (by decide +kernel)⟩
theorem lw_p18 : lw_okq (⟨"SignDuty", "owesAlong", "(IIIII)Z"⟩, 9) := ⟨⟨by decide +kernel, by decide +kernel⟩, List.mem_of_getElem? (i := 14) (by decide +kernel), List.mem_of_getElem? (i := 532) (by decide +kernel), List.mem_of_getElem? (i := 533) (by decide +kernel)⟩
theorem lw_p19 : lw_okq (⟨"SignDuty", "isSeenAlong", "(IIII)Z"⟩, 9) := ⟨⟨by decide +kernel, by decide +kernel⟩, List.mem_of_getElem? (i := 14) (by decide +kernel), List.mem_of_getElem? (i := 537) (by decide +kernel), List.mem_of_getElem? (i := 538) (by decide +kernel)⟩
theorem lw_p20 : lw_okq (⟨"SignDuty$Asks", "asked", "(LSignDuty$City;III)I"⟩, 2) := ⟨⟨by decide +kernel, by decide +kernel⟩, List.mem_of_getElem? (i := 181) (by decide +kernel), List.mem_of_getElem? (i := 609) (by decide +kernel), List.mem_of_getElem? (i := 610) (by decide +kernel)⟩
theorem lw_p21 : lw_okq (⟨"SignDuty$Asks", "given", "(ILSignDuty$City;II)I"⟩, 2) := ⟨⟨by decide +kernel, by decide +kernel⟩, List.mem_of_getElem? (i := 181) (by decide +kernel), List.mem_of_getElem? (i := 621) (by decide +kernel), List.mem_of_getElem? (i := 622) (by decide +kernel)⟩
theorem lw_p22 : lw_okq (⟨"SignDuty$Asks", "leave", "(I)V"⟩, 2) := ⟨⟨by decide +kernel, by decide +kernel⟩, List.mem_of_getElem? (i := 181) (by decide +kernel), List.mem_of_getElem? (i := 625) (by decide +kernel), List.mem_of_getElem? (i := 626) (by decide +kernel)⟩
theorem lw_p23 : lw_okq (⟨"SignDutyModel", "find", "(I)I"⟩, 17) := ⟨⟨by decide +kernel, by decide +kernel⟩, List.mem_of_getElem? (i := 656) (by decide +kernel), List.mem_of_getElem? (i := 728) (by decide +kernel), List.mem_of_getElem? (i := 729) (by decide +kernel)⟩
theorem lw_p24 : lw_okq (⟨"SignDutyModel", "well", "(I)I"⟩, 17) := ⟨⟨by decide +kernel, by decide +kernel⟩, List.mem_of_getElem? (i := 656) (by decide +kernel), List.mem_of_getElem? (i := 733) (by decide +kernel), List.mem_of_getElem? (i := 734) (by decide +kernel)⟩
theorem lw_p25 : lw_okq (⟨"SignDutyModel", "isSpan", "(III)Z"⟩, 17) := ⟨⟨by decide +kernel, by decide +kernel⟩, List.mem_of_getElem? (i := 656) (by decide +kernel), List.mem_of_getElem? (i := 748) (by decide +kernel), List.mem_of_getElem? (i := 749) (by decide +kernel)⟩
theorem lw_p26 : lw_okq (⟨"SignDutyModel", "reads", "()Z"⟩, 17) := ⟨⟨by decide +kernel, by decide +kernel⟩, List.mem_of_getElem? (i := 656) (by decide +kernel), List.mem_of_getElem? (i := 766) (by decide +kernel), List.mem_of_getElem? (i := 767) (by decide +kernel)⟩
theorem lw_p27 : lw_okq (⟨"SignDutyModel", "readsLaw", "()Z"⟩, 17) := ⟨⟨by decide +kernel, by decide +kernel⟩, List.mem_of_getElem? (i := 656) (by decide +kernel), List.mem_of_getElem? (i := 770) (by decide +kernel), List.mem_of_getElem? (i := 771) (by decide +kernel)⟩
theorem lw_p28 : lw_okq (⟨"SignDutyModel", "sign", "(I)Z"⟩, 17) := ⟨⟨by decide +kernel, by decide +kernel⟩, List.mem_of_getElem? (i := 656) (by decide +kernel), List.mem_of_getElem? (i := 774) (by decide +kernel), List.mem_of_getElem? (i := 775) (by decide +kernel)⟩
theorem lw_p29 : lw_okq (⟨"SignDutyModel", "isLetter", "(I)Z"⟩, 17) := ⟨⟨by decide +kernel, by decide +kernel⟩, List.mem_of_getElem? (i := 656) (by decide +kernel), List.mem_of_getElem? (i := 778) (by decide +kernel), List.mem_of_getElem? (i := 779) (by decide +kernel)⟩
theorem lw_p30 : lw_okq (⟨"SignDutyModel", "refuse", "(I)Z"⟩, 17) := ⟨⟨by decide +kernel, by decide +kernel⟩, List.mem_of_getElem? (i := 656) (by decide +kernel), List.mem_of_getElem? (i := 782) (by decide +kernel), List.mem_of_getElem? (i := 783) (by decide +kernel)⟩
theorem lw_p31 : lw_okq (⟨"SignDutyModel", "readsNumber", "(II)Z"⟩, 17) := ⟨⟨by decide +kernel, by decide +kernel⟩, List.mem_of_getElem? (i := 656) (by decide +kernel), List.mem_of_getElem? (i := 786) (by decide +kernel), List.mem_of_getElem? (i := 787) (by decide +kernel)⟩
def lw_privs_2 : List (MethodName × Nat) := [(⟨"SignDuty$Teller", "firstOfCheapest", "(LSignDuty$City;III)I"⟩, 1), (⟨"SignDuty", "refusalOfThread", "(III)I"⟩, 9), (⟨"SignDuty", "owesAlong", "(IIIII)Z"⟩, 9), (⟨"SignDuty", "isSeenAlong", "(IIII)Z"⟩, 9), (⟨"SignDuty$Asks", "asked", "(LSignDuty$City;III)I"⟩, 2), (⟨"SignDuty$Asks", "given", "(ILSignDuty$City;II)I"⟩, 2), (⟨"SignDuty$Asks", "leave", "(I)V"⟩, 2), (⟨"SignDutyModel", "find", "(I)I"⟩, 17), (⟨"SignDutyModel", "well", "(I)I"⟩, 17), (⟨"SignDutyModel", "isSpan", "(III)Z"⟩, 17), (⟨"SignDutyModel", "reads", "()Z"⟩, 17), (⟨"SignDutyModel", "readsLaw", "()Z"⟩, 17), (⟨"SignDutyModel", "sign", "(I)Z"⟩, 17), (⟨"SignDutyModel", "isLetter", "(I)Z"⟩, 17), (⟨"SignDutyModel", "refuse", "(I)Z"⟩, 17), (⟨"SignDutyModel", "readsNumber", "(II)Z"⟩, 17)]
theorem lw_r2 : ∀ q ∈ lw_privs_2, lw_okq q := List.forall_mem_cons.mpr ⟨lw_p16, List.forall_mem_cons.mpr ⟨lw_p17, List.forall_mem_cons.mpr ⟨lw_p18, List.forall_mem_cons.mpr ⟨lw_p19, List.forall_mem_cons.mpr ⟨lw_p20, List.forall_mem_cons.mpr ⟨lw_p21, List.forall_mem_cons.mpr ⟨lw_p22, List.forall_mem_cons.mpr ⟨lw_p23, List.forall_mem_cons.mpr ⟨lw_p24, List.forall_mem_cons.mpr ⟨lw_p25, List.forall_mem_cons.mpr ⟨lw_p26, List.forall_mem_cons.mpr ⟨lw_p27, List.forall_mem_cons.mpr ⟨lw_p28, List.forall_mem_cons.mpr ⟨lw_p29, List.forall_mem_cons.mpr ⟨lw_p30, List.forall_mem_cons.mpr ⟨lw_p31, fun _ h => absurd h List.not_mem_nil⟩⟩⟩⟩⟩⟩⟩⟩⟩⟩⟩⟩⟩⟩⟩⟩
theorem lw_p32 : lw_okq (⟨"SignDutyModel", "isFigure", "(I)Z"⟩, 17) := ⟨⟨by decide +kernel, by decide +kernel⟩, List.mem_of_getElem? (i := 656) (by decide +kernel), List.mem_of_getElem? (i := 790) (by decide +kernel), List.mem_of_getElem? (i := 791) (by decide +kernel)⟩
theorem lw_p33 : lw_okq (⟨"SignDutyModel", "readsStreet", "()Z"⟩, 17) := ⟨⟨by decide +kernel, by decide +kernel⟩, List.mem_of_getElem? (i := 656) (by decide +kernel), List.mem_of_getElem? (i := 796) (by decide +kernel), List.mem_of_getElem? (i := 797) (by decide +kernel)⟩
theorem lw_p34 : lw_okq (⟨"SignDutyModel", "readsGesture", "()Z"⟩, 17) := ⟨⟨by decide +kernel, by decide +kernel⟩, List.mem_of_getElem? (i := 656) (by decide +kernel), List.mem_of_getElem? (i := 803) (by decide +kernel), List.mem_of_getElem? (i := 804) (by decide +kernel)⟩
theorem lw_p35 : lw_okq (⟨"SignDutyModel", "copyTown", "(II)V"⟩, 17) := ⟨⟨by decide +kernel, by decide +kernel⟩, List.mem_of_getElem? (i := 656) (by decide +kernel), List.mem_of_getElem? (i := 808) (by decide +kernel), List.mem_of_getElem? (i := 809) (by decide +kernel)⟩
theorem lw_p36 : lw_okq (⟨"SignDutyModel", "isGesture", "(I)Z"⟩, 17) := ⟨⟨by decide +kernel, by decide +kernel⟩, List.mem_of_getElem? (i := 656) (by decide +kernel), List.mem_of_getElem? (i := 825) (by decide +kernel), List.mem_of_getElem? (i := 826) (by decide +kernel)⟩
theorem lw_p37 : lw_okq (⟨"SignDutyModel", "isStreet", "(I)Z"⟩, 17) := ⟨⟨by decide +kernel, by decide +kernel⟩, List.mem_of_getElem? (i := 656) (by decide +kernel), List.mem_of_getElem? (i := 829) (by decide +kernel), List.mem_of_getElem? (i := 830) (by decide +kernel)⟩
theorem lw_p38 : lw_okq (⟨"SignDutyModel", "isSeen", "(II)Z"⟩, 17) := ⟨⟨by decide +kernel, by decide +kernel⟩, List.mem_of_getElem? (i := 656) (by decide +kernel), List.mem_of_getElem? (i := 833) (by decide +kernel), List.mem_of_getElem? (i := 834) (by decide +kernel)⟩
theorem lw_p39 : lw_okq (⟨"SignDutyModel", "dutyOf", "(II)I"⟩, 17) := ⟨⟨by decide +kernel, by decide +kernel⟩, List.mem_of_getElem? (i := 656) (by decide +kernel), List.mem_of_getElem? (i := 837) (by decide +kernel), List.mem_of_getElem? (i := 838) (by decide +kernel)⟩
theorem lw_p40 : lw_okq (⟨"SignDutyModel", "owes", "(III)I"⟩, 17) := ⟨⟨by decide +kernel, by decide +kernel⟩, List.mem_of_getElem? (i := 656) (by decide +kernel), List.mem_of_getElem? (i := 841) (by decide +kernel), List.mem_of_getElem? (i := 842) (by decide +kernel)⟩
theorem lw_p41 : lw_okq (⟨"SignDutyModel", "plainDuty", "(III)I"⟩, 17) := ⟨⟨by decide +kernel, by decide +kernel⟩, List.mem_of_getElem? (i := 656) (by decide +kernel), List.mem_of_getElem? (i := 845) (by decide +kernel), List.mem_of_getElem? (i := 846) (by decide +kernel)⟩
theorem lw_p42 : lw_okq (⟨"SignDutyModel", "wave", "(II)I"⟩, 17) := ⟨⟨by decide +kernel, by decide +kernel⟩, List.mem_of_getElem? (i := 656) (by decide +kernel), List.mem_of_getElem? (i := 849) (by decide +kernel), List.mem_of_getElem? (i := 850) (by decide +kernel)⟩
theorem lw_p43 : lw_okq (⟨"SignDutyModel", "keepPast", "()V"⟩, 17) := ⟨⟨by decide +kernel, by decide +kernel⟩, List.mem_of_getElem? (i := 656) (by decide +kernel), List.mem_of_getElem? (i := 857) (by decide +kernel), List.mem_of_getElem? (i := 858) (by decide +kernel)⟩
theorem lw_p44 : lw_okq (⟨"SignDutyModel", "seenStreets", "(I)I"⟩, 17) := ⟨⟨by decide +kernel, by decide +kernel⟩, List.mem_of_getElem? (i := 656) (by decide +kernel), List.mem_of_getElem? (i := 879) (by decide +kernel), List.mem_of_getElem? (i := 880) (by decide +kernel)⟩
theorem lw_p45 : lw_okq (⟨"SignDutyModel", "seenGestures", "(I)I"⟩, 17) := ⟨⟨by decide +kernel, by decide +kernel⟩, List.mem_of_getElem? (i := 656) (by decide +kernel), List.mem_of_getElem? (i := 887) (by decide +kernel), List.mem_of_getElem? (i := 888) (by decide +kernel)⟩
theorem lw_p46 : lw_okq (⟨"SignDutyModel", "areStreets", "(II)Z"⟩, 17) := ⟨⟨by decide +kernel, by decide +kernel⟩, List.mem_of_getElem? (i := 656) (by decide +kernel), List.mem_of_getElem? (i := 903) (by decide +kernel), List.mem_of_getElem? (i := 904) (by decide +kernel)⟩
theorem lw_p47 : lw_okq (⟨"SignDutyModel", "layCosts", "(III)V"⟩, 17) := ⟨⟨by decide +kernel, by decide +kernel⟩, List.mem_of_getElem? (i := 656) (by decide +kernel), List.mem_of_getElem? (i := 910) (by decide +kernel), List.mem_of_getElem? (i := 911) (by decide +kernel)⟩
def lw_privs_3 : List (MethodName × Nat) := [(⟨"SignDutyModel", "isFigure", "(I)Z"⟩, 17), (⟨"SignDutyModel", "readsStreet", "()Z"⟩, 17), (⟨"SignDutyModel", "readsGesture", "()Z"⟩, 17), (⟨"SignDutyModel", "copyTown", "(II)V"⟩, 17), (⟨"SignDutyModel", "isGesture", "(I)Z"⟩, 17), (⟨"SignDutyModel", "isStreet", "(I)Z"⟩, 17), (⟨"SignDutyModel", "isSeen", "(II)Z"⟩, 17), (⟨"SignDutyModel", "dutyOf", "(II)I"⟩, 17), (⟨"SignDutyModel", "owes", "(III)I"⟩, 17), (⟨"SignDutyModel", "plainDuty", "(III)I"⟩, 17), (⟨"SignDutyModel", "wave", "(II)I"⟩, 17), (⟨"SignDutyModel", "keepPast", "()V"⟩, 17), (⟨"SignDutyModel", "seenStreets", "(I)I"⟩, 17), (⟨"SignDutyModel", "seenGestures", "(I)I"⟩, 17), (⟨"SignDutyModel", "areStreets", "(II)Z"⟩, 17), (⟨"SignDutyModel", "layCosts", "(III)V"⟩, 17)]
theorem lw_r3 : ∀ q ∈ lw_privs_3, lw_okq q := List.forall_mem_cons.mpr ⟨lw_p32, List.forall_mem_cons.mpr ⟨lw_p33, List.forall_mem_cons.mpr ⟨lw_p34, List.forall_mem_cons.mpr ⟨lw_p35, List.forall_mem_cons.mpr ⟨lw_p36, List.forall_mem_cons.mpr ⟨lw_p37, List.forall_mem_cons.mpr ⟨lw_p38, List.forall_mem_cons.mpr ⟨lw_p39, List.forall_mem_cons.mpr ⟨lw_p40, List.forall_mem_cons.mpr ⟨lw_p41, List.forall_mem_cons.mpr ⟨lw_p42, List.forall_mem_cons.mpr ⟨lw_p43, List.forall_mem_cons.mpr ⟨lw_p44, List.forall_mem_cons.mpr ⟨lw_p45, List.forall_mem_cons.mpr ⟨lw_p46, List.forall_mem_cons.mpr ⟨lw_p47, fun _ h => absurd h List.not_mem_nil⟩⟩⟩⟩⟩⟩⟩⟩⟩⟩⟩⟩⟩⟩⟩⟩
theorem lw_p48 : lw_okq (⟨"SignDutyModel", "onBy", "(IIII)I"⟩, 17) := ⟨⟨by decide +kernel, by decide +kernel⟩, List.mem_of_getElem? (i := 656) (by decide +kernel), List.mem_of_getElem? (i := 915) (by decide +kernel), List.mem_of_getElem? (i := 916) (by decide +kernel)⟩
theorem lw_p49 : lw_okq (⟨"SignDutyModel", "tells", "(III)Z"⟩, 17) := ⟨⟨by decide +kernel, by decide +kernel⟩, List.mem_of_getElem? (i := 656) (by decide +kernel), List.mem_of_getElem? (i := 919) (by decide +kernel), List.mem_of_getElem? (i := 920) (by decide +kernel)⟩
theorem lw_p50 : lw_okq (⟨"SignDutyModel", "soonest", "(II)I"⟩, 17) := ⟨⟨by decide +kernel, by decide +kernel⟩, List.mem_of_getElem? (i := 656) (by decide +kernel), List.mem_of_getElem? (i := 928) (by decide +kernel), List.mem_of_getElem? (i := 929) (by decide +kernel)⟩
theorem lw_p51 : lw_okq (⟨"SignDutyModel", "noPairs", "(III)I"⟩, 17) := ⟨⟨by decide +kernel, by decide +kernel⟩, List.mem_of_getElem? (i := 656) (by decide +kernel), List.mem_of_getElem? (i := 941) (by decide +kernel), List.mem_of_getElem? (i := 942) (by decide +kernel)⟩
theorem lw_p52 : lw_okq (⟨"SignDutyModel", "isSeenSo", "(IIII)Z"⟩, 17) := ⟨⟨by decide +kernel, by decide +kernel⟩, List.mem_of_getElem? (i := 656) (by decide +kernel), List.mem_of_getElem? (i := 945) (by decide +kernel), List.mem_of_getElem? (i := 946) (by decide +kernel)⟩
theorem lw_p53 : lw_okq (⟨"SignDutyModel", "owesSo", "(IIIII)Z"⟩, 17) := ⟨⟨by decide +kernel, by decide +kernel⟩, List.mem_of_getElem? (i := 656) (by decide +kernel), List.mem_of_getElem? (i := 949) (by decide +kernel), List.mem_of_getElem? (i := 950) (by decide +kernel)⟩
theorem lw_p54 : lw_okq (⟨"SignDutyModel", "isOf", "(II)Z"⟩, 17) := ⟨⟨by decide +kernel, by decide +kernel⟩, List.mem_of_getElem? (i := 656) (by decide +kernel), List.mem_of_getElem? (i := 992) (by decide +kernel), List.mem_of_getElem? (i := 993) (by decide +kernel)⟩
theorem lw_p55 : lw_okq (⟨"SignDutyModel", "sizeOf", "(I)I"⟩, 17) := ⟨⟨by decide +kernel, by decide +kernel⟩, List.mem_of_getElem? (i := 656) (by decide +kernel), List.mem_of_getElem? (i := 1000) (by decide +kernel), List.mem_of_getElem? (i := 1001) (by decide +kernel)⟩
theorem lw_p56 : lw_okq (⟨"SignDutyModel", "begin", "(I)V"⟩, 17) := ⟨⟨by decide +kernel, by decide +kernel⟩, List.mem_of_getElem? (i := 656) (by decide +kernel), List.mem_of_getElem? (i := 1004) (by decide +kernel), List.mem_of_getElem? (i := 1005) (by decide +kernel)⟩
theorem lw_p57 : lw_okq (⟨"SignDutyModel", "wavesSize", "(I)I"⟩, 17) := ⟨⟨by decide +kernel, by decide +kernel⟩, List.mem_of_getElem? (i := 656) (by decide +kernel), List.mem_of_getElem? (i := 1008) (by decide +kernel), List.mem_of_getElem? (i := 1009) (by decide +kernel)⟩
theorem lw_p58 : lw_okq (⟨"SignDutyModel", "lentSize", "(I)I"⟩, 17) := ⟨⟨by decide +kernel, by decide +kernel⟩, List.mem_of_getElem? (i := 656) (by decide +kernel), List.mem_of_getElem? (i := 1012) (by decide +kernel), List.mem_of_getElem? (i := 1013) (by decide +kernel)⟩
theorem lw_p59 : lw_okq (⟨"SignDutyModel", "mark", "(I)I"⟩, 17) := ⟨⟨by decide +kernel, by decide +kernel⟩, List.mem_of_getElem? (i := 656) (by decide +kernel), List.mem_of_getElem? (i := 1016) (by decide +kernel), List.mem_of_getElem? (i := 1017) (by decide +kernel)⟩
theorem lw_p60 : lw_okq (⟨"SignDutyModel", "wavesMark", "(I)I"⟩, 17) := ⟨⟨by decide +kernel, by decide +kernel⟩, List.mem_of_getElem? (i := 656) (by decide +kernel), List.mem_of_getElem? (i := 1020) (by decide +kernel), List.mem_of_getElem? (i := 1021) (by decide +kernel)⟩
theorem lw_p61 : lw_okq (⟨"SignDutyModel", "lentMark", "(I)I"⟩, 17) := ⟨⟨by decide +kernel, by decide +kernel⟩, List.mem_of_getElem? (i := 656) (by decide +kernel), List.mem_of_getElem? (i := 1024) (by decide +kernel), List.mem_of_getElem? (i := 1025) (by decide +kernel)⟩
theorem lw_p62 : lw_okq (⟨"SignDutyModel", "winksSize", "(I)I"⟩, 17) := ⟨⟨by decide +kernel, by decide +kernel⟩, List.mem_of_getElem? (i := 656) (by decide +kernel), List.mem_of_getElem? (i := 1028) (by decide +kernel), List.mem_of_getElem? (i := 1029) (by decide +kernel)⟩
theorem lw_p63 : lw_okq (⟨"SignDutyModel", "winksMark", "(I)I"⟩, 17) := ⟨⟨by decide +kernel, by decide +kernel⟩, List.mem_of_getElem? (i := 656) (by decide +kernel), List.mem_of_getElem? (i := 1032) (by decide +kernel), List.mem_of_getElem? (i := 1033) (by decide +kernel)⟩
def lw_privs_4 : List (MethodName × Nat) := [(⟨"SignDutyModel", "onBy", "(IIII)I"⟩, 17), (⟨"SignDutyModel", "tells", "(III)Z"⟩, 17), (⟨"SignDutyModel", "soonest", "(II)I"⟩, 17), (⟨"SignDutyModel", "noPairs", "(III)I"⟩, 17), (⟨"SignDutyModel", "isSeenSo", "(IIII)Z"⟩, 17), (⟨"SignDutyModel", "owesSo", "(IIIII)Z"⟩, 17), (⟨"SignDutyModel", "isOf", "(II)Z"⟩, 17), (⟨"SignDutyModel", "sizeOf", "(I)I"⟩, 17), (⟨"SignDutyModel", "begin", "(I)V"⟩, 17), (⟨"SignDutyModel", "wavesSize", "(I)I"⟩, 17), (⟨"SignDutyModel", "lentSize", "(I)I"⟩, 17), (⟨"SignDutyModel", "mark", "(I)I"⟩, 17), (⟨"SignDutyModel", "wavesMark", "(I)I"⟩, 17), (⟨"SignDutyModel", "lentMark", "(I)I"⟩, 17), (⟨"SignDutyModel", "winksSize", "(I)I"⟩, 17), (⟨"SignDutyModel", "winksMark", "(I)I"⟩, 17)]
theorem lw_r4 : ∀ q ∈ lw_privs_4, lw_okq q := List.forall_mem_cons.mpr ⟨lw_p48, List.forall_mem_cons.mpr ⟨lw_p49, List.forall_mem_cons.mpr ⟨lw_p50, List.forall_mem_cons.mpr ⟨lw_p51, List.forall_mem_cons.mpr ⟨lw_p52, List.forall_mem_cons.mpr ⟨lw_p53, List.forall_mem_cons.mpr ⟨lw_p54, List.forall_mem_cons.mpr ⟨lw_p55, List.forall_mem_cons.mpr ⟨lw_p56, List.forall_mem_cons.mpr ⟨lw_p57, List.forall_mem_cons.mpr ⟨lw_p58, List.forall_mem_cons.mpr ⟨lw_p59, List.forall_mem_cons.mpr ⟨lw_p60, List.forall_mem_cons.mpr ⟨lw_p61, List.forall_mem_cons.mpr ⟨lw_p62, List.forall_mem_cons.mpr ⟨lw_p63, fun _ h => absurd h List.not_mem_nil⟩⟩⟩⟩⟩⟩⟩⟩⟩⟩⟩⟩⟩⟩⟩⟩
def lw_privs : List (MethodName × Nat) := lw_privs_1 ++ (lw_privs_2 ++ (lw_privs_3 ++ (lw_privs_4)))
def lw_tbl : List Cond := k2_sels lw_privs ++ tables_1
theorem lw_privs_ok : ∀ q ∈ lw_privs, lw_okq q := by
  show ∀ q ∈ lw_privs_1 ++ (lw_privs_2 ++ (lw_privs_3 ++ (lw_privs_4))), lw_okq q
  exact List.forall_mem_append.mpr ⟨lw_r1, List.forall_mem_append.mpr ⟨lw_r2, List.forall_mem_append.mpr ⟨lw_r3, lw_r4⟩⟩⟩
-- ===== end of PART A; then your names; then what follows =====
end
section
/-! ===== THE FLAT WORLD: N cells at addresses ad k; what is in cell k is C (σ k) k; σ : cell, slot ↦ int ===== -/
abbrev x_S : Type := Nat → Nat → Int32
/-- row k of σ is f -/
def x_r (σ : x_S) (k : Nat) (f : Nat → Int32) : x_S := fun a => if a = k then f else σ a
/-- slot i of row k of σ is v -/
def x_u (σ : x_S) (k i : Nat) (v : Int32) : x_S := x_r σ k (upd (σ k) i v)
abbrev x_C : Type := (Nat → Int32) → Nat → va_E
def x_l (N : Nat) (C : x_C) (ad : Nat → Nat) (σ : x_S) : va_W := (List.range N).map (fun k => (ad k, C (σ k) k))
theorem x_l_at {N : Nat} (C : x_C) (ad : Nat → Nat) (σ : x_S) {k : Nat} (hk : k < N) : (x_l N C ad σ)[k]? = some (ad k, C (σ k) k) := by
  simp [x_l, hk]
theorem x_l_in {N : Nat} {C : x_C} {ad : Nat → Nat} {σ : x_S} {k : Nat} {q : Nat × va_E} (h : (x_l N C ad σ)[k]? = some q) : k < N ∧ q = (ad k, C (σ k) k) := by
  have hl : k < (x_l N C ad σ).length := (List.getElem?_eq_some_iff.mp h).1
  have hk : k < N := by simpa [x_l] using hl
  rw [x_l_at C ad σ hk] at h
  exact ⟨hk, (Option.some.inj h).symm⟩
theorem x_l_set {N : Nat} (C : x_C) (ad : Nat → Nat) (σ : x_S) {k : Nat} (hk : k < N) (f : Nat → Int32) : (x_l N C ad σ).set k (ad k, C f k) = x_l N C ad (x_r σ k f) := by
  apply List.ext_getElem?
  intro i
  by_cases hi : i = k
  · subst hi
    have hl : i < (x_l N C ad σ).length := by simpa [x_l] using hk
    rw [List.getElem?_set_self hl, x_l_at _ _ _ hk]
    simp [x_r]
  · rw [List.getElem?_set_ne (Ne.symm hi)]
    by_cases hN : i < N
    · rw [x_l_at _ _ _ hN, x_l_at _ _ _ hN]
      simp [x_r, hi]
    · rw [List.getElem?_eq_none (by simp [x_l]; omega), List.getElem?_eq_none (by simp [x_l]; omega)]
/-- the cells' addresses -/
def x_A (N : Nat) (ad : Nat → Nat) : Nat → Prop := fun q => ∃ k, k < N ∧ q = ad k
def x_I (D : va_G) (cl : List vw_C) (N : Nat) (C : x_C) (ad : Nat → Nat) (σ : x_S) : Heap → Prop := fun H => va_P D cl (x_l N C ad σ) H
def x_dis (N : Nat) (ad : Nat → Nat) : Prop := ∀ i j, i < N → j < N → ad i = ad j → i = j
theorem x_D {N : Nat} {C : x_C} {ad : Nat → Nat} {A : Nat → Prop} (h : x_dis N ad) (hA : ∀ k, k < N → A (ad k)) (σ : x_S) : va_D A (x_l N C ad σ) := by
  refine ⟨fun i j p q hi hj hpq => ?_, fun k q hk => ?_⟩
  · obtain ⟨h1, rfl⟩ := x_l_in hi
    obtain ⟨h2, rfl⟩ := x_l_in hj
    exact h i j h1 h2 hpq
  · obtain ⟨h1, rfl⟩ := x_l_in hk
    exact hA k h1
theorem x_A_in {N : Nat} {ad : Nat → Nat} : ∀ k, k < N → x_A N ad (ad k) := fun k h => ⟨k, h, rfl⟩
/-- what is said of statics: it stays while nothing outside A is written -/
abbrev x_St : Type := (Nat → Prop) → State → Heap → Prop
def x_StOk (St : x_St) : Prop := (∀ (A : Nat → Prop) (u U : State) (H : Heap), u.vm.Alike U.vm → St A u H → St A U H) ∧ (∀ (A : Nat → Prop) (U : State) (H H1 : Heap), (∀ a : Nat, a < H.size → ¬ A a → H1[a]? = H[a]?) → St A U H → St A U H1) ∧ (∀ (A B : Nat → Prop) (U : State) (H : Heap), (∀ q, B q → A q) → St A U H → St B U H)
/-- a method's start -/
def x_Pre (D : va_G) (cl : List vw_C) (tys : List (ClassId × FieldType)) (N : Nat) (C : x_C) (ad : Nat → Nat) (St : x_St) (σ : x_S) : State → Prop := fun U => x_I D cl N C ad σ U.heap ∧ va_K D cl tys U ∧ St (x_A N ad) U U.heap
def x_Post (D : va_G) (cl : List vw_C) (N : Nat) (C : x_C) (ad : Nat → Nat) : x_S → State → Prop := fun u t => x_I D cl N C ad u t.heap
abbrev x_Qi (D : va_G) (cl : List vw_C) (N : Nat) (C : x_C) (ad : Nat → Nat) (r0 : Int32) (σ0 : x_S) : Array Value → State → Outcome → State → Prop := va_Qi (fun (r : Int32) (u : x_S) => r = r0 ∧ u = σ0) (x_Post D cl N C ad) (x_A N ad)
abbrev x_Qv (D : va_G) (cl : List vw_C) (N : Nat) (C : x_C) (ad : Nat → Nat) (σ0 : x_S) : Array Value → State → Outcome → State → Prop := va_Qv (fun (u : x_S) => u = σ0) (x_Post D cl N C ad) (x_A N ad)
/-- room for calls n deep -/
def x_rm (n : Nat) : Room := { frames := n, cells := 0, slots := 0, locals := 100 * n }
theorem x_rm_ok {k n maxL : Nat} (h : k < n) (hm : maxL ≤ 81) : (x_rm k).frames + 1 ≤ (x_rm n).frames ∧ 8 + (maxL + 11) + (x_rm k).locals ≤ (x_rm n).locals := by
  simp only [x_rm]
  omega
abbrev x_MI (l : Launch) (y : MethodName) (ws : List Cond) (n : Nat) (D : va_G) (cl : List vw_C) (tys : List (ClassId × FieldType)) (N : Nat) (C : x_C) (ad : Nat → Nat) (St : x_St) (vs : List Value) (σ : x_S) (r0 : Int32) (σ0 : x_S) : Prop := Met l y ws (x_rm n) (va_Pc vs (x_Pre D cl tys N C ad St σ)) (x_Qi D cl N C ad r0 σ0) 0 0 (x_A N ad)
abbrev x_MV (l : Launch) (y : MethodName) (ws : List Cond) (n : Nat) (D : va_G) (cl : List vw_C) (tys : List (ClassId × FieldType)) (N : Nat) (C : x_C) (ad : Nat → Nat) (St : x_St) (vs : List Value) (σ : x_S) (σ0 : x_S) : Prop := Met l y ws (x_rm n) (va_Pc vs (x_Pre D cl tys N C ad St σ)) (x_Qv D cl N C ad σ0) 0 0 (x_A N ad)
theorem x_blind (vs : List Value) {D : va_G} {cl : List vw_C} {tys : List (ClassId × FieldType)} {N : Nat} {C : x_C} {ad : Nat → Nat} {St : x_St} (hSt : x_StOk St) (σ : x_S) : FrameBlind (va_Pc vs (x_Pre D cl tys N C ad St σ)) := by
  intro a U g mk q
  obtain ⟨q0, qP, qK, qS⟩ := q
  exact ⟨q0, qP, va_K.moved (u := U) (U := U.calling g mk a) (Vm.Alike.refl U.vm) qK, hSt.1 _ U (U.calling g mk a) _ (Vm.Alike.refl U.vm) qS⟩
/-! ===== partial functions ===== -/
/-- c must hold -/
def x_g {β : Type} (c : Prop) [Decidable c] (x : Option β) : Option β := if c then x else none
theorem x_gs {β : Type} {c : Prop} [Decidable c] {x : Option β} {y : β} (h : x_g c x = some y) : c ∧ x = some y := by
  unfold x_g at h
  split at h
  · exact ⟨by assumption, h⟩
  · cases h
def x_p {β : Type} (o : Option Int32) (k : Int32 → Option β) : Option β := match o with
  | some r => k r
  | none => none
theorem x_ps {β : Type} {o : Option Int32} {k : Int32 → Option β} {y : β} (h : x_p o k = some y) : ∃ r, o = some r ∧ k r = some y := by
  cases o with
  | none => cases h
  | some r => exact ⟨r, rfl, h⟩
def x_b {β : Type} (o : Option (Int32 × x_S)) (k : Int32 → x_S → Option β) : Option β := match o with
  | some (r, u) => k r u
  | none => none
theorem x_bs {β : Type} {o : Option (Int32 × x_S)} {k : Int32 → x_S → Option β} {y : β} (h : x_b o k = some y) : ∃ r u, o = some (r, u) ∧ k r u = some y := by
  match o, h with
  | some (r, u), h => exact ⟨r, u, rfl, h⟩
def x_v {β : Type} (o : Option x_S) (k : x_S → Option β) : Option β := match o with
  | some u => k u
  | none => none
theorem x_vs {β : Type} {o : Option x_S} {k : x_S → Option β} {y : β} (h : x_v o k = some y) : ∃ u, o = some u ∧ k u = some y := by
  cases o with
  | none => cases h
  | some r => exact ⟨r, rfl, h⟩
theorem x_it {β : Type} {c : Prop} [Decidable c] {a b : Option β} {y : β} (h : c) (hf : (if c then a else b) = some y) : a = some y := by rwa [if_pos h] at hf
theorem x_if {β : Type} {c : Prop} [Decidable c] {a b : Option β} {y : β} (h : ¬ c) (hf : (if c then a else b) = some y) : b = some y := by rwa [if_neg h] at hf
theorem x_retI {a r : Int32} {b u : x_S} (h : some (a, b) = some (r, u)) : r = a ∧ u = b := by cases h; exact ⟨rfl, rfl⟩
theorem x_retP {a r : Int32} (h : some a = some r) : r = a := by cases h; rfl
theorem x_retV {b u : x_S} (h : some b = some u) : u = b := by cases h; rfl
/-- n rounds of a loop, then z -/
def x_fx {α : Type} (z : α) (b : α → α) : Nat → α
  | 0 => z
  | n + 1 => b (x_fx z b n)
/-- rounds enough for any loop here -/
def x_F : Nat := 4096
end
section
abbrev x_in (i : Int32) (n : Nat) : Prop := ¬ (i < 0 ∨ n ≤ i.toNatClampNeg)
section XJ
variable {p : Program} {l : Launch} {e : Env} {R : Room} {s : State} {m : MethodId} {args : Array Value} {below : List Frame} {meth : Method} {c : Code} {cells slots : Nat} {Q : State → Prop}
variable {cc : ByteArray} {nL : Nat} {Ts : List Cond} {own : String} {A : Nat → Prop} {I : Heap → Prop} {lv lv' : List (Nat × Value)} {st : List Value} {pc : Nat}
variable {D : va_G} {cl : List vw_C} {tys : List (ClassId × FieldType)} {N : Nat} {C : x_C} {ad : Nat → Nat} {St : x_St} {σ : x_S}
/-- what a method's body may use of the machine -/
def x_B (p : Program) (s : State) (m : MethodId) (args : Array Value) (meth : Method) (c : Code) (cc : ByteArray) (nL : Nat) (Ts : List Cond) (own : String) : Prop :=
  p.tables.exec = Jvm.exec ∧ c.code = cc ∧ c.maxLocals = nL ∧ s.vm.findClass own = some m.cls ∧ (∀ w ∈ Ts, w.before args s = true) ∧ meth.locks = false
/-- what it may use of the flat world -/
def x_G (s : State) (D : va_G) (cl : List vw_C) (tys : List (ClassId × FieldType)) (N : Nat) (ad : Nat → Nat) (A : Nat → Prop) (St : x_St) : Prop :=
  va_K D cl tys s ∧ x_dis N ad ∧ (∀ k, k < N → A (ad k)) ∧ x_StOk St ∧ St A s s.heap
/-- from here on, with any heap that holds I and any locals that hold lv, the machine comes to Q -/
def x_J (p : Program) (l : Launch) (e : Env) (R : Room) (s : State) (m : MethodId) (args : Array Value) (below : List Frame) (meth : Method) (c : Code) (cells slots : Nat) (Q : State → Prop) (A : Nat → Prop) (nL : Nat) (I : Heap → Prop) (lv : List (Nat × Value)) (st : List Value) (pc : Nat) : Prop :=
  ∀ (H : Heap) (locs : List Loc) (ls : Array Slot), I H → va_S A s.heap H locs → lv_has ls nL lv → W p l e R s m args below meth c H locs cells slots Q (F0 m pc ls st)
theorem x_sub (ks : List Nat) (hl : lv_pick lv ks = lv') (k : x_J p l e R s m args below meth c cells slots Q A nL I lv' st pc) : x_J p l e R s m args below meth c cells slots Q A nL I lv st pc := fun H locs ls h1 h2 h3 => k H locs ls h1 h2 (lv_sub h3 ks hl)
theorem x_pc {pc' : Nat} (h : pc' = pc) (k : x_J p l e R s m args below meth c cells slots Q A nL I lv st pc') : x_J p l e R s m args below meth c cells slots Q A nL I lv st pc := h ▸ k
theorem x_iconst (B : x_B p s m args meth c cc nL Ts own) {n : Int} {v : Int32} (hdg : decode cc pc = .ok (.iconst n, 1)) (hv : Int32.ofInt n = v) (k : x_J p l e R s m args below meth c cells slots Q A nL I lv (.int v :: st) (pc + 1)) : x_J p l e R s m args below meth c cells slots Q A nL I lv (st) pc :=
  fun H locs ls h1 h2 h3 => lv_iconst B.1 B.2.1 hdg hv (k H locs ls h1 h2 h3)
theorem x_bipush (B : x_B p s m args meth c cc nL Ts own) {n : Int} {v : Int32} (hdg : decode cc pc = .ok (.bipush n, 2)) (hv : (Int8.ofInt n).toInt32 = v) (k : x_J p l e R s m args below meth c cells slots Q A nL I lv (.int v :: st) (pc + 2)) : x_J p l e R s m args below meth c cells slots Q A nL I lv (st) pc :=
  fun H locs ls h1 h2 h3 => lv_bipush B.1 B.2.1 hdg hv (k H locs ls h1 h2 h3)
theorem x_sipush (B : x_B p s m args meth c cc nL Ts own) {n : Int} {v : Int32} (hdg : decode cc pc = .ok (.sipush n, 3)) (hv : (Int16.ofInt n).toInt32 = v) (k : x_J p l e R s m args below meth c cells slots Q A nL I lv (.int v :: st) (pc + 3)) : x_J p l e R s m args below meth c cells slots Q A nL I lv (st) pc :=
  fun H locs ls h1 h2 h3 => lv_sipush B.1 B.2.1 hdg hv (k H locs ls h1 h2 h3)
theorem x_lconst (B : x_B p s m args meth c cc nL Ts own) {n : Fin 2} {v : Int64} (hdg : decode cc pc = .ok (.lconst n, 1)) (hv : Int64.ofNat (n : Nat) = v) (k : x_J p l e R s m args below meth c cells slots Q A nL I lv (.long v :: st) (pc + 1)) : x_J p l e R s m args below meth c cells slots Q A nL I lv (st) pc :=
  fun H locs ls h1 h2 h3 => lv_lconst B.1 B.2.1 hdg hv (k H locs ls h1 h2 h3)
theorem x_iload_n (B : x_B p s m args meth c cc nL Ts own) {k0 : Fin 4} {i : Nat} {x : Int32} (hdg : decode cc pc = .ok (.iload_n k0, 1)) (hi : (k0 : Nat) = i) (j : Nat) (hj : lv[j]? = some (i, .int x)) (k : x_J p l e R s m args below meth c cells slots Q A nL I lv (.int x :: st) (pc + 1)) : x_J p l e R s m args below meth c cells slots Q A nL I lv st pc :=
  fun H locs ls h1 h2 h3 => lv_iload_n B.1 B.2.1 hdg hi (lv_at h3 j hj) (k H locs ls h1 h2 h3)
theorem x_iload (B : x_B p s m args meth c cc nL Ts own) {i : Nat} {x : Int32} (hdg : decode cc pc = .ok (.iload i, 2)) (j : Nat) (hj : lv[j]? = some (i, .int x)) (k : x_J p l e R s m args below meth c cells slots Q A nL I lv (.int x :: st) (pc + 2)) : x_J p l e R s m args below meth c cells slots Q A nL I lv st pc :=
  fun H locs ls h1 h2 h3 => lv_iload B.1 B.2.1 hdg (lv_at h3 j hj) (k H locs ls h1 h2 h3)
theorem x_lload_n (B : x_B p s m args meth c cc nL Ts own) {k0 : Fin 4} {i : Nat} {x : Int64} (hdg : decode cc pc = .ok (.lload_n k0, 1)) (hi : (k0 : Nat) = i) (j : Nat) (hj : lv[j]? = some (i, .long x)) (k : x_J p l e R s m args below meth c cells slots Q A nL I lv (.long x :: st) (pc + 1)) : x_J p l e R s m args below meth c cells slots Q A nL I lv st pc :=
  fun H locs ls h1 h2 h3 => lv_lload_n B.1 B.2.1 hdg hi (lv_at h3 j hj) (k H locs ls h1 h2 h3)
theorem x_lload (B : x_B p s m args meth c cc nL Ts own) {i : Nat} {x : Int64} (hdg : decode cc pc = .ok (.lload i, 2)) (j : Nat) (hj : lv[j]? = some (i, .long x)) (k : x_J p l e R s m args below meth c cells slots Q A nL I lv (.long x :: st) (pc + 2)) : x_J p l e R s m args below meth c cells slots Q A nL I lv st pc :=
  fun H locs ls h1 h2 h3 => lv_lload B.1 B.2.1 hdg (lv_at h3 j hj) (k H locs ls h1 h2 h3)
theorem x_aload_n (B : x_B p s m args meth c cc nL Ts own) {k0 : Fin 4} {i : Nat} {x : Nat} (hdg : decode cc pc = .ok (.aload_n k0, 1)) (hi : (k0 : Nat) = i) (j : Nat) (hj : lv[j]? = some (i, .ref x)) (k : x_J p l e R s m args below meth c cells slots Q A nL I lv (.ref x :: st) (pc + 1)) : x_J p l e R s m args below meth c cells slots Q A nL I lv st pc :=
  fun H locs ls h1 h2 h3 => lv_aload_n B.1 B.2.1 hdg hi (lv_at h3 j hj) (k H locs ls h1 h2 h3)
theorem x_aload (B : x_B p s m args meth c cc nL Ts own) {i : Nat} {x : Nat} (hdg : decode cc pc = .ok (.aload i, 2)) (j : Nat) (hj : lv[j]? = some (i, .ref x)) (k : x_J p l e R s m args below meth c cells slots Q A nL I lv (.ref x :: st) (pc + 2)) : x_J p l e R s m args below meth c cells slots Q A nL I lv st pc :=
  fun H locs ls h1 h2 h3 => lv_aload B.1 B.2.1 hdg (lv_at h3 j hj) (k H locs ls h1 h2 h3)
theorem x_istore_n (B : x_B p s m args meth c cc nL Ts own) {k0 : Fin 4} {i : Nat} {x : Int32} (hdg : decode cc pc = .ok (.istore_n k0, 1)) (hi : (k0 : Nat) = i) (hn : i < nL) (hl : (i, Value.int x) :: lv.filter (fun q => !(q.1 == i) && !(q.1 + 1 == i && q.2.category == 2)) = lv') (k : x_J p l e R s m args below meth c cells slots Q A nL I lv' st (pc + 1)) : x_J p l e R s m args below meth c cells slots Q A nL I lv (.int x :: st) pc :=
  fun H locs ls h1 h2 h3 => lv_istore_n B.1 B.2.1 hdg hi h3 hn hl (fun ls' h' => k H locs ls' h1 h2 h')
theorem x_istore (B : x_B p s m args meth c cc nL Ts own) {i : Nat} {x : Int32} (hdg : decode cc pc = .ok (.istore i, 2)) (hn : i < nL) (hl : (i, Value.int x) :: lv.filter (fun q => !(q.1 == i) && !(q.1 + 1 == i && q.2.category == 2)) = lv') (k : x_J p l e R s m args below meth c cells slots Q A nL I lv' st (pc + 2)) : x_J p l e R s m args below meth c cells slots Q A nL I lv (.int x :: st) pc :=
  fun H locs ls h1 h2 h3 => lv_istore B.1 B.2.1 hdg h3 hn hl (fun ls' h' => k H locs ls' h1 h2 h')
theorem x_astore_n (B : x_B p s m args meth c cc nL Ts own) {k0 : Fin 4} {i : Nat} {x : Nat} (hdg : decode cc pc = .ok (.astore_n k0, 1)) (hi : (k0 : Nat) = i) (hn : i < nL) (hl : (i, Value.ref x) :: lv.filter (fun q => !(q.1 == i) && !(q.1 + 1 == i && q.2.category == 2)) = lv') (k : x_J p l e R s m args below meth c cells slots Q A nL I lv' st (pc + 1)) : x_J p l e R s m args below meth c cells slots Q A nL I lv (.ref x :: st) pc :=
  fun H locs ls h1 h2 h3 => lv_astore_n B.1 B.2.1 hdg hi h3 hn hl (fun ls' h' => k H locs ls' h1 h2 h')
theorem x_astore (B : x_B p s m args meth c cc nL Ts own) {i : Nat} {x : Nat} (hdg : decode cc pc = .ok (.astore i, 2)) (hn : i < nL) (hl : (i, Value.ref x) :: lv.filter (fun q => !(q.1 == i) && !(q.1 + 1 == i && q.2.category == 2)) = lv') (k : x_J p l e R s m args below meth c cells slots Q A nL I lv' st (pc + 2)) : x_J p l e R s m args below meth c cells slots Q A nL I lv (.ref x :: st) pc :=
  fun H locs ls h1 h2 h3 => lv_astore B.1 B.2.1 hdg h3 hn hl (fun ls' h' => k H locs ls' h1 h2 h')
theorem x_iinc (B : x_B p s m args meth c cc nL Ts own) {i : Nat} {n : Int} {x v : Int32} (hdg : decode cc pc = .ok (.iinc i n, 3)) (j : Nat) (hj : lv[j]? = some (i, .int x)) (hv : x + Int32.ofInt n = v) (hn : i < nL) (hl : (i, Value.int v) :: lv.filter (fun q => !(q.1 == i) && !(q.1 + 1 == i && q.2.category == 2)) = lv') (k : x_J p l e R s m args below meth c cells slots Q A nL I lv' st (pc + 3)) : x_J p l e R s m args below meth c cells slots Q A nL I lv st pc :=
  fun H locs ls h1 h2 h3 => lv_iinc B.1 B.2.1 hdg h3 hj hv hn hl (fun ls' h' => k H locs ls' h1 h2 h')
theorem x_iadd (B : x_B p s m args meth c cc nL Ts own) {x y : Int32} (hdg : decode cc pc = .ok (.iadd, 1)) (k : x_J p l e R s m args below meth c cells slots Q A nL I lv (.int (x + y) :: st) (pc + 1)) : x_J p l e R s m args below meth c cells slots Q A nL I lv (.int y :: .int x :: st) pc :=
  fun H locs ls h1 h2 h3 => lv_iadd B.1 B.2.1 hdg (k H locs ls h1 h2 h3)
theorem x_isub (B : x_B p s m args meth c cc nL Ts own) {x y : Int32} (hdg : decode cc pc = .ok (.isub, 1)) (k : x_J p l e R s m args below meth c cells slots Q A nL I lv (.int (x - y) :: st) (pc + 1)) : x_J p l e R s m args below meth c cells slots Q A nL I lv (.int y :: .int x :: st) pc :=
  fun H locs ls h1 h2 h3 => lv_isub B.1 B.2.1 hdg (k H locs ls h1 h2 h3)
theorem x_imul (B : x_B p s m args meth c cc nL Ts own) {x y : Int32} (hdg : decode cc pc = .ok (.imul, 1)) (k : x_J p l e R s m args below meth c cells slots Q A nL I lv (.int (x * y) :: st) (pc + 1)) : x_J p l e R s m args below meth c cells slots Q A nL I lv (.int y :: .int x :: st) pc :=
  fun H locs ls h1 h2 h3 => lv_imul B.1 B.2.1 hdg (k H locs ls h1 h2 h3)
theorem x_iand (B : x_B p s m args meth c cc nL Ts own) {x y : Int32} (hdg : decode cc pc = .ok (.iand, 1)) (k : x_J p l e R s m args below meth c cells slots Q A nL I lv (.int (x &&& y) :: st) (pc + 1)) : x_J p l e R s m args below meth c cells slots Q A nL I lv (.int y :: .int x :: st) pc :=
  fun H locs ls h1 h2 h3 => lv_iand B.1 B.2.1 hdg (k H locs ls h1 h2 h3)
theorem x_ior (B : x_B p s m args meth c cc nL Ts own) {x y : Int32} (hdg : decode cc pc = .ok (.ior, 1)) (k : x_J p l e R s m args below meth c cells slots Q A nL I lv (.int (x ||| y) :: st) (pc + 1)) : x_J p l e R s m args below meth c cells slots Q A nL I lv (.int y :: .int x :: st) pc :=
  fun H locs ls h1 h2 h3 => lv_ior B.1 B.2.1 hdg (k H locs ls h1 h2 h3)
theorem x_ixor (B : x_B p s m args meth c cc nL Ts own) {x y : Int32} (hdg : decode cc pc = .ok (.ixor, 1)) (k : x_J p l e R s m args below meth c cells slots Q A nL I lv (.int (x ^^^ y) :: st) (pc + 1)) : x_J p l e R s m args below meth c cells slots Q A nL I lv (.int y :: .int x :: st) pc :=
  fun H locs ls h1 h2 h3 => lv_ixor B.1 B.2.1 hdg (k H locs ls h1 h2 h3)
theorem x_ishl (B : x_B p s m args meth c cc nL Ts own) {x y : Int32} (hdg : decode cc pc = .ok (.ishl, 1)) (k : x_J p l e R s m args below meth c cells slots Q A nL I lv (.int (x <<< (y &&& 31)) :: st) (pc + 1)) : x_J p l e R s m args below meth c cells slots Q A nL I lv (.int y :: .int x :: st) pc :=
  fun H locs ls h1 h2 h3 => lv_ishl B.1 B.2.1 hdg (k H locs ls h1 h2 h3)
theorem x_ishr (B : x_B p s m args meth c cc nL Ts own) {x y : Int32} (hdg : decode cc pc = .ok (.ishr, 1)) (k : x_J p l e R s m args below meth c cells slots Q A nL I lv (.int (x >>> (y &&& 31)) :: st) (pc + 1)) : x_J p l e R s m args below meth c cells slots Q A nL I lv (.int y :: .int x :: st) pc :=
  fun H locs ls h1 h2 h3 => lv_ishr B.1 B.2.1 hdg (k H locs ls h1 h2 h3)
theorem x_idiv (B : x_B p s m args meth c cc nL Ts own) {x y : Int32} (hdg : decode cc pc = .ok (.idiv, 1)) (hne : ¬ y = 0) (k : x_J p l e R s m args below meth c cells slots Q A nL I lv (.int (x / y) :: st) (pc + 1)) : x_J p l e R s m args below meth c cells slots Q A nL I lv (.int y :: .int x :: st) pc :=
  fun H locs ls h1 h2 h3 => lv_idiv B.1 B.2.1 hdg hne (k H locs ls h1 h2 h3)
theorem x_irem (B : x_B p s m args meth c cc nL Ts own) {x y : Int32} (hdg : decode cc pc = .ok (.irem, 1)) (hne : ¬ y = 0) (k : x_J p l e R s m args below meth c cells slots Q A nL I lv (.int (x - x / y * y) :: st) (pc + 1)) : x_J p l e R s m args below meth c cells slots Q A nL I lv (.int y :: .int x :: st) pc :=
  fun H locs ls h1 h2 h3 => lv_irem B.1 B.2.1 hdg hne (k H locs ls h1 h2 h3)
theorem x_ineg (B : x_B p s m args meth c cc nL Ts own) {x : Int32} (hdg : decode cc pc = .ok (.ineg, 1)) (k : x_J p l e R s m args below meth c cells slots Q A nL I lv (.int (-x) :: st) (pc + 1)) : x_J p l e R s m args below meth c cells slots Q A nL I lv (.int x :: st) pc :=
  fun H locs ls h1 h2 h3 => lv_ineg B.1 B.2.1 hdg (k H locs ls h1 h2 h3)
theorem x_iushr (B : x_B p s m args meth c cc nL Ts own) {x y : Int32} (hdg : decode cc pc = .ok (.iushr, 1)) (k : x_J p l e R s m args below meth c cells slots Q A nL I lv (.int (x.toUInt32 >>> (y.toUInt32 &&& Int32.toUInt32 31)).toInt32 :: st) (pc + 1)) : x_J p l e R s m args below meth c cells slots Q A nL I lv (.int y :: .int x :: st) pc :=
  fun H locs ls h1 h2 h3 => lv_iushr B.1 B.2.1 hdg rfl (k H locs ls h1 h2 h3)
theorem x_i2l (B : x_B p s m args meth c cc nL Ts own) {x : Int32} (hdg : decode cc pc = .ok (.i2l, 1)) (k : x_J p l e R s m args below meth c cells slots Q A nL I lv (.long x.toInt64 :: st) (pc + 1)) : x_J p l e R s m args below meth c cells slots Q A nL I lv (.int x :: st) pc :=
  fun H locs ls h1 h2 h3 => lv_i2l B.1 B.2.1 hdg rfl (k H locs ls h1 h2 h3)
theorem x_l2i (B : x_B p s m args meth c cc nL Ts own) {x : Int64} (hdg : decode cc pc = .ok (.l2i, 1)) (k : x_J p l e R s m args below meth c cells slots Q A nL I lv (.int x.toInt32 :: st) (pc + 1)) : x_J p l e R s m args below meth c cells slots Q A nL I lv (.long x :: st) pc :=
  fun H locs ls h1 h2 h3 => lv_l2i B.1 B.2.1 hdg rfl (k H locs ls h1 h2 h3)
theorem x_i2b (B : x_B p s m args meth c cc nL Ts own) {x : Int32} (hdg : decode cc pc = .ok (.i2b, 1)) (k : x_J p l e R s m args below meth c cells slots Q A nL I lv (.int x.toInt8.toInt32 :: st) (pc + 1)) : x_J p l e R s m args below meth c cells slots Q A nL I lv (.int x :: st) pc :=
  fun H locs ls h1 h2 h3 => lv_i2b B.1 B.2.1 hdg rfl (k H locs ls h1 h2 h3)
theorem x_i2s (B : x_B p s m args meth c cc nL Ts own) {x : Int32} (hdg : decode cc pc = .ok (.i2s, 1)) (k : x_J p l e R s m args below meth c cells slots Q A nL I lv (.int x.toInt16.toInt32 :: st) (pc + 1)) : x_J p l e R s m args below meth c cells slots Q A nL I lv (.int x :: st) pc :=
  fun H locs ls h1 h2 h3 => lv_i2s B.1 B.2.1 hdg rfl (k H locs ls h1 h2 h3)
theorem x_ladd (B : x_B p s m args meth c cc nL Ts own) {x y : Int64} (hdg : decode cc pc = .ok (.ladd, 1)) (k : x_J p l e R s m args below meth c cells slots Q A nL I lv (.long (x + y) :: st) (pc + 1)) : x_J p l e R s m args below meth c cells slots Q A nL I lv (.long y :: .long x :: st) pc :=
  fun H locs ls h1 h2 h3 => lv_ladd B.1 B.2.1 hdg (k H locs ls h1 h2 h3)
theorem x_lcmp (B : x_B p s m args meth c cc nL Ts own) {x y : Int64} (hdg : decode cc pc = .ok (.lcmp, 1)) (k : x_J p l e R s m args below meth c cells slots Q A nL I lv (.int (lg_cmp x y) :: st) (pc + 1)) : x_J p l e R s m args below meth c cells slots Q A nL I lv (.long y :: .long x :: st) pc :=
  fun H locs ls h1 h2 h3 => W.lcmp B.1 B.2.1 hdg (k H locs ls h1 h2 h3)
theorem x_dup (B : x_B p s m args meth c cc nL Ts own) {va : Value} (hdg : decode cc pc = .ok (.dup, 1)) (hva : va.category = 1) (k : x_J p l e R s m args below meth c cells slots Q A nL I lv (va :: va :: st) (pc + 1)) : x_J p l e R s m args below meth c cells slots Q A nL I lv (va :: st) pc :=
  fun H locs ls h1 h2 h3 => lv_dup B.1 B.2.1 hdg hva (k H locs ls h1 h2 h3)
theorem x_pop (B : x_B p s m args meth c cc nL Ts own) {va : Value} (hdg : decode cc pc = .ok (.pop, 1)) (hva : va.category = 1) (k : x_J p l e R s m args below meth c cells slots Q A nL I lv (st) (pc + 1)) : x_J p l e R s m args below meth c cells slots Q A nL I lv (va :: st) pc :=
  fun H locs ls h1 h2 h3 => lv_pop B.1 B.2.1 hdg hva (k H locs ls h1 h2 h3)
theorem x_dup_x1 (B : x_B p s m args meth c cc nL Ts own) {va vb : Value} (hdg : decode cc pc = .ok (.dup_x1, 1)) (hva : va.category = 1) (hvb : vb.category = 1) (k : x_J p l e R s m args below meth c cells slots Q A nL I lv (va :: vb :: va :: st) (pc + 1)) : x_J p l e R s m args below meth c cells slots Q A nL I lv (va :: vb :: st) pc :=
  fun H locs ls h1 h2 h3 => lv_dup_x1 B.1 B.2.1 hdg hva hvb (k H locs ls h1 h2 h3)
theorem x_dup_x2 (B : x_B p s m args meth c cc nL Ts own) {va vb vd : Value} (hdg : decode cc pc = .ok (.dup_x2, 1)) (hva : va.category = 1) (hvb : vb.category = 1) (hvd : vd.category = 1) (k : x_J p l e R s m args below meth c cells slots Q A nL I lv (va :: vb :: vd :: va :: st) (pc + 1)) : x_J p l e R s m args below meth c cells slots Q A nL I lv (va :: vb :: vd :: st) pc :=
  fun H locs ls h1 h2 h3 => lv_dup_x2 B.1 B.2.1 hdg hva hvb hvd (k H locs ls h1 h2 h3)
theorem x_dup2 (B : x_B p s m args meth c cc nL Ts own) {va vb : Value} (hdg : decode cc pc = .ok (.dup2, 1)) (hva : va.category = 1) (hvb : vb.category = 1) (k : x_J p l e R s m args below meth c cells slots Q A nL I lv (va :: vb :: va :: vb :: st) (pc + 1)) : x_J p l e R s m args below meth c cells slots Q A nL I lv (va :: vb :: st) pc :=
  fun H locs ls h1 h2 h3 => lv_dup2_11 B.1 B.2.1 hdg hva hvb (k H locs ls h1 h2 h3)
theorem x_if_eq (B : x_B p s m args meth c cc nL Ts own) {x : Int32} {off : Int} {tgt : Nat} (hdg : decode cc pc = .ok (.ifCond .eq off, 3)) (ht : (pc : Int) + off = (tgt : Int)) (kt : x = 0 → x_J p l e R s m args below meth c cells slots Q A nL I lv st tgt) (kf : ¬ x = 0 → x_J p l e R s m args below meth c cells slots Q A nL I lv st (pc + 3)) : x_J p l e R s m args below meth c cells slots Q A nL I lv (.int x :: st) pc :=
  fun H locs ls h1 h2 h3 => lv_if_eq B.1 B.2.1 hdg ht (fun h => kt h H locs ls h1 h2 h3) (fun h => kf h H locs ls h1 h2 h3)
theorem x_if_ne (B : x_B p s m args meth c cc nL Ts own) {x : Int32} {off : Int} {tgt : Nat} (hdg : decode cc pc = .ok (.ifCond .ne off, 3)) (ht : (pc : Int) + off = (tgt : Int)) (kt : ¬ x = 0 → x_J p l e R s m args below meth c cells slots Q A nL I lv st tgt) (kf : x = 0 → x_J p l e R s m args below meth c cells slots Q A nL I lv st (pc + 3)) : x_J p l e R s m args below meth c cells slots Q A nL I lv (.int x :: st) pc :=
  fun H locs ls h1 h2 h3 => lv_if_ne B.1 B.2.1 hdg ht (fun h => kt h H locs ls h1 h2 h3) (fun h => kf h H locs ls h1 h2 h3)
theorem x_if_lt (B : x_B p s m args meth c cc nL Ts own) {x : Int32} {off : Int} {tgt : Nat} (hdg : decode cc pc = .ok (.ifCond .lt off, 3)) (ht : (pc : Int) + off = (tgt : Int)) (kt : x < 0 → x_J p l e R s m args below meth c cells slots Q A nL I lv st tgt) (kf : ¬ x < 0 → x_J p l e R s m args below meth c cells slots Q A nL I lv st (pc + 3)) : x_J p l e R s m args below meth c cells slots Q A nL I lv (.int x :: st) pc :=
  fun H locs ls h1 h2 h3 => lv_if_lt B.1 B.2.1 hdg ht (fun h => kt h H locs ls h1 h2 h3) (fun h => kf h H locs ls h1 h2 h3)
theorem x_if_ge (B : x_B p s m args meth c cc nL Ts own) {x : Int32} {off : Int} {tgt : Nat} (hdg : decode cc pc = .ok (.ifCond .ge off, 3)) (ht : (pc : Int) + off = (tgt : Int)) (kt : 0 ≤ x → x_J p l e R s m args below meth c cells slots Q A nL I lv st tgt) (kf : ¬ 0 ≤ x → x_J p l e R s m args below meth c cells slots Q A nL I lv st (pc + 3)) : x_J p l e R s m args below meth c cells slots Q A nL I lv (.int x :: st) pc :=
  fun H locs ls h1 h2 h3 => lv_if_ge B.1 B.2.1 hdg ht (fun h => kt h H locs ls h1 h2 h3) (fun h => kf h H locs ls h1 h2 h3)
theorem x_if_gt (B : x_B p s m args meth c cc nL Ts own) {x : Int32} {off : Int} {tgt : Nat} (hdg : decode cc pc = .ok (.ifCond .gt off, 3)) (ht : (pc : Int) + off = (tgt : Int)) (kt : 0 < x → x_J p l e R s m args below meth c cells slots Q A nL I lv st tgt) (kf : ¬ 0 < x → x_J p l e R s m args below meth c cells slots Q A nL I lv st (pc + 3)) : x_J p l e R s m args below meth c cells slots Q A nL I lv (.int x :: st) pc :=
  fun H locs ls h1 h2 h3 => lv_if_gt B.1 B.2.1 hdg ht (fun h => kt h H locs ls h1 h2 h3) (fun h => kf h H locs ls h1 h2 h3)
theorem x_if_le (B : x_B p s m args meth c cc nL Ts own) {x : Int32} {off : Int} {tgt : Nat} (hdg : decode cc pc = .ok (.ifCond .le off, 3)) (ht : (pc : Int) + off = (tgt : Int)) (kt : x ≤ 0 → x_J p l e R s m args below meth c cells slots Q A nL I lv st tgt) (kf : ¬ x ≤ 0 → x_J p l e R s m args below meth c cells slots Q A nL I lv st (pc + 3)) : x_J p l e R s m args below meth c cells slots Q A nL I lv (.int x :: st) pc :=
  fun H locs ls h1 h2 h3 => lv_if_le B.1 B.2.1 hdg ht (fun h => kt h H locs ls h1 h2 h3) (fun h => kf h H locs ls h1 h2 h3)
theorem x_icmp_eq (B : x_B p s m args meth c cc nL Ts own) {x y : Int32} {off : Int} {tgt : Nat} (hdg : decode cc pc = .ok (.if_icmp .eq off, 3)) (ht : (pc : Int) + off = (tgt : Int)) (kt : x = y → x_J p l e R s m args below meth c cells slots Q A nL I lv st tgt) (kf : ¬ x = y → x_J p l e R s m args below meth c cells slots Q A nL I lv st (pc + 3)) : x_J p l e R s m args below meth c cells slots Q A nL I lv (.int y :: .int x :: st) pc :=
  fun H locs ls h1 h2 h3 => lv_icmp_eq B.1 B.2.1 hdg ht (fun h => kt h H locs ls h1 h2 h3) (fun h => kf h H locs ls h1 h2 h3)
theorem x_icmp_ne (B : x_B p s m args meth c cc nL Ts own) {x y : Int32} {off : Int} {tgt : Nat} (hdg : decode cc pc = .ok (.if_icmp .ne off, 3)) (ht : (pc : Int) + off = (tgt : Int)) (kt : ¬ x = y → x_J p l e R s m args below meth c cells slots Q A nL I lv st tgt) (kf : x = y → x_J p l e R s m args below meth c cells slots Q A nL I lv st (pc + 3)) : x_J p l e R s m args below meth c cells slots Q A nL I lv (.int y :: .int x :: st) pc :=
  fun H locs ls h1 h2 h3 => lv_icmp_ne B.1 B.2.1 hdg ht (fun h => kt h H locs ls h1 h2 h3) (fun h => kf h H locs ls h1 h2 h3)
theorem x_icmp_lt (B : x_B p s m args meth c cc nL Ts own) {x y : Int32} {off : Int} {tgt : Nat} (hdg : decode cc pc = .ok (.if_icmp .lt off, 3)) (ht : (pc : Int) + off = (tgt : Int)) (kt : x < y → x_J p l e R s m args below meth c cells slots Q A nL I lv st tgt) (kf : ¬ x < y → x_J p l e R s m args below meth c cells slots Q A nL I lv st (pc + 3)) : x_J p l e R s m args below meth c cells slots Q A nL I lv (.int y :: .int x :: st) pc :=
  fun H locs ls h1 h2 h3 => lv_icmp_lt B.1 B.2.1 hdg ht (fun h => kt h H locs ls h1 h2 h3) (fun h => kf h H locs ls h1 h2 h3)
theorem x_icmp_ge (B : x_B p s m args meth c cc nL Ts own) {x y : Int32} {off : Int} {tgt : Nat} (hdg : decode cc pc = .ok (.if_icmp .ge off, 3)) (ht : (pc : Int) + off = (tgt : Int)) (kt : y ≤ x → x_J p l e R s m args below meth c cells slots Q A nL I lv st tgt) (kf : ¬ y ≤ x → x_J p l e R s m args below meth c cells slots Q A nL I lv st (pc + 3)) : x_J p l e R s m args below meth c cells slots Q A nL I lv (.int y :: .int x :: st) pc :=
  fun H locs ls h1 h2 h3 => lv_icmp_ge B.1 B.2.1 hdg ht (fun h => kt h H locs ls h1 h2 h3) (fun h => kf h H locs ls h1 h2 h3)
theorem x_icmp_gt (B : x_B p s m args meth c cc nL Ts own) {x y : Int32} {off : Int} {tgt : Nat} (hdg : decode cc pc = .ok (.if_icmp .gt off, 3)) (ht : (pc : Int) + off = (tgt : Int)) (kt : y < x → x_J p l e R s m args below meth c cells slots Q A nL I lv st tgt) (kf : ¬ y < x → x_J p l e R s m args below meth c cells slots Q A nL I lv st (pc + 3)) : x_J p l e R s m args below meth c cells slots Q A nL I lv (.int y :: .int x :: st) pc :=
  fun H locs ls h1 h2 h3 => lv_icmp_gt B.1 B.2.1 hdg ht (fun h => kt h H locs ls h1 h2 h3) (fun h => kf h H locs ls h1 h2 h3)
theorem x_icmp_le (B : x_B p s m args meth c cc nL Ts own) {x y : Int32} {off : Int} {tgt : Nat} (hdg : decode cc pc = .ok (.if_icmp .le off, 3)) (ht : (pc : Int) + off = (tgt : Int)) (kt : x ≤ y → x_J p l e R s m args below meth c cells slots Q A nL I lv st tgt) (kf : ¬ x ≤ y → x_J p l e R s m args below meth c cells slots Q A nL I lv st (pc + 3)) : x_J p l e R s m args below meth c cells slots Q A nL I lv (.int y :: .int x :: st) pc :=
  fun H locs ls h1 h2 h3 => lv_icmp_le B.1 B.2.1 hdg ht (fun h => kt h H locs ls h1 h2 h3) (fun h => kf h H locs ls h1 h2 h3)
theorem x_goto (B : x_B p s m args meth c cc nL Ts own) {off : Int} {tgt : Nat} (hdg : decode cc pc = .ok (.goto off, 3)) (ht : (pc : Int) + off = (tgt : Int)) (k : x_J p l e R s m args below meth c cells slots Q A nL I lv st tgt) : x_J p l e R s m args below meth c cells slots Q A nL I lv st pc :=
  fun H locs ls h1 h2 h3 => lv_goto B.1 B.2.1 hdg ht (k H locs ls h1 h2 h3)
theorem x_lookup (B : x_B p s m args meth c cc nL Ts own) {dflt : Int} {ps : Array (Int × Int)} {len : Nat} {x : Int32} {off : Int} {tgt : Nat} (hdg : decode cc pc = .ok (.lookupswitch dflt ps, len)) (hp : (ps.toList.zip (ps.toList.drop 1)).all (fun (a, next) => a.1 < next.1) = true) (ho : Op.lookupswitch.offset ps.toList dflt x.toInt = off) (ht : (pc : Int) + off = (tgt : Int)) (k : x_J p l e R s m args below meth c cells slots Q A nL I lv st tgt) : x_J p l e R s m args below meth c cells slots Q A nL I lv (.int x :: st) pc :=
  fun H locs ls h1 h2 h3 => lv_lookup B.1 B.2.1 hdg hp ho ht (k H locs ls h1 h2 h3)
theorem x_tableOut (B : x_B p s m args meth c cc nL Ts own) {dflt lo hi : Int} {offs : Array Int} {len : Nat} {x : Int32} {tgt : Nat} (hdg : decode cc pc = .ok (.tableswitch dflt lo hi offs, len)) (h : x.toInt < lo ∨ hi < x.toInt) (ht : (pc : Int) + dflt = (tgt : Int)) (k : x_J p l e R s m args below meth c cells slots Q A nL I lv st tgt) : x_J p l e R s m args below meth c cells slots Q A nL I lv (.int x :: st) pc :=
  fun H locs ls h1 h2 h3 => lv_tableOut B.1 B.2.1 hdg h ht (k H locs ls h1 h2 h3)
theorem x_tableIn (B : x_B p s m args meth c cc nL Ts own) {dflt lo hi : Int} {offs : Array Int} {len : Nat} {x : Int32} {off : Int} {tgt : Nat} (hdg : decode cc pc = .ok (.tableswitch dflt lo hi offs, len)) (h1 : ¬ x.toInt < lo) (h2 : ¬ hi < x.toInt) (ho : offs[(x.toInt - lo).toNat]? = some off) (ht : (pc : Int) + off = (tgt : Int)) (k : x_J p l e R s m args below meth c cells slots Q A nL I lv st tgt) : x_J p l e R s m args below meth c cells slots Q A nL I lv (.int x :: st) pc :=
  fun H locs ls g1 g2 g3 => lv_tableIn B.1 B.2.1 hdg h1 h2 ho ht (k H locs ls g1 g2 g3)
theorem x_ldc (B : x_B p s m args meth c cc nL Ts own) {index : Nat} {v : Int32} (hconst : Jvm.Cond.constant own index v ∈ Ts) (hdg : decode cc pc = .ok (.ldc index, 2)) (k : x_J p l e R s m args below meth c cells slots Q A nL I lv (.int v :: st) (pc + 2)) : x_J p l e R s m args below meth c cells slots Q A nL I lv st pc :=
  fun H locs ls h1 h2 h3 => lv_ldc B.1 B.2.1 B.2.2.2.1 (B.2.2.2.2.1 _ hconst) hdg (k H locs ls h1 h2 h3)
theorem x_ldcw (B : x_B p s m args meth c cc nL Ts own) {index : Nat} {v : Int32} (hconst : Jvm.Cond.constant own index v ∈ Ts) (hdg : decode cc pc = .ok (.ldc_w index, 3)) (k : x_J p l e R s m args below meth c cells slots Q A nL I lv (.int v :: st) (pc + 3)) : x_J p l e R s m args below meth c cells slots Q A nL I lv st pc :=
  fun H locs ls h1 h2 h3 => lv_ldcw B.1 B.2.1 B.2.2.2.1 (B.2.2.2.2.1 _ hconst) hdg (k H locs ls h1 h2 h3)
theorem x_ldc2 (B : x_B p s m args meth c cc nL Ts own) {index : Nat} {v : Int64} (hconst : Jvm.Cond.constantLong own index v ∈ Ts) (hdg : decode cc pc = .ok (.ldc2_w index, 3)) (k : x_J p l e R s m args below meth c cells slots Q A nL I lv (.long v :: st) (pc + 3)) : x_J p l e R s m args below meth c cells slots Q A nL I lv st pc :=
  fun H locs ls h1 h2 h3 => lv_ldc2 B.1 B.2.1 B.2.2.2.1 (B.2.2.2.2.1 _ hconst) hdg (k H locs ls h1 h2 h3)
/-- a field is read -/
theorem x_get (B : x_B p s m args meth c cc nL Ts own) (G : x_G s D cl tys N ad A St) {Cn : String} {T : u_T} {n ci kc index : Nat} (hin : ∀ w ∈ u_ws Cn T n, w ∈ Ts) (hc : cl[ci]? = some (Cn, T, n)) (hk : kc < N) {fs : (Nat → Int32) → List Value} (hC : ∀ r, C r kc = .inr (ci, fs r)) (j : Nat) (hj : j < n) (hlink : Cond.fieldLink own index (T j).1 (T j).2.1 (T j).2.2.1 ∈ Ts) {v : Value} (hv : (fs (σ kc))[j]? = some v) (hdg : decode cc pc = .ok (.getfield index, 3))
    (k : x_J p l e R s m args below meth c cells slots Q A nL (x_I D cl N C ad σ) lv (v :: st) (pc + 3)) : x_J p l e R s m args below meth c cells slots Q A nL (x_I D cl N C ad σ) lv (.ref (ad kc) :: st) pc :=
  fun H locs ls h1 h2 h3 => va_get (D := D) (cl := cl) (ws := x_l N C ad σ) (ci := ci) (C := Cn) (T := T) (N := n) B.1 B.2.1 B.2.2.2.2.1 hin B.2.2.2.1 G.1 h1 kc (by rw [x_l_at C ad σ hk, hC]) hc j hj (B.2.2.2.2.1 _ hlink) (fun _ h9 => h9) hv hdg (k H locs ls h1 h2 h3)
/-- an int field is written -/
theorem x_put (B : x_B p s m args meth c cc nL Ts own) (G : x_G s D cl tys N ad A St) {Cn : String} {T : u_T} {n ci kc index : Nat} (hin : ∀ w ∈ u_ws Cn T n, w ∈ Ts) (ty0 : Nat → FieldType) (hty : ∀ k, k < n → parseFieldDescriptor (T k).2.2.1 = some (ty0 k)) (hnm : ∀ a, a < n → ∀ b, b < n → a ≠ b → (T a).2.1 ≠ (T b).2.1) (hc : cl[ci]? = some (Cn, T, n)) (hk : kc < N) {fs : (Nat → Int32) → List Value} (hC : ∀ r, C r kc = .inr (ci, fs r)) (j : Nat) (hj : j < n) (hlink : Cond.fieldLink own index (T j).1 (T j).2.1 (T j).2.2.1 ∈ Ts) (hfin : (T j).2.2.2 = false) {ty : FieldType} {v : Int32} (hd : ty0 j = ty) (hn : narrow ty (.int v) = .int v) (hfit : fits ty (.int v) = true) (hlen : j < (fs (σ kc)).length) (hset : (fs (σ kc)).set j (.int v) = fs (upd (σ kc) j v)) (hdg : decode cc pc = .ok (.putfield index, 3))
    (k : x_J p l e R s m args below meth c cells slots Q A nL (x_I D cl N C ad (x_u σ kc j v)) lv st (pc + 3)) : x_J p l e R s m args below meth c cells slots Q A nL (x_I D cl N C ad σ) lv (.int v :: .ref (ad kc) :: st) pc := by
  intro H locs ls h1 h2 h3
  refine va_put (D := D) (cl := cl) (ws := x_l N C ad σ) (ci := ci) (C := Cn) (T := T) (N := n) (A := A) B.1 B.2.1 B.2.2.2.2.1 hin ty0 hty hnm B.2.2.2.1 G.1 h1 (x_D G.2.1 G.2.2.1 σ) h2 kc (fs := fs (σ kc)) (by rw [x_l_at C ad σ hk, hC]) hc j hj (B.2.2.2.2.1 _ hlink) (fun _ h9 => h9) hfin (ty := ty) (by rw [hty j hj, hd]) hn hfit hlen hdg (fun H1 locs1 g1 _ g2 => ?_)
  rw [hset, ← hC, x_l_set C ad σ hk] at g1
  exact k H1 locs1 ls g1 g2 h3
/-- a place of an int array is read -/
theorem x_iald (B : x_B p s m args meth c cc nL Ts own) (G : x_G s D cl tys N ad A St) {kc n t0 : Nat} {cA : ClassId} (hk : kc < N) (hC : ∀ r, C r kc = .inl (cA, n, .inl r)) (ht : tys[t0]? = some (cA, .int)) {i : Int32} (hi : x_in i n) (hdg : decode cc pc = .ok (.iaload, 1)) (k : x_J p l e R s m args below meth c cells slots Q A nL (x_I D cl N C ad σ) lv (.int (σ kc i.toNatClampNeg) :: st) (pc + 1)) : x_J p l e R s m args below meth c cells slots Q A nL (x_I D cl N C ad σ) lv (.int i :: .ref (ad kc) :: st) pc :=
  fun H locs ls h1 h2 h3 => va_iald (D := D) (cl := cl) (ws := x_l N C ad σ) B.1 B.2.1 G.1 h1 kc t0 (f := σ kc) (by rw [x_l_at C ad σ hk, hC]) ht hi hdg (k H locs ls h1 h2 h3)
theorem x_zald (B : x_B p s m args meth c cc nL Ts own) (G : x_G s D cl tys N ad A St) {kc n t0 : Nat} {cA : ClassId} (hk : kc < N) (hC : ∀ r, C r kc = .inl (cA, n, .inl r)) (ht : tys[t0]? = some (cA, .boolean)) {i : Int32} (hi : x_in i n) (hdg : decode cc pc = .ok (.baload, 1)) (k : x_J p l e R s m args below meth c cells slots Q A nL (x_I D cl N C ad σ) lv (.int (σ kc i.toNatClampNeg) :: st) (pc + 1)) : x_J p l e R s m args below meth c cells slots Q A nL (x_I D cl N C ad σ) lv (.int i :: .ref (ad kc) :: st) pc :=
  fun H locs ls h1 h2 h3 => va_zald (D := D) (cl := cl) (ws := x_l N C ad σ) B.1 B.2.1 G.1 h1 kc t0 (f := σ kc) (by rw [x_l_at C ad σ hk, hC]) ht hi hdg (k H locs ls h1 h2 h3)
theorem x_iast (B : x_B p s m args meth c cc nL Ts own) (G : x_G s D cl tys N ad A St) {kc n t0 : Nat} {cA : ClassId} (hk : kc < N) (hC : ∀ r, C r kc = .inl (cA, n, .inl r)) (ht : tys[t0]? = some (cA, .int)) {i x : Int32} (hi : x_in i n) (hdg : decode cc pc = .ok (.iastore, 1)) (k : x_J p l e R s m args below meth c cells slots Q A nL (x_I D cl N C ad (x_u σ kc i.toNatClampNeg x)) lv st (pc + 1)) : x_J p l e R s m args below meth c cells slots Q A nL (x_I D cl N C ad σ) lv (.int x :: .int i :: .ref (ad kc) :: st) pc := by
  intro H locs ls h1 h2 h3
  refine va_iast (D := D) (cl := cl) (ws := x_l N C ad σ) (A := A) B.1 B.2.1 G.1 h1 (x_D G.2.1 G.2.2.1 σ) h2 kc t0 (f := σ kc) (by rw [x_l_at C ad σ hk, hC]) ht hi hdg (fun H1 locs1 g1 _ g2 => ?_)
  rw [← hC, x_l_set C ad σ hk] at g1
  exact k H1 locs1 ls g1 g2 h3
theorem x_zast (B : x_B p s m args meth c cc nL Ts own) (G : x_G s D cl tys N ad A St) {kc n t0 : Nat} {cA : ClassId} (hk : kc < N) (hC : ∀ r, C r kc = .inl (cA, n, .inl r)) (ht : tys[t0]? = some (cA, .boolean)) {i x : Int32} (hi : x_in i n) (hx : x &&& 1 = x) (hdg : decode cc pc = .ok (.bastore, 1)) (k : x_J p l e R s m args below meth c cells slots Q A nL (x_I D cl N C ad (x_u σ kc i.toNatClampNeg x)) lv st (pc + 1)) : x_J p l e R s m args below meth c cells slots Q A nL (x_I D cl N C ad σ) lv (.int x :: .int i :: .ref (ad kc) :: st) pc := by
  intro H locs ls h1 h2 h3
  refine va_zast (D := D) (cl := cl) (ws := x_l N C ad σ) (A := A) B.1 B.2.1 G.1 h1 (x_D G.2.1 G.2.2.1 σ) h2 kc t0 (f := σ kc) (by rw [x_l_at C ad σ hk, hC]) ht hi hdg (fun H1 locs1 g1 _ g2 => ?_)
  have hx2 : vp_nar .boolean x = x := hx
  rw [hx2, ← hC, x_l_set C ad σ hk] at g1
  exact k H1 locs1 ls g1 g2 h3
/-- a place of an array of references is read -/
theorem x_aald (B : x_B p s m args meth c cc nL Ts own) (G : x_G s D cl tys N ad A St) {kc n t0 : Nat} {cA : ClassId} {ty : FieldType} {f : Nat → Nat} (hk : kc < N) (hC : ∀ r, C r kc = .inl (cA, n, .inr (.inr (.inr (.inr (fun j => some (f j))))))) (ht : tys[t0]? = some (cA, ty)) (hty : ty.isReference = true) {i : Int32} (hi : x_in i n) (hdg : decode cc pc = .ok (.aaload, 1)) (k : x_J p l e R s m args below meth c cells slots Q A nL (x_I D cl N C ad σ) lv (.ref (f i.toNatClampNeg) :: st) (pc + 1)) : x_J p l e R s m args below meth c cells slots Q A nL (x_I D cl N C ad σ) lv (.int i :: .ref (ad kc) :: st) pc := by
  intro H locs ls h1 h2 h3
  have hlt : i.toNatClampNeg < n := Nat.not_le.mp fun q => hi (Or.inr q)
  have hP : va_P D cl (x_l N C ad σ) H := h1
  have ha : (x_l N C ad σ)[kc]? = some (ad kc, .inl (cA, n, .inr (.inr (.inr (.inr (fun j => some (f j))))))) := by rw [x_l_at C ad σ hk, hC]
  exact W.aald (v := va_rf (some (f i.toNatClampNeg))) (ty := ty) B.1 B.2.1 (hP kc _ ha) ((G.1.2 t0 _ ht).1 n (fun j => va_rf (some (f j)))) hty (fun q => by cases q) (by show ¬ (i < 0 ∨ (arrV _ _ _).slots.size ≤ _); rw [arrV_size]; exact hi) (by show (arrV _ _ _).slots[_]? = _; rw [arrV_read _ _ hlt]) rfl rfl hdg (k H locs ls h1 h2 h3)
theorem x_alen (B : x_B p s m args meth c cc nL Ts own) (G : x_G s D cl tys N ad A St) {kc t0 : Nat} {cA : ClassId} {x : (Nat → Int32) → vp_A} (hk : kc < N) (hC : ∀ r, C r kc = .inl (cA, x r)) {ty : FieldType} (ht : tys[t0]? = some (cA, ty)) {v : Int32} (hv : Int32.ofNat (x (σ kc)).1 = v) (hdg : decode cc pc = .ok (.arraylength, 1)) (k : x_J p l e R s m args below meth c cells slots Q A nL (x_I D cl N C ad σ) lv (.int v :: st) (pc + 1)) : x_J p l e R s m args below meth c cells slots Q A nL (x_I D cl N C ad σ) lv (.ref (ad kc) :: st) pc :=
  fun H locs ls h1 h2 h3 => va_alen (D := D) (cl := cl) (ws := x_l N C ad σ) B.1 B.2.1 G.1 h1 kc t0 (x := x (σ kc)) (by rw [x_l_at C ad σ hk, hC]) ht hv hdg (k H locs ls h1 h2 h3)
/-- ints are copied from row to row -/
theorem x_copy (B : x_B p s m args meth c cc nL Ts own) (G : x_G s D cl tys N ad A St) {index k0 k1 n0 n1 t0 : Nat} {cA : ClassId} (hlink : Cond.methodLink own index arraycopyName ∈ Ts) (hnat : Cond.native arraycopyName ∈ Ts) (hstat : Cond.static arraycopyName ∈ Ts) (hini : Cond.initialized "java/lang/System" ∈ Ts) (hk0 : k0 < N) (hk1 : k1 < N) (hC0 : ∀ r, C r k0 = .inl (cA, n0, .inl r)) (hC1 : ∀ r, C r k1 = .inl (cA, n1, .inl r)) (ht : tys[t0]? = some (cA, .int))
    {sp dp n : Int32} (hh : ¬ sp < 0 ∧ ¬ dp < 0 ∧ ¬ n < 0 ∧ sp.toNatClampNeg + n.toNatClampNeg ≤ n0 ∧ dp.toNatClampNeg + n.toNatClampNeg ≤ n1) (hR : 1 ≤ R.frames ∧ (st.map fun v => v.category).sum + (nativeFrameWords "java/lang/System" "arraycopy" 5 + 11) ≤ R.locals) (hdg : decode cc pc = .ok (.invokestatic index, 3))
    (k : x_J p l e R s m args below meth c cells slots Q A nL (x_I D cl N C ad (x_r σ k1 (va_cpy (σ k0) (σ k1) sp.toNatClampNeg dp.toNatClampNeg n.toNatClampNeg))) lv st (pc + 3)) : x_J p l e R s m args below meth c cells slots Q A nL (x_I D cl N C ad σ) lv (.int n :: .int dp :: .ref (ad k1) :: .int sp :: .ref (ad k0) :: st) pc := by
  intro H locs ls h1 h2 h3
  refine va_copyi (D := D) (cl := cl) (ws := x_l N C ad σ) (A := A) B.1 B.2.1 (by rw [B.2.2.1, h3.1]) B.2.2.2.1 (B.2.2.2.2.1 _ hlink) (B.2.2.2.2.1 _ hnat) (B.2.2.2.2.1 _ hstat) (B.2.2.2.2.1 _ hini) G.1 h1 (x_D G.2.1 G.2.2.1 σ) h2 k0 k1 t0 t0 (f := σ k0) (g := σ k1) (ty := .int) (by rw [x_l_at C ad σ hk0, hC0]) (by rw [x_l_at C ad σ hk1, hC1]) ht ht rfl hh.1 hh.2.1 hh.2.2.1 hh.2.2.2.1 hh.2.2.2.2 (fun i _ => rfl) hR.1 hR.2 hdg (fun H1 locs1 g1 _ g2 => ?_)
  rw [← hC1, x_l_set C ad σ hk1] at g1
  exact k H1 locs1 ls g1 g2 h3
theorem x_mmax (B : x_B p s m args meth c cc nL Ts own) {index : Nat} (hlink : Cond.methodLink own index Lib.Math.max.name ∈ Ts) (hstat : Cond.static Lib.Math.max.name ∈ Ts) (hini : Cond.initialized "java/lang/Math" ∈ Ts) (hcode : Cond.code Lib.Math.max.name Lib.Math.max.code 2 (some .int) ∈ Ts) (hR : 1 ≤ R.frames ∧ (st.map fun v => v.category).sum + 13 ≤ R.locals) (hcs : cells ≤ R.cells ∧ slots ≤ R.slots) {x y : Int32} (hdg : decode cc pc = .ok (.invokestatic index, 3)) (k : x_J p l e R s m args below meth c cells slots Q A nL I lv (.int (if x < y then y else x) :: st) (pc + 3)) : x_J p l e R s m args below meth c cells slots Q A nL I lv (.int y :: .int x :: st) pc :=
  fun H locs ls h1 h2 h3 => va_mmax B.1 B.2.1 (by rw [B.2.2.1, h3.1]) B.2.2.2.1 (B.2.2.2.2.1 _ hlink) (B.2.2.2.2.1 _ hstat) (B.2.2.2.2.1 _ hini) (B.2.2.2.2.1 _ hcode) hR.1 hR.2 hcs.1 hcs.2 hdg (k H locs ls h1 h2 h3)
theorem x_mmin (B : x_B p s m args meth c cc nL Ts own) {index : Nat} (hlink : Cond.methodLink own index Lib.Math.min.name ∈ Ts) (hstat : Cond.static Lib.Math.min.name ∈ Ts) (hini : Cond.initialized "java/lang/Math" ∈ Ts) (hcode : Cond.code Lib.Math.min.name Lib.Math.min.code 2 (some .int) ∈ Ts) (hR : 1 ≤ R.frames ∧ (st.map fun v => v.category).sum + 13 ≤ R.locals) (hcs : cells ≤ R.cells ∧ slots ≤ R.slots) {x y : Int32} (hdg : decode cc pc = .ok (.invokestatic index, 3)) (k : x_J p l e R s m args below meth c cells slots Q A nL I lv (.int (if y < x then y else x) :: st) (pc + 3)) : x_J p l e R s m args below meth c cells slots Q A nL I lv (.int y :: .int x :: st) pc :=
  fun H locs ls h1 h2 h3 => va_mmin B.1 B.2.1 (by rw [B.2.2.1, h3.1]) B.2.2.2.1 (B.2.2.2.2.1 _ hlink) (B.2.2.2.2.1 _ hstat) (B.2.2.2.2.1 _ hini) (B.2.2.2.2.1 _ hcode) hR.1 hR.2 hcs.1 hcs.2 hdg (k H locs ls h1 h2 h3)
/-- a static that holds a reference; a table is read -/
theorem x_gets (B : x_B p s m args meth c cc nL Ts own) {Cn nm d : String} {v : Value} {index : Nat} (hZ : va_Z Cn nm d v A s s.heap) (hlink : Cond.fieldLink own index Cn nm d ∈ Ts) (hdg : decode cc pc = .ok (.getstatic index, 3)) (k : x_J p l e R s m args below meth c cells slots Q A nL I lv (v :: st) (pc + 3)) : x_J p l e R s m args below meth c cells slots Q A nL I lv st pc :=
  fun H locs ls h1 h2 h3 => va_gets B.1 B.2.1 hZ h2 B.2.2.2.1 (B.2.2.2.2.1 _ hlink) (fun _ h9 => h9) hdg (k H locs ls h1 h2 h3)
theorem x_tald (B : x_B p s m args meth c cc nL Ts own) {t n : Nat} {f : Nat → Int32} (hT : va_T .int t n (fun j => .int (f j)) A s s.heap) {i : Int32} (hi : x_in i n) (hdg : decode cc pc = .ok (.iaload, 1)) (k : x_J p l e R s m args below meth c cells slots Q A nL I lv (.int (f i.toNatClampNeg) :: st) (pc + 1)) : x_J p l e R s m args below meth c cells slots Q A nL I lv (.int i :: .ref t :: st) pc :=
  fun H locs ls h1 h2 h3 => va_ti B.1 B.2.1 hT h2 hi rfl hdg (k H locs ls h1 h2 h3)
theorem x_talen (B : x_B p s m args meth c cc nL Ts own) {t n : Nat} {f : Nat → Value} {v : Int32} (hT : va_T .int t n f A s s.heap) (hv : Int32.ofNat n = v) (hdg : decode cc pc = .ok (.arraylength, 1)) (k : x_J p l e R s m args below meth c cells slots Q A nL I lv (.int v :: st) (pc + 1)) : x_J p l e R s m args below meth c cells slots Q A nL I lv (.ref t :: st) pc := by
  intro H locs ls h1 h2 h3
  obtain ⟨cell, g1, g2, g3, g4, g5, g6, g7⟩ := hT
  exact W.alen B.1 B.2.1 (a := t) (cell := cell) (ty := .int) (by rw [h2.2.1 t (Array.getElem?_eq_some_iff.mp g1).1 g7]; exact g1) g2 (g5.trans hv) rfl rfl hdg (k H locs ls h1 h2 h3)
end XJ
end
section
/-! ===== BEGIN words of one list among another's, by their places ===== -/
theorem goodIn_r {big : List Cond} (ws : List Cond) (ps : List Nat) (hp : ws = ps.filterMap (fun i => big[i]?)) (h : ws.all goodWord = true) : GoodIn big ws := by
  intro w hw
  have h1 := List.all_eq_true.mp h w hw
  rw [hp] at hw
  obtain ⟨i, -, hi⟩ := List.mem_filterMap.mp hw
  have hm : w ∈ big := by first | exact List.mem_of_getElem? hi | exact List.getElem?_mem hi
  exact ⟨hm, good_of_word h1⟩
theorem goodIn_app {big a b : List Cond} (ha : GoodIn big a) (hb : GoodIn big b) : GoodIn big (a ++ b) := fun w h => (List.mem_append.mp h).elim (ha w) (hb w)
theorem goodIn_ca {big a b : List Cond} {c : Cond} (ha : GoodIn big (c :: a)) (hb : GoodIn big b) : GoodIn big (c :: (a ++ b)) := fun w h => (List.mem_cons.mp h).elim (fun e => ha w (List.mem_cons.mpr (Or.inl e))) (fun h => (List.mem_append.mp h).elim (fun h => ha w (List.mem_cons.mpr (Or.inr h))) (hb w))
theorem goodIn_sub {big ws : List Cond} (hm : ∀ w ∈ ws, w ∈ big) (h : ws.all goodWord = true) : GoodIn big ws := fun w hw => ⟨hm w hw, good_of_word (List.all_eq_true.mp h w hw)⟩
/-! ===== END ===== -/

/-! ===== BEGIN printed: names, fields, word lists, decode rows ===== -/
def RX0 : String := "SignDuty$Acts"
def TX0 : u_T := fun k => match k with
  | 0 => ("SignDuty$Acts", "deeds", "[I", true)
  | 1 => ("SignDuty$Acts", "whats", "[I", true)
  | 2 => ("SignDuty$Acts", "values", "[I", true)
  | 3 => ("SignDuty$Acts", "nextSlot", "I", false)
  | _ => ("SignDuty$Acts", "kept", "I", false)
def tyX0 : Nat → FieldType := fun k => match k with
  | 0 => .array .int
  | 1 => .array .int
  | 2 => .array .int
  | 3 => .int
  | _ => .int
abbrev wsX00 : List Cond := u_ws RX0 TX0 5
theorem nmX0 : ∀ a, a < 5 → ∀ b, b < 5 → a ≠ b → (TX0 a).2.1 ≠ (TX0 b).2.1 := by decide +kernel
theorem tyX0_ok : ∀ k, k < 5 → parseFieldDescriptor (TX0 k).2.2.1 = some (tyX0 k) := by decide +kernel
abbrev cX0_init : ByteArray := prog_2_method_1_code
def yX0_init : MethodName := ⟨RX0, "<init>", "()V"⟩
abbrev cX0_forgetAll : ByteArray := prog_2_method_2_code
def yX0_forgetAll : MethodName := ⟨RX0, "forgetAll", "()V"⟩
abbrev cX0_keep : ByteArray := prog_2_method_3_code
def yX0_keep : MethodName := ⟨RX0, "keep", "(III)V"⟩
abbrev cX0_takeBack : ByteArray := prog_2_method_4_code
def yX0_takeBack : MethodName := ⟨RX0, "takeBack", "(LSignDuty$City;)V"⟩
def RX1 : String := "SignDuty$Asks"
def TX1 : u_T := fun k => match k with
  | 0 => ("SignDuty$Asks", "numbers", "[I", true)
  | _ => ("SignDuty$Asks", "left", "I", false)
def tyX1 : Nat → FieldType := fun k => match k with
  | 0 => .array .int
  | _ => .int
abbrev wsX10 : List Cond := u_ws RX1 TX1 2
theorem nmX1 : ∀ a, a < 2 → ∀ b, b < 2 → a ≠ b → (TX1 a).2.1 ≠ (TX1 b).2.1 := by decide +kernel
theorem tyX1_ok : ∀ k, k < 2 → parseFieldDescriptor (TX1 k).2.2.1 = some (tyX1 k) := by decide +kernel
abbrev cX1_init : ByteArray := prog_3_method_1_code
def yX1_init : MethodName := ⟨RX1, "<init>", "()V"⟩
abbrev cX1_answer : ByteArray := prog_3_method_2_code
def yX1_answer : MethodName := ⟨RX1, "answer", "(LSignDuty$City;II)I"⟩
abbrev cX1_numberLeft : ByteArray := prog_3_method_3_code
def yX1_numberLeft : MethodName := ⟨RX1, "numberLeft", "(I)I"⟩
abbrev cX1_asked : ByteArray := prog_3_method_4_code
def yX1_asked : MethodName := ⟨RX1, "asked", "(LSignDuty$City;III)I"⟩
abbrev cX1_bodyFor : ByteArray := prog_3_method_5_code
def yX1_bodyFor : MethodName := ⟨RX1, "bodyFor", "([II)I"⟩
abbrev cX1_given : ByteArray := prog_3_method_6_code
def yX1_given : MethodName := ⟨RX1, "given", "(ILSignDuty$City;II)I"⟩
abbrev cX1_leave : ByteArray := prog_3_method_7_code
def yX1_leave : MethodName := ⟨RX1, "leave", "(I)V"⟩
def RX2 : String := "SignDuty$City"
def TX2 : u_T := fun k => match k with
  | 0 => ("SignDuty$City", "stands", "Z", false)
  | 1 => ("SignDuty$City", "rate", "I", false)
  | 2 => ("SignDuty$City", "paid", "I", false)
  | 3 => ("SignDuty$City", "streets", "I", false)
  | 4 => ("SignDuty$City", "known", "I", false)
  | 5 => ("SignDuty$City", "gestures", "I", false)
  | 6 => ("SignDuty$City", "dim", "[I", true)
  | 7 => ("SignDuty$City", "strict", "[I", true)
  | 8 => ("SignDuty$City", "kind", "[I", true)
  | 9 => ("SignDuty$City", "inches", "[I", true)
  | 10 => ("SignDuty$City", "means", "[I", true)
  | 11 => ("SignDuty$City", "takes", "[I", true)
  | _ => ("SignDuty$City", "made", "[I", true)
def tyX2 : Nat → FieldType := fun k => match k with
  | 0 => .boolean
  | 1 => .int
  | 2 => .int
  | 3 => .int
  | 4 => .int
  | 5 => .int
  | 6 => .array .int
  | 7 => .array .int
  | 8 => .array .int
  | 9 => .array .int
  | 10 => .array .int
  | 11 => .array .int
  | _ => .array .int
abbrev wsX20 : List Cond := u_ws RX2 TX2 13
theorem nmX2 : ∀ a, a < 13 → ∀ b, b < 13 → a ≠ b → (TX2 a).2.1 ≠ (TX2 b).2.1 := by decide +kernel
theorem tyX2_ok : ∀ k, k < 13 → parseFieldDescriptor (TX2 k).2.2.1 = some (tyX2 k) := by decide +kernel
abbrev cX2_init : ByteArray := prog_4_method_1_code
def yX2_init : MethodName := ⟨RX2, "<init>", "()V"⟩
abbrev cX2_begin : ByteArray := prog_4_method_2_code
def yX2_begin : MethodName := ⟨RX2, "begin", "(I)V"⟩
abbrev cX2_become : ByteArray := prog_4_method_3_code
def yX2_become : MethodName := ⟨RX2, "become", "(LSignDuty$City;)V"⟩
abbrev cX2_isKnown : ByteArray := prog_4_method_4_code
def yX2_isKnown : MethodName := ⟨RX2, "isKnown", "(I)Z"⟩
abbrev cX2_turnKnown : ByteArray := prog_4_method_5_code
def yX2_turnKnown : MethodName := ⟨RX2, "turnKnown", "(I)V"⟩
abbrev cX2_owes : ByteArray := prog_4_method_6_code
def yX2_owes : MethodName := ⟨RX2, "owes", "(II)I"⟩
abbrev cX2_owesIfKnown : ByteArray := prog_4_method_7_code
def yX2_owesIfKnown : MethodName := ⟨RX2, "owesIfKnown", "(II)I"⟩
abbrev cX2_owesSuch : ByteArray := prog_4_method_8_code
def yX2_owesSuch : MethodName := ⟨RX2, "owesSuch", "(III)I"⟩
abbrev cX2_owesUnknown : ByteArray := prog_4_method_9_code
def yX2_owesUnknown : MethodName := ⟨RX2, "owesUnknown", "(III)I"⟩
abbrev cX2_isSeen : ByteArray := prog_4_method_10_code
def yX2_isSeen : MethodName := ⟨RX2, "isSeen", "(II)Z"⟩
abbrev cX2_tells : ByteArray := prog_4_method_11_code
def yX2_tells : MethodName := ⟨RX2, "tells", "(III)Z"⟩
abbrev cX2_streetsThatSee : ByteArray := prog_4_method_12_code
def yX2_streetsThatSee : MethodName := ⟨RX2, "streetsThatSee", "(I)I"⟩
abbrev cX2_gesturesSeenIn : ByteArray := prog_4_method_13_code
def yX2_gesturesSeenIn : MethodName := ⟨RX2, "gesturesSeenIn", "(I)I"⟩
abbrev cX2_streetsWithout : ByteArray := prog_4_method_14_code
def yX2_streetsWithout : MethodName := ⟨RX2, "streetsWithout", "(I)I"⟩
abbrev cX2_leastTime : ByteArray := prog_4_method_15_code
def yX2_leastTime : MethodName := ⟨RX2, "leastTime", "(II)I"⟩
abbrev cX2_dearestStreet : ByteArray := prog_4_method_16_code
def yX2_dearestStreet : MethodName := ⟨RX2, "dearestStreet", "(I)I"⟩
def RX3 : String := "SignDuty$Kinds"
def TX3 : u_T := fun k => match k with
  | _ => ("", "", "", false)
def tyX3 : Nat → FieldType := fun k => match k with
  | _ => .int
abbrev wsX30 : List Cond := u_ws RX3 TX3 0
theorem nmX3 : ∀ a, a < 0 → ∀ b, b < 0 → a ≠ b → (TX3 a).2.1 ≠ (TX3 b).2.1 := by decide +kernel
theorem tyX3_ok : ∀ k, k < 0 → parseFieldDescriptor (TX3 k).2.2.1 = some (tyX3 k) := by decide +kernel
abbrev cX3_widerThan : ByteArray := prog_5_method_2_code
def yX3_widerThan : MethodName := ⟨RX3, "widerThan", "(I)I"⟩
abbrev cX3_isOneOf : ByteArray := prog_5_method_3_code
def yX3_isOneOf : MethodName := ⟨RX3, "isOneOf", "(II)Z"⟩
abbrev cX3_ofLetter : ByteArray := prog_5_method_4_code
def yX3_ofLetter : MethodName := ⟨RX3, "ofLetter", "(I)I"⟩
def RX4 : String := "SignDuty$Reader"
def TX4 : u_T := fun k => match k with
  | 0 => ("SignDuty$Reader", "tape", "[I", true)
  | 1 => ("SignDuty$Reader", "length", "I", false)
  | 2 => ("SignDuty$Reader", "lastFault", "I", false)
  | 3 => ("SignDuty$Reader", "faultPlace", "I", false)
  | 4 => ("SignDuty$Reader", "fault", "I", false)
  | _ => ("SignDuty$Reader", "at", "I", false)
def tyX4 : Nat → FieldType := fun k => match k with
  | 0 => .array .int
  | 1 => .int
  | 2 => .int
  | 3 => .int
  | 4 => .int
  | _ => .int
abbrev wsX40 : List Cond := u_ws RX4 TX4 6
theorem nmX4 : ∀ a, a < 6 → ∀ b, b < 6 → a ≠ b → (TX4 a).2.1 ≠ (TX4 b).2.1 := by decide +kernel
theorem tyX4_ok : ∀ k, k < 6 → parseFieldDescriptor (TX4 k).2.2.1 = some (tyX4 k) := by decide +kernel
abbrev cX4_init : ByteArray := prog_6_method_1_code
def yX4_init : MethodName := ⟨RX4, "<init>", "()V"⟩
abbrev cX4_isFull : ByteArray := prog_6_method_2_code
def yX4_isFull : MethodName := ⟨RX4, "isFull", "()Z"⟩
abbrev cX4_append : ByteArray := prog_6_method_3_code
def yX4_append : MethodName := ⟨RX4, "append", "(I)I"⟩
abbrev cX4_reads : ByteArray := prog_6_method_4_code
def yX4_reads : MethodName := ⟨RX4, "reads", "(LSignDuty$City;)Z"⟩
abbrev cX4_readLaw : ByteArray := prog_6_method_5_code
def yX4_readLaw : MethodName := ⟨RX4, "readLaw", "(LSignDuty$City;)V"⟩
abbrev cX4_readStreet : ByteArray := prog_6_method_6_code
def yX4_readStreet : MethodName := ⟨RX4, "readStreet", "(LSignDuty$City;)V"⟩
abbrev cX4_readGesture : ByteArray := prog_6_method_7_code
def yX4_readGesture : MethodName := ⟨RX4, "readGesture", "(LSignDuty$City;)V"⟩
abbrev cX4_next : ByteArray := prog_6_method_8_code
def yX4_next : MethodName := ⟨RX4, "next", "()I"⟩
abbrev cX4_readSign : ByteArray := prog_6_method_9_code
def yX4_readSign : MethodName := ⟨RX4, "readSign", "(I)V"⟩
abbrev cX4_readNumber : ByteArray := prog_6_method_10_code
def yX4_readNumber : MethodName := ⟨RX4, "readNumber", "(II)I"⟩
abbrev cX4_fail : ByteArray := prog_6_method_11_code
def yX4_fail : MethodName := ⟨RX4, "fail", "(I)V"⟩
abbrev cX4_failAt : ByteArray := prog_6_method_12_code
def yX4_failAt : MethodName := ⟨RX4, "failAt", "(II)V"⟩
def RX5 : String := "SignDuty$Rows"
def TX5 : u_T := fun k => match k with
  | 0 => ("SignDuty$Rows", "items", "[[I", true)
  | 1 => ("SignDuty$Rows", "lengths", "[I", true)
  | _ => ("SignDuty$Rows", "lanes", "[I", true)
def tyX5 : Nat → FieldType := fun k => match k with
  | 0 => .array (.array .int)
  | 1 => .array .int
  | _ => .array .int
abbrev wsX50 : List Cond := u_ws RX5 TX5 3
theorem nmX5 : ∀ a, a < 3 → ∀ b, b < 3 → a ≠ b → (TX5 a).2.1 ≠ (TX5 b).2.1 := by decide +kernel
theorem tyX5_ok : ∀ k, k < 3 → parseFieldDescriptor (TX5 k).2.2.1 = some (tyX5 k) := by decide +kernel
abbrev cX5_init : ByteArray := prog_7_method_1_code
def yX5_init : MethodName := ⟨RX5, "<init>", "()V"⟩
abbrev cX5_isRow : ByteArray := prog_7_method_2_code
def yX5_isRow : MethodName := ⟨RX5, "isRow", "(I)Z"⟩
abbrev cX5_isMissing : ByteArray := prog_7_method_3_code
def yX5_isMissing : MethodName := ⟨RX5, "isMissing", "(I)Z"⟩
abbrev cX5_areAlike : ByteArray := prog_7_method_4_code
def yX5_areAlike : MethodName := ⟨RX5, "areAlike", "(II)Z"⟩
abbrev cX5_reaches : ByteArray := prog_7_method_5_code
def yX5_reaches : MethodName := ⟨RX5, "reaches", "(III)Z"⟩
abbrev cX5_findingOf : ByteArray := prog_7_method_6_code
def yX5_findingOf : MethodName := ⟨RX5, "findingOf", "(III)I"⟩
abbrev cX5_lay : ByteArray := prog_7_method_7_code
def yX5_lay : MethodName := ⟨RX5, "lay", "(III)V"⟩
abbrev cX5_put : ByteArray := prog_7_method_8_code
def yX5_put : MethodName := ⟨RX5, "put", "(III)I"⟩
abbrev cX5_at : ByteArray := prog_7_method_9_code
def yX5_at : MethodName := ⟨RX5, "at", "(II)I"⟩
abbrev cX5_carry : ByteArray := prog_7_method_10_code
def yX5_carry : MethodName := ⟨RX5, "carry", "(IIIII)V"⟩
abbrev cX5_takeAway : ByteArray := prog_7_method_11_code
def yX5_takeAway : MethodName := ⟨RX5, "takeAway", "(I)I"⟩
abbrev cX5_howMany : ByteArray := prog_7_method_12_code
def yX5_howMany : MethodName := ⟨RX5, "howMany", "()I"⟩
abbrev cX5_lowestBits : ByteArray := prog_7_method_13_code
def yX5_lowestBits : MethodName := ⟨RX5, "lowestBits", "(II)I"⟩
def RX6 : String := "SignDuty$Teller"
def TX6 : u_T := fun k => match k with
  | _ => ("SignDuty$Teller", "least", "[[I", true)
def tyX6 : Nat → FieldType := fun k => match k with
  | _ => .array (.array .int)
abbrev wsX60 : List Cond := u_ws RX6 TX6 1
theorem nmX6 : ∀ a, a < 1 → ∀ b, b < 1 → a ≠ b → (TX6 a).2.1 ≠ (TX6 b).2.1 := by decide +kernel
theorem tyX6_ok : ∀ k, k < 1 → parseFieldDescriptor (TX6 k).2.2.1 = some (tyX6 k) := by decide +kernel
abbrev cX6_init : ByteArray := prog_8_method_1_code
def yX6_init : MethodName := ⟨RX6, "<init>", "()V"⟩
abbrev cX6_leastDuty : ByteArray := prog_8_method_2_code
def yX6_leastDuty : MethodName := ⟨RX6, "leastDuty", "(LSignDuty$City;IIII)I"⟩
abbrev cX6_gestureOfCheapest : ByteArray := prog_8_method_3_code
def yX6_gestureOfCheapest : MethodName := ⟨RX6, "gestureOfCheapest", "(LSignDuty$City;IIIII)I"⟩
abbrev cX6_fill : ByteArray := prog_8_method_4_code
def yX6_fill : MethodName := ⟨RX6, "fill", "(LSignDuty$City;IIII)V"⟩
abbrev cX6_offer : ByteArray := prog_8_method_5_code
def yX6_offer : MethodName := ⟨RX6, "offer", "(IIII)V"⟩
abbrev cX6_firstOfCheapest : ByteArray := prog_8_method_6_code
def yX6_firstOfCheapest : MethodName := ⟨RX6, "firstOfCheapest", "(LSignDuty$City;III)I"⟩
def RX7 : String := "SignDuty"
def TX7 : u_T := fun k => match k with
  | 0 => ("SignDuty", "rows", "LSignDuty$Rows;", true)
  | 1 => ("SignDuty", "reader", "LSignDuty$Reader;", true)
  | 2 => ("SignDuty", "city", "LSignDuty$City;", true)
  | 3 => ("SignDuty", "draft", "LSignDuty$City;", true)
  | 4 => ("SignDuty", "images", "[LSignDuty$City;", true)
  | 5 => ("SignDuty", "acts", "LSignDuty$Acts;", true)
  | 6 => ("SignDuty", "teller", "LSignDuty$Teller;", true)
  | 7 => ("SignDuty", "asks", "LSignDuty$Asks;", true)
  | _ => ("SignDuty", "lastFinding", "I", false)
def tyX7 : Nat → FieldType := fun k => match k with
  | 0 => .object "SignDuty$Rows"
  | 1 => .object "SignDuty$Reader"
  | 2 => .object "SignDuty$City"
  | 3 => .object "SignDuty$City"
  | 4 => .array (.object "SignDuty$City")
  | 5 => .object "SignDuty$Acts"
  | 6 => .object "SignDuty$Teller"
  | 7 => .object "SignDuty$Asks"
  | _ => .int
abbrev wsX70 : List Cond := u_ws RX7 TX7 9
theorem nmX7 : ∀ a, a < 9 → ∀ b, b < 9 → a ≠ b → (TX7 a).2.1 ≠ (TX7 b).2.1 := by decide +kernel
theorem tyX7_ok : ∀ k, k < 9 → parseFieldDescriptor (TX7 k).2.2.1 = some (tyX7 k) := by decide +kernel
abbrev cX7_init : ByteArray := prog_1_method_1_code
def yX7_init : MethodName := ⟨RX7, "<init>", "()V"⟩
abbrev cX7_row : ByteArray := prog_1_method_2_code
def yX7_row : MethodName := ⟨RX7, "row", "(III)I"⟩
abbrev cX7_set : ByteArray := prog_1_method_3_code
def yX7_set : MethodName := ⟨RX7, "set", "(III)I"⟩
abbrev cX7_copy : ByteArray := prog_1_method_4_code
def yX7_copy : MethodName := ⟨RX7, "copy", "(IIIII)I"⟩
abbrev cX7_drop : ByteArray := prog_1_method_5_code
def yX7_drop : MethodName := ⟨RX7, "drop", "(I)I"⟩
abbrev cX7_feed : ByteArray := prog_1_method_6_code
def yX7_feed : MethodName := ⟨RX7, "feed", "(I)I"⟩
abbrev cX7_city : ByteArray := prog_1_method_7_code
def yX7_city : MethodName := ⟨RX7, "city", "()I"⟩
abbrev cX7_fault : ByteArray := prog_1_method_8_code
def yX7_fault : MethodName := ⟨RX7, "fault", "()I"⟩
abbrev cX7_make : ByteArray := prog_1_method_9_code
def yX7_make : MethodName := ⟨RX7, "make", "(II)I"⟩
abbrev cX7_dim : ByteArray := prog_1_method_10_code
def yX7_dim : MethodName := ⟨RX7, "dim", "(II)I"⟩
abbrev cX7_train : ByteArray := prog_1_method_11_code
def yX7_train : MethodName := ⟨RX7, "train", "(II)I"⟩
abbrev cX7_know : ByteArray := prog_1_method_12_code
def yX7_know : MethodName := ⟨RX7, "know", "(II)I"⟩
abbrev cX7_undo : ByteArray := prog_1_method_13_code
def yX7_undo : MethodName := ⟨RX7, "undo", "()I"⟩
abbrev cX7_gesture : ByteArray := prog_1_method_14_code
def yX7_gesture : MethodName := ⟨RX7, "gesture", "(II)I"⟩
abbrev cX7_street : ByteArray := prog_1_method_15_code
def yX7_street : MethodName := ⟨RX7, "street", "(II)I"⟩
abbrev cX7_duty : ByteArray := prog_1_method_16_code
def yX7_duty : MethodName := ⟨RX7, "duty", "(II)I"⟩
abbrev cX7_tell : ByteArray := prog_1_method_17_code
def yX7_tell : MethodName := ⟨RX7, "tell", "(IIIII)I"⟩
abbrev cX7_shut : ByteArray := prog_1_method_18_code
def yX7_shut : MethodName := ⟨RX7, "shut", "(I)I"⟩
abbrev cX7_quick : ByteArray := prog_1_method_19_code
def yX7_quick : MethodName := ⟨RX7, "quick", "(III)I"⟩
abbrev cX7_thread : ByteArray := prog_1_method_20_code
def yX7_thread : MethodName := ⟨RX7, "thread", "(III)I"⟩
abbrev cX7_inches : ByteArray := prog_1_method_21_code
def yX7_inches : MethodName := ⟨RX7, "inches", "(IIII)I"⟩
abbrev cX7_sorts : ByteArray := prog_1_method_22_code
def yX7_sorts : MethodName := ⟨RX7, "sorts", "(IIII)I"⟩
abbrev cX7_saved : ByteArray := prog_1_method_23_code
def yX7_saved : MethodName := ⟨RX7, "saved", "(I)I"⟩
abbrev cX7_worst : ByteArray := prog_1_method_24_code
def yX7_worst : MethodName := ⟨RX7, "worst", "(II)I"⟩
abbrev cX7_tremble : ByteArray := prog_1_method_25_code
def yX7_tremble : MethodName := ⟨RX7, "tremble", "(IIIIII)I"⟩
abbrev cX7_image : ByteArray := prog_1_method_26_code
def yX7_image : MethodName := ⟨RX7, "image", "(I)I"⟩
abbrev cX7_restore : ByteArray := prog_1_method_27_code
def yX7_restore : MethodName := ⟨RX7, "restore", "(I)I"⟩
abbrev cX7_kind : ByteArray := prog_1_method_28_code
def yX7_kind : MethodName := ⟨RX7, "kind", "(I)I"⟩
abbrev cX7_as : ByteArray := prog_1_method_29_code
def yX7_as : MethodName := ⟨RX7, "as", "(II)I"⟩
abbrev cX7_ask : ByteArray := prog_1_method_30_code
def yX7_ask : MethodName := ⟨RX7, "ask", "(II)I"⟩
abbrev cX7_trace : ByteArray := prog_1_method_31_code
def yX7_trace : MethodName := ⟨RX7, "trace", "(I)I"⟩
abbrev cX7_count : ByteArray := prog_1_method_32_code
def yX7_count : MethodName := ⟨RX7, "count", "(I)I"⟩
abbrev cX7_status : ByteArray := prog_1_method_33_code
def yX7_status : MethodName := ⟨RX7, "status", "()I"⟩
abbrev cX7_isWithin : ByteArray := prog_1_method_34_code
def yX7_isWithin : MethodName := ⟨RX7, "isWithin", "(III)Z"⟩
abbrev cX7_isMeaning : ByteArray := prog_1_method_35_code
def yX7_isMeaning : MethodName := ⟨RX7, "isMeaning", "(I)Z"⟩
abbrev cX7_isGesture : ByteArray := prog_1_method_36_code
def yX7_isGesture : MethodName := ⟨RX7, "isGesture", "(I)Z"⟩
abbrev cX7_isStreet : ByteArray := prog_1_method_37_code
def yX7_isStreet : MethodName := ⟨RX7, "isStreet", "(I)Z"⟩
abbrev cX7_isStretch : ByteArray := prog_1_method_38_code
def yX7_isStretch : MethodName := ⟨RX7, "isStretch", "(II)Z"⟩
abbrev cX7_found : ByteArray := prog_1_method_39_code
def yX7_found : MethodName := ⟨RX7, "found", "(I)I"⟩
abbrev cX7_foundNothing : ByteArray := prog_1_method_40_code
def yX7_foundNothing : MethodName := ⟨RX7, "foundNothing", "(I)I"⟩
abbrev cX7_refusalOfThread : ByteArray := prog_1_method_41_code
def yX7_refusalOfThread : MethodName := ⟨RX7, "refusalOfThread", "(III)I"⟩
abbrev cX7_owesAlong : ByteArray := prog_1_method_42_code
def yX7_owesAlong : MethodName := ⟨RX7, "owesAlong", "(IIIII)Z"⟩
abbrev cX7_isSeenAlong : ByteArray := prog_1_method_43_code
def yX7_isSeenAlong : MethodName := ⟨RX7, "isSeenAlong", "(IIII)Z"⟩
abbrev cX7_tenthsWithin : ByteArray := prog_1_method_44_code
def yX7_tenthsWithin : MethodName := ⟨RX7, "tenthsWithin", "(LSignDuty$City;IIIII)I"⟩
abbrev cX7_commonDivisor : ByteArray := prog_1_method_45_code
def yX7_commonDivisor : MethodName := ⟨RX7, "commonDivisor", "(II)I"⟩
def RX8 : String := "SignDutyModel"
def TX8 : u_T := fun k => match k with
  | 0 => ("SignDutyModel", "row", "[I", true)
  | 1 => ("SignDutyModel", "isCity", "Z", false)
  | 2 => ("SignDutyModel", "undos", "I", false)
  | 3 => ("SignDutyModel", "isKept", "[Z", true)
  | 4 => ("SignDutyModel", "lanes", "[I", true)
  | 5 => ("SignDutyModel", "sizes", "[I", true)
  | 6 => ("SignDutyModel", "items", "[I", true)
  | 7 => ("SignDutyModel", "tape", "[I", true)
  | 8 => ("SignDutyModel", "length", "I", false)
  | 9 => ("SignDutyModel", "fault", "I", false)
  | 10 => ("SignDutyModel", "status", "I", false)
  | 11 => ("SignDutyModel", "trace", "[I", true)
  | 12 => ("SignDutyModel", "traced", "I", false)
  | 13 => ("SignDutyModel", "at", "I", false)
  | 14 => ("SignDutyModel", "wrong", "I", false)
  | 15 => ("SignDutyModel", "number", "I", false)
  | _ => ("SignDutyModel", "costs", "[I", true)
def tyX8 : Nat → FieldType := fun k => match k with
  | 0 => .array .int
  | 1 => .boolean
  | 2 => .int
  | 3 => .array .boolean
  | 4 => .array .int
  | 5 => .array .int
  | 6 => .array .int
  | 7 => .array .int
  | 8 => .int
  | 9 => .int
  | 10 => .int
  | 11 => .array .int
  | 12 => .int
  | 13 => .int
  | 14 => .int
  | 15 => .int
  | _ => .array .int
abbrev wsX80 : List Cond := u_ws RX8 TX8 17
theorem nmX8 : ∀ a, a < 17 → ∀ b, b < 17 → a ≠ b → (TX8 a).2.1 ≠ (TX8 b).2.1 := by decide +kernel
theorem tyX8_ok : ∀ k, k < 17 → parseFieldDescriptor (TX8 k).2.2.1 = some (tyX8 k) := by decide +kernel
abbrev cX8_init : ByteArray := prog_10_method_1_code
def yX8_init : MethodName := ⟨RX8, "<init>", "()V"⟩
abbrev cX8_in : ByteArray := prog_10_method_2_code
def yX8_in : MethodName := ⟨RX8, "in", "(JJJ)Z"⟩
abbrev cX8_has : ByteArray := prog_10_method_3_code
def yX8_has : MethodName := ⟨RX8, "has", "(II)Z"⟩
abbrev cX8_bits : ByteArray := prog_10_method_4_code
def yX8_bits : MethodName := ⟨RX8, "bits", "(I)I"⟩
abbrev cX8_find : ByteArray := prog_10_method_5_code
def yX8_find : MethodName := ⟨RX8, "find", "(I)I"⟩
abbrev cX8_well : ByteArray := prog_10_method_6_code
def yX8_well : MethodName := ⟨RX8, "well", "(I)I"⟩
abbrev cX8_isRow : ByteArray := prog_10_method_7_code
def yX8_isRow : MethodName := ⟨RX8, "isRow", "(I)Z"⟩
abbrev cX8_row : ByteArray := prog_10_method_8_code
def yX8_row : MethodName := ⟨RX8, "row", "(III)I"⟩
abbrev cX8_narrow : ByteArray := prog_10_method_9_code
def yX8_narrow : MethodName := ⟨RX8, "narrow", "(II)I"⟩
abbrev cX8_set : ByteArray := prog_10_method_10_code
def yX8_set : MethodName := ⟨RX8, "set", "(III)I"⟩
abbrev cX8_isSpan : ByteArray := prog_10_method_11_code
def yX8_isSpan : MethodName := ⟨RX8, "isSpan", "(III)Z"⟩
abbrev cX8_copy : ByteArray := prog_10_method_12_code
def yX8_copy : MethodName := ⟨RX8, "copy", "(IIIII)I"⟩
abbrev cX8_drop : ByteArray := prog_10_method_13_code
def yX8_drop : MethodName := ⟨RX8, "drop", "(I)I"⟩
abbrev cX8_feed : ByteArray := prog_10_method_14_code
def yX8_feed : MethodName := ⟨RX8, "feed", "(I)I"⟩
abbrev cX8_isLetter : ByteArray := prog_10_method_15_code
def yX8_isLetter : MethodName := ⟨RX8, "isLetter", "(I)Z"⟩
abbrev cX8_isFigure : ByteArray := prog_10_method_16_code
def yX8_isFigure : MethodName := ⟨RX8, "isFigure", "(I)Z"⟩
abbrev cX8_refuse : ByteArray := prog_10_method_17_code
def yX8_refuse : MethodName := ⟨RX8, "refuse", "(I)Z"⟩
abbrev cX8_sign : ByteArray := prog_10_method_18_code
def yX8_sign : MethodName := ⟨RX8, "sign", "(I)Z"⟩
abbrev cX8_readsNumber : ByteArray := prog_10_method_19_code
def yX8_readsNumber : MethodName := ⟨RX8, "readsNumber", "(II)Z"⟩
abbrev cX8_readsLaw : ByteArray := prog_10_method_20_code
def yX8_readsLaw : MethodName := ⟨RX8, "readsLaw", "()Z"⟩
abbrev cX8_readsStreet : ByteArray := prog_10_method_21_code
def yX8_readsStreet : MethodName := ⟨RX8, "readsStreet", "()Z"⟩
abbrev cX8_kindOfLetter : ByteArray := prog_10_method_22_code
def yX8_kindOfLetter : MethodName := ⟨RX8, "kindOfLetter", "(I)I"⟩
abbrev cX8_readsGesture : ByteArray := prog_10_method_23_code
def yX8_readsGesture : MethodName := ⟨RX8, "readsGesture", "()Z"⟩
abbrev cX8_reads : ByteArray := prog_10_method_24_code
def yX8_reads : MethodName := ⟨RX8, "reads", "()Z"⟩
abbrev cX8_city : ByteArray := prog_10_method_25_code
def yX8_city : MethodName := ⟨RX8, "city", "()I"⟩
abbrev cX8_fault : ByteArray := prog_10_method_26_code
def yX8_fault : MethodName := ⟨RX8, "fault", "()I"⟩
abbrev cX8_copyTown : ByteArray := prog_10_method_27_code
def yX8_copyTown : MethodName := ⟨RX8, "copyTown", "(II)V"⟩
abbrev cX8_keepPast : ByteArray := prog_10_method_28_code
def yX8_keepPast : MethodName := ⟨RX8, "keepPast", "()V"⟩
abbrev cX8_undo : ByteArray := prog_10_method_29_code
def yX8_undo : MethodName := ⟨RX8, "undo", "()I"⟩
abbrev cX8_isGesture : ByteArray := prog_10_method_30_code
def yX8_isGesture : MethodName := ⟨RX8, "isGesture", "(I)Z"⟩
abbrev cX8_isStreet : ByteArray := prog_10_method_31_code
def yX8_isStreet : MethodName := ⟨RX8, "isStreet", "(I)Z"⟩
abbrev cX8_wave : ByteArray := prog_10_method_32_code
def yX8_wave : MethodName := ⟨RX8, "wave", "(II)I"⟩
abbrev cX8_plainDuty : ByteArray := prog_10_method_33_code
def yX8_plainDuty : MethodName := ⟨RX8, "plainDuty", "(III)I"⟩
abbrev cX8_owes : ByteArray := prog_10_method_34_code
def yX8_owes : MethodName := ⟨RX8, "owes", "(III)I"⟩
abbrev cX8_dutyOf : ByteArray := prog_10_method_35_code
def yX8_dutyOf : MethodName := ⟨RX8, "dutyOf", "(II)I"⟩
abbrev cX8_isSeen : ByteArray := prog_10_method_36_code
def yX8_isSeen : MethodName := ⟨RX8, "isSeen", "(II)Z"⟩
abbrev cX8_make : ByteArray := prog_10_method_37_code
def yX8_make : MethodName := ⟨RX8, "make", "(II)I"⟩
abbrev cX8_dim : ByteArray := prog_10_method_38_code
def yX8_dim : MethodName := ⟨RX8, "dim", "(II)I"⟩
abbrev cX8_train : ByteArray := prog_10_method_39_code
def yX8_train : MethodName := ⟨RX8, "train", "(II)I"⟩
abbrev cX8_know : ByteArray := prog_10_method_40_code
def yX8_know : MethodName := ⟨RX8, "know", "(II)I"⟩
abbrev cX8_seenStreets : ByteArray := prog_10_method_41_code
def yX8_seenStreets : MethodName := ⟨RX8, "seenStreets", "(I)I"⟩
abbrev cX8_seenGestures : ByteArray := prog_10_method_42_code
def yX8_seenGestures : MethodName := ⟨RX8, "seenGestures", "(I)I"⟩
abbrev cX8_gesture : ByteArray := prog_10_method_43_code
def yX8_gesture : MethodName := ⟨RX8, "gesture", "(II)I"⟩
abbrev cX8_street : ByteArray := prog_10_method_44_code
def yX8_street : MethodName := ⟨RX8, "street", "(II)I"⟩
abbrev cX8_duty : ByteArray := prog_10_method_45_code
def yX8_duty : MethodName := ⟨RX8, "duty", "(II)I"⟩
abbrev cX8_tells : ByteArray := prog_10_method_46_code
def yX8_tells : MethodName := ⟨RX8, "tells", "(III)Z"⟩
abbrev cX8_onBy : ByteArray := prog_10_method_47_code
def yX8_onBy : MethodName := ⟨RX8, "onBy", "(IIII)I"⟩
abbrev cX8_layCosts : ByteArray := prog_10_method_48_code
def yX8_layCosts : MethodName := ⟨RX8, "layCosts", "(III)V"⟩
abbrev cX8_isMeans : ByteArray := prog_10_method_49_code
def yX8_isMeans : MethodName := ⟨RX8, "isMeans", "(I)Z"⟩
abbrev cX8_areStreets : ByteArray := prog_10_method_50_code
def yX8_areStreets : MethodName := ⟨RX8, "areStreets", "(II)Z"⟩
abbrev cX8_tell : ByteArray := prog_10_method_51_code
def yX8_tell : MethodName := ⟨RX8, "tell", "(IIIII)I"⟩
abbrev cX8_soonest : ByteArray := prog_10_method_52_code
def yX8_soonest : MethodName := ⟨RX8, "soonest", "(II)I"⟩
abbrev cX8_shut : ByteArray := prog_10_method_53_code
def yX8_shut : MethodName := ⟨RX8, "shut", "(I)I"⟩
abbrev cX8_quick : ByteArray := prog_10_method_54_code
def yX8_quick : MethodName := ⟨RX8, "quick", "(III)I"⟩
abbrev cX8_noPairs : ByteArray := prog_10_method_55_code
def yX8_noPairs : MethodName := ⟨RX8, "noPairs", "(III)I"⟩
abbrev cX8_owesSo : ByteArray := prog_10_method_56_code
def yX8_owesSo : MethodName := ⟨RX8, "owesSo", "(IIIII)Z"⟩
abbrev cX8_isSeenSo : ByteArray := prog_10_method_57_code
def yX8_isSeenSo : MethodName := ⟨RX8, "isSeenSo", "(IIII)Z"⟩
abbrev cX8_thread : ByteArray := prog_10_method_58_code
def yX8_thread : MethodName := ⟨RX8, "thread", "(III)I"⟩
abbrev cX8_inches : ByteArray := prog_10_method_59_code
def yX8_inches : MethodName := ⟨RX8, "inches", "(IIII)I"⟩
abbrev cX8_sorts : ByteArray := prog_10_method_60_code
def yX8_sorts : MethodName := ⟨RX8, "sorts", "(IIII)I"⟩
abbrev cX8_saved : ByteArray := prog_10_method_61_code
def yX8_saved : MethodName := ⟨RX8, "saved", "(I)I"⟩
abbrev cX8_worst : ByteArray := prog_10_method_62_code
def yX8_worst : MethodName := ⟨RX8, "worst", "(II)I"⟩
abbrev cX8_tremble : ByteArray := prog_10_method_63_code
def yX8_tremble : MethodName := ⟨RX8, "tremble", "(IIIIII)I"⟩
abbrev cX8_image : ByteArray := prog_10_method_64_code
def yX8_image : MethodName := ⟨RX8, "image", "(I)I"⟩
abbrev cX8_restore : ByteArray := prog_10_method_65_code
def yX8_restore : MethodName := ⟨RX8, "restore", "(I)I"⟩
abbrev cX8_kind : ByteArray := prog_10_method_66_code
def yX8_kind : MethodName := ⟨RX8, "kind", "(I)I"⟩
abbrev cX8_isOf : ByteArray := prog_10_method_67_code
def yX8_isOf : MethodName := ⟨RX8, "isOf", "(II)Z"⟩
abbrev cX8_as : ByteArray := prog_10_method_68_code
def yX8_as : MethodName := ⟨RX8, "as", "(II)I"⟩
abbrev cX8_begin : ByteArray := prog_10_method_69_code
def yX8_begin : MethodName := ⟨RX8, "begin", "(I)V"⟩
abbrev cX8_lentSize : ByteArray := prog_10_method_70_code
def yX8_lentSize : MethodName := ⟨RX8, "lentSize", "(I)I"⟩
abbrev cX8_wavesSize : ByteArray := prog_10_method_71_code
def yX8_wavesSize : MethodName := ⟨RX8, "wavesSize", "(I)I"⟩
abbrev cX8_winksSize : ByteArray := prog_10_method_72_code
def yX8_winksSize : MethodName := ⟨RX8, "winksSize", "(I)I"⟩
abbrev cX8_sizeOf : ByteArray := prog_10_method_73_code
def yX8_sizeOf : MethodName := ⟨RX8, "sizeOf", "(I)I"⟩
abbrev cX8_lentMark : ByteArray := prog_10_method_74_code
def yX8_lentMark : MethodName := ⟨RX8, "lentMark", "(I)I"⟩
abbrev cX8_wavesMark : ByteArray := prog_10_method_75_code
def yX8_wavesMark : MethodName := ⟨RX8, "wavesMark", "(I)I"⟩
abbrev cX8_mark : ByteArray := prog_10_method_76_code
def yX8_mark : MethodName := ⟨RX8, "mark", "(I)I"⟩
abbrev cX8_winksMark : ByteArray := prog_10_method_77_code
def yX8_winksMark : MethodName := ⟨RX8, "winksMark", "(I)I"⟩
abbrev cX8_ask : ByteArray := prog_10_method_78_code
def yX8_ask : MethodName := ⟨RX8, "ask", "(II)I"⟩
abbrev cX8_trace : ByteArray := prog_10_method_79_code
def yX8_trace : MethodName := ⟨RX8, "trace", "(I)I"⟩
abbrev cX8_count : ByteArray := prog_10_method_80_code
def yX8_count : MethodName := ⟨RX8, "count", "(I)I"⟩
abbrev cX8_status : ByteArray := prog_10_method_81_code
def yX8_status : MethodName := ⟨RX8, "status", "()I"⟩
def RJ6 : String := "java/lang/Integer"
def TJ6 : u_T := fun k => match k with
  | _ => ("", "", "", false)
def tyJ6 : Nat → FieldType := fun k => match k with
  | _ => .int
abbrev wsJ60 : List Cond := u_ws RJ6 TJ6 0
theorem nmJ6 : ∀ a, a < 0 → ∀ b, b < 0 → a ≠ b → (TJ6 a).2.1 ≠ (TJ6 b).2.1 := by decide +kernel
theorem tyJ6_ok : ∀ k, k < 0 → parseFieldDescriptor (TJ6 k).2.2.1 = some (tyJ6 k) := by decide +kernel
abbrev cJ6_bitCount_0f7a4 : ByteArray := prog_11_method_49_code
def yJ6_bitCount_0f7a4 : MethodName := ⟨RJ6, "bitCount", "(I)I"⟩
def RJ9 : String := "java/lang/Math"
def TJ9 : u_T := fun k => match k with
  | _ => ("", "", "", false)
def tyJ9 : Nat → FieldType := fun k => match k with
  | _ => .int
abbrev wsJ90 : List Cond := u_ws RJ9 TJ9 0
theorem nmJ9 : ∀ a, a < 0 → ∀ b, b < 0 → a ≠ b → (TJ9 a).2.1 ≠ (TJ9 b).2.1 := by decide +kernel
theorem tyJ9_ok : ∀ k, k < 0 → parseFieldDescriptor (TJ9 k).2.2.1 = some (tyJ9 k) := by decide +kernel
abbrev cJ9_max_7cf53 : ByteArray := prog_12_method_65_code
def yJ9_max_7cf53 : MethodName := ⟨RJ9, "max", "(II)I"⟩
abbrev cJ9_min_7cf53 : ByteArray := prog_12_method_69_code
def yJ9_min_7cf53 : MethodName := ⟨RJ9, "min", "(II)I"⟩
def RJ10 : String := "java/lang/System"
def TJ10 : u_T := fun k => match k with
  | _ => ("", "", "", false)
def tyJ10 : Nat → FieldType := fun k => match k with
  | _ => .int
abbrev wsJ100 : List Cond := u_ws RJ10 TJ10 0
theorem nmJ10 : ∀ a, a < 0 → ∀ b, b < 0 → a ≠ b → (TJ10 a).2.1 ≠ (TJ10 b).2.1 := by decide +kernel
theorem tyJ10_ok : ∀ k, k < 0 → parseFieldDescriptor (TJ10 k).2.2.1 = some (tyJ10 k) := by decide +kernel
def RL : String := "SignDutyLaw"
abbrev cL_law : ByteArray := code
def yL_law : MethodName := ⟨RL, "law", "([I)Z"⟩
abbrev vwCl : List vw_C := [(RX0, TX0, 5), (RX1, TX1, 2), (RX2, TX2, 13), (RX4, TX4, 6), (RX5, TX5, 3), (RX6, TX6, 1), (RX7, TX7, 9), (RX8, TX8, 17)]
end
section
/-- a state by a name -/
def x_w {β : Type} (u : x_S) (k : x_S → Option β) : Option β := k u
theorem x_ws {β : Type} {u : x_S} {k : x_S → Option β} {y : β} (h : x_w u k = some y) : ∃ w, w = u ∧ k w = some y := ⟨u, rfl, h⟩
/-! ===== words that change with what is warm: nest mates' private methods ===== -/
abbrev x_Nt : Type := State → Prop
def x_NwOk (NW : x_Nt) : Prop := (∀ u U : State, u.WarmedH U.vm → NW u → NW U) ∧ (∀ u U : State, u.vm = U.vm → NW u → NW U)
def x_H (s : State) (D : va_G) (cl : List vw_C) (tys : List (ClassId × FieldType)) (N : Nat) (ad : Nat → Nat) (A : Nat → Prop) (St : x_St) (NW : x_Nt) : Prop := x_G s D cl tys N ad A St ∧ x_NwOk NW ∧ NW s
def x_Pr2 (D : va_G) (cl : List vw_C) (tys : List (ClassId × FieldType)) (N : Nat) (C : x_C) (ad : Nat → Nat) (St : x_St) (NW : x_Nt) (σ : x_S) : State → Prop := fun U => x_Pre D cl tys N C ad St σ U ∧ NW U
abbrev x_NI (l : Launch) (y : MethodName) (ws : List Cond) (n : Nat) (D : va_G) (cl : List vw_C) (tys : List (ClassId × FieldType)) (N : Nat) (C : x_C) (ad : Nat → Nat) (St : x_St) (NW : x_Nt) (vs : List Value) (σ : x_S) (r0 : Int32) (σ0 : x_S) : Prop := Met l y ws (x_rm n) (va_Pc vs (x_Pr2 D cl tys N C ad St NW σ)) (x_Qi D cl N C ad r0 σ0) 0 0 (x_A N ad)
abbrev x_NV (l : Launch) (y : MethodName) (ws : List Cond) (n : Nat) (D : va_G) (cl : List vw_C) (tys : List (ClassId × FieldType)) (N : Nat) (C : x_C) (ad : Nat → Nat) (St : x_St) (NW : x_Nt) (vs : List Value) (σ : x_S) (σ0 : x_S) : Prop := Met l y ws (x_rm n) (va_Pc vs (x_Pr2 D cl tys N C ad St NW σ)) (x_Qv D cl N C ad σ0) 0 0 (x_A N ad)
theorem x_blind2 (vs : List Value) {D : va_G} {cl : List vw_C} {tys : List (ClassId × FieldType)} {N : Nat} {C : x_C} {ad : Nat → Nat} {St : x_St} {NW : x_Nt} (hSt : x_StOk St) (hN : x_NwOk NW) (σ : x_S) : FrameBlind (va_Pc vs (x_Pr2 D cl tys N C ad St NW σ)) := by
  intro a U g mk q
  obtain ⟨q0, ⟨qP, qK, qS⟩, qN⟩ := q
  exact ⟨q0, ⟨qP, va_K.moved (u := U) (U := U.calling g mk a) (Vm.Alike.refl U.vm) qK, hSt.1 _ U (U.calling g mk a) _ (Vm.Alike.refl U.vm) qS⟩, hN.2 U (U.calling g mk a) rfl qN⟩
/-! ===== calls and returns over the flat world ===== -/
section XC
variable {p : Program} {l : Launch} {e : Env} {R : Room} {s : State} {m : MethodId} {args : Array Value} {below : List Frame} {meth : Method} {c : Code} {cells slots : Nat} {Q : State → Prop}
variable {cc : ByteArray} {nL : Nat} {Ts : List Cond} {own : String} {A : Nat → Prop} {I : Heap → Prop} {lv lv' : List (Nat × Value)} {st st0 : List Value} {pc : Nat}
variable {D : va_G} {cl : List vw_C} {tys : List (ClassId × FieldType)} {N : Nat} {C : x_C} {ad : Nat → Nat} {St : x_St} {NW : x_Nt} {σ σ0 : x_S} {r0 : Int32}
theorem x_start (G : x_H s D cl tys N ad A St NW) {H : Heap} {locs : List Loc} (h1 : x_I D cl N C ad σ H) (h2 : va_S A s.heap H locs) {U : State} (hU : U.heap = H) (hW : s.WarmedH U.vm) : x_Pr2 D cl tys N C ad St NW σ U := by
  obtain ⟨⟨hK, -, hA, hSt, hst⟩, hN1, hN2⟩ := G
  refine ⟨⟨by rw [hU]; exact h1, va_K.moved hW.alike hK, ?_⟩, hN1.1 s U hW hN2⟩
  rw [hU]
  refine hSt.1 _ s U H hW.alike (hSt.2.2 A _ s H (fun q h => ?_) (hSt.2.1 A s s.heap H h2.2.1 hst))
  obtain ⟨k, hk, rfl⟩ := h
  exact hA k hk
theorem x_callV (B : x_B p s m args meth c cc nL Ts own) (G : x_H s D cl tys N ad A St NW) {y : MethodName} {ws : List Cond} {bytes : ByteArray} {maxL n index na kc ci nf : Nat} {ret : Option FieldType} {Cn : String} {T : u_T} {As : List Value} {fs : (Nat → Int32) → List Value}
    (hM : x_NI l y ws n D cl tys N C ad St NW (.ref (ad kc) :: As) σ r0 σ0) (cw : CallW R s args own Cn index y bytes maxL ret ws (x_rm n) 0 0 na) (hk : kc < N) (hC : ∀ r, C r kc = .inr (ci, fs r)) (hc : cl[ci]? = some (Cn, T, nf)) (hs : st0 = As.reverse ++ .ref (ad kc) :: st) (hn : As.length = na) (hst : (st.map fun v => v.category).sum ≤ 8) (hcs : cells ≤ R.cells ∧ slots ≤ R.slots) (hdg : decode cc pc = .ok (.invokevirtual index, 3))
    (k : x_J p l e R s m args below meth c cells slots Q A nL (x_I D cl N C ad σ0) lv (.int r0 :: st) (pc + 3)) : x_J p l e R s m args below meth c cells slots Q A nL (x_I D cl N C ad σ) lv st0 pc := by
  intro H locs ls h1 h2 h3
  subst hs
  have hsub : ∀ q, x_A N ad q → A q := fun q ⟨k, hk, e⟩ => by rw [e]; exact G.1.2.2.1 k hk
  refine va_calli (A0 := A) (va_runV (As := As) (rest := st) ⟨B.1, B.2.1, B.2.2.1, B.2.2.2.1, B.2.2.2.2.1⟩ hM cw ⟨x_blind2 _ G.1.2.2.2.1 G.2.1 σ, va_recv G.1.1 h1 hc (q0 := kc) (fs := fs (σ kc)) (by rw [x_l_at C ad σ hk, hC]), fun U hU hW => ⟨rfl, x_start G h1 h2 hU hW⟩⟩ rfl hn h3.1 rfl (lv_room hst) hdg hcs) h2 (fun q _ h => hsub q h) hsub (fun r u t H1 locs1 ht hvm hw hB _ _ hS => ?_)
  obtain ⟨rfl, rfl⟩ := hw
  have hB1 : x_I D cl N C ad u t.heap := hB
  rw [ht] at hB1
  exact k H1 locs1 ls hB1 hS h3
theorem x_callVv (B : x_B p s m args meth c cc nL Ts own) (G : x_H s D cl tys N ad A St NW) {y : MethodName} {ws : List Cond} {bytes : ByteArray} {maxL n index na kc ci nf : Nat} {ret : Option FieldType} {Cn : String} {T : u_T} {As : List Value} {fs : (Nat → Int32) → List Value}
    (hM : x_NV l y ws n D cl tys N C ad St NW (.ref (ad kc) :: As) σ σ0) (cw : CallW R s args own Cn index y bytes maxL ret ws (x_rm n) 0 0 na) (hk : kc < N) (hC : ∀ r, C r kc = .inr (ci, fs r)) (hc : cl[ci]? = some (Cn, T, nf)) (hs : st0 = As.reverse ++ .ref (ad kc) :: st) (hn : As.length = na) (hst : (st.map fun v => v.category).sum ≤ 8) (hcs : cells ≤ R.cells ∧ slots ≤ R.slots) (hdg : decode cc pc = .ok (.invokevirtual index, 3))
    (k : x_J p l e R s m args below meth c cells slots Q A nL (x_I D cl N C ad σ0) lv st (pc + 3)) : x_J p l e R s m args below meth c cells slots Q A nL (x_I D cl N C ad σ) lv st0 pc := by
  intro H locs ls h1 h2 h3
  subst hs
  have hsub : ∀ q, x_A N ad q → A q := fun q ⟨k, hk, e⟩ => by rw [e]; exact G.1.2.2.1 k hk
  refine va_callv (A0 := A) (va_runV (As := As) (rest := st) ⟨B.1, B.2.1, B.2.2.1, B.2.2.2.1, B.2.2.2.2.1⟩ hM cw ⟨x_blind2 _ G.1.2.2.2.1 G.2.1 σ, va_recv G.1.1 h1 hc (q0 := kc) (fs := fs (σ kc)) (by rw [x_l_at C ad σ hk, hC]), fun U hU hW => ⟨rfl, x_start G h1 h2 hU hW⟩⟩ rfl hn h3.1 rfl (lv_room hst) hdg hcs) h2 (fun q _ h => hsub q h) hsub (fun u t H1 locs1 ht hvm hw hB _ _ hS => ?_)
  have hB1 : x_I D cl N C ad u t.heap := hB
  rw [ht, show u = σ0 from hw] at hB1
  exact k H1 locs1 ls hB1 hS h3
theorem x_callS (B : x_B p s m args meth c cc nL Ts own) (G : x_H s D cl tys N ad A St NW) {y : MethodName} {ws : List Cond} {bytes : ByteArray} {maxL n index na : Nat} {ret : Option FieldType} {As : List Value}
    (hM : x_NI l y ws n D cl tys N C ad St NW As σ r0 σ0) (cw : CallB R s args own index y bytes maxL ret ws (x_rm n) 0 0 na ∧ (Cond.static y).before args s = true) (hs : st0 = As.reverse ++ st) (hn : As.length = na) (hst : (st.map fun v => v.category).sum ≤ 8) (hcs : cells ≤ R.cells ∧ slots ≤ R.slots) (hdg : decode cc pc = .ok (.invokestatic index, 3))
    (k : x_J p l e R s m args below meth c cells slots Q A nL (x_I D cl N C ad σ0) lv (.int r0 :: st) (pc + 3)) : x_J p l e R s m args below meth c cells slots Q A nL (x_I D cl N C ad σ) lv st0 pc := by
  intro H locs ls h1 h2 h3
  subst hs
  have hsub : ∀ q, x_A N ad q → A q := fun q ⟨k, hk, e⟩ => by rw [e]; exact G.1.2.2.1 k hk
  refine va_calli (A0 := A) (va_runS (As := As) (rest := st) ⟨B.1, B.2.1, B.2.2.1, B.2.2.2.1, B.2.2.2.2.1⟩ hM cw ⟨x_blind2 _ G.1.2.2.2.1 G.2.1 σ, fun U hU hW => ⟨rfl, x_start G h1 h2 hU hW⟩⟩ rfl hn h3.1 rfl (lv_room hst) hdg hcs) h2 (fun q _ h => hsub q h) hsub (fun r u t H1 locs1 ht hvm hw hB _ _ hS => ?_)
  obtain ⟨rfl, rfl⟩ := hw
  have hB1 : x_I D cl N C ad u t.heap := hB
  rw [ht] at hB1
  exact k H1 locs1 ls hB1 hS h3
theorem x_callSN (B : x_B p s m args meth c cc nL Ts own) (G : x_H s D cl tys N ad A St NW) {y : MethodName} {ws : List Cond} {host : String} {bytes : ByteArray} {maxL n index na : Nat} {ret : Option FieldType} {As : List Value}
    (hM : x_NI l y ws n D cl tys N C ad St NW As σ r0 σ0) (cw : va_CN R s args own index y host bytes maxL ret ws (x_rm n) 0 0 na ∧ (Cond.static y).before args s = true ∧ True) (hs : st0 = As.reverse ++ st) (hn : As.length = na) (hst : (st.map fun v => v.category).sum ≤ 8) (hcs : cells ≤ R.cells ∧ slots ≤ R.slots) (hdg : decode cc pc = .ok (.invokestatic index, 3))
    (k : x_J p l e R s m args below meth c cells slots Q A nL (x_I D cl N C ad σ0) lv (.int r0 :: st) (pc + 3)) : x_J p l e R s m args below meth c cells slots Q A nL (x_I D cl N C ad σ) lv st0 pc := by
  intro H locs ls h1 h2 h3
  subst hs
  have hsub : ∀ q, x_A N ad q → A q := fun q ⟨k, hk, e⟩ => by rw [e]; exact G.1.2.2.1 k hk
  refine va_calli (A0 := A) (va_runSN (As := As) (rest := st) ⟨B.1, B.2.1, B.2.2.1, B.2.2.2.1, B.2.2.2.2.1⟩ hM cw ⟨x_blind2 _ G.1.2.2.2.1 G.2.1 σ, fun U hU hW => ⟨rfl, x_start G h1 h2 hU hW⟩⟩ rfl hn h3.1 rfl (lv_room hst) hdg hcs) h2 (fun q _ h => hsub q h) hsub (fun r u t H1 locs1 ht hvm hw hB _ _ hS => ?_)
  obtain ⟨rfl, rfl⟩ := hw
  have hB1 : x_I D cl N C ad u t.heap := hB
  rw [ht] at hB1
  exact k H1 locs1 ls hB1 hS h3
theorem x_nm {σ1 σ2 : x_S} (e1 : σ1 = σ2) (k : x_J p l e R s m args below meth c cells slots Q A nL (x_I D cl N C ad σ1) lv st pc) : x_J p l e R s m args below meth c cells slots Q A nL (x_I D cl N C ad σ2) lv st pc := e1 ▸ k
/-- ends -/
theorem x_iret (B : x_B p s m args meth c cc nL Ts own) (hr : meth.sig.returnType = some .int) (hdg : decode cc pc = .ok (.ireturn, 1)) : x_J p l e R s m args below meth c cells slots (MQ below (x_Qi D cl N C ad r0 σ0) args s cells slots (x_A N ad)) (x_A N ad) nL (x_I D cl N C ad σ0) lv [.int r0] pc :=
  fun H locs ls h1 h2 h3 => W.iret (v := r0) B.1 B.2.1 hr (fun t ht hW => ⟨⟨r0, σ0, rfl, ⟨rfl, rfl⟩, (show x_I D cl N C ad σ0 t.heap by rw [ht]; exact h1)⟩, h2.F ht⟩) h2.2.2 hdg (hlocks := B.2.2.2.2.2)
theorem x_zret (B : x_B p s m args meth c cc nL Ts own) (hr : meth.sig.returnType = some .boolean) (hz : r0 &&& 1 = r0) (hdg : decode cc pc = .ok (.ireturn, 1)) : x_J p l e R s m args below meth c cells slots (MQ below (x_Qi D cl N C ad r0 σ0) args s cells slots (x_A N ad)) (x_A N ad) nL (x_I D cl N C ad σ0) lv [.int r0] pc :=
  fun H locs ls h1 h2 h3 => W.zret (v := r0) (ty := .boolean) B.1 B.2.1 hr (show Value.int (r0 &&& 1) = .int r0 by rw [hz]) (fun t ht hW => ⟨⟨r0, σ0, rfl, ⟨rfl, rfl⟩, (show x_I D cl N C ad σ0 t.heap by rw [ht]; exact h1)⟩, h2.F ht⟩) h2.2.2 hdg (hlocks := B.2.2.2.2.2)
theorem x_vret (B : x_B p s m args meth c cc nL Ts own) (hr : meth.sig.returnType = none) (hdg : decode cc pc = .ok (.return_, 1)) : x_J p l e R s m args below meth c cells slots (MQ below (x_Qv D cl N C ad σ0) args s cells slots (x_A N ad)) (x_A N ad) nL (x_I D cl N C ad σ0) lv [] pc :=
  fun H locs ls h1 h2 h3 => W.vret B.1 B.2.1 hr (fun t ht hW => ⟨⟨σ0, rfl, rfl, (show x_I D cl N C ad σ0 t.heap by rw [ht]; exact h1)⟩, h2.F ht⟩) h2.2.2 hdg (hlocks := B.2.2.2.2.2)
/-- a method out of its body -/
theorem x_met {y : MethodName} {ws ws' : List Cond} {maxL n : Nat} {ret : Option FieldType} {vs : List Value} {Qc : Array Value → State → Outcome → State → Prop} (hy : plainName y.cls = true) (hw : ws = Cond.code y cc maxL ret :: ws') (ho : y.cls = own) (hlen : (lg_sl vs).length ≤ maxL) (hdis : x_dis N ad) (hSt : x_StOk St) (hN : x_NwOk NW)
    (body : ∀ (p : Program) (e : Env) (s : State) (m : MethodId) (args : Array Value) (below : List Frame) (meth : Method) (c : Code), x_B p s m args meth c cc maxL ws own → x_H s D cl tys N ad (x_A N ad) St NW → meth.sig.returnType = ret → x_J p l e (x_rm n) s m args below meth c 0 0 (MQ below Qc args s 0 0 (x_A N ad)) (x_A N ad) maxL (x_I D cl N C ad σ) (lv_args 0 vs) [] 0) : Met l y ws (x_rm n) (va_Pc vs (x_Pr2 D cl tys N C ad St NW σ)) Qc 0 0 (x_A N ad) := by
  refine Met.ofW hy hw ?_
  intro p e s m args below meth c s₁ Bd hml hv
  obtain ⟨rfl, ⟨hP, hK, hS⟩, hn⟩ := hv
  have hown : s.vm.findClass y.cls = some m.cls := findClass_of_methodNamed Bd.named
  rw [ho] at hown
  have hl := lv_entry vs (n := maxL) hlen
  rw [lg_entry_eq]
  exact body p e s m _ below meth c ⟨Bd.exec, Bd.bytes, hml, hown, atoms_spec (ws := ws) Bd.pre, Bd.notSynchronized⟩ ⟨⟨hK, hdis, x_A_in, hSt, hS⟩, hN, hn⟩ Bd.returns s.heap [] _ hP va_S.rf hl
end XC
end
section
/-! ===== THE SYSTEM'S CELLS =====
0 SignDuty; 1 Rows, 2 its items (8 rows 3 .. 10), 11 lengths, 12 lanes; 13 Reader, 14 tape; 15 images; 16 Acts, 17 .. 19 deeds, whats, values; 20 Teller, 21 least (8 rows 22 .. 29); 30 Asks, 31 numbers; 32 city, 40 draft, 48 and 56 the images: a City and its 7 arrays -/
abbrev s_N : Nat := 64
abbrev s_tys (cI cQ cC cZ : ClassId) : List (ClassId × FieldType) := [(cI, .int), (cQ, .array .int), (cC, .object "SignDuty$City"), (cZ, .boolean)]
def s_F7 (ad : Nat → Nat) (r : Nat → Int32) : List Value := [.ref (ad 1), .ref (ad 13), .ref (ad 32), .ref (ad 40), .ref (ad 15), .ref (ad 16), .ref (ad 20), .ref (ad 30), .int (r 8)]
def s_F5 (ad : Nat → Nat) (r : Nat → Int32) : List Value := [.ref (ad 2), .ref (ad 11), .ref (ad 12)]
def s_F4 (ad : Nat → Nat) (r : Nat → Int32) : List Value := [.ref (ad 14), .int (r 1), .int (r 2), .int (r 3), .int (r 4), .int (r 5)]
def s_F0 (ad : Nat → Nat) (r : Nat → Int32) : List Value := [.ref (ad 17), .ref (ad 18), .ref (ad 19), .int (r 3), .int (r 4)]
def s_F6 (ad : Nat → Nat) (r : Nat → Int32) : List Value := [.ref (ad 21)]
def s_F1 (ad : Nat → Nat) (r : Nat → Int32) : List Value := [.ref (ad 31), .int (r 1)]
def s_F2 (ad : Nat → Nat) (k : Nat) (r : Nat → Int32) : List Value := [.int (r 0), .int (r 1), .int (r 2), .int (r 3), .int (r 4), .int (r 5), .ref (ad (k + 1)), .ref (ad (k + 2)), .ref (ad (k + 3)), .ref (ad (k + 4)), .ref (ad (k + 5)), .ref (ad (k + 6)), .ref (ad (k + 7))]
def s_q (cA : ClassId) (n : Nat) (f : Nat → Nat) : va_E := .inl (cA, n, .inr (.inr (.inr (.inr (fun j => some (f j))))))
def s_C (cI cQ cC : ClassId) (ad : Nat → Nat) : x_C := fun r k =>
  if k < 32 then
    (if k = 0 then .inr (6, s_F7 ad r) else if k = 1 then .inr (4, s_F5 ad r) else if k = 2 then s_q cQ 8 (fun j => ad (3 + j)) else if k < 11 then .inl (cI, 40, .inl r) else if k < 13 then .inl (cI, 8, .inl r)
    else if k = 13 then .inr (3, s_F4 ad r) else if k = 14 then .inl (cI, 120, .inl r) else if k = 15 then s_q cC 2 (fun j => ad (48 + 8 * j)) else if k = 16 then .inr (0, s_F0 ad r) else if k < 20 then .inl (cI, 24, .inl r)
    else if k = 20 then .inr (5, s_F6 ad r) else if k = 21 then s_q cQ 8 (fun j => ad (22 + j)) else if k < 30 then .inl (cI, 100, .inl r) else if k = 30 then .inr (1, s_F1 ad r) else .inl (cI, 16, .inl r))
  else if k % 8 = 0 then .inr (2, s_F2 ad k r) else if k % 8 < 3 then .inl (cI, 7, .inl r) else .inl (cI, 6, .inl r)
def s_iC (c : Nat) : Prop := c = 32 ∨ c = 40 ∨ c = 48 ∨ c = 56
theorem s_iC32 : s_iC 32 := Or.inl rfl
theorem s_iC40 : s_iC 40 := Or.inr (Or.inl rfl)
theorem s_iCim {i : Int32} (h : x_in i 2) : s_iC (48 + 8 * i.toNatClampNeg) := by
  have hlt : i.toNatClampNeg < 2 := Nat.not_le.mp fun q => h (Or.inr q)
  unfold s_iC
  omega
section SC
variable {cI cQ cC : ClassId} {ad : Nat → Nat}
theorem s_c0 : ∀ r, s_C cI cQ cC ad r 0 = .inr (6, s_F7 ad r) := fun _ => rfl
theorem s_c1 : ∀ r, s_C cI cQ cC ad r 1 = .inr (4, s_F5 ad r) := fun _ => rfl
theorem s_c2 : ∀ r, s_C cI cQ cC ad r 2 = s_q cQ 8 (fun j => ad (3 + j)) := fun _ => rfl
theorem s_c11 : ∀ r, s_C cI cQ cC ad r 11 = .inl (cI, 8, .inl r) := fun _ => rfl
theorem s_c12 : ∀ r, s_C cI cQ cC ad r 12 = .inl (cI, 8, .inl r) := fun _ => rfl
theorem s_c13 : ∀ r, s_C cI cQ cC ad r 13 = .inr (3, s_F4 ad r) := fun _ => rfl
theorem s_c14 : ∀ r, s_C cI cQ cC ad r 14 = .inl (cI, 120, .inl r) := fun _ => rfl
theorem s_c15 : ∀ r, s_C cI cQ cC ad r 15 = s_q cC 2 (fun j => ad (48 + 8 * j)) := fun _ => rfl
theorem s_c16 : ∀ r, s_C cI cQ cC ad r 16 = .inr (0, s_F0 ad r) := fun _ => rfl
theorem s_c17 : ∀ r, s_C cI cQ cC ad r 17 = .inl (cI, 24, .inl r) := fun _ => rfl
theorem s_c18 : ∀ r, s_C cI cQ cC ad r 18 = .inl (cI, 24, .inl r) := fun _ => rfl
theorem s_c19 : ∀ r, s_C cI cQ cC ad r 19 = .inl (cI, 24, .inl r) := fun _ => rfl
theorem s_c20 : ∀ r, s_C cI cQ cC ad r 20 = .inr (5, s_F6 ad r) := fun _ => rfl
theorem s_c21 : ∀ r, s_C cI cQ cC ad r 21 = s_q cQ 8 (fun j => ad (22 + j)) := fun _ => rfl
theorem s_c30 : ∀ r, s_C cI cQ cC ad r 30 = .inr (1, s_F1 ad r) := fun _ => rfl
theorem s_c31 : ∀ r, s_C cI cQ cC ad r 31 = .inl (cI, 16, .inl r) := fun _ => rfl
theorem s_lt8 {i : Int32} (h : x_in i 8) : i.toNatClampNeg < 8 := Nat.not_le.mp fun q => h (Or.inr q)
theorem s_kI {i : Int32} (h : x_in i 8) : 3 + i.toNatClampNeg < s_N := by have := s_lt8 h; show _ < 64; omega
theorem s_kL {i : Int32} (h : x_in i 8) : 22 + i.toNatClampNeg < s_N := by have := s_lt8 h; show _ < 64; omega
theorem s_cI {i : Int32} (h : x_in i 8) : ∀ r, s_C cI cQ cC ad r (3 + i.toNatClampNeg) = .inl (cI, 40, .inl r) := by
  have := s_lt8 h
  generalize i.toNatClampNeg = j at this ⊢
  rcases (show j = 0 ∨ j = 1 ∨ j = 2 ∨ j = 3 ∨ j = 4 ∨ j = 5 ∨ j = 6 ∨ j = 7 by omega) with rfl | rfl | rfl | rfl | rfl | rfl | rfl | rfl <;> exact fun _ => rfl
theorem s_cL {i : Int32} (h : x_in i 8) : ∀ r, s_C cI cQ cC ad r (22 + i.toNatClampNeg) = .inl (cI, 100, .inl r) := by
  have := s_lt8 h
  generalize i.toNatClampNeg = j at this ⊢
  rcases (show j = 0 ∨ j = 1 ∨ j = 2 ∨ j = 3 ∨ j = 4 ∨ j = 5 ∨ j = 6 ∨ j = 7 by omega) with rfl | rfl | rfl | rfl | rfl | rfl | rfl | rfl <;> exact fun _ => rfl
theorem s_kC {c : Nat} (h : s_iC c) : c < s_N := by show _ < 64; unfold s_iC at h; omega
theorem s_cC {c : Nat} (h : s_iC c) : ∀ r, s_C cI cQ cC ad r c = .inr (2, s_F2 ad c r) := by rcases h with rfl | rfl | rfl | rfl <;> exact fun _ => rfl
theorem s_kC1 {c : Nat} (h : s_iC c) : c + 1 < s_N := by show _ < 64; unfold s_iC at h; omega
theorem s_cC1 {c : Nat} (h : s_iC c) : ∀ r, s_C cI cQ cC ad r (c + 1) = .inl (cI, 7, .inl r) := by rcases h with rfl | rfl | rfl | rfl <;> exact fun _ => rfl
theorem s_kC2 {c : Nat} (h : s_iC c) : c + 2 < s_N := by show _ < 64; unfold s_iC at h; omega
theorem s_cC2 {c : Nat} (h : s_iC c) : ∀ r, s_C cI cQ cC ad r (c + 2) = .inl (cI, 7, .inl r) := by rcases h with rfl | rfl | rfl | rfl <;> exact fun _ => rfl
theorem s_kC3 {c : Nat} (h : s_iC c) : c + 3 < s_N := by show _ < 64; unfold s_iC at h; omega
theorem s_cC3 {c : Nat} (h : s_iC c) : ∀ r, s_C cI cQ cC ad r (c + 3) = .inl (cI, 6, .inl r) := by rcases h with rfl | rfl | rfl | rfl <;> exact fun _ => rfl
theorem s_kC4 {c : Nat} (h : s_iC c) : c + 4 < s_N := by show _ < 64; unfold s_iC at h; omega
theorem s_cC4 {c : Nat} (h : s_iC c) : ∀ r, s_C cI cQ cC ad r (c + 4) = .inl (cI, 6, .inl r) := by rcases h with rfl | rfl | rfl | rfl <;> exact fun _ => rfl
theorem s_kC5 {c : Nat} (h : s_iC c) : c + 5 < s_N := by show _ < 64; unfold s_iC at h; omega
theorem s_cC5 {c : Nat} (h : s_iC c) : ∀ r, s_C cI cQ cC ad r (c + 5) = .inl (cI, 6, .inl r) := by rcases h with rfl | rfl | rfl | rfl <;> exact fun _ => rfl
theorem s_kC6 {c : Nat} (h : s_iC c) : c + 6 < s_N := by show _ < 64; unfold s_iC at h; omega
theorem s_cC6 {c : Nat} (h : s_iC c) : ∀ r, s_C cI cQ cC ad r (c + 6) = .inl (cI, 6, .inl r) := by rcases h with rfl | rfl | rfl | rfl <;> exact fun _ => rfl
theorem s_kC7 {c : Nat} (h : s_iC c) : c + 7 < s_N := by show _ < 64; unfold s_iC at h; omega
theorem s_cC7 {c : Nat} (h : s_iC c) : ∀ r, s_C cI cQ cC ad r (c + 7) = .inl (cI, 6, .inl r) := by rcases h with rfl | rfl | rfl | rfl <;> exact fun _ => rfl
theorem s_w7_8 (r : Nat → Int32) (v : Int32) : (s_F7 ad r).set 8 (.int v) = s_F7 ad (upd r 8 v) := rfl
theorem s_w4_1 (r : Nat → Int32) (v : Int32) : (s_F4 ad r).set 1 (.int v) = s_F4 ad (upd r 1 v) := rfl
theorem s_w4_2 (r : Nat → Int32) (v : Int32) : (s_F4 ad r).set 2 (.int v) = s_F4 ad (upd r 2 v) := rfl
theorem s_w4_3 (r : Nat → Int32) (v : Int32) : (s_F4 ad r).set 3 (.int v) = s_F4 ad (upd r 3 v) := rfl
theorem s_w4_4 (r : Nat → Int32) (v : Int32) : (s_F4 ad r).set 4 (.int v) = s_F4 ad (upd r 4 v) := rfl
theorem s_w4_5 (r : Nat → Int32) (v : Int32) : (s_F4 ad r).set 5 (.int v) = s_F4 ad (upd r 5 v) := rfl
theorem s_w0_3 (r : Nat → Int32) (v : Int32) : (s_F0 ad r).set 3 (.int v) = s_F0 ad (upd r 3 v) := rfl
theorem s_w0_4 (r : Nat → Int32) (v : Int32) : (s_F0 ad r).set 4 (.int v) = s_F0 ad (upd r 4 v) := rfl
theorem s_w1_1 (r : Nat → Int32) (v : Int32) : (s_F1 ad r).set 1 (.int v) = s_F1 ad (upd r 1 v) := rfl
theorem s_w2_0 {k : Nat} (r : Nat → Int32) (v : Int32) : (s_F2 ad k r).set 0 (.int v) = s_F2 ad k (upd r 0 v) := rfl
theorem s_w2_1 {k : Nat} (r : Nat → Int32) (v : Int32) : (s_F2 ad k r).set 1 (.int v) = s_F2 ad k (upd r 1 v) := rfl
theorem s_w2_2 {k : Nat} (r : Nat → Int32) (v : Int32) : (s_F2 ad k r).set 2 (.int v) = s_F2 ad k (upd r 2 v) := rfl
theorem s_w2_3 {k : Nat} (r : Nat → Int32) (v : Int32) : (s_F2 ad k r).set 3 (.int v) = s_F2 ad k (upd r 3 v) := rfl
theorem s_w2_4 {k : Nat} (r : Nat → Int32) (v : Int32) : (s_F2 ad k r).set 4 (.int v) = s_F2 ad k (upd r 4 v) := rfl
theorem s_w2_5 {k : Nat} (r : Nat → Int32) (v : Int32) : (s_F2 ad k r).set 5 (.int v) = s_F2 ad k (upd r 5 v) := rfl
end SC
/-- the tables: 0 Kinds.WIDER, 1 Asks.SIZE_BODIES, 2 Asks.MARK_BODIES -/
def s_t (b : Nat) : Nat → Int32 := fun j => if b = 0 then [0, 0, 1, 1, 0, 4].getD j 0 else if b = 1 then [10, 11, 12, 0, 13, 14].getD j 0 else [20, 21, 24, 22, 23, 0].getD j 0
def s_St (aS : Nat → Nat) : x_St := fun A U H => va_Z "SignDuty$Kinds" "WIDER" "[I" (.ref (aS 0)) A U H ∧ va_Z "SignDuty$Asks" "SIZE_BODIES" "[I" (.ref (aS 1)) A U H ∧ va_Z "SignDuty$Asks" "MARK_BODIES" "[I" (.ref (aS 2)) A U H ∧ ∀ b, b < 3 → va_T .int (aS b) 6 (fun j => .int (s_t b j)) A U H
theorem s_StOk (aS : Nat → Nat) : x_StOk (s_St aS) := by
  refine ⟨fun A u U H hvm h => ?_, fun A U H H1 hq h => ?_, fun A B U H hq h => ?_⟩
  · exact ⟨h.1.moved hvm, h.2.1.moved hvm, h.2.2.1.moved hvm, fun b hb => (h.2.2.2 b hb).moved hvm⟩
  · exact ⟨h.1.kept hq, h.2.1.kept hq, h.2.2.1.kept hq, fun b hb => (h.2.2.2 b hb).kept hq⟩
  · exact ⟨h.1.narrow hq, h.2.1.narrow hq, h.2.2.1.narrow hq, fun b hb => (h.2.2.2 b hb).narrow hq⟩
def s_NW : x_Nt := fun U => va_Nw (.methodLinkNest RX4 98 yX7_isWithin "SignDuty") U
theorem s_NwOk : x_NwOk s_NW := ⟨fun _ _ hW h => va_Nw.warmM hW h, fun _ _ he h => va_Nw.same rfl he h⟩
def m_NW : x_Nt := fun _ => True
theorem m_NwOk : x_NwOk m_NW := ⟨fun _ _ _ h => h, fun _ _ _ h => h⟩
/-! ===== THE REFERENCE'S CELLS: 0 the object; 1 row, 2 isKept, 3 lanes, 4 sizes, 5 items, 6 tape, 7 trace, 8 costs ===== -/
abbrev m_N : Nat := 9
def m_F (ad : Nat → Nat) (r : Nat → Int32) : List Value := [.ref (ad 1), .int (r 1), .int (r 2), .ref (ad 2), .ref (ad 3), .ref (ad 4), .ref (ad 5), .ref (ad 6), .int (r 8), .int (r 9), .int (r 10), .ref (ad 7), .int (r 12), .int (r 13), .int (r 14), .int (r 15), .ref (ad 8)]
def m_C (cI cZ : ClassId) (ad : Nat → Nat) : x_C := fun r k =>
  if k = 0 then .inr (7, m_F ad r) else if k = 1 then .inl (cI, 1372, .inl r) else if k = 2 then .inl (cZ, 2, .inl r) else if k = 3 then .inl (cI, 8, .inl r) else if k = 4 then .inl (cI, 8, .inl r) else if k = 5 then .inl (cI, 320, .inl r) else if k = 6 then .inl (cI, 120, .inl r) else if k = 7 then .inl (cI, 16, .inl r) else .inl (cI, 800, .inl r)
def m_St : x_St := fun _ _ _ => True
theorem m_StOk : x_StOk m_St := ⟨fun _ _ _ _ _ h => h, fun _ _ _ _ _ h => h, fun _ _ _ _ _ h => h⟩
section MC
variable {cI cZ : ClassId} {ad : Nat → Nat}
theorem m_c0 : ∀ r, m_C cI cZ ad r 0 = .inr (7, m_F ad r) := fun _ => rfl
theorem m_c1 : ∀ r, m_C cI cZ ad r 1 = .inl (cI, 1372, .inl r) := fun _ => rfl
theorem m_c2 : ∀ r, m_C cI cZ ad r 2 = .inl (cZ, 2, .inl r) := fun _ => rfl
theorem m_c3 : ∀ r, m_C cI cZ ad r 3 = .inl (cI, 8, .inl r) := fun _ => rfl
theorem m_c4 : ∀ r, m_C cI cZ ad r 4 = .inl (cI, 8, .inl r) := fun _ => rfl
theorem m_c5 : ∀ r, m_C cI cZ ad r 5 = .inl (cI, 320, .inl r) := fun _ => rfl
theorem m_c6 : ∀ r, m_C cI cZ ad r 6 = .inl (cI, 120, .inl r) := fun _ => rfl
theorem m_c7 : ∀ r, m_C cI cZ ad r 7 = .inl (cI, 16, .inl r) := fun _ => rfl
theorem m_c8 : ∀ r, m_C cI cZ ad r 8 = .inl (cI, 800, .inl r) := fun _ => rfl
theorem m_w_1 (r : Nat → Int32) (v : Int32) : (m_F ad r).set 1 (.int v) = m_F ad (upd r 1 v) := rfl
theorem m_w_2 (r : Nat → Int32) (v : Int32) : (m_F ad r).set 2 (.int v) = m_F ad (upd r 2 v) := rfl
theorem m_w_8 (r : Nat → Int32) (v : Int32) : (m_F ad r).set 8 (.int v) = m_F ad (upd r 8 v) := rfl
theorem m_w_9 (r : Nat → Int32) (v : Int32) : (m_F ad r).set 9 (.int v) = m_F ad (upd r 9 v) := rfl
theorem m_w_10 (r : Nat → Int32) (v : Int32) : (m_F ad r).set 10 (.int v) = m_F ad (upd r 10 v) := rfl
theorem m_w_12 (r : Nat → Int32) (v : Int32) : (m_F ad r).set 12 (.int v) = m_F ad (upd r 12 v) := rfl
theorem m_w_13 (r : Nat → Int32) (v : Int32) : (m_F ad r).set 13 (.int v) = m_F ad (upd r 13 v) := rfl
theorem m_w_14 (r : Nat → Int32) (v : Int32) : (m_F ad r).set 14 (.int v) = m_F ad (upd r 14 v) := rfl
theorem m_w_15 (r : Nat → Int32) (v : Int32) : (m_F ad r).set 15 (.int v) = m_F ad (upd r 15 v) := rfl
end MC
end
section
def wsX0_init : List Cond := .code yX0_init cX0_init 1 none :: ([.methodLink RX0 1 objectInit, .instanceMethod objectInit, .code objectInit ⟨#[0xb1]⟩ 1 none, .arrayClass .int, .fieldLink RX0 9 "SignDuty$Acts" "deeds" "[I", .fieldLink RX0 13 "SignDuty$Acts" "whats" "[I", .fieldLink RX0 16 "SignDuty$Acts" "values" "[I", .fieldLink RX0 19 "SignDuty$Acts" "nextSlot" "I", .fieldLink RX0 23 "SignDuty$Acts" "kept" "I"] ++ wsX00)
def wsX0_forgetAll : List Cond := .code yX0_forgetAll cX0_forgetAll 1 none :: ([.fieldLink RX0 23 "SignDuty$Acts" "kept" "I"] ++ wsX00)
def wsX0_keep : List Cond := .code yX0_keep cX0_keep 4 none :: ([.fieldLink RX0 9 "SignDuty$Acts" "deeds" "[I", .fieldLink RX0 19 "SignDuty$Acts" "nextSlot" "I", .fieldLink RX0 13 "SignDuty$Acts" "whats" "[I", .fieldLink RX0 16 "SignDuty$Acts" "values" "[I", .fieldLink RX0 23 "SignDuty$Acts" "kept" "I", .methodLink RX0 26 Lib.Math.min.name, .static Lib.Math.min.name, .initialized "java/lang/Math", .code Lib.Math.min.name Lib.Math.min.code 2 (some .int)] ++ wsX00)
def wsX2_turnKnown : List Cond := .code yX2_turnKnown cX2_turnKnown 2 none :: ([.fieldLink RX2 25 "SignDuty$City" "known" "I"] ++ wsX20)
def wsX0_takeBack : List Cond := .code yX0_takeBack cX0_takeBack 4 none :: ([.fieldLink RX0 19 "SignDuty$Acts" "nextSlot" "I", .fieldLink RX0 23 "SignDuty$Acts" "kept" "I", .fieldLink RX0 13 "SignDuty$Acts" "whats" "[I", .fieldLink RX0 16 "SignDuty$Acts" "values" "[I", .fieldLink RX0 9 "SignDuty$Acts" "deeds" "[I", .fieldLink RX0 32 "SignDuty$City" "made" "[I", .fieldLink RX0 37 "SignDuty$City" "paid" "I", .fieldLink RX0 40 "SignDuty$City" "dim" "[I", .fieldLink RX0 43 "SignDuty$City" "inches" "[I", .methodLink RX0 46 yX2_turnKnown, .instanceMethod yX2_turnKnown, .selects RX2 yX2_turnKnown yX2_turnKnown, .initialized RX2, .code yX2_turnKnown cX2_turnKnown 2 none, .fieldLink RX2 25 "SignDuty$City" "known" "I"] ++ wsX00 ++ wsX20)
def wsX1_init : List Cond := .code yX1_init cX1_init 1 none :: ([.methodLink RX1 3 objectInit, .instanceMethod objectInit, .code objectInit ⟨#[0xb1]⟩ 1 none, .arrayClass .int, .fieldLink RX1 11 "SignDuty$Asks" "numbers" "[I", .fieldLink RX1 15 "SignDuty$Asks" "left" "I"] ++ wsX10)
def wsX3_widerThan : List Cond := .code yX3_widerThan cX3_widerThan 1 (some .int) :: ([.fieldLink RX3 7 "SignDuty$Kinds" "WIDER" "[I"])
def wsX1_bodyFor : List Cond := .code yX1_bodyFor cX1_bodyFor 4 (some .int) :: ([.methodLink RX1 43 yX3_widerThan, .static yX3_widerThan, .initialized RX3, .code yX3_widerThan cX3_widerThan 1 (some .int), .fieldLink RX3 7 "SignDuty$Kinds" "WIDER" "[I"])
def wsX1_leave : List Cond := .code yX1_leave cX1_leave 2 none :: ([.fieldLink RX1 15 "SignDuty$Asks" "left" "I", .fieldLink RX1 11 "SignDuty$Asks" "numbers" "[I"] ++ wsX10)
def wsX1_asked_r1 : List Cond := [Cond.fieldLink RX1 24 "SignDuty$Asks" "SIZE_BODIES" "[I", Cond.fieldLink RX1 27 "SignDuty$Asks" "MARK_BODIES" "[I", Cond.fieldLink RX1 30 "SignDuty$City" "kind" "[I", Cond.methodLink RX1 35 yX1_bodyFor, Cond.static yX1_bodyFor, Cond.initialized RX1, Cond.code yX1_bodyFor cX1_bodyFor 4 (some .int), Cond.methodLink RX1 43 yX3_widerThan, Cond.static yX3_widerThan, Cond.initialized RX3, Cond.code yX3_widerThan cX3_widerThan 1 (some .int), Cond.fieldLink RX3 7 "SignDuty$Kinds" "WIDER" "[I", Cond.methodLink RX1 39 yX1_given, Cond.instanceMethod yX1_given, Cond.selects RX1 yX1_given yX1_given, Cond.code yX1_given cX1_given 6 (some .int), Cond.fieldLink RX1 53 "SignDuty$City" "takes" "[I", Cond.fieldLink RX1 56 "SignDuty$City" "inches" "[I", Cond.methodLink RX1 49 yX1_leave, Cond.instanceMethod yX1_leave, Cond.selects RX1 yX1_leave yX1_leave, Cond.code yX1_leave cX1_leave 2 none, Cond.fieldLink RX1 15 "SignDuty$Asks" "left" "I", Cond.fieldLink RX1 11 "SignDuty$Asks" "numbers" "[I"]
def wsX1_asked_r2 : List Cond := [Cond.methodLink RX1 19 yX1_asked, Cond.instanceMethod yX1_asked, Cond.selects RX1 yX1_asked yX1_asked]
def wsX1_asked : List Cond := .code yX1_asked cX1_asked 6 (some .int) :: ((wsX1_asked_r1 ++ wsX1_asked_r2) ++ wsX20 ++ wsX10)
def wsX1_given_r1 : List Cond := [Cond.fieldLink RX1 53 "SignDuty$City" "takes" "[I", Cond.fieldLink RX1 56 "SignDuty$City" "inches" "[I", Cond.methodLink RX1 49 yX1_leave, Cond.instanceMethod yX1_leave, Cond.selects RX1 yX1_leave yX1_leave, Cond.initialized RX1, Cond.code yX1_leave cX1_leave 2 none, Cond.fieldLink RX1 15 "SignDuty$Asks" "left" "I", Cond.fieldLink RX1 11 "SignDuty$Asks" "numbers" "[I", Cond.methodLink RX1 39 yX1_given, Cond.instanceMethod yX1_given, Cond.selects RX1 yX1_given yX1_given, Cond.methodLink RX1 19 yX1_asked, Cond.instanceMethod yX1_asked, Cond.selects RX1 yX1_asked yX1_asked, Cond.code yX1_asked cX1_asked 6 (some .int), Cond.fieldLink RX1 24 "SignDuty$Asks" "SIZE_BODIES" "[I", Cond.fieldLink RX1 27 "SignDuty$Asks" "MARK_BODIES" "[I", Cond.fieldLink RX1 30 "SignDuty$City" "kind" "[I", Cond.methodLink RX1 35 yX1_bodyFor, Cond.static yX1_bodyFor, Cond.code yX1_bodyFor cX1_bodyFor 4 (some .int), Cond.methodLink RX1 43 yX3_widerThan, Cond.static yX3_widerThan]
def wsX1_given_r2 : List Cond := [Cond.initialized RX3, Cond.code yX3_widerThan cX3_widerThan 1 (some .int), Cond.fieldLink RX3 7 "SignDuty$Kinds" "WIDER" "[I"]
def wsX1_given : List Cond := .code yX1_given cX1_given 6 (some .int) :: ((wsX1_given_r1 ++ wsX1_given_r2) ++ wsX20 ++ wsX10)
def wsX1_answer_r1 : List Cond := [Cond.fieldLink RX1 15 "SignDuty$Asks" "left" "I", Cond.methodLink RX1 19 yX1_asked, Cond.instanceMethod yX1_asked, Cond.selects RX1 yX1_asked yX1_asked, Cond.initialized RX1, Cond.code yX1_asked cX1_asked 6 (some .int), Cond.fieldLink RX1 24 "SignDuty$Asks" "SIZE_BODIES" "[I", Cond.fieldLink RX1 27 "SignDuty$Asks" "MARK_BODIES" "[I", Cond.fieldLink RX1 30 "SignDuty$City" "kind" "[I", Cond.methodLink RX1 35 yX1_bodyFor, Cond.static yX1_bodyFor, Cond.code yX1_bodyFor cX1_bodyFor 4 (some .int), Cond.methodLink RX1 43 yX3_widerThan, Cond.static yX3_widerThan, Cond.initialized RX3, Cond.code yX3_widerThan cX3_widerThan 1 (some .int), Cond.fieldLink RX3 7 "SignDuty$Kinds" "WIDER" "[I", Cond.methodLink RX1 39 yX1_given, Cond.instanceMethod yX1_given, Cond.selects RX1 yX1_given yX1_given, Cond.code yX1_given cX1_given 6 (some .int), Cond.fieldLink RX1 53 "SignDuty$City" "takes" "[I", Cond.fieldLink RX1 56 "SignDuty$City" "inches" "[I", Cond.methodLink RX1 49 yX1_leave]
def wsX1_answer_r2 : List Cond := [Cond.instanceMethod yX1_leave, Cond.selects RX1 yX1_leave yX1_leave, Cond.code yX1_leave cX1_leave 2 none, Cond.fieldLink RX1 11 "SignDuty$Asks" "numbers" "[I"]
def wsX1_answer : List Cond := .code yX1_answer cX1_answer 4 (some .int) :: ((wsX1_answer_r1 ++ wsX1_answer_r2) ++ wsX10 ++ wsX20)
def wsX1_numberLeft : List Cond := .code yX1_numberLeft cX1_numberLeft 2 (some .int) :: ([.fieldLink RX1 15 "SignDuty$Asks" "left" "I", .fieldLink RX1 11 "SignDuty$Asks" "numbers" "[I", .constant RX1 23 (-1000000)] ++ wsX10)
def wsX2_init : List Cond := .code yX2_init cX2_init 1 none :: ([.methodLink RX2 3 objectInit, .instanceMethod objectInit, .code objectInit ⟨#[0xb1]⟩ 1 none, .fieldLink RX2 9 "SignDuty$City" "stands" "Z", .fieldLink RX2 15 "SignDuty$City" "rate" "I", .fieldLink RX2 19 "SignDuty$City" "paid" "I", .fieldLink RX2 22 "SignDuty$City" "streets" "I", .fieldLink RX2 25 "SignDuty$City" "known" "I", .fieldLink RX2 28 "SignDuty$City" "gestures" "I", .arrayClass .int, .fieldLink RX2 31 "SignDuty$City" "dim" "[I", .fieldLink RX2 35 "SignDuty$City" "strict" "[I", .fieldLink RX2 38 "SignDuty$City" "kind" "[I", .fieldLink RX2 41 "SignDuty$City" "inches" "[I", .fieldLink RX2 44 "SignDuty$City" "means" "[I", .fieldLink RX2 47 "SignDuty$City" "takes" "[I", .fieldLink RX2 50 "SignDuty$City" "made" "[I"] ++ wsX20)
def wsX2_begin : List Cond := .code yX2_begin cX2_begin 2 none :: ([.fieldLink RX2 9 "SignDuty$City" "stands" "Z", .fieldLink RX2 15 "SignDuty$City" "rate" "I", .fieldLink RX2 19 "SignDuty$City" "paid" "I", .fieldLink RX2 22 "SignDuty$City" "streets" "I", .fieldLink RX2 25 "SignDuty$City" "known" "I", .fieldLink RX2 28 "SignDuty$City" "gestures" "I"] ++ wsX20)
def wsX2_become : List Cond := .code yX2_become cX2_become 2 none :: ([.fieldLink RX2 9 "SignDuty$City" "stands" "Z", .fieldLink RX2 15 "SignDuty$City" "rate" "I", .fieldLink RX2 19 "SignDuty$City" "paid" "I", .fieldLink RX2 22 "SignDuty$City" "streets" "I", .fieldLink RX2 25 "SignDuty$City" "known" "I", .fieldLink RX2 28 "SignDuty$City" "gestures" "I", .fieldLink RX2 31 "SignDuty$City" "dim" "[I", .methodLink RX2 53 arraycopyName, .native arraycopyName, .static arraycopyName, .initialized "java/lang/System", .fieldLink RX2 35 "SignDuty$City" "strict" "[I", .fieldLink RX2 38 "SignDuty$City" "kind" "[I", .fieldLink RX2 41 "SignDuty$City" "inches" "[I", .fieldLink RX2 44 "SignDuty$City" "means" "[I", .fieldLink RX2 47 "SignDuty$City" "takes" "[I", .fieldLink RX2 50 "SignDuty$City" "made" "[I"] ++ wsX20)
def wsX2_isKnown : List Cond := .code yX2_isKnown cX2_isKnown 2 (some .boolean) :: ([.fieldLink RX2 25 "SignDuty$City" "known" "I"] ++ wsX20)
def wsX2_owesUnknown : List Cond := .code yX2_owesUnknown cX2_owesUnknown 5 (some .int) :: ([.fieldLink RX2 15 "SignDuty$City" "rate" "I", .fieldLink RX2 35 "SignDuty$City" "strict" "[I", .methodLink RX2 70 Lib.Math.max.name, .static Lib.Math.max.name, .initialized "java/lang/Math", .code Lib.Math.max.name Lib.Math.max.code 2 (some .int)] ++ wsX20)
def wsX2_owesSuch : List Cond := .code yX2_owesSuch cX2_owesSuch 5 (some .int) :: ([.methodLink RX2 63 yX2_owesUnknown, .instanceMethod yX2_owesUnknown, .selects RX2 yX2_owesUnknown yX2_owesUnknown, .initialized RX2, .code yX2_owesUnknown cX2_owesUnknown 5 (some .int), .fieldLink RX2 15 "SignDuty$City" "rate" "I", .fieldLink RX2 35 "SignDuty$City" "strict" "[I", .methodLink RX2 70 Lib.Math.max.name, .static Lib.Math.max.name, .initialized "java/lang/Math", .code Lib.Math.max.name Lib.Math.max.code 2 (some .int), .methodLink RX2 66 yX2_isKnown, .instanceMethod yX2_isKnown, .selects RX2 yX2_isKnown yX2_isKnown, .code yX2_isKnown cX2_isKnown 2 (some .boolean), .fieldLink RX2 25 "SignDuty$City" "known" "I"] ++ wsX20)
def wsX2_owes : List Cond := .code yX2_owes cX2_owes 3 (some .int) :: ([.fieldLink RX2 38 "SignDuty$City" "kind" "[I", .fieldLink RX2 41 "SignDuty$City" "inches" "[I", .methodLink RX2 59 yX2_owesSuch, .instanceMethod yX2_owesSuch, .selects RX2 yX2_owesSuch yX2_owesSuch, .initialized RX2, .code yX2_owesSuch cX2_owesSuch 5 (some .int), .methodLink RX2 63 yX2_owesUnknown, .instanceMethod yX2_owesUnknown, .selects RX2 yX2_owesUnknown yX2_owesUnknown, .code yX2_owesUnknown cX2_owesUnknown 5 (some .int), .fieldLink RX2 15 "SignDuty$City" "rate" "I", .fieldLink RX2 35 "SignDuty$City" "strict" "[I", .methodLink RX2 70 Lib.Math.max.name, .static Lib.Math.max.name, .initialized "java/lang/Math", .code Lib.Math.max.name Lib.Math.max.code 2 (some .int), .methodLink RX2 66 yX2_isKnown, .instanceMethod yX2_isKnown, .selects RX2 yX2_isKnown yX2_isKnown, .code yX2_isKnown cX2_isKnown 2 (some .boolean), .fieldLink RX2 25 "SignDuty$City" "known" "I"] ++ wsX20)
def wsX2_owesIfKnown : List Cond := .code yX2_owesIfKnown cX2_owesIfKnown 3 (some .int) :: ([.fieldLink RX2 38 "SignDuty$City" "kind" "[I", .fieldLink RX2 41 "SignDuty$City" "inches" "[I", .methodLink RX2 63 yX2_owesUnknown, .instanceMethod yX2_owesUnknown, .selects RX2 yX2_owesUnknown yX2_owesUnknown, .initialized RX2, .code yX2_owesUnknown cX2_owesUnknown 5 (some .int), .fieldLink RX2 15 "SignDuty$City" "rate" "I", .fieldLink RX2 35 "SignDuty$City" "strict" "[I", .methodLink RX2 70 Lib.Math.max.name, .static Lib.Math.max.name, .initialized "java/lang/Math", .code Lib.Math.max.name Lib.Math.max.code 2 (some .int)] ++ wsX20)
def wsX2_isSeen : List Cond := .code yX2_isSeen cX2_isSeen 4 (some .boolean) :: ([.fieldLink RX2 38 "SignDuty$City" "kind" "[I", .fieldLink RX2 41 "SignDuty$City" "inches" "[I", .fieldLink RX2 31 "SignDuty$City" "dim" "[I"] ++ wsX20)
def wsX2_tells : List Cond := .code yX2_tells cX2_tells 4 (some .boolean) :: ([.fieldLink RX2 44 "SignDuty$City" "means" "[I", .methodLink RX2 78 yX2_isSeen, .instanceMethod yX2_isSeen, .selects RX2 yX2_isSeen yX2_isSeen, .initialized RX2, .code yX2_isSeen cX2_isSeen 4 (some .boolean), .fieldLink RX2 38 "SignDuty$City" "kind" "[I", .fieldLink RX2 41 "SignDuty$City" "inches" "[I", .fieldLink RX2 31 "SignDuty$City" "dim" "[I"] ++ wsX20)
def wsX2_streetsThatSee : List Cond := .code yX2_streetsThatSee cX2_streetsThatSee 4 (some .int) :: ([.fieldLink RX2 22 "SignDuty$City" "streets" "I", .methodLink RX2 78 yX2_isSeen, .instanceMethod yX2_isSeen, .selects RX2 yX2_isSeen yX2_isSeen, .initialized RX2, .code yX2_isSeen cX2_isSeen 4 (some .boolean), .fieldLink RX2 38 "SignDuty$City" "kind" "[I", .fieldLink RX2 41 "SignDuty$City" "inches" "[I", .fieldLink RX2 31 "SignDuty$City" "dim" "[I"] ++ wsX20)
def wsX2_gesturesSeenIn : List Cond := .code yX2_gesturesSeenIn cX2_gesturesSeenIn 4 (some .int) :: ([.fieldLink RX2 28 "SignDuty$City" "gestures" "I", .methodLink RX2 78 yX2_isSeen, .instanceMethod yX2_isSeen, .selects RX2 yX2_isSeen yX2_isSeen, .initialized RX2, .code yX2_isSeen cX2_isSeen 4 (some .boolean), .fieldLink RX2 38 "SignDuty$City" "kind" "[I", .fieldLink RX2 41 "SignDuty$City" "inches" "[I", .fieldLink RX2 31 "SignDuty$City" "dim" "[I"] ++ wsX20)
def wsX2_leastTime : List Cond := .code yX2_leastTime cX2_leastTime 5 (some .int) :: ([.constant RX2 85 (-1000000), .fieldLink RX2 28 "SignDuty$City" "gestures" "I", .fieldLink RX2 47 "SignDuty$City" "takes" "[I", .methodLink RX2 86 yX2_tells, .instanceMethod yX2_tells, .selects RX2 yX2_tells yX2_tells, .initialized RX2, .code yX2_tells cX2_tells 4 (some .boolean), .fieldLink RX2 44 "SignDuty$City" "means" "[I", .methodLink RX2 78 yX2_isSeen, .instanceMethod yX2_isSeen, .selects RX2 yX2_isSeen yX2_isSeen, .code yX2_isSeen cX2_isSeen 4 (some .boolean), .fieldLink RX2 38 "SignDuty$City" "kind" "[I", .fieldLink RX2 41 "SignDuty$City" "inches" "[I", .fieldLink RX2 31 "SignDuty$City" "dim" "[I"] ++ wsX20)
def wsX2_streetsWithout : List Cond := .code yX2_streetsWithout cX2_streetsWithout 4 (some .int) :: ([.fieldLink RX2 22 "SignDuty$City" "streets" "I", .constant RX2 85 (-1000000), .methodLink RX2 82 yX2_leastTime, .instanceMethod yX2_leastTime, .selects RX2 yX2_leastTime yX2_leastTime, .initialized RX2, .code yX2_leastTime cX2_leastTime 5 (some .int), .fieldLink RX2 28 "SignDuty$City" "gestures" "I", .fieldLink RX2 47 "SignDuty$City" "takes" "[I", .methodLink RX2 86 yX2_tells, .instanceMethod yX2_tells, .selects RX2 yX2_tells yX2_tells, .code yX2_tells cX2_tells 4 (some .boolean), .fieldLink RX2 44 "SignDuty$City" "means" "[I", .methodLink RX2 78 yX2_isSeen, .instanceMethod yX2_isSeen, .selects RX2 yX2_isSeen yX2_isSeen, .code yX2_isSeen cX2_isSeen 4 (some .boolean), .fieldLink RX2 38 "SignDuty$City" "kind" "[I", .fieldLink RX2 41 "SignDuty$City" "inches" "[I", .fieldLink RX2 31 "SignDuty$City" "dim" "[I"] ++ wsX20)
def wsX2_dearestStreet_r1 : List Cond := [Cond.fieldLink RX2 22 "SignDuty$City" "streets" "I", Cond.methodLink RX2 90 yX2_owes, Cond.instanceMethod yX2_owes, Cond.selects RX2 yX2_owes yX2_owes, Cond.initialized RX2, Cond.code yX2_owes cX2_owes 3 (some .int), Cond.fieldLink RX2 38 "SignDuty$City" "kind" "[I", Cond.fieldLink RX2 41 "SignDuty$City" "inches" "[I", Cond.methodLink RX2 59 yX2_owesSuch, Cond.instanceMethod yX2_owesSuch, Cond.selects RX2 yX2_owesSuch yX2_owesSuch, Cond.code yX2_owesSuch cX2_owesSuch 5 (some .int), Cond.methodLink RX2 63 yX2_owesUnknown, Cond.instanceMethod yX2_owesUnknown, Cond.selects RX2 yX2_owesUnknown yX2_owesUnknown, Cond.code yX2_owesUnknown cX2_owesUnknown 5 (some .int), Cond.fieldLink RX2 15 "SignDuty$City" "rate" "I", Cond.fieldLink RX2 35 "SignDuty$City" "strict" "[I", Cond.methodLink RX2 70 Lib.Math.max.name, Cond.static Lib.Math.max.name, Cond.initialized "java/lang/Math", Cond.code Lib.Math.max.name Lib.Math.max.code 2 (some .int), Cond.methodLink RX2 66 yX2_isKnown, Cond.instanceMethod yX2_isKnown]
def wsX2_dearestStreet_r2 : List Cond := [Cond.selects RX2 yX2_isKnown yX2_isKnown, Cond.code yX2_isKnown cX2_isKnown 2 (some .boolean), Cond.fieldLink RX2 25 "SignDuty$City" "known" "I"]
def wsX2_dearestStreet : List Cond := .code yX2_dearestStreet cX2_dearestStreet 4 (some .int) :: ((wsX2_dearestStreet_r1 ++ wsX2_dearestStreet_r2) ++ wsX20)
def wsX3_isOneOf : List Cond := .code yX3_isOneOf cX3_isOneOf 4 (some .boolean) :: ([.fieldLink RX3 7 "SignDuty$Kinds" "WIDER" "[I", .methodLink RX3 13 yX3_widerThan, .static yX3_widerThan, .initialized RX3, .code yX3_widerThan cX3_widerThan 1 (some .int)])
def wsX3_ofLetter : List Cond := .code yX3_ofLetter cX3_ofLetter 1 (some .int) :: ([])
def wsX4_init : List Cond := .code yX4_init cX4_init 1 none :: ([.methodLink RX4 3 objectInit, .instanceMethod objectInit, .code objectInit ⟨#[0xb1]⟩ 1 none, .arrayClass .int, .fieldLink RX4 11 "SignDuty$Reader" "tape" "[I", .fieldLink RX4 15 "SignDuty$Reader" "length" "I", .fieldLink RX4 19 "SignDuty$Reader" "lastFault" "I", .fieldLink RX4 22 "SignDuty$Reader" "faultPlace" "I", .fieldLink RX4 25 "SignDuty$Reader" "fault" "I", .fieldLink RX4 28 "SignDuty$Reader" "at" "I"] ++ wsX40)
def wsX4_isFull : List Cond := .code yX4_isFull cX4_isFull 1 (some .boolean) :: ([.fieldLink RX4 15 "SignDuty$Reader" "length" "I"] ++ wsX40)
def wsX4_append : List Cond := .code yX4_append cX4_append 2 (some .int) :: ([.fieldLink RX4 11 "SignDuty$Reader" "tape" "[I", .fieldLink RX4 15 "SignDuty$Reader" "length" "I", .methodLink RX4 31 yX4_isFull, .instanceMethod yX4_isFull, .selects RX4 yX4_isFull yX4_isFull, .initialized RX4, .code yX4_isFull cX4_isFull 1 (some .boolean)] ++ wsX40)
def wsX4_next : List Cond := .code yX4_next cX4_next 1 (some .int) :: ([.fieldLink RX4 28 "SignDuty$Reader" "at" "I", .fieldLink RX4 15 "SignDuty$Reader" "length" "I", .fieldLink RX4 11 "SignDuty$Reader" "tape" "[I"] ++ wsX40)
def wsX4_failAt : List Cond := .code yX4_failAt cX4_failAt 3 none :: ([.fieldLink RX4 25 "SignDuty$Reader" "fault" "I", .fieldLink RX4 19 "SignDuty$Reader" "lastFault" "I", .fieldLink RX4 22 "SignDuty$Reader" "faultPlace" "I"] ++ wsX40)
def wsX4_fail : List Cond := .code yX4_fail cX4_fail 2 none :: ([.fieldLink RX4 28 "SignDuty$Reader" "at" "I", .methodLink RX4 102 yX4_failAt, .instanceMethod yX4_failAt, .selects RX4 yX4_failAt yX4_failAt, .initialized RX4, .code yX4_failAt cX4_failAt 3 none, .fieldLink RX4 25 "SignDuty$Reader" "fault" "I", .fieldLink RX4 19 "SignDuty$Reader" "lastFault" "I", .fieldLink RX4 22 "SignDuty$Reader" "faultPlace" "I"] ++ wsX40)
def wsX4_readSign : List Cond := .code yX4_readSign cX4_readSign 2 none :: ([.fieldLink RX4 28 "SignDuty$Reader" "at" "I", .methodLink RX4 39 yX4_next, .instanceMethod yX4_next, .selects RX4 yX4_next yX4_next, .initialized RX4, .code yX4_next cX4_next 1 (some .int), .fieldLink RX4 15 "SignDuty$Reader" "length" "I", .fieldLink RX4 11 "SignDuty$Reader" "tape" "[I", .methodLink RX4 55 yX4_fail, .instanceMethod yX4_fail, .selects RX4 yX4_fail yX4_fail, .code yX4_fail cX4_fail 2 none, .methodLink RX4 102 yX4_failAt, .instanceMethod yX4_failAt, .selects RX4 yX4_failAt yX4_failAt, .code yX4_failAt cX4_failAt 3 none, .fieldLink RX4 25 "SignDuty$Reader" "fault" "I", .fieldLink RX4 19 "SignDuty$Reader" "lastFault" "I", .fieldLink RX4 22 "SignDuty$Reader" "faultPlace" "I"] ++ wsX40)
def wsX7_isWithin : List Cond := .code yX7_isWithin cX7_isWithin 3 (some .boolean) :: ([])
def wsX4_readNumber : List Cond := .code yX4_readNumber cX4_readNumber 7 (some .int) :: ([.fieldLink RX4 28 "SignDuty$Reader" "at" "I", .methodLink RX4 39 yX4_next, .instanceMethod yX4_next, .selects RX4 yX4_next yX4_next, .initialized RX4, .code yX4_next cX4_next 1 (some .int), .fieldLink RX4 15 "SignDuty$Reader" "length" "I", .fieldLink RX4 11 "SignDuty$Reader" "tape" "[I", .static yX7_isWithin, .initialized RX7, .code yX7_isWithin cX7_isWithin 3 (some .boolean), .methodLink RX4 102 yX4_failAt, .instanceMethod yX4_failAt, .selects RX4 yX4_failAt yX4_failAt, .code yX4_failAt cX4_failAt 3 none, .fieldLink RX4 25 "SignDuty$Reader" "fault" "I", .fieldLink RX4 19 "SignDuty$Reader" "lastFault" "I", .fieldLink RX4 22 "SignDuty$Reader" "faultPlace" "I"] ++ wsX40)
def wsX4_readLaw_r1 : List Cond := [Cond.methodLink RX4 59 yX4_readSign, Cond.instanceMethod yX4_readSign, Cond.selects RX4 yX4_readSign yX4_readSign, Cond.initialized RX4, Cond.code yX4_readSign cX4_readSign 2 none, Cond.fieldLink RX4 28 "SignDuty$Reader" "at" "I", Cond.methodLink RX4 39 yX4_next, Cond.instanceMethod yX4_next, Cond.selects RX4 yX4_next yX4_next, Cond.code yX4_next cX4_next 1 (some .int), Cond.fieldLink RX4 15 "SignDuty$Reader" "length" "I", Cond.fieldLink RX4 11 "SignDuty$Reader" "tape" "[I", Cond.methodLink RX4 55 yX4_fail, Cond.instanceMethod yX4_fail, Cond.selects RX4 yX4_fail yX4_fail, Cond.code yX4_fail cX4_fail 2 none, Cond.methodLink RX4 102 yX4_failAt, Cond.instanceMethod yX4_failAt, Cond.selects RX4 yX4_failAt yX4_failAt, Cond.code yX4_failAt cX4_failAt 3 none, Cond.fieldLink RX4 25 "SignDuty$Reader" "fault" "I", Cond.fieldLink RX4 19 "SignDuty$Reader" "lastFault" "I", Cond.fieldLink RX4 22 "SignDuty$Reader" "faultPlace" "I", Cond.methodLink RX4 62 yX4_readNumber]
def wsX4_readLaw_r2 : List Cond := [Cond.instanceMethod yX4_readNumber, Cond.selects RX4 yX4_readNumber yX4_readNumber, Cond.code yX4_readNumber cX4_readNumber 7 (some .int), Cond.static yX7_isWithin, Cond.initialized RX7, Cond.code yX7_isWithin cX7_isWithin 3 (some .boolean), Cond.methodLink RX4 66 yX2_begin, Cond.instanceMethod yX2_begin, Cond.selects RX2 yX2_begin yX2_begin, Cond.initialized RX2, Cond.code yX2_begin cX2_begin 2 none, Cond.fieldLink RX2 9 "SignDuty$City" "stands" "Z", Cond.fieldLink RX2 15 "SignDuty$City" "rate" "I", Cond.fieldLink RX2 19 "SignDuty$City" "paid" "I", Cond.fieldLink RX2 22 "SignDuty$City" "streets" "I", Cond.fieldLink RX2 25 "SignDuty$City" "known" "I", Cond.fieldLink RX2 28 "SignDuty$City" "gestures" "I"]
def wsX4_readLaw : List Cond := .code yX4_readLaw cX4_readLaw 2 none :: ((wsX4_readLaw_r1 ++ wsX4_readLaw_r2) ++ wsX40 ++ wsX20)
def wsX4_readStreet_r1 : List Cond := [Cond.fieldLink RX4 71 "SignDuty$City" "streets" "I", Cond.fieldLink RX4 74 "SignDuty$City" "dim" "[I", Cond.fieldLink RX4 77 "SignDuty$City" "strict" "[I", Cond.methodLink RX4 55 yX4_fail, Cond.instanceMethod yX4_fail, Cond.selects RX4 yX4_fail yX4_fail, Cond.initialized RX4, Cond.code yX4_fail cX4_fail 2 none, Cond.fieldLink RX4 28 "SignDuty$Reader" "at" "I", Cond.methodLink RX4 102 yX4_failAt, Cond.instanceMethod yX4_failAt, Cond.selects RX4 yX4_failAt yX4_failAt, Cond.code yX4_failAt cX4_failAt 3 none, Cond.fieldLink RX4 25 "SignDuty$Reader" "fault" "I", Cond.fieldLink RX4 19 "SignDuty$Reader" "lastFault" "I", Cond.fieldLink RX4 22 "SignDuty$Reader" "faultPlace" "I", Cond.methodLink RX4 59 yX4_readSign, Cond.instanceMethod yX4_readSign, Cond.selects RX4 yX4_readSign yX4_readSign, Cond.code yX4_readSign cX4_readSign 2 none, Cond.methodLink RX4 39 yX4_next, Cond.instanceMethod yX4_next, Cond.selects RX4 yX4_next yX4_next, Cond.code yX4_next cX4_next 1 (some .int)]
def wsX4_readStreet_r2 : List Cond := [Cond.fieldLink RX4 15 "SignDuty$Reader" "length" "I", Cond.fieldLink RX4 11 "SignDuty$Reader" "tape" "[I", Cond.methodLink RX4 62 yX4_readNumber, Cond.instanceMethod yX4_readNumber, Cond.selects RX4 yX4_readNumber yX4_readNumber, Cond.code yX4_readNumber cX4_readNumber 7 (some .int), Cond.static yX7_isWithin, Cond.initialized RX7, Cond.code yX7_isWithin cX7_isWithin 3 (some .boolean)]
def wsX4_readStreet : List Cond := .code yX4_readStreet cX4_readStreet 3 none :: ((wsX4_readStreet_r1 ++ wsX4_readStreet_r2) ++ wsX20 ++ wsX40)
def wsX4_readGesture_r1 : List Cond := [Cond.fieldLink RX4 80 "SignDuty$City" "gestures" "I", Cond.fieldLink RX4 83 "SignDuty$City" "kind" "[I", Cond.fieldLink RX4 28 "SignDuty$Reader" "at" "I", Cond.fieldLink RX4 86 "SignDuty$City" "inches" "[I", Cond.fieldLink RX4 89 "SignDuty$City" "means" "[I", Cond.fieldLink RX4 92 "SignDuty$City" "takes" "[I", Cond.fieldLink RX4 95 "SignDuty$City" "made" "[I", Cond.methodLink RX4 55 yX4_fail, Cond.instanceMethod yX4_fail, Cond.selects RX4 yX4_fail yX4_fail, Cond.initialized RX4, Cond.code yX4_fail cX4_fail 2 none, Cond.methodLink RX4 102 yX4_failAt, Cond.instanceMethod yX4_failAt, Cond.selects RX4 yX4_failAt yX4_failAt, Cond.code yX4_failAt cX4_failAt 3 none, Cond.fieldLink RX4 25 "SignDuty$Reader" "fault" "I", Cond.fieldLink RX4 19 "SignDuty$Reader" "lastFault" "I", Cond.fieldLink RX4 22 "SignDuty$Reader" "faultPlace" "I", Cond.methodLink RX4 39 yX4_next, Cond.instanceMethod yX4_next, Cond.selects RX4 yX4_next yX4_next, Cond.code yX4_next cX4_next 1 (some .int), Cond.fieldLink RX4 15 "SignDuty$Reader" "length" "I"]
def wsX4_readGesture_r2 : List Cond := [Cond.fieldLink RX4 11 "SignDuty$Reader" "tape" "[I", Cond.methodLink RX4 46 yX3_ofLetter, Cond.static yX3_ofLetter, Cond.initialized RX3, Cond.code yX3_ofLetter cX3_ofLetter 1 (some .int), Cond.methodLink RX4 62 yX4_readNumber, Cond.instanceMethod yX4_readNumber, Cond.selects RX4 yX4_readNumber yX4_readNumber, Cond.code yX4_readNumber cX4_readNumber 7 (some .int), Cond.static yX7_isWithin, Cond.initialized RX7, Cond.code yX7_isWithin cX7_isWithin 3 (some .boolean), Cond.methodLink RX4 59 yX4_readSign, Cond.instanceMethod yX4_readSign, Cond.selects RX4 yX4_readSign yX4_readSign, Cond.code yX4_readSign cX4_readSign 2 none]
def wsX4_readGesture : List Cond := .code yX4_readGesture cX4_readGesture 3 none :: ((wsX4_readGesture_r1 ++ wsX4_readGesture_r2) ++ wsX20 ++ wsX40)
def wsX4_reads_r1 : List Cond := [Cond.fieldLink RX4 25 "SignDuty$Reader" "fault" "I", Cond.fieldLink RX4 28 "SignDuty$Reader" "at" "I", Cond.fieldLink RX4 15 "SignDuty$Reader" "length" "I", Cond.methodLink RX4 35 yX4_readLaw, Cond.instanceMethod yX4_readLaw, Cond.selects RX4 yX4_readLaw yX4_readLaw, Cond.initialized RX4, Cond.code yX4_readLaw cX4_readLaw 2 none, Cond.methodLink RX4 59 yX4_readSign, Cond.instanceMethod yX4_readSign, Cond.selects RX4 yX4_readSign yX4_readSign, Cond.code yX4_readSign cX4_readSign 2 none, Cond.methodLink RX4 39 yX4_next, Cond.instanceMethod yX4_next, Cond.selects RX4 yX4_next yX4_next, Cond.code yX4_next cX4_next 1 (some .int), Cond.fieldLink RX4 11 "SignDuty$Reader" "tape" "[I", Cond.methodLink RX4 55 yX4_fail, Cond.instanceMethod yX4_fail, Cond.selects RX4 yX4_fail yX4_fail, Cond.code yX4_fail cX4_fail 2 none, Cond.methodLink RX4 102 yX4_failAt, Cond.instanceMethod yX4_failAt, Cond.selects RX4 yX4_failAt yX4_failAt]
def wsX4_reads_r2 : List Cond := [Cond.code yX4_failAt cX4_failAt 3 none, Cond.fieldLink RX4 19 "SignDuty$Reader" "lastFault" "I", Cond.fieldLink RX4 22 "SignDuty$Reader" "faultPlace" "I", Cond.methodLink RX4 62 yX4_readNumber, Cond.instanceMethod yX4_readNumber, Cond.selects RX4 yX4_readNumber yX4_readNumber, Cond.code yX4_readNumber cX4_readNumber 7 (some .int), Cond.static yX7_isWithin, Cond.initialized RX7, Cond.code yX7_isWithin cX7_isWithin 3 (some .boolean), Cond.methodLink RX4 66 yX2_begin, Cond.instanceMethod yX2_begin, Cond.selects RX2 yX2_begin yX2_begin, Cond.initialized RX2, Cond.code yX2_begin cX2_begin 2 none, Cond.fieldLink RX2 9 "SignDuty$City" "stands" "Z", Cond.fieldLink RX2 15 "SignDuty$City" "rate" "I", Cond.fieldLink RX2 19 "SignDuty$City" "paid" "I", Cond.fieldLink RX2 22 "SignDuty$City" "streets" "I", Cond.fieldLink RX2 25 "SignDuty$City" "known" "I", Cond.fieldLink RX2 28 "SignDuty$City" "gestures" "I", Cond.methodLink RX4 43 yX4_readStreet, Cond.instanceMethod yX4_readStreet, Cond.selects RX4 yX4_readStreet yX4_readStreet]
def wsX4_reads_r3 : List Cond := [Cond.code yX4_readStreet cX4_readStreet 3 none, Cond.fieldLink RX4 71 "SignDuty$City" "streets" "I", Cond.fieldLink RX4 74 "SignDuty$City" "dim" "[I", Cond.fieldLink RX4 77 "SignDuty$City" "strict" "[I", Cond.methodLink RX4 46 yX3_ofLetter, Cond.static yX3_ofLetter, Cond.initialized RX3, Cond.code yX3_ofLetter cX3_ofLetter 1 (some .int), Cond.methodLink RX4 52 yX4_readGesture, Cond.instanceMethod yX4_readGesture, Cond.selects RX4 yX4_readGesture yX4_readGesture, Cond.code yX4_readGesture cX4_readGesture 3 none, Cond.fieldLink RX4 80 "SignDuty$City" "gestures" "I", Cond.fieldLink RX4 83 "SignDuty$City" "kind" "[I", Cond.fieldLink RX4 86 "SignDuty$City" "inches" "[I", Cond.fieldLink RX4 89 "SignDuty$City" "means" "[I", Cond.fieldLink RX4 92 "SignDuty$City" "takes" "[I", Cond.fieldLink RX4 95 "SignDuty$City" "made" "[I"]
def wsX4_reads : List Cond := .code yX4_reads cX4_reads 3 (some .boolean) :: ((wsX4_reads_r1 ++ (wsX4_reads_r2 ++ wsX4_reads_r3)) ++ wsX40 ++ wsX20)
def wsX5_init : List Cond := .code yX5_init cX5_init 1 none :: ([.methodLink RX5 3 objectInit, .instanceMethod objectInit, .code objectInit ⟨#[0xb1]⟩ 1 none, .classLink RX5 11 "[[I", .arrayClass .int, .fieldLink RX5 13 "SignDuty$Rows" "items" "[[I", .fieldLink RX5 16 "SignDuty$Rows" "lengths" "[I", .fieldLink RX5 20 "SignDuty$Rows" "lanes" "[I"] ++ wsX50)
def wsX5_isRow : List Cond := .code yX5_isRow cX5_isRow 1 (some .boolean) :: ([])
def wsX5_isMissing : List Cond := .code yX5_isMissing cX5_isMissing 2 (some .boolean) :: ([.fieldLink RX5 16 "SignDuty$Rows" "lengths" "[I"] ++ wsX50)
def wsX5_areAlike : List Cond := .code yX5_areAlike cX5_areAlike 3 (some .boolean) :: ([.fieldLink RX5 20 "SignDuty$Rows" "lanes" "[I"] ++ wsX50)
def wsX5_reaches : List Cond := .code yX5_reaches cX5_reaches 4 (some .boolean) :: ([.fieldLink RX5 16 "SignDuty$Rows" "lengths" "[I"] ++ wsX50)
def wsX5_findingOf : List Cond := .code yX5_findingOf cX5_findingOf 4 (some .int) :: ([.methodLink RX5 23 yX5_isMissing, .instanceMethod yX5_isMissing, .selects RX5 yX5_isMissing yX5_isMissing, .initialized RX5, .code yX5_isMissing cX5_isMissing 2 (some .boolean), .fieldLink RX5 16 "SignDuty$Rows" "lengths" "[I", .methodLink RX5 27 yX5_reaches, .instanceMethod yX5_reaches, .selects RX5 yX5_reaches yX5_reaches, .code yX5_reaches cX5_reaches 4 (some .boolean)] ++ wsX50)
def wsX5_lay : List Cond := .code yX5_lay cX5_lay 5 none :: ([.fieldLink RX5 16 "SignDuty$Rows" "lengths" "[I", .fieldLink RX5 20 "SignDuty$Rows" "lanes" "[I", .fieldLink RX5 13 "SignDuty$Rows" "items" "[[I"] ++ wsX50)
def wsX5_lowestBits : List Cond := .code yX5_lowestBits cX5_lowestBits 2 (some .int) :: ([])
def wsX5_put : List Cond := .code yX5_put cX5_put 4 (some .int) :: ([.fieldLink RX5 13 "SignDuty$Rows" "items" "[[I", .fieldLink RX5 20 "SignDuty$Rows" "lanes" "[I", .methodLink RX5 31 yX5_lowestBits, .static yX5_lowestBits, .initialized RX5, .code yX5_lowestBits cX5_lowestBits 2 (some .int)] ++ wsX50)
def wsX5_at : List Cond := .code yX5_at cX5_at 3 (some .int) :: ([.fieldLink RX5 13 "SignDuty$Rows" "items" "[[I"] ++ wsX50)
def wsX5_carry : List Cond := .code yX5_carry cX5_carry 6 none :: ([.fieldLink RX5 13 "SignDuty$Rows" "items" "[[I", .methodLink RX5 35 arraycopyName, .native arraycopyName, .static arraycopyName, .initialized "java/lang/System"] ++ wsX50)
def wsX5_takeAway : List Cond := .code yX5_takeAway cX5_takeAway 3 (some .int) :: ([.fieldLink RX5 16 "SignDuty$Rows" "lengths" "[I"] ++ wsX50)
def wsX5_howMany : List Cond := .code yX5_howMany cX5_howMany 3 (some .int) :: ([.methodLink RX5 23 yX5_isMissing, .instanceMethod yX5_isMissing, .selects RX5 yX5_isMissing yX5_isMissing, .initialized RX5, .code yX5_isMissing cX5_isMissing 2 (some .boolean), .fieldLink RX5 16 "SignDuty$Rows" "lengths" "[I"] ++ wsX50)
def wsX6_init : List Cond := .code yX6_init cX6_init 1 none :: ([.methodLink RX6 3 objectInit, .instanceMethod objectInit, .code objectInit ⟨#[0xb1]⟩ 1 none, .classLink RX6 9 "[[I", .arrayClass .int, .fieldLink RX6 11 "SignDuty$Teller" "least" "[[I"] ++ wsX60)
def wsX6_offer : List Cond := .code yX6_offer cX6_offer 6 none :: ([.fieldLink RX6 11 "SignDuty$Teller" "least" "[[I", .methodLink RX6 48 Lib.Math.min.name, .static Lib.Math.min.name, .initialized "java/lang/Math", .code Lib.Math.min.name Lib.Math.min.code 2 (some .int)] ++ wsX60)
def wsX6_fill_r1 : List Cond := [Cond.fieldLink RX6 11 "SignDuty$Teller" "least" "[[I", Cond.constant RX6 20 (1000000), Cond.fieldLink RX6 32 "SignDuty$City" "gestures" "I", Cond.fieldLink RX6 26 "SignDuty$City" "takes" "[I", Cond.methodLink RX6 36 yX2_tells, Cond.instanceMethod yX2_tells, Cond.selects RX2 yX2_tells yX2_tells, Cond.initialized RX2, Cond.code yX2_tells cX2_tells 4 (some .boolean), Cond.fieldLink RX2 44 "SignDuty$City" "means" "[I", Cond.methodLink RX2 78 yX2_isSeen, Cond.instanceMethod yX2_isSeen, Cond.selects RX2 yX2_isSeen yX2_isSeen, Cond.code yX2_isSeen cX2_isSeen 4 (some .boolean), Cond.fieldLink RX2 38 "SignDuty$City" "kind" "[I", Cond.fieldLink RX2 41 "SignDuty$City" "inches" "[I", Cond.fieldLink RX2 31 "SignDuty$City" "dim" "[I", Cond.methodLink RX6 40 yX2_owes, Cond.instanceMethod yX2_owes, Cond.selects RX2 yX2_owes yX2_owes, Cond.code yX2_owes cX2_owes 3 (some .int), Cond.methodLink RX2 59 yX2_owesSuch, Cond.instanceMethod yX2_owesSuch, Cond.selects RX2 yX2_owesSuch yX2_owesSuch]
def wsX6_fill_r2 : List Cond := [Cond.code yX2_owesSuch cX2_owesSuch 5 (some .int), Cond.methodLink RX2 63 yX2_owesUnknown, Cond.instanceMethod yX2_owesUnknown, Cond.selects RX2 yX2_owesUnknown yX2_owesUnknown, Cond.code yX2_owesUnknown cX2_owesUnknown 5 (some .int), Cond.fieldLink RX2 15 "SignDuty$City" "rate" "I", Cond.fieldLink RX2 35 "SignDuty$City" "strict" "[I", Cond.methodLink RX2 70 Lib.Math.max.name, Cond.static Lib.Math.max.name, Cond.initialized "java/lang/Math", Cond.code Lib.Math.max.name Lib.Math.max.code 2 (some .int), Cond.methodLink RX2 66 yX2_isKnown, Cond.instanceMethod yX2_isKnown, Cond.selects RX2 yX2_isKnown yX2_isKnown, Cond.code yX2_isKnown cX2_isKnown 2 (some .boolean), Cond.fieldLink RX2 25 "SignDuty$City" "known" "I", Cond.methodLink RX6 44 yX6_offer, Cond.instanceMethod yX6_offer, Cond.selects RX6 yX6_offer yX6_offer, Cond.initialized RX6, Cond.code yX6_offer cX6_offer 6 none, Cond.methodLink RX6 48 Lib.Math.min.name, Cond.static Lib.Math.min.name, Cond.code Lib.Math.min.name Lib.Math.min.code 2 (some .int)]
def wsX6_fill : List Cond := .code yX6_fill cX6_fill 8 none :: ((wsX6_fill_r1 ++ wsX6_fill_r2) ++ wsX60 ++ wsX20)
def wsX6_leastDuty_r1 : List Cond := [Cond.fieldLink RX6 11 "SignDuty$Teller" "least" "[[I", Cond.constant RX6 20 (1000000), Cond.constant RX6 21 (-1000000), Cond.methodLink RX6 16 yX6_fill, Cond.instanceMethod yX6_fill, Cond.selects RX6 yX6_fill yX6_fill, Cond.initialized RX6, Cond.code yX6_fill cX6_fill 8 none, Cond.fieldLink RX6 32 "SignDuty$City" "gestures" "I", Cond.fieldLink RX6 26 "SignDuty$City" "takes" "[I", Cond.methodLink RX6 36 yX2_tells, Cond.instanceMethod yX2_tells, Cond.selects RX2 yX2_tells yX2_tells, Cond.initialized RX2, Cond.code yX2_tells cX2_tells 4 (some .boolean), Cond.fieldLink RX2 44 "SignDuty$City" "means" "[I", Cond.methodLink RX2 78 yX2_isSeen, Cond.instanceMethod yX2_isSeen, Cond.selects RX2 yX2_isSeen yX2_isSeen, Cond.code yX2_isSeen cX2_isSeen 4 (some .boolean), Cond.fieldLink RX2 38 "SignDuty$City" "kind" "[I", Cond.fieldLink RX2 41 "SignDuty$City" "inches" "[I", Cond.fieldLink RX2 31 "SignDuty$City" "dim" "[I", Cond.methodLink RX6 40 yX2_owes]
def wsX6_leastDuty_r2 : List Cond := [Cond.instanceMethod yX2_owes, Cond.selects RX2 yX2_owes yX2_owes, Cond.code yX2_owes cX2_owes 3 (some .int), Cond.methodLink RX2 59 yX2_owesSuch, Cond.instanceMethod yX2_owesSuch, Cond.selects RX2 yX2_owesSuch yX2_owesSuch, Cond.code yX2_owesSuch cX2_owesSuch 5 (some .int), Cond.methodLink RX2 63 yX2_owesUnknown, Cond.instanceMethod yX2_owesUnknown, Cond.selects RX2 yX2_owesUnknown yX2_owesUnknown, Cond.code yX2_owesUnknown cX2_owesUnknown 5 (some .int), Cond.fieldLink RX2 15 "SignDuty$City" "rate" "I", Cond.fieldLink RX2 35 "SignDuty$City" "strict" "[I", Cond.methodLink RX2 70 Lib.Math.max.name, Cond.static Lib.Math.max.name, Cond.initialized "java/lang/Math", Cond.code Lib.Math.max.name Lib.Math.max.code 2 (some .int), Cond.methodLink RX2 66 yX2_isKnown, Cond.instanceMethod yX2_isKnown, Cond.selects RX2 yX2_isKnown yX2_isKnown, Cond.code yX2_isKnown cX2_isKnown 2 (some .boolean), Cond.fieldLink RX2 25 "SignDuty$City" "known" "I", Cond.methodLink RX6 44 yX6_offer, Cond.instanceMethod yX6_offer]
def wsX6_leastDuty_r3 : List Cond := [Cond.selects RX6 yX6_offer yX6_offer, Cond.code yX6_offer cX6_offer 6 none, Cond.methodLink RX6 48 Lib.Math.min.name, Cond.static Lib.Math.min.name, Cond.code Lib.Math.min.name Lib.Math.min.code 2 (some .int)]
def wsX6_leastDuty : List Cond := .code yX6_leastDuty cX6_leastDuty 6 (some .int) :: ((wsX6_leastDuty_r1 ++ (wsX6_leastDuty_r2 ++ wsX6_leastDuty_r3)) ++ wsX60 ++ wsX20)
def wsX6_firstOfCheapest_r1 : List Cond := [Cond.fieldLink RX6 32 "SignDuty$City" "gestures" "I", Cond.fieldLink RX6 26 "SignDuty$City" "takes" "[I", Cond.fieldLink RX6 11 "SignDuty$Teller" "least" "[[I", Cond.constant RX6 21 (-1000000), Cond.methodLink RX6 36 yX2_tells, Cond.instanceMethod yX2_tells, Cond.selects RX2 yX2_tells yX2_tells, Cond.initialized RX2, Cond.code yX2_tells cX2_tells 4 (some .boolean), Cond.fieldLink RX2 44 "SignDuty$City" "means" "[I", Cond.methodLink RX2 78 yX2_isSeen, Cond.instanceMethod yX2_isSeen, Cond.selects RX2 yX2_isSeen yX2_isSeen, Cond.code yX2_isSeen cX2_isSeen 4 (some .boolean), Cond.fieldLink RX2 38 "SignDuty$City" "kind" "[I", Cond.fieldLink RX2 41 "SignDuty$City" "inches" "[I", Cond.fieldLink RX2 31 "SignDuty$City" "dim" "[I", Cond.methodLink RX6 40 yX2_owes, Cond.instanceMethod yX2_owes, Cond.selects RX2 yX2_owes yX2_owes, Cond.code yX2_owes cX2_owes 3 (some .int), Cond.methodLink RX2 59 yX2_owesSuch, Cond.instanceMethod yX2_owesSuch, Cond.selects RX2 yX2_owesSuch yX2_owesSuch]
def wsX6_firstOfCheapest_r2 : List Cond := [Cond.code yX2_owesSuch cX2_owesSuch 5 (some .int), Cond.methodLink RX2 63 yX2_owesUnknown, Cond.instanceMethod yX2_owesUnknown, Cond.selects RX2 yX2_owesUnknown yX2_owesUnknown, Cond.code yX2_owesUnknown cX2_owesUnknown 5 (some .int), Cond.fieldLink RX2 15 "SignDuty$City" "rate" "I", Cond.fieldLink RX2 35 "SignDuty$City" "strict" "[I", Cond.methodLink RX2 70 Lib.Math.max.name, Cond.static Lib.Math.max.name, Cond.initialized "java/lang/Math", Cond.code Lib.Math.max.name Lib.Math.max.code 2 (some .int), Cond.methodLink RX2 66 yX2_isKnown, Cond.instanceMethod yX2_isKnown, Cond.selects RX2 yX2_isKnown yX2_isKnown, Cond.code yX2_isKnown cX2_isKnown 2 (some .boolean), Cond.fieldLink RX2 25 "SignDuty$City" "known" "I"]
def wsX6_firstOfCheapest : List Cond := .code yX6_firstOfCheapest cX6_firstOfCheapest 7 (some .int) :: ((wsX6_firstOfCheapest_r1 ++ wsX6_firstOfCheapest_r2) ++ wsX20 ++ wsX60)
def wsX6_gestureOfCheapest_r1 : List Cond := [Cond.fieldLink RX6 11 "SignDuty$Teller" "least" "[[I", Cond.constant RX6 20 (1000000), Cond.constant RX6 21 (-1000000), Cond.fieldLink RX6 26 "SignDuty$City" "takes" "[I", Cond.methodLink RX6 16 yX6_fill, Cond.instanceMethod yX6_fill, Cond.selects RX6 yX6_fill yX6_fill, Cond.initialized RX6, Cond.code yX6_fill cX6_fill 8 none, Cond.fieldLink RX6 32 "SignDuty$City" "gestures" "I", Cond.methodLink RX6 36 yX2_tells, Cond.instanceMethod yX2_tells, Cond.selects RX2 yX2_tells yX2_tells, Cond.initialized RX2, Cond.code yX2_tells cX2_tells 4 (some .boolean), Cond.fieldLink RX2 44 "SignDuty$City" "means" "[I", Cond.methodLink RX2 78 yX2_isSeen, Cond.instanceMethod yX2_isSeen, Cond.selects RX2 yX2_isSeen yX2_isSeen, Cond.code yX2_isSeen cX2_isSeen 4 (some .boolean), Cond.fieldLink RX2 38 "SignDuty$City" "kind" "[I", Cond.fieldLink RX2 41 "SignDuty$City" "inches" "[I", Cond.fieldLink RX2 31 "SignDuty$City" "dim" "[I", Cond.methodLink RX6 40 yX2_owes]
def wsX6_gestureOfCheapest_r2 : List Cond := [Cond.instanceMethod yX2_owes, Cond.selects RX2 yX2_owes yX2_owes, Cond.code yX2_owes cX2_owes 3 (some .int), Cond.methodLink RX2 59 yX2_owesSuch, Cond.instanceMethod yX2_owesSuch, Cond.selects RX2 yX2_owesSuch yX2_owesSuch, Cond.code yX2_owesSuch cX2_owesSuch 5 (some .int), Cond.methodLink RX2 63 yX2_owesUnknown, Cond.instanceMethod yX2_owesUnknown, Cond.selects RX2 yX2_owesUnknown yX2_owesUnknown, Cond.code yX2_owesUnknown cX2_owesUnknown 5 (some .int), Cond.fieldLink RX2 15 "SignDuty$City" "rate" "I", Cond.fieldLink RX2 35 "SignDuty$City" "strict" "[I", Cond.methodLink RX2 70 Lib.Math.max.name, Cond.static Lib.Math.max.name, Cond.initialized "java/lang/Math", Cond.code Lib.Math.max.name Lib.Math.max.code 2 (some .int), Cond.methodLink RX2 66 yX2_isKnown, Cond.instanceMethod yX2_isKnown, Cond.selects RX2 yX2_isKnown yX2_isKnown, Cond.code yX2_isKnown cX2_isKnown 2 (some .boolean), Cond.fieldLink RX2 25 "SignDuty$City" "known" "I", Cond.methodLink RX6 44 yX6_offer, Cond.instanceMethod yX6_offer]
def wsX6_gestureOfCheapest_r3 : List Cond := [Cond.selects RX6 yX6_offer yX6_offer, Cond.code yX6_offer cX6_offer 6 none, Cond.methodLink RX6 48 Lib.Math.min.name, Cond.static Lib.Math.min.name, Cond.code Lib.Math.min.name Lib.Math.min.code 2 (some .int), Cond.methodLink RX6 22 yX6_firstOfCheapest, Cond.instanceMethod yX6_firstOfCheapest, Cond.selects RX6 yX6_firstOfCheapest yX6_firstOfCheapest, Cond.code yX6_firstOfCheapest cX6_firstOfCheapest 7 (some .int)]
def wsX6_gestureOfCheapest : List Cond := .code yX6_gestureOfCheapest cX6_gestureOfCheapest 10 (some .int) :: ((wsX6_gestureOfCheapest_r1 ++ (wsX6_gestureOfCheapest_r2 ++ wsX6_gestureOfCheapest_r3)) ++ wsX60 ++ wsX20)
def wsX7_init_r1 : List Cond := [Cond.methodLink RX7 1 objectInit, Cond.instanceMethod objectInit, Cond.code objectInit ⟨#[0xb1]⟩ 1 none, Cond.classLink RX7 7 RX5, Cond.instantiable RX5 3, Cond.initialized RX5, Cond.fieldLink RX7 10 "SignDuty" "rows" "LSignDuty$Rows;", Cond.classLink RX7 16 RX4, Cond.instantiable RX4 6, Cond.initialized RX4, Cond.fieldLink RX7 19 "SignDuty" "reader" "LSignDuty$Reader;", Cond.classLink RX7 23 RX2, Cond.instantiable RX2 13, Cond.initialized RX2, Cond.fieldLink RX7 26 "SignDuty" "city" "LSignDuty$City;", Cond.fieldLink RX7 30 "SignDuty" "draft" "LSignDuty$City;", Cond.fieldLink RX7 33 "SignDuty" "images" "[LSignDuty$City;", Cond.classLink RX7 37 RX0, Cond.instantiable RX0 5, Cond.initialized RX0, Cond.fieldLink RX7 40 "SignDuty" "acts" "LSignDuty$Acts;", Cond.classLink RX7 44 RX6, Cond.instantiable RX6 1, Cond.initialized RX6]
def wsX7_init_r2 : List Cond := [Cond.fieldLink RX7 47 "SignDuty" "teller" "LSignDuty$Teller;", Cond.classLink RX7 51 RX1, Cond.instantiable RX1 2, Cond.initialized RX1, Cond.fieldLink RX7 54 "SignDuty" "asks" "LSignDuty$Asks;", Cond.fieldLink RX7 58 "SignDuty" "lastFinding" "I", Cond.instanceMethod yX5_init, Cond.code yX5_init cX5_init 1 none, Cond.methodLink RX5 3 objectInit, Cond.classLink RX5 11 "[[I", Cond.arrayClass .int, Cond.fieldLink RX5 13 "SignDuty$Rows" "items" "[[I", Cond.fieldLink RX5 16 "SignDuty$Rows" "lengths" "[I", Cond.fieldLink RX5 20 "SignDuty$Rows" "lanes" "[I", Cond.instanceMethod yX4_init, Cond.code yX4_init cX4_init 1 none, Cond.methodLink RX4 3 objectInit, Cond.fieldLink RX4 11 "SignDuty$Reader" "tape" "[I", Cond.fieldLink RX4 15 "SignDuty$Reader" "length" "I", Cond.fieldLink RX4 19 "SignDuty$Reader" "lastFault" "I", Cond.fieldLink RX4 22 "SignDuty$Reader" "faultPlace" "I", Cond.fieldLink RX4 25 "SignDuty$Reader" "fault" "I", Cond.fieldLink RX4 28 "SignDuty$Reader" "at" "I", Cond.instanceMethod yX2_init]
def wsX7_init_r3 : List Cond := [Cond.code yX2_init cX2_init 1 none, Cond.methodLink RX2 3 objectInit, Cond.fieldLink RX2 9 "SignDuty$City" "stands" "Z", Cond.fieldLink RX2 15 "SignDuty$City" "rate" "I", Cond.fieldLink RX2 19 "SignDuty$City" "paid" "I", Cond.fieldLink RX2 22 "SignDuty$City" "streets" "I", Cond.fieldLink RX2 25 "SignDuty$City" "known" "I", Cond.fieldLink RX2 28 "SignDuty$City" "gestures" "I", Cond.fieldLink RX2 31 "SignDuty$City" "dim" "[I", Cond.fieldLink RX2 35 "SignDuty$City" "strict" "[I", Cond.fieldLink RX2 38 "SignDuty$City" "kind" "[I", Cond.fieldLink RX2 41 "SignDuty$City" "inches" "[I", Cond.fieldLink RX2 44 "SignDuty$City" "means" "[I", Cond.fieldLink RX2 47 "SignDuty$City" "takes" "[I", Cond.fieldLink RX2 50 "SignDuty$City" "made" "[I", Cond.instanceMethod yX0_init, Cond.code yX0_init cX0_init 1 none, Cond.methodLink RX0 1 objectInit, Cond.fieldLink RX0 9 "SignDuty$Acts" "deeds" "[I", Cond.fieldLink RX0 13 "SignDuty$Acts" "whats" "[I", Cond.fieldLink RX0 16 "SignDuty$Acts" "values" "[I", Cond.fieldLink RX0 19 "SignDuty$Acts" "nextSlot" "I", Cond.fieldLink RX0 23 "SignDuty$Acts" "kept" "I", Cond.instanceMethod yX6_init]
def wsX7_init_r4 : List Cond := [Cond.code yX6_init cX6_init 1 none, Cond.methodLink RX6 3 objectInit, Cond.classLink RX6 9 "[[I", Cond.fieldLink RX6 11 "SignDuty$Teller" "least" "[[I", Cond.instanceMethod yX1_init, Cond.code yX1_init cX1_init 1 none, Cond.methodLink RX1 3 objectInit, Cond.fieldLink RX1 11 "SignDuty$Asks" "numbers" "[I", Cond.fieldLink RX1 15 "SignDuty$Asks" "left" "I"]
def wsX7_init : List Cond := .code yX7_init cX7_init 1 none :: ((wsX7_init_r1 ++ (wsX7_init_r2 ++ (wsX7_init_r3 ++ wsX7_init_r4))) ++ wsX50 ++ wsX70 ++ wsX40 ++ wsX20 ++ wsX00 ++ wsX60 ++ wsX10)
def wsX7_found : List Cond := .code yX7_found cX7_found 2 (some .int) :: ([.fieldLink RX7 58 "SignDuty" "lastFinding" "I", .constant RX7 283 (-1000010)] ++ wsX70)
def wsX7_foundNothing : List Cond := .code yX7_foundNothing cX7_foundNothing 2 (some .int) :: ([.fieldLink RX7 58 "SignDuty" "lastFinding" "I"] ++ wsX70)
def wsX7_row_r1 : List Cond := [Cond.constant RX7 70 (-1000001), Cond.fieldLink RX7 10 "SignDuty" "rows" "LSignDuty$Rows;", Cond.methodLink RX7 62 yX5_isRow, Cond.static yX5_isRow, Cond.initialized RX5, Cond.code yX5_isRow cX5_isRow 1 (some .boolean), Cond.methodLink RX7 66 yX7_isWithin, Cond.static yX7_isWithin, Cond.initialized RX7, Cond.code yX7_isWithin cX7_isWithin 3 (some .boolean), Cond.methodLink RX7 71 yX7_found, Cond.instanceMethod yX7_found, Cond.selects RX7 yX7_found yX7_found, Cond.code yX7_found cX7_found 2 (some .int), Cond.fieldLink RX7 58 "SignDuty" "lastFinding" "I", Cond.constant RX7 283 (-1000010), Cond.methodLink RX7 75 yX5_lay, Cond.instanceMethod yX5_lay, Cond.selects RX5 yX5_lay yX5_lay, Cond.code yX5_lay cX5_lay 5 none, Cond.fieldLink RX5 16 "SignDuty$Rows" "lengths" "[I", Cond.fieldLink RX5 20 "SignDuty$Rows" "lanes" "[I", Cond.fieldLink RX5 13 "SignDuty$Rows" "items" "[[I", Cond.methodLink RX7 79 yX7_foundNothing]
def wsX7_row_r2 : List Cond := [Cond.instanceMethod yX7_foundNothing, Cond.selects RX7 yX7_foundNothing yX7_foundNothing, Cond.code yX7_foundNothing cX7_foundNothing 2 (some .int)]
def wsX7_row : List Cond := .code yX7_row cX7_row 4 (some .int) :: ((wsX7_row_r1 ++ wsX7_row_r2) ++ wsX70 ++ wsX50)
def wsX7_set_r1 : List Cond := [Cond.constant RX7 70 (-1000001), Cond.fieldLink RX7 10 "SignDuty" "rows" "LSignDuty$Rows;", Cond.methodLink RX7 62 yX5_isRow, Cond.static yX5_isRow, Cond.initialized RX5, Cond.code yX5_isRow cX5_isRow 1 (some .boolean), Cond.methodLink RX7 82 yX5_findingOf, Cond.instanceMethod yX5_findingOf, Cond.selects RX5 yX5_findingOf yX5_findingOf, Cond.code yX5_findingOf cX5_findingOf 4 (some .int), Cond.methodLink RX5 23 yX5_isMissing, Cond.instanceMethod yX5_isMissing, Cond.selects RX5 yX5_isMissing yX5_isMissing, Cond.code yX5_isMissing cX5_isMissing 2 (some .boolean), Cond.fieldLink RX5 16 "SignDuty$Rows" "lengths" "[I", Cond.methodLink RX5 27 yX5_reaches, Cond.instanceMethod yX5_reaches, Cond.selects RX5 yX5_reaches yX5_reaches, Cond.code yX5_reaches cX5_reaches 4 (some .boolean), Cond.methodLink RX7 71 yX7_found, Cond.instanceMethod yX7_found, Cond.selects RX7 yX7_found yX7_found, Cond.initialized RX7, Cond.code yX7_found cX7_found 2 (some .int)]
def wsX7_set_r2 : List Cond := [Cond.fieldLink RX7 58 "SignDuty" "lastFinding" "I", Cond.constant RX7 283 (-1000010), Cond.methodLink RX7 86 yX5_put, Cond.instanceMethod yX5_put, Cond.selects RX5 yX5_put yX5_put, Cond.code yX5_put cX5_put 4 (some .int), Cond.fieldLink RX5 13 "SignDuty$Rows" "items" "[[I", Cond.fieldLink RX5 20 "SignDuty$Rows" "lanes" "[I", Cond.methodLink RX5 31 yX5_lowestBits, Cond.static yX5_lowestBits, Cond.code yX5_lowestBits cX5_lowestBits 2 (some .int), Cond.methodLink RX7 79 yX7_foundNothing, Cond.instanceMethod yX7_foundNothing, Cond.selects RX7 yX7_foundNothing yX7_foundNothing, Cond.code yX7_foundNothing cX7_foundNothing 2 (some .int)]
def wsX7_set : List Cond := .code yX7_set cX7_set 5 (some .int) :: ((wsX7_set_r1 ++ wsX7_set_r2) ++ wsX70 ++ wsX50)
def wsX7_copy_r1 : List Cond := [Cond.constant RX7 70 (-1000001), Cond.fieldLink RX7 10 "SignDuty" "rows" "LSignDuty$Rows;", Cond.methodLink RX7 62 yX5_isRow, Cond.static yX5_isRow, Cond.initialized RX5, Cond.code yX5_isRow cX5_isRow 1 (some .boolean), Cond.methodLink RX7 89 yX5_isMissing, Cond.instanceMethod yX5_isMissing, Cond.selects RX5 yX5_isMissing yX5_isMissing, Cond.code yX5_isMissing cX5_isMissing 2 (some .boolean), Cond.fieldLink RX5 16 "SignDuty$Rows" "lengths" "[I", Cond.methodLink RX7 71 yX7_found, Cond.instanceMethod yX7_found, Cond.selects RX7 yX7_found yX7_found, Cond.initialized RX7, Cond.code yX7_found cX7_found 2 (some .int), Cond.fieldLink RX7 58 "SignDuty" "lastFinding" "I", Cond.constant RX7 283 (-1000010), Cond.methodLink RX7 92 yX5_areAlike, Cond.instanceMethod yX5_areAlike, Cond.selects RX5 yX5_areAlike yX5_areAlike, Cond.code yX5_areAlike cX5_areAlike 3 (some .boolean), Cond.fieldLink RX5 20 "SignDuty$Rows" "lanes" "[I", Cond.methodLink RX7 96 yX5_reaches]
def wsX7_copy_r2 : List Cond := [Cond.instanceMethod yX5_reaches, Cond.selects RX5 yX5_reaches yX5_reaches, Cond.code yX5_reaches cX5_reaches 4 (some .boolean), Cond.methodLink RX7 99 yX5_carry, Cond.instanceMethod yX5_carry, Cond.selects RX5 yX5_carry yX5_carry, Cond.code yX5_carry cX5_carry 6 none, Cond.fieldLink RX5 13 "SignDuty$Rows" "items" "[[I", Cond.methodLink RX5 35 arraycopyName, Cond.native arraycopyName, Cond.static arraycopyName, Cond.initialized "java/lang/System", Cond.methodLink RX7 79 yX7_foundNothing, Cond.instanceMethod yX7_foundNothing, Cond.selects RX7 yX7_foundNothing yX7_foundNothing, Cond.code yX7_foundNothing cX7_foundNothing 2 (some .int)]
def wsX7_copy : List Cond := .code yX7_copy cX7_copy 6 (some .int) :: ((wsX7_copy_r1 ++ wsX7_copy_r2) ++ wsX70 ++ wsX50)
def wsX7_drop_r1 : List Cond := [Cond.constant RX7 70 (-1000001), Cond.fieldLink RX7 10 "SignDuty" "rows" "LSignDuty$Rows;", Cond.methodLink RX7 62 yX5_isRow, Cond.static yX5_isRow, Cond.initialized RX5, Cond.code yX5_isRow cX5_isRow 1 (some .boolean), Cond.methodLink RX7 89 yX5_isMissing, Cond.instanceMethod yX5_isMissing, Cond.selects RX5 yX5_isMissing yX5_isMissing, Cond.code yX5_isMissing cX5_isMissing 2 (some .boolean), Cond.fieldLink RX5 16 "SignDuty$Rows" "lengths" "[I", Cond.methodLink RX7 71 yX7_found, Cond.instanceMethod yX7_found, Cond.selects RX7 yX7_found yX7_found, Cond.initialized RX7, Cond.code yX7_found cX7_found 2 (some .int), Cond.fieldLink RX7 58 "SignDuty" "lastFinding" "I", Cond.constant RX7 283 (-1000010), Cond.methodLink RX7 103 yX5_takeAway, Cond.instanceMethod yX5_takeAway, Cond.selects RX5 yX5_takeAway yX5_takeAway, Cond.code yX5_takeAway cX5_takeAway 3 (some .int), Cond.methodLink RX7 79 yX7_foundNothing, Cond.instanceMethod yX7_foundNothing]
def wsX7_drop_r2 : List Cond := [Cond.selects RX7 yX7_foundNothing yX7_foundNothing, Cond.code yX7_foundNothing cX7_foundNothing 2 (some .int)]
def wsX7_drop : List Cond := .code yX7_drop cX7_drop 2 (some .int) :: ((wsX7_drop_r1 ++ wsX7_drop_r2) ++ wsX70 ++ wsX50)
def wsX7_feed : List Cond := .code yX7_feed cX7_feed 2 (some .int) :: ([.constant RX7 70 (-1000001), .fieldLink RX7 19 "SignDuty" "reader" "LSignDuty$Reader;", .constant RX7 110 (-1000003), .methodLink RX7 66 yX7_isWithin, .static yX7_isWithin, .initialized RX7, .code yX7_isWithin cX7_isWithin 3 (some .boolean), .methodLink RX7 106 yX4_isFull, .instanceMethod yX4_isFull, .selects RX4 yX4_isFull yX4_isFull, .initialized RX4, .code yX4_isFull cX4_isFull 1 (some .boolean), .fieldLink RX4 15 "SignDuty$Reader" "length" "I", .methodLink RX7 111 yX4_append, .instanceMethod yX4_append, .selects RX4 yX4_append yX4_append, .code yX4_append cX4_append 2 (some .int), .fieldLink RX4 11 "SignDuty$Reader" "tape" "[I", .methodLink RX4 31 yX4_isFull] ++ wsX70 ++ wsX40)
def wsX7_city_r1 : List Cond := [Cond.fieldLink RX7 19 "SignDuty" "reader" "LSignDuty$Reader;", Cond.fieldLink RX7 30 "SignDuty" "draft" "LSignDuty$City;", Cond.constant RX7 118 (-1000100), Cond.fieldLink RX7 119 "SignDuty$Reader" "faultPlace" "I", Cond.fieldLink RX7 26 "SignDuty" "city" "LSignDuty$City;", Cond.fieldLink RX7 40 "SignDuty" "acts" "LSignDuty$Acts;", Cond.fieldLink RX7 129 "SignDuty$City" "gestures" "I", Cond.methodLink RX7 114 yX4_reads, Cond.instanceMethod yX4_reads, Cond.selects RX4 yX4_reads yX4_reads, Cond.initialized RX4, Cond.code yX4_reads cX4_reads 3 (some .boolean), Cond.fieldLink RX4 25 "SignDuty$Reader" "fault" "I", Cond.fieldLink RX4 28 "SignDuty$Reader" "at" "I", Cond.fieldLink RX4 15 "SignDuty$Reader" "length" "I", Cond.methodLink RX4 35 yX4_readLaw, Cond.instanceMethod yX4_readLaw, Cond.selects RX4 yX4_readLaw yX4_readLaw, Cond.code yX4_readLaw cX4_readLaw 2 none, Cond.methodLink RX4 59 yX4_readSign, Cond.instanceMethod yX4_readSign, Cond.selects RX4 yX4_readSign yX4_readSign, Cond.code yX4_readSign cX4_readSign 2 none, Cond.methodLink RX4 39 yX4_next]
def wsX7_city_r2 : List Cond := [Cond.instanceMethod yX4_next, Cond.selects RX4 yX4_next yX4_next, Cond.code yX4_next cX4_next 1 (some .int), Cond.fieldLink RX4 11 "SignDuty$Reader" "tape" "[I", Cond.methodLink RX4 55 yX4_fail, Cond.instanceMethod yX4_fail, Cond.selects RX4 yX4_fail yX4_fail, Cond.code yX4_fail cX4_fail 2 none, Cond.methodLink RX4 102 yX4_failAt, Cond.instanceMethod yX4_failAt, Cond.selects RX4 yX4_failAt yX4_failAt, Cond.code yX4_failAt cX4_failAt 3 none, Cond.fieldLink RX4 19 "SignDuty$Reader" "lastFault" "I", Cond.fieldLink RX4 22 "SignDuty$Reader" "faultPlace" "I", Cond.methodLink RX4 62 yX4_readNumber, Cond.instanceMethod yX4_readNumber, Cond.selects RX4 yX4_readNumber yX4_readNumber, Cond.code yX4_readNumber cX4_readNumber 7 (some .int), Cond.static yX7_isWithin, Cond.initialized RX7, Cond.code yX7_isWithin cX7_isWithin 3 (some .boolean), Cond.methodLink RX4 66 yX2_begin, Cond.instanceMethod yX2_begin, Cond.selects RX2 yX2_begin yX2_begin]
def wsX7_city_r3 : List Cond := [Cond.initialized RX2, Cond.code yX2_begin cX2_begin 2 none, Cond.fieldLink RX2 9 "SignDuty$City" "stands" "Z", Cond.fieldLink RX2 15 "SignDuty$City" "rate" "I", Cond.fieldLink RX2 19 "SignDuty$City" "paid" "I", Cond.fieldLink RX2 22 "SignDuty$City" "streets" "I", Cond.fieldLink RX2 25 "SignDuty$City" "known" "I", Cond.fieldLink RX2 28 "SignDuty$City" "gestures" "I", Cond.methodLink RX4 43 yX4_readStreet, Cond.instanceMethod yX4_readStreet, Cond.selects RX4 yX4_readStreet yX4_readStreet, Cond.code yX4_readStreet cX4_readStreet 3 none, Cond.fieldLink RX4 71 "SignDuty$City" "streets" "I", Cond.fieldLink RX4 74 "SignDuty$City" "dim" "[I", Cond.fieldLink RX4 77 "SignDuty$City" "strict" "[I", Cond.methodLink RX4 46 yX3_ofLetter, Cond.static yX3_ofLetter, Cond.initialized RX3, Cond.code yX3_ofLetter cX3_ofLetter 1 (some .int), Cond.methodLink RX4 52 yX4_readGesture, Cond.instanceMethod yX4_readGesture, Cond.selects RX4 yX4_readGesture yX4_readGesture, Cond.code yX4_readGesture cX4_readGesture 3 none, Cond.fieldLink RX4 80 "SignDuty$City" "gestures" "I"]
def wsX7_city_r4 : List Cond := [Cond.fieldLink RX4 83 "SignDuty$City" "kind" "[I", Cond.fieldLink RX4 86 "SignDuty$City" "inches" "[I", Cond.fieldLink RX4 89 "SignDuty$City" "means" "[I", Cond.fieldLink RX4 92 "SignDuty$City" "takes" "[I", Cond.fieldLink RX4 95 "SignDuty$City" "made" "[I", Cond.methodLink RX7 122 yX2_become, Cond.instanceMethod yX2_become, Cond.selects RX2 yX2_become yX2_become, Cond.code yX2_become cX2_become 2 none, Cond.fieldLink RX2 31 "SignDuty$City" "dim" "[I", Cond.methodLink RX2 53 arraycopyName, Cond.native arraycopyName, Cond.static arraycopyName, Cond.initialized "java/lang/System", Cond.fieldLink RX2 35 "SignDuty$City" "strict" "[I", Cond.fieldLink RX2 38 "SignDuty$City" "kind" "[I", Cond.fieldLink RX2 41 "SignDuty$City" "inches" "[I", Cond.fieldLink RX2 44 "SignDuty$City" "means" "[I", Cond.fieldLink RX2 47 "SignDuty$City" "takes" "[I", Cond.fieldLink RX2 50 "SignDuty$City" "made" "[I", Cond.methodLink RX7 126 yX0_forgetAll, Cond.instanceMethod yX0_forgetAll, Cond.selects RX0 yX0_forgetAll yX0_forgetAll, Cond.initialized RX0]
def wsX7_city_r5 : List Cond := [Cond.code yX0_forgetAll cX0_forgetAll 1 none, Cond.fieldLink RX0 23 "SignDuty$Acts" "kept" "I"]
def wsX7_city : List Cond := .code yX7_city cX7_city 1 (some .int) :: ((wsX7_city_r1 ++ (wsX7_city_r2 ++ (wsX7_city_r3 ++ (wsX7_city_r4 ++ wsX7_city_r5)))) ++ wsX70 ++ wsX40 ++ wsX20 ++ wsX00)
def wsX7_fault : List Cond := .code yX7_fault cX7_fault 1 (some .int) :: ([.fieldLink RX7 19 "SignDuty" "reader" "LSignDuty$Reader;", .fieldLink RX7 132 "SignDuty$Reader" "lastFault" "I"] ++ wsX70 ++ wsX40)
def wsX7_isGesture : List Cond := .code yX7_isGesture cX7_isGesture 2 (some .boolean) :: ([.fieldLink RX7 26 "SignDuty" "city" "LSignDuty$City;", .fieldLink RX7 129 "SignDuty$City" "gestures" "I"] ++ wsX70 ++ wsX20)
def wsX7_isStreet : List Cond := .code yX7_isStreet cX7_isStreet 2 (some .boolean) :: ([.fieldLink RX7 26 "SignDuty" "city" "LSignDuty$City;", .fieldLink RX7 238 "SignDuty$City" "streets" "I"] ++ wsX70 ++ wsX20)
def wsX7_make_r1 : List Cond := [Cond.constant RX7 70 (-1000001), Cond.fieldLink RX7 26 "SignDuty" "city" "LSignDuty$City;", Cond.constant RX7 144 (-1000002), Cond.fieldLink RX7 149 "SignDuty$City" "paid" "I", Cond.constant RX7 152 (99999), Cond.constant RX7 110 (-1000003), Cond.fieldLink RX7 153 "SignDuty$City" "made" "[I", Cond.fieldLink RX7 40 "SignDuty" "acts" "LSignDuty$Acts;", Cond.methodLink RX7 135 yX7_isGesture, Cond.instanceMethod yX7_isGesture, Cond.selects RX7 yX7_isGesture yX7_isGesture, Cond.initialized RX7, Cond.code yX7_isGesture cX7_isGesture 2 (some .boolean), Cond.fieldLink RX7 129 "SignDuty$City" "gestures" "I", Cond.methodLink RX7 138 yX7_isStreet, Cond.instanceMethod yX7_isStreet, Cond.selects RX7 yX7_isStreet yX7_isStreet, Cond.code yX7_isStreet cX7_isStreet 2 (some .boolean), Cond.fieldLink RX7 238 "SignDuty$City" "streets" "I", Cond.methodLink RX7 141 yX2_isSeen, Cond.instanceMethod yX2_isSeen, Cond.selects RX2 yX2_isSeen yX2_isSeen, Cond.initialized RX2, Cond.code yX2_isSeen cX2_isSeen 4 (some .boolean)]
def wsX7_make_r2 : List Cond := [Cond.fieldLink RX2 38 "SignDuty$City" "kind" "[I", Cond.fieldLink RX2 41 "SignDuty$City" "inches" "[I", Cond.fieldLink RX2 31 "SignDuty$City" "dim" "[I", Cond.methodLink RX7 145 yX2_owes, Cond.instanceMethod yX2_owes, Cond.selects RX2 yX2_owes yX2_owes, Cond.code yX2_owes cX2_owes 3 (some .int), Cond.methodLink RX2 59 yX2_owesSuch, Cond.instanceMethod yX2_owesSuch, Cond.selects RX2 yX2_owesSuch yX2_owesSuch, Cond.code yX2_owesSuch cX2_owesSuch 5 (some .int), Cond.methodLink RX2 63 yX2_owesUnknown, Cond.instanceMethod yX2_owesUnknown, Cond.selects RX2 yX2_owesUnknown yX2_owesUnknown, Cond.code yX2_owesUnknown cX2_owesUnknown 5 (some .int), Cond.fieldLink RX2 15 "SignDuty$City" "rate" "I", Cond.fieldLink RX2 35 "SignDuty$City" "strict" "[I", Cond.methodLink RX2 70 Lib.Math.max.name, Cond.static Lib.Math.max.name, Cond.initialized "java/lang/Math", Cond.code Lib.Math.max.name Lib.Math.max.code 2 (some .int), Cond.methodLink RX2 66 yX2_isKnown, Cond.instanceMethod yX2_isKnown, Cond.selects RX2 yX2_isKnown yX2_isKnown]
def wsX7_make_r3 : List Cond := [Cond.code yX2_isKnown cX2_isKnown 2 (some .boolean), Cond.fieldLink RX2 25 "SignDuty$City" "known" "I", Cond.methodLink RX7 157 yX0_keep, Cond.instanceMethod yX0_keep, Cond.selects RX0 yX0_keep yX0_keep, Cond.initialized RX0, Cond.code yX0_keep cX0_keep 4 none, Cond.fieldLink RX0 9 "SignDuty$Acts" "deeds" "[I", Cond.fieldLink RX0 19 "SignDuty$Acts" "nextSlot" "I", Cond.fieldLink RX0 13 "SignDuty$Acts" "whats" "[I", Cond.fieldLink RX0 16 "SignDuty$Acts" "values" "[I", Cond.fieldLink RX0 23 "SignDuty$Acts" "kept" "I", Cond.methodLink RX0 26 Lib.Math.min.name, Cond.static Lib.Math.min.name, Cond.code Lib.Math.min.name Lib.Math.min.code 2 (some .int)]
def wsX7_make : List Cond := .code yX7_make cX7_make 4 (some .int) :: ((wsX7_make_r1 ++ (wsX7_make_r2 ++ wsX7_make_r3)) ++ wsX70 ++ wsX20 ++ wsX00)
def wsX7_dim_r1 : List Cond := [Cond.constant RX7 70 (-1000001), Cond.fieldLink RX7 26 "SignDuty" "city" "LSignDuty$City;", Cond.fieldLink RX7 160 "SignDuty$City" "dim" "[I", Cond.fieldLink RX7 40 "SignDuty" "acts" "LSignDuty$Acts;", Cond.methodLink RX7 138 yX7_isStreet, Cond.instanceMethod yX7_isStreet, Cond.selects RX7 yX7_isStreet yX7_isStreet, Cond.initialized RX7, Cond.code yX7_isStreet cX7_isStreet 2 (some .boolean), Cond.fieldLink RX7 238 "SignDuty$City" "streets" "I", Cond.methodLink RX7 66 yX7_isWithin, Cond.static yX7_isWithin, Cond.code yX7_isWithin cX7_isWithin 3 (some .boolean), Cond.methodLink RX7 157 yX0_keep, Cond.instanceMethod yX0_keep, Cond.selects RX0 yX0_keep yX0_keep, Cond.initialized RX0, Cond.code yX0_keep cX0_keep 4 none, Cond.fieldLink RX0 9 "SignDuty$Acts" "deeds" "[I", Cond.fieldLink RX0 19 "SignDuty$Acts" "nextSlot" "I", Cond.fieldLink RX0 13 "SignDuty$Acts" "whats" "[I", Cond.fieldLink RX0 16 "SignDuty$Acts" "values" "[I", Cond.fieldLink RX0 23 "SignDuty$Acts" "kept" "I", Cond.methodLink RX0 26 Lib.Math.min.name]
def wsX7_dim_r2 : List Cond := [Cond.static Lib.Math.min.name, Cond.initialized "java/lang/Math", Cond.code Lib.Math.min.name Lib.Math.min.code 2 (some .int)]
def wsX7_dim : List Cond := .code yX7_dim cX7_dim 4 (some .int) :: ((wsX7_dim_r1 ++ wsX7_dim_r2) ++ wsX70 ++ wsX20 ++ wsX00)
def wsX7_train_r1 : List Cond := [Cond.constant RX7 70 (-1000001), Cond.fieldLink RX7 26 "SignDuty" "city" "LSignDuty$City;", Cond.fieldLink RX7 163 "SignDuty$City" "inches" "[I", Cond.constant RX7 144 (-1000002), Cond.fieldLink RX7 40 "SignDuty" "acts" "LSignDuty$Acts;", Cond.methodLink RX7 135 yX7_isGesture, Cond.instanceMethod yX7_isGesture, Cond.selects RX7 yX7_isGesture yX7_isGesture, Cond.initialized RX7, Cond.code yX7_isGesture cX7_isGesture 2 (some .boolean), Cond.fieldLink RX7 129 "SignDuty$City" "gestures" "I", Cond.methodLink RX7 66 yX7_isWithin, Cond.static yX7_isWithin, Cond.code yX7_isWithin cX7_isWithin 3 (some .boolean), Cond.methodLink RX7 157 yX0_keep, Cond.instanceMethod yX0_keep, Cond.selects RX0 yX0_keep yX0_keep, Cond.initialized RX0, Cond.code yX0_keep cX0_keep 4 none, Cond.fieldLink RX0 9 "SignDuty$Acts" "deeds" "[I", Cond.fieldLink RX0 19 "SignDuty$Acts" "nextSlot" "I", Cond.fieldLink RX0 13 "SignDuty$Acts" "whats" "[I", Cond.fieldLink RX0 16 "SignDuty$Acts" "values" "[I", Cond.fieldLink RX0 23 "SignDuty$Acts" "kept" "I"]
def wsX7_train_r2 : List Cond := [Cond.methodLink RX0 26 Lib.Math.min.name, Cond.static Lib.Math.min.name, Cond.initialized "java/lang/Math", Cond.code Lib.Math.min.name Lib.Math.min.code 2 (some .int)]
def wsX7_train : List Cond := .code yX7_train cX7_train 3 (some .int) :: ((wsX7_train_r1 ++ wsX7_train_r2) ++ wsX70 ++ wsX20 ++ wsX00)
def wsX7_know_r1 : List Cond := [Cond.constant RX7 70 (-1000001), Cond.fieldLink RX7 26 "SignDuty" "city" "LSignDuty$City;", Cond.constant RX7 144 (-1000002), Cond.fieldLink RX7 40 "SignDuty" "acts" "LSignDuty$Acts;", Cond.fieldLink RX7 173 "SignDuty$City" "known" "I", Cond.methodLink RX7 138 yX7_isStreet, Cond.instanceMethod yX7_isStreet, Cond.selects RX7 yX7_isStreet yX7_isStreet, Cond.initialized RX7, Cond.code yX7_isStreet cX7_isStreet 2 (some .boolean), Cond.fieldLink RX7 238 "SignDuty$City" "streets" "I", Cond.methodLink RX7 66 yX7_isWithin, Cond.static yX7_isWithin, Cond.code yX7_isWithin cX7_isWithin 3 (some .boolean), Cond.methodLink RX7 166 yX2_isKnown, Cond.instanceMethod yX2_isKnown, Cond.selects RX2 yX2_isKnown yX2_isKnown, Cond.initialized RX2, Cond.code yX2_isKnown cX2_isKnown 2 (some .boolean), Cond.fieldLink RX2 25 "SignDuty$City" "known" "I", Cond.methodLink RX7 169 yX2_turnKnown, Cond.instanceMethod yX2_turnKnown, Cond.selects RX2 yX2_turnKnown yX2_turnKnown, Cond.code yX2_turnKnown cX2_turnKnown 2 none]
def wsX7_know_r2 : List Cond := [Cond.methodLink RX7 157 yX0_keep, Cond.instanceMethod yX0_keep, Cond.selects RX0 yX0_keep yX0_keep, Cond.initialized RX0, Cond.code yX0_keep cX0_keep 4 none, Cond.fieldLink RX0 9 "SignDuty$Acts" "deeds" "[I", Cond.fieldLink RX0 19 "SignDuty$Acts" "nextSlot" "I", Cond.fieldLink RX0 13 "SignDuty$Acts" "whats" "[I", Cond.fieldLink RX0 16 "SignDuty$Acts" "values" "[I", Cond.fieldLink RX0 23 "SignDuty$Acts" "kept" "I", Cond.methodLink RX0 26 Lib.Math.min.name, Cond.static Lib.Math.min.name, Cond.initialized "java/lang/Math", Cond.code Lib.Math.min.name Lib.Math.min.code 2 (some .int)]
def wsX7_know : List Cond := .code yX7_know cX7_know 3 (some .int) :: ((wsX7_know_r1 ++ wsX7_know_r2) ++ wsX70 ++ wsX20 ++ wsX00)
def wsX7_undo : List Cond := .code yX7_undo cX7_undo 1 (some .int) :: ([.fieldLink RX7 40 "SignDuty" "acts" "LSignDuty$Acts;", .fieldLink RX7 176 "SignDuty$Acts" "kept" "I", .constant RX7 144 (-1000002), .fieldLink RX7 26 "SignDuty" "city" "LSignDuty$City;", .methodLink RX7 179 yX0_takeBack, .instanceMethod yX0_takeBack, .selects RX0 yX0_takeBack yX0_takeBack, .initialized RX0, .code yX0_takeBack cX0_takeBack 4 none, .fieldLink RX0 19 "SignDuty$Acts" "nextSlot" "I", .fieldLink RX0 23 "SignDuty$Acts" "kept" "I", .fieldLink RX0 13 "SignDuty$Acts" "whats" "[I", .fieldLink RX0 16 "SignDuty$Acts" "values" "[I", .fieldLink RX0 9 "SignDuty$Acts" "deeds" "[I", .fieldLink RX0 32 "SignDuty$City" "made" "[I", .fieldLink RX0 37 "SignDuty$City" "paid" "I", .fieldLink RX0 40 "SignDuty$City" "dim" "[I", .fieldLink RX0 43 "SignDuty$City" "inches" "[I", .methodLink RX0 46 yX2_turnKnown, .instanceMethod yX2_turnKnown, .selects RX2 yX2_turnKnown yX2_turnKnown, .initialized RX2, .code yX2_turnKnown cX2_turnKnown 2 none, .fieldLink RX2 25 "SignDuty$City" "known" "I"] ++ wsX70 ++ wsX00 ++ wsX20)
def wsX7_gesture_r1 : List Cond := [Cond.constant RX7 70 (-1000001), Cond.fieldLink RX7 26 "SignDuty" "city" "LSignDuty$City;", Cond.fieldLink RX7 163 "SignDuty$City" "inches" "[I", Cond.fieldLink RX7 182 "SignDuty$City" "means" "[I", Cond.fieldLink RX7 185 "SignDuty$City" "takes" "[I", Cond.fieldLink RX7 153 "SignDuty$City" "made" "[I", Cond.methodLink RX7 135 yX7_isGesture, Cond.instanceMethod yX7_isGesture, Cond.selects RX7 yX7_isGesture yX7_isGesture, Cond.initialized RX7, Cond.code yX7_isGesture cX7_isGesture 2 (some .boolean), Cond.fieldLink RX7 129 "SignDuty$City" "gestures" "I", Cond.methodLink RX7 188 yX2_streetsThatSee, Cond.instanceMethod yX2_streetsThatSee, Cond.selects RX2 yX2_streetsThatSee yX2_streetsThatSee, Cond.initialized RX2, Cond.code yX2_streetsThatSee cX2_streetsThatSee 4 (some .int), Cond.fieldLink RX2 22 "SignDuty$City" "streets" "I", Cond.methodLink RX2 78 yX2_isSeen, Cond.instanceMethod yX2_isSeen, Cond.selects RX2 yX2_isSeen yX2_isSeen, Cond.code yX2_isSeen cX2_isSeen 4 (some .boolean), Cond.fieldLink RX2 38 "SignDuty$City" "kind" "[I", Cond.fieldLink RX2 41 "SignDuty$City" "inches" "[I"]
def wsX7_gesture_r2 : List Cond := [Cond.fieldLink RX2 31 "SignDuty$City" "dim" "[I"]
def wsX7_gesture : List Cond := .code yX7_gesture cX7_gesture 3 (some .int) :: ((wsX7_gesture_r1 ++ wsX7_gesture_r2) ++ wsX70 ++ wsX20)
def wsX7_street_r1 : List Cond := [Cond.constant RX7 70 (-1000001), Cond.fieldLink RX7 26 "SignDuty" "city" "LSignDuty$City;", Cond.fieldLink RX7 160 "SignDuty$City" "dim" "[I", Cond.fieldLink RX7 191 "SignDuty$City" "strict" "[I", Cond.methodLink RX7 138 yX7_isStreet, Cond.instanceMethod yX7_isStreet, Cond.selects RX7 yX7_isStreet yX7_isStreet, Cond.initialized RX7, Cond.code yX7_isStreet cX7_isStreet 2 (some .boolean), Cond.fieldLink RX7 238 "SignDuty$City" "streets" "I", Cond.methodLink RX7 166 yX2_isKnown, Cond.instanceMethod yX2_isKnown, Cond.selects RX2 yX2_isKnown yX2_isKnown, Cond.initialized RX2, Cond.code yX2_isKnown cX2_isKnown 2 (some .boolean), Cond.fieldLink RX2 25 "SignDuty$City" "known" "I", Cond.methodLink RX7 194 yX2_gesturesSeenIn, Cond.instanceMethod yX2_gesturesSeenIn, Cond.selects RX2 yX2_gesturesSeenIn yX2_gesturesSeenIn, Cond.code yX2_gesturesSeenIn cX2_gesturesSeenIn 4 (some .int), Cond.fieldLink RX2 28 "SignDuty$City" "gestures" "I", Cond.methodLink RX2 78 yX2_isSeen, Cond.instanceMethod yX2_isSeen, Cond.selects RX2 yX2_isSeen yX2_isSeen]
def wsX7_street_r2 : List Cond := [Cond.code yX2_isSeen cX2_isSeen 4 (some .boolean), Cond.fieldLink RX2 38 "SignDuty$City" "kind" "[I", Cond.fieldLink RX2 41 "SignDuty$City" "inches" "[I", Cond.fieldLink RX2 31 "SignDuty$City" "dim" "[I"]
def wsX7_street : List Cond := .code yX7_street cX7_street 3 (some .int) :: ((wsX7_street_r1 ++ wsX7_street_r2) ++ wsX70 ++ wsX20)
def wsX7_duty_r1 : List Cond := [Cond.fieldLink RX7 26 "SignDuty" "city" "LSignDuty$City;", Cond.constant RX7 70 (-1000001), Cond.methodLink RX7 135 yX7_isGesture, Cond.instanceMethod yX7_isGesture, Cond.selects RX7 yX7_isGesture yX7_isGesture, Cond.initialized RX7, Cond.code yX7_isGesture cX7_isGesture 2 (some .boolean), Cond.fieldLink RX7 129 "SignDuty$City" "gestures" "I", Cond.methodLink RX7 138 yX7_isStreet, Cond.instanceMethod yX7_isStreet, Cond.selects RX7 yX7_isStreet yX7_isStreet, Cond.code yX7_isStreet cX7_isStreet 2 (some .boolean), Cond.fieldLink RX7 238 "SignDuty$City" "streets" "I", Cond.methodLink RX7 145 yX2_owes, Cond.instanceMethod yX2_owes, Cond.selects RX2 yX2_owes yX2_owes, Cond.initialized RX2, Cond.code yX2_owes cX2_owes 3 (some .int), Cond.fieldLink RX2 38 "SignDuty$City" "kind" "[I", Cond.fieldLink RX2 41 "SignDuty$City" "inches" "[I", Cond.methodLink RX2 59 yX2_owesSuch, Cond.instanceMethod yX2_owesSuch, Cond.selects RX2 yX2_owesSuch yX2_owesSuch, Cond.code yX2_owesSuch cX2_owesSuch 5 (some .int)]
def wsX7_duty_r2 : List Cond := [Cond.methodLink RX2 63 yX2_owesUnknown, Cond.instanceMethod yX2_owesUnknown, Cond.selects RX2 yX2_owesUnknown yX2_owesUnknown, Cond.code yX2_owesUnknown cX2_owesUnknown 5 (some .int), Cond.fieldLink RX2 15 "SignDuty$City" "rate" "I", Cond.fieldLink RX2 35 "SignDuty$City" "strict" "[I", Cond.methodLink RX2 70 Lib.Math.max.name, Cond.static Lib.Math.max.name, Cond.initialized "java/lang/Math", Cond.code Lib.Math.max.name Lib.Math.max.code 2 (some .int), Cond.methodLink RX2 66 yX2_isKnown, Cond.instanceMethod yX2_isKnown, Cond.selects RX2 yX2_isKnown yX2_isKnown, Cond.code yX2_isKnown cX2_isKnown 2 (some .boolean), Cond.fieldLink RX2 25 "SignDuty$City" "known" "I"]
def wsX7_duty : List Cond := .code yX7_duty cX7_duty 3 (some .int) :: ((wsX7_duty_r1 ++ wsX7_duty_r2) ++ wsX70 ++ wsX20)
def wsX7_isMeaning : List Cond := .code yX7_isMeaning cX7_isMeaning 1 (some .boolean) :: ([.methodLink RX7 66 yX7_isWithin, .static yX7_isWithin, .initialized RX7, .code yX7_isWithin cX7_isWithin 3 (some .boolean)])
def wsX7_isStretch : List Cond := .code yX7_isStretch cX7_isStretch 3 (some .boolean) :: ([.methodLink RX7 138 yX7_isStreet, .instanceMethod yX7_isStreet, .selects RX7 yX7_isStreet yX7_isStreet, .initialized RX7, .code yX7_isStreet cX7_isStreet 2 (some .boolean), .fieldLink RX7 26 "SignDuty" "city" "LSignDuty$City;", .fieldLink RX7 238 "SignDuty$City" "streets" "I"] ++ wsX70 ++ wsX20)
def wsX7_tell_r1 : List Cond := [Cond.constant RX7 70 (-1000001), Cond.fieldLink RX7 47 "SignDuty" "teller" "LSignDuty$Teller;", Cond.fieldLink RX7 26 "SignDuty" "city" "LSignDuty$City;", Cond.methodLink RX7 197 yX7_isMeaning, Cond.static yX7_isMeaning, Cond.initialized RX7, Cond.code yX7_isMeaning cX7_isMeaning 1 (some .boolean), Cond.methodLink RX7 66 yX7_isWithin, Cond.static yX7_isWithin, Cond.code yX7_isWithin cX7_isWithin 3 (some .boolean), Cond.methodLink RX7 200 yX7_isStretch, Cond.instanceMethod yX7_isStretch, Cond.selects RX7 yX7_isStretch yX7_isStretch, Cond.code yX7_isStretch cX7_isStretch 3 (some .boolean), Cond.methodLink RX7 138 yX7_isStreet, Cond.instanceMethod yX7_isStreet, Cond.selects RX7 yX7_isStreet yX7_isStreet, Cond.code yX7_isStreet cX7_isStreet 2 (some .boolean), Cond.fieldLink RX7 238 "SignDuty$City" "streets" "I", Cond.methodLink RX7 203 yX6_leastDuty, Cond.instanceMethod yX6_leastDuty, Cond.selects RX6 yX6_leastDuty yX6_leastDuty, Cond.initialized RX6, Cond.code yX6_leastDuty cX6_leastDuty 6 (some .int)]
def wsX7_tell_r2 : List Cond := [Cond.fieldLink RX6 11 "SignDuty$Teller" "least" "[[I", Cond.constant RX6 20 (1000000), Cond.constant RX6 21 (-1000000), Cond.methodLink RX6 16 yX6_fill, Cond.instanceMethod yX6_fill, Cond.selects RX6 yX6_fill yX6_fill, Cond.code yX6_fill cX6_fill 8 none, Cond.fieldLink RX6 32 "SignDuty$City" "gestures" "I", Cond.fieldLink RX6 26 "SignDuty$City" "takes" "[I", Cond.methodLink RX6 36 yX2_tells, Cond.instanceMethod yX2_tells, Cond.selects RX2 yX2_tells yX2_tells, Cond.initialized RX2, Cond.code yX2_tells cX2_tells 4 (some .boolean), Cond.fieldLink RX2 44 "SignDuty$City" "means" "[I", Cond.methodLink RX2 78 yX2_isSeen, Cond.instanceMethod yX2_isSeen, Cond.selects RX2 yX2_isSeen yX2_isSeen, Cond.code yX2_isSeen cX2_isSeen 4 (some .boolean), Cond.fieldLink RX2 38 "SignDuty$City" "kind" "[I", Cond.fieldLink RX2 41 "SignDuty$City" "inches" "[I", Cond.fieldLink RX2 31 "SignDuty$City" "dim" "[I", Cond.methodLink RX6 40 yX2_owes, Cond.instanceMethod yX2_owes]
def wsX7_tell_r3 : List Cond := [Cond.selects RX2 yX2_owes yX2_owes, Cond.code yX2_owes cX2_owes 3 (some .int), Cond.methodLink RX2 59 yX2_owesSuch, Cond.instanceMethod yX2_owesSuch, Cond.selects RX2 yX2_owesSuch yX2_owesSuch, Cond.code yX2_owesSuch cX2_owesSuch 5 (some .int), Cond.methodLink RX2 63 yX2_owesUnknown, Cond.instanceMethod yX2_owesUnknown, Cond.selects RX2 yX2_owesUnknown yX2_owesUnknown, Cond.code yX2_owesUnknown cX2_owesUnknown 5 (some .int), Cond.fieldLink RX2 15 "SignDuty$City" "rate" "I", Cond.fieldLink RX2 35 "SignDuty$City" "strict" "[I", Cond.methodLink RX2 70 Lib.Math.max.name, Cond.static Lib.Math.max.name, Cond.initialized "java/lang/Math", Cond.code Lib.Math.max.name Lib.Math.max.code 2 (some .int), Cond.methodLink RX2 66 yX2_isKnown, Cond.instanceMethod yX2_isKnown, Cond.selects RX2 yX2_isKnown yX2_isKnown, Cond.code yX2_isKnown cX2_isKnown 2 (some .boolean), Cond.fieldLink RX2 25 "SignDuty$City" "known" "I", Cond.methodLink RX6 44 yX6_offer, Cond.instanceMethod yX6_offer, Cond.selects RX6 yX6_offer yX6_offer]
def wsX7_tell_r4 : List Cond := [Cond.code yX6_offer cX6_offer 6 none, Cond.methodLink RX6 48 Lib.Math.min.name, Cond.static Lib.Math.min.name, Cond.code Lib.Math.min.name Lib.Math.min.code 2 (some .int), Cond.methodLink RX7 207 yX6_gestureOfCheapest, Cond.instanceMethod yX6_gestureOfCheapest, Cond.selects RX6 yX6_gestureOfCheapest yX6_gestureOfCheapest, Cond.code yX6_gestureOfCheapest cX6_gestureOfCheapest 10 (some .int), Cond.methodLink RX6 22 yX6_firstOfCheapest, Cond.instanceMethod yX6_firstOfCheapest, Cond.selects RX6 yX6_firstOfCheapest yX6_firstOfCheapest, Cond.code yX6_firstOfCheapest cX6_firstOfCheapest 7 (some .int)]
def wsX7_tell : List Cond := .code yX7_tell cX7_tell 6 (some .int) :: ((wsX7_tell_r1 ++ (wsX7_tell_r2 ++ (wsX7_tell_r3 ++ wsX7_tell_r4))) ++ wsX70 ++ wsX20 ++ wsX60)
def wsX7_shut_r1 : List Cond := [Cond.fieldLink RX7 26 "SignDuty" "city" "LSignDuty$City;", Cond.fieldLink RX7 211 "SignDuty$City" "stands" "Z", Cond.constant RX7 144 (-1000002), Cond.constant RX7 70 (-1000001), Cond.methodLink RX7 197 yX7_isMeaning, Cond.static yX7_isMeaning, Cond.initialized RX7, Cond.code yX7_isMeaning cX7_isMeaning 1 (some .boolean), Cond.methodLink RX7 66 yX7_isWithin, Cond.static yX7_isWithin, Cond.code yX7_isWithin cX7_isWithin 3 (some .boolean), Cond.methodLink RX7 215 yX2_streetsWithout, Cond.instanceMethod yX2_streetsWithout, Cond.selects RX2 yX2_streetsWithout yX2_streetsWithout, Cond.initialized RX2, Cond.code yX2_streetsWithout cX2_streetsWithout 4 (some .int), Cond.fieldLink RX2 22 "SignDuty$City" "streets" "I", Cond.constant RX2 85 (-1000000), Cond.methodLink RX2 82 yX2_leastTime, Cond.instanceMethod yX2_leastTime, Cond.selects RX2 yX2_leastTime yX2_leastTime, Cond.code yX2_leastTime cX2_leastTime 5 (some .int), Cond.fieldLink RX2 28 "SignDuty$City" "gestures" "I", Cond.fieldLink RX2 47 "SignDuty$City" "takes" "[I"]
def wsX7_shut_r2 : List Cond := [Cond.methodLink RX2 86 yX2_tells, Cond.instanceMethod yX2_tells, Cond.selects RX2 yX2_tells yX2_tells, Cond.code yX2_tells cX2_tells 4 (some .boolean), Cond.fieldLink RX2 44 "SignDuty$City" "means" "[I", Cond.methodLink RX2 78 yX2_isSeen, Cond.instanceMethod yX2_isSeen, Cond.selects RX2 yX2_isSeen yX2_isSeen, Cond.code yX2_isSeen cX2_isSeen 4 (some .boolean), Cond.fieldLink RX2 38 "SignDuty$City" "kind" "[I", Cond.fieldLink RX2 41 "SignDuty$City" "inches" "[I", Cond.fieldLink RX2 31 "SignDuty$City" "dim" "[I"]
def wsX7_shut : List Cond := .code yX7_shut cX7_shut 2 (some .int) :: ((wsX7_shut_r1 ++ wsX7_shut_r2) ++ wsX70 ++ wsX20)
def wsX7_quick_r1 : List Cond := [Cond.constant RX7 70 (-1000001), Cond.fieldLink RX7 26 "SignDuty" "city" "LSignDuty$City;", Cond.constant RX7 221 (-1000000), Cond.methodLink RX7 197 yX7_isMeaning, Cond.static yX7_isMeaning, Cond.initialized RX7, Cond.code yX7_isMeaning cX7_isMeaning 1 (some .boolean), Cond.methodLink RX7 66 yX7_isWithin, Cond.static yX7_isWithin, Cond.code yX7_isWithin cX7_isWithin 3 (some .boolean), Cond.methodLink RX7 200 yX7_isStretch, Cond.instanceMethod yX7_isStretch, Cond.selects RX7 yX7_isStretch yX7_isStretch, Cond.code yX7_isStretch cX7_isStretch 3 (some .boolean), Cond.methodLink RX7 138 yX7_isStreet, Cond.instanceMethod yX7_isStreet, Cond.selects RX7 yX7_isStreet yX7_isStreet, Cond.code yX7_isStreet cX7_isStreet 2 (some .boolean), Cond.fieldLink RX7 238 "SignDuty$City" "streets" "I", Cond.methodLink RX7 218 yX2_leastTime, Cond.instanceMethod yX2_leastTime, Cond.selects RX2 yX2_leastTime yX2_leastTime, Cond.initialized RX2, Cond.code yX2_leastTime cX2_leastTime 5 (some .int)]
def wsX7_quick_r2 : List Cond := [Cond.constant RX2 85 (-1000000), Cond.fieldLink RX2 28 "SignDuty$City" "gestures" "I", Cond.fieldLink RX2 47 "SignDuty$City" "takes" "[I", Cond.methodLink RX2 86 yX2_tells, Cond.instanceMethod yX2_tells, Cond.selects RX2 yX2_tells yX2_tells, Cond.code yX2_tells cX2_tells 4 (some .boolean), Cond.fieldLink RX2 44 "SignDuty$City" "means" "[I", Cond.methodLink RX2 78 yX2_isSeen, Cond.instanceMethod yX2_isSeen, Cond.selects RX2 yX2_isSeen yX2_isSeen, Cond.code yX2_isSeen cX2_isSeen 4 (some .boolean), Cond.fieldLink RX2 38 "SignDuty$City" "kind" "[I", Cond.fieldLink RX2 41 "SignDuty$City" "inches" "[I", Cond.fieldLink RX2 31 "SignDuty$City" "dim" "[I"]
def wsX7_quick : List Cond := .code yX7_quick cX7_quick 7 (some .int) :: ((wsX7_quick_r1 ++ wsX7_quick_r2) ++ wsX70 ++ wsX20)
def wsX7_refusalOfThread_r1 : List Cond := [Cond.constant RX7 70 (-1000001), Cond.fieldLink RX7 10 "SignDuty" "rows" "LSignDuty$Rows;", Cond.methodLink RX7 62 yX5_isRow, Cond.static yX5_isRow, Cond.initialized RX5, Cond.code yX5_isRow cX5_isRow 1 (some .boolean), Cond.methodLink RX7 66 yX7_isWithin, Cond.static yX7_isWithin, Cond.initialized RX7, Cond.code yX7_isWithin cX7_isWithin 3 (some .boolean), Cond.methodLink RX7 82 yX5_findingOf, Cond.instanceMethod yX5_findingOf, Cond.selects RX5 yX5_findingOf yX5_findingOf, Cond.code yX5_findingOf cX5_findingOf 4 (some .int), Cond.methodLink RX5 23 yX5_isMissing, Cond.instanceMethod yX5_isMissing, Cond.selects RX5 yX5_isMissing yX5_isMissing, Cond.code yX5_isMissing cX5_isMissing 2 (some .boolean), Cond.fieldLink RX5 16 "SignDuty$Rows" "lengths" "[I", Cond.methodLink RX5 27 yX5_reaches, Cond.instanceMethod yX5_reaches, Cond.selects RX5 yX5_reaches yX5_reaches, Cond.code yX5_reaches cX5_reaches 4 (some .boolean), Cond.methodLink RX7 71 yX7_found]
def wsX7_refusalOfThread_r2 : List Cond := [Cond.instanceMethod yX7_found, Cond.selects RX7 yX7_found yX7_found, Cond.code yX7_found cX7_found 2 (some .int), Cond.fieldLink RX7 58 "SignDuty" "lastFinding" "I", Cond.constant RX7 283 (-1000010), Cond.methodLink RX7 284 yX5_at, Cond.instanceMethod yX5_at, Cond.selects RX5 yX5_at yX5_at, Cond.code yX5_at cX5_at 3 (some .int), Cond.fieldLink RX5 13 "SignDuty$Rows" "items" "[[I", Cond.methodLink RX7 138 yX7_isStreet, Cond.instanceMethod yX7_isStreet, Cond.selects RX7 yX7_isStreet yX7_isStreet, Cond.code yX7_isStreet cX7_isStreet 2 (some .boolean), Cond.fieldLink RX7 26 "SignDuty" "city" "LSignDuty$City;", Cond.fieldLink RX7 238 "SignDuty$City" "streets" "I"]
def wsX7_refusalOfThread : List Cond := .code yX7_refusalOfThread cX7_refusalOfThread 6 (some .int) :: ((wsX7_refusalOfThread_r1 ++ wsX7_refusalOfThread_r2) ++ wsX70 ++ wsX50 ++ wsX20)
def wsX7_owesAlong_r1 : List Cond := [Cond.fieldLink RX7 10 "SignDuty" "rows" "LSignDuty$Rows;", Cond.fieldLink RX7 26 "SignDuty" "city" "LSignDuty$City;", Cond.methodLink RX7 284 yX5_at, Cond.instanceMethod yX5_at, Cond.selects RX5 yX5_at yX5_at, Cond.initialized RX5, Cond.code yX5_at cX5_at 3 (some .int), Cond.fieldLink RX5 13 "SignDuty$Rows" "items" "[[I", Cond.methodLink RX7 138 yX7_isStreet, Cond.instanceMethod yX7_isStreet, Cond.selects RX7 yX7_isStreet yX7_isStreet, Cond.initialized RX7, Cond.code yX7_isStreet cX7_isStreet 2 (some .boolean), Cond.fieldLink RX7 238 "SignDuty$City" "streets" "I", Cond.methodLink RX7 287 yX2_owesSuch, Cond.instanceMethod yX2_owesSuch, Cond.selects RX2 yX2_owesSuch yX2_owesSuch, Cond.initialized RX2, Cond.code yX2_owesSuch cX2_owesSuch 5 (some .int), Cond.methodLink RX2 63 yX2_owesUnknown, Cond.instanceMethod yX2_owesUnknown, Cond.selects RX2 yX2_owesUnknown yX2_owesUnknown, Cond.code yX2_owesUnknown cX2_owesUnknown 5 (some .int), Cond.fieldLink RX2 15 "SignDuty$City" "rate" "I"]
def wsX7_owesAlong_r2 : List Cond := [Cond.fieldLink RX2 35 "SignDuty$City" "strict" "[I", Cond.methodLink RX2 70 Lib.Math.max.name, Cond.static Lib.Math.max.name, Cond.initialized "java/lang/Math", Cond.code Lib.Math.max.name Lib.Math.max.code 2 (some .int), Cond.methodLink RX2 66 yX2_isKnown, Cond.instanceMethod yX2_isKnown, Cond.selects RX2 yX2_isKnown yX2_isKnown, Cond.code yX2_isKnown cX2_isKnown 2 (some .boolean), Cond.fieldLink RX2 25 "SignDuty$City" "known" "I"]
def wsX7_owesAlong : List Cond := .code yX7_owesAlong cX7_owesAlong 9 (some .boolean) :: ((wsX7_owesAlong_r1 ++ wsX7_owesAlong_r2) ++ wsX70 ++ wsX50 ++ wsX20)
def wsX7_isSeenAlong : List Cond := .code yX7_isSeenAlong cX7_isSeenAlong 7 (some .boolean) :: ([.fieldLink RX7 10 "SignDuty" "rows" "LSignDuty$Rows;", .fieldLink RX7 26 "SignDuty" "city" "LSignDuty$City;", .methodLink RX7 284 yX5_at, .instanceMethod yX5_at, .selects RX5 yX5_at yX5_at, .initialized RX5, .code yX5_at cX5_at 3 (some .int), .fieldLink RX5 13 "SignDuty$Rows" "items" "[[I", .methodLink RX7 138 yX7_isStreet, .instanceMethod yX7_isStreet, .selects RX7 yX7_isStreet yX7_isStreet, .initialized RX7, .code yX7_isStreet cX7_isStreet 2 (some .boolean), .fieldLink RX7 238 "SignDuty$City" "streets" "I", .methodLink RX7 141 yX2_isSeen, .instanceMethod yX2_isSeen, .selects RX2 yX2_isSeen yX2_isSeen, .initialized RX2, .code yX2_isSeen cX2_isSeen 4 (some .boolean), .fieldLink RX2 38 "SignDuty$City" "kind" "[I", .fieldLink RX2 41 "SignDuty$City" "inches" "[I", .fieldLink RX2 31 "SignDuty$City" "dim" "[I"] ++ wsX70 ++ wsX50 ++ wsX20)
def wsX7_thread_r1 : List Cond := [Cond.fieldLink RX7 26 "SignDuty" "city" "LSignDuty$City;", Cond.fieldLink RX7 211 "SignDuty$City" "stands" "Z", Cond.constant RX7 144 (-1000002), Cond.fieldLink RX7 129 "SignDuty$City" "gestures" "I", Cond.fieldLink RX7 225 "SignDuty$City" "kind" "[I", Cond.fieldLink RX7 163 "SignDuty$City" "inches" "[I", Cond.methodLink RX7 222 yX7_refusalOfThread, Cond.instanceMethod yX7_refusalOfThread, Cond.selects RX7 yX7_refusalOfThread yX7_refusalOfThread, Cond.initialized RX7, Cond.code yX7_refusalOfThread cX7_refusalOfThread 6 (some .int), Cond.constant RX7 70 (-1000001), Cond.fieldLink RX7 10 "SignDuty" "rows" "LSignDuty$Rows;", Cond.methodLink RX7 62 yX5_isRow, Cond.static yX5_isRow, Cond.initialized RX5, Cond.code yX5_isRow cX5_isRow 1 (some .boolean), Cond.methodLink RX7 66 yX7_isWithin, Cond.static yX7_isWithin, Cond.code yX7_isWithin cX7_isWithin 3 (some .boolean), Cond.methodLink RX7 82 yX5_findingOf, Cond.instanceMethod yX5_findingOf, Cond.selects RX5 yX5_findingOf yX5_findingOf, Cond.code yX5_findingOf cX5_findingOf 4 (some .int)]
def wsX7_thread_r2 : List Cond := [Cond.methodLink RX5 23 yX5_isMissing, Cond.instanceMethod yX5_isMissing, Cond.selects RX5 yX5_isMissing yX5_isMissing, Cond.code yX5_isMissing cX5_isMissing 2 (some .boolean), Cond.fieldLink RX5 16 "SignDuty$Rows" "lengths" "[I", Cond.methodLink RX5 27 yX5_reaches, Cond.instanceMethod yX5_reaches, Cond.selects RX5 yX5_reaches yX5_reaches, Cond.code yX5_reaches cX5_reaches 4 (some .boolean), Cond.methodLink RX7 71 yX7_found, Cond.instanceMethod yX7_found, Cond.selects RX7 yX7_found yX7_found, Cond.code yX7_found cX7_found 2 (some .int), Cond.fieldLink RX7 58 "SignDuty" "lastFinding" "I", Cond.constant RX7 283 (-1000010), Cond.methodLink RX7 284 yX5_at, Cond.instanceMethod yX5_at, Cond.selects RX5 yX5_at yX5_at, Cond.code yX5_at cX5_at 3 (some .int), Cond.fieldLink RX5 13 "SignDuty$Rows" "items" "[[I", Cond.methodLink RX7 138 yX7_isStreet, Cond.instanceMethod yX7_isStreet, Cond.selects RX7 yX7_isStreet yX7_isStreet, Cond.code yX7_isStreet cX7_isStreet 2 (some .boolean)]
def wsX7_thread_r3 : List Cond := [Cond.fieldLink RX7 238 "SignDuty$City" "streets" "I", Cond.methodLink RX7 228 yX7_owesAlong, Cond.instanceMethod yX7_owesAlong, Cond.selects RX7 yX7_owesAlong yX7_owesAlong, Cond.code yX7_owesAlong cX7_owesAlong 9 (some .boolean), Cond.methodLink RX7 287 yX2_owesSuch, Cond.instanceMethod yX2_owesSuch, Cond.selects RX2 yX2_owesSuch yX2_owesSuch, Cond.initialized RX2, Cond.code yX2_owesSuch cX2_owesSuch 5 (some .int), Cond.methodLink RX2 63 yX2_owesUnknown, Cond.instanceMethod yX2_owesUnknown, Cond.selects RX2 yX2_owesUnknown yX2_owesUnknown, Cond.code yX2_owesUnknown cX2_owesUnknown 5 (some .int), Cond.fieldLink RX2 15 "SignDuty$City" "rate" "I", Cond.fieldLink RX2 35 "SignDuty$City" "strict" "[I", Cond.methodLink RX2 70 Lib.Math.max.name, Cond.static Lib.Math.max.name, Cond.initialized "java/lang/Math", Cond.code Lib.Math.max.name Lib.Math.max.code 2 (some .int), Cond.methodLink RX2 66 yX2_isKnown, Cond.instanceMethod yX2_isKnown, Cond.selects RX2 yX2_isKnown yX2_isKnown, Cond.code yX2_isKnown cX2_isKnown 2 (some .boolean)]
def wsX7_thread_r4 : List Cond := [Cond.fieldLink RX2 25 "SignDuty$City" "known" "I", Cond.methodLink RX7 232 yX7_isSeenAlong, Cond.instanceMethod yX7_isSeenAlong, Cond.selects RX7 yX7_isSeenAlong yX7_isSeenAlong, Cond.code yX7_isSeenAlong cX7_isSeenAlong 7 (some .boolean), Cond.methodLink RX7 141 yX2_isSeen, Cond.instanceMethod yX2_isSeen, Cond.selects RX2 yX2_isSeen yX2_isSeen, Cond.code yX2_isSeen cX2_isSeen 4 (some .boolean), Cond.fieldLink RX2 38 "SignDuty$City" "kind" "[I", Cond.fieldLink RX2 41 "SignDuty$City" "inches" "[I", Cond.fieldLink RX2 31 "SignDuty$City" "dim" "[I", Cond.methodLink RX7 79 yX7_foundNothing, Cond.instanceMethod yX7_foundNothing, Cond.selects RX7 yX7_foundNothing yX7_foundNothing, Cond.code yX7_foundNothing cX7_foundNothing 2 (some .int)]
def wsX7_thread : List Cond := .code yX7_thread cX7_thread 8 (some .int) :: ((wsX7_thread_r1 ++ (wsX7_thread_r2 ++ (wsX7_thread_r3 ++ wsX7_thread_r4))) ++ wsX70 ++ wsX20 ++ wsX50)
def wsX7_inches_r1 : List Cond := [Cond.constant RX7 70 (-1000001), Cond.fieldLink RX7 26 "SignDuty" "city" "LSignDuty$City;", Cond.fieldLink RX7 225 "SignDuty$City" "kind" "[I", Cond.methodLink RX7 135 yX7_isGesture, Cond.instanceMethod yX7_isGesture, Cond.selects RX7 yX7_isGesture yX7_isGesture, Cond.initialized RX7, Cond.code yX7_isGesture cX7_isGesture 2 (some .boolean), Cond.fieldLink RX7 129 "SignDuty$City" "gestures" "I", Cond.methodLink RX7 222 yX7_refusalOfThread, Cond.instanceMethod yX7_refusalOfThread, Cond.selects RX7 yX7_refusalOfThread yX7_refusalOfThread, Cond.code yX7_refusalOfThread cX7_refusalOfThread 6 (some .int), Cond.fieldLink RX7 10 "SignDuty" "rows" "LSignDuty$Rows;", Cond.methodLink RX7 62 yX5_isRow, Cond.static yX5_isRow, Cond.initialized RX5, Cond.code yX5_isRow cX5_isRow 1 (some .boolean), Cond.methodLink RX7 66 yX7_isWithin, Cond.static yX7_isWithin, Cond.code yX7_isWithin cX7_isWithin 3 (some .boolean), Cond.methodLink RX7 82 yX5_findingOf, Cond.instanceMethod yX5_findingOf, Cond.selects RX5 yX5_findingOf yX5_findingOf]
def wsX7_inches_r2 : List Cond := [Cond.code yX5_findingOf cX5_findingOf 4 (some .int), Cond.methodLink RX5 23 yX5_isMissing, Cond.instanceMethod yX5_isMissing, Cond.selects RX5 yX5_isMissing yX5_isMissing, Cond.code yX5_isMissing cX5_isMissing 2 (some .boolean), Cond.fieldLink RX5 16 "SignDuty$Rows" "lengths" "[I", Cond.methodLink RX5 27 yX5_reaches, Cond.instanceMethod yX5_reaches, Cond.selects RX5 yX5_reaches yX5_reaches, Cond.code yX5_reaches cX5_reaches 4 (some .boolean), Cond.methodLink RX7 71 yX7_found, Cond.instanceMethod yX7_found, Cond.selects RX7 yX7_found yX7_found, Cond.code yX7_found cX7_found 2 (some .int), Cond.fieldLink RX7 58 "SignDuty" "lastFinding" "I", Cond.constant RX7 283 (-1000010), Cond.methodLink RX7 284 yX5_at, Cond.instanceMethod yX5_at, Cond.selects RX5 yX5_at yX5_at, Cond.code yX5_at cX5_at 3 (some .int), Cond.fieldLink RX5 13 "SignDuty$Rows" "items" "[[I", Cond.methodLink RX7 138 yX7_isStreet, Cond.instanceMethod yX7_isStreet, Cond.selects RX7 yX7_isStreet yX7_isStreet]
def wsX7_inches_r3 : List Cond := [Cond.code yX7_isStreet cX7_isStreet 2 (some .boolean), Cond.fieldLink RX7 238 "SignDuty$City" "streets" "I", Cond.methodLink RX7 228 yX7_owesAlong, Cond.instanceMethod yX7_owesAlong, Cond.selects RX7 yX7_owesAlong yX7_owesAlong, Cond.code yX7_owesAlong cX7_owesAlong 9 (some .boolean), Cond.methodLink RX7 287 yX2_owesSuch, Cond.instanceMethod yX2_owesSuch, Cond.selects RX2 yX2_owesSuch yX2_owesSuch, Cond.initialized RX2, Cond.code yX2_owesSuch cX2_owesSuch 5 (some .int), Cond.methodLink RX2 63 yX2_owesUnknown, Cond.instanceMethod yX2_owesUnknown, Cond.selects RX2 yX2_owesUnknown yX2_owesUnknown, Cond.code yX2_owesUnknown cX2_owesUnknown 5 (some .int), Cond.fieldLink RX2 15 "SignDuty$City" "rate" "I", Cond.fieldLink RX2 35 "SignDuty$City" "strict" "[I", Cond.methodLink RX2 70 Lib.Math.max.name, Cond.static Lib.Math.max.name, Cond.initialized "java/lang/Math", Cond.code Lib.Math.max.name Lib.Math.max.code 2 (some .int), Cond.methodLink RX2 66 yX2_isKnown, Cond.instanceMethod yX2_isKnown, Cond.selects RX2 yX2_isKnown yX2_isKnown]
def wsX7_inches_r4 : List Cond := [Cond.code yX2_isKnown cX2_isKnown 2 (some .boolean), Cond.fieldLink RX2 25 "SignDuty$City" "known" "I", Cond.methodLink RX7 79 yX7_foundNothing, Cond.instanceMethod yX7_foundNothing, Cond.selects RX7 yX7_foundNothing yX7_foundNothing, Cond.code yX7_foundNothing cX7_foundNothing 2 (some .int)]
def wsX7_inches : List Cond := .code yX7_inches cX7_inches 8 (some .int) :: ((wsX7_inches_r1 ++ (wsX7_inches_r2 ++ (wsX7_inches_r3 ++ wsX7_inches_r4))) ++ wsX70 ++ wsX20 ++ wsX50)
def wsX7_sorts_r1 : List Cond := [Cond.constant RX7 70 (-1000001), Cond.fieldLink RX7 26 "SignDuty" "city" "LSignDuty$City;", Cond.fieldLink RX7 163 "SignDuty$City" "inches" "[I", Cond.methodLink RX7 135 yX7_isGesture, Cond.instanceMethod yX7_isGesture, Cond.selects RX7 yX7_isGesture yX7_isGesture, Cond.initialized RX7, Cond.code yX7_isGesture cX7_isGesture 2 (some .boolean), Cond.fieldLink RX7 129 "SignDuty$City" "gestures" "I", Cond.methodLink RX7 222 yX7_refusalOfThread, Cond.instanceMethod yX7_refusalOfThread, Cond.selects RX7 yX7_refusalOfThread yX7_refusalOfThread, Cond.code yX7_refusalOfThread cX7_refusalOfThread 6 (some .int), Cond.fieldLink RX7 10 "SignDuty" "rows" "LSignDuty$Rows;", Cond.methodLink RX7 62 yX5_isRow, Cond.static yX5_isRow, Cond.initialized RX5, Cond.code yX5_isRow cX5_isRow 1 (some .boolean), Cond.methodLink RX7 66 yX7_isWithin, Cond.static yX7_isWithin, Cond.code yX7_isWithin cX7_isWithin 3 (some .boolean), Cond.methodLink RX7 82 yX5_findingOf, Cond.instanceMethod yX5_findingOf, Cond.selects RX5 yX5_findingOf yX5_findingOf]
def wsX7_sorts_r2 : List Cond := [Cond.code yX5_findingOf cX5_findingOf 4 (some .int), Cond.methodLink RX5 23 yX5_isMissing, Cond.instanceMethod yX5_isMissing, Cond.selects RX5 yX5_isMissing yX5_isMissing, Cond.code yX5_isMissing cX5_isMissing 2 (some .boolean), Cond.fieldLink RX5 16 "SignDuty$Rows" "lengths" "[I", Cond.methodLink RX5 27 yX5_reaches, Cond.instanceMethod yX5_reaches, Cond.selects RX5 yX5_reaches yX5_reaches, Cond.code yX5_reaches cX5_reaches 4 (some .boolean), Cond.methodLink RX7 71 yX7_found, Cond.instanceMethod yX7_found, Cond.selects RX7 yX7_found yX7_found, Cond.code yX7_found cX7_found 2 (some .int), Cond.fieldLink RX7 58 "SignDuty" "lastFinding" "I", Cond.constant RX7 283 (-1000010), Cond.methodLink RX7 284 yX5_at, Cond.instanceMethod yX5_at, Cond.selects RX5 yX5_at yX5_at, Cond.code yX5_at cX5_at 3 (some .int), Cond.fieldLink RX5 13 "SignDuty$Rows" "items" "[[I", Cond.methodLink RX7 138 yX7_isStreet, Cond.instanceMethod yX7_isStreet, Cond.selects RX7 yX7_isStreet yX7_isStreet]
def wsX7_sorts_r3 : List Cond := [Cond.code yX7_isStreet cX7_isStreet 2 (some .boolean), Cond.fieldLink RX7 238 "SignDuty$City" "streets" "I", Cond.methodLink RX7 228 yX7_owesAlong, Cond.instanceMethod yX7_owesAlong, Cond.selects RX7 yX7_owesAlong yX7_owesAlong, Cond.code yX7_owesAlong cX7_owesAlong 9 (some .boolean), Cond.methodLink RX7 287 yX2_owesSuch, Cond.instanceMethod yX2_owesSuch, Cond.selects RX2 yX2_owesSuch yX2_owesSuch, Cond.initialized RX2, Cond.code yX2_owesSuch cX2_owesSuch 5 (some .int), Cond.methodLink RX2 63 yX2_owesUnknown, Cond.instanceMethod yX2_owesUnknown, Cond.selects RX2 yX2_owesUnknown yX2_owesUnknown, Cond.code yX2_owesUnknown cX2_owesUnknown 5 (some .int), Cond.fieldLink RX2 15 "SignDuty$City" "rate" "I", Cond.fieldLink RX2 35 "SignDuty$City" "strict" "[I", Cond.methodLink RX2 70 Lib.Math.max.name, Cond.static Lib.Math.max.name, Cond.initialized "java/lang/Math", Cond.code Lib.Math.max.name Lib.Math.max.code 2 (some .int), Cond.methodLink RX2 66 yX2_isKnown, Cond.instanceMethod yX2_isKnown, Cond.selects RX2 yX2_isKnown yX2_isKnown]
def wsX7_sorts_r4 : List Cond := [Cond.code yX2_isKnown cX2_isKnown 2 (some .boolean), Cond.fieldLink RX2 25 "SignDuty$City" "known" "I", Cond.methodLink RX7 79 yX7_foundNothing, Cond.instanceMethod yX7_foundNothing, Cond.selects RX7 yX7_foundNothing yX7_foundNothing, Cond.code yX7_foundNothing cX7_foundNothing 2 (some .int)]
def wsX7_sorts : List Cond := .code yX7_sorts cX7_sorts 8 (some .int) :: ((wsX7_sorts_r1 ++ (wsX7_sorts_r2 ++ (wsX7_sorts_r3 ++ wsX7_sorts_r4))) ++ wsX70 ++ wsX20 ++ wsX50)
def wsX7_saved_r1 : List Cond := [Cond.constant RX7 70 (-1000001), Cond.fieldLink RX7 26 "SignDuty" "city" "LSignDuty$City;", Cond.fieldLink RX7 238 "SignDuty$City" "streets" "I", Cond.methodLink RX7 135 yX7_isGesture, Cond.instanceMethod yX7_isGesture, Cond.selects RX7 yX7_isGesture yX7_isGesture, Cond.initialized RX7, Cond.code yX7_isGesture cX7_isGesture 2 (some .boolean), Cond.fieldLink RX7 129 "SignDuty$City" "gestures" "I", Cond.methodLink RX7 145 yX2_owes, Cond.instanceMethod yX2_owes, Cond.selects RX2 yX2_owes yX2_owes, Cond.initialized RX2, Cond.code yX2_owes cX2_owes 3 (some .int), Cond.fieldLink RX2 38 "SignDuty$City" "kind" "[I", Cond.fieldLink RX2 41 "SignDuty$City" "inches" "[I", Cond.methodLink RX2 59 yX2_owesSuch, Cond.instanceMethod yX2_owesSuch, Cond.selects RX2 yX2_owesSuch yX2_owesSuch, Cond.code yX2_owesSuch cX2_owesSuch 5 (some .int), Cond.methodLink RX2 63 yX2_owesUnknown, Cond.instanceMethod yX2_owesUnknown, Cond.selects RX2 yX2_owesUnknown yX2_owesUnknown, Cond.code yX2_owesUnknown cX2_owesUnknown 5 (some .int)]
def wsX7_saved_r2 : List Cond := [Cond.fieldLink RX2 15 "SignDuty$City" "rate" "I", Cond.fieldLink RX2 35 "SignDuty$City" "strict" "[I", Cond.methodLink RX2 70 Lib.Math.max.name, Cond.static Lib.Math.max.name, Cond.initialized "java/lang/Math", Cond.code Lib.Math.max.name Lib.Math.max.code 2 (some .int), Cond.methodLink RX2 66 yX2_isKnown, Cond.instanceMethod yX2_isKnown, Cond.selects RX2 yX2_isKnown yX2_isKnown, Cond.code yX2_isKnown cX2_isKnown 2 (some .boolean), Cond.fieldLink RX2 25 "SignDuty$City" "known" "I", Cond.methodLink RX7 241 yX2_owesIfKnown, Cond.instanceMethod yX2_owesIfKnown, Cond.selects RX2 yX2_owesIfKnown yX2_owesIfKnown, Cond.code yX2_owesIfKnown cX2_owesIfKnown 3 (some .int)]
def wsX7_saved : List Cond := .code yX7_saved cX7_saved 4 (some .int) :: ((wsX7_saved_r1 ++ wsX7_saved_r2) ++ wsX70 ++ wsX20)
def wsX7_worst_r1 : List Cond := [Cond.constant RX7 70 (-1000001), Cond.fieldLink RX7 26 "SignDuty" "city" "LSignDuty$City;", Cond.fieldLink RX7 238 "SignDuty$City" "streets" "I", Cond.constant RX7 221 (-1000000), Cond.methodLink RX7 135 yX7_isGesture, Cond.instanceMethod yX7_isGesture, Cond.selects RX7 yX7_isGesture yX7_isGesture, Cond.initialized RX7, Cond.code yX7_isGesture cX7_isGesture 2 (some .boolean), Cond.fieldLink RX7 129 "SignDuty$City" "gestures" "I", Cond.methodLink RX7 66 yX7_isWithin, Cond.static yX7_isWithin, Cond.code yX7_isWithin cX7_isWithin 3 (some .boolean), Cond.methodLink RX7 244 yX2_dearestStreet, Cond.instanceMethod yX2_dearestStreet, Cond.selects RX2 yX2_dearestStreet yX2_dearestStreet, Cond.initialized RX2, Cond.code yX2_dearestStreet cX2_dearestStreet 4 (some .int), Cond.fieldLink RX2 22 "SignDuty$City" "streets" "I", Cond.methodLink RX2 90 yX2_owes, Cond.instanceMethod yX2_owes, Cond.selects RX2 yX2_owes yX2_owes, Cond.code yX2_owes cX2_owes 3 (some .int), Cond.fieldLink RX2 38 "SignDuty$City" "kind" "[I"]
def wsX7_worst_r2 : List Cond := [Cond.fieldLink RX2 41 "SignDuty$City" "inches" "[I", Cond.methodLink RX2 59 yX2_owesSuch, Cond.instanceMethod yX2_owesSuch, Cond.selects RX2 yX2_owesSuch yX2_owesSuch, Cond.code yX2_owesSuch cX2_owesSuch 5 (some .int), Cond.methodLink RX2 63 yX2_owesUnknown, Cond.instanceMethod yX2_owesUnknown, Cond.selects RX2 yX2_owesUnknown yX2_owesUnknown, Cond.code yX2_owesUnknown cX2_owesUnknown 5 (some .int), Cond.fieldLink RX2 15 "SignDuty$City" "rate" "I", Cond.fieldLink RX2 35 "SignDuty$City" "strict" "[I", Cond.methodLink RX2 70 Lib.Math.max.name, Cond.static Lib.Math.max.name, Cond.initialized "java/lang/Math", Cond.code Lib.Math.max.name Lib.Math.max.code 2 (some .int), Cond.methodLink RX2 66 yX2_isKnown, Cond.instanceMethod yX2_isKnown, Cond.selects RX2 yX2_isKnown yX2_isKnown, Cond.code yX2_isKnown cX2_isKnown 2 (some .boolean), Cond.fieldLink RX2 25 "SignDuty$City" "known" "I", Cond.methodLink RX7 145 yX2_owes]
def wsX7_worst : List Cond := .code yX7_worst cX7_worst 4 (some .int) :: ((wsX7_worst_r1 ++ wsX7_worst_r2) ++ wsX70 ++ wsX20)
def wsX7_tenthsWithin_r1 : List Cond := [Cond.fieldLink RX7 225 "SignDuty$City" "kind" "[I", Cond.fieldLink RX7 163 "SignDuty$City" "inches" "[I", Cond.methodLink RX7 287 yX2_owesSuch, Cond.instanceMethod yX2_owesSuch, Cond.selects RX2 yX2_owesSuch yX2_owesSuch, Cond.initialized RX2, Cond.code yX2_owesSuch cX2_owesSuch 5 (some .int), Cond.methodLink RX2 63 yX2_owesUnknown, Cond.instanceMethod yX2_owesUnknown, Cond.selects RX2 yX2_owesUnknown yX2_owesUnknown, Cond.code yX2_owesUnknown cX2_owesUnknown 5 (some .int), Cond.fieldLink RX2 15 "SignDuty$City" "rate" "I", Cond.fieldLink RX2 35 "SignDuty$City" "strict" "[I", Cond.methodLink RX2 70 Lib.Math.max.name, Cond.static Lib.Math.max.name, Cond.initialized "java/lang/Math", Cond.code Lib.Math.max.name Lib.Math.max.code 2 (some .int), Cond.methodLink RX2 66 yX2_isKnown, Cond.instanceMethod yX2_isKnown, Cond.selects RX2 yX2_isKnown yX2_isKnown, Cond.code yX2_isKnown cX2_isKnown 2 (some .boolean), Cond.fieldLink RX2 25 "SignDuty$City" "known" "I", Cond.methodLink RX7 247 yX7_tenthsWithin, Cond.static yX7_tenthsWithin]
def wsX7_tenthsWithin_r2 : List Cond := [Cond.initialized RX7]
def wsX7_tenthsWithin : List Cond := .code yX7_tenthsWithin cX7_tenthsWithin 10 (some .int) :: ((wsX7_tenthsWithin_r1 ++ wsX7_tenthsWithin_r2) ++ wsX20)
def wsX7_commonDivisor : List Cond := .code yX7_commonDivisor cX7_commonDivisor 6 (some .int) :: ([])
def wsX7_tremble_r1 : List Cond := [Cond.constant RX7 70 (-1000001), Cond.fieldLink RX7 26 "SignDuty" "city" "LSignDuty$City;", Cond.methodLink RX7 253 Lib.Math.max.name, Cond.static Lib.Math.max.name, Cond.initialized "java/lang/Math", Cond.code Lib.Math.max.name Lib.Math.max.code 2 (some .int), Cond.methodLink RX7 135 yX7_isGesture, Cond.instanceMethod yX7_isGesture, Cond.selects RX7 yX7_isGesture yX7_isGesture, Cond.initialized RX7, Cond.code yX7_isGesture cX7_isGesture 2 (some .boolean), Cond.fieldLink RX7 129 "SignDuty$City" "gestures" "I", Cond.methodLink RX7 200 yX7_isStretch, Cond.instanceMethod yX7_isStretch, Cond.selects RX7 yX7_isStretch yX7_isStretch, Cond.code yX7_isStretch cX7_isStretch 3 (some .boolean), Cond.methodLink RX7 138 yX7_isStreet, Cond.instanceMethod yX7_isStreet, Cond.selects RX7 yX7_isStreet yX7_isStreet, Cond.code yX7_isStreet cX7_isStreet 2 (some .boolean), Cond.fieldLink RX7 238 "SignDuty$City" "streets" "I", Cond.methodLink RX7 66 yX7_isWithin, Cond.static yX7_isWithin, Cond.code yX7_isWithin cX7_isWithin 3 (some .boolean)]
def wsX7_tremble_r2 : List Cond := [Cond.methodLink RX7 247 yX7_tenthsWithin, Cond.static yX7_tenthsWithin, Cond.code yX7_tenthsWithin cX7_tenthsWithin 10 (some .int), Cond.fieldLink RX7 225 "SignDuty$City" "kind" "[I", Cond.fieldLink RX7 163 "SignDuty$City" "inches" "[I", Cond.methodLink RX7 287 yX2_owesSuch, Cond.instanceMethod yX2_owesSuch, Cond.selects RX2 yX2_owesSuch yX2_owesSuch, Cond.initialized RX2, Cond.code yX2_owesSuch cX2_owesSuch 5 (some .int), Cond.methodLink RX2 63 yX2_owesUnknown, Cond.instanceMethod yX2_owesUnknown, Cond.selects RX2 yX2_owesUnknown yX2_owesUnknown, Cond.code yX2_owesUnknown cX2_owesUnknown 5 (some .int), Cond.fieldLink RX2 15 "SignDuty$City" "rate" "I", Cond.fieldLink RX2 35 "SignDuty$City" "strict" "[I", Cond.methodLink RX2 70 Lib.Math.max.name, Cond.methodLink RX2 66 yX2_isKnown, Cond.instanceMethod yX2_isKnown, Cond.selects RX2 yX2_isKnown yX2_isKnown, Cond.code yX2_isKnown cX2_isKnown 2 (some .boolean), Cond.fieldLink RX2 25 "SignDuty$City" "known" "I", Cond.methodLink RX7 250 yX7_commonDivisor, Cond.static yX7_commonDivisor]
def wsX7_tremble_r3 : List Cond := [Cond.code yX7_commonDivisor cX7_commonDivisor 6 (some .int)]
def wsX7_tremble : List Cond := .code yX7_tremble cX7_tremble 10 (some .int) :: ((wsX7_tremble_r1 ++ (wsX7_tremble_r2 ++ wsX7_tremble_r3)) ++ wsX70 ++ wsX20)
def wsX7_image_r1 : List Cond := [Cond.constant RX7 70 (-1000001), Cond.fieldLink RX7 26 "SignDuty" "city" "LSignDuty$City;", Cond.fieldLink RX7 211 "SignDuty$City" "stands" "Z", Cond.constant RX7 144 (-1000002), Cond.fieldLink RX7 33 "SignDuty" "images" "[LSignDuty$City;", Cond.methodLink RX7 66 yX7_isWithin, Cond.static yX7_isWithin, Cond.initialized RX7, Cond.code yX7_isWithin cX7_isWithin 3 (some .boolean), Cond.methodLink RX7 122 yX2_become, Cond.instanceMethod yX2_become, Cond.selects RX2 yX2_become yX2_become, Cond.initialized RX2, Cond.code yX2_become cX2_become 2 none, Cond.fieldLink RX2 9 "SignDuty$City" "stands" "Z", Cond.fieldLink RX2 15 "SignDuty$City" "rate" "I", Cond.fieldLink RX2 19 "SignDuty$City" "paid" "I", Cond.fieldLink RX2 22 "SignDuty$City" "streets" "I", Cond.fieldLink RX2 25 "SignDuty$City" "known" "I", Cond.fieldLink RX2 28 "SignDuty$City" "gestures" "I", Cond.fieldLink RX2 31 "SignDuty$City" "dim" "[I", Cond.methodLink RX2 53 arraycopyName, Cond.native arraycopyName, Cond.static arraycopyName]
def wsX7_image_r2 : List Cond := [Cond.initialized "java/lang/System", Cond.fieldLink RX2 35 "SignDuty$City" "strict" "[I", Cond.fieldLink RX2 38 "SignDuty$City" "kind" "[I", Cond.fieldLink RX2 41 "SignDuty$City" "inches" "[I", Cond.fieldLink RX2 44 "SignDuty$City" "means" "[I", Cond.fieldLink RX2 47 "SignDuty$City" "takes" "[I", Cond.fieldLink RX2 50 "SignDuty$City" "made" "[I"]
def wsX7_image : List Cond := .code yX7_image cX7_image 2 (some .int) :: ((wsX7_image_r1 ++ wsX7_image_r2) ++ wsX70 ++ wsX20)
def wsX7_restore_r1 : List Cond := [Cond.constant RX7 70 (-1000001), Cond.fieldLink RX7 33 "SignDuty" "images" "[LSignDuty$City;", Cond.fieldLink RX7 211 "SignDuty$City" "stands" "Z", Cond.constant RX7 144 (-1000002), Cond.fieldLink RX7 26 "SignDuty" "city" "LSignDuty$City;", Cond.fieldLink RX7 40 "SignDuty" "acts" "LSignDuty$Acts;", Cond.methodLink RX7 66 yX7_isWithin, Cond.static yX7_isWithin, Cond.initialized RX7, Cond.code yX7_isWithin cX7_isWithin 3 (some .boolean), Cond.methodLink RX7 122 yX2_become, Cond.instanceMethod yX2_become, Cond.selects RX2 yX2_become yX2_become, Cond.initialized RX2, Cond.code yX2_become cX2_become 2 none, Cond.fieldLink RX2 9 "SignDuty$City" "stands" "Z", Cond.fieldLink RX2 15 "SignDuty$City" "rate" "I", Cond.fieldLink RX2 19 "SignDuty$City" "paid" "I", Cond.fieldLink RX2 22 "SignDuty$City" "streets" "I", Cond.fieldLink RX2 25 "SignDuty$City" "known" "I", Cond.fieldLink RX2 28 "SignDuty$City" "gestures" "I", Cond.fieldLink RX2 31 "SignDuty$City" "dim" "[I", Cond.methodLink RX2 53 arraycopyName, Cond.native arraycopyName]
def wsX7_restore_r2 : List Cond := [Cond.static arraycopyName, Cond.initialized "java/lang/System", Cond.fieldLink RX2 35 "SignDuty$City" "strict" "[I", Cond.fieldLink RX2 38 "SignDuty$City" "kind" "[I", Cond.fieldLink RX2 41 "SignDuty$City" "inches" "[I", Cond.fieldLink RX2 44 "SignDuty$City" "means" "[I", Cond.fieldLink RX2 47 "SignDuty$City" "takes" "[I", Cond.fieldLink RX2 50 "SignDuty$City" "made" "[I", Cond.methodLink RX7 126 yX0_forgetAll, Cond.instanceMethod yX0_forgetAll, Cond.selects RX0 yX0_forgetAll yX0_forgetAll, Cond.initialized RX0, Cond.code yX0_forgetAll cX0_forgetAll 1 none, Cond.fieldLink RX0 23 "SignDuty$Acts" "kept" "I"]
def wsX7_restore : List Cond := .code yX7_restore cX7_restore 2 (some .int) :: ((wsX7_restore_r1 ++ wsX7_restore_r2) ++ wsX70 ++ wsX20 ++ wsX00)
def wsX7_kind : List Cond := .code yX7_kind cX7_kind 2 (some .int) :: ([.fieldLink RX7 26 "SignDuty" "city" "LSignDuty$City;", .fieldLink RX7 225 "SignDuty$City" "kind" "[I", .constant RX7 70 (-1000001), .methodLink RX7 135 yX7_isGesture, .instanceMethod yX7_isGesture, .selects RX7 yX7_isGesture yX7_isGesture, .initialized RX7, .code yX7_isGesture cX7_isGesture 2 (some .boolean), .fieldLink RX7 129 "SignDuty$City" "gestures" "I"] ++ wsX70 ++ wsX20)
def wsX7_as_r1 : List Cond := [Cond.constant RX7 70 (-1000001), Cond.fieldLink RX7 26 "SignDuty" "city" "LSignDuty$City;", Cond.fieldLink RX7 225 "SignDuty$City" "kind" "[I", Cond.methodLink RX7 135 yX7_isGesture, Cond.instanceMethod yX7_isGesture, Cond.selects RX7 yX7_isGesture yX7_isGesture, Cond.initialized RX7, Cond.code yX7_isGesture cX7_isGesture 2 (some .boolean), Cond.fieldLink RX7 129 "SignDuty$City" "gestures" "I", Cond.methodLink RX7 66 yX7_isWithin, Cond.static yX7_isWithin, Cond.code yX7_isWithin cX7_isWithin 3 (some .boolean), Cond.methodLink RX7 258 yX3_isOneOf, Cond.static yX3_isOneOf, Cond.initialized RX3, Cond.code yX3_isOneOf cX3_isOneOf 4 (some .boolean), Cond.fieldLink RX3 7 "SignDuty$Kinds" "WIDER" "[I", Cond.methodLink RX3 13 yX3_widerThan, Cond.static yX3_widerThan, Cond.code yX3_widerThan cX3_widerThan 1 (some .int), Cond.methodLink RX7 79 yX7_foundNothing, Cond.instanceMethod yX7_foundNothing, Cond.selects RX7 yX7_foundNothing yX7_foundNothing, Cond.code yX7_foundNothing cX7_foundNothing 2 (some .int)]
def wsX7_as_r2 : List Cond := [Cond.fieldLink RX7 58 "SignDuty" "lastFinding" "I", Cond.methodLink RX7 71 yX7_found, Cond.instanceMethod yX7_found, Cond.selects RX7 yX7_found yX7_found, Cond.code yX7_found cX7_found 2 (some .int), Cond.constant RX7 283 (-1000010)]
def wsX7_as : List Cond := .code yX7_as cX7_as 3 (some .int) :: ((wsX7_as_r1 ++ wsX7_as_r2) ++ wsX70 ++ wsX20)
def wsX7_ask_r1 : List Cond := [Cond.constant RX7 70 (-1000001), Cond.fieldLink RX7 54 "SignDuty" "asks" "LSignDuty$Asks;", Cond.fieldLink RX7 26 "SignDuty" "city" "LSignDuty$City;", Cond.methodLink RX7 135 yX7_isGesture, Cond.instanceMethod yX7_isGesture, Cond.selects RX7 yX7_isGesture yX7_isGesture, Cond.initialized RX7, Cond.code yX7_isGesture cX7_isGesture 2 (some .boolean), Cond.fieldLink RX7 129 "SignDuty$City" "gestures" "I", Cond.methodLink RX7 66 yX7_isWithin, Cond.static yX7_isWithin, Cond.code yX7_isWithin cX7_isWithin 3 (some .boolean), Cond.methodLink RX7 261 yX1_answer, Cond.instanceMethod yX1_answer, Cond.selects RX1 yX1_answer yX1_answer, Cond.initialized RX1, Cond.code yX1_answer cX1_answer 4 (some .int), Cond.fieldLink RX1 15 "SignDuty$Asks" "left" "I", Cond.methodLink RX1 19 yX1_asked, Cond.instanceMethod yX1_asked, Cond.selects RX1 yX1_asked yX1_asked, Cond.code yX1_asked cX1_asked 6 (some .int), Cond.fieldLink RX1 24 "SignDuty$Asks" "SIZE_BODIES" "[I", Cond.fieldLink RX1 27 "SignDuty$Asks" "MARK_BODIES" "[I"]
def wsX7_ask_r2 : List Cond := [Cond.fieldLink RX1 30 "SignDuty$City" "kind" "[I", Cond.methodLink RX1 35 yX1_bodyFor, Cond.static yX1_bodyFor, Cond.code yX1_bodyFor cX1_bodyFor 4 (some .int), Cond.methodLink RX1 43 yX3_widerThan, Cond.static yX3_widerThan, Cond.initialized RX3, Cond.code yX3_widerThan cX3_widerThan 1 (some .int), Cond.fieldLink RX3 7 "SignDuty$Kinds" "WIDER" "[I", Cond.methodLink RX1 39 yX1_given, Cond.instanceMethod yX1_given, Cond.selects RX1 yX1_given yX1_given, Cond.code yX1_given cX1_given 6 (some .int), Cond.fieldLink RX1 53 "SignDuty$City" "takes" "[I", Cond.fieldLink RX1 56 "SignDuty$City" "inches" "[I", Cond.methodLink RX1 49 yX1_leave, Cond.instanceMethod yX1_leave, Cond.selects RX1 yX1_leave yX1_leave, Cond.code yX1_leave cX1_leave 2 none, Cond.fieldLink RX1 11 "SignDuty$Asks" "numbers" "[I"]
def wsX7_ask : List Cond := .code yX7_ask cX7_ask 3 (some .int) :: ((wsX7_ask_r1 ++ wsX7_ask_r2) ++ wsX70 ++ wsX20 ++ wsX10)
def wsX7_trace : List Cond := .code yX7_trace cX7_trace 2 (some .int) :: ([.fieldLink RX7 54 "SignDuty" "asks" "LSignDuty$Asks;", .methodLink RX7 265 yX1_numberLeft, .instanceMethod yX1_numberLeft, .selects RX1 yX1_numberLeft yX1_numberLeft, .initialized RX1, .code yX1_numberLeft cX1_numberLeft 2 (some .int), .fieldLink RX1 15 "SignDuty$Asks" "left" "I", .fieldLink RX1 11 "SignDuty$Asks" "numbers" "[I", .constant RX1 23 (-1000000)] ++ wsX70 ++ wsX10)
def wsJ6_bitCount_0f7a4 : List Cond := .code yJ6_bitCount_0f7a4 cJ6_bitCount_0f7a4 1 (some .int) :: ([.constant RJ6 265 (1431655765), .constant RJ6 266 (858993459), .constant RJ6 267 (252645135)])
def wsX7_count_r1 : List Cond := [Cond.fieldLink RX7 10 "SignDuty" "rows" "LSignDuty$Rows;", Cond.fieldLink RX7 26 "SignDuty" "city" "LSignDuty$City;", Cond.fieldLink RX7 238 "SignDuty$City" "streets" "I", Cond.fieldLink RX7 129 "SignDuty$City" "gestures" "I", Cond.fieldLink RX7 149 "SignDuty$City" "paid" "I", Cond.fieldLink RX7 272 "SignDuty$City" "rate" "I", Cond.fieldLink RX7 173 "SignDuty$City" "known" "I", Cond.fieldLink RX7 40 "SignDuty" "acts" "LSignDuty$Acts;", Cond.fieldLink RX7 176 "SignDuty$Acts" "kept" "I", Cond.fieldLink RX7 19 "SignDuty" "reader" "LSignDuty$Reader;", Cond.fieldLink RX7 280 "SignDuty$Reader" "length" "I", Cond.constant RX7 70 (-1000001), Cond.methodLink RX7 268 yX5_howMany, Cond.instanceMethod yX5_howMany, Cond.selects RX5 yX5_howMany yX5_howMany, Cond.initialized RX5, Cond.code yX5_howMany cX5_howMany 3 (some .int), Cond.methodLink RX5 23 yX5_isMissing, Cond.instanceMethod yX5_isMissing, Cond.selects RX5 yX5_isMissing yX5_isMissing, Cond.code yX5_isMissing cX5_isMissing 2 (some .boolean), Cond.fieldLink RX5 16 "SignDuty$Rows" "lengths" "[I", Cond.methodLink RX7 275 yJ6_bitCount_0f7a4, Cond.static yJ6_bitCount_0f7a4]
def wsX7_count_r2 : List Cond := [Cond.initialized RJ6, Cond.code yJ6_bitCount_0f7a4 cJ6_bitCount_0f7a4 1 (some .int), Cond.constant RJ6 265 (1431655765), Cond.constant RJ6 266 (858993459), Cond.constant RJ6 267 (252645135)]
def wsX7_count : List Cond := .code yX7_count cX7_count 2 (some .int) :: ((wsX7_count_r1 ++ wsX7_count_r2) ++ wsX70 ++ wsX20 ++ wsX00 ++ wsX40 ++ wsX50)
def wsX7_status : List Cond := .code yX7_status cX7_status 1 (some .int) :: ([.fieldLink RX7 58 "SignDuty" "lastFinding" "I"] ++ wsX70)
def wsX8_init : List Cond := .code yX8_init cX8_init 1 none :: ([.methodLink RX8 1 objectInit, .instanceMethod objectInit, .code objectInit ⟨#[0xb1]⟩ 1 none, .arrayClass .int, .fieldLink RX8 7 "SignDutyModel" "row" "[I", .arrayClass .boolean, .fieldLink RX8 13 "SignDutyModel" "isKept" "[Z", .fieldLink RX8 17 "SignDutyModel" "lanes" "[I", .fieldLink RX8 20 "SignDutyModel" "sizes" "[I", .fieldLink RX8 23 "SignDutyModel" "items" "[I", .fieldLink RX8 26 "SignDutyModel" "tape" "[I", .fieldLink RX8 29 "SignDutyModel" "trace" "[I", .fieldLink RX8 32 "SignDutyModel" "costs" "[I"] ++ wsX80)
def wsX8_in : List Cond := .code yX8_in cX8_in 6 (some .boolean) :: ([])
def wsX8_has : List Cond := .code yX8_has cX8_has 2 (some .boolean) :: ([])
def wsX8_bits : List Cond := .code yX8_bits cX8_bits 3 (some .int) :: ([])
def wsX8_find : List Cond := .code yX8_find cX8_find 2 (some .int) :: ([.fieldLink RX8 35 "SignDutyModel" "status" "I", .constant RX8 39 (-1000010)] ++ wsX80)
def wsX8_well : List Cond := .code yX8_well cX8_well 2 (some .int) :: ([.fieldLink RX8 35 "SignDutyModel" "status" "I"] ++ wsX80)
def wsX8_isRow : List Cond := .code yX8_isRow cX8_isRow 1 (some .boolean) :: ([.constantLong RX8 40 (7), .methodLink RX8 42 yX8_in, .static yX8_in, .initialized RX8, .code yX8_in cX8_in 6 (some .boolean)])
def wsX8_row : List Cond := .code yX8_row cX8_row 5 (some .int) :: ([.constantLong RX8 50 (2), .constant RX8 52 (-1000001), .fieldLink RX8 17 "SignDutyModel" "lanes" "[I", .fieldLink RX8 20 "SignDutyModel" "sizes" "[I", .fieldLink RX8 23 "SignDutyModel" "items" "[I", .methodLink RX8 46 yX8_isRow, .static yX8_isRow, .initialized RX8, .code yX8_isRow cX8_isRow 1 (some .boolean), .constantLong RX8 40 (7), .methodLink RX8 42 yX8_in, .static yX8_in, .code yX8_in cX8_in 6 (some .boolean), .methodLink RX8 53 yX8_find, .instanceMethod yX8_find, .selects RX8 yX8_find yX8_find, .code yX8_find cX8_find 2 (some .int), .fieldLink RX8 35 "SignDutyModel" "status" "I", .constant RX8 39 (-1000010), .methodLink RX8 57 yX8_well, .instanceMethod yX8_well, .selects RX8 yX8_well yX8_well, .code yX8_well cX8_well 2 (some .int)] ++ wsX80)
def wsX8_narrow : List Cond := .code yX8_narrow cX8_narrow 2 (some .int) :: ([])
def wsX8_set_r1 : List Cond := [Cond.constant RX8 52 (-1000001), Cond.fieldLink RX8 20 "SignDutyModel" "sizes" "[I", Cond.fieldLink RX8 23 "SignDutyModel" "items" "[I", Cond.fieldLink RX8 17 "SignDutyModel" "lanes" "[I", Cond.methodLink RX8 46 yX8_isRow, Cond.static yX8_isRow, Cond.initialized RX8, Cond.code yX8_isRow cX8_isRow 1 (some .boolean), Cond.constantLong RX8 40 (7), Cond.methodLink RX8 42 yX8_in, Cond.static yX8_in, Cond.code yX8_in cX8_in 6 (some .boolean), Cond.methodLink RX8 53 yX8_find, Cond.instanceMethod yX8_find, Cond.selects RX8 yX8_find yX8_find, Cond.code yX8_find cX8_find 2 (some .int), Cond.fieldLink RX8 35 "SignDutyModel" "status" "I", Cond.constant RX8 39 (-1000010), Cond.methodLink RX8 60 yX8_narrow, Cond.static yX8_narrow, Cond.code yX8_narrow cX8_narrow 2 (some .int), Cond.methodLink RX8 57 yX8_well, Cond.instanceMethod yX8_well, Cond.selects RX8 yX8_well yX8_well]
def wsX8_set_r2 : List Cond := [Cond.code yX8_well cX8_well 2 (some .int)]
def wsX8_set : List Cond := .code yX8_set cX8_set 4 (some .int) :: ((wsX8_set_r1 ++ wsX8_set_r2) ++ wsX80)
def wsX8_isSpan : List Cond := .code yX8_isSpan cX8_isSpan 4 (some .boolean) :: ([.fieldLink RX8 20 "SignDutyModel" "sizes" "[I"] ++ wsX80)
def wsX8_copy_r1 : List Cond := [Cond.constant RX8 52 (-1000001), Cond.fieldLink RX8 20 "SignDutyModel" "sizes" "[I", Cond.fieldLink RX8 17 "SignDutyModel" "lanes" "[I", Cond.fieldLink RX8 23 "SignDutyModel" "items" "[I", Cond.methodLink RX8 46 yX8_isRow, Cond.static yX8_isRow, Cond.initialized RX8, Cond.code yX8_isRow cX8_isRow 1 (some .boolean), Cond.constantLong RX8 40 (7), Cond.methodLink RX8 42 yX8_in, Cond.static yX8_in, Cond.code yX8_in cX8_in 6 (some .boolean), Cond.methodLink RX8 53 yX8_find, Cond.instanceMethod yX8_find, Cond.selects RX8 yX8_find yX8_find, Cond.code yX8_find cX8_find 2 (some .int), Cond.fieldLink RX8 35 "SignDutyModel" "status" "I", Cond.constant RX8 39 (-1000010), Cond.methodLink RX8 64 yX8_isSpan, Cond.instanceMethod yX8_isSpan, Cond.selects RX8 yX8_isSpan yX8_isSpan, Cond.code yX8_isSpan cX8_isSpan 4 (some .boolean), Cond.methodLink RX8 57 yX8_well, Cond.instanceMethod yX8_well]
def wsX8_copy_r2 : List Cond := [Cond.selects RX8 yX8_well yX8_well, Cond.code yX8_well cX8_well 2 (some .int)]
def wsX8_copy : List Cond := .code yX8_copy cX8_copy 9 (some .int) :: ((wsX8_copy_r1 ++ wsX8_copy_r2) ++ wsX80)
def wsX8_drop : List Cond := .code yX8_drop cX8_drop 3 (some .int) :: ([.constant RX8 52 (-1000001), .fieldLink RX8 20 "SignDutyModel" "sizes" "[I", .methodLink RX8 46 yX8_isRow, .static yX8_isRow, .initialized RX8, .code yX8_isRow cX8_isRow 1 (some .boolean), .constantLong RX8 40 (7), .methodLink RX8 42 yX8_in, .static yX8_in, .code yX8_in cX8_in 6 (some .boolean), .methodLink RX8 53 yX8_find, .instanceMethod yX8_find, .selects RX8 yX8_find yX8_find, .code yX8_find cX8_find 2 (some .int), .fieldLink RX8 35 "SignDutyModel" "status" "I", .constant RX8 39 (-1000010), .methodLink RX8 57 yX8_well, .instanceMethod yX8_well, .selects RX8 yX8_well yX8_well, .code yX8_well cX8_well 2 (some .int)] ++ wsX80)
def wsX8_feed : List Cond := .code yX8_feed cX8_feed 2 (some .int) :: ([.constantLong RX8 68 (255), .constant RX8 52 (-1000001), .fieldLink RX8 70 "SignDutyModel" "length" "I", .constant RX8 73 (-1000003), .fieldLink RX8 26 "SignDutyModel" "tape" "[I", .methodLink RX8 42 yX8_in, .static yX8_in, .initialized RX8, .code yX8_in cX8_in 6 (some .boolean)] ++ wsX80)
def wsX8_isLetter : List Cond := .code yX8_isLetter cX8_isLetter 2 (some .boolean) :: ([.fieldLink RX8 74 "SignDutyModel" "at" "I", .fieldLink RX8 70 "SignDutyModel" "length" "I", .fieldLink RX8 26 "SignDutyModel" "tape" "[I"] ++ wsX80)
def wsX8_isFigure : List Cond := .code yX8_isFigure cX8_isFigure 2 (some .boolean) :: ([.fieldLink RX8 70 "SignDutyModel" "length" "I", .fieldLink RX8 26 "SignDutyModel" "tape" "[I", .constantLong RX8 77 (48), .constantLong RX8 79 (57), .methodLink RX8 42 yX8_in, .static yX8_in, .initialized RX8, .code yX8_in cX8_in 6 (some .boolean)] ++ wsX80)
def wsX8_refuse : List Cond := .code yX8_refuse cX8_refuse 2 (some .boolean) :: ([.fieldLink RX8 81 "SignDutyModel" "wrong" "I"] ++ wsX80)
def wsX8_sign : List Cond := .code yX8_sign cX8_sign 2 (some .boolean) :: ([.fieldLink RX8 74 "SignDutyModel" "at" "I", .methodLink RX8 84 yX8_isLetter, .instanceMethod yX8_isLetter, .selects RX8 yX8_isLetter yX8_isLetter, .initialized RX8, .code yX8_isLetter cX8_isLetter 2 (some .boolean), .fieldLink RX8 70 "SignDutyModel" "length" "I", .fieldLink RX8 26 "SignDutyModel" "tape" "[I", .methodLink RX8 87 yX8_refuse, .instanceMethod yX8_refuse, .selects RX8 yX8_refuse yX8_refuse, .code yX8_refuse cX8_refuse 2 (some .boolean), .fieldLink RX8 81 "SignDutyModel" "wrong" "I"] ++ wsX80)
def wsX8_readsNumber : List Cond := .code yX8_readsNumber cX8_readsNumber 4 (some .boolean) :: ([.fieldLink RX8 74 "SignDutyModel" "at" "I", .fieldLink RX8 26 "SignDutyModel" "tape" "[I", .fieldLink RX8 93 "SignDutyModel" "number" "I", .methodLink RX8 90 yX8_isFigure, .instanceMethod yX8_isFigure, .selects RX8 yX8_isFigure yX8_isFigure, .initialized RX8, .code yX8_isFigure cX8_isFigure 2 (some .boolean), .fieldLink RX8 70 "SignDutyModel" "length" "I", .constantLong RX8 77 (48), .constantLong RX8 79 (57), .methodLink RX8 42 yX8_in, .static yX8_in, .code yX8_in cX8_in 6 (some .boolean), .methodLink RX8 87 yX8_refuse, .instanceMethod yX8_refuse, .selects RX8 yX8_refuse yX8_refuse, .code yX8_refuse cX8_refuse 2 (some .boolean), .fieldLink RX8 81 "SignDutyModel" "wrong" "I"] ++ wsX80)
def wsX8_readsLaw_r1 : List Cond := [Cond.fieldLink RX8 7 "SignDutyModel" "row" "[I", Cond.fieldLink RX8 93 "SignDutyModel" "number" "I", Cond.methodLink RX8 96 yX8_sign, Cond.instanceMethod yX8_sign, Cond.selects RX8 yX8_sign yX8_sign, Cond.initialized RX8, Cond.code yX8_sign cX8_sign 2 (some .boolean), Cond.fieldLink RX8 74 "SignDutyModel" "at" "I", Cond.methodLink RX8 84 yX8_isLetter, Cond.instanceMethod yX8_isLetter, Cond.selects RX8 yX8_isLetter yX8_isLetter, Cond.code yX8_isLetter cX8_isLetter 2 (some .boolean), Cond.fieldLink RX8 70 "SignDutyModel" "length" "I", Cond.fieldLink RX8 26 "SignDutyModel" "tape" "[I", Cond.methodLink RX8 87 yX8_refuse, Cond.instanceMethod yX8_refuse, Cond.selects RX8 yX8_refuse yX8_refuse, Cond.code yX8_refuse cX8_refuse 2 (some .boolean), Cond.fieldLink RX8 81 "SignDutyModel" "wrong" "I", Cond.methodLink RX8 99 yX8_readsNumber, Cond.instanceMethod yX8_readsNumber, Cond.selects RX8 yX8_readsNumber yX8_readsNumber, Cond.code yX8_readsNumber cX8_readsNumber 4 (some .boolean), Cond.methodLink RX8 90 yX8_isFigure]
def wsX8_readsLaw_r2 : List Cond := [Cond.instanceMethod yX8_isFigure, Cond.selects RX8 yX8_isFigure yX8_isFigure, Cond.code yX8_isFigure cX8_isFigure 2 (some .boolean), Cond.constantLong RX8 77 (48), Cond.constantLong RX8 79 (57), Cond.methodLink RX8 42 yX8_in, Cond.static yX8_in, Cond.code yX8_in cX8_in 6 (some .boolean)]
def wsX8_readsLaw : List Cond := .code yX8_readsLaw cX8_readsLaw 1 (some .boolean) :: ((wsX8_readsLaw_r1 ++ wsX8_readsLaw_r2) ++ wsX80)
def wsX8_readsStreet_r1 : List Cond := [Cond.fieldLink RX8 7 "SignDutyModel" "row" "[I", Cond.fieldLink RX8 74 "SignDutyModel" "at" "I", Cond.fieldLink RX8 93 "SignDutyModel" "number" "I", Cond.methodLink RX8 87 yX8_refuse, Cond.instanceMethod yX8_refuse, Cond.selects RX8 yX8_refuse yX8_refuse, Cond.initialized RX8, Cond.code yX8_refuse cX8_refuse 2 (some .boolean), Cond.fieldLink RX8 81 "SignDutyModel" "wrong" "I", Cond.methodLink RX8 99 yX8_readsNumber, Cond.instanceMethod yX8_readsNumber, Cond.selects RX8 yX8_readsNumber yX8_readsNumber, Cond.code yX8_readsNumber cX8_readsNumber 4 (some .boolean), Cond.fieldLink RX8 26 "SignDutyModel" "tape" "[I", Cond.methodLink RX8 90 yX8_isFigure, Cond.instanceMethod yX8_isFigure, Cond.selects RX8 yX8_isFigure yX8_isFigure, Cond.code yX8_isFigure cX8_isFigure 2 (some .boolean), Cond.fieldLink RX8 70 "SignDutyModel" "length" "I", Cond.constantLong RX8 77 (48), Cond.constantLong RX8 79 (57), Cond.methodLink RX8 42 yX8_in, Cond.static yX8_in, Cond.code yX8_in cX8_in 6 (some .boolean)]
def wsX8_readsStreet_r2 : List Cond := [Cond.methodLink RX8 96 yX8_sign, Cond.instanceMethod yX8_sign, Cond.selects RX8 yX8_sign yX8_sign, Cond.code yX8_sign cX8_sign 2 (some .boolean), Cond.methodLink RX8 84 yX8_isLetter, Cond.instanceMethod yX8_isLetter, Cond.selects RX8 yX8_isLetter yX8_isLetter, Cond.code yX8_isLetter cX8_isLetter 2 (some .boolean)]
def wsX8_readsStreet : List Cond := .code yX8_readsStreet cX8_readsStreet 2 (some .boolean) :: ((wsX8_readsStreet_r1 ++ wsX8_readsStreet_r2) ++ wsX80)
def wsX8_kindOfLetter : List Cond := .code yX8_kindOfLetter cX8_kindOfLetter 1 (some .int) :: ([])
def wsX8_readsGesture_r1 : List Cond := [Cond.fieldLink RX8 7 "SignDutyModel" "row" "[I", Cond.fieldLink RX8 26 "SignDutyModel" "tape" "[I", Cond.fieldLink RX8 74 "SignDutyModel" "at" "I", Cond.fieldLink RX8 93 "SignDutyModel" "number" "I", Cond.methodLink RX8 87 yX8_refuse, Cond.instanceMethod yX8_refuse, Cond.selects RX8 yX8_refuse yX8_refuse, Cond.initialized RX8, Cond.code yX8_refuse cX8_refuse 2 (some .boolean), Cond.fieldLink RX8 81 "SignDutyModel" "wrong" "I", Cond.methodLink RX8 103 yX8_kindOfLetter, Cond.static yX8_kindOfLetter, Cond.code yX8_kindOfLetter cX8_kindOfLetter 1 (some .int), Cond.methodLink RX8 99 yX8_readsNumber, Cond.instanceMethod yX8_readsNumber, Cond.selects RX8 yX8_readsNumber yX8_readsNumber, Cond.code yX8_readsNumber cX8_readsNumber 4 (some .boolean), Cond.methodLink RX8 90 yX8_isFigure, Cond.instanceMethod yX8_isFigure, Cond.selects RX8 yX8_isFigure yX8_isFigure, Cond.code yX8_isFigure cX8_isFigure 2 (some .boolean), Cond.fieldLink RX8 70 "SignDutyModel" "length" "I", Cond.constantLong RX8 77 (48), Cond.constantLong RX8 79 (57)]
def wsX8_readsGesture_r2 : List Cond := [Cond.methodLink RX8 42 yX8_in, Cond.static yX8_in, Cond.code yX8_in cX8_in 6 (some .boolean), Cond.methodLink RX8 96 yX8_sign, Cond.instanceMethod yX8_sign, Cond.selects RX8 yX8_sign yX8_sign, Cond.code yX8_sign cX8_sign 2 (some .boolean), Cond.methodLink RX8 84 yX8_isLetter, Cond.instanceMethod yX8_isLetter, Cond.selects RX8 yX8_isLetter yX8_isLetter, Cond.code yX8_isLetter cX8_isLetter 2 (some .boolean)]
def wsX8_readsGesture : List Cond := .code yX8_readsGesture cX8_readsGesture 2 (some .boolean) :: ((wsX8_readsGesture_r1 ++ wsX8_readsGesture_r2) ++ wsX80)
def wsX8_reads_r1 : List Cond := [Cond.fieldLink RX8 7 "SignDutyModel" "row" "[I", Cond.fieldLink RX8 74 "SignDutyModel" "at" "I", Cond.fieldLink RX8 70 "SignDutyModel" "length" "I", Cond.fieldLink RX8 26 "SignDutyModel" "tape" "[I", Cond.methodLink RX8 106 yX8_readsLaw, Cond.instanceMethod yX8_readsLaw, Cond.selects RX8 yX8_readsLaw yX8_readsLaw, Cond.initialized RX8, Cond.code yX8_readsLaw cX8_readsLaw 1 (some .boolean), Cond.fieldLink RX8 93 "SignDutyModel" "number" "I", Cond.methodLink RX8 96 yX8_sign, Cond.instanceMethod yX8_sign, Cond.selects RX8 yX8_sign yX8_sign, Cond.code yX8_sign cX8_sign 2 (some .boolean), Cond.methodLink RX8 84 yX8_isLetter, Cond.instanceMethod yX8_isLetter, Cond.selects RX8 yX8_isLetter yX8_isLetter, Cond.code yX8_isLetter cX8_isLetter 2 (some .boolean), Cond.methodLink RX8 87 yX8_refuse, Cond.instanceMethod yX8_refuse, Cond.selects RX8 yX8_refuse yX8_refuse, Cond.code yX8_refuse cX8_refuse 2 (some .boolean), Cond.fieldLink RX8 81 "SignDutyModel" "wrong" "I", Cond.methodLink RX8 99 yX8_readsNumber]
def wsX8_reads_r2 : List Cond := [Cond.instanceMethod yX8_readsNumber, Cond.selects RX8 yX8_readsNumber yX8_readsNumber, Cond.code yX8_readsNumber cX8_readsNumber 4 (some .boolean), Cond.methodLink RX8 90 yX8_isFigure, Cond.instanceMethod yX8_isFigure, Cond.selects RX8 yX8_isFigure yX8_isFigure, Cond.code yX8_isFigure cX8_isFigure 2 (some .boolean), Cond.constantLong RX8 77 (48), Cond.constantLong RX8 79 (57), Cond.methodLink RX8 42 yX8_in, Cond.static yX8_in, Cond.code yX8_in cX8_in 6 (some .boolean), Cond.methodLink RX8 110 yX8_readsStreet, Cond.instanceMethod yX8_readsStreet, Cond.selects RX8 yX8_readsStreet yX8_readsStreet, Cond.code yX8_readsStreet cX8_readsStreet 2 (some .boolean), Cond.methodLink RX8 103 yX8_kindOfLetter, Cond.static yX8_kindOfLetter, Cond.code yX8_kindOfLetter cX8_kindOfLetter 1 (some .int), Cond.methodLink RX8 113 yX8_readsGesture, Cond.instanceMethod yX8_readsGesture, Cond.selects RX8 yX8_readsGesture yX8_readsGesture, Cond.code yX8_readsGesture cX8_readsGesture 2 (some .boolean)]
def wsX8_reads : List Cond := .code yX8_reads cX8_reads 2 (some .boolean) :: ((wsX8_reads_r1 ++ wsX8_reads_r2) ++ wsX80)
def wsX8_copyTown : List Cond := .code yX8_copyTown cX8_copyTown 4 none :: ([.fieldLink RX8 7 "SignDutyModel" "row" "[I"] ++ wsX80)
def wsX8_city_r1 : List Cond := [Cond.fieldLink RX8 70 "SignDutyModel" "length" "I", Cond.fieldLink RX8 81 "SignDutyModel" "wrong" "I", Cond.fieldLink RX8 119 "SignDutyModel" "fault" "I", Cond.constant RX8 122 (-1000100), Cond.fieldLink RX8 74 "SignDutyModel" "at" "I", Cond.fieldLink RX8 127 "SignDutyModel" "isCity" "Z", Cond.fieldLink RX8 131 "SignDutyModel" "undos" "I", Cond.fieldLink RX8 7 "SignDutyModel" "row" "[I", Cond.methodLink RX8 116 yX8_reads, Cond.instanceMethod yX8_reads, Cond.selects RX8 yX8_reads yX8_reads, Cond.initialized RX8, Cond.code yX8_reads cX8_reads 2 (some .boolean), Cond.fieldLink RX8 26 "SignDutyModel" "tape" "[I", Cond.methodLink RX8 106 yX8_readsLaw, Cond.instanceMethod yX8_readsLaw, Cond.selects RX8 yX8_readsLaw yX8_readsLaw, Cond.code yX8_readsLaw cX8_readsLaw 1 (some .boolean), Cond.fieldLink RX8 93 "SignDutyModel" "number" "I", Cond.methodLink RX8 96 yX8_sign, Cond.instanceMethod yX8_sign, Cond.selects RX8 yX8_sign yX8_sign, Cond.code yX8_sign cX8_sign 2 (some .boolean), Cond.methodLink RX8 84 yX8_isLetter]
def wsX8_city_r2 : List Cond := [Cond.instanceMethod yX8_isLetter, Cond.selects RX8 yX8_isLetter yX8_isLetter, Cond.code yX8_isLetter cX8_isLetter 2 (some .boolean), Cond.methodLink RX8 87 yX8_refuse, Cond.instanceMethod yX8_refuse, Cond.selects RX8 yX8_refuse yX8_refuse, Cond.code yX8_refuse cX8_refuse 2 (some .boolean), Cond.methodLink RX8 99 yX8_readsNumber, Cond.instanceMethod yX8_readsNumber, Cond.selects RX8 yX8_readsNumber yX8_readsNumber, Cond.code yX8_readsNumber cX8_readsNumber 4 (some .boolean), Cond.methodLink RX8 90 yX8_isFigure, Cond.instanceMethod yX8_isFigure, Cond.selects RX8 yX8_isFigure yX8_isFigure, Cond.code yX8_isFigure cX8_isFigure 2 (some .boolean), Cond.constantLong RX8 77 (48), Cond.constantLong RX8 79 (57), Cond.methodLink RX8 42 yX8_in, Cond.static yX8_in, Cond.code yX8_in cX8_in 6 (some .boolean), Cond.methodLink RX8 110 yX8_readsStreet, Cond.instanceMethod yX8_readsStreet, Cond.selects RX8 yX8_readsStreet yX8_readsStreet, Cond.code yX8_readsStreet cX8_readsStreet 2 (some .boolean)]
def wsX8_city_r3 : List Cond := [Cond.methodLink RX8 103 yX8_kindOfLetter, Cond.static yX8_kindOfLetter, Cond.code yX8_kindOfLetter cX8_kindOfLetter 1 (some .int), Cond.methodLink RX8 113 yX8_readsGesture, Cond.instanceMethod yX8_readsGesture, Cond.selects RX8 yX8_readsGesture yX8_readsGesture, Cond.code yX8_readsGesture cX8_readsGesture 2 (some .boolean), Cond.methodLink RX8 123 yX8_copyTown, Cond.instanceMethod yX8_copyTown, Cond.selects RX8 yX8_copyTown yX8_copyTown, Cond.code yX8_copyTown cX8_copyTown 4 none]
def wsX8_city : List Cond := .code yX8_city cX8_city 2 (some .int) :: ((wsX8_city_r1 ++ (wsX8_city_r2 ++ wsX8_city_r3)) ++ wsX80)
def wsX8_fault : List Cond := .code yX8_fault cX8_fault 1 (some .int) :: ([.fieldLink RX8 119 "SignDutyModel" "fault" "I"] ++ wsX80)
def wsX8_keepPast : List Cond := .code yX8_keepPast cX8_keepPast 2 none :: ([.fieldLink RX8 131 "SignDutyModel" "undos" "I", .fieldLink RX8 7 "SignDutyModel" "row" "[I", .methodLink RX8 123 yX8_copyTown, .instanceMethod yX8_copyTown, .selects RX8 yX8_copyTown yX8_copyTown, .initialized RX8, .code yX8_copyTown cX8_copyTown 4 none] ++ wsX80)
def wsX8_undo : List Cond := .code yX8_undo cX8_undo 1 (some .int) :: ([.fieldLink RX8 131 "SignDutyModel" "undos" "I", .constant RX8 134 (-1000002), .methodLink RX8 123 yX8_copyTown, .instanceMethod yX8_copyTown, .selects RX8 yX8_copyTown yX8_copyTown, .initialized RX8, .code yX8_copyTown cX8_copyTown 4 none, .fieldLink RX8 7 "SignDutyModel" "row" "[I"] ++ wsX80)
def wsX8_isGesture : List Cond := .code yX8_isGesture cX8_isGesture 2 (some .boolean) :: ([.fieldLink RX8 7 "SignDutyModel" "row" "[I", .methodLink RX8 42 yX8_in, .static yX8_in, .initialized RX8, .code yX8_in cX8_in 6 (some .boolean)] ++ wsX80)
def wsX8_isStreet : List Cond := .code yX8_isStreet cX8_isStreet 2 (some .boolean) :: ([.fieldLink RX8 7 "SignDutyModel" "row" "[I", .methodLink RX8 42 yX8_in, .static yX8_in, .initialized RX8, .code yX8_in cX8_in 6 (some .boolean)] ++ wsX80)
def wsX8_wave : List Cond := .code yX8_wave cX8_wave 3 (some .int) :: ([.fieldLink RX8 7 "SignDutyModel" "row" "[I"] ++ wsX80)
def wsX8_plainDuty : List Cond := .code yX8_plainDuty cX8_plainDuty 4 (some .int) :: ([.fieldLink RX8 7 "SignDutyModel" "row" "[I", .methodLink RX8 135 yX8_wave, .instanceMethod yX8_wave, .selects RX8 yX8_wave yX8_wave, .initialized RX8, .code yX8_wave cX8_wave 3 (some .int)] ++ wsX80)
def wsX8_owes : List Cond := .code yX8_owes cX8_owes 5 (some .int) :: ([.fieldLink RX8 7 "SignDutyModel" "row" "[I", .methodLink RX8 138 yX8_plainDuty, .instanceMethod yX8_plainDuty, .selects RX8 yX8_plainDuty yX8_plainDuty, .initialized RX8, .code yX8_plainDuty cX8_plainDuty 4 (some .int), .methodLink RX8 135 yX8_wave, .instanceMethod yX8_wave, .selects RX8 yX8_wave yX8_wave, .code yX8_wave cX8_wave 3 (some .int), .methodLink RX8 142 yX8_has, .static yX8_has, .code yX8_has cX8_has 2 (some .boolean)] ++ wsX80)
def wsX8_dutyOf : List Cond := .code yX8_dutyOf cX8_dutyOf 3 (some .int) :: ([.fieldLink RX8 7 "SignDutyModel" "row" "[I", .methodLink RX8 145 yX8_owes, .instanceMethod yX8_owes, .selects RX8 yX8_owes yX8_owes, .initialized RX8, .code yX8_owes cX8_owes 5 (some .int), .methodLink RX8 138 yX8_plainDuty, .instanceMethod yX8_plainDuty, .selects RX8 yX8_plainDuty yX8_plainDuty, .code yX8_plainDuty cX8_plainDuty 4 (some .int), .methodLink RX8 135 yX8_wave, .instanceMethod yX8_wave, .selects RX8 yX8_wave yX8_wave, .code yX8_wave cX8_wave 3 (some .int), .methodLink RX8 142 yX8_has, .static yX8_has, .code yX8_has cX8_has 2 (some .boolean)] ++ wsX80)
def wsX8_isSeen : List Cond := .code yX8_isSeen cX8_isSeen 4 (some .boolean) :: ([.fieldLink RX8 7 "SignDutyModel" "row" "[I"] ++ wsX80)
def wsX8_make_r1 : List Cond := [Cond.constant RX8 52 (-1000001), Cond.constant RX8 134 (-1000002), Cond.fieldLink RX8 7 "SignDutyModel" "row" "[I", Cond.constant RX8 160 (99999), Cond.constant RX8 73 (-1000003), Cond.methodLink RX8 148 yX8_isGesture, Cond.instanceMethod yX8_isGesture, Cond.selects RX8 yX8_isGesture yX8_isGesture, Cond.initialized RX8, Cond.code yX8_isGesture cX8_isGesture 2 (some .boolean), Cond.methodLink RX8 42 yX8_in, Cond.static yX8_in, Cond.code yX8_in cX8_in 6 (some .boolean), Cond.methodLink RX8 151 yX8_isStreet, Cond.instanceMethod yX8_isStreet, Cond.selects RX8 yX8_isStreet yX8_isStreet, Cond.code yX8_isStreet cX8_isStreet 2 (some .boolean), Cond.methodLink RX8 154 yX8_isSeen, Cond.instanceMethod yX8_isSeen, Cond.selects RX8 yX8_isSeen yX8_isSeen, Cond.code yX8_isSeen cX8_isSeen 4 (some .boolean), Cond.methodLink RX8 157 yX8_dutyOf, Cond.instanceMethod yX8_dutyOf, Cond.selects RX8 yX8_dutyOf yX8_dutyOf]
def wsX8_make_r2 : List Cond := [Cond.code yX8_dutyOf cX8_dutyOf 3 (some .int), Cond.methodLink RX8 145 yX8_owes, Cond.instanceMethod yX8_owes, Cond.selects RX8 yX8_owes yX8_owes, Cond.code yX8_owes cX8_owes 5 (some .int), Cond.methodLink RX8 138 yX8_plainDuty, Cond.instanceMethod yX8_plainDuty, Cond.selects RX8 yX8_plainDuty yX8_plainDuty, Cond.code yX8_plainDuty cX8_plainDuty 4 (some .int), Cond.methodLink RX8 135 yX8_wave, Cond.instanceMethod yX8_wave, Cond.selects RX8 yX8_wave yX8_wave, Cond.code yX8_wave cX8_wave 3 (some .int), Cond.methodLink RX8 142 yX8_has, Cond.static yX8_has, Cond.code yX8_has cX8_has 2 (some .boolean), Cond.methodLink RX8 161 yX8_keepPast, Cond.instanceMethod yX8_keepPast, Cond.selects RX8 yX8_keepPast yX8_keepPast, Cond.code yX8_keepPast cX8_keepPast 2 none, Cond.fieldLink RX8 131 "SignDutyModel" "undos" "I", Cond.methodLink RX8 123 yX8_copyTown, Cond.instanceMethod yX8_copyTown, Cond.selects RX8 yX8_copyTown yX8_copyTown]
def wsX8_make_r3 : List Cond := [Cond.code yX8_copyTown cX8_copyTown 4 none]
def wsX8_make : List Cond := .code yX8_make cX8_make 4 (some .int) :: ((wsX8_make_r1 ++ (wsX8_make_r2 ++ wsX8_make_r3)) ++ wsX80)
def wsX8_dim : List Cond := .code yX8_dim cX8_dim 4 (some .int) :: ([.constantLong RX8 164 (30), .constant RX8 52 (-1000001), .fieldLink RX8 7 "SignDutyModel" "row" "[I", .methodLink RX8 151 yX8_isStreet, .instanceMethod yX8_isStreet, .selects RX8 yX8_isStreet yX8_isStreet, .initialized RX8, .code yX8_isStreet cX8_isStreet 2 (some .boolean), .methodLink RX8 42 yX8_in, .static yX8_in, .code yX8_in cX8_in 6 (some .boolean), .methodLink RX8 161 yX8_keepPast, .instanceMethod yX8_keepPast, .selects RX8 yX8_keepPast yX8_keepPast, .code yX8_keepPast cX8_keepPast 2 none, .fieldLink RX8 131 "SignDutyModel" "undos" "I", .methodLink RX8 123 yX8_copyTown, .instanceMethod yX8_copyTown, .selects RX8 yX8_copyTown yX8_copyTown, .code yX8_copyTown cX8_copyTown 4 none] ++ wsX80)
def wsX8_train : List Cond := .code yX8_train cX8_train 3 (some .int) :: ([.constantLong RX8 166 (29), .constant RX8 52 (-1000001), .fieldLink RX8 7 "SignDutyModel" "row" "[I", .constant RX8 134 (-1000002), .methodLink RX8 148 yX8_isGesture, .instanceMethod yX8_isGesture, .selects RX8 yX8_isGesture yX8_isGesture, .initialized RX8, .code yX8_isGesture cX8_isGesture 2 (some .boolean), .methodLink RX8 42 yX8_in, .static yX8_in, .code yX8_in cX8_in 6 (some .boolean), .methodLink RX8 161 yX8_keepPast, .instanceMethod yX8_keepPast, .selects RX8 yX8_keepPast yX8_keepPast, .code yX8_keepPast cX8_keepPast 2 none, .fieldLink RX8 131 "SignDutyModel" "undos" "I", .methodLink RX8 123 yX8_copyTown, .instanceMethod yX8_copyTown, .selects RX8 yX8_copyTown yX8_copyTown, .code yX8_copyTown cX8_copyTown 4 none] ++ wsX80)
def wsX8_know : List Cond := .code yX8_know cX8_know 3 (some .int) :: ([.constant RX8 52 (-1000001), .fieldLink RX8 7 "SignDutyModel" "row" "[I", .constant RX8 134 (-1000002), .methodLink RX8 151 yX8_isStreet, .instanceMethod yX8_isStreet, .selects RX8 yX8_isStreet yX8_isStreet, .initialized RX8, .code yX8_isStreet cX8_isStreet 2 (some .boolean), .methodLink RX8 42 yX8_in, .static yX8_in, .code yX8_in cX8_in 6 (some .boolean), .methodLink RX8 142 yX8_has, .static yX8_has, .code yX8_has cX8_has 2 (some .boolean), .methodLink RX8 161 yX8_keepPast, .instanceMethod yX8_keepPast, .selects RX8 yX8_keepPast yX8_keepPast, .code yX8_keepPast cX8_keepPast 2 none, .fieldLink RX8 131 "SignDutyModel" "undos" "I", .methodLink RX8 123 yX8_copyTown, .instanceMethod yX8_copyTown, .selects RX8 yX8_copyTown yX8_copyTown, .code yX8_copyTown cX8_copyTown 4 none] ++ wsX80)
def wsX8_seenStreets : List Cond := .code yX8_seenStreets cX8_seenStreets 4 (some .int) :: ([.fieldLink RX8 7 "SignDutyModel" "row" "[I", .methodLink RX8 154 yX8_isSeen, .instanceMethod yX8_isSeen, .selects RX8 yX8_isSeen yX8_isSeen, .initialized RX8, .code yX8_isSeen cX8_isSeen 4 (some .boolean)] ++ wsX80)
def wsX8_seenGestures : List Cond := .code yX8_seenGestures cX8_seenGestures 4 (some .int) :: ([.fieldLink RX8 7 "SignDutyModel" "row" "[I", .methodLink RX8 154 yX8_isSeen, .instanceMethod yX8_isSeen, .selects RX8 yX8_isSeen yX8_isSeen, .initialized RX8, .code yX8_isSeen cX8_isSeen 4 (some .boolean)] ++ wsX80)
def wsX8_gesture : List Cond := .code yX8_gesture cX8_gesture 3 (some .int) :: ([.constant RX8 52 (-1000001), .fieldLink RX8 7 "SignDutyModel" "row" "[I", .methodLink RX8 148 yX8_isGesture, .instanceMethod yX8_isGesture, .selects RX8 yX8_isGesture yX8_isGesture, .initialized RX8, .code yX8_isGesture cX8_isGesture 2 (some .boolean), .methodLink RX8 42 yX8_in, .static yX8_in, .code yX8_in cX8_in 6 (some .boolean), .methodLink RX8 168 yX8_seenStreets, .instanceMethod yX8_seenStreets, .selects RX8 yX8_seenStreets yX8_seenStreets, .code yX8_seenStreets cX8_seenStreets 4 (some .int), .methodLink RX8 154 yX8_isSeen, .instanceMethod yX8_isSeen, .selects RX8 yX8_isSeen yX8_isSeen, .code yX8_isSeen cX8_isSeen 4 (some .boolean)] ++ wsX80)
def wsX8_street : List Cond := .code yX8_street cX8_street 3 (some .int) :: ([.constant RX8 52 (-1000001), .fieldLink RX8 7 "SignDutyModel" "row" "[I", .methodLink RX8 151 yX8_isStreet, .instanceMethod yX8_isStreet, .selects RX8 yX8_isStreet yX8_isStreet, .initialized RX8, .code yX8_isStreet cX8_isStreet 2 (some .boolean), .methodLink RX8 42 yX8_in, .static yX8_in, .code yX8_in cX8_in 6 (some .boolean), .methodLink RX8 171 yX8_seenGestures, .instanceMethod yX8_seenGestures, .selects RX8 yX8_seenGestures yX8_seenGestures, .code yX8_seenGestures cX8_seenGestures 4 (some .int), .methodLink RX8 154 yX8_isSeen, .instanceMethod yX8_isSeen, .selects RX8 yX8_isSeen yX8_isSeen, .code yX8_isSeen cX8_isSeen 4 (some .boolean)] ++ wsX80)
def wsX8_duty_r1 : List Cond := [Cond.constant RX8 52 (-1000001), Cond.methodLink RX8 148 yX8_isGesture, Cond.instanceMethod yX8_isGesture, Cond.selects RX8 yX8_isGesture yX8_isGesture, Cond.initialized RX8, Cond.code yX8_isGesture cX8_isGesture 2 (some .boolean), Cond.fieldLink RX8 7 "SignDutyModel" "row" "[I", Cond.methodLink RX8 42 yX8_in, Cond.static yX8_in, Cond.code yX8_in cX8_in 6 (some .boolean), Cond.methodLink RX8 151 yX8_isStreet, Cond.instanceMethod yX8_isStreet, Cond.selects RX8 yX8_isStreet yX8_isStreet, Cond.code yX8_isStreet cX8_isStreet 2 (some .boolean), Cond.methodLink RX8 157 yX8_dutyOf, Cond.instanceMethod yX8_dutyOf, Cond.selects RX8 yX8_dutyOf yX8_dutyOf, Cond.code yX8_dutyOf cX8_dutyOf 3 (some .int), Cond.methodLink RX8 145 yX8_owes, Cond.instanceMethod yX8_owes, Cond.selects RX8 yX8_owes yX8_owes, Cond.code yX8_owes cX8_owes 5 (some .int), Cond.methodLink RX8 138 yX8_plainDuty, Cond.instanceMethod yX8_plainDuty]
def wsX8_duty_r2 : List Cond := [Cond.selects RX8 yX8_plainDuty yX8_plainDuty, Cond.code yX8_plainDuty cX8_plainDuty 4 (some .int), Cond.methodLink RX8 135 yX8_wave, Cond.instanceMethod yX8_wave, Cond.selects RX8 yX8_wave yX8_wave, Cond.code yX8_wave cX8_wave 3 (some .int), Cond.methodLink RX8 142 yX8_has, Cond.static yX8_has, Cond.code yX8_has cX8_has 2 (some .boolean)]
def wsX8_duty : List Cond := .code yX8_duty cX8_duty 3 (some .int) :: ((wsX8_duty_r1 ++ wsX8_duty_r2) ++ wsX80)
def wsX8_tells : List Cond := .code yX8_tells cX8_tells 4 (some .boolean) :: ([.fieldLink RX8 7 "SignDutyModel" "row" "[I", .methodLink RX8 154 yX8_isSeen, .instanceMethod yX8_isSeen, .selects RX8 yX8_isSeen yX8_isSeen, .initialized RX8, .code yX8_isSeen cX8_isSeen 4 (some .boolean)] ++ wsX80)
def wsX8_onBy_r1 : List Cond := [Cond.fieldLink RX8 7 "SignDutyModel" "row" "[I", Cond.fieldLink RX8 32 "SignDutyModel" "costs" "[I", Cond.constant RX8 177 (1000000), Cond.methodLink RX8 174 yX8_tells, Cond.instanceMethod yX8_tells, Cond.selects RX8 yX8_tells yX8_tells, Cond.initialized RX8, Cond.code yX8_tells cX8_tells 4 (some .boolean), Cond.methodLink RX8 154 yX8_isSeen, Cond.instanceMethod yX8_isSeen, Cond.selects RX8 yX8_isSeen yX8_isSeen, Cond.code yX8_isSeen cX8_isSeen 4 (some .boolean), Cond.methodLink RX8 157 yX8_dutyOf, Cond.instanceMethod yX8_dutyOf, Cond.selects RX8 yX8_dutyOf yX8_dutyOf, Cond.code yX8_dutyOf cX8_dutyOf 3 (some .int), Cond.methodLink RX8 145 yX8_owes, Cond.instanceMethod yX8_owes, Cond.selects RX8 yX8_owes yX8_owes, Cond.code yX8_owes cX8_owes 5 (some .int), Cond.methodLink RX8 138 yX8_plainDuty, Cond.instanceMethod yX8_plainDuty, Cond.selects RX8 yX8_plainDuty yX8_plainDuty, Cond.code yX8_plainDuty cX8_plainDuty 4 (some .int)]
def wsX8_onBy_r2 : List Cond := [Cond.methodLink RX8 135 yX8_wave, Cond.instanceMethod yX8_wave, Cond.selects RX8 yX8_wave yX8_wave, Cond.code yX8_wave cX8_wave 3 (some .int), Cond.methodLink RX8 142 yX8_has, Cond.static yX8_has, Cond.code yX8_has cX8_has 2 (some .boolean)]
def wsX8_onBy : List Cond := .code yX8_onBy cX8_onBy 6 (some .int) :: ((wsX8_onBy_r1 ++ wsX8_onBy_r2) ++ wsX80)
def wsX8_layCosts_r1 : List Cond := [Cond.fieldLink RX8 32 "SignDutyModel" "costs" "[I", Cond.constant RX8 177 (1000000), Cond.fieldLink RX8 7 "SignDutyModel" "row" "[I", Cond.methodLink RX8 178 yX8_onBy, Cond.instanceMethod yX8_onBy, Cond.selects RX8 yX8_onBy yX8_onBy, Cond.initialized RX8, Cond.code yX8_onBy cX8_onBy 6 (some .int), Cond.methodLink RX8 174 yX8_tells, Cond.instanceMethod yX8_tells, Cond.selects RX8 yX8_tells yX8_tells, Cond.code yX8_tells cX8_tells 4 (some .boolean), Cond.methodLink RX8 154 yX8_isSeen, Cond.instanceMethod yX8_isSeen, Cond.selects RX8 yX8_isSeen yX8_isSeen, Cond.code yX8_isSeen cX8_isSeen 4 (some .boolean), Cond.methodLink RX8 157 yX8_dutyOf, Cond.instanceMethod yX8_dutyOf, Cond.selects RX8 yX8_dutyOf yX8_dutyOf, Cond.code yX8_dutyOf cX8_dutyOf 3 (some .int), Cond.methodLink RX8 145 yX8_owes, Cond.instanceMethod yX8_owes, Cond.selects RX8 yX8_owes yX8_owes, Cond.code yX8_owes cX8_owes 5 (some .int)]
def wsX8_layCosts_r2 : List Cond := [Cond.methodLink RX8 138 yX8_plainDuty, Cond.instanceMethod yX8_plainDuty, Cond.selects RX8 yX8_plainDuty yX8_plainDuty, Cond.code yX8_plainDuty cX8_plainDuty 4 (some .int), Cond.methodLink RX8 135 yX8_wave, Cond.instanceMethod yX8_wave, Cond.selects RX8 yX8_wave yX8_wave, Cond.code yX8_wave cX8_wave 3 (some .int), Cond.methodLink RX8 142 yX8_has, Cond.static yX8_has, Cond.code yX8_has cX8_has 2 (some .boolean)]
def wsX8_layCosts : List Cond := .code yX8_layCosts cX8_layCosts 8 none :: ((wsX8_layCosts_r1 ++ wsX8_layCosts_r2) ++ wsX80)
def wsX8_isMeans : List Cond := .code yX8_isMeans cX8_isMeans 1 (some .boolean) :: ([.constantLong RX8 182 (3), .methodLink RX8 42 yX8_in, .static yX8_in, .initialized RX8, .code yX8_in cX8_in 6 (some .boolean)])
def wsX8_areStreets : List Cond := .code yX8_areStreets cX8_areStreets 3 (some .boolean) :: ([.methodLink RX8 151 yX8_isStreet, .instanceMethod yX8_isStreet, .selects RX8 yX8_isStreet yX8_isStreet, .initialized RX8, .code yX8_isStreet cX8_isStreet 2 (some .boolean), .fieldLink RX8 7 "SignDutyModel" "row" "[I", .methodLink RX8 42 yX8_in, .static yX8_in, .code yX8_in cX8_in 6 (some .boolean)] ++ wsX80)
def wsX8_tell_r1 : List Cond := [Cond.constantLong RX8 190 (99), Cond.constantLong RX8 192 (-1), Cond.constantLong RX8 194 (6), Cond.constant RX8 52 (-1000001), Cond.fieldLink RX8 32 "SignDutyModel" "costs" "[I", Cond.constant RX8 177 (1000000), Cond.constant RX8 200 (-1000000), Cond.fieldLink RX8 7 "SignDutyModel" "row" "[I", Cond.methodLink RX8 184 yX8_isMeans, Cond.static yX8_isMeans, Cond.initialized RX8, Cond.code yX8_isMeans cX8_isMeans 1 (some .boolean), Cond.constantLong RX8 182 (3), Cond.methodLink RX8 42 yX8_in, Cond.static yX8_in, Cond.code yX8_in cX8_in 6 (some .boolean), Cond.methodLink RX8 187 yX8_areStreets, Cond.instanceMethod yX8_areStreets, Cond.selects RX8 yX8_areStreets yX8_areStreets, Cond.code yX8_areStreets cX8_areStreets 3 (some .boolean), Cond.methodLink RX8 151 yX8_isStreet, Cond.instanceMethod yX8_isStreet, Cond.selects RX8 yX8_isStreet yX8_isStreet, Cond.code yX8_isStreet cX8_isStreet 2 (some .boolean)]
def wsX8_tell_r2 : List Cond := [Cond.methodLink RX8 196 yX8_layCosts, Cond.instanceMethod yX8_layCosts, Cond.selects RX8 yX8_layCosts yX8_layCosts, Cond.code yX8_layCosts cX8_layCosts 8 none, Cond.methodLink RX8 178 yX8_onBy, Cond.instanceMethod yX8_onBy, Cond.selects RX8 yX8_onBy yX8_onBy, Cond.code yX8_onBy cX8_onBy 6 (some .int), Cond.methodLink RX8 174 yX8_tells, Cond.instanceMethod yX8_tells, Cond.selects RX8 yX8_tells yX8_tells, Cond.code yX8_tells cX8_tells 4 (some .boolean), Cond.methodLink RX8 154 yX8_isSeen, Cond.instanceMethod yX8_isSeen, Cond.selects RX8 yX8_isSeen yX8_isSeen, Cond.code yX8_isSeen cX8_isSeen 4 (some .boolean), Cond.methodLink RX8 157 yX8_dutyOf, Cond.instanceMethod yX8_dutyOf, Cond.selects RX8 yX8_dutyOf yX8_dutyOf, Cond.code yX8_dutyOf cX8_dutyOf 3 (some .int), Cond.methodLink RX8 145 yX8_owes, Cond.instanceMethod yX8_owes, Cond.selects RX8 yX8_owes yX8_owes, Cond.code yX8_owes cX8_owes 5 (some .int)]
def wsX8_tell_r3 : List Cond := [Cond.methodLink RX8 138 yX8_plainDuty, Cond.instanceMethod yX8_plainDuty, Cond.selects RX8 yX8_plainDuty yX8_plainDuty, Cond.code yX8_plainDuty cX8_plainDuty 4 (some .int), Cond.methodLink RX8 135 yX8_wave, Cond.instanceMethod yX8_wave, Cond.selects RX8 yX8_wave yX8_wave, Cond.code yX8_wave cX8_wave 3 (some .int), Cond.methodLink RX8 142 yX8_has, Cond.static yX8_has, Cond.code yX8_has cX8_has 2 (some .boolean)]
def wsX8_tell : List Cond := .code yX8_tell cX8_tell 10 (some .int) :: ((wsX8_tell_r1 ++ (wsX8_tell_r2 ++ wsX8_tell_r3)) ++ wsX80)
def wsX8_soonest : List Cond := .code yX8_soonest cX8_soonest 6 (some .int) :: ([.constant RX8 200 (-1000000), .fieldLink RX8 7 "SignDutyModel" "row" "[I", .methodLink RX8 174 yX8_tells, .instanceMethod yX8_tells, .selects RX8 yX8_tells yX8_tells, .initialized RX8, .code yX8_tells cX8_tells 4 (some .boolean), .methodLink RX8 154 yX8_isSeen, .instanceMethod yX8_isSeen, .selects RX8 yX8_isSeen yX8_isSeen, .code yX8_isSeen cX8_isSeen 4 (some .boolean)] ++ wsX80)
def wsX8_shut_r1 : List Cond := [Cond.fieldLink RX8 127 "SignDutyModel" "isCity" "Z", Cond.constant RX8 134 (-1000002), Cond.constant RX8 52 (-1000001), Cond.fieldLink RX8 7 "SignDutyModel" "row" "[I", Cond.constant RX8 200 (-1000000), Cond.methodLink RX8 184 yX8_isMeans, Cond.static yX8_isMeans, Cond.initialized RX8, Cond.code yX8_isMeans cX8_isMeans 1 (some .boolean), Cond.constantLong RX8 182 (3), Cond.methodLink RX8 42 yX8_in, Cond.static yX8_in, Cond.code yX8_in cX8_in 6 (some .boolean), Cond.methodLink RX8 201 yX8_soonest, Cond.instanceMethod yX8_soonest, Cond.selects RX8 yX8_soonest yX8_soonest, Cond.code yX8_soonest cX8_soonest 6 (some .int), Cond.methodLink RX8 174 yX8_tells, Cond.instanceMethod yX8_tells, Cond.selects RX8 yX8_tells yX8_tells, Cond.code yX8_tells cX8_tells 4 (some .boolean), Cond.methodLink RX8 154 yX8_isSeen, Cond.instanceMethod yX8_isSeen, Cond.selects RX8 yX8_isSeen yX8_isSeen]
def wsX8_shut_r2 : List Cond := [Cond.code yX8_isSeen cX8_isSeen 4 (some .boolean)]
def wsX8_shut : List Cond := .code yX8_shut cX8_shut 4 (some .int) :: ((wsX8_shut_r1 ++ wsX8_shut_r2) ++ wsX80)
def wsX8_quick_r1 : List Cond := [Cond.constant RX8 52 (-1000001), Cond.constant RX8 200 (-1000000), Cond.methodLink RX8 184 yX8_isMeans, Cond.static yX8_isMeans, Cond.initialized RX8, Cond.code yX8_isMeans cX8_isMeans 1 (some .boolean), Cond.constantLong RX8 182 (3), Cond.methodLink RX8 42 yX8_in, Cond.static yX8_in, Cond.code yX8_in cX8_in 6 (some .boolean), Cond.methodLink RX8 187 yX8_areStreets, Cond.instanceMethod yX8_areStreets, Cond.selects RX8 yX8_areStreets yX8_areStreets, Cond.code yX8_areStreets cX8_areStreets 3 (some .boolean), Cond.methodLink RX8 151 yX8_isStreet, Cond.instanceMethod yX8_isStreet, Cond.selects RX8 yX8_isStreet yX8_isStreet, Cond.code yX8_isStreet cX8_isStreet 2 (some .boolean), Cond.fieldLink RX8 7 "SignDutyModel" "row" "[I", Cond.methodLink RX8 201 yX8_soonest, Cond.instanceMethod yX8_soonest, Cond.selects RX8 yX8_soonest yX8_soonest, Cond.code yX8_soonest cX8_soonest 6 (some .int), Cond.methodLink RX8 174 yX8_tells]
def wsX8_quick_r2 : List Cond := [Cond.instanceMethod yX8_tells, Cond.selects RX8 yX8_tells yX8_tells, Cond.code yX8_tells cX8_tells 4 (some .boolean), Cond.methodLink RX8 154 yX8_isSeen, Cond.instanceMethod yX8_isSeen, Cond.selects RX8 yX8_isSeen yX8_isSeen, Cond.code yX8_isSeen cX8_isSeen 4 (some .boolean)]
def wsX8_quick : List Cond := .code yX8_quick cX8_quick 6 (some .int) :: ((wsX8_quick_r1 ++ wsX8_quick_r2) ++ wsX80)
def wsX8_noPairs : List Cond := .code yX8_noPairs cX8_noPairs 6 (some .int) :: ([.fieldLink RX8 20 "SignDutyModel" "sizes" "[I", .fieldLink RX8 23 "SignDutyModel" "items" "[I", .constant RX8 52 (-1000001), .methodLink RX8 53 yX8_find, .instanceMethod yX8_find, .selects RX8 yX8_find yX8_find, .initialized RX8, .code yX8_find cX8_find 2 (some .int), .fieldLink RX8 35 "SignDutyModel" "status" "I", .constant RX8 39 (-1000010), .methodLink RX8 64 yX8_isSpan, .instanceMethod yX8_isSpan, .selects RX8 yX8_isSpan yX8_isSpan, .code yX8_isSpan cX8_isSpan 4 (some .boolean), .methodLink RX8 151 yX8_isStreet, .instanceMethod yX8_isStreet, .selects RX8 yX8_isStreet yX8_isStreet, .code yX8_isStreet cX8_isStreet 2 (some .boolean), .fieldLink RX8 7 "SignDutyModel" "row" "[I", .methodLink RX8 42 yX8_in, .static yX8_in, .code yX8_in cX8_in 6 (some .boolean)] ++ wsX80)
def wsX8_owesSo : List Cond := .code yX8_owesSo cX8_owesSo 8 (some .boolean) :: ([.fieldLink RX8 23 "SignDutyModel" "items" "[I", .methodLink RX8 145 yX8_owes, .instanceMethod yX8_owes, .selects RX8 yX8_owes yX8_owes, .initialized RX8, .code yX8_owes cX8_owes 5 (some .int), .fieldLink RX8 7 "SignDutyModel" "row" "[I", .methodLink RX8 138 yX8_plainDuty, .instanceMethod yX8_plainDuty, .selects RX8 yX8_plainDuty yX8_plainDuty, .code yX8_plainDuty cX8_plainDuty 4 (some .int), .methodLink RX8 135 yX8_wave, .instanceMethod yX8_wave, .selects RX8 yX8_wave yX8_wave, .code yX8_wave cX8_wave 3 (some .int), .methodLink RX8 142 yX8_has, .static yX8_has, .code yX8_has cX8_has 2 (some .boolean)] ++ wsX80)
def wsX8_isSeenSo : List Cond := .code yX8_isSeenSo cX8_isSeenSo 7 (some .boolean) :: ([.fieldLink RX8 23 "SignDutyModel" "items" "[I", .methodLink RX8 154 yX8_isSeen, .instanceMethod yX8_isSeen, .selects RX8 yX8_isSeen yX8_isSeen, .initialized RX8, .code yX8_isSeen cX8_isSeen 4 (some .boolean), .fieldLink RX8 7 "SignDutyModel" "row" "[I"] ++ wsX80)
def wsX8_thread_r1 : List Cond := [Cond.fieldLink RX8 127 "SignDutyModel" "isCity" "Z", Cond.constant RX8 134 (-1000002), Cond.constantLong RX8 204 (12), Cond.constant RX8 52 (-1000001), Cond.fieldLink RX8 7 "SignDutyModel" "row" "[I", Cond.methodLink RX8 46 yX8_isRow, Cond.static yX8_isRow, Cond.initialized RX8, Cond.code yX8_isRow cX8_isRow 1 (some .boolean), Cond.constantLong RX8 40 (7), Cond.methodLink RX8 42 yX8_in, Cond.static yX8_in, Cond.code yX8_in cX8_in 6 (some .boolean), Cond.methodLink RX8 206 yX8_noPairs, Cond.instanceMethod yX8_noPairs, Cond.selects RX8 yX8_noPairs yX8_noPairs, Cond.code yX8_noPairs cX8_noPairs 6 (some .int), Cond.fieldLink RX8 20 "SignDutyModel" "sizes" "[I", Cond.fieldLink RX8 23 "SignDutyModel" "items" "[I", Cond.methodLink RX8 53 yX8_find, Cond.instanceMethod yX8_find, Cond.selects RX8 yX8_find yX8_find, Cond.code yX8_find cX8_find 2 (some .int), Cond.fieldLink RX8 35 "SignDutyModel" "status" "I"]
def wsX8_thread_r2 : List Cond := [Cond.constant RX8 39 (-1000010), Cond.methodLink RX8 64 yX8_isSpan, Cond.instanceMethod yX8_isSpan, Cond.selects RX8 yX8_isSpan yX8_isSpan, Cond.code yX8_isSpan cX8_isSpan 4 (some .boolean), Cond.methodLink RX8 151 yX8_isStreet, Cond.instanceMethod yX8_isStreet, Cond.selects RX8 yX8_isStreet yX8_isStreet, Cond.code yX8_isStreet cX8_isStreet 2 (some .boolean), Cond.methodLink RX8 209 yX8_isSeenSo, Cond.instanceMethod yX8_isSeenSo, Cond.selects RX8 yX8_isSeenSo yX8_isSeenSo, Cond.code yX8_isSeenSo cX8_isSeenSo 7 (some .boolean), Cond.methodLink RX8 154 yX8_isSeen, Cond.instanceMethod yX8_isSeen, Cond.selects RX8 yX8_isSeen yX8_isSeen, Cond.code yX8_isSeen cX8_isSeen 4 (some .boolean), Cond.methodLink RX8 213 yX8_owesSo, Cond.instanceMethod yX8_owesSo, Cond.selects RX8 yX8_owesSo yX8_owesSo, Cond.code yX8_owesSo cX8_owesSo 8 (some .boolean), Cond.methodLink RX8 145 yX8_owes, Cond.instanceMethod yX8_owes, Cond.selects RX8 yX8_owes yX8_owes]
def wsX8_thread_r3 : List Cond := [Cond.code yX8_owes cX8_owes 5 (some .int), Cond.methodLink RX8 138 yX8_plainDuty, Cond.instanceMethod yX8_plainDuty, Cond.selects RX8 yX8_plainDuty yX8_plainDuty, Cond.code yX8_plainDuty cX8_plainDuty 4 (some .int), Cond.methodLink RX8 135 yX8_wave, Cond.instanceMethod yX8_wave, Cond.selects RX8 yX8_wave yX8_wave, Cond.code yX8_wave cX8_wave 3 (some .int), Cond.methodLink RX8 142 yX8_has, Cond.static yX8_has, Cond.code yX8_has cX8_has 2 (some .boolean), Cond.methodLink RX8 57 yX8_well, Cond.instanceMethod yX8_well, Cond.selects RX8 yX8_well yX8_well, Cond.code yX8_well cX8_well 2 (some .int)]
def wsX8_thread : List Cond := .code yX8_thread cX8_thread 7 (some .int) :: ((wsX8_thread_r1 ++ (wsX8_thread_r2 ++ wsX8_thread_r3)) ++ wsX80)
def wsX8_inches_r1 : List Cond := [Cond.constantLong RX8 204 (12), Cond.constant RX8 52 (-1000001), Cond.fieldLink RX8 7 "SignDutyModel" "row" "[I", Cond.methodLink RX8 148 yX8_isGesture, Cond.instanceMethod yX8_isGesture, Cond.selects RX8 yX8_isGesture yX8_isGesture, Cond.initialized RX8, Cond.code yX8_isGesture cX8_isGesture 2 (some .boolean), Cond.methodLink RX8 42 yX8_in, Cond.static yX8_in, Cond.code yX8_in cX8_in 6 (some .boolean), Cond.methodLink RX8 46 yX8_isRow, Cond.static yX8_isRow, Cond.code yX8_isRow cX8_isRow 1 (some .boolean), Cond.constantLong RX8 40 (7), Cond.methodLink RX8 206 yX8_noPairs, Cond.instanceMethod yX8_noPairs, Cond.selects RX8 yX8_noPairs yX8_noPairs, Cond.code yX8_noPairs cX8_noPairs 6 (some .int), Cond.fieldLink RX8 20 "SignDutyModel" "sizes" "[I", Cond.fieldLink RX8 23 "SignDutyModel" "items" "[I", Cond.methodLink RX8 53 yX8_find, Cond.instanceMethod yX8_find, Cond.selects RX8 yX8_find yX8_find]
def wsX8_inches_r2 : List Cond := [Cond.code yX8_find cX8_find 2 (some .int), Cond.fieldLink RX8 35 "SignDutyModel" "status" "I", Cond.constant RX8 39 (-1000010), Cond.methodLink RX8 64 yX8_isSpan, Cond.instanceMethod yX8_isSpan, Cond.selects RX8 yX8_isSpan yX8_isSpan, Cond.code yX8_isSpan cX8_isSpan 4 (some .boolean), Cond.methodLink RX8 151 yX8_isStreet, Cond.instanceMethod yX8_isStreet, Cond.selects RX8 yX8_isStreet yX8_isStreet, Cond.code yX8_isStreet cX8_isStreet 2 (some .boolean), Cond.methodLink RX8 213 yX8_owesSo, Cond.instanceMethod yX8_owesSo, Cond.selects RX8 yX8_owesSo yX8_owesSo, Cond.code yX8_owesSo cX8_owesSo 8 (some .boolean), Cond.methodLink RX8 145 yX8_owes, Cond.instanceMethod yX8_owes, Cond.selects RX8 yX8_owes yX8_owes, Cond.code yX8_owes cX8_owes 5 (some .int), Cond.methodLink RX8 138 yX8_plainDuty, Cond.instanceMethod yX8_plainDuty, Cond.selects RX8 yX8_plainDuty yX8_plainDuty, Cond.code yX8_plainDuty cX8_plainDuty 4 (some .int), Cond.methodLink RX8 135 yX8_wave]
def wsX8_inches_r3 : List Cond := [Cond.instanceMethod yX8_wave, Cond.selects RX8 yX8_wave yX8_wave, Cond.code yX8_wave cX8_wave 3 (some .int), Cond.methodLink RX8 142 yX8_has, Cond.static yX8_has, Cond.code yX8_has cX8_has 2 (some .boolean), Cond.methodLink RX8 57 yX8_well, Cond.instanceMethod yX8_well, Cond.selects RX8 yX8_well yX8_well, Cond.code yX8_well cX8_well 2 (some .int)]
def wsX8_inches : List Cond := .code yX8_inches cX8_inches 8 (some .int) :: ((wsX8_inches_r1 ++ (wsX8_inches_r2 ++ wsX8_inches_r3)) ++ wsX80)
def wsX8_sorts_r1 : List Cond := [Cond.constantLong RX8 204 (12), Cond.constant RX8 52 (-1000001), Cond.fieldLink RX8 7 "SignDutyModel" "row" "[I", Cond.methodLink RX8 148 yX8_isGesture, Cond.instanceMethod yX8_isGesture, Cond.selects RX8 yX8_isGesture yX8_isGesture, Cond.initialized RX8, Cond.code yX8_isGesture cX8_isGesture 2 (some .boolean), Cond.methodLink RX8 42 yX8_in, Cond.static yX8_in, Cond.code yX8_in cX8_in 6 (some .boolean), Cond.methodLink RX8 46 yX8_isRow, Cond.static yX8_isRow, Cond.code yX8_isRow cX8_isRow 1 (some .boolean), Cond.constantLong RX8 40 (7), Cond.methodLink RX8 206 yX8_noPairs, Cond.instanceMethod yX8_noPairs, Cond.selects RX8 yX8_noPairs yX8_noPairs, Cond.code yX8_noPairs cX8_noPairs 6 (some .int), Cond.fieldLink RX8 20 "SignDutyModel" "sizes" "[I", Cond.fieldLink RX8 23 "SignDutyModel" "items" "[I", Cond.methodLink RX8 53 yX8_find, Cond.instanceMethod yX8_find, Cond.selects RX8 yX8_find yX8_find]
def wsX8_sorts_r2 : List Cond := [Cond.code yX8_find cX8_find 2 (some .int), Cond.fieldLink RX8 35 "SignDutyModel" "status" "I", Cond.constant RX8 39 (-1000010), Cond.methodLink RX8 64 yX8_isSpan, Cond.instanceMethod yX8_isSpan, Cond.selects RX8 yX8_isSpan yX8_isSpan, Cond.code yX8_isSpan cX8_isSpan 4 (some .boolean), Cond.methodLink RX8 151 yX8_isStreet, Cond.instanceMethod yX8_isStreet, Cond.selects RX8 yX8_isStreet yX8_isStreet, Cond.code yX8_isStreet cX8_isStreet 2 (some .boolean), Cond.methodLink RX8 213 yX8_owesSo, Cond.instanceMethod yX8_owesSo, Cond.selects RX8 yX8_owesSo yX8_owesSo, Cond.code yX8_owesSo cX8_owesSo 8 (some .boolean), Cond.methodLink RX8 145 yX8_owes, Cond.instanceMethod yX8_owes, Cond.selects RX8 yX8_owes yX8_owes, Cond.code yX8_owes cX8_owes 5 (some .int), Cond.methodLink RX8 138 yX8_plainDuty, Cond.instanceMethod yX8_plainDuty, Cond.selects RX8 yX8_plainDuty yX8_plainDuty, Cond.code yX8_plainDuty cX8_plainDuty 4 (some .int), Cond.methodLink RX8 135 yX8_wave]
def wsX8_sorts_r3 : List Cond := [Cond.instanceMethod yX8_wave, Cond.selects RX8 yX8_wave yX8_wave, Cond.code yX8_wave cX8_wave 3 (some .int), Cond.methodLink RX8 142 yX8_has, Cond.static yX8_has, Cond.code yX8_has cX8_has 2 (some .boolean), Cond.methodLink RX8 57 yX8_well, Cond.instanceMethod yX8_well, Cond.selects RX8 yX8_well yX8_well, Cond.code yX8_well cX8_well 2 (some .int)]
def wsX8_sorts : List Cond := .code yX8_sorts cX8_sorts 8 (some .int) :: ((wsX8_sorts_r1 ++ (wsX8_sorts_r2 ++ wsX8_sorts_r3)) ++ wsX80)
def wsX8_saved_r1 : List Cond := [Cond.constant RX8 52 (-1000001), Cond.fieldLink RX8 7 "SignDutyModel" "row" "[I", Cond.methodLink RX8 148 yX8_isGesture, Cond.instanceMethod yX8_isGesture, Cond.selects RX8 yX8_isGesture yX8_isGesture, Cond.initialized RX8, Cond.code yX8_isGesture cX8_isGesture 2 (some .boolean), Cond.methodLink RX8 42 yX8_in, Cond.static yX8_in, Cond.code yX8_in cX8_in 6 (some .boolean), Cond.methodLink RX8 157 yX8_dutyOf, Cond.instanceMethod yX8_dutyOf, Cond.selects RX8 yX8_dutyOf yX8_dutyOf, Cond.code yX8_dutyOf cX8_dutyOf 3 (some .int), Cond.methodLink RX8 145 yX8_owes, Cond.instanceMethod yX8_owes, Cond.selects RX8 yX8_owes yX8_owes, Cond.code yX8_owes cX8_owes 5 (some .int), Cond.methodLink RX8 138 yX8_plainDuty, Cond.instanceMethod yX8_plainDuty, Cond.selects RX8 yX8_plainDuty yX8_plainDuty, Cond.code yX8_plainDuty cX8_plainDuty 4 (some .int), Cond.methodLink RX8 135 yX8_wave, Cond.instanceMethod yX8_wave]
def wsX8_saved_r2 : List Cond := [Cond.selects RX8 yX8_wave yX8_wave, Cond.code yX8_wave cX8_wave 3 (some .int), Cond.methodLink RX8 142 yX8_has, Cond.static yX8_has, Cond.code yX8_has cX8_has 2 (some .boolean)]
def wsX8_saved : List Cond := .code yX8_saved cX8_saved 4 (some .int) :: ((wsX8_saved_r1 ++ wsX8_saved_r2) ++ wsX80)
def wsX8_worst_r1 : List Cond := [Cond.constant RX8 52 (-1000001), Cond.constant RX8 200 (-1000000), Cond.fieldLink RX8 7 "SignDutyModel" "row" "[I", Cond.methodLink RX8 148 yX8_isGesture, Cond.instanceMethod yX8_isGesture, Cond.selects RX8 yX8_isGesture yX8_isGesture, Cond.initialized RX8, Cond.code yX8_isGesture cX8_isGesture 2 (some .boolean), Cond.methodLink RX8 42 yX8_in, Cond.static yX8_in, Cond.code yX8_in cX8_in 6 (some .boolean), Cond.methodLink RX8 157 yX8_dutyOf, Cond.instanceMethod yX8_dutyOf, Cond.selects RX8 yX8_dutyOf yX8_dutyOf, Cond.code yX8_dutyOf cX8_dutyOf 3 (some .int), Cond.methodLink RX8 145 yX8_owes, Cond.instanceMethod yX8_owes, Cond.selects RX8 yX8_owes yX8_owes, Cond.code yX8_owes cX8_owes 5 (some .int), Cond.methodLink RX8 138 yX8_plainDuty, Cond.instanceMethod yX8_plainDuty, Cond.selects RX8 yX8_plainDuty yX8_plainDuty, Cond.code yX8_plainDuty cX8_plainDuty 4 (some .int), Cond.methodLink RX8 135 yX8_wave]
def wsX8_worst_r2 : List Cond := [Cond.instanceMethod yX8_wave, Cond.selects RX8 yX8_wave yX8_wave, Cond.code yX8_wave cX8_wave 3 (some .int), Cond.methodLink RX8 142 yX8_has, Cond.static yX8_has, Cond.code yX8_has cX8_has 2 (some .boolean)]
def wsX8_worst : List Cond := .code yX8_worst cX8_worst 7 (some .int) :: ((wsX8_worst_r1 ++ wsX8_worst_r2) ++ wsX80)
def wsX8_tremble_r1 : List Cond := [Cond.constantLong RX8 217 (9999), Cond.constantLong RX8 219 (10), Cond.constant RX8 52 (-1000001), Cond.fieldLink RX8 7 "SignDutyModel" "row" "[I", Cond.methodLink RX8 148 yX8_isGesture, Cond.instanceMethod yX8_isGesture, Cond.selects RX8 yX8_isGesture yX8_isGesture, Cond.initialized RX8, Cond.code yX8_isGesture cX8_isGesture 2 (some .boolean), Cond.methodLink RX8 42 yX8_in, Cond.static yX8_in, Cond.code yX8_in cX8_in 6 (some .boolean), Cond.methodLink RX8 187 yX8_areStreets, Cond.instanceMethod yX8_areStreets, Cond.selects RX8 yX8_areStreets yX8_areStreets, Cond.code yX8_areStreets cX8_areStreets 3 (some .boolean), Cond.methodLink RX8 151 yX8_isStreet, Cond.instanceMethod yX8_isStreet, Cond.selects RX8 yX8_isStreet yX8_isStreet, Cond.code yX8_isStreet cX8_isStreet 2 (some .boolean), Cond.methodLink RX8 142 yX8_has, Cond.static yX8_has, Cond.code yX8_has cX8_has 2 (some .boolean), Cond.methodLink RX8 145 yX8_owes]
def wsX8_tremble_r2 : List Cond := [Cond.instanceMethod yX8_owes, Cond.selects RX8 yX8_owes yX8_owes, Cond.code yX8_owes cX8_owes 5 (some .int), Cond.methodLink RX8 138 yX8_plainDuty, Cond.instanceMethod yX8_plainDuty, Cond.selects RX8 yX8_plainDuty yX8_plainDuty, Cond.code yX8_plainDuty cX8_plainDuty 4 (some .int), Cond.methodLink RX8 135 yX8_wave, Cond.instanceMethod yX8_wave, Cond.selects RX8 yX8_wave yX8_wave, Cond.code yX8_wave cX8_wave 3 (some .int)]
def wsX8_tremble : List Cond := .code yX8_tremble cX8_tremble 15 (some .int) :: ((wsX8_tremble_r1 ++ wsX8_tremble_r2) ++ wsX80)
def wsX8_image : List Cond := .code yX8_image cX8_image 2 (some .int) :: ([.constant RX8 52 (-1000001), .fieldLink RX8 127 "SignDutyModel" "isCity" "Z", .constant RX8 134 (-1000002), .fieldLink RX8 13 "SignDutyModel" "isKept" "[Z", .methodLink RX8 42 yX8_in, .static yX8_in, .initialized RX8, .code yX8_in cX8_in 6 (some .boolean), .methodLink RX8 123 yX8_copyTown, .instanceMethod yX8_copyTown, .selects RX8 yX8_copyTown yX8_copyTown, .code yX8_copyTown cX8_copyTown 4 none, .fieldLink RX8 7 "SignDutyModel" "row" "[I"] ++ wsX80)
def wsX8_restore : List Cond := .code yX8_restore cX8_restore 2 (some .int) :: ([.constant RX8 52 (-1000001), .fieldLink RX8 13 "SignDutyModel" "isKept" "[Z", .constant RX8 134 (-1000002), .fieldLink RX8 131 "SignDutyModel" "undos" "I", .methodLink RX8 42 yX8_in, .static yX8_in, .initialized RX8, .code yX8_in cX8_in 6 (some .boolean), .methodLink RX8 123 yX8_copyTown, .instanceMethod yX8_copyTown, .selects RX8 yX8_copyTown yX8_copyTown, .code yX8_copyTown cX8_copyTown 4 none, .fieldLink RX8 7 "SignDutyModel" "row" "[I"] ++ wsX80)
def wsX8_kind : List Cond := .code yX8_kind cX8_kind 2 (some .int) :: ([.fieldLink RX8 7 "SignDutyModel" "row" "[I", .constant RX8 52 (-1000001), .methodLink RX8 148 yX8_isGesture, .instanceMethod yX8_isGesture, .selects RX8 yX8_isGesture yX8_isGesture, .initialized RX8, .code yX8_isGesture cX8_isGesture 2 (some .boolean), .methodLink RX8 42 yX8_in, .static yX8_in, .code yX8_in cX8_in 6 (some .boolean)] ++ wsX80)
def wsX8_isOf : List Cond := .code yX8_isOf cX8_isOf 4 (some .boolean) :: ([.fieldLink RX8 7 "SignDutyModel" "row" "[I"] ++ wsX80)
def wsX8_as_r1 : List Cond := [Cond.constantLong RX8 221 (5), Cond.constant RX8 52 (-1000001), Cond.methodLink RX8 148 yX8_isGesture, Cond.instanceMethod yX8_isGesture, Cond.selects RX8 yX8_isGesture yX8_isGesture, Cond.initialized RX8, Cond.code yX8_isGesture cX8_isGesture 2 (some .boolean), Cond.fieldLink RX8 7 "SignDutyModel" "row" "[I", Cond.methodLink RX8 42 yX8_in, Cond.static yX8_in, Cond.code yX8_in cX8_in 6 (some .boolean), Cond.methodLink RX8 223 yX8_isOf, Cond.instanceMethod yX8_isOf, Cond.selects RX8 yX8_isOf yX8_isOf, Cond.code yX8_isOf cX8_isOf 4 (some .boolean), Cond.methodLink RX8 57 yX8_well, Cond.instanceMethod yX8_well, Cond.selects RX8 yX8_well yX8_well, Cond.code yX8_well cX8_well 2 (some .int), Cond.fieldLink RX8 35 "SignDutyModel" "status" "I", Cond.methodLink RX8 53 yX8_find, Cond.instanceMethod yX8_find, Cond.selects RX8 yX8_find yX8_find, Cond.code yX8_find cX8_find 2 (some .int)]
def wsX8_as_r2 : List Cond := [Cond.constant RX8 39 (-1000010)]
def wsX8_as : List Cond := .code yX8_as cX8_as 3 (some .int) :: ((wsX8_as_r1 ++ wsX8_as_r2) ++ wsX80)
def wsX8_begin : List Cond := .code yX8_begin cX8_begin 2 none :: ([.fieldLink RX8 226 "SignDutyModel" "traced" "I", .fieldLink RX8 29 "SignDutyModel" "trace" "[I"] ++ wsX80)
def wsX8_lentSize : List Cond := .code yX8_lentSize cX8_lentSize 2 (some .int) :: ([.fieldLink RX8 7 "SignDutyModel" "row" "[I", .methodLink RX8 229 yX8_begin, .instanceMethod yX8_begin, .selects RX8 yX8_begin yX8_begin, .initialized RX8, .code yX8_begin cX8_begin 2 none, .fieldLink RX8 226 "SignDutyModel" "traced" "I", .fieldLink RX8 29 "SignDutyModel" "trace" "[I"] ++ wsX80)
def wsX8_lentMark : List Cond := .code yX8_lentMark cX8_lentMark 2 (some .int) :: ([.methodLink RX8 229 yX8_begin, .instanceMethod yX8_begin, .selects RX8 yX8_begin yX8_begin, .initialized RX8, .code yX8_begin cX8_begin 2 none, .fieldLink RX8 226 "SignDutyModel" "traced" "I", .fieldLink RX8 29 "SignDutyModel" "trace" "[I"] ++ wsX80)
def wsX8_wavesMark : List Cond := .code yX8_wavesMark cX8_wavesMark 2 (some .int) :: ([.fieldLink RX8 7 "SignDutyModel" "row" "[I", .methodLink RX8 229 yX8_begin, .instanceMethod yX8_begin, .selects RX8 yX8_begin yX8_begin, .initialized RX8, .code yX8_begin cX8_begin 2 none, .fieldLink RX8 226 "SignDutyModel" "traced" "I", .fieldLink RX8 29 "SignDutyModel" "trace" "[I", .methodLink RX8 245 yX8_lentMark, .instanceMethod yX8_lentMark, .selects RX8 yX8_lentMark yX8_lentMark, .code yX8_lentMark cX8_lentMark 2 (some .int)] ++ wsX80)
def wsX8_mark : List Cond := .code yX8_mark cX8_mark 2 (some .int) :: ([.fieldLink RX8 7 "SignDutyModel" "row" "[I", .methodLink RX8 229 yX8_begin, .instanceMethod yX8_begin, .selects RX8 yX8_begin yX8_begin, .initialized RX8, .code yX8_begin cX8_begin 2 none, .fieldLink RX8 226 "SignDutyModel" "traced" "I", .fieldLink RX8 29 "SignDutyModel" "trace" "[I", .methodLink RX8 248 yX8_wavesMark, .instanceMethod yX8_wavesMark, .selects RX8 yX8_wavesMark yX8_wavesMark, .code yX8_wavesMark cX8_wavesMark 2 (some .int), .methodLink RX8 245 yX8_lentMark, .instanceMethod yX8_lentMark, .selects RX8 yX8_lentMark yX8_lentMark, .code yX8_lentMark cX8_lentMark 2 (some .int)] ++ wsX80)
def wsX8_wavesSize : List Cond := .code yX8_wavesSize cX8_wavesSize 3 (some .int) :: ([.methodLink RX8 229 yX8_begin, .instanceMethod yX8_begin, .selects RX8 yX8_begin yX8_begin, .initialized RX8, .code yX8_begin cX8_begin 2 none, .fieldLink RX8 226 "SignDutyModel" "traced" "I", .fieldLink RX8 29 "SignDutyModel" "trace" "[I", .methodLink RX8 233 yX8_lentSize, .instanceMethod yX8_lentSize, .selects RX8 yX8_lentSize yX8_lentSize, .code yX8_lentSize cX8_lentSize 2 (some .int), .fieldLink RX8 7 "SignDutyModel" "row" "[I", .methodLink RX8 236 yX8_mark, .instanceMethod yX8_mark, .selects RX8 yX8_mark yX8_mark, .code yX8_mark cX8_mark 2 (some .int), .methodLink RX8 248 yX8_wavesMark, .instanceMethod yX8_wavesMark, .selects RX8 yX8_wavesMark yX8_wavesMark, .code yX8_wavesMark cX8_wavesMark 2 (some .int), .methodLink RX8 245 yX8_lentMark, .instanceMethod yX8_lentMark, .selects RX8 yX8_lentMark yX8_lentMark, .code yX8_lentMark cX8_lentMark 2 (some .int)] ++ wsX80)
def wsX8_winksSize : List Cond := .code yX8_winksSize cX8_winksSize 2 (some .int) :: ([.methodLink RX8 229 yX8_begin, .instanceMethod yX8_begin, .selects RX8 yX8_begin yX8_begin, .initialized RX8, .code yX8_begin cX8_begin 2 none, .fieldLink RX8 226 "SignDutyModel" "traced" "I", .fieldLink RX8 29 "SignDutyModel" "trace" "[I", .methodLink RX8 233 yX8_lentSize, .instanceMethod yX8_lentSize, .selects RX8 yX8_lentSize yX8_lentSize, .code yX8_lentSize cX8_lentSize 2 (some .int), .fieldLink RX8 7 "SignDutyModel" "row" "[I"] ++ wsX80)
def wsX8_sizeOf_r1 : List Cond := [Cond.fieldLink RX8 7 "SignDutyModel" "row" "[I", Cond.methodLink RX8 229 yX8_begin, Cond.instanceMethod yX8_begin, Cond.selects RX8 yX8_begin yX8_begin, Cond.initialized RX8, Cond.code yX8_begin cX8_begin 2 none, Cond.fieldLink RX8 226 "SignDutyModel" "traced" "I", Cond.fieldLink RX8 29 "SignDutyModel" "trace" "[I", Cond.methodLink RX8 239 yX8_wavesSize, Cond.instanceMethod yX8_wavesSize, Cond.selects RX8 yX8_wavesSize yX8_wavesSize, Cond.code yX8_wavesSize cX8_wavesSize 3 (some .int), Cond.methodLink RX8 233 yX8_lentSize, Cond.instanceMethod yX8_lentSize, Cond.selects RX8 yX8_lentSize yX8_lentSize, Cond.code yX8_lentSize cX8_lentSize 2 (some .int), Cond.methodLink RX8 236 yX8_mark, Cond.instanceMethod yX8_mark, Cond.selects RX8 yX8_mark yX8_mark, Cond.code yX8_mark cX8_mark 2 (some .int), Cond.methodLink RX8 248 yX8_wavesMark, Cond.instanceMethod yX8_wavesMark, Cond.selects RX8 yX8_wavesMark yX8_wavesMark, Cond.code yX8_wavesMark cX8_wavesMark 2 (some .int)]
def wsX8_sizeOf_r2 : List Cond := [Cond.methodLink RX8 245 yX8_lentMark, Cond.instanceMethod yX8_lentMark, Cond.selects RX8 yX8_lentMark yX8_lentMark, Cond.code yX8_lentMark cX8_lentMark 2 (some .int), Cond.methodLink RX8 242 yX8_winksSize, Cond.instanceMethod yX8_winksSize, Cond.selects RX8 yX8_winksSize yX8_winksSize, Cond.code yX8_winksSize cX8_winksSize 2 (some .int)]
def wsX8_sizeOf : List Cond := .code yX8_sizeOf cX8_sizeOf 2 (some .int) :: ((wsX8_sizeOf_r1 ++ wsX8_sizeOf_r2) ++ wsX80)
def wsX8_winksMark_r1 : List Cond := [Cond.methodLink RX8 229 yX8_begin, Cond.instanceMethod yX8_begin, Cond.selects RX8 yX8_begin yX8_begin, Cond.initialized RX8, Cond.code yX8_begin cX8_begin 2 none, Cond.fieldLink RX8 226 "SignDutyModel" "traced" "I", Cond.fieldLink RX8 29 "SignDutyModel" "trace" "[I", Cond.methodLink RX8 245 yX8_lentMark, Cond.instanceMethod yX8_lentMark, Cond.selects RX8 yX8_lentMark yX8_lentMark, Cond.code yX8_lentMark cX8_lentMark 2 (some .int), Cond.methodLink RX8 251 yX8_sizeOf, Cond.instanceMethod yX8_sizeOf, Cond.selects RX8 yX8_sizeOf yX8_sizeOf, Cond.code yX8_sizeOf cX8_sizeOf 2 (some .int), Cond.fieldLink RX8 7 "SignDutyModel" "row" "[I", Cond.methodLink RX8 239 yX8_wavesSize, Cond.instanceMethod yX8_wavesSize, Cond.selects RX8 yX8_wavesSize yX8_wavesSize, Cond.code yX8_wavesSize cX8_wavesSize 3 (some .int), Cond.methodLink RX8 233 yX8_lentSize, Cond.instanceMethod yX8_lentSize, Cond.selects RX8 yX8_lentSize yX8_lentSize, Cond.code yX8_lentSize cX8_lentSize 2 (some .int)]
def wsX8_winksMark_r2 : List Cond := [Cond.methodLink RX8 236 yX8_mark, Cond.instanceMethod yX8_mark, Cond.selects RX8 yX8_mark yX8_mark, Cond.code yX8_mark cX8_mark 2 (some .int), Cond.methodLink RX8 248 yX8_wavesMark, Cond.instanceMethod yX8_wavesMark, Cond.selects RX8 yX8_wavesMark yX8_wavesMark, Cond.code yX8_wavesMark cX8_wavesMark 2 (some .int), Cond.methodLink RX8 242 yX8_winksSize, Cond.instanceMethod yX8_winksSize, Cond.selects RX8 yX8_winksSize yX8_winksSize, Cond.code yX8_winksSize cX8_winksSize 2 (some .int)]
def wsX8_winksMark : List Cond := .code yX8_winksMark cX8_winksMark 3 (some .int) :: ((wsX8_winksMark_r1 ++ wsX8_winksMark_r2) ++ wsX80)
def wsX8_ask_r1 : List Cond := [Cond.constant RX8 52 (-1000001), Cond.fieldLink RX8 226 "SignDutyModel" "traced" "I", Cond.methodLink RX8 148 yX8_isGesture, Cond.instanceMethod yX8_isGesture, Cond.selects RX8 yX8_isGesture yX8_isGesture, Cond.initialized RX8, Cond.code yX8_isGesture cX8_isGesture 2 (some .boolean), Cond.fieldLink RX8 7 "SignDutyModel" "row" "[I", Cond.methodLink RX8 42 yX8_in, Cond.static yX8_in, Cond.code yX8_in cX8_in 6 (some .boolean), Cond.methodLink RX8 251 yX8_sizeOf, Cond.instanceMethod yX8_sizeOf, Cond.selects RX8 yX8_sizeOf yX8_sizeOf, Cond.code yX8_sizeOf cX8_sizeOf 2 (some .int), Cond.methodLink RX8 229 yX8_begin, Cond.instanceMethod yX8_begin, Cond.selects RX8 yX8_begin yX8_begin, Cond.code yX8_begin cX8_begin 2 none, Cond.fieldLink RX8 29 "SignDutyModel" "trace" "[I", Cond.methodLink RX8 239 yX8_wavesSize, Cond.instanceMethod yX8_wavesSize, Cond.selects RX8 yX8_wavesSize yX8_wavesSize, Cond.code yX8_wavesSize cX8_wavesSize 3 (some .int)]
def wsX8_ask_r2 : List Cond := [Cond.methodLink RX8 233 yX8_lentSize, Cond.instanceMethod yX8_lentSize, Cond.selects RX8 yX8_lentSize yX8_lentSize, Cond.code yX8_lentSize cX8_lentSize 2 (some .int), Cond.methodLink RX8 236 yX8_mark, Cond.instanceMethod yX8_mark, Cond.selects RX8 yX8_mark yX8_mark, Cond.code yX8_mark cX8_mark 2 (some .int), Cond.methodLink RX8 248 yX8_wavesMark, Cond.instanceMethod yX8_wavesMark, Cond.selects RX8 yX8_wavesMark yX8_wavesMark, Cond.code yX8_wavesMark cX8_wavesMark 2 (some .int), Cond.methodLink RX8 245 yX8_lentMark, Cond.instanceMethod yX8_lentMark, Cond.selects RX8 yX8_lentMark yX8_lentMark, Cond.code yX8_lentMark cX8_lentMark 2 (some .int), Cond.methodLink RX8 242 yX8_winksSize, Cond.instanceMethod yX8_winksSize, Cond.selects RX8 yX8_winksSize yX8_winksSize, Cond.code yX8_winksSize cX8_winksSize 2 (some .int), Cond.methodLink RX8 223 yX8_isOf, Cond.instanceMethod yX8_isOf, Cond.selects RX8 yX8_isOf yX8_isOf, Cond.code yX8_isOf cX8_isOf 4 (some .boolean)]
def wsX8_ask_r3 : List Cond := [Cond.methodLink RX8 254 yX8_winksMark, Cond.instanceMethod yX8_winksMark, Cond.selects RX8 yX8_winksMark yX8_winksMark, Cond.code yX8_winksMark cX8_winksMark 3 (some .int)]
def wsX8_ask : List Cond := .code yX8_ask cX8_ask 3 (some .int) :: ((wsX8_ask_r1 ++ (wsX8_ask_r2 ++ wsX8_ask_r3)) ++ wsX80)
def wsX8_trace : List Cond := .code yX8_trace cX8_trace 2 (some .int) :: ([.fieldLink RX8 226 "SignDutyModel" "traced" "I", .fieldLink RX8 29 "SignDutyModel" "trace" "[I", .constant RX8 200 (-1000000), .methodLink RX8 42 yX8_in, .static yX8_in, .initialized RX8, .code yX8_in cX8_in 6 (some .boolean)] ++ wsX80)
def wsX8_count : List Cond := .code yX8_count cX8_count 4 (some .int) :: ([.fieldLink RX8 20 "SignDutyModel" "sizes" "[I", .fieldLink RX8 7 "SignDutyModel" "row" "[I", .fieldLink RX8 131 "SignDutyModel" "undos" "I", .fieldLink RX8 70 "SignDutyModel" "length" "I", .constant RX8 52 (-1000001), .methodLink RX8 257 yX8_bits, .static yX8_bits, .initialized RX8, .code yX8_bits cX8_bits 3 (some .int)] ++ wsX80)
def wsX8_status : List Cond := .code yX8_status cX8_status 1 (some .int) :: ([.fieldLink RX8 35 "SignDutyModel" "status" "I"] ++ wsX80)
def wsJ9_max_7cf53 : List Cond := .code yJ9_max_7cf53 cJ9_max_7cf53 2 (some .int) :: ([])
def wsJ9_min_7cf53 : List Cond := .code yJ9_min_7cf53 cJ9_min_7cf53 2 (some .int) :: ([])
end
section
theorem dX0_init_0 : decode cX0_init 0 = .ok (.aload_n 0, 1) := by decide +kernel
theorem dX0_init_1 : decode cX0_init 1 = .ok (.invokespecial 1, 3) := by decide +kernel
theorem dX0_init_4 : decode cX0_init 4 = .ok (.aload_n 0, 1) := by decide +kernel
theorem dX0_init_5 : decode cX0_init 5 = .ok (.bipush 24, 2) := by decide +kernel
theorem dX0_init_7 : decode cX0_init 7 = .ok (.newarray .int, 2) := by decide +kernel
theorem dX0_init_9 : decode cX0_init 9 = .ok (.putfield 9, 3) := by decide +kernel
theorem dX0_init_12 : decode cX0_init 12 = .ok (.aload_n 0, 1) := by decide +kernel
theorem dX0_init_13 : decode cX0_init 13 = .ok (.bipush 24, 2) := by decide +kernel
theorem dX0_init_15 : decode cX0_init 15 = .ok (.newarray .int, 2) := by decide +kernel
theorem dX0_init_17 : decode cX0_init 17 = .ok (.putfield 13, 3) := by decide +kernel
theorem dX0_init_20 : decode cX0_init 20 = .ok (.aload_n 0, 1) := by decide +kernel
theorem dX0_init_21 : decode cX0_init 21 = .ok (.bipush 24, 2) := by decide +kernel
theorem dX0_init_23 : decode cX0_init 23 = .ok (.newarray .int, 2) := by decide +kernel
theorem dX0_init_25 : decode cX0_init 25 = .ok (.putfield 16, 3) := by decide +kernel
theorem dX0_init_28 : decode cX0_init 28 = .ok (.aload_n 0, 1) := by decide +kernel
theorem dX0_init_29 : decode cX0_init 29 = .ok (.iconst 0, 1) := by decide +kernel
theorem dX0_init_30 : decode cX0_init 30 = .ok (.putfield 19, 3) := by decide +kernel
theorem dX0_init_33 : decode cX0_init 33 = .ok (.aload_n 0, 1) := by decide +kernel
theorem dX0_init_34 : decode cX0_init 34 = .ok (.iconst 0, 1) := by decide +kernel
theorem dX0_init_35 : decode cX0_init 35 = .ok (.putfield 23, 3) := by decide +kernel
theorem dX0_init_38 : decode cX0_init 38 = .ok (.return_, 1) := by decide +kernel
theorem dX0_forgetAll_0 : decode cX0_forgetAll 0 = .ok (.aload_n 0, 1) := by decide +kernel
theorem dX0_forgetAll_1 : decode cX0_forgetAll 1 = .ok (.iconst 0, 1) := by decide +kernel
theorem dX0_forgetAll_2 : decode cX0_forgetAll 2 = .ok (.putfield 23, 3) := by decide +kernel
theorem dX0_forgetAll_5 : decode cX0_forgetAll 5 = .ok (.return_, 1) := by decide +kernel
theorem dX0_keep_0 : decode cX0_keep 0 = .ok (.aload_n 0, 1) := by decide +kernel
theorem dX0_keep_1 : decode cX0_keep 1 = .ok (.getfield 9, 3) := by decide +kernel
theorem dX0_keep_4 : decode cX0_keep 4 = .ok (.aload_n 0, 1) := by decide +kernel
theorem dX0_keep_5 : decode cX0_keep 5 = .ok (.getfield 19, 3) := by decide +kernel
theorem dX0_keep_8 : decode cX0_keep 8 = .ok (.iload_n 1, 1) := by decide +kernel
theorem dX0_keep_9 : decode cX0_keep 9 = .ok (.iastore, 1) := by decide +kernel
theorem dX0_keep_10 : decode cX0_keep 10 = .ok (.aload_n 0, 1) := by decide +kernel
theorem dX0_keep_11 : decode cX0_keep 11 = .ok (.getfield 13, 3) := by decide +kernel
theorem dX0_keep_14 : decode cX0_keep 14 = .ok (.aload_n 0, 1) := by decide +kernel
theorem dX0_keep_15 : decode cX0_keep 15 = .ok (.getfield 19, 3) := by decide +kernel
theorem dX0_keep_18 : decode cX0_keep 18 = .ok (.iload_n 2, 1) := by decide +kernel
theorem dX0_keep_19 : decode cX0_keep 19 = .ok (.iastore, 1) := by decide +kernel
theorem dX0_keep_20 : decode cX0_keep 20 = .ok (.aload_n 0, 1) := by decide +kernel
theorem dX0_keep_21 : decode cX0_keep 21 = .ok (.getfield 16, 3) := by decide +kernel
theorem dX0_keep_24 : decode cX0_keep 24 = .ok (.aload_n 0, 1) := by decide +kernel
theorem dX0_keep_25 : decode cX0_keep 25 = .ok (.getfield 19, 3) := by decide +kernel
theorem dX0_keep_28 : decode cX0_keep 28 = .ok (.iload_n 3, 1) := by decide +kernel
theorem dX0_keep_29 : decode cX0_keep 29 = .ok (.iastore, 1) := by decide +kernel
theorem dX0_keep_30 : decode cX0_keep 30 = .ok (.aload_n 0, 1) := by decide +kernel
theorem dX0_keep_31 : decode cX0_keep 31 = .ok (.aload_n 0, 1) := by decide +kernel
theorem dX0_keep_32 : decode cX0_keep 32 = .ok (.getfield 19, 3) := by decide +kernel
theorem dX0_keep_35 : decode cX0_keep 35 = .ok (.iconst 1, 1) := by decide +kernel
theorem dX0_keep_36 : decode cX0_keep 36 = .ok (.iadd, 1) := by decide +kernel
theorem dX0_keep_37 : decode cX0_keep 37 = .ok (.bipush 24, 2) := by decide +kernel
theorem dX0_keep_39 : decode cX0_keep 39 = .ok (.irem, 1) := by decide +kernel
theorem dX0_keep_40 : decode cX0_keep 40 = .ok (.putfield 19, 3) := by decide +kernel
theorem dX0_keep_43 : decode cX0_keep 43 = .ok (.aload_n 0, 1) := by decide +kernel
theorem dX0_keep_44 : decode cX0_keep 44 = .ok (.aload_n 0, 1) := by decide +kernel
theorem dX0_keep_45 : decode cX0_keep 45 = .ok (.getfield 23, 3) := by decide +kernel
theorem dX0_keep_48 : decode cX0_keep 48 = .ok (.iconst 1, 1) := by decide +kernel
theorem dX0_keep_49 : decode cX0_keep 49 = .ok (.iadd, 1) := by decide +kernel
theorem dX0_keep_50 : decode cX0_keep 50 = .ok (.bipush 24, 2) := by decide +kernel
theorem dX0_keep_52 : decode cX0_keep 52 = .ok (.invokestatic 26, 3) := by decide +kernel
theorem dX0_keep_55 : decode cX0_keep 55 = .ok (.putfield 23, 3) := by decide +kernel
theorem dX0_keep_58 : decode cX0_keep 58 = .ok (.return_, 1) := by decide +kernel
set_option maxRecDepth 20000 in
theorem ggX0_takeBack_X2_turnKnown : GoodIn wsX0_takeBack wsX2_turnKnown := goodIn_r _ [14, 15, 21, 22, 23, 24, 25, 26, 27, 28, 29, 30, 31, 32, 33] (by decide +kernel) (by decide +kernel)
set_option maxRecDepth 20000 in
theorem gX0_takeBack_X2_turnKnown : GoodIn wsX0_takeBack (wsV RX0 46 RX2 yX2_turnKnown wsX2_turnKnown) := goodIn_app (goodIn_of _ (by decide +kernel)) ggX0_takeBack_X2_turnKnown
theorem dX0_takeBack_0 : decode cX0_takeBack 0 = .ok (.aload_n 0, 1) := by decide +kernel
theorem dX0_takeBack_1 : decode cX0_takeBack 1 = .ok (.aload_n 0, 1) := by decide +kernel
theorem dX0_takeBack_2 : decode cX0_takeBack 2 = .ok (.getfield 19, 3) := by decide +kernel
theorem dX0_takeBack_5 : decode cX0_takeBack 5 = .ok (.bipush 24, 2) := by decide +kernel
theorem dX0_takeBack_7 : decode cX0_takeBack 7 = .ok (.iadd, 1) := by decide +kernel
theorem dX0_takeBack_8 : decode cX0_takeBack 8 = .ok (.iconst 1, 1) := by decide +kernel
theorem dX0_takeBack_9 : decode cX0_takeBack 9 = .ok (.isub, 1) := by decide +kernel
theorem dX0_takeBack_10 : decode cX0_takeBack 10 = .ok (.bipush 24, 2) := by decide +kernel
theorem dX0_takeBack_12 : decode cX0_takeBack 12 = .ok (.irem, 1) := by decide +kernel
theorem dX0_takeBack_13 : decode cX0_takeBack 13 = .ok (.putfield 19, 3) := by decide +kernel
theorem dX0_takeBack_16 : decode cX0_takeBack 16 = .ok (.aload_n 0, 1) := by decide +kernel
theorem dX0_takeBack_17 : decode cX0_takeBack 17 = .ok (.dup, 1) := by decide +kernel
theorem dX0_takeBack_18 : decode cX0_takeBack 18 = .ok (.getfield 23, 3) := by decide +kernel
theorem dX0_takeBack_21 : decode cX0_takeBack 21 = .ok (.iconst 1, 1) := by decide +kernel
theorem dX0_takeBack_22 : decode cX0_takeBack 22 = .ok (.isub, 1) := by decide +kernel
theorem dX0_takeBack_23 : decode cX0_takeBack 23 = .ok (.putfield 23, 3) := by decide +kernel
theorem dX0_takeBack_26 : decode cX0_takeBack 26 = .ok (.aload_n 0, 1) := by decide +kernel
theorem dX0_takeBack_27 : decode cX0_takeBack 27 = .ok (.getfield 13, 3) := by decide +kernel
theorem dX0_takeBack_30 : decode cX0_takeBack 30 = .ok (.aload_n 0, 1) := by decide +kernel
theorem dX0_takeBack_31 : decode cX0_takeBack 31 = .ok (.getfield 19, 3) := by decide +kernel
theorem dX0_takeBack_34 : decode cX0_takeBack 34 = .ok (.iaload, 1) := by decide +kernel
theorem dX0_takeBack_35 : decode cX0_takeBack 35 = .ok (.istore_n 2, 1) := by decide +kernel
theorem dX0_takeBack_36 : decode cX0_takeBack 36 = .ok (.aload_n 0, 1) := by decide +kernel
theorem dX0_takeBack_37 : decode cX0_takeBack 37 = .ok (.getfield 16, 3) := by decide +kernel
theorem dX0_takeBack_40 : decode cX0_takeBack 40 = .ok (.aload_n 0, 1) := by decide +kernel
theorem dX0_takeBack_41 : decode cX0_takeBack 41 = .ok (.getfield 19, 3) := by decide +kernel
theorem dX0_takeBack_44 : decode cX0_takeBack 44 = .ok (.iaload, 1) := by decide +kernel
theorem dX0_takeBack_45 : decode cX0_takeBack 45 = .ok (.istore_n 3, 1) := by decide +kernel
theorem dX0_takeBack_46 : decode cX0_takeBack 46 = .ok (.aload_n 0, 1) := by decide +kernel
theorem dX0_takeBack_47 : decode cX0_takeBack 47 = .ok (.getfield 9, 3) := by decide +kernel
theorem dX0_takeBack_50 : decode cX0_takeBack 50 = .ok (.aload_n 0, 1) := by decide +kernel
theorem dX0_takeBack_51 : decode cX0_takeBack 51 = .ok (.getfield 19, 3) := by decide +kernel
theorem dX0_takeBack_54 : decode cX0_takeBack 54 = .ok (.iaload, 1) := by decide +kernel
theorem dX0_takeBack_55 : decode cX0_takeBack 55 = .ok (.tableswitch 83 0 3 #[29, 52, 62, 75], 29) := by decide +kernel
theorem dX0_takeBack_84 : decode cX0_takeBack 84 = .ok (.aload_n 1, 1) := by decide +kernel
theorem dX0_takeBack_85 : decode cX0_takeBack 85 = .ok (.getfield 32, 3) := by decide +kernel
theorem dX0_takeBack_88 : decode cX0_takeBack 88 = .ok (.iload_n 2, 1) := by decide +kernel
theorem dX0_takeBack_89 : decode cX0_takeBack 89 = .ok (.dup2, 1) := by decide +kernel
theorem dX0_takeBack_90 : decode cX0_takeBack 90 = .ok (.iaload, 1) := by decide +kernel
theorem dX0_takeBack_91 : decode cX0_takeBack 91 = .ok (.iconst 1, 1) := by decide +kernel
theorem dX0_takeBack_92 : decode cX0_takeBack 92 = .ok (.isub, 1) := by decide +kernel
theorem dX0_takeBack_93 : decode cX0_takeBack 93 = .ok (.iastore, 1) := by decide +kernel
theorem dX0_takeBack_94 : decode cX0_takeBack 94 = .ok (.aload_n 1, 1) := by decide +kernel
theorem dX0_takeBack_95 : decode cX0_takeBack 95 = .ok (.dup, 1) := by decide +kernel
theorem dX0_takeBack_96 : decode cX0_takeBack 96 = .ok (.getfield 37, 3) := by decide +kernel
theorem dX0_takeBack_99 : decode cX0_takeBack 99 = .ok (.iload_n 3, 1) := by decide +kernel
theorem dX0_takeBack_100 : decode cX0_takeBack 100 = .ok (.isub, 1) := by decide +kernel
theorem dX0_takeBack_101 : decode cX0_takeBack 101 = .ok (.putfield 37, 3) := by decide +kernel
theorem dX0_takeBack_104 : decode cX0_takeBack 104 = .ok (.goto 34, 3) := by decide +kernel
theorem dX0_takeBack_107 : decode cX0_takeBack 107 = .ok (.aload_n 1, 1) := by decide +kernel
theorem dX0_takeBack_108 : decode cX0_takeBack 108 = .ok (.getfield 40, 3) := by decide +kernel
theorem dX0_takeBack_111 : decode cX0_takeBack 111 = .ok (.iload_n 2, 1) := by decide +kernel
theorem dX0_takeBack_112 : decode cX0_takeBack 112 = .ok (.iload_n 3, 1) := by decide +kernel
theorem dX0_takeBack_113 : decode cX0_takeBack 113 = .ok (.iastore, 1) := by decide +kernel
theorem dX0_takeBack_114 : decode cX0_takeBack 114 = .ok (.goto 24, 3) := by decide +kernel
theorem dX0_takeBack_117 : decode cX0_takeBack 117 = .ok (.aload_n 1, 1) := by decide +kernel
theorem dX0_takeBack_118 : decode cX0_takeBack 118 = .ok (.getfield 43, 3) := by decide +kernel
theorem dX0_takeBack_121 : decode cX0_takeBack 121 = .ok (.iload_n 2, 1) := by decide +kernel
theorem dX0_takeBack_122 : decode cX0_takeBack 122 = .ok (.dup2, 1) := by decide +kernel
theorem dX0_takeBack_123 : decode cX0_takeBack 123 = .ok (.iaload, 1) := by decide +kernel
theorem dX0_takeBack_124 : decode cX0_takeBack 124 = .ok (.iload_n 3, 1) := by decide +kernel
theorem dX0_takeBack_125 : decode cX0_takeBack 125 = .ok (.iadd, 1) := by decide +kernel
theorem dX0_takeBack_126 : decode cX0_takeBack 126 = .ok (.iastore, 1) := by decide +kernel
theorem dX0_takeBack_127 : decode cX0_takeBack 127 = .ok (.goto 11, 3) := by decide +kernel
theorem dX0_takeBack_130 : decode cX0_takeBack 130 = .ok (.aload_n 1, 1) := by decide +kernel
theorem dX0_takeBack_131 : decode cX0_takeBack 131 = .ok (.iload_n 2, 1) := by decide +kernel
theorem dX0_takeBack_132 : decode cX0_takeBack 132 = .ok (.invokevirtual 46, 3) := by decide +kernel
theorem dX0_takeBack_135 : decode cX0_takeBack 135 = .ok (.goto 3, 3) := by decide +kernel
theorem dX0_takeBack_138 : decode cX0_takeBack 138 = .ok (.return_, 1) := by decide +kernel
theorem dX1_init_0 : decode cX1_init 0 = .ok (.aload_n 0, 1) := by decide +kernel
theorem dX1_init_1 : decode cX1_init 1 = .ok (.invokespecial 3, 3) := by decide +kernel
theorem dX1_init_4 : decode cX1_init 4 = .ok (.aload_n 0, 1) := by decide +kernel
theorem dX1_init_5 : decode cX1_init 5 = .ok (.bipush 16, 2) := by decide +kernel
theorem dX1_init_7 : decode cX1_init 7 = .ok (.newarray .int, 2) := by decide +kernel
theorem dX1_init_9 : decode cX1_init 9 = .ok (.putfield 11, 3) := by decide +kernel
theorem dX1_init_12 : decode cX1_init 12 = .ok (.aload_n 0, 1) := by decide +kernel
theorem dX1_init_13 : decode cX1_init 13 = .ok (.iconst 0, 1) := by decide +kernel
theorem dX1_init_14 : decode cX1_init 14 = .ok (.putfield 15, 3) := by decide +kernel
theorem dX1_init_17 : decode cX1_init 17 = .ok (.return_, 1) := by decide +kernel
set_option maxRecDepth 20000 in
theorem ggX1_answer_X1_asked : GoodIn wsX1_answer wsX1_asked := goodIn_r _ [6, 7, 8, 9, 10, 11, 5, 12, 13, 14, 15, 16, 17, 18, 19, 20, 21, 22, 23, 24, 25, 26, 27, 1, 28, 2, 3, 4, 31, 32, 33, 34, 35, 36, 37, 38, 39, 40, 41, 42, 43, 29, 30] (by decide +kernel) (by decide +kernel)
set_option maxRecDepth 20000 in
theorem gX1_answer_X1_asked : GoodIn wsX1_answer (wsV RX1 19 RX1 yX1_asked wsX1_asked) := goodIn_app (goodIn_of _ (by decide +kernel)) ggX1_answer_X1_asked
theorem dX1_answer_0 : decode cX1_answer 0 = .ok (.aload_n 0, 1) := by decide +kernel
theorem dX1_answer_1 : decode cX1_answer 1 = .ok (.iconst 0, 1) := by decide +kernel
theorem dX1_answer_2 : decode cX1_answer 2 = .ok (.putfield 15, 3) := by decide +kernel
theorem dX1_answer_5 : decode cX1_answer 5 = .ok (.aload_n 0, 1) := by decide +kernel
theorem dX1_answer_6 : decode cX1_answer 6 = .ok (.aload_n 1, 1) := by decide +kernel
theorem dX1_answer_7 : decode cX1_answer 7 = .ok (.iload_n 2, 1) := by decide +kernel
theorem dX1_answer_8 : decode cX1_answer 8 = .ok (.iload_n 3, 1) := by decide +kernel
theorem dX1_answer_9 : decode cX1_answer 9 = .ok (.iconst 0, 1) := by decide +kernel
theorem dX1_answer_10 : decode cX1_answer 10 = .ok (.invokevirtual 19, 3) := by decide +kernel
theorem dX1_answer_13 : decode cX1_answer 13 = .ok (.ireturn, 1) := by decide +kernel
theorem dX1_numberLeft_0 : decode cX1_numberLeft 0 = .ok (.iload_n 1, 1) := by decide +kernel
theorem dX1_numberLeft_1 : decode cX1_numberLeft 1 = .ok (.ifCond .lt 20, 3) := by decide +kernel
theorem dX1_numberLeft_4 : decode cX1_numberLeft 4 = .ok (.iload_n 1, 1) := by decide +kernel
theorem dX1_numberLeft_5 : decode cX1_numberLeft 5 = .ok (.aload_n 0, 1) := by decide +kernel
theorem dX1_numberLeft_6 : decode cX1_numberLeft 6 = .ok (.getfield 15, 3) := by decide +kernel
theorem dX1_numberLeft_9 : decode cX1_numberLeft 9 = .ok (.if_icmp .ge 12, 3) := by decide +kernel
theorem dX1_numberLeft_12 : decode cX1_numberLeft 12 = .ok (.aload_n 0, 1) := by decide +kernel
theorem dX1_numberLeft_13 : decode cX1_numberLeft 13 = .ok (.getfield 11, 3) := by decide +kernel
theorem dX1_numberLeft_16 : decode cX1_numberLeft 16 = .ok (.iload_n 1, 1) := by decide +kernel
theorem dX1_numberLeft_17 : decode cX1_numberLeft 17 = .ok (.iaload, 1) := by decide +kernel
theorem dX1_numberLeft_18 : decode cX1_numberLeft 18 = .ok (.goto 5, 3) := by decide +kernel
theorem dX1_numberLeft_21 : decode cX1_numberLeft 21 = .ok (.ldc 23, 2) := by decide +kernel
theorem dX1_numberLeft_23 : decode cX1_numberLeft 23 = .ok (.ireturn, 1) := by decide +kernel
set_option maxRecDepth 20000 in
theorem ggX1_asked_X1_bodyFor : GoodIn wsX1_asked wsX1_bodyFor := goodIn_r _ [7, 8, 9, 10, 11, 12] (by decide +kernel) (by decide +kernel)
set_option maxRecDepth 20000 in
theorem gX1_asked_X1_bodyFor : GoodIn wsX1_asked (va_wsS RX1 35 yX1_bodyFor wsX1_bodyFor) := goodIn_app (goodIn_of _ (by decide +kernel)) ggX1_asked_X1_bodyFor
set_option maxRecDepth 20000 in
theorem ggX1_asked_X1_given : GoodIn wsX1_asked wsX1_given := goodIn_r _ [16, 17, 18, 19, 20, 21, 6, 22, 23, 24, 13, 14, 15, 25, 26, 27, 0, 1, 2, 3, 4, 5, 7, 8, 9, 10, 11, 12, 28, 29, 30, 31, 32, 33, 34, 35, 36, 37, 38, 39, 40, 41, 42] (by decide +kernel) (by decide +kernel)
set_option maxRecDepth 20000 in
theorem gX1_asked_X1_given : GoodIn wsX1_asked (wsV RX1 39 RX1 yX1_given wsX1_given) := goodIn_app (goodIn_of _ (by decide +kernel)) ggX1_asked_X1_given
theorem dX1_asked_0 : decode cX1_asked 0 = .ok (.iload_n 3, 1) := by decide +kernel
theorem dX1_asked_1 : decode cX1_asked 1 = .ok (.ifCond .ne 9, 3) := by decide +kernel
theorem dX1_asked_4 : decode cX1_asked 4 = .ok (.getstatic 24, 3) := by decide +kernel
theorem dX1_asked_7 : decode cX1_asked 7 = .ok (.goto 6, 3) := by decide +kernel
theorem dX1_asked_10 : decode cX1_asked 10 = .ok (.getstatic 27, 3) := by decide +kernel
theorem dX1_asked_13 : decode cX1_asked 13 = .ok (.astore 5, 2) := by decide +kernel
theorem dX1_asked_15 : decode cX1_asked 15 = .ok (.aload_n 0, 1) := by decide +kernel
theorem dX1_asked_16 : decode cX1_asked 16 = .ok (.aload 5, 2) := by decide +kernel
theorem dX1_asked_18 : decode cX1_asked 18 = .ok (.aload_n 1, 1) := by decide +kernel
theorem dX1_asked_19 : decode cX1_asked 19 = .ok (.getfield 30, 3) := by decide +kernel
theorem dX1_asked_22 : decode cX1_asked 22 = .ok (.iload_n 2, 1) := by decide +kernel
theorem dX1_asked_23 : decode cX1_asked 23 = .ok (.iaload, 1) := by decide +kernel
theorem dX1_asked_24 : decode cX1_asked 24 = .ok (.invokestatic 35, 3) := by decide +kernel
theorem dX1_asked_27 : decode cX1_asked 27 = .ok (.aload_n 1, 1) := by decide +kernel
theorem dX1_asked_28 : decode cX1_asked 28 = .ok (.iload_n 2, 1) := by decide +kernel
theorem dX1_asked_29 : decode cX1_asked 29 = .ok (.iload 4, 2) := by decide +kernel
theorem dX1_asked_31 : decode cX1_asked 31 = .ok (.invokevirtual 39, 3) := by decide +kernel
theorem dX1_asked_34 : decode cX1_asked 34 = .ok (.ireturn, 1) := by decide +kernel
set_option maxRecDepth 20000 in
theorem ggX1_bodyFor_X3_widerThan : GoodIn wsX1_bodyFor wsX3_widerThan := goodIn_r _ [4, 5] (by decide +kernel) (by decide +kernel)
set_option maxRecDepth 20000 in
theorem gX1_bodyFor_X3_widerThan : GoodIn wsX1_bodyFor (va_wsS RX1 43 yX3_widerThan wsX3_widerThan) := goodIn_app (goodIn_of _ (by decide +kernel)) ggX1_bodyFor_X3_widerThan
theorem dX1_bodyFor_0 : decode cX1_bodyFor 0 = .ok (.iload_n 1, 1) := by decide +kernel
theorem dX1_bodyFor_1 : decode cX1_bodyFor 1 = .ok (.istore_n 2, 1) := by decide +kernel
theorem dX1_bodyFor_2 : decode cX1_bodyFor 2 = .ok (.iconst 0, 1) := by decide +kernel
theorem dX1_bodyFor_3 : decode cX1_bodyFor 3 = .ok (.istore_n 3, 1) := by decide +kernel
theorem dX1_bodyFor_4 : decode cX1_bodyFor 4 = .ok (.iload_n 3, 1) := by decide +kernel
theorem dX1_bodyFor_5 : decode cX1_bodyFor 5 = .ok (.aload_n 0, 1) := by decide +kernel
theorem dX1_bodyFor_6 : decode cX1_bodyFor 6 = .ok (.arraylength, 1) := by decide +kernel
theorem dX1_bodyFor_7 : decode cX1_bodyFor 7 = .ok (.if_icmp .ge 34, 3) := by decide +kernel
theorem dX1_bodyFor_10 : decode cX1_bodyFor 10 = .ok (.iload_n 2, 1) := by decide +kernel
theorem dX1_bodyFor_11 : decode cX1_bodyFor 11 = .ok (.ifCond .lt 19, 3) := by decide +kernel
theorem dX1_bodyFor_14 : decode cX1_bodyFor 14 = .ok (.iload_n 2, 1) := by decide +kernel
theorem dX1_bodyFor_15 : decode cX1_bodyFor 15 = .ok (.aload_n 0, 1) := by decide +kernel
theorem dX1_bodyFor_16 : decode cX1_bodyFor 16 = .ok (.arraylength, 1) := by decide +kernel
theorem dX1_bodyFor_17 : decode cX1_bodyFor 17 = .ok (.if_icmp .ge 13, 3) := by decide +kernel
theorem dX1_bodyFor_20 : decode cX1_bodyFor 20 = .ok (.aload_n 0, 1) := by decide +kernel
theorem dX1_bodyFor_21 : decode cX1_bodyFor 21 = .ok (.iload_n 2, 1) := by decide +kernel
theorem dX1_bodyFor_22 : decode cX1_bodyFor 22 = .ok (.iaload, 1) := by decide +kernel
theorem dX1_bodyFor_23 : decode cX1_bodyFor 23 = .ok (.ifCond .eq 7, 3) := by decide +kernel
theorem dX1_bodyFor_26 : decode cX1_bodyFor 26 = .ok (.aload_n 0, 1) := by decide +kernel
theorem dX1_bodyFor_27 : decode cX1_bodyFor 27 = .ok (.iload_n 2, 1) := by decide +kernel
theorem dX1_bodyFor_28 : decode cX1_bodyFor 28 = .ok (.iaload, 1) := by decide +kernel
theorem dX1_bodyFor_29 : decode cX1_bodyFor 29 = .ok (.ireturn, 1) := by decide +kernel
theorem dX1_bodyFor_30 : decode cX1_bodyFor 30 = .ok (.iload_n 2, 1) := by decide +kernel
theorem dX1_bodyFor_31 : decode cX1_bodyFor 31 = .ok (.invokestatic 43, 3) := by decide +kernel
theorem dX1_bodyFor_34 : decode cX1_bodyFor 34 = .ok (.istore_n 2, 1) := by decide +kernel
theorem dX1_bodyFor_35 : decode cX1_bodyFor 35 = .ok (.iinc 3 1, 3) := by decide +kernel
theorem dX1_bodyFor_38 : decode cX1_bodyFor 38 = .ok (.goto (-34), 3) := by decide +kernel
theorem dX1_bodyFor_41 : decode cX1_bodyFor 41 = .ok (.iconst 0, 1) := by decide +kernel
theorem dX1_bodyFor_42 : decode cX1_bodyFor 42 = .ok (.ireturn, 1) := by decide +kernel
set_option maxRecDepth 20000 in
theorem ggX1_given_X1_leave : GoodIn wsX1_given wsX1_leave := goodIn_r _ [7, 8, 9, 41, 42] (by decide +kernel) (by decide +kernel)
set_option maxRecDepth 20000 in
theorem gX1_given_X1_leave : GoodIn wsX1_given (wsV RX1 49 RX1 yX1_leave wsX1_leave) := goodIn_app (goodIn_of _ (by decide +kernel)) ggX1_given_X1_leave
set_option maxRecDepth 20000 in
theorem ggX1_given_X1_given : GoodIn wsX1_given wsX1_given := goodIn_r _ [0, 1, 2, 3, 4, 5, 6, 7, 8, 9, 10, 11, 12, 13, 14, 15, 16, 17, 18, 19, 20, 21, 22, 23, 24, 25, 26, 27, 28, 29, 30, 31, 32, 33, 34, 35, 36, 37, 38, 39, 40, 41, 42] (by decide +kernel) (by decide +kernel)
set_option maxRecDepth 20000 in
theorem gX1_given_X1_given : GoodIn wsX1_given (wsV RX1 39 RX1 yX1_given wsX1_given) := goodIn_app (goodIn_of _ (by decide +kernel)) ggX1_given_X1_given
set_option maxRecDepth 20000 in
theorem ggX1_given_X1_asked : GoodIn wsX1_given wsX1_asked := goodIn_r _ [16, 17, 18, 19, 20, 21, 6, 22, 23, 24, 25, 26, 27, 10, 11, 12, 0, 1, 2, 3, 4, 5, 7, 8, 9, 13, 14, 15, 28, 29, 30, 31, 32, 33, 34, 35, 36, 37, 38, 39, 40, 41, 42] (by decide +kernel) (by decide +kernel)
set_option maxRecDepth 20000 in
theorem gX1_given_X1_asked : GoodIn wsX1_given (wsV RX1 19 RX1 yX1_asked wsX1_asked) := goodIn_app (goodIn_of _ (by decide +kernel)) ggX1_given_X1_asked
theorem dX1_given_0 : decode cX1_given 0 = .ok (.iload 4, 2) := by decide +kernel
theorem dX1_given_2 : decode cX1_given 2 = .ok (.bipush 16, 2) := by decide +kernel
theorem dX1_given_4 : decode cX1_given 4 = .ok (.if_icmp .lt 5, 3) := by decide +kernel
theorem dX1_given_7 : decode cX1_given 7 = .ok (.iconst 0, 1) := by decide +kernel
theorem dX1_given_8 : decode cX1_given 8 = .ok (.ireturn, 1) := by decide +kernel
theorem dX1_given_9 : decode cX1_given 9 = .ok (.aload_n 0, 1) := by decide +kernel
theorem dX1_given_10 : decode cX1_given 10 = .ok (.iload_n 1, 1) := by decide +kernel
theorem dX1_given_11 : decode cX1_given 11 = .ok (.invokevirtual 49, 3) := by decide +kernel
theorem dX1_given_14 : decode cX1_given 14 = .ok (.iload 4, 2) := by decide +kernel
theorem dX1_given_16 : decode cX1_given 16 = .ok (.iconst 1, 1) := by decide +kernel
theorem dX1_given_17 : decode cX1_given 17 = .ok (.iadd, 1) := by decide +kernel
theorem dX1_given_18 : decode cX1_given 18 = .ok (.istore 5, 2) := by decide +kernel
theorem dX1_given_20 : decode cX1_given 20 = .ok (.iload_n 1, 1) := by decide +kernel
theorem dX1_given_21 : decode cX1_given 21 = .ok (.tableswitch 211 10 24 #[75, 82, 103, 115, 129, 211, 211, 211, 211, 211, 142, 144, 162, 177, 198], 75) := by decide +kernel
theorem dX1_given_96 : decode cX1_given 96 = .ok (.aload_n 2, 1) := by decide +kernel
theorem dX1_given_97 : decode cX1_given 97 = .ok (.getfield 53, 3) := by decide +kernel
theorem dX1_given_100 : decode cX1_given 100 = .ok (.iload_n 3, 1) := by decide +kernel
theorem dX1_given_101 : decode cX1_given 101 = .ok (.iaload, 1) := by decide +kernel
theorem dX1_given_102 : decode cX1_given 102 = .ok (.ireturn, 1) := by decide +kernel
theorem dX1_given_103 : decode cX1_given 103 = .ok (.aload_n 0, 1) := by decide +kernel
theorem dX1_given_104 : decode cX1_given 104 = .ok (.bipush 10, 2) := by decide +kernel
theorem dX1_given_106 : decode cX1_given 106 = .ok (.aload_n 2, 1) := by decide +kernel
theorem dX1_given_107 : decode cX1_given 107 = .ok (.iload_n 3, 1) := by decide +kernel
theorem dX1_given_108 : decode cX1_given 108 = .ok (.iload 5, 2) := by decide +kernel
theorem dX1_given_110 : decode cX1_given 110 = .ok (.invokevirtual 39, 3) := by decide +kernel
theorem dX1_given_113 : decode cX1_given 113 = .ok (.aload_n 0, 1) := by decide +kernel
theorem dX1_given_114 : decode cX1_given 114 = .ok (.aload_n 2, 1) := by decide +kernel
theorem dX1_given_115 : decode cX1_given 115 = .ok (.iload_n 3, 1) := by decide +kernel
theorem dX1_given_116 : decode cX1_given 116 = .ok (.iconst 1, 1) := by decide +kernel
theorem dX1_given_117 : decode cX1_given 117 = .ok (.iload 5, 2) := by decide +kernel
theorem dX1_given_119 : decode cX1_given 119 = .ok (.invokevirtual 19, 3) := by decide +kernel
theorem dX1_given_122 : decode cX1_given 122 = .ok (.iadd, 1) := by decide +kernel
theorem dX1_given_123 : decode cX1_given 123 = .ok (.ireturn, 1) := by decide +kernel
theorem dX1_given_124 : decode cX1_given 124 = .ok (.aload_n 0, 1) := by decide +kernel
theorem dX1_given_125 : decode cX1_given 125 = .ok (.bipush 11, 2) := by decide +kernel
theorem dX1_given_127 : decode cX1_given 127 = .ok (.aload_n 2, 1) := by decide +kernel
theorem dX1_given_128 : decode cX1_given 128 = .ok (.iload_n 3, 1) := by decide +kernel
theorem dX1_given_129 : decode cX1_given 129 = .ok (.iload 5, 2) := by decide +kernel
theorem dX1_given_131 : decode cX1_given 131 = .ok (.invokevirtual 39, 3) := by decide +kernel
theorem dX1_given_134 : decode cX1_given 134 = .ok (.ineg, 1) := by decide +kernel
theorem dX1_given_135 : decode cX1_given 135 = .ok (.ireturn, 1) := by decide +kernel
theorem dX1_given_136 : decode cX1_given 136 = .ok (.aload_n 0, 1) := by decide +kernel
theorem dX1_given_137 : decode cX1_given 137 = .ok (.bipush 10, 2) := by decide +kernel
theorem dX1_given_139 : decode cX1_given 139 = .ok (.aload_n 2, 1) := by decide +kernel
theorem dX1_given_140 : decode cX1_given 140 = .ok (.iload_n 3, 1) := by decide +kernel
theorem dX1_given_141 : decode cX1_given 141 = .ok (.iload 5, 2) := by decide +kernel
theorem dX1_given_143 : decode cX1_given 143 = .ok (.invokevirtual 39, 3) := by decide +kernel
theorem dX1_given_146 : decode cX1_given 146 = .ok (.bipush 100, 2) := by decide +kernel
theorem dX1_given_148 : decode cX1_given 148 = .ok (.isub, 1) := by decide +kernel
theorem dX1_given_149 : decode cX1_given 149 = .ok (.ireturn, 1) := by decide +kernel
theorem dX1_given_150 : decode cX1_given 150 = .ok (.iconst 2, 1) := by decide +kernel
theorem dX1_given_151 : decode cX1_given 151 = .ok (.aload_n 0, 1) := by decide +kernel
theorem dX1_given_152 : decode cX1_given 152 = .ok (.bipush 13, 2) := by decide +kernel
theorem dX1_given_154 : decode cX1_given 154 = .ok (.aload_n 2, 1) := by decide +kernel
theorem dX1_given_155 : decode cX1_given 155 = .ok (.iload_n 3, 1) := by decide +kernel
theorem dX1_given_156 : decode cX1_given 156 = .ok (.iload 5, 2) := by decide +kernel
theorem dX1_given_158 : decode cX1_given 158 = .ok (.invokevirtual 39, 3) := by decide +kernel
theorem dX1_given_161 : decode cX1_given 161 = .ok (.imul, 1) := by decide +kernel
theorem dX1_given_162 : decode cX1_given 162 = .ok (.ireturn, 1) := by decide +kernel
theorem dX1_given_163 : decode cX1_given 163 = .ok (.iload_n 3, 1) := by decide +kernel
theorem dX1_given_164 : decode cX1_given 164 = .ok (.ireturn, 1) := by decide +kernel
theorem dX1_given_165 : decode cX1_given 165 = .ok (.aload_n 0, 1) := by decide +kernel
theorem dX1_given_166 : decode cX1_given 166 = .ok (.bipush 20, 2) := by decide +kernel
theorem dX1_given_168 : decode cX1_given 168 = .ok (.aload_n 2, 1) := by decide +kernel
theorem dX1_given_169 : decode cX1_given 169 = .ok (.iload_n 3, 1) := by decide +kernel
theorem dX1_given_170 : decode cX1_given 170 = .ok (.iload 5, 2) := by decide +kernel
theorem dX1_given_172 : decode cX1_given 172 = .ok (.invokevirtual 39, 3) := by decide +kernel
theorem dX1_given_175 : decode cX1_given 175 = .ok (.aload_n 2, 1) := by decide +kernel
theorem dX1_given_176 : decode cX1_given 176 = .ok (.getfield 56, 3) := by decide +kernel
theorem dX1_given_179 : decode cX1_given 179 = .ok (.iload_n 3, 1) := by decide +kernel
theorem dX1_given_180 : decode cX1_given 180 = .ok (.iaload, 1) := by decide +kernel
theorem dX1_given_181 : decode cX1_given 181 = .ok (.iadd, 1) := by decide +kernel
theorem dX1_given_182 : decode cX1_given 182 = .ok (.ireturn, 1) := by decide +kernel
theorem dX1_given_183 : decode cX1_given 183 = .ok (.aload_n 0, 1) := by decide +kernel
theorem dX1_given_184 : decode cX1_given 184 = .ok (.bipush 21, 2) := by decide +kernel
theorem dX1_given_186 : decode cX1_given 186 = .ok (.aload_n 2, 1) := by decide +kernel
theorem dX1_given_187 : decode cX1_given 187 = .ok (.iload_n 3, 1) := by decide +kernel
theorem dX1_given_188 : decode cX1_given 188 = .ok (.iload 5, 2) := by decide +kernel
theorem dX1_given_190 : decode cX1_given 190 = .ok (.invokevirtual 39, 3) := by decide +kernel
theorem dX1_given_193 : decode cX1_given 193 = .ok (.sipush 1000, 3) := by decide +kernel
theorem dX1_given_196 : decode cX1_given 196 = .ok (.isub, 1) := by decide +kernel
theorem dX1_given_197 : decode cX1_given 197 = .ok (.ireturn, 1) := by decide +kernel
theorem dX1_given_198 : decode cX1_given 198 = .ok (.aload_n 0, 1) := by decide +kernel
theorem dX1_given_199 : decode cX1_given 199 = .ok (.bipush 20, 2) := by decide +kernel
theorem dX1_given_201 : decode cX1_given 201 = .ok (.aload_n 2, 1) := by decide +kernel
theorem dX1_given_202 : decode cX1_given 202 = .ok (.iload_n 3, 1) := by decide +kernel
theorem dX1_given_203 : decode cX1_given 203 = .ok (.iload 5, 2) := by decide +kernel
theorem dX1_given_205 : decode cX1_given 205 = .ok (.invokevirtual 39, 3) := by decide +kernel
theorem dX1_given_208 : decode cX1_given 208 = .ok (.aload_n 0, 1) := by decide +kernel
theorem dX1_given_209 : decode cX1_given 209 = .ok (.aload_n 2, 1) := by decide +kernel
theorem dX1_given_210 : decode cX1_given 210 = .ok (.iload_n 3, 1) := by decide +kernel
theorem dX1_given_211 : decode cX1_given 211 = .ok (.iconst 0, 1) := by decide +kernel
theorem dX1_given_212 : decode cX1_given 212 = .ok (.iload 5, 2) := by decide +kernel
theorem dX1_given_214 : decode cX1_given 214 = .ok (.invokevirtual 19, 3) := by decide +kernel
theorem dX1_given_217 : decode cX1_given 217 = .ok (.isub, 1) := by decide +kernel
theorem dX1_given_218 : decode cX1_given 218 = .ok (.ireturn, 1) := by decide +kernel
theorem dX1_given_219 : decode cX1_given 219 = .ok (.iconst 2, 1) := by decide +kernel
theorem dX1_given_220 : decode cX1_given 220 = .ok (.aload_n 0, 1) := by decide +kernel
theorem dX1_given_221 : decode cX1_given 221 = .ok (.bipush 21, 2) := by decide +kernel
theorem dX1_given_223 : decode cX1_given 223 = .ok (.aload_n 2, 1) := by decide +kernel
theorem dX1_given_224 : decode cX1_given 224 = .ok (.iload_n 3, 1) := by decide +kernel
theorem dX1_given_225 : decode cX1_given 225 = .ok (.iload 5, 2) := by decide +kernel
theorem dX1_given_227 : decode cX1_given 227 = .ok (.invokevirtual 39, 3) := by decide +kernel
theorem dX1_given_230 : decode cX1_given 230 = .ok (.imul, 1) := by decide +kernel
theorem dX1_given_231 : decode cX1_given 231 = .ok (.ireturn, 1) := by decide +kernel
theorem dX1_given_232 : decode cX1_given 232 = .ok (.iconst 0, 1) := by decide +kernel
theorem dX1_given_233 : decode cX1_given 233 = .ok (.ireturn, 1) := by decide +kernel
theorem dX1_leave_0 : decode cX1_leave 0 = .ok (.aload_n 0, 1) := by decide +kernel
theorem dX1_leave_1 : decode cX1_leave 1 = .ok (.getfield 15, 3) := by decide +kernel
theorem dX1_leave_4 : decode cX1_leave 4 = .ok (.bipush 16, 2) := by decide +kernel
theorem dX1_leave_6 : decode cX1_leave 6 = .ok (.if_icmp .ge 23, 3) := by decide +kernel
theorem dX1_leave_9 : decode cX1_leave 9 = .ok (.aload_n 0, 1) := by decide +kernel
theorem dX1_leave_10 : decode cX1_leave 10 = .ok (.getfield 11, 3) := by decide +kernel
theorem dX1_leave_13 : decode cX1_leave 13 = .ok (.aload_n 0, 1) := by decide +kernel
theorem dX1_leave_14 : decode cX1_leave 14 = .ok (.getfield 15, 3) := by decide +kernel
theorem dX1_leave_17 : decode cX1_leave 17 = .ok (.iload_n 1, 1) := by decide +kernel
theorem dX1_leave_18 : decode cX1_leave 18 = .ok (.iastore, 1) := by decide +kernel
theorem dX1_leave_19 : decode cX1_leave 19 = .ok (.aload_n 0, 1) := by decide +kernel
theorem dX1_leave_20 : decode cX1_leave 20 = .ok (.dup, 1) := by decide +kernel
theorem dX1_leave_21 : decode cX1_leave 21 = .ok (.getfield 15, 3) := by decide +kernel
theorem dX1_leave_24 : decode cX1_leave 24 = .ok (.iconst 1, 1) := by decide +kernel
theorem dX1_leave_25 : decode cX1_leave 25 = .ok (.iadd, 1) := by decide +kernel
theorem dX1_leave_26 : decode cX1_leave 26 = .ok (.putfield 15, 3) := by decide +kernel
theorem dX1_leave_29 : decode cX1_leave 29 = .ok (.return_, 1) := by decide +kernel
theorem dX2_init_0 : decode cX2_init 0 = .ok (.aload_n 0, 1) := by decide +kernel
theorem dX2_init_1 : decode cX2_init 1 = .ok (.invokespecial 3, 3) := by decide +kernel
theorem dX2_init_4 : decode cX2_init 4 = .ok (.aload_n 0, 1) := by decide +kernel
theorem dX2_init_5 : decode cX2_init 5 = .ok (.iconst 0, 1) := by decide +kernel
theorem dX2_init_6 : decode cX2_init 6 = .ok (.putfield 9, 3) := by decide +kernel
theorem dX2_init_9 : decode cX2_init 9 = .ok (.aload_n 0, 1) := by decide +kernel
theorem dX2_init_10 : decode cX2_init 10 = .ok (.iconst 0, 1) := by decide +kernel
theorem dX2_init_11 : decode cX2_init 11 = .ok (.putfield 15, 3) := by decide +kernel
theorem dX2_init_14 : decode cX2_init 14 = .ok (.aload_n 0, 1) := by decide +kernel
theorem dX2_init_15 : decode cX2_init 15 = .ok (.iconst 0, 1) := by decide +kernel
theorem dX2_init_16 : decode cX2_init 16 = .ok (.putfield 19, 3) := by decide +kernel
theorem dX2_init_19 : decode cX2_init 19 = .ok (.aload_n 0, 1) := by decide +kernel
theorem dX2_init_20 : decode cX2_init 20 = .ok (.iconst 0, 1) := by decide +kernel
theorem dX2_init_21 : decode cX2_init 21 = .ok (.putfield 22, 3) := by decide +kernel
theorem dX2_init_24 : decode cX2_init 24 = .ok (.aload_n 0, 1) := by decide +kernel
theorem dX2_init_25 : decode cX2_init 25 = .ok (.iconst 0, 1) := by decide +kernel
theorem dX2_init_26 : decode cX2_init 26 = .ok (.putfield 25, 3) := by decide +kernel
theorem dX2_init_29 : decode cX2_init 29 = .ok (.aload_n 0, 1) := by decide +kernel
theorem dX2_init_30 : decode cX2_init 30 = .ok (.iconst 0, 1) := by decide +kernel
theorem dX2_init_31 : decode cX2_init 31 = .ok (.putfield 28, 3) := by decide +kernel
theorem dX2_init_34 : decode cX2_init 34 = .ok (.aload_n 0, 1) := by decide +kernel
theorem dX2_init_35 : decode cX2_init 35 = .ok (.bipush 7, 2) := by decide +kernel
theorem dX2_init_37 : decode cX2_init 37 = .ok (.newarray .int, 2) := by decide +kernel
theorem dX2_init_39 : decode cX2_init 39 = .ok (.putfield 31, 3) := by decide +kernel
theorem dX2_init_42 : decode cX2_init 42 = .ok (.aload_n 0, 1) := by decide +kernel
theorem dX2_init_43 : decode cX2_init 43 = .ok (.bipush 7, 2) := by decide +kernel
theorem dX2_init_45 : decode cX2_init 45 = .ok (.newarray .int, 2) := by decide +kernel
theorem dX2_init_47 : decode cX2_init 47 = .ok (.putfield 35, 3) := by decide +kernel
theorem dX2_init_50 : decode cX2_init 50 = .ok (.aload_n 0, 1) := by decide +kernel
theorem dX2_init_51 : decode cX2_init 51 = .ok (.bipush 6, 2) := by decide +kernel
theorem dX2_init_53 : decode cX2_init 53 = .ok (.newarray .int, 2) := by decide +kernel
theorem dX2_init_55 : decode cX2_init 55 = .ok (.putfield 38, 3) := by decide +kernel
theorem dX2_init_58 : decode cX2_init 58 = .ok (.aload_n 0, 1) := by decide +kernel
theorem dX2_init_59 : decode cX2_init 59 = .ok (.bipush 6, 2) := by decide +kernel
theorem dX2_init_61 : decode cX2_init 61 = .ok (.newarray .int, 2) := by decide +kernel
theorem dX2_init_63 : decode cX2_init 63 = .ok (.putfield 41, 3) := by decide +kernel
theorem dX2_init_66 : decode cX2_init 66 = .ok (.aload_n 0, 1) := by decide +kernel
theorem dX2_init_67 : decode cX2_init 67 = .ok (.bipush 6, 2) := by decide +kernel
theorem dX2_init_69 : decode cX2_init 69 = .ok (.newarray .int, 2) := by decide +kernel
theorem dX2_init_71 : decode cX2_init 71 = .ok (.putfield 44, 3) := by decide +kernel
theorem dX2_init_74 : decode cX2_init 74 = .ok (.aload_n 0, 1) := by decide +kernel
theorem dX2_init_75 : decode cX2_init 75 = .ok (.bipush 6, 2) := by decide +kernel
theorem dX2_init_77 : decode cX2_init 77 = .ok (.newarray .int, 2) := by decide +kernel
theorem dX2_init_79 : decode cX2_init 79 = .ok (.putfield 47, 3) := by decide +kernel
theorem dX2_init_82 : decode cX2_init 82 = .ok (.aload_n 0, 1) := by decide +kernel
theorem dX2_init_83 : decode cX2_init 83 = .ok (.bipush 6, 2) := by decide +kernel
theorem dX2_init_85 : decode cX2_init 85 = .ok (.newarray .int, 2) := by decide +kernel
theorem dX2_init_87 : decode cX2_init 87 = .ok (.putfield 50, 3) := by decide +kernel
theorem dX2_init_90 : decode cX2_init 90 = .ok (.return_, 1) := by decide +kernel
theorem dX2_begin_0 : decode cX2_begin 0 = .ok (.aload_n 0, 1) := by decide +kernel
theorem dX2_begin_1 : decode cX2_begin 1 = .ok (.iconst 1, 1) := by decide +kernel
theorem dX2_begin_2 : decode cX2_begin 2 = .ok (.putfield 9, 3) := by decide +kernel
theorem dX2_begin_5 : decode cX2_begin 5 = .ok (.aload_n 0, 1) := by decide +kernel
theorem dX2_begin_6 : decode cX2_begin 6 = .ok (.iload_n 1, 1) := by decide +kernel
theorem dX2_begin_7 : decode cX2_begin 7 = .ok (.putfield 15, 3) := by decide +kernel
theorem dX2_begin_10 : decode cX2_begin 10 = .ok (.aload_n 0, 1) := by decide +kernel
theorem dX2_begin_11 : decode cX2_begin 11 = .ok (.iconst 0, 1) := by decide +kernel
theorem dX2_begin_12 : decode cX2_begin 12 = .ok (.putfield 19, 3) := by decide +kernel
theorem dX2_begin_15 : decode cX2_begin 15 = .ok (.aload_n 0, 1) := by decide +kernel
theorem dX2_begin_16 : decode cX2_begin 16 = .ok (.iconst 0, 1) := by decide +kernel
theorem dX2_begin_17 : decode cX2_begin 17 = .ok (.putfield 22, 3) := by decide +kernel
theorem dX2_begin_20 : decode cX2_begin 20 = .ok (.aload_n 0, 1) := by decide +kernel
theorem dX2_begin_21 : decode cX2_begin 21 = .ok (.iconst 0, 1) := by decide +kernel
theorem dX2_begin_22 : decode cX2_begin 22 = .ok (.putfield 25, 3) := by decide +kernel
theorem dX2_begin_25 : decode cX2_begin 25 = .ok (.aload_n 0, 1) := by decide +kernel
theorem dX2_begin_26 : decode cX2_begin 26 = .ok (.iconst 0, 1) := by decide +kernel
theorem dX2_begin_27 : decode cX2_begin 27 = .ok (.putfield 28, 3) := by decide +kernel
theorem dX2_begin_30 : decode cX2_begin 30 = .ok (.return_, 1) := by decide +kernel
theorem dX2_become_0 : decode cX2_become 0 = .ok (.aload_n 0, 1) := by decide +kernel
theorem dX2_become_1 : decode cX2_become 1 = .ok (.aload_n 1, 1) := by decide +kernel
theorem dX2_become_2 : decode cX2_become 2 = .ok (.getfield 9, 3) := by decide +kernel
theorem dX2_become_5 : decode cX2_become 5 = .ok (.putfield 9, 3) := by decide +kernel
theorem dX2_become_8 : decode cX2_become 8 = .ok (.aload_n 0, 1) := by decide +kernel
theorem dX2_become_9 : decode cX2_become 9 = .ok (.aload_n 1, 1) := by decide +kernel
theorem dX2_become_10 : decode cX2_become 10 = .ok (.getfield 15, 3) := by decide +kernel
theorem dX2_become_13 : decode cX2_become 13 = .ok (.putfield 15, 3) := by decide +kernel
theorem dX2_become_16 : decode cX2_become 16 = .ok (.aload_n 0, 1) := by decide +kernel
theorem dX2_become_17 : decode cX2_become 17 = .ok (.aload_n 1, 1) := by decide +kernel
theorem dX2_become_18 : decode cX2_become 18 = .ok (.getfield 19, 3) := by decide +kernel
theorem dX2_become_21 : decode cX2_become 21 = .ok (.putfield 19, 3) := by decide +kernel
theorem dX2_become_24 : decode cX2_become 24 = .ok (.aload_n 0, 1) := by decide +kernel
theorem dX2_become_25 : decode cX2_become 25 = .ok (.aload_n 1, 1) := by decide +kernel
theorem dX2_become_26 : decode cX2_become 26 = .ok (.getfield 22, 3) := by decide +kernel
theorem dX2_become_29 : decode cX2_become 29 = .ok (.putfield 22, 3) := by decide +kernel
theorem dX2_become_32 : decode cX2_become 32 = .ok (.aload_n 0, 1) := by decide +kernel
theorem dX2_become_33 : decode cX2_become 33 = .ok (.aload_n 1, 1) := by decide +kernel
theorem dX2_become_34 : decode cX2_become 34 = .ok (.getfield 25, 3) := by decide +kernel
theorem dX2_become_37 : decode cX2_become 37 = .ok (.putfield 25, 3) := by decide +kernel
theorem dX2_become_40 : decode cX2_become 40 = .ok (.aload_n 0, 1) := by decide +kernel
theorem dX2_become_41 : decode cX2_become 41 = .ok (.aload_n 1, 1) := by decide +kernel
theorem dX2_become_42 : decode cX2_become 42 = .ok (.getfield 28, 3) := by decide +kernel
theorem dX2_become_45 : decode cX2_become 45 = .ok (.putfield 28, 3) := by decide +kernel
theorem dX2_become_48 : decode cX2_become 48 = .ok (.aload_n 1, 1) := by decide +kernel
theorem dX2_become_49 : decode cX2_become 49 = .ok (.getfield 31, 3) := by decide +kernel
theorem dX2_become_52 : decode cX2_become 52 = .ok (.iconst 0, 1) := by decide +kernel
theorem dX2_become_53 : decode cX2_become 53 = .ok (.aload_n 0, 1) := by decide +kernel
theorem dX2_become_54 : decode cX2_become 54 = .ok (.getfield 31, 3) := by decide +kernel
theorem dX2_become_57 : decode cX2_become 57 = .ok (.iconst 0, 1) := by decide +kernel
theorem dX2_become_58 : decode cX2_become 58 = .ok (.bipush 7, 2) := by decide +kernel
theorem dX2_become_60 : decode cX2_become 60 = .ok (.invokestatic 53, 3) := by decide +kernel
theorem dX2_become_63 : decode cX2_become 63 = .ok (.aload_n 1, 1) := by decide +kernel
theorem dX2_become_64 : decode cX2_become 64 = .ok (.getfield 35, 3) := by decide +kernel
theorem dX2_become_67 : decode cX2_become 67 = .ok (.iconst 0, 1) := by decide +kernel
theorem dX2_become_68 : decode cX2_become 68 = .ok (.aload_n 0, 1) := by decide +kernel
theorem dX2_become_69 : decode cX2_become 69 = .ok (.getfield 35, 3) := by decide +kernel
theorem dX2_become_72 : decode cX2_become 72 = .ok (.iconst 0, 1) := by decide +kernel
theorem dX2_become_73 : decode cX2_become 73 = .ok (.bipush 7, 2) := by decide +kernel
theorem dX2_become_75 : decode cX2_become 75 = .ok (.invokestatic 53, 3) := by decide +kernel
theorem dX2_become_78 : decode cX2_become 78 = .ok (.aload_n 1, 1) := by decide +kernel
theorem dX2_become_79 : decode cX2_become 79 = .ok (.getfield 38, 3) := by decide +kernel
theorem dX2_become_82 : decode cX2_become 82 = .ok (.iconst 0, 1) := by decide +kernel
theorem dX2_become_83 : decode cX2_become 83 = .ok (.aload_n 0, 1) := by decide +kernel
theorem dX2_become_84 : decode cX2_become 84 = .ok (.getfield 38, 3) := by decide +kernel
theorem dX2_become_87 : decode cX2_become 87 = .ok (.iconst 0, 1) := by decide +kernel
theorem dX2_become_88 : decode cX2_become 88 = .ok (.bipush 6, 2) := by decide +kernel
theorem dX2_become_90 : decode cX2_become 90 = .ok (.invokestatic 53, 3) := by decide +kernel
theorem dX2_become_93 : decode cX2_become 93 = .ok (.aload_n 1, 1) := by decide +kernel
theorem dX2_become_94 : decode cX2_become 94 = .ok (.getfield 41, 3) := by decide +kernel
theorem dX2_become_97 : decode cX2_become 97 = .ok (.iconst 0, 1) := by decide +kernel
theorem dX2_become_98 : decode cX2_become 98 = .ok (.aload_n 0, 1) := by decide +kernel
theorem dX2_become_99 : decode cX2_become 99 = .ok (.getfield 41, 3) := by decide +kernel
theorem dX2_become_102 : decode cX2_become 102 = .ok (.iconst 0, 1) := by decide +kernel
theorem dX2_become_103 : decode cX2_become 103 = .ok (.bipush 6, 2) := by decide +kernel
theorem dX2_become_105 : decode cX2_become 105 = .ok (.invokestatic 53, 3) := by decide +kernel
theorem dX2_become_108 : decode cX2_become 108 = .ok (.aload_n 1, 1) := by decide +kernel
theorem dX2_become_109 : decode cX2_become 109 = .ok (.getfield 44, 3) := by decide +kernel
theorem dX2_become_112 : decode cX2_become 112 = .ok (.iconst 0, 1) := by decide +kernel
theorem dX2_become_113 : decode cX2_become 113 = .ok (.aload_n 0, 1) := by decide +kernel
theorem dX2_become_114 : decode cX2_become 114 = .ok (.getfield 44, 3) := by decide +kernel
theorem dX2_become_117 : decode cX2_become 117 = .ok (.iconst 0, 1) := by decide +kernel
theorem dX2_become_118 : decode cX2_become 118 = .ok (.bipush 6, 2) := by decide +kernel
theorem dX2_become_120 : decode cX2_become 120 = .ok (.invokestatic 53, 3) := by decide +kernel
theorem dX2_become_123 : decode cX2_become 123 = .ok (.aload_n 1, 1) := by decide +kernel
theorem dX2_become_124 : decode cX2_become 124 = .ok (.getfield 47, 3) := by decide +kernel
theorem dX2_become_127 : decode cX2_become 127 = .ok (.iconst 0, 1) := by decide +kernel
theorem dX2_become_128 : decode cX2_become 128 = .ok (.aload_n 0, 1) := by decide +kernel
theorem dX2_become_129 : decode cX2_become 129 = .ok (.getfield 47, 3) := by decide +kernel
theorem dX2_become_132 : decode cX2_become 132 = .ok (.iconst 0, 1) := by decide +kernel
theorem dX2_become_133 : decode cX2_become 133 = .ok (.bipush 6, 2) := by decide +kernel
theorem dX2_become_135 : decode cX2_become 135 = .ok (.invokestatic 53, 3) := by decide +kernel
theorem dX2_become_138 : decode cX2_become 138 = .ok (.aload_n 1, 1) := by decide +kernel
theorem dX2_become_139 : decode cX2_become 139 = .ok (.getfield 50, 3) := by decide +kernel
theorem dX2_become_142 : decode cX2_become 142 = .ok (.iconst 0, 1) := by decide +kernel
theorem dX2_become_143 : decode cX2_become 143 = .ok (.aload_n 0, 1) := by decide +kernel
theorem dX2_become_144 : decode cX2_become 144 = .ok (.getfield 50, 3) := by decide +kernel
theorem dX2_become_147 : decode cX2_become 147 = .ok (.iconst 0, 1) := by decide +kernel
theorem dX2_become_148 : decode cX2_become 148 = .ok (.bipush 6, 2) := by decide +kernel
theorem dX2_become_150 : decode cX2_become 150 = .ok (.invokestatic 53, 3) := by decide +kernel
theorem dX2_become_153 : decode cX2_become 153 = .ok (.return_, 1) := by decide +kernel
theorem dX2_isKnown_0 : decode cX2_isKnown 0 = .ok (.aload_n 0, 1) := by decide +kernel
theorem dX2_isKnown_1 : decode cX2_isKnown 1 = .ok (.getfield 25, 3) := by decide +kernel
theorem dX2_isKnown_4 : decode cX2_isKnown 4 = .ok (.iload_n 1, 1) := by decide +kernel
theorem dX2_isKnown_5 : decode cX2_isKnown 5 = .ok (.ishr, 1) := by decide +kernel
theorem dX2_isKnown_6 : decode cX2_isKnown 6 = .ok (.iconst 1, 1) := by decide +kernel
theorem dX2_isKnown_7 : decode cX2_isKnown 7 = .ok (.iand, 1) := by decide +kernel
theorem dX2_isKnown_8 : decode cX2_isKnown 8 = .ok (.iconst 1, 1) := by decide +kernel
theorem dX2_isKnown_9 : decode cX2_isKnown 9 = .ok (.if_icmp .ne 7, 3) := by decide +kernel
theorem dX2_isKnown_12 : decode cX2_isKnown 12 = .ok (.iconst 1, 1) := by decide +kernel
theorem dX2_isKnown_13 : decode cX2_isKnown 13 = .ok (.goto 4, 3) := by decide +kernel
theorem dX2_isKnown_16 : decode cX2_isKnown 16 = .ok (.iconst 0, 1) := by decide +kernel
theorem dX2_isKnown_17 : decode cX2_isKnown 17 = .ok (.ireturn, 1) := by decide +kernel
theorem dX2_turnKnown_0 : decode cX2_turnKnown 0 = .ok (.aload_n 0, 1) := by decide +kernel
theorem dX2_turnKnown_1 : decode cX2_turnKnown 1 = .ok (.dup, 1) := by decide +kernel
theorem dX2_turnKnown_2 : decode cX2_turnKnown 2 = .ok (.getfield 25, 3) := by decide +kernel
theorem dX2_turnKnown_5 : decode cX2_turnKnown 5 = .ok (.iconst 1, 1) := by decide +kernel
theorem dX2_turnKnown_6 : decode cX2_turnKnown 6 = .ok (.iload_n 1, 1) := by decide +kernel
theorem dX2_turnKnown_7 : decode cX2_turnKnown 7 = .ok (.ishl, 1) := by decide +kernel
theorem dX2_turnKnown_8 : decode cX2_turnKnown 8 = .ok (.ixor, 1) := by decide +kernel
theorem dX2_turnKnown_9 : decode cX2_turnKnown 9 = .ok (.putfield 25, 3) := by decide +kernel
theorem dX2_turnKnown_12 : decode cX2_turnKnown 12 = .ok (.return_, 1) := by decide +kernel
set_option maxRecDepth 20000 in
theorem ggX2_owes_X2_owesSuch : GoodIn wsX2_owes wsX2_owesSuch := goodIn_r _ [7, 8, 9, 10, 6, 11, 12, 13, 14, 15, 16, 17, 18, 19, 20, 21, 22, 23, 24, 25, 26, 27, 28, 29, 30, 31, 32, 33, 34, 35] (by decide +kernel) (by decide +kernel)
set_option maxRecDepth 20000 in
theorem gX2_owes_X2_owesSuch : GoodIn wsX2_owes (wsV RX2 59 RX2 yX2_owesSuch wsX2_owesSuch) := goodIn_app (goodIn_of _ (by decide +kernel)) ggX2_owes_X2_owesSuch
theorem dX2_owes_0 : decode cX2_owes 0 = .ok (.aload_n 0, 1) := by decide +kernel
theorem dX2_owes_1 : decode cX2_owes 1 = .ok (.aload_n 0, 1) := by decide +kernel
theorem dX2_owes_2 : decode cX2_owes 2 = .ok (.getfield 38, 3) := by decide +kernel
theorem dX2_owes_5 : decode cX2_owes 5 = .ok (.iload_n 1, 1) := by decide +kernel
theorem dX2_owes_6 : decode cX2_owes 6 = .ok (.iaload, 1) := by decide +kernel
theorem dX2_owes_7 : decode cX2_owes 7 = .ok (.aload_n 0, 1) := by decide +kernel
theorem dX2_owes_8 : decode cX2_owes 8 = .ok (.getfield 41, 3) := by decide +kernel
theorem dX2_owes_11 : decode cX2_owes 11 = .ok (.iload_n 1, 1) := by decide +kernel
theorem dX2_owes_12 : decode cX2_owes 12 = .ok (.iaload, 1) := by decide +kernel
theorem dX2_owes_13 : decode cX2_owes 13 = .ok (.iload_n 2, 1) := by decide +kernel
theorem dX2_owes_14 : decode cX2_owes 14 = .ok (.invokevirtual 59, 3) := by decide +kernel
theorem dX2_owes_17 : decode cX2_owes 17 = .ok (.ireturn, 1) := by decide +kernel
set_option maxRecDepth 20000 in
theorem ggX2_owesIfKnown_X2_owesUnknown : GoodIn wsX2_owesIfKnown wsX2_owesUnknown := goodIn_r _ [7, 8, 9, 10, 11, 12, 13, 14, 15, 16, 17, 18, 19, 20, 21, 22, 23, 24, 25, 26] (by decide +kernel) (by decide +kernel)
set_option maxRecDepth 20000 in
theorem gX2_owesIfKnown_X2_owesUnknown : GoodIn wsX2_owesIfKnown (wsV RX2 63 RX2 yX2_owesUnknown wsX2_owesUnknown) := goodIn_app (goodIn_of _ (by decide +kernel)) ggX2_owesIfKnown_X2_owesUnknown
theorem dX2_owesIfKnown_0 : decode cX2_owesIfKnown 0 = .ok (.aload_n 0, 1) := by decide +kernel
theorem dX2_owesIfKnown_1 : decode cX2_owesIfKnown 1 = .ok (.aload_n 0, 1) := by decide +kernel
theorem dX2_owesIfKnown_2 : decode cX2_owesIfKnown 2 = .ok (.getfield 38, 3) := by decide +kernel
theorem dX2_owesIfKnown_5 : decode cX2_owesIfKnown 5 = .ok (.iload_n 1, 1) := by decide +kernel
theorem dX2_owesIfKnown_6 : decode cX2_owesIfKnown 6 = .ok (.iaload, 1) := by decide +kernel
theorem dX2_owesIfKnown_7 : decode cX2_owesIfKnown 7 = .ok (.aload_n 0, 1) := by decide +kernel
theorem dX2_owesIfKnown_8 : decode cX2_owesIfKnown 8 = .ok (.getfield 41, 3) := by decide +kernel
theorem dX2_owesIfKnown_11 : decode cX2_owesIfKnown 11 = .ok (.iload_n 1, 1) := by decide +kernel
theorem dX2_owesIfKnown_12 : decode cX2_owesIfKnown 12 = .ok (.iaload, 1) := by decide +kernel
theorem dX2_owesIfKnown_13 : decode cX2_owesIfKnown 13 = .ok (.iload_n 2, 1) := by decide +kernel
theorem dX2_owesIfKnown_14 : decode cX2_owesIfKnown 14 = .ok (.invokevirtual 63, 3) := by decide +kernel
theorem dX2_owesIfKnown_17 : decode cX2_owesIfKnown 17 = .ok (.iconst 2, 1) := by decide +kernel
theorem dX2_owesIfKnown_18 : decode cX2_owesIfKnown 18 = .ok (.idiv, 1) := by decide +kernel
theorem dX2_owesIfKnown_19 : decode cX2_owesIfKnown 19 = .ok (.ireturn, 1) := by decide +kernel
set_option maxRecDepth 20000 in
theorem ggX2_owesSuch_X2_owesUnknown : GoodIn wsX2_owesSuch wsX2_owesUnknown := goodIn_r _ [5, 6, 7, 8, 9, 10, 11, 17, 18, 19, 20, 21, 22, 23, 24, 25, 26, 27, 28, 29] (by decide +kernel) (by decide +kernel)
set_option maxRecDepth 20000 in
theorem gX2_owesSuch_X2_owesUnknown : GoodIn wsX2_owesSuch (wsV RX2 63 RX2 yX2_owesUnknown wsX2_owesUnknown) := goodIn_app (goodIn_of _ (by decide +kernel)) ggX2_owesSuch_X2_owesUnknown
set_option maxRecDepth 20000 in
theorem ggX2_owesSuch_X2_isKnown : GoodIn wsX2_owesSuch wsX2_isKnown := goodIn_r _ [15, 16, 17, 18, 19, 20, 21, 22, 23, 24, 25, 26, 27, 28, 29] (by decide +kernel) (by decide +kernel)
set_option maxRecDepth 20000 in
theorem gX2_owesSuch_X2_isKnown : GoodIn wsX2_owesSuch (wsV RX2 66 RX2 yX2_isKnown wsX2_isKnown) := goodIn_app (goodIn_of _ (by decide +kernel)) ggX2_owesSuch_X2_isKnown
theorem dX2_owesSuch_0 : decode cX2_owesSuch 0 = .ok (.aload_n 0, 1) := by decide +kernel
theorem dX2_owesSuch_1 : decode cX2_owesSuch 1 = .ok (.iload_n 1, 1) := by decide +kernel
theorem dX2_owesSuch_2 : decode cX2_owesSuch 2 = .ok (.iload_n 2, 1) := by decide +kernel
theorem dX2_owesSuch_3 : decode cX2_owesSuch 3 = .ok (.iload_n 3, 1) := by decide +kernel
theorem dX2_owesSuch_4 : decode cX2_owesSuch 4 = .ok (.invokevirtual 63, 3) := by decide +kernel
theorem dX2_owesSuch_7 : decode cX2_owesSuch 7 = .ok (.istore 4, 2) := by decide +kernel
theorem dX2_owesSuch_9 : decode cX2_owesSuch 9 = .ok (.aload_n 0, 1) := by decide +kernel
theorem dX2_owesSuch_10 : decode cX2_owesSuch 10 = .ok (.iload_n 3, 1) := by decide +kernel
theorem dX2_owesSuch_11 : decode cX2_owesSuch 11 = .ok (.invokevirtual 66, 3) := by decide +kernel
theorem dX2_owesSuch_14 : decode cX2_owesSuch 14 = .ok (.ifCond .eq 10, 3) := by decide +kernel
theorem dX2_owesSuch_17 : decode cX2_owesSuch 17 = .ok (.iload 4, 2) := by decide +kernel
theorem dX2_owesSuch_19 : decode cX2_owesSuch 19 = .ok (.iconst 2, 1) := by decide +kernel
theorem dX2_owesSuch_20 : decode cX2_owesSuch 20 = .ok (.idiv, 1) := by decide +kernel
theorem dX2_owesSuch_21 : decode cX2_owesSuch 21 = .ok (.goto 5, 3) := by decide +kernel
theorem dX2_owesSuch_24 : decode cX2_owesSuch 24 = .ok (.iload 4, 2) := by decide +kernel
theorem dX2_owesSuch_26 : decode cX2_owesSuch 26 = .ok (.ireturn, 1) := by decide +kernel
theorem dX2_owesUnknown_0 : decode cX2_owesUnknown 0 = .ok (.iload_n 2, 1) := by decide +kernel
theorem dX2_owesUnknown_1 : decode cX2_owesUnknown 1 = .ok (.aload_n 0, 1) := by decide +kernel
theorem dX2_owesUnknown_2 : decode cX2_owesUnknown 2 = .ok (.getfield 15, 3) := by decide +kernel
theorem dX2_owesUnknown_5 : decode cX2_owesUnknown 5 = .ok (.imul, 1) := by decide +kernel
theorem dX2_owesUnknown_6 : decode cX2_owesUnknown 6 = .ok (.iload_n 2, 1) := by decide +kernel
theorem dX2_owesUnknown_7 : decode cX2_owesUnknown 7 = .ok (.aload_n 0, 1) := by decide +kernel
theorem dX2_owesUnknown_8 : decode cX2_owesUnknown 8 = .ok (.getfield 35, 3) := by decide +kernel
theorem dX2_owesUnknown_11 : decode cX2_owesUnknown 11 = .ok (.iload_n 3, 1) := by decide +kernel
theorem dX2_owesUnknown_12 : decode cX2_owesUnknown 12 = .ok (.iaload, 1) := by decide +kernel
theorem dX2_owesUnknown_13 : decode cX2_owesUnknown 13 = .ok (.imul, 1) := by decide +kernel
theorem dX2_owesUnknown_14 : decode cX2_owesUnknown 14 = .ok (.bipush 10, 2) := by decide +kernel
theorem dX2_owesUnknown_16 : decode cX2_owesUnknown 16 = .ok (.idiv, 1) := by decide +kernel
theorem dX2_owesUnknown_17 : decode cX2_owesUnknown 17 = .ok (.iadd, 1) := by decide +kernel
theorem dX2_owesUnknown_18 : decode cX2_owesUnknown 18 = .ok (.istore 4, 2) := by decide +kernel
theorem dX2_owesUnknown_20 : decode cX2_owesUnknown 20 = .ok (.iload_n 1, 1) := by decide +kernel
theorem dX2_owesUnknown_21 : decode cX2_owesUnknown 21 = .ok (.tableswitch 77 1 5 #[35, 38, 43, 77, 60], 35) := by decide +kernel
theorem dX2_owesUnknown_56 : decode cX2_owesUnknown 56 = .ok (.iload 4, 2) := by decide +kernel
theorem dX2_owesUnknown_58 : decode cX2_owesUnknown 58 = .ok (.ireturn, 1) := by decide +kernel
theorem dX2_owesUnknown_59 : decode cX2_owesUnknown 59 = .ok (.iload 4, 2) := by decide +kernel
theorem dX2_owesUnknown_61 : decode cX2_owesUnknown 61 = .ok (.iconst 2, 1) := by decide +kernel
theorem dX2_owesUnknown_62 : decode cX2_owesUnknown 62 = .ok (.idiv, 1) := by decide +kernel
theorem dX2_owesUnknown_63 : decode cX2_owesUnknown 63 = .ok (.ireturn, 1) := by decide +kernel
theorem dX2_owesUnknown_64 : decode cX2_owesUnknown 64 = .ok (.iload 4, 2) := by decide +kernel
theorem dX2_owesUnknown_66 : decode cX2_owesUnknown 66 = .ok (.aload_n 0, 1) := by decide +kernel
theorem dX2_owesUnknown_67 : decode cX2_owesUnknown 67 = .ok (.getfield 15, 3) := by decide +kernel
theorem dX2_owesUnknown_70 : decode cX2_owesUnknown 70 = .ok (.iconst 0, 1) := by decide +kernel
theorem dX2_owesUnknown_71 : decode cX2_owesUnknown 71 = .ok (.iload_n 2, 1) := by decide +kernel
theorem dX2_owesUnknown_72 : decode cX2_owesUnknown 72 = .ok (.bipush 10, 2) := by decide +kernel
theorem dX2_owesUnknown_74 : decode cX2_owesUnknown 74 = .ok (.isub, 1) := by decide +kernel
theorem dX2_owesUnknown_75 : decode cX2_owesUnknown 75 = .ok (.invokestatic 70, 3) := by decide +kernel
theorem dX2_owesUnknown_78 : decode cX2_owesUnknown 78 = .ok (.imul, 1) := by decide +kernel
theorem dX2_owesUnknown_79 : decode cX2_owesUnknown 79 = .ok (.iadd, 1) := by decide +kernel
theorem dX2_owesUnknown_80 : decode cX2_owesUnknown 80 = .ok (.ireturn, 1) := by decide +kernel
theorem dX2_owesUnknown_81 : decode cX2_owesUnknown 81 = .ok (.aload_n 0, 1) := by decide +kernel
theorem dX2_owesUnknown_82 : decode cX2_owesUnknown 82 = .ok (.getfield 35, 3) := by decide +kernel
theorem dX2_owesUnknown_85 : decode cX2_owesUnknown 85 = .ok (.iload_n 3, 1) := by decide +kernel
theorem dX2_owesUnknown_86 : decode cX2_owesUnknown 86 = .ok (.iaload, 1) := by decide +kernel
theorem dX2_owesUnknown_87 : decode cX2_owesUnknown 87 = .ok (.iconst 5, 1) := by decide +kernel
theorem dX2_owesUnknown_88 : decode cX2_owesUnknown 88 = .ok (.if_icmp .lt 8, 3) := by decide +kernel
theorem dX2_owesUnknown_91 : decode cX2_owesUnknown 91 = .ok (.iload 4, 2) := by decide +kernel
theorem dX2_owesUnknown_93 : decode cX2_owesUnknown 93 = .ok (.goto 4, 3) := by decide +kernel
theorem dX2_owesUnknown_96 : decode cX2_owesUnknown 96 = .ok (.iconst 1, 1) := by decide +kernel
theorem dX2_owesUnknown_97 : decode cX2_owesUnknown 97 = .ok (.ireturn, 1) := by decide +kernel
theorem dX2_owesUnknown_98 : decode cX2_owesUnknown 98 = .ok (.iconst 1, 1) := by decide +kernel
theorem dX2_owesUnknown_99 : decode cX2_owesUnknown 99 = .ok (.ireturn, 1) := by decide +kernel
theorem dX2_isSeen_0 : decode cX2_isSeen 0 = .ok (.aload_n 0, 1) := by decide +kernel
theorem dX2_isSeen_1 : decode cX2_isSeen 1 = .ok (.getfield 38, 3) := by decide +kernel
theorem dX2_isSeen_4 : decode cX2_isSeen 4 = .ok (.iload_n 1, 1) := by decide +kernel
theorem dX2_isSeen_5 : decode cX2_isSeen 5 = .ok (.iaload, 1) := by decide +kernel
theorem dX2_isSeen_6 : decode cX2_isSeen 6 = .ok (.iconst 4, 1) := by decide +kernel
theorem dX2_isSeen_7 : decode cX2_isSeen 7 = .ok (.if_icmp .eq 13, 3) := by decide +kernel
theorem dX2_isSeen_10 : decode cX2_isSeen 10 = .ok (.aload_n 0, 1) := by decide +kernel
theorem dX2_isSeen_11 : decode cX2_isSeen 11 = .ok (.getfield 38, 3) := by decide +kernel
theorem dX2_isSeen_14 : decode cX2_isSeen 14 = .ok (.iload_n 1, 1) := by decide +kernel
theorem dX2_isSeen_15 : decode cX2_isSeen 15 = .ok (.iaload, 1) := by decide +kernel
theorem dX2_isSeen_16 : decode cX2_isSeen 16 = .ok (.iconst 5, 1) := by decide +kernel
theorem dX2_isSeen_17 : decode cX2_isSeen 17 = .ok (.if_icmp .ne 7, 3) := by decide +kernel
theorem dX2_isSeen_20 : decode cX2_isSeen 20 = .ok (.iconst 1, 1) := by decide +kernel
theorem dX2_isSeen_21 : decode cX2_isSeen 21 = .ok (.goto 4, 3) := by decide +kernel
theorem dX2_isSeen_24 : decode cX2_isSeen 24 = .ok (.iconst 0, 1) := by decide +kernel
theorem dX2_isSeen_25 : decode cX2_isSeen 25 = .ok (.istore_n 3, 1) := by decide +kernel
theorem dX2_isSeen_26 : decode cX2_isSeen 26 = .ok (.aload_n 0, 1) := by decide +kernel
theorem dX2_isSeen_27 : decode cX2_isSeen 27 = .ok (.getfield 41, 3) := by decide +kernel
theorem dX2_isSeen_30 : decode cX2_isSeen 30 = .ok (.iload_n 1, 1) := by decide +kernel
theorem dX2_isSeen_31 : decode cX2_isSeen 31 = .ok (.iaload, 1) := by decide +kernel
theorem dX2_isSeen_32 : decode cX2_isSeen 32 = .ok (.iload_n 3, 1) := by decide +kernel
theorem dX2_isSeen_33 : decode cX2_isSeen 33 = .ok (.ifCond .eq 7, 3) := by decide +kernel
theorem dX2_isSeen_36 : decode cX2_isSeen 36 = .ok (.iconst 5, 1) := by decide +kernel
theorem dX2_isSeen_37 : decode cX2_isSeen 37 = .ok (.goto 4, 3) := by decide +kernel
theorem dX2_isSeen_40 : decode cX2_isSeen 40 = .ok (.iconst 0, 1) := by decide +kernel
theorem dX2_isSeen_41 : decode cX2_isSeen 41 = .ok (.iadd, 1) := by decide +kernel
theorem dX2_isSeen_42 : decode cX2_isSeen 42 = .ok (.aload_n 0, 1) := by decide +kernel
theorem dX2_isSeen_43 : decode cX2_isSeen 43 = .ok (.getfield 31, 3) := by decide +kernel
theorem dX2_isSeen_46 : decode cX2_isSeen 46 = .ok (.iload_n 2, 1) := by decide +kernel
theorem dX2_isSeen_47 : decode cX2_isSeen 47 = .ok (.iaload, 1) := by decide +kernel
theorem dX2_isSeen_48 : decode cX2_isSeen 48 = .ok (.if_icmp .lt 7, 3) := by decide +kernel
theorem dX2_isSeen_51 : decode cX2_isSeen 51 = .ok (.iconst 1, 1) := by decide +kernel
theorem dX2_isSeen_52 : decode cX2_isSeen 52 = .ok (.goto 4, 3) := by decide +kernel
theorem dX2_isSeen_55 : decode cX2_isSeen 55 = .ok (.iconst 0, 1) := by decide +kernel
theorem dX2_isSeen_56 : decode cX2_isSeen 56 = .ok (.ireturn, 1) := by decide +kernel
set_option maxRecDepth 20000 in
theorem ggX2_tells_X2_isSeen : GoodIn wsX2_tells wsX2_isSeen := goodIn_r _ [6, 7, 8, 9, 10, 11, 12, 13, 14, 15, 16, 17, 18, 19, 20, 21, 22] (by decide +kernel) (by decide +kernel)
set_option maxRecDepth 20000 in
theorem gX2_tells_X2_isSeen : GoodIn wsX2_tells (wsV RX2 78 RX2 yX2_isSeen wsX2_isSeen) := goodIn_app (goodIn_of _ (by decide +kernel)) ggX2_tells_X2_isSeen
theorem dX2_tells_0 : decode cX2_tells 0 = .ok (.aload_n 0, 1) := by decide +kernel
theorem dX2_tells_1 : decode cX2_tells 1 = .ok (.getfield 44, 3) := by decide +kernel
theorem dX2_tells_4 : decode cX2_tells 4 = .ok (.iload_n 1, 1) := by decide +kernel
theorem dX2_tells_5 : decode cX2_tells 5 = .ok (.iaload, 1) := by decide +kernel
theorem dX2_tells_6 : decode cX2_tells 6 = .ok (.iload_n 2, 1) := by decide +kernel
theorem dX2_tells_7 : decode cX2_tells 7 = .ok (.if_icmp .ne 16, 3) := by decide +kernel
theorem dX2_tells_10 : decode cX2_tells 10 = .ok (.aload_n 0, 1) := by decide +kernel
theorem dX2_tells_11 : decode cX2_tells 11 = .ok (.iload_n 1, 1) := by decide +kernel
theorem dX2_tells_12 : decode cX2_tells 12 = .ok (.iload_n 3, 1) := by decide +kernel
theorem dX2_tells_13 : decode cX2_tells 13 = .ok (.invokevirtual 78, 3) := by decide +kernel
theorem dX2_tells_16 : decode cX2_tells 16 = .ok (.ifCond .eq 7, 3) := by decide +kernel
theorem dX2_tells_19 : decode cX2_tells 19 = .ok (.iconst 1, 1) := by decide +kernel
theorem dX2_tells_20 : decode cX2_tells 20 = .ok (.goto 4, 3) := by decide +kernel
theorem dX2_tells_23 : decode cX2_tells 23 = .ok (.iconst 0, 1) := by decide +kernel
theorem dX2_tells_24 : decode cX2_tells 24 = .ok (.ireturn, 1) := by decide +kernel
set_option maxRecDepth 20000 in
theorem ggX2_streetsThatSee_X2_isSeen : GoodIn wsX2_streetsThatSee wsX2_isSeen := goodIn_r _ [6, 7, 8, 9, 10, 11, 12, 13, 14, 15, 16, 17, 18, 19, 20, 21, 22] (by decide +kernel) (by decide +kernel)
set_option maxRecDepth 20000 in
theorem gX2_streetsThatSee_X2_isSeen : GoodIn wsX2_streetsThatSee (wsV RX2 78 RX2 yX2_isSeen wsX2_isSeen) := goodIn_app (goodIn_of _ (by decide +kernel)) ggX2_streetsThatSee_X2_isSeen
theorem dX2_streetsThatSee_0 : decode cX2_streetsThatSee 0 = .ok (.iconst 0, 1) := by decide +kernel
theorem dX2_streetsThatSee_1 : decode cX2_streetsThatSee 1 = .ok (.istore_n 2, 1) := by decide +kernel
theorem dX2_streetsThatSee_2 : decode cX2_streetsThatSee 2 = .ok (.iconst 0, 1) := by decide +kernel
theorem dX2_streetsThatSee_3 : decode cX2_streetsThatSee 3 = .ok (.istore_n 3, 1) := by decide +kernel
theorem dX2_streetsThatSee_4 : decode cX2_streetsThatSee 4 = .ok (.iload_n 3, 1) := by decide +kernel
theorem dX2_streetsThatSee_5 : decode cX2_streetsThatSee 5 = .ok (.aload_n 0, 1) := by decide +kernel
theorem dX2_streetsThatSee_6 : decode cX2_streetsThatSee 6 = .ok (.getfield 22, 3) := by decide +kernel
theorem dX2_streetsThatSee_9 : decode cX2_streetsThatSee 9 = .ok (.if_icmp .ge 28, 3) := by decide +kernel
theorem dX2_streetsThatSee_12 : decode cX2_streetsThatSee 12 = .ok (.iload_n 2, 1) := by decide +kernel
theorem dX2_streetsThatSee_13 : decode cX2_streetsThatSee 13 = .ok (.aload_n 0, 1) := by decide +kernel
theorem dX2_streetsThatSee_14 : decode cX2_streetsThatSee 14 = .ok (.iload_n 1, 1) := by decide +kernel
theorem dX2_streetsThatSee_15 : decode cX2_streetsThatSee 15 = .ok (.iload_n 3, 1) := by decide +kernel
theorem dX2_streetsThatSee_16 : decode cX2_streetsThatSee 16 = .ok (.invokevirtual 78, 3) := by decide +kernel
theorem dX2_streetsThatSee_19 : decode cX2_streetsThatSee 19 = .ok (.ifCond .eq 9, 3) := by decide +kernel
theorem dX2_streetsThatSee_22 : decode cX2_streetsThatSee 22 = .ok (.iconst 1, 1) := by decide +kernel
theorem dX2_streetsThatSee_23 : decode cX2_streetsThatSee 23 = .ok (.iload_n 3, 1) := by decide +kernel
theorem dX2_streetsThatSee_24 : decode cX2_streetsThatSee 24 = .ok (.ishl, 1) := by decide +kernel
theorem dX2_streetsThatSee_25 : decode cX2_streetsThatSee 25 = .ok (.goto 4, 3) := by decide +kernel
theorem dX2_streetsThatSee_28 : decode cX2_streetsThatSee 28 = .ok (.iconst 0, 1) := by decide +kernel
theorem dX2_streetsThatSee_29 : decode cX2_streetsThatSee 29 = .ok (.ior, 1) := by decide +kernel
theorem dX2_streetsThatSee_30 : decode cX2_streetsThatSee 30 = .ok (.istore_n 2, 1) := by decide +kernel
theorem dX2_streetsThatSee_31 : decode cX2_streetsThatSee 31 = .ok (.iinc 3 1, 3) := by decide +kernel
theorem dX2_streetsThatSee_34 : decode cX2_streetsThatSee 34 = .ok (.goto (-30), 3) := by decide +kernel
theorem dX2_streetsThatSee_37 : decode cX2_streetsThatSee 37 = .ok (.iload_n 2, 1) := by decide +kernel
theorem dX2_streetsThatSee_38 : decode cX2_streetsThatSee 38 = .ok (.ireturn, 1) := by decide +kernel
set_option maxRecDepth 20000 in
theorem ggX2_gesturesSeenIn_X2_isSeen : GoodIn wsX2_gesturesSeenIn wsX2_isSeen := goodIn_r _ [6, 7, 8, 9, 10, 11, 12, 13, 14, 15, 16, 17, 18, 19, 20, 21, 22] (by decide +kernel) (by decide +kernel)
set_option maxRecDepth 20000 in
theorem gX2_gesturesSeenIn_X2_isSeen : GoodIn wsX2_gesturesSeenIn (wsV RX2 78 RX2 yX2_isSeen wsX2_isSeen) := goodIn_app (goodIn_of _ (by decide +kernel)) ggX2_gesturesSeenIn_X2_isSeen
theorem dX2_gesturesSeenIn_0 : decode cX2_gesturesSeenIn 0 = .ok (.iconst 0, 1) := by decide +kernel
theorem dX2_gesturesSeenIn_1 : decode cX2_gesturesSeenIn 1 = .ok (.istore_n 2, 1) := by decide +kernel
theorem dX2_gesturesSeenIn_2 : decode cX2_gesturesSeenIn 2 = .ok (.iconst 0, 1) := by decide +kernel
theorem dX2_gesturesSeenIn_3 : decode cX2_gesturesSeenIn 3 = .ok (.istore_n 3, 1) := by decide +kernel
theorem dX2_gesturesSeenIn_4 : decode cX2_gesturesSeenIn 4 = .ok (.iload_n 3, 1) := by decide +kernel
theorem dX2_gesturesSeenIn_5 : decode cX2_gesturesSeenIn 5 = .ok (.aload_n 0, 1) := by decide +kernel
theorem dX2_gesturesSeenIn_6 : decode cX2_gesturesSeenIn 6 = .ok (.getfield 28, 3) := by decide +kernel
theorem dX2_gesturesSeenIn_9 : decode cX2_gesturesSeenIn 9 = .ok (.if_icmp .ge 28, 3) := by decide +kernel
theorem dX2_gesturesSeenIn_12 : decode cX2_gesturesSeenIn 12 = .ok (.iload_n 2, 1) := by decide +kernel
theorem dX2_gesturesSeenIn_13 : decode cX2_gesturesSeenIn 13 = .ok (.aload_n 0, 1) := by decide +kernel
theorem dX2_gesturesSeenIn_14 : decode cX2_gesturesSeenIn 14 = .ok (.iload_n 3, 1) := by decide +kernel
theorem dX2_gesturesSeenIn_15 : decode cX2_gesturesSeenIn 15 = .ok (.iload_n 1, 1) := by decide +kernel
theorem dX2_gesturesSeenIn_16 : decode cX2_gesturesSeenIn 16 = .ok (.invokevirtual 78, 3) := by decide +kernel
theorem dX2_gesturesSeenIn_19 : decode cX2_gesturesSeenIn 19 = .ok (.ifCond .eq 9, 3) := by decide +kernel
theorem dX2_gesturesSeenIn_22 : decode cX2_gesturesSeenIn 22 = .ok (.iconst 1, 1) := by decide +kernel
theorem dX2_gesturesSeenIn_23 : decode cX2_gesturesSeenIn 23 = .ok (.iload_n 3, 1) := by decide +kernel
theorem dX2_gesturesSeenIn_24 : decode cX2_gesturesSeenIn 24 = .ok (.ishl, 1) := by decide +kernel
theorem dX2_gesturesSeenIn_25 : decode cX2_gesturesSeenIn 25 = .ok (.goto 4, 3) := by decide +kernel
theorem dX2_gesturesSeenIn_28 : decode cX2_gesturesSeenIn 28 = .ok (.iconst 0, 1) := by decide +kernel
theorem dX2_gesturesSeenIn_29 : decode cX2_gesturesSeenIn 29 = .ok (.ior, 1) := by decide +kernel
theorem dX2_gesturesSeenIn_30 : decode cX2_gesturesSeenIn 30 = .ok (.istore_n 2, 1) := by decide +kernel
theorem dX2_gesturesSeenIn_31 : decode cX2_gesturesSeenIn 31 = .ok (.iinc 3 1, 3) := by decide +kernel
theorem dX2_gesturesSeenIn_34 : decode cX2_gesturesSeenIn 34 = .ok (.goto (-30), 3) := by decide +kernel
theorem dX2_gesturesSeenIn_37 : decode cX2_gesturesSeenIn 37 = .ok (.iload_n 2, 1) := by decide +kernel
theorem dX2_gesturesSeenIn_38 : decode cX2_gesturesSeenIn 38 = .ok (.ireturn, 1) := by decide +kernel
set_option maxRecDepth 20000 in
theorem ggX2_streetsWithout_X2_leastTime : GoodIn wsX2_streetsWithout wsX2_leastTime := goodIn_r _ [7, 2, 8, 9, 10, 11, 12, 6, 13, 14, 15, 16, 17, 18, 19, 20, 21, 22, 23, 24, 25, 26, 27, 28, 29, 30, 31, 32, 33, 34] (by decide +kernel) (by decide +kernel)
set_option maxRecDepth 20000 in
theorem gX2_streetsWithout_X2_leastTime : GoodIn wsX2_streetsWithout (wsV RX2 82 RX2 yX2_leastTime wsX2_leastTime) := goodIn_app (goodIn_of _ (by decide +kernel)) ggX2_streetsWithout_X2_leastTime
theorem dX2_streetsWithout_0 : decode cX2_streetsWithout 0 = .ok (.iconst 0, 1) := by decide +kernel
theorem dX2_streetsWithout_1 : decode cX2_streetsWithout 1 = .ok (.istore_n 2, 1) := by decide +kernel
theorem dX2_streetsWithout_2 : decode cX2_streetsWithout 2 = .ok (.iconst 0, 1) := by decide +kernel
theorem dX2_streetsWithout_3 : decode cX2_streetsWithout 3 = .ok (.istore_n 3, 1) := by decide +kernel
theorem dX2_streetsWithout_4 : decode cX2_streetsWithout 4 = .ok (.iload_n 3, 1) := by decide +kernel
theorem dX2_streetsWithout_5 : decode cX2_streetsWithout 5 = .ok (.aload_n 0, 1) := by decide +kernel
theorem dX2_streetsWithout_6 : decode cX2_streetsWithout 6 = .ok (.getfield 22, 3) := by decide +kernel
theorem dX2_streetsWithout_9 : decode cX2_streetsWithout 9 = .ok (.if_icmp .ge 30, 3) := by decide +kernel
theorem dX2_streetsWithout_12 : decode cX2_streetsWithout 12 = .ok (.iload_n 2, 1) := by decide +kernel
theorem dX2_streetsWithout_13 : decode cX2_streetsWithout 13 = .ok (.aload_n 0, 1) := by decide +kernel
theorem dX2_streetsWithout_14 : decode cX2_streetsWithout 14 = .ok (.iload_n 1, 1) := by decide +kernel
theorem dX2_streetsWithout_15 : decode cX2_streetsWithout 15 = .ok (.iload_n 3, 1) := by decide +kernel
theorem dX2_streetsWithout_16 : decode cX2_streetsWithout 16 = .ok (.invokevirtual 82, 3) := by decide +kernel
theorem dX2_streetsWithout_19 : decode cX2_streetsWithout 19 = .ok (.ldc 85, 2) := by decide +kernel
theorem dX2_streetsWithout_21 : decode cX2_streetsWithout 21 = .ok (.if_icmp .ne 9, 3) := by decide +kernel
theorem dX2_streetsWithout_24 : decode cX2_streetsWithout 24 = .ok (.iconst 1, 1) := by decide +kernel
theorem dX2_streetsWithout_25 : decode cX2_streetsWithout 25 = .ok (.iload_n 3, 1) := by decide +kernel
theorem dX2_streetsWithout_26 : decode cX2_streetsWithout 26 = .ok (.ishl, 1) := by decide +kernel
theorem dX2_streetsWithout_27 : decode cX2_streetsWithout 27 = .ok (.goto 4, 3) := by decide +kernel
theorem dX2_streetsWithout_30 : decode cX2_streetsWithout 30 = .ok (.iconst 0, 1) := by decide +kernel
theorem dX2_streetsWithout_31 : decode cX2_streetsWithout 31 = .ok (.ior, 1) := by decide +kernel
theorem dX2_streetsWithout_32 : decode cX2_streetsWithout 32 = .ok (.istore_n 2, 1) := by decide +kernel
theorem dX2_streetsWithout_33 : decode cX2_streetsWithout 33 = .ok (.iinc 3 1, 3) := by decide +kernel
theorem dX2_streetsWithout_36 : decode cX2_streetsWithout 36 = .ok (.goto (-32), 3) := by decide +kernel
theorem dX2_streetsWithout_39 : decode cX2_streetsWithout 39 = .ok (.iload_n 2, 1) := by decide +kernel
theorem dX2_streetsWithout_40 : decode cX2_streetsWithout 40 = .ok (.ireturn, 1) := by decide +kernel
set_option maxRecDepth 20000 in
theorem ggX2_leastTime_X2_tells : GoodIn wsX2_leastTime wsX2_tells := goodIn_r _ [8, 9, 10, 11, 12, 7, 13, 14, 15, 16, 17, 18, 19, 20, 21, 22, 23, 24, 25, 26, 27, 28, 29] (by decide +kernel) (by decide +kernel)
set_option maxRecDepth 20000 in
theorem gX2_leastTime_X2_tells : GoodIn wsX2_leastTime (wsV RX2 86 RX2 yX2_tells wsX2_tells) := goodIn_app (goodIn_of _ (by decide +kernel)) ggX2_leastTime_X2_tells
theorem dX2_leastTime_0 : decode cX2_leastTime 0 = .ok (.ldc 85, 2) := by decide +kernel
theorem dX2_leastTime_2 : decode cX2_leastTime 2 = .ok (.istore_n 3, 1) := by decide +kernel
theorem dX2_leastTime_3 : decode cX2_leastTime 3 = .ok (.iconst 0, 1) := by decide +kernel
theorem dX2_leastTime_4 : decode cX2_leastTime 4 = .ok (.istore 4, 2) := by decide +kernel
theorem dX2_leastTime_6 : decode cX2_leastTime 6 = .ok (.iload 4, 2) := by decide +kernel
theorem dX2_leastTime_8 : decode cX2_leastTime 8 = .ok (.aload_n 0, 1) := by decide +kernel
theorem dX2_leastTime_9 : decode cX2_leastTime 9 = .ok (.getfield 28, 3) := by decide +kernel
theorem dX2_leastTime_12 : decode cX2_leastTime 12 = .ok (.if_icmp .ge 45, 3) := by decide +kernel
theorem dX2_leastTime_15 : decode cX2_leastTime 15 = .ok (.aload_n 0, 1) := by decide +kernel
theorem dX2_leastTime_16 : decode cX2_leastTime 16 = .ok (.iload 4, 2) := by decide +kernel
theorem dX2_leastTime_18 : decode cX2_leastTime 18 = .ok (.iload_n 1, 1) := by decide +kernel
theorem dX2_leastTime_19 : decode cX2_leastTime 19 = .ok (.iload_n 2, 1) := by decide +kernel
theorem dX2_leastTime_20 : decode cX2_leastTime 20 = .ok (.invokevirtual 86, 3) := by decide +kernel
theorem dX2_leastTime_23 : decode cX2_leastTime 23 = .ok (.ifCond .eq 28, 3) := by decide +kernel
theorem dX2_leastTime_26 : decode cX2_leastTime 26 = .ok (.iload_n 3, 1) := by decide +kernel
theorem dX2_leastTime_27 : decode cX2_leastTime 27 = .ok (.ldc 85, 2) := by decide +kernel
theorem dX2_leastTime_29 : decode cX2_leastTime 29 = .ok (.if_icmp .eq 14, 3) := by decide +kernel
theorem dX2_leastTime_32 : decode cX2_leastTime 32 = .ok (.aload_n 0, 1) := by decide +kernel
theorem dX2_leastTime_33 : decode cX2_leastTime 33 = .ok (.getfield 47, 3) := by decide +kernel
theorem dX2_leastTime_36 : decode cX2_leastTime 36 = .ok (.iload 4, 2) := by decide +kernel
theorem dX2_leastTime_38 : decode cX2_leastTime 38 = .ok (.iaload, 1) := by decide +kernel
theorem dX2_leastTime_39 : decode cX2_leastTime 39 = .ok (.iload_n 3, 1) := by decide +kernel
theorem dX2_leastTime_40 : decode cX2_leastTime 40 = .ok (.if_icmp .ge 11, 3) := by decide +kernel
theorem dX2_leastTime_43 : decode cX2_leastTime 43 = .ok (.aload_n 0, 1) := by decide +kernel
theorem dX2_leastTime_44 : decode cX2_leastTime 44 = .ok (.getfield 47, 3) := by decide +kernel
theorem dX2_leastTime_47 : decode cX2_leastTime 47 = .ok (.iload 4, 2) := by decide +kernel
theorem dX2_leastTime_49 : decode cX2_leastTime 49 = .ok (.iaload, 1) := by decide +kernel
theorem dX2_leastTime_50 : decode cX2_leastTime 50 = .ok (.istore_n 3, 1) := by decide +kernel
theorem dX2_leastTime_51 : decode cX2_leastTime 51 = .ok (.iinc 4 1, 3) := by decide +kernel
theorem dX2_leastTime_54 : decode cX2_leastTime 54 = .ok (.goto (-48), 3) := by decide +kernel
theorem dX2_leastTime_57 : decode cX2_leastTime 57 = .ok (.iload_n 3, 1) := by decide +kernel
theorem dX2_leastTime_58 : decode cX2_leastTime 58 = .ok (.ireturn, 1) := by decide +kernel
set_option maxRecDepth 20000 in
theorem ggX2_dearestStreet_X2_owes : GoodIn wsX2_dearestStreet wsX2_owes := goodIn_r _ [6, 7, 8, 9, 10, 11, 5, 12, 13, 14, 15, 16, 17, 18, 19, 20, 21, 22, 23, 24, 25, 26, 27, 28, 29, 30, 31, 32, 33, 34, 35, 36, 37, 38, 39, 40] (by decide +kernel) (by decide +kernel)
set_option maxRecDepth 20000 in
theorem gX2_dearestStreet_X2_owes : GoodIn wsX2_dearestStreet (wsV RX2 90 RX2 yX2_owes wsX2_owes) := goodIn_app (goodIn_of _ (by decide +kernel)) ggX2_dearestStreet_X2_owes
theorem dX2_dearestStreet_0 : decode cX2_dearestStreet 0 = .ok (.iconst 0, 1) := by decide +kernel
theorem dX2_dearestStreet_1 : decode cX2_dearestStreet 1 = .ok (.istore_n 2, 1) := by decide +kernel
theorem dX2_dearestStreet_2 : decode cX2_dearestStreet 2 = .ok (.iconst 1, 1) := by decide +kernel
theorem dX2_dearestStreet_3 : decode cX2_dearestStreet 3 = .ok (.istore_n 3, 1) := by decide +kernel
theorem dX2_dearestStreet_4 : decode cX2_dearestStreet 4 = .ok (.iload_n 3, 1) := by decide +kernel
theorem dX2_dearestStreet_5 : decode cX2_dearestStreet 5 = .ok (.aload_n 0, 1) := by decide +kernel
theorem dX2_dearestStreet_6 : decode cX2_dearestStreet 6 = .ok (.getfield 22, 3) := by decide +kernel
theorem dX2_dearestStreet_9 : decode cX2_dearestStreet 9 = .ok (.if_icmp .ge 26, 3) := by decide +kernel
theorem dX2_dearestStreet_12 : decode cX2_dearestStreet 12 = .ok (.aload_n 0, 1) := by decide +kernel
theorem dX2_dearestStreet_13 : decode cX2_dearestStreet 13 = .ok (.iload_n 1, 1) := by decide +kernel
theorem dX2_dearestStreet_14 : decode cX2_dearestStreet 14 = .ok (.iload_n 3, 1) := by decide +kernel
theorem dX2_dearestStreet_15 : decode cX2_dearestStreet 15 = .ok (.invokevirtual 90, 3) := by decide +kernel
theorem dX2_dearestStreet_18 : decode cX2_dearestStreet 18 = .ok (.aload_n 0, 1) := by decide +kernel
theorem dX2_dearestStreet_19 : decode cX2_dearestStreet 19 = .ok (.iload_n 1, 1) := by decide +kernel
theorem dX2_dearestStreet_20 : decode cX2_dearestStreet 20 = .ok (.iload_n 2, 1) := by decide +kernel
theorem dX2_dearestStreet_21 : decode cX2_dearestStreet 21 = .ok (.invokevirtual 90, 3) := by decide +kernel
theorem dX2_dearestStreet_24 : decode cX2_dearestStreet 24 = .ok (.if_icmp .le 5, 3) := by decide +kernel
theorem dX2_dearestStreet_27 : decode cX2_dearestStreet 27 = .ok (.iload_n 3, 1) := by decide +kernel
theorem dX2_dearestStreet_28 : decode cX2_dearestStreet 28 = .ok (.istore_n 2, 1) := by decide +kernel
theorem dX2_dearestStreet_29 : decode cX2_dearestStreet 29 = .ok (.iinc 3 1, 3) := by decide +kernel
theorem dX2_dearestStreet_32 : decode cX2_dearestStreet 32 = .ok (.goto (-28), 3) := by decide +kernel
theorem dX2_dearestStreet_35 : decode cX2_dearestStreet 35 = .ok (.iload_n 2, 1) := by decide +kernel
theorem dX2_dearestStreet_36 : decode cX2_dearestStreet 36 = .ok (.ireturn, 1) := by decide +kernel
theorem dX3_widerThan_0 : decode cX3_widerThan 0 = .ok (.iload_n 0, 1) := by decide +kernel
theorem dX3_widerThan_1 : decode cX3_widerThan 1 = .ok (.ifCond .lt 19, 3) := by decide +kernel
theorem dX3_widerThan_4 : decode cX3_widerThan 4 = .ok (.iload_n 0, 1) := by decide +kernel
theorem dX3_widerThan_5 : decode cX3_widerThan 5 = .ok (.getstatic 7, 3) := by decide +kernel
theorem dX3_widerThan_8 : decode cX3_widerThan 8 = .ok (.arraylength, 1) := by decide +kernel
theorem dX3_widerThan_9 : decode cX3_widerThan 9 = .ok (.if_icmp .ge 11, 3) := by decide +kernel
theorem dX3_widerThan_12 : decode cX3_widerThan 12 = .ok (.getstatic 7, 3) := by decide +kernel
theorem dX3_widerThan_15 : decode cX3_widerThan 15 = .ok (.iload_n 0, 1) := by decide +kernel
theorem dX3_widerThan_16 : decode cX3_widerThan 16 = .ok (.iaload, 1) := by decide +kernel
theorem dX3_widerThan_17 : decode cX3_widerThan 17 = .ok (.goto 4, 3) := by decide +kernel
theorem dX3_widerThan_20 : decode cX3_widerThan 20 = .ok (.iconst 0, 1) := by decide +kernel
theorem dX3_widerThan_21 : decode cX3_widerThan 21 = .ok (.ireturn, 1) := by decide +kernel
set_option maxRecDepth 20000 in
theorem ggX3_isOneOf_X3_widerThan : GoodIn wsX3_isOneOf wsX3_widerThan := goodIn_r _ [5, 1] (by decide +kernel) (by decide +kernel)
set_option maxRecDepth 20000 in
theorem gX3_isOneOf_X3_widerThan : GoodIn wsX3_isOneOf (va_wsS RX3 13 yX3_widerThan wsX3_widerThan) := goodIn_app (goodIn_of _ (by decide +kernel)) ggX3_isOneOf_X3_widerThan
theorem dX3_isOneOf_0 : decode cX3_isOneOf 0 = .ok (.iload_n 0, 1) := by decide +kernel
theorem dX3_isOneOf_1 : decode cX3_isOneOf 1 = .ok (.istore_n 2, 1) := by decide +kernel
theorem dX3_isOneOf_2 : decode cX3_isOneOf 2 = .ok (.iconst 0, 1) := by decide +kernel
theorem dX3_isOneOf_3 : decode cX3_isOneOf 3 = .ok (.istore_n 3, 1) := by decide +kernel
theorem dX3_isOneOf_4 : decode cX3_isOneOf 4 = .ok (.iload_n 3, 1) := by decide +kernel
theorem dX3_isOneOf_5 : decode cX3_isOneOf 5 = .ok (.getstatic 7, 3) := by decide +kernel
theorem dX3_isOneOf_8 : decode cX3_isOneOf 8 = .ok (.arraylength, 1) := by decide +kernel
theorem dX3_isOneOf_9 : decode cX3_isOneOf 9 = .ok (.if_icmp .ge 19, 3) := by decide +kernel
theorem dX3_isOneOf_12 : decode cX3_isOneOf 12 = .ok (.iload_n 2, 1) := by decide +kernel
theorem dX3_isOneOf_13 : decode cX3_isOneOf 13 = .ok (.iload_n 1, 1) := by decide +kernel
theorem dX3_isOneOf_14 : decode cX3_isOneOf 14 = .ok (.if_icmp .eq 14, 3) := by decide +kernel
theorem dX3_isOneOf_17 : decode cX3_isOneOf 17 = .ok (.iload_n 2, 1) := by decide +kernel
theorem dX3_isOneOf_18 : decode cX3_isOneOf 18 = .ok (.invokestatic 13, 3) := by decide +kernel
theorem dX3_isOneOf_21 : decode cX3_isOneOf 21 = .ok (.istore_n 2, 1) := by decide +kernel
theorem dX3_isOneOf_22 : decode cX3_isOneOf 22 = .ok (.iinc 3 1, 3) := by decide +kernel
theorem dX3_isOneOf_25 : decode cX3_isOneOf 25 = .ok (.goto (-21), 3) := by decide +kernel
theorem dX3_isOneOf_28 : decode cX3_isOneOf 28 = .ok (.iload_n 2, 1) := by decide +kernel
theorem dX3_isOneOf_29 : decode cX3_isOneOf 29 = .ok (.iload_n 1, 1) := by decide +kernel
theorem dX3_isOneOf_30 : decode cX3_isOneOf 30 = .ok (.if_icmp .ne 7, 3) := by decide +kernel
theorem dX3_isOneOf_33 : decode cX3_isOneOf 33 = .ok (.iconst 1, 1) := by decide +kernel
theorem dX3_isOneOf_34 : decode cX3_isOneOf 34 = .ok (.goto 4, 3) := by decide +kernel
theorem dX3_isOneOf_37 : decode cX3_isOneOf 37 = .ok (.iconst 0, 1) := by decide +kernel
theorem dX3_isOneOf_38 : decode cX3_isOneOf 38 = .ok (.ireturn, 1) := by decide +kernel
theorem dX3_ofLetter_0 : decode cX3_ofLetter 0 = .ok (.iload_n 0, 1) := by decide +kernel
theorem dX3_ofLetter_1 : decode cX3_ofLetter 1 = .ok (.lookupswitch 61 #[(98, 55), (107, 57), (110, 53), (115, 59), (119, 51)], 51) := by decide +kernel
theorem dX3_ofLetter_52 : decode cX3_ofLetter 52 = .ok (.iconst 1, 1) := by decide +kernel
theorem dX3_ofLetter_53 : decode cX3_ofLetter 53 = .ok (.ireturn, 1) := by decide +kernel
theorem dX3_ofLetter_54 : decode cX3_ofLetter 54 = .ok (.iconst 2, 1) := by decide +kernel
theorem dX3_ofLetter_55 : decode cX3_ofLetter 55 = .ok (.ireturn, 1) := by decide +kernel
theorem dX3_ofLetter_56 : decode cX3_ofLetter 56 = .ok (.iconst 3, 1) := by decide +kernel
theorem dX3_ofLetter_57 : decode cX3_ofLetter 57 = .ok (.ireturn, 1) := by decide +kernel
theorem dX3_ofLetter_58 : decode cX3_ofLetter 58 = .ok (.iconst 4, 1) := by decide +kernel
theorem dX3_ofLetter_59 : decode cX3_ofLetter 59 = .ok (.ireturn, 1) := by decide +kernel
theorem dX3_ofLetter_60 : decode cX3_ofLetter 60 = .ok (.iconst 5, 1) := by decide +kernel
theorem dX3_ofLetter_61 : decode cX3_ofLetter 61 = .ok (.ireturn, 1) := by decide +kernel
theorem dX3_ofLetter_62 : decode cX3_ofLetter 62 = .ok (.iconst 0, 1) := by decide +kernel
theorem dX3_ofLetter_63 : decode cX3_ofLetter 63 = .ok (.ireturn, 1) := by decide +kernel
theorem dX4_init_0 : decode cX4_init 0 = .ok (.aload_n 0, 1) := by decide +kernel
theorem dX4_init_1 : decode cX4_init 1 = .ok (.invokespecial 3, 3) := by decide +kernel
theorem dX4_init_4 : decode cX4_init 4 = .ok (.aload_n 0, 1) := by decide +kernel
theorem dX4_init_5 : decode cX4_init 5 = .ok (.bipush 120, 2) := by decide +kernel
theorem dX4_init_7 : decode cX4_init 7 = .ok (.newarray .int, 2) := by decide +kernel
theorem dX4_init_9 : decode cX4_init 9 = .ok (.putfield 11, 3) := by decide +kernel
theorem dX4_init_12 : decode cX4_init 12 = .ok (.aload_n 0, 1) := by decide +kernel
theorem dX4_init_13 : decode cX4_init 13 = .ok (.iconst 0, 1) := by decide +kernel
theorem dX4_init_14 : decode cX4_init 14 = .ok (.putfield 15, 3) := by decide +kernel
theorem dX4_init_17 : decode cX4_init 17 = .ok (.aload_n 0, 1) := by decide +kernel
theorem dX4_init_18 : decode cX4_init 18 = .ok (.iconst 0, 1) := by decide +kernel
theorem dX4_init_19 : decode cX4_init 19 = .ok (.putfield 19, 3) := by decide +kernel
theorem dX4_init_22 : decode cX4_init 22 = .ok (.aload_n 0, 1) := by decide +kernel
theorem dX4_init_23 : decode cX4_init 23 = .ok (.iconst 0, 1) := by decide +kernel
theorem dX4_init_24 : decode cX4_init 24 = .ok (.putfield 22, 3) := by decide +kernel
theorem dX4_init_27 : decode cX4_init 27 = .ok (.aload_n 0, 1) := by decide +kernel
theorem dX4_init_28 : decode cX4_init 28 = .ok (.iconst 0, 1) := by decide +kernel
theorem dX4_init_29 : decode cX4_init 29 = .ok (.putfield 25, 3) := by decide +kernel
theorem dX4_init_32 : decode cX4_init 32 = .ok (.aload_n 0, 1) := by decide +kernel
theorem dX4_init_33 : decode cX4_init 33 = .ok (.iconst 0, 1) := by decide +kernel
theorem dX4_init_34 : decode cX4_init 34 = .ok (.putfield 28, 3) := by decide +kernel
theorem dX4_init_37 : decode cX4_init 37 = .ok (.return_, 1) := by decide +kernel
theorem dX4_isFull_0 : decode cX4_isFull 0 = .ok (.aload_n 0, 1) := by decide +kernel
theorem dX4_isFull_1 : decode cX4_isFull 1 = .ok (.getfield 15, 3) := by decide +kernel
theorem dX4_isFull_4 : decode cX4_isFull 4 = .ok (.bipush 120, 2) := by decide +kernel
theorem dX4_isFull_6 : decode cX4_isFull 6 = .ok (.if_icmp .lt 7, 3) := by decide +kernel
theorem dX4_isFull_9 : decode cX4_isFull 9 = .ok (.iconst 1, 1) := by decide +kernel
theorem dX4_isFull_10 : decode cX4_isFull 10 = .ok (.goto 4, 3) := by decide +kernel
theorem dX4_isFull_13 : decode cX4_isFull 13 = .ok (.iconst 0, 1) := by decide +kernel
theorem dX4_isFull_14 : decode cX4_isFull 14 = .ok (.ireturn, 1) := by decide +kernel
set_option maxRecDepth 20000 in
theorem ggX4_append_X4_isFull : GoodIn wsX4_append wsX4_isFull := goodIn_r _ [7, 2, 8, 9, 10, 11, 12, 13] (by decide +kernel) (by decide +kernel)
set_option maxRecDepth 20000 in
theorem gX4_append_X4_isFull : GoodIn wsX4_append (wsV RX4 31 RX4 yX4_isFull wsX4_isFull) := goodIn_app (goodIn_of _ (by decide +kernel)) ggX4_append_X4_isFull
theorem dX4_append_0 : decode cX4_append 0 = .ok (.aload_n 0, 1) := by decide +kernel
theorem dX4_append_1 : decode cX4_append 1 = .ok (.invokevirtual 31, 3) := by decide +kernel
theorem dX4_append_4 : decode cX4_append 4 = .ok (.ifCond .ne 23, 3) := by decide +kernel
theorem dX4_append_7 : decode cX4_append 7 = .ok (.aload_n 0, 1) := by decide +kernel
theorem dX4_append_8 : decode cX4_append 8 = .ok (.getfield 11, 3) := by decide +kernel
theorem dX4_append_11 : decode cX4_append 11 = .ok (.aload_n 0, 1) := by decide +kernel
theorem dX4_append_12 : decode cX4_append 12 = .ok (.getfield 15, 3) := by decide +kernel
theorem dX4_append_15 : decode cX4_append 15 = .ok (.iload_n 1, 1) := by decide +kernel
theorem dX4_append_16 : decode cX4_append 16 = .ok (.iastore, 1) := by decide +kernel
theorem dX4_append_17 : decode cX4_append 17 = .ok (.aload_n 0, 1) := by decide +kernel
theorem dX4_append_18 : decode cX4_append 18 = .ok (.dup, 1) := by decide +kernel
theorem dX4_append_19 : decode cX4_append 19 = .ok (.getfield 15, 3) := by decide +kernel
theorem dX4_append_22 : decode cX4_append 22 = .ok (.iconst 1, 1) := by decide +kernel
theorem dX4_append_23 : decode cX4_append 23 = .ok (.iadd, 1) := by decide +kernel
theorem dX4_append_24 : decode cX4_append 24 = .ok (.putfield 15, 3) := by decide +kernel
theorem dX4_append_27 : decode cX4_append 27 = .ok (.aload_n 0, 1) := by decide +kernel
theorem dX4_append_28 : decode cX4_append 28 = .ok (.getfield 15, 3) := by decide +kernel
theorem dX4_append_31 : decode cX4_append 31 = .ok (.ireturn, 1) := by decide +kernel
set_option maxRecDepth 20000 in
theorem ggX4_reads_X4_readLaw : GoodIn wsX4_reads wsX4_readLaw := goodIn_r _ [8, 9, 10, 11, 7, 12, 2, 13, 14, 15, 16, 3, 17, 18, 19, 20, 21, 22, 23, 24, 25, 1, 26, 27, 28, 29, 30, 31, 32, 33, 34, 35, 36, 37, 38, 39, 40, 41, 42, 43, 44, 45, 67, 68, 69, 70, 71, 72, 73, 74, 75, 76, 77, 78, 79, 80, 81, 82, 83, 84, 85] (by decide +kernel) (by decide +kernel)
set_option maxRecDepth 20000 in
theorem gX4_reads_X4_readLaw : GoodIn wsX4_reads (wsV RX4 35 RX4 yX4_readLaw wsX4_readLaw) := goodIn_app (goodIn_of _ (by decide +kernel)) ggX4_reads_X4_readLaw
set_option maxRecDepth 20000 in
theorem ggX4_reads_X4_next : GoodIn wsX4_reads wsX4_next := goodIn_r _ [16, 2, 3, 17, 67, 68, 69, 70, 71, 72] (by decide +kernel) (by decide +kernel)
set_option maxRecDepth 20000 in
theorem gX4_reads_X4_next : GoodIn wsX4_reads (wsV RX4 39 RX4 yX4_next wsX4_next) := goodIn_app (goodIn_of _ (by decide +kernel)) ggX4_reads_X4_next
set_option maxRecDepth 20000 in
theorem ggX4_reads_X4_readStreet : GoodIn wsX4_reads wsX4_readStreet := goodIn_r _ [49, 50, 51, 52, 18, 19, 20, 7, 21, 2, 22, 23, 24, 25, 1, 26, 27, 9, 10, 11, 12, 13, 14, 15, 16, 3, 17, 28, 29, 30, 31, 32, 33, 34, 73, 74, 75, 76, 77, 78, 79, 80, 81, 82, 83, 84, 85, 67, 68, 69, 70, 71, 72] (by decide +kernel) (by decide +kernel)
set_option maxRecDepth 20000 in
theorem gX4_reads_X4_readStreet : GoodIn wsX4_reads (wsV RX4 43 RX4 yX4_readStreet wsX4_readStreet) := goodIn_app (goodIn_of _ (by decide +kernel)) ggX4_reads_X4_readStreet
set_option maxRecDepth 20000 in
theorem ggX4_reads_X3_ofLetter : GoodIn wsX4_reads wsX3_ofLetter := goodIn_r _ [56] (by decide +kernel) (by decide +kernel)
set_option maxRecDepth 20000 in
theorem gX4_reads_X3_ofLetter : GoodIn wsX4_reads (va_wsS RX4 46 yX3_ofLetter wsX3_ofLetter) := goodIn_app (goodIn_of _ (by decide +kernel)) ggX4_reads_X3_ofLetter
set_option maxRecDepth 20000 in
theorem ggX4_reads_X4_readGesture : GoodIn wsX4_reads wsX4_readGesture := goodIn_r _ [60, 61, 62, 2, 63, 64, 65, 66, 18, 19, 20, 7, 21, 22, 23, 24, 25, 1, 26, 27, 13, 14, 15, 16, 3, 17, 53, 54, 55, 56, 28, 29, 30, 31, 32, 33, 34, 9, 10, 11, 12, 73, 74, 75, 76, 77, 78, 79, 80, 81, 82, 83, 84, 85, 67, 68, 69, 70, 71, 72] (by decide +kernel) (by decide +kernel)
set_option maxRecDepth 20000 in
theorem gX4_reads_X4_readGesture : GoodIn wsX4_reads (wsV RX4 52 RX4 yX4_readGesture wsX4_readGesture) := goodIn_app (goodIn_of _ (by decide +kernel)) ggX4_reads_X4_readGesture
set_option maxRecDepth 20000 in
theorem ggX4_reads_X4_fail : GoodIn wsX4_reads wsX4_fail := goodIn_r _ [21, 2, 22, 23, 24, 7, 25, 1, 26, 27, 67, 68, 69, 70, 71, 72] (by decide +kernel) (by decide +kernel)
set_option maxRecDepth 20000 in
theorem gX4_reads_X4_fail : GoodIn wsX4_reads (wsV RX4 55 RX4 yX4_fail wsX4_fail) := goodIn_app (goodIn_of _ (by decide +kernel)) ggX4_reads_X4_fail
theorem dX4_reads_0 : decode cX4_reads 0 = .ok (.aload_n 0, 1) := by decide +kernel
theorem dX4_reads_1 : decode cX4_reads 1 = .ok (.iconst 0, 1) := by decide +kernel
theorem dX4_reads_2 : decode cX4_reads 2 = .ok (.putfield 25, 3) := by decide +kernel
theorem dX4_reads_5 : decode cX4_reads 5 = .ok (.aload_n 0, 1) := by decide +kernel
theorem dX4_reads_6 : decode cX4_reads 6 = .ok (.iconst 0, 1) := by decide +kernel
theorem dX4_reads_7 : decode cX4_reads 7 = .ok (.putfield 28, 3) := by decide +kernel
theorem dX4_reads_10 : decode cX4_reads 10 = .ok (.aload_n 0, 1) := by decide +kernel
theorem dX4_reads_11 : decode cX4_reads 11 = .ok (.aload_n 1, 1) := by decide +kernel
theorem dX4_reads_12 : decode cX4_reads 12 = .ok (.invokevirtual 35, 3) := by decide +kernel
theorem dX4_reads_15 : decode cX4_reads 15 = .ok (.iconst 0, 1) := by decide +kernel
theorem dX4_reads_16 : decode cX4_reads 16 = .ok (.istore_n 2, 1) := by decide +kernel
theorem dX4_reads_17 : decode cX4_reads 17 = .ok (.iload_n 2, 1) := by decide +kernel
theorem dX4_reads_18 : decode cX4_reads 18 = .ok (.bipush 120, 2) := by decide +kernel
theorem dX4_reads_20 : decode cX4_reads 20 = .ok (.if_icmp .ge 30, 3) := by decide +kernel
theorem dX4_reads_23 : decode cX4_reads 23 = .ok (.aload_n 0, 1) := by decide +kernel
theorem dX4_reads_24 : decode cX4_reads 24 = .ok (.getfield 25, 3) := by decide +kernel
theorem dX4_reads_27 : decode cX4_reads 27 = .ok (.ifCond .ne 23, 3) := by decide +kernel
theorem dX4_reads_30 : decode cX4_reads 30 = .ok (.aload_n 0, 1) := by decide +kernel
theorem dX4_reads_31 : decode cX4_reads 31 = .ok (.invokevirtual 39, 3) := by decide +kernel
theorem dX4_reads_34 : decode cX4_reads 34 = .ok (.bipush 114, 2) := by decide +kernel
theorem dX4_reads_36 : decode cX4_reads 36 = .ok (.if_icmp .ne 14, 3) := by decide +kernel
theorem dX4_reads_39 : decode cX4_reads 39 = .ok (.aload_n 0, 1) := by decide +kernel
theorem dX4_reads_40 : decode cX4_reads 40 = .ok (.aload_n 1, 1) := by decide +kernel
theorem dX4_reads_41 : decode cX4_reads 41 = .ok (.invokevirtual 43, 3) := by decide +kernel
theorem dX4_reads_44 : decode cX4_reads 44 = .ok (.iinc 2 1, 3) := by decide +kernel
theorem dX4_reads_47 : decode cX4_reads 47 = .ok (.goto (-30), 3) := by decide +kernel
theorem dX4_reads_50 : decode cX4_reads 50 = .ok (.iconst 0, 1) := by decide +kernel
theorem dX4_reads_51 : decode cX4_reads 51 = .ok (.istore_n 2, 1) := by decide +kernel
theorem dX4_reads_52 : decode cX4_reads 52 = .ok (.iload_n 2, 1) := by decide +kernel
theorem dX4_reads_53 : decode cX4_reads 53 = .ok (.bipush 120, 2) := by decide +kernel
theorem dX4_reads_55 : decode cX4_reads 55 = .ok (.if_icmp .ge 31, 3) := by decide +kernel
theorem dX4_reads_58 : decode cX4_reads 58 = .ok (.aload_n 0, 1) := by decide +kernel
theorem dX4_reads_59 : decode cX4_reads 59 = .ok (.getfield 25, 3) := by decide +kernel
theorem dX4_reads_62 : decode cX4_reads 62 = .ok (.ifCond .ne 24, 3) := by decide +kernel
theorem dX4_reads_65 : decode cX4_reads 65 = .ok (.aload_n 0, 1) := by decide +kernel
theorem dX4_reads_66 : decode cX4_reads 66 = .ok (.invokevirtual 39, 3) := by decide +kernel
theorem dX4_reads_69 : decode cX4_reads 69 = .ok (.invokestatic 46, 3) := by decide +kernel
theorem dX4_reads_72 : decode cX4_reads 72 = .ok (.ifCond .eq 14, 3) := by decide +kernel
theorem dX4_reads_75 : decode cX4_reads 75 = .ok (.aload_n 0, 1) := by decide +kernel
theorem dX4_reads_76 : decode cX4_reads 76 = .ok (.aload_n 1, 1) := by decide +kernel
theorem dX4_reads_77 : decode cX4_reads 77 = .ok (.invokevirtual 52, 3) := by decide +kernel
theorem dX4_reads_80 : decode cX4_reads 80 = .ok (.iinc 2 1, 3) := by decide +kernel
theorem dX4_reads_83 : decode cX4_reads 83 = .ok (.goto (-31), 3) := by decide +kernel
theorem dX4_reads_86 : decode cX4_reads 86 = .ok (.aload_n 0, 1) := by decide +kernel
theorem dX4_reads_87 : decode cX4_reads 87 = .ok (.getfield 28, 3) := by decide +kernel
theorem dX4_reads_90 : decode cX4_reads 90 = .ok (.aload_n 0, 1) := by decide +kernel
theorem dX4_reads_91 : decode cX4_reads 91 = .ok (.getfield 15, 3) := by decide +kernel
theorem dX4_reads_94 : decode cX4_reads 94 = .ok (.if_icmp .ge 8, 3) := by decide +kernel
theorem dX4_reads_97 : decode cX4_reads 97 = .ok (.aload_n 0, 1) := by decide +kernel
theorem dX4_reads_98 : decode cX4_reads 98 = .ok (.iconst 1, 1) := by decide +kernel
theorem dX4_reads_99 : decode cX4_reads 99 = .ok (.invokevirtual 55, 3) := by decide +kernel
theorem dX4_reads_102 : decode cX4_reads 102 = .ok (.aload_n 0, 1) := by decide +kernel
theorem dX4_reads_103 : decode cX4_reads 103 = .ok (.iconst 0, 1) := by decide +kernel
theorem dX4_reads_104 : decode cX4_reads 104 = .ok (.putfield 15, 3) := by decide +kernel
theorem dX4_reads_107 : decode cX4_reads 107 = .ok (.aload_n 0, 1) := by decide +kernel
theorem dX4_reads_108 : decode cX4_reads 108 = .ok (.getfield 25, 3) := by decide +kernel
theorem dX4_reads_111 : decode cX4_reads 111 = .ok (.ifCond .ne 7, 3) := by decide +kernel
theorem dX4_reads_114 : decode cX4_reads 114 = .ok (.iconst 1, 1) := by decide +kernel
theorem dX4_reads_115 : decode cX4_reads 115 = .ok (.goto 4, 3) := by decide +kernel
theorem dX4_reads_118 : decode cX4_reads 118 = .ok (.iconst 0, 1) := by decide +kernel
theorem dX4_reads_119 : decode cX4_reads 119 = .ok (.ireturn, 1) := by decide +kernel
set_option maxRecDepth 20000 in
theorem ggX4_readLaw_X4_readSign : GoodIn wsX4_readLaw wsX4_readSign := goodIn_r _ [5, 6, 7, 8, 9, 4, 10, 11, 12, 13, 14, 15, 16, 17, 18, 19, 20, 21, 22, 23, 42, 43, 44, 45, 46, 47] (by decide +kernel) (by decide +kernel)
set_option maxRecDepth 20000 in
theorem gX4_readLaw_X4_readSign : GoodIn wsX4_readLaw (wsV RX4 59 RX4 yX4_readSign wsX4_readSign) := goodIn_app (goodIn_of _ (by decide +kernel)) ggX4_readLaw_X4_readSign
set_option maxRecDepth 20000 in
theorem ggX4_readLaw_X4_readNumber : GoodIn wsX4_readLaw wsX4_readNumber := goodIn_r _ [27, 6, 7, 8, 9, 4, 10, 11, 12, 28, 29, 30, 17, 18, 19, 20, 21, 22, 23, 42, 43, 44, 45, 46, 47] (by decide +kernel) (by decide +kernel)
set_option maxRecDepth 20000 in
theorem gX4_readLaw_X4_readNumber : GoodIn wsX4_readLaw (wsV RX4 62 RX4 yX4_readNumber wsX4_readNumber) := goodIn_app (goodIn_of _ (by decide +kernel)) ggX4_readLaw_X4_readNumber
set_option maxRecDepth 20000 in
theorem ggX4_readLaw_X2_begin : GoodIn wsX4_readLaw wsX2_begin := goodIn_r _ [35, 36, 37, 38, 39, 40, 41, 48, 49, 50, 51, 52, 53, 54, 55, 56, 57, 58, 59, 60] (by decide +kernel) (by decide +kernel)
set_option maxRecDepth 20000 in
theorem gX4_readLaw_X2_begin : GoodIn wsX4_readLaw (wsV RX4 66 RX2 yX2_begin wsX2_begin) := goodIn_app (goodIn_of _ (by decide +kernel)) ggX4_readLaw_X2_begin
theorem dX4_readLaw_0 : decode cX4_readLaw 0 = .ok (.aload_n 0, 1) := by decide +kernel
theorem dX4_readLaw_1 : decode cX4_readLaw 1 = .ok (.bipush 100, 2) := by decide +kernel
theorem dX4_readLaw_3 : decode cX4_readLaw 3 = .ok (.invokevirtual 59, 3) := by decide +kernel
theorem dX4_readLaw_6 : decode cX4_readLaw 6 = .ok (.aload_n 1, 1) := by decide +kernel
theorem dX4_readLaw_7 : decode cX4_readLaw 7 = .ok (.aload_n 0, 1) := by decide +kernel
theorem dX4_readLaw_8 : decode cX4_readLaw 8 = .ok (.iconst 1, 1) := by decide +kernel
theorem dX4_readLaw_9 : decode cX4_readLaw 9 = .ok (.bipush 9, 2) := by decide +kernel
theorem dX4_readLaw_11 : decode cX4_readLaw 11 = .ok (.invokevirtual 62, 3) := by decide +kernel
theorem dX4_readLaw_14 : decode cX4_readLaw 14 = .ok (.invokevirtual 66, 3) := by decide +kernel
theorem dX4_readLaw_17 : decode cX4_readLaw 17 = .ok (.aload_n 0, 1) := by decide +kernel
theorem dX4_readLaw_18 : decode cX4_readLaw 18 = .ok (.bipush 59, 2) := by decide +kernel
theorem dX4_readLaw_20 : decode cX4_readLaw 20 = .ok (.invokevirtual 59, 3) := by decide +kernel
theorem dX4_readLaw_23 : decode cX4_readLaw 23 = .ok (.return_, 1) := by decide +kernel
set_option maxRecDepth 20000 in
theorem ggX4_readStreet_X4_fail : GoodIn wsX4_readStreet wsX4_fail := goodIn_r _ [8, 9, 10, 11, 12, 7, 13, 14, 15, 16, 47, 48, 49, 50, 51, 52] (by decide +kernel) (by decide +kernel)
set_option maxRecDepth 20000 in
theorem gX4_readStreet_X4_fail : GoodIn wsX4_readStreet (wsV RX4 55 RX4 yX4_fail wsX4_fail) := goodIn_app (goodIn_of _ (by decide +kernel)) ggX4_readStreet_X4_fail
set_option maxRecDepth 20000 in
theorem ggX4_readStreet_X4_readSign : GoodIn wsX4_readStreet wsX4_readSign := goodIn_r _ [20, 9, 21, 22, 23, 7, 24, 25, 26, 4, 5, 6, 8, 10, 11, 12, 13, 14, 15, 16, 47, 48, 49, 50, 51, 52] (by decide +kernel) (by decide +kernel)
set_option maxRecDepth 20000 in
theorem gX4_readStreet_X4_readSign : GoodIn wsX4_readStreet (wsV RX4 59 RX4 yX4_readSign wsX4_readSign) := goodIn_app (goodIn_of _ (by decide +kernel)) ggX4_readStreet_X4_readSign
set_option maxRecDepth 20000 in
theorem ggX4_readStreet_X4_readNumber : GoodIn wsX4_readStreet wsX4_readNumber := goodIn_r _ [30, 9, 21, 22, 23, 7, 24, 25, 26, 31, 32, 33, 10, 11, 12, 13, 14, 15, 16, 47, 48, 49, 50, 51, 52] (by decide +kernel) (by decide +kernel)
set_option maxRecDepth 20000 in
theorem gX4_readStreet_X4_readNumber : GoodIn wsX4_readStreet (wsV RX4 62 RX4 yX4_readNumber wsX4_readNumber) := goodIn_app (goodIn_of _ (by decide +kernel)) ggX4_readStreet_X4_readNumber
theorem dX4_readStreet_0 : decode cX4_readStreet 0 = .ok (.aload_n 1, 1) := by decide +kernel
theorem dX4_readStreet_1 : decode cX4_readStreet 1 = .ok (.getfield 71, 3) := by decide +kernel
theorem dX4_readStreet_4 : decode cX4_readStreet 4 = .ok (.bipush 7, 2) := by decide +kernel
theorem dX4_readStreet_6 : decode cX4_readStreet 6 = .ok (.if_icmp .lt 9, 3) := by decide +kernel
theorem dX4_readStreet_9 : decode cX4_readStreet 9 = .ok (.aload_n 0, 1) := by decide +kernel
theorem dX4_readStreet_10 : decode cX4_readStreet 10 = .ok (.iconst 3, 1) := by decide +kernel
theorem dX4_readStreet_11 : decode cX4_readStreet 11 = .ok (.invokevirtual 55, 3) := by decide +kernel
theorem dX4_readStreet_14 : decode cX4_readStreet 14 = .ok (.return_, 1) := by decide +kernel
theorem dX4_readStreet_15 : decode cX4_readStreet 15 = .ok (.aload_n 1, 1) := by decide +kernel
theorem dX4_readStreet_16 : decode cX4_readStreet 16 = .ok (.getfield 71, 3) := by decide +kernel
theorem dX4_readStreet_19 : decode cX4_readStreet 19 = .ok (.istore_n 2, 1) := by decide +kernel
theorem dX4_readStreet_20 : decode cX4_readStreet 20 = .ok (.aload_n 0, 1) := by decide +kernel
theorem dX4_readStreet_21 : decode cX4_readStreet 21 = .ok (.bipush 114, 2) := by decide +kernel
theorem dX4_readStreet_23 : decode cX4_readStreet 23 = .ok (.invokevirtual 59, 3) := by decide +kernel
theorem dX4_readStreet_26 : decode cX4_readStreet 26 = .ok (.aload_n 1, 1) := by decide +kernel
theorem dX4_readStreet_27 : decode cX4_readStreet 27 = .ok (.getfield 74, 3) := by decide +kernel
theorem dX4_readStreet_30 : decode cX4_readStreet 30 = .ok (.iload_n 2, 1) := by decide +kernel
theorem dX4_readStreet_31 : decode cX4_readStreet 31 = .ok (.aload_n 0, 1) := by decide +kernel
theorem dX4_readStreet_32 : decode cX4_readStreet 32 = .ok (.iconst 0, 1) := by decide +kernel
theorem dX4_readStreet_33 : decode cX4_readStreet 33 = .ok (.bipush 30, 2) := by decide +kernel
theorem dX4_readStreet_35 : decode cX4_readStreet 35 = .ok (.invokevirtual 62, 3) := by decide +kernel
theorem dX4_readStreet_38 : decode cX4_readStreet 38 = .ok (.iastore, 1) := by decide +kernel
theorem dX4_readStreet_39 : decode cX4_readStreet 39 = .ok (.aload_n 0, 1) := by decide +kernel
theorem dX4_readStreet_40 : decode cX4_readStreet 40 = .ok (.bipush 44, 2) := by decide +kernel
theorem dX4_readStreet_42 : decode cX4_readStreet 42 = .ok (.invokevirtual 59, 3) := by decide +kernel
theorem dX4_readStreet_45 : decode cX4_readStreet 45 = .ok (.aload_n 1, 1) := by decide +kernel
theorem dX4_readStreet_46 : decode cX4_readStreet 46 = .ok (.getfield 77, 3) := by decide +kernel
theorem dX4_readStreet_49 : decode cX4_readStreet 49 = .ok (.iload_n 2, 1) := by decide +kernel
theorem dX4_readStreet_50 : decode cX4_readStreet 50 = .ok (.aload_n 0, 1) := by decide +kernel
theorem dX4_readStreet_51 : decode cX4_readStreet 51 = .ok (.iconst 0, 1) := by decide +kernel
theorem dX4_readStreet_52 : decode cX4_readStreet 52 = .ok (.bipush 9, 2) := by decide +kernel
theorem dX4_readStreet_54 : decode cX4_readStreet 54 = .ok (.invokevirtual 62, 3) := by decide +kernel
theorem dX4_readStreet_57 : decode cX4_readStreet 57 = .ok (.iastore, 1) := by decide +kernel
theorem dX4_readStreet_58 : decode cX4_readStreet 58 = .ok (.aload_n 0, 1) := by decide +kernel
theorem dX4_readStreet_59 : decode cX4_readStreet 59 = .ok (.bipush 59, 2) := by decide +kernel
theorem dX4_readStreet_61 : decode cX4_readStreet 61 = .ok (.invokevirtual 59, 3) := by decide +kernel
theorem dX4_readStreet_64 : decode cX4_readStreet 64 = .ok (.aload_n 1, 1) := by decide +kernel
theorem dX4_readStreet_65 : decode cX4_readStreet 65 = .ok (.dup, 1) := by decide +kernel
theorem dX4_readStreet_66 : decode cX4_readStreet 66 = .ok (.getfield 71, 3) := by decide +kernel
theorem dX4_readStreet_69 : decode cX4_readStreet 69 = .ok (.iconst 1, 1) := by decide +kernel
theorem dX4_readStreet_70 : decode cX4_readStreet 70 = .ok (.iadd, 1) := by decide +kernel
theorem dX4_readStreet_71 : decode cX4_readStreet 71 = .ok (.putfield 71, 3) := by decide +kernel
theorem dX4_readStreet_74 : decode cX4_readStreet 74 = .ok (.return_, 1) := by decide +kernel
set_option maxRecDepth 20000 in
theorem ggX4_readGesture_X4_fail : GoodIn wsX4_readGesture wsX4_fail := goodIn_r _ [12, 3, 13, 14, 15, 11, 16, 17, 18, 19, 54, 55, 56, 57, 58, 59] (by decide +kernel) (by decide +kernel)
set_option maxRecDepth 20000 in
theorem gX4_readGesture_X4_fail : GoodIn wsX4_readGesture (wsV RX4 55 RX4 yX4_fail wsX4_fail) := goodIn_app (goodIn_of _ (by decide +kernel)) ggX4_readGesture_X4_fail
set_option maxRecDepth 20000 in
theorem ggX4_readGesture_X4_next : GoodIn wsX4_readGesture wsX4_next := goodIn_r _ [23, 3, 24, 25, 54, 55, 56, 57, 58, 59] (by decide +kernel) (by decide +kernel)
set_option maxRecDepth 20000 in
theorem gX4_readGesture_X4_next : GoodIn wsX4_readGesture (wsV RX4 39 RX4 yX4_next wsX4_next) := goodIn_app (goodIn_of _ (by decide +kernel)) ggX4_readGesture_X4_next
set_option maxRecDepth 20000 in
theorem ggX4_readGesture_X3_ofLetter : GoodIn wsX4_readGesture wsX3_ofLetter := goodIn_r _ [29] (by decide +kernel) (by decide +kernel)
set_option maxRecDepth 20000 in
theorem gX4_readGesture_X3_ofLetter : GoodIn wsX4_readGesture (va_wsS RX4 46 yX3_ofLetter wsX3_ofLetter) := goodIn_app (goodIn_of _ (by decide +kernel)) ggX4_readGesture_X3_ofLetter
set_option maxRecDepth 20000 in
theorem ggX4_readGesture_X4_readNumber : GoodIn wsX4_readGesture wsX4_readNumber := goodIn_r _ [33, 3, 20, 21, 22, 11, 23, 24, 25, 34, 35, 36, 13, 14, 15, 16, 17, 18, 19, 54, 55, 56, 57, 58, 59] (by decide +kernel) (by decide +kernel)
set_option maxRecDepth 20000 in
theorem gX4_readGesture_X4_readNumber : GoodIn wsX4_readGesture (wsV RX4 62 RX4 yX4_readNumber wsX4_readNumber) := goodIn_app (goodIn_of _ (by decide +kernel)) ggX4_readGesture_X4_readNumber
set_option maxRecDepth 20000 in
theorem ggX4_readGesture_X4_readSign : GoodIn wsX4_readGesture wsX4_readSign := goodIn_r _ [40, 3, 20, 21, 22, 11, 23, 24, 25, 8, 9, 10, 12, 13, 14, 15, 16, 17, 18, 19, 54, 55, 56, 57, 58, 59] (by decide +kernel) (by decide +kernel)
set_option maxRecDepth 20000 in
theorem gX4_readGesture_X4_readSign : GoodIn wsX4_readGesture (wsV RX4 59 RX4 yX4_readSign wsX4_readSign) := goodIn_app (goodIn_of _ (by decide +kernel)) ggX4_readGesture_X4_readSign
theorem dX4_readGesture_0 : decode cX4_readGesture 0 = .ok (.aload_n 1, 1) := by decide +kernel
theorem dX4_readGesture_1 : decode cX4_readGesture 1 = .ok (.getfield 80, 3) := by decide +kernel
theorem dX4_readGesture_4 : decode cX4_readGesture 4 = .ok (.bipush 6, 2) := by decide +kernel
theorem dX4_readGesture_6 : decode cX4_readGesture 6 = .ok (.if_icmp .lt 9, 3) := by decide +kernel
theorem dX4_readGesture_9 : decode cX4_readGesture 9 = .ok (.aload_n 0, 1) := by decide +kernel
theorem dX4_readGesture_10 : decode cX4_readGesture 10 = .ok (.iconst 3, 1) := by decide +kernel
theorem dX4_readGesture_11 : decode cX4_readGesture 11 = .ok (.invokevirtual 55, 3) := by decide +kernel
theorem dX4_readGesture_14 : decode cX4_readGesture 14 = .ok (.return_, 1) := by decide +kernel
theorem dX4_readGesture_15 : decode cX4_readGesture 15 = .ok (.aload_n 1, 1) := by decide +kernel
theorem dX4_readGesture_16 : decode cX4_readGesture 16 = .ok (.getfield 80, 3) := by decide +kernel
theorem dX4_readGesture_19 : decode cX4_readGesture 19 = .ok (.istore_n 2, 1) := by decide +kernel
theorem dX4_readGesture_20 : decode cX4_readGesture 20 = .ok (.aload_n 1, 1) := by decide +kernel
theorem dX4_readGesture_21 : decode cX4_readGesture 21 = .ok (.getfield 83, 3) := by decide +kernel
theorem dX4_readGesture_24 : decode cX4_readGesture 24 = .ok (.iload_n 2, 1) := by decide +kernel
theorem dX4_readGesture_25 : decode cX4_readGesture 25 = .ok (.aload_n 0, 1) := by decide +kernel
theorem dX4_readGesture_26 : decode cX4_readGesture 26 = .ok (.invokevirtual 39, 3) := by decide +kernel
theorem dX4_readGesture_29 : decode cX4_readGesture 29 = .ok (.invokestatic 46, 3) := by decide +kernel
theorem dX4_readGesture_32 : decode cX4_readGesture 32 = .ok (.iastore, 1) := by decide +kernel
theorem dX4_readGesture_33 : decode cX4_readGesture 33 = .ok (.aload_n 0, 1) := by decide +kernel
theorem dX4_readGesture_34 : decode cX4_readGesture 34 = .ok (.dup, 1) := by decide +kernel
theorem dX4_readGesture_35 : decode cX4_readGesture 35 = .ok (.getfield 28, 3) := by decide +kernel
theorem dX4_readGesture_38 : decode cX4_readGesture 38 = .ok (.iconst 1, 1) := by decide +kernel
theorem dX4_readGesture_39 : decode cX4_readGesture 39 = .ok (.iadd, 1) := by decide +kernel
theorem dX4_readGesture_40 : decode cX4_readGesture 40 = .ok (.putfield 28, 3) := by decide +kernel
theorem dX4_readGesture_43 : decode cX4_readGesture 43 = .ok (.aload_n 1, 1) := by decide +kernel
theorem dX4_readGesture_44 : decode cX4_readGesture 44 = .ok (.getfield 86, 3) := by decide +kernel
theorem dX4_readGesture_47 : decode cX4_readGesture 47 = .ok (.iload_n 2, 1) := by decide +kernel
theorem dX4_readGesture_48 : decode cX4_readGesture 48 = .ok (.aload_n 0, 1) := by decide +kernel
theorem dX4_readGesture_49 : decode cX4_readGesture 49 = .ok (.iconst 1, 1) := by decide +kernel
theorem dX4_readGesture_50 : decode cX4_readGesture 50 = .ok (.bipush 30, 2) := by decide +kernel
theorem dX4_readGesture_52 : decode cX4_readGesture 52 = .ok (.invokevirtual 62, 3) := by decide +kernel
theorem dX4_readGesture_55 : decode cX4_readGesture 55 = .ok (.iastore, 1) := by decide +kernel
theorem dX4_readGesture_56 : decode cX4_readGesture 56 = .ok (.aload_n 0, 1) := by decide +kernel
theorem dX4_readGesture_57 : decode cX4_readGesture 57 = .ok (.bipush 44, 2) := by decide +kernel
theorem dX4_readGesture_59 : decode cX4_readGesture 59 = .ok (.invokevirtual 59, 3) := by decide +kernel
theorem dX4_readGesture_62 : decode cX4_readGesture 62 = .ok (.aload_n 1, 1) := by decide +kernel
theorem dX4_readGesture_63 : decode cX4_readGesture 63 = .ok (.getfield 89, 3) := by decide +kernel
theorem dX4_readGesture_66 : decode cX4_readGesture 66 = .ok (.iload_n 2, 1) := by decide +kernel
theorem dX4_readGesture_67 : decode cX4_readGesture 67 = .ok (.aload_n 0, 1) := by decide +kernel
theorem dX4_readGesture_68 : decode cX4_readGesture 68 = .ok (.iconst 0, 1) := by decide +kernel
theorem dX4_readGesture_69 : decode cX4_readGesture 69 = .ok (.iconst 3, 1) := by decide +kernel
theorem dX4_readGesture_70 : decode cX4_readGesture 70 = .ok (.invokevirtual 62, 3) := by decide +kernel
theorem dX4_readGesture_73 : decode cX4_readGesture 73 = .ok (.iastore, 1) := by decide +kernel
theorem dX4_readGesture_74 : decode cX4_readGesture 74 = .ok (.aload_n 0, 1) := by decide +kernel
theorem dX4_readGesture_75 : decode cX4_readGesture 75 = .ok (.bipush 44, 2) := by decide +kernel
theorem dX4_readGesture_77 : decode cX4_readGesture 77 = .ok (.invokevirtual 59, 3) := by decide +kernel
theorem dX4_readGesture_80 : decode cX4_readGesture 80 = .ok (.aload_n 1, 1) := by decide +kernel
theorem dX4_readGesture_81 : decode cX4_readGesture 81 = .ok (.getfield 92, 3) := by decide +kernel
theorem dX4_readGesture_84 : decode cX4_readGesture 84 = .ok (.iload_n 2, 1) := by decide +kernel
theorem dX4_readGesture_85 : decode cX4_readGesture 85 = .ok (.aload_n 0, 1) := by decide +kernel
theorem dX4_readGesture_86 : decode cX4_readGesture 86 = .ok (.iconst 1, 1) := by decide +kernel
theorem dX4_readGesture_87 : decode cX4_readGesture 87 = .ok (.bipush 9, 2) := by decide +kernel
theorem dX4_readGesture_89 : decode cX4_readGesture 89 = .ok (.invokevirtual 62, 3) := by decide +kernel
theorem dX4_readGesture_92 : decode cX4_readGesture 92 = .ok (.iastore, 1) := by decide +kernel
theorem dX4_readGesture_93 : decode cX4_readGesture 93 = .ok (.aload_n 0, 1) := by decide +kernel
theorem dX4_readGesture_94 : decode cX4_readGesture 94 = .ok (.bipush 59, 2) := by decide +kernel
theorem dX4_readGesture_96 : decode cX4_readGesture 96 = .ok (.invokevirtual 59, 3) := by decide +kernel
theorem dX4_readGesture_99 : decode cX4_readGesture 99 = .ok (.aload_n 1, 1) := by decide +kernel
theorem dX4_readGesture_100 : decode cX4_readGesture 100 = .ok (.getfield 95, 3) := by decide +kernel
theorem dX4_readGesture_103 : decode cX4_readGesture 103 = .ok (.iload_n 2, 1) := by decide +kernel
theorem dX4_readGesture_104 : decode cX4_readGesture 104 = .ok (.iconst 0, 1) := by decide +kernel
theorem dX4_readGesture_105 : decode cX4_readGesture 105 = .ok (.iastore, 1) := by decide +kernel
theorem dX4_readGesture_106 : decode cX4_readGesture 106 = .ok (.aload_n 1, 1) := by decide +kernel
theorem dX4_readGesture_107 : decode cX4_readGesture 107 = .ok (.dup, 1) := by decide +kernel
theorem dX4_readGesture_108 : decode cX4_readGesture 108 = .ok (.getfield 80, 3) := by decide +kernel
theorem dX4_readGesture_111 : decode cX4_readGesture 111 = .ok (.iconst 1, 1) := by decide +kernel
theorem dX4_readGesture_112 : decode cX4_readGesture 112 = .ok (.iadd, 1) := by decide +kernel
theorem dX4_readGesture_113 : decode cX4_readGesture 113 = .ok (.putfield 80, 3) := by decide +kernel
theorem dX4_readGesture_116 : decode cX4_readGesture 116 = .ok (.return_, 1) := by decide +kernel
theorem dX4_next_0 : decode cX4_next 0 = .ok (.aload_n 0, 1) := by decide +kernel
theorem dX4_next_1 : decode cX4_next 1 = .ok (.getfield 28, 3) := by decide +kernel
theorem dX4_next_4 : decode cX4_next 4 = .ok (.ifCond .lt 35, 3) := by decide +kernel
theorem dX4_next_7 : decode cX4_next 7 = .ok (.aload_n 0, 1) := by decide +kernel
theorem dX4_next_8 : decode cX4_next 8 = .ok (.getfield 28, 3) := by decide +kernel
theorem dX4_next_11 : decode cX4_next 11 = .ok (.aload_n 0, 1) := by decide +kernel
theorem dX4_next_12 : decode cX4_next 12 = .ok (.getfield 15, 3) := by decide +kernel
theorem dX4_next_15 : decode cX4_next 15 = .ok (.if_icmp .ge 24, 3) := by decide +kernel
theorem dX4_next_18 : decode cX4_next 18 = .ok (.aload_n 0, 1) := by decide +kernel
theorem dX4_next_19 : decode cX4_next 19 = .ok (.getfield 28, 3) := by decide +kernel
theorem dX4_next_22 : decode cX4_next 22 = .ok (.bipush 120, 2) := by decide +kernel
theorem dX4_next_24 : decode cX4_next 24 = .ok (.if_icmp .ge 15, 3) := by decide +kernel
theorem dX4_next_27 : decode cX4_next 27 = .ok (.aload_n 0, 1) := by decide +kernel
theorem dX4_next_28 : decode cX4_next 28 = .ok (.getfield 11, 3) := by decide +kernel
theorem dX4_next_31 : decode cX4_next 31 = .ok (.aload_n 0, 1) := by decide +kernel
theorem dX4_next_32 : decode cX4_next 32 = .ok (.getfield 28, 3) := by decide +kernel
theorem dX4_next_35 : decode cX4_next 35 = .ok (.iaload, 1) := by decide +kernel
theorem dX4_next_36 : decode cX4_next 36 = .ok (.goto 4, 3) := by decide +kernel
theorem dX4_next_39 : decode cX4_next 39 = .ok (.iconst (-1), 1) := by decide +kernel
theorem dX4_next_40 : decode cX4_next 40 = .ok (.ireturn, 1) := by decide +kernel
set_option maxRecDepth 20000 in
theorem ggX4_readSign_X4_next : GoodIn wsX4_readSign wsX4_next := goodIn_r _ [6, 1, 7, 8, 20, 21, 22, 23, 24, 25] (by decide +kernel) (by decide +kernel)
set_option maxRecDepth 20000 in
theorem gX4_readSign_X4_next : GoodIn wsX4_readSign (wsV RX4 39 RX4 yX4_next wsX4_next) := goodIn_app (goodIn_of _ (by decide +kernel)) ggX4_readSign_X4_next
set_option maxRecDepth 20000 in
theorem ggX4_readSign_X4_fail : GoodIn wsX4_readSign wsX4_fail := goodIn_r _ [12, 1, 13, 14, 15, 5, 16, 17, 18, 19, 20, 21, 22, 23, 24, 25] (by decide +kernel) (by decide +kernel)
set_option maxRecDepth 20000 in
theorem gX4_readSign_X4_fail : GoodIn wsX4_readSign (wsV RX4 55 RX4 yX4_fail wsX4_fail) := goodIn_app (goodIn_of _ (by decide +kernel)) ggX4_readSign_X4_fail
theorem dX4_readSign_0 : decode cX4_readSign 0 = .ok (.aload_n 0, 1) := by decide +kernel
theorem dX4_readSign_1 : decode cX4_readSign 1 = .ok (.invokevirtual 39, 3) := by decide +kernel
theorem dX4_readSign_4 : decode cX4_readSign 4 = .ok (.iload_n 1, 1) := by decide +kernel
theorem dX4_readSign_5 : decode cX4_readSign 5 = .ok (.if_icmp .eq 8, 3) := by decide +kernel
theorem dX4_readSign_8 : decode cX4_readSign 8 = .ok (.aload_n 0, 1) := by decide +kernel
theorem dX4_readSign_9 : decode cX4_readSign 9 = .ok (.iconst 1, 1) := by decide +kernel
theorem dX4_readSign_10 : decode cX4_readSign 10 = .ok (.invokevirtual 55, 3) := by decide +kernel
theorem dX4_readSign_13 : decode cX4_readSign 13 = .ok (.aload_n 0, 1) := by decide +kernel
theorem dX4_readSign_14 : decode cX4_readSign 14 = .ok (.dup, 1) := by decide +kernel
theorem dX4_readSign_15 : decode cX4_readSign 15 = .ok (.getfield 28, 3) := by decide +kernel
theorem dX4_readSign_18 : decode cX4_readSign 18 = .ok (.iconst 1, 1) := by decide +kernel
theorem dX4_readSign_19 : decode cX4_readSign 19 = .ok (.iadd, 1) := by decide +kernel
theorem dX4_readSign_20 : decode cX4_readSign 20 = .ok (.putfield 28, 3) := by decide +kernel
theorem dX4_readSign_23 : decode cX4_readSign 23 = .ok (.return_, 1) := by decide +kernel
set_option maxRecDepth 20000 in
theorem ggX4_readNumber_X4_next : GoodIn wsX4_readNumber wsX4_next := goodIn_r _ [6, 1, 7, 8, 19, 20, 21, 22, 23, 24] (by decide +kernel) (by decide +kernel)
set_option maxRecDepth 20000 in
theorem gX4_readNumber_X4_next : GoodIn wsX4_readNumber (wsV RX4 39 RX4 yX4_next wsX4_next) := goodIn_app (goodIn_of _ (by decide +kernel)) ggX4_readNumber_X4_next
set_option maxRecDepth 20000 in
theorem ggX4_readNumber_X7_isWithin : GoodIn wsX4_readNumber wsX7_isWithin := goodIn_r _ [11] (by decide +kernel) (by decide +kernel)
set_option maxRecDepth 20000 in
theorem gX4_readNumber_X7_isWithin_n98 : GoodIn wsX4_readNumber (wsX7_isWithin) := ggX4_readNumber_X7_isWithin
set_option maxRecDepth 20000 in
theorem ggX4_readNumber_X4_failAt : GoodIn wsX4_readNumber wsX4_failAt := goodIn_r _ [15, 16, 17, 18, 19, 20, 21, 22, 23, 24] (by decide +kernel) (by decide +kernel)
set_option maxRecDepth 20000 in
theorem gX4_readNumber_X4_failAt : GoodIn wsX4_readNumber (wsV RX4 102 RX4 yX4_failAt wsX4_failAt) := goodIn_app (goodIn_of _ (by decide +kernel)) ggX4_readNumber_X4_failAt
theorem dX4_readNumber_0 : decode cX4_readNumber 0 = .ok (.iconst 0, 1) := by decide +kernel
theorem dX4_readNumber_1 : decode cX4_readNumber 1 = .ok (.istore_n 3, 1) := by decide +kernel
theorem dX4_readNumber_2 : decode cX4_readNumber 2 = .ok (.iconst 0, 1) := by decide +kernel
theorem dX4_readNumber_3 : decode cX4_readNumber 3 = .ok (.istore 4, 2) := by decide +kernel
theorem dX4_readNumber_5 : decode cX4_readNumber 5 = .ok (.aload_n 0, 1) := by decide +kernel
theorem dX4_readNumber_6 : decode cX4_readNumber 6 = .ok (.getfield 28, 3) := by decide +kernel
theorem dX4_readNumber_9 : decode cX4_readNumber 9 = .ok (.istore 5, 2) := by decide +kernel
theorem dX4_readNumber_11 : decode cX4_readNumber 11 = .ok (.iconst 0, 1) := by decide +kernel
theorem dX4_readNumber_12 : decode cX4_readNumber 12 = .ok (.istore 6, 2) := by decide +kernel
theorem dX4_readNumber_14 : decode cX4_readNumber 14 = .ok (.iload 6, 2) := by decide +kernel
theorem dX4_readNumber_16 : decode cX4_readNumber 16 = .ok (.bipush 120, 2) := by decide +kernel
theorem dX4_readNumber_18 : decode cX4_readNumber 18 = .ok (.if_icmp .ge 61, 3) := by decide +kernel
theorem dX4_readNumber_21 : decode cX4_readNumber 21 = .ok (.aload_n 0, 1) := by decide +kernel
theorem dX4_readNumber_22 : decode cX4_readNumber 22 = .ok (.invokevirtual 39, 3) := by decide +kernel
theorem dX4_readNumber_25 : decode cX4_readNumber 25 = .ok (.bipush 48, 2) := by decide +kernel
theorem dX4_readNumber_27 : decode cX4_readNumber 27 = .ok (.bipush 57, 2) := by decide +kernel
theorem dX4_readNumber_29 : decode cX4_readNumber 29 = .ok (.invokestatic 98, 3) := by decide +kernel
theorem dX4_readNumber_32 : decode cX4_readNumber 32 = .ok (.ifCond .eq 47, 3) := by decide +kernel
theorem dX4_readNumber_35 : decode cX4_readNumber 35 = .ok (.iload_n 3, 1) := by decide +kernel
theorem dX4_readNumber_36 : decode cX4_readNumber 36 = .ok (.iconst 2, 1) := by decide +kernel
theorem dX4_readNumber_37 : decode cX4_readNumber 37 = .ok (.if_icmp .ge 19, 3) := by decide +kernel
theorem dX4_readNumber_40 : decode cX4_readNumber 40 = .ok (.iload 4, 2) := by decide +kernel
theorem dX4_readNumber_42 : decode cX4_readNumber 42 = .ok (.bipush 10, 2) := by decide +kernel
theorem dX4_readNumber_44 : decode cX4_readNumber 44 = .ok (.imul, 1) := by decide +kernel
theorem dX4_readNumber_45 : decode cX4_readNumber 45 = .ok (.aload_n 0, 1) := by decide +kernel
theorem dX4_readNumber_46 : decode cX4_readNumber 46 = .ok (.invokevirtual 39, 3) := by decide +kernel
theorem dX4_readNumber_49 : decode cX4_readNumber 49 = .ok (.iadd, 1) := by decide +kernel
theorem dX4_readNumber_50 : decode cX4_readNumber 50 = .ok (.bipush 48, 2) := by decide +kernel
theorem dX4_readNumber_52 : decode cX4_readNumber 52 = .ok (.isub, 1) := by decide +kernel
theorem dX4_readNumber_53 : decode cX4_readNumber 53 = .ok (.goto 5, 3) := by decide +kernel
theorem dX4_readNumber_56 : decode cX4_readNumber 56 = .ok (.iload 4, 2) := by decide +kernel
theorem dX4_readNumber_58 : decode cX4_readNumber 58 = .ok (.istore 4, 2) := by decide +kernel
theorem dX4_readNumber_60 : decode cX4_readNumber 60 = .ok (.iinc 3 1, 3) := by decide +kernel
theorem dX4_readNumber_63 : decode cX4_readNumber 63 = .ok (.aload_n 0, 1) := by decide +kernel
theorem dX4_readNumber_64 : decode cX4_readNumber 64 = .ok (.dup, 1) := by decide +kernel
theorem dX4_readNumber_65 : decode cX4_readNumber 65 = .ok (.getfield 28, 3) := by decide +kernel
theorem dX4_readNumber_68 : decode cX4_readNumber 68 = .ok (.iconst 1, 1) := by decide +kernel
theorem dX4_readNumber_69 : decode cX4_readNumber 69 = .ok (.iadd, 1) := by decide +kernel
theorem dX4_readNumber_70 : decode cX4_readNumber 70 = .ok (.putfield 28, 3) := by decide +kernel
theorem dX4_readNumber_73 : decode cX4_readNumber 73 = .ok (.iinc 6 1, 3) := by decide +kernel
theorem dX4_readNumber_76 : decode cX4_readNumber 76 = .ok (.goto (-62), 3) := by decide +kernel
theorem dX4_readNumber_79 : decode cX4_readNumber 79 = .ok (.iload_n 3, 1) := by decide +kernel
theorem dX4_readNumber_80 : decode cX4_readNumber 80 = .ok (.ifCond .eq 8, 3) := by decide +kernel
theorem dX4_readNumber_83 : decode cX4_readNumber 83 = .ok (.iload_n 3, 1) := by decide +kernel
theorem dX4_readNumber_84 : decode cX4_readNumber 84 = .ok (.iconst 2, 1) := by decide +kernel
theorem dX4_readNumber_85 : decode cX4_readNumber 85 = .ok (.if_icmp .le 13, 3) := by decide +kernel
theorem dX4_readNumber_88 : decode cX4_readNumber 88 = .ok (.aload_n 0, 1) := by decide +kernel
theorem dX4_readNumber_89 : decode cX4_readNumber 89 = .ok (.iload 5, 2) := by decide +kernel
theorem dX4_readNumber_91 : decode cX4_readNumber 91 = .ok (.iconst 1, 1) := by decide +kernel
theorem dX4_readNumber_92 : decode cX4_readNumber 92 = .ok (.invokevirtual 102, 3) := by decide +kernel
theorem dX4_readNumber_95 : decode cX4_readNumber 95 = .ok (.goto 20, 3) := by decide +kernel
theorem dX4_readNumber_98 : decode cX4_readNumber 98 = .ok (.iload 4, 2) := by decide +kernel
theorem dX4_readNumber_100 : decode cX4_readNumber 100 = .ok (.iload_n 1, 1) := by decide +kernel
theorem dX4_readNumber_101 : decode cX4_readNumber 101 = .ok (.iload_n 2, 1) := by decide +kernel
theorem dX4_readNumber_102 : decode cX4_readNumber 102 = .ok (.invokestatic 98, 3) := by decide +kernel
theorem dX4_readNumber_105 : decode cX4_readNumber 105 = .ok (.ifCond .ne 10, 3) := by decide +kernel
theorem dX4_readNumber_108 : decode cX4_readNumber 108 = .ok (.aload_n 0, 1) := by decide +kernel
theorem dX4_readNumber_109 : decode cX4_readNumber 109 = .ok (.iload 5, 2) := by decide +kernel
theorem dX4_readNumber_111 : decode cX4_readNumber 111 = .ok (.iconst 2, 1) := by decide +kernel
theorem dX4_readNumber_112 : decode cX4_readNumber 112 = .ok (.invokevirtual 102, 3) := by decide +kernel
theorem dX4_readNumber_115 : decode cX4_readNumber 115 = .ok (.iload 4, 2) := by decide +kernel
theorem dX4_readNumber_117 : decode cX4_readNumber 117 = .ok (.ireturn, 1) := by decide +kernel
set_option maxRecDepth 20000 in
theorem ggX4_fail_X4_failAt : GoodIn wsX4_fail wsX4_failAt := goodIn_r _ [6, 7, 8, 9, 10, 11, 12, 13, 14, 15] (by decide +kernel) (by decide +kernel)
set_option maxRecDepth 20000 in
theorem gX4_fail_X4_failAt : GoodIn wsX4_fail (wsV RX4 102 RX4 yX4_failAt wsX4_failAt) := goodIn_app (goodIn_of _ (by decide +kernel)) ggX4_fail_X4_failAt
theorem dX4_fail_0 : decode cX4_fail 0 = .ok (.aload_n 0, 1) := by decide +kernel
theorem dX4_fail_1 : decode cX4_fail 1 = .ok (.aload_n 0, 1) := by decide +kernel
theorem dX4_fail_2 : decode cX4_fail 2 = .ok (.getfield 28, 3) := by decide +kernel
theorem dX4_fail_5 : decode cX4_fail 5 = .ok (.iload_n 1, 1) := by decide +kernel
theorem dX4_fail_6 : decode cX4_fail 6 = .ok (.invokevirtual 102, 3) := by decide +kernel
theorem dX4_fail_9 : decode cX4_fail 9 = .ok (.return_, 1) := by decide +kernel
theorem dX4_failAt_0 : decode cX4_failAt 0 = .ok (.aload_n 0, 1) := by decide +kernel
theorem dX4_failAt_1 : decode cX4_failAt 1 = .ok (.getfield 25, 3) := by decide +kernel
theorem dX4_failAt_4 : decode cX4_failAt 4 = .ok (.ifCond .ne 18, 3) := by decide +kernel
theorem dX4_failAt_7 : decode cX4_failAt 7 = .ok (.aload_n 0, 1) := by decide +kernel
theorem dX4_failAt_8 : decode cX4_failAt 8 = .ok (.iload_n 2, 1) := by decide +kernel
theorem dX4_failAt_9 : decode cX4_failAt 9 = .ok (.putfield 25, 3) := by decide +kernel
theorem dX4_failAt_12 : decode cX4_failAt 12 = .ok (.aload_n 0, 1) := by decide +kernel
theorem dX4_failAt_13 : decode cX4_failAt 13 = .ok (.iload_n 2, 1) := by decide +kernel
theorem dX4_failAt_14 : decode cX4_failAt 14 = .ok (.putfield 19, 3) := by decide +kernel
theorem dX4_failAt_17 : decode cX4_failAt 17 = .ok (.aload_n 0, 1) := by decide +kernel
theorem dX4_failAt_18 : decode cX4_failAt 18 = .ok (.iload_n 1, 1) := by decide +kernel
theorem dX4_failAt_19 : decode cX4_failAt 19 = .ok (.putfield 22, 3) := by decide +kernel
theorem dX4_failAt_22 : decode cX4_failAt 22 = .ok (.return_, 1) := by decide +kernel
theorem dX5_init_0 : decode cX5_init 0 = .ok (.aload_n 0, 1) := by decide +kernel
theorem dX5_init_1 : decode cX5_init 1 = .ok (.invokespecial 3, 3) := by decide +kernel
theorem dX5_init_4 : decode cX5_init 4 = .ok (.aload_n 0, 1) := by decide +kernel
theorem dX5_init_5 : decode cX5_init 5 = .ok (.bipush 8, 2) := by decide +kernel
theorem dX5_init_7 : decode cX5_init 7 = .ok (.bipush 40, 2) := by decide +kernel
theorem dX5_init_9 : decode cX5_init 9 = .ok (.multianewarray 11 2, 4) := by decide +kernel
theorem dX5_init_13 : decode cX5_init 13 = .ok (.putfield 13, 3) := by decide +kernel
theorem dX5_init_16 : decode cX5_init 16 = .ok (.aload_n 0, 1) := by decide +kernel
theorem dX5_init_17 : decode cX5_init 17 = .ok (.bipush 8, 2) := by decide +kernel
theorem dX5_init_19 : decode cX5_init 19 = .ok (.newarray .int, 2) := by decide +kernel
theorem dX5_init_21 : decode cX5_init 21 = .ok (.dup, 1) := by decide +kernel
theorem dX5_init_22 : decode cX5_init 22 = .ok (.iconst 0, 1) := by decide +kernel
theorem dX5_init_23 : decode cX5_init 23 = .ok (.iconst (-1), 1) := by decide +kernel
theorem dX5_init_24 : decode cX5_init 24 = .ok (.iastore, 1) := by decide +kernel
theorem dX5_init_25 : decode cX5_init 25 = .ok (.dup, 1) := by decide +kernel
theorem dX5_init_26 : decode cX5_init 26 = .ok (.iconst 1, 1) := by decide +kernel
theorem dX5_init_27 : decode cX5_init 27 = .ok (.iconst (-1), 1) := by decide +kernel
theorem dX5_init_28 : decode cX5_init 28 = .ok (.iastore, 1) := by decide +kernel
theorem dX5_init_29 : decode cX5_init 29 = .ok (.dup, 1) := by decide +kernel
theorem dX5_init_30 : decode cX5_init 30 = .ok (.iconst 2, 1) := by decide +kernel
theorem dX5_init_31 : decode cX5_init 31 = .ok (.iconst (-1), 1) := by decide +kernel
theorem dX5_init_32 : decode cX5_init 32 = .ok (.iastore, 1) := by decide +kernel
theorem dX5_init_33 : decode cX5_init 33 = .ok (.dup, 1) := by decide +kernel
theorem dX5_init_34 : decode cX5_init 34 = .ok (.iconst 3, 1) := by decide +kernel
theorem dX5_init_35 : decode cX5_init 35 = .ok (.iconst (-1), 1) := by decide +kernel
theorem dX5_init_36 : decode cX5_init 36 = .ok (.iastore, 1) := by decide +kernel
theorem dX5_init_37 : decode cX5_init 37 = .ok (.dup, 1) := by decide +kernel
theorem dX5_init_38 : decode cX5_init 38 = .ok (.iconst 4, 1) := by decide +kernel
theorem dX5_init_39 : decode cX5_init 39 = .ok (.iconst (-1), 1) := by decide +kernel
theorem dX5_init_40 : decode cX5_init 40 = .ok (.iastore, 1) := by decide +kernel
theorem dX5_init_41 : decode cX5_init 41 = .ok (.dup, 1) := by decide +kernel
theorem dX5_init_42 : decode cX5_init 42 = .ok (.iconst 5, 1) := by decide +kernel
theorem dX5_init_43 : decode cX5_init 43 = .ok (.iconst (-1), 1) := by decide +kernel
theorem dX5_init_44 : decode cX5_init 44 = .ok (.iastore, 1) := by decide +kernel
theorem dX5_init_45 : decode cX5_init 45 = .ok (.dup, 1) := by decide +kernel
theorem dX5_init_46 : decode cX5_init 46 = .ok (.bipush 6, 2) := by decide +kernel
theorem dX5_init_48 : decode cX5_init 48 = .ok (.iconst (-1), 1) := by decide +kernel
theorem dX5_init_49 : decode cX5_init 49 = .ok (.iastore, 1) := by decide +kernel
theorem dX5_init_50 : decode cX5_init 50 = .ok (.dup, 1) := by decide +kernel
theorem dX5_init_51 : decode cX5_init 51 = .ok (.bipush 7, 2) := by decide +kernel
theorem dX5_init_53 : decode cX5_init 53 = .ok (.iconst (-1), 1) := by decide +kernel
theorem dX5_init_54 : decode cX5_init 54 = .ok (.iastore, 1) := by decide +kernel
theorem dX5_init_55 : decode cX5_init 55 = .ok (.putfield 16, 3) := by decide +kernel
theorem dX5_init_58 : decode cX5_init 58 = .ok (.aload_n 0, 1) := by decide +kernel
theorem dX5_init_59 : decode cX5_init 59 = .ok (.bipush 8, 2) := by decide +kernel
theorem dX5_init_61 : decode cX5_init 61 = .ok (.newarray .int, 2) := by decide +kernel
theorem dX5_init_63 : decode cX5_init 63 = .ok (.putfield 20, 3) := by decide +kernel
theorem dX5_init_66 : decode cX5_init 66 = .ok (.return_, 1) := by decide +kernel
theorem dX5_isRow_0 : decode cX5_isRow 0 = .ok (.iload_n 0, 1) := by decide +kernel
theorem dX5_isRow_1 : decode cX5_isRow 1 = .ok (.ifCond .lt 13, 3) := by decide +kernel
theorem dX5_isRow_4 : decode cX5_isRow 4 = .ok (.iload_n 0, 1) := by decide +kernel
theorem dX5_isRow_5 : decode cX5_isRow 5 = .ok (.bipush 8, 2) := by decide +kernel
theorem dX5_isRow_7 : decode cX5_isRow 7 = .ok (.if_icmp .ge 7, 3) := by decide +kernel
theorem dX5_isRow_10 : decode cX5_isRow 10 = .ok (.iconst 1, 1) := by decide +kernel
theorem dX5_isRow_11 : decode cX5_isRow 11 = .ok (.goto 4, 3) := by decide +kernel
theorem dX5_isRow_14 : decode cX5_isRow 14 = .ok (.iconst 0, 1) := by decide +kernel
theorem dX5_isRow_15 : decode cX5_isRow 15 = .ok (.ireturn, 1) := by decide +kernel
theorem dX5_isMissing_0 : decode cX5_isMissing 0 = .ok (.aload_n 0, 1) := by decide +kernel
theorem dX5_isMissing_1 : decode cX5_isMissing 1 = .ok (.getfield 16, 3) := by decide +kernel
theorem dX5_isMissing_4 : decode cX5_isMissing 4 = .ok (.iload_n 1, 1) := by decide +kernel
theorem dX5_isMissing_5 : decode cX5_isMissing 5 = .ok (.iaload, 1) := by decide +kernel
theorem dX5_isMissing_6 : decode cX5_isMissing 6 = .ok (.iconst (-1), 1) := by decide +kernel
theorem dX5_isMissing_7 : decode cX5_isMissing 7 = .ok (.if_icmp .ne 7, 3) := by decide +kernel
theorem dX5_isMissing_10 : decode cX5_isMissing 10 = .ok (.iconst 1, 1) := by decide +kernel
theorem dX5_isMissing_11 : decode cX5_isMissing 11 = .ok (.goto 4, 3) := by decide +kernel
theorem dX5_isMissing_14 : decode cX5_isMissing 14 = .ok (.iconst 0, 1) := by decide +kernel
theorem dX5_isMissing_15 : decode cX5_isMissing 15 = .ok (.ireturn, 1) := by decide +kernel
theorem dX5_areAlike_0 : decode cX5_areAlike 0 = .ok (.aload_n 0, 1) := by decide +kernel
theorem dX5_areAlike_1 : decode cX5_areAlike 1 = .ok (.getfield 20, 3) := by decide +kernel
theorem dX5_areAlike_4 : decode cX5_areAlike 4 = .ok (.iload_n 1, 1) := by decide +kernel
theorem dX5_areAlike_5 : decode cX5_areAlike 5 = .ok (.iaload, 1) := by decide +kernel
theorem dX5_areAlike_6 : decode cX5_areAlike 6 = .ok (.aload_n 0, 1) := by decide +kernel
theorem dX5_areAlike_7 : decode cX5_areAlike 7 = .ok (.getfield 20, 3) := by decide +kernel
theorem dX5_areAlike_10 : decode cX5_areAlike 10 = .ok (.iload_n 2, 1) := by decide +kernel
theorem dX5_areAlike_11 : decode cX5_areAlike 11 = .ok (.iaload, 1) := by decide +kernel
theorem dX5_areAlike_12 : decode cX5_areAlike 12 = .ok (.if_icmp .ne 7, 3) := by decide +kernel
theorem dX5_areAlike_15 : decode cX5_areAlike 15 = .ok (.iconst 1, 1) := by decide +kernel
theorem dX5_areAlike_16 : decode cX5_areAlike 16 = .ok (.goto 4, 3) := by decide +kernel
theorem dX5_areAlike_19 : decode cX5_areAlike 19 = .ok (.iconst 0, 1) := by decide +kernel
theorem dX5_areAlike_20 : decode cX5_areAlike 20 = .ok (.ireturn, 1) := by decide +kernel
theorem dX5_reaches_0 : decode cX5_reaches 0 = .ok (.iload_n 2, 1) := by decide +kernel
theorem dX5_reaches_1 : decode cX5_reaches 1 = .ok (.ifCond .lt 33, 3) := by decide +kernel
theorem dX5_reaches_4 : decode cX5_reaches 4 = .ok (.iload_n 3, 1) := by decide +kernel
theorem dX5_reaches_5 : decode cX5_reaches 5 = .ok (.ifCond .lt 29, 3) := by decide +kernel
theorem dX5_reaches_8 : decode cX5_reaches 8 = .ok (.iload_n 3, 1) := by decide +kernel
theorem dX5_reaches_9 : decode cX5_reaches 9 = .ok (.aload_n 0, 1) := by decide +kernel
theorem dX5_reaches_10 : decode cX5_reaches 10 = .ok (.getfield 16, 3) := by decide +kernel
theorem dX5_reaches_13 : decode cX5_reaches 13 = .ok (.iload_n 1, 1) := by decide +kernel
theorem dX5_reaches_14 : decode cX5_reaches 14 = .ok (.iaload, 1) := by decide +kernel
theorem dX5_reaches_15 : decode cX5_reaches 15 = .ok (.if_icmp .gt 19, 3) := by decide +kernel
theorem dX5_reaches_18 : decode cX5_reaches 18 = .ok (.iload_n 2, 1) := by decide +kernel
theorem dX5_reaches_19 : decode cX5_reaches 19 = .ok (.aload_n 0, 1) := by decide +kernel
theorem dX5_reaches_20 : decode cX5_reaches 20 = .ok (.getfield 16, 3) := by decide +kernel
theorem dX5_reaches_23 : decode cX5_reaches 23 = .ok (.iload_n 1, 1) := by decide +kernel
theorem dX5_reaches_24 : decode cX5_reaches 24 = .ok (.iaload, 1) := by decide +kernel
theorem dX5_reaches_25 : decode cX5_reaches 25 = .ok (.iload_n 3, 1) := by decide +kernel
theorem dX5_reaches_26 : decode cX5_reaches 26 = .ok (.isub, 1) := by decide +kernel
theorem dX5_reaches_27 : decode cX5_reaches 27 = .ok (.if_icmp .gt 7, 3) := by decide +kernel
theorem dX5_reaches_30 : decode cX5_reaches 30 = .ok (.iconst 1, 1) := by decide +kernel
theorem dX5_reaches_31 : decode cX5_reaches 31 = .ok (.goto 4, 3) := by decide +kernel
theorem dX5_reaches_34 : decode cX5_reaches 34 = .ok (.iconst 0, 1) := by decide +kernel
theorem dX5_reaches_35 : decode cX5_reaches 35 = .ok (.ireturn, 1) := by decide +kernel
set_option maxRecDepth 20000 in
theorem ggX5_findingOf_X5_isMissing : GoodIn wsX5_findingOf wsX5_isMissing := goodIn_r _ [5, 6, 11, 12, 13] (by decide +kernel) (by decide +kernel)
set_option maxRecDepth 20000 in
theorem gX5_findingOf_X5_isMissing : GoodIn wsX5_findingOf (wsV RX5 23 RX5 yX5_isMissing wsX5_isMissing) := goodIn_app (goodIn_of _ (by decide +kernel)) ggX5_findingOf_X5_isMissing
set_option maxRecDepth 20000 in
theorem ggX5_findingOf_X5_reaches : GoodIn wsX5_findingOf wsX5_reaches := goodIn_r _ [10, 6, 11, 12, 13] (by decide +kernel) (by decide +kernel)
set_option maxRecDepth 20000 in
theorem gX5_findingOf_X5_reaches : GoodIn wsX5_findingOf (wsV RX5 27 RX5 yX5_reaches wsX5_reaches) := goodIn_app (goodIn_of _ (by decide +kernel)) ggX5_findingOf_X5_reaches
theorem dX5_findingOf_0 : decode cX5_findingOf 0 = .ok (.aload_n 0, 1) := by decide +kernel
theorem dX5_findingOf_1 : decode cX5_findingOf 1 = .ok (.iload_n 1, 1) := by decide +kernel
theorem dX5_findingOf_2 : decode cX5_findingOf 2 = .ok (.invokevirtual 23, 3) := by decide +kernel
theorem dX5_findingOf_5 : decode cX5_findingOf 5 = .ok (.ifCond .eq 5, 3) := by decide +kernel
theorem dX5_findingOf_8 : decode cX5_findingOf 8 = .ok (.iconst 1, 1) := by decide +kernel
theorem dX5_findingOf_9 : decode cX5_findingOf 9 = .ok (.ireturn, 1) := by decide +kernel
theorem dX5_findingOf_10 : decode cX5_findingOf 10 = .ok (.aload_n 0, 1) := by decide +kernel
theorem dX5_findingOf_11 : decode cX5_findingOf 11 = .ok (.iload_n 1, 1) := by decide +kernel
theorem dX5_findingOf_12 : decode cX5_findingOf 12 = .ok (.iload_n 2, 1) := by decide +kernel
theorem dX5_findingOf_13 : decode cX5_findingOf 13 = .ok (.iload_n 3, 1) := by decide +kernel
theorem dX5_findingOf_14 : decode cX5_findingOf 14 = .ok (.invokevirtual 27, 3) := by decide +kernel
theorem dX5_findingOf_17 : decode cX5_findingOf 17 = .ok (.ifCond .eq 7, 3) := by decide +kernel
theorem dX5_findingOf_20 : decode cX5_findingOf 20 = .ok (.iconst 0, 1) := by decide +kernel
theorem dX5_findingOf_21 : decode cX5_findingOf 21 = .ok (.goto 4, 3) := by decide +kernel
theorem dX5_findingOf_24 : decode cX5_findingOf 24 = .ok (.iconst 2, 1) := by decide +kernel
theorem dX5_findingOf_25 : decode cX5_findingOf 25 = .ok (.ireturn, 1) := by decide +kernel
theorem dX5_lay_0 : decode cX5_lay 0 = .ok (.aload_n 0, 1) := by decide +kernel
theorem dX5_lay_1 : decode cX5_lay 1 = .ok (.getfield 16, 3) := by decide +kernel
theorem dX5_lay_4 : decode cX5_lay 4 = .ok (.iload_n 1, 1) := by decide +kernel
theorem dX5_lay_5 : decode cX5_lay 5 = .ok (.iload_n 3, 1) := by decide +kernel
theorem dX5_lay_6 : decode cX5_lay 6 = .ok (.iastore, 1) := by decide +kernel
theorem dX5_lay_7 : decode cX5_lay 7 = .ok (.aload_n 0, 1) := by decide +kernel
theorem dX5_lay_8 : decode cX5_lay 8 = .ok (.getfield 20, 3) := by decide +kernel
theorem dX5_lay_11 : decode cX5_lay 11 = .ok (.iload_n 1, 1) := by decide +kernel
theorem dX5_lay_12 : decode cX5_lay 12 = .ok (.iload_n 2, 1) := by decide +kernel
theorem dX5_lay_13 : decode cX5_lay 13 = .ok (.iastore, 1) := by decide +kernel
theorem dX5_lay_14 : decode cX5_lay 14 = .ok (.iconst 0, 1) := by decide +kernel
theorem dX5_lay_15 : decode cX5_lay 15 = .ok (.istore 4, 2) := by decide +kernel
theorem dX5_lay_17 : decode cX5_lay 17 = .ok (.iload 4, 2) := by decide +kernel
theorem dX5_lay_19 : decode cX5_lay 19 = .ok (.bipush 40, 2) := by decide +kernel
theorem dX5_lay_21 : decode cX5_lay 21 = .ok (.if_icmp .ge 19, 3) := by decide +kernel
theorem dX5_lay_24 : decode cX5_lay 24 = .ok (.aload_n 0, 1) := by decide +kernel
theorem dX5_lay_25 : decode cX5_lay 25 = .ok (.getfield 13, 3) := by decide +kernel
theorem dX5_lay_28 : decode cX5_lay 28 = .ok (.iload_n 1, 1) := by decide +kernel
theorem dX5_lay_29 : decode cX5_lay 29 = .ok (.aaload, 1) := by decide +kernel
theorem dX5_lay_30 : decode cX5_lay 30 = .ok (.iload 4, 2) := by decide +kernel
theorem dX5_lay_32 : decode cX5_lay 32 = .ok (.iconst 0, 1) := by decide +kernel
theorem dX5_lay_33 : decode cX5_lay 33 = .ok (.iastore, 1) := by decide +kernel
theorem dX5_lay_34 : decode cX5_lay 34 = .ok (.iinc 4 1, 3) := by decide +kernel
theorem dX5_lay_37 : decode cX5_lay 37 = .ok (.goto (-20), 3) := by decide +kernel
theorem dX5_lay_40 : decode cX5_lay 40 = .ok (.return_, 1) := by decide +kernel
set_option maxRecDepth 20000 in
theorem ggX5_put_X5_lowestBits : GoodIn wsX5_put wsX5_lowestBits := goodIn_r _ [6] (by decide +kernel) (by decide +kernel)
set_option maxRecDepth 20000 in
theorem gX5_put_X5_lowestBits : GoodIn wsX5_put (va_wsS RX5 31 yX5_lowestBits wsX5_lowestBits) := goodIn_app (goodIn_of _ (by decide +kernel)) ggX5_put_X5_lowestBits
theorem dX5_put_0 : decode cX5_put 0 = .ok (.aload_n 0, 1) := by decide +kernel
theorem dX5_put_1 : decode cX5_put 1 = .ok (.getfield 13, 3) := by decide +kernel
theorem dX5_put_4 : decode cX5_put 4 = .ok (.iload_n 1, 1) := by decide +kernel
theorem dX5_put_5 : decode cX5_put 5 = .ok (.aaload, 1) := by decide +kernel
theorem dX5_put_6 : decode cX5_put 6 = .ok (.iload_n 2, 1) := by decide +kernel
theorem dX5_put_7 : decode cX5_put 7 = .ok (.iload_n 3, 1) := by decide +kernel
theorem dX5_put_8 : decode cX5_put 8 = .ok (.aload_n 0, 1) := by decide +kernel
theorem dX5_put_9 : decode cX5_put 9 = .ok (.getfield 20, 3) := by decide +kernel
theorem dX5_put_12 : decode cX5_put 12 = .ok (.iload_n 1, 1) := by decide +kernel
theorem dX5_put_13 : decode cX5_put 13 = .ok (.iaload, 1) := by decide +kernel
theorem dX5_put_14 : decode cX5_put 14 = .ok (.invokestatic 31, 3) := by decide +kernel
theorem dX5_put_17 : decode cX5_put 17 = .ok (.iastore, 1) := by decide +kernel
theorem dX5_put_18 : decode cX5_put 18 = .ok (.aload_n 0, 1) := by decide +kernel
theorem dX5_put_19 : decode cX5_put 19 = .ok (.getfield 13, 3) := by decide +kernel
theorem dX5_put_22 : decode cX5_put 22 = .ok (.iload_n 1, 1) := by decide +kernel
theorem dX5_put_23 : decode cX5_put 23 = .ok (.aaload, 1) := by decide +kernel
theorem dX5_put_24 : decode cX5_put 24 = .ok (.iload_n 2, 1) := by decide +kernel
theorem dX5_put_25 : decode cX5_put 25 = .ok (.iaload, 1) := by decide +kernel
theorem dX5_put_26 : decode cX5_put 26 = .ok (.ireturn, 1) := by decide +kernel
theorem dX5_at_0 : decode cX5_at 0 = .ok (.aload_n 0, 1) := by decide +kernel
theorem dX5_at_1 : decode cX5_at 1 = .ok (.getfield 13, 3) := by decide +kernel
theorem dX5_at_4 : decode cX5_at 4 = .ok (.iload_n 1, 1) := by decide +kernel
theorem dX5_at_5 : decode cX5_at 5 = .ok (.aaload, 1) := by decide +kernel
theorem dX5_at_6 : decode cX5_at 6 = .ok (.iload_n 2, 1) := by decide +kernel
theorem dX5_at_7 : decode cX5_at 7 = .ok (.iaload, 1) := by decide +kernel
theorem dX5_at_8 : decode cX5_at 8 = .ok (.ireturn, 1) := by decide +kernel
theorem dX5_carry_0 : decode cX5_carry 0 = .ok (.aload_n 0, 1) := by decide +kernel
theorem dX5_carry_1 : decode cX5_carry 1 = .ok (.getfield 13, 3) := by decide +kernel
theorem dX5_carry_4 : decode cX5_carry 4 = .ok (.iload_n 1, 1) := by decide +kernel
theorem dX5_carry_5 : decode cX5_carry 5 = .ok (.aaload, 1) := by decide +kernel
theorem dX5_carry_6 : decode cX5_carry 6 = .ok (.iload_n 2, 1) := by decide +kernel
theorem dX5_carry_7 : decode cX5_carry 7 = .ok (.aload_n 0, 1) := by decide +kernel
theorem dX5_carry_8 : decode cX5_carry 8 = .ok (.getfield 13, 3) := by decide +kernel
theorem dX5_carry_11 : decode cX5_carry 11 = .ok (.iload_n 3, 1) := by decide +kernel
theorem dX5_carry_12 : decode cX5_carry 12 = .ok (.aaload, 1) := by decide +kernel
theorem dX5_carry_13 : decode cX5_carry 13 = .ok (.iload 4, 2) := by decide +kernel
theorem dX5_carry_15 : decode cX5_carry 15 = .ok (.iload 5, 2) := by decide +kernel
theorem dX5_carry_17 : decode cX5_carry 17 = .ok (.invokestatic 35, 3) := by decide +kernel
theorem dX5_carry_20 : decode cX5_carry 20 = .ok (.return_, 1) := by decide +kernel
theorem dX5_takeAway_0 : decode cX5_takeAway 0 = .ok (.aload_n 0, 1) := by decide +kernel
theorem dX5_takeAway_1 : decode cX5_takeAway 1 = .ok (.getfield 16, 3) := by decide +kernel
theorem dX5_takeAway_4 : decode cX5_takeAway 4 = .ok (.iload_n 1, 1) := by decide +kernel
theorem dX5_takeAway_5 : decode cX5_takeAway 5 = .ok (.iaload, 1) := by decide +kernel
theorem dX5_takeAway_6 : decode cX5_takeAway 6 = .ok (.istore_n 2, 1) := by decide +kernel
theorem dX5_takeAway_7 : decode cX5_takeAway 7 = .ok (.aload_n 0, 1) := by decide +kernel
theorem dX5_takeAway_8 : decode cX5_takeAway 8 = .ok (.getfield 16, 3) := by decide +kernel
theorem dX5_takeAway_11 : decode cX5_takeAway 11 = .ok (.iload_n 1, 1) := by decide +kernel
theorem dX5_takeAway_12 : decode cX5_takeAway 12 = .ok (.iconst (-1), 1) := by decide +kernel
theorem dX5_takeAway_13 : decode cX5_takeAway 13 = .ok (.iastore, 1) := by decide +kernel
theorem dX5_takeAway_14 : decode cX5_takeAway 14 = .ok (.iload_n 2, 1) := by decide +kernel
theorem dX5_takeAway_15 : decode cX5_takeAway 15 = .ok (.ireturn, 1) := by decide +kernel
set_option maxRecDepth 20000 in
theorem ggX5_howMany_X5_isMissing : GoodIn wsX5_howMany wsX5_isMissing := goodIn_r _ [5, 6, 7, 8, 9] (by decide +kernel) (by decide +kernel)
set_option maxRecDepth 20000 in
theorem gX5_howMany_X5_isMissing : GoodIn wsX5_howMany (wsV RX5 23 RX5 yX5_isMissing wsX5_isMissing) := goodIn_app (goodIn_of _ (by decide +kernel)) ggX5_howMany_X5_isMissing
theorem dX5_howMany_0 : decode cX5_howMany 0 = .ok (.iconst 0, 1) := by decide +kernel
theorem dX5_howMany_1 : decode cX5_howMany 1 = .ok (.istore_n 1, 1) := by decide +kernel
theorem dX5_howMany_2 : decode cX5_howMany 2 = .ok (.iconst 0, 1) := by decide +kernel
theorem dX5_howMany_3 : decode cX5_howMany 3 = .ok (.istore_n 2, 1) := by decide +kernel
theorem dX5_howMany_4 : decode cX5_howMany 4 = .ok (.iload_n 2, 1) := by decide +kernel
theorem dX5_howMany_5 : decode cX5_howMany 5 = .ok (.bipush 8, 2) := by decide +kernel
theorem dX5_howMany_7 : decode cX5_howMany 7 = .ok (.if_icmp .ge 25, 3) := by decide +kernel
theorem dX5_howMany_10 : decode cX5_howMany 10 = .ok (.iload_n 1, 1) := by decide +kernel
theorem dX5_howMany_11 : decode cX5_howMany 11 = .ok (.aload_n 0, 1) := by decide +kernel
theorem dX5_howMany_12 : decode cX5_howMany 12 = .ok (.iload_n 2, 1) := by decide +kernel
theorem dX5_howMany_13 : decode cX5_howMany 13 = .ok (.invokevirtual 23, 3) := by decide +kernel
theorem dX5_howMany_16 : decode cX5_howMany 16 = .ok (.ifCond .eq 7, 3) := by decide +kernel
theorem dX5_howMany_19 : decode cX5_howMany 19 = .ok (.iconst 0, 1) := by decide +kernel
theorem dX5_howMany_20 : decode cX5_howMany 20 = .ok (.goto 4, 3) := by decide +kernel
theorem dX5_howMany_23 : decode cX5_howMany 23 = .ok (.iconst 1, 1) := by decide +kernel
theorem dX5_howMany_24 : decode cX5_howMany 24 = .ok (.iadd, 1) := by decide +kernel
theorem dX5_howMany_25 : decode cX5_howMany 25 = .ok (.istore_n 1, 1) := by decide +kernel
theorem dX5_howMany_26 : decode cX5_howMany 26 = .ok (.iinc 2 1, 3) := by decide +kernel
theorem dX5_howMany_29 : decode cX5_howMany 29 = .ok (.goto (-25), 3) := by decide +kernel
theorem dX5_howMany_32 : decode cX5_howMany 32 = .ok (.iload_n 1, 1) := by decide +kernel
theorem dX5_howMany_33 : decode cX5_howMany 33 = .ok (.ireturn, 1) := by decide +kernel
theorem dX5_lowestBits_0 : decode cX5_lowestBits 0 = .ok (.iload_n 1, 1) := by decide +kernel
theorem dX5_lowestBits_1 : decode cX5_lowestBits 1 = .ok (.ifCond .ne 6, 3) := by decide +kernel
theorem dX5_lowestBits_4 : decode cX5_lowestBits 4 = .ok (.iload_n 0, 1) := by decide +kernel
theorem dX5_lowestBits_5 : decode cX5_lowestBits 5 = .ok (.i2b, 1) := by decide +kernel
theorem dX5_lowestBits_6 : decode cX5_lowestBits 6 = .ok (.ireturn, 1) := by decide +kernel
theorem dX5_lowestBits_7 : decode cX5_lowestBits 7 = .ok (.iload_n 1, 1) := by decide +kernel
theorem dX5_lowestBits_8 : decode cX5_lowestBits 8 = .ok (.iconst 1, 1) := by decide +kernel
theorem dX5_lowestBits_9 : decode cX5_lowestBits 9 = .ok (.if_icmp .ne 8, 3) := by decide +kernel
theorem dX5_lowestBits_12 : decode cX5_lowestBits 12 = .ok (.iload_n 0, 1) := by decide +kernel
theorem dX5_lowestBits_13 : decode cX5_lowestBits 13 = .ok (.i2s, 1) := by decide +kernel
theorem dX5_lowestBits_14 : decode cX5_lowestBits 14 = .ok (.goto 4, 3) := by decide +kernel
theorem dX5_lowestBits_17 : decode cX5_lowestBits 17 = .ok (.iload_n 0, 1) := by decide +kernel
theorem dX5_lowestBits_18 : decode cX5_lowestBits 18 = .ok (.ireturn, 1) := by decide +kernel
theorem dX6_init_0 : decode cX6_init 0 = .ok (.aload_n 0, 1) := by decide +kernel
theorem dX6_init_1 : decode cX6_init 1 = .ok (.invokespecial 3, 3) := by decide +kernel
theorem dX6_init_4 : decode cX6_init 4 = .ok (.aload_n 0, 1) := by decide +kernel
theorem dX6_init_5 : decode cX6_init 5 = .ok (.bipush 8, 2) := by decide +kernel
theorem dX6_init_7 : decode cX6_init 7 = .ok (.bipush 100, 2) := by decide +kernel
theorem dX6_init_9 : decode cX6_init 9 = .ok (.multianewarray 9 2, 4) := by decide +kernel
theorem dX6_init_13 : decode cX6_init 13 = .ok (.putfield 11, 3) := by decide +kernel
theorem dX6_init_16 : decode cX6_init 16 = .ok (.return_, 1) := by decide +kernel
set_option maxRecDepth 20000 in
theorem ggX6_leastDuty_X6_fill : GoodIn wsX6_leastDuty wsX6_fill := goodIn_r _ [8, 1, 2, 9, 10, 11, 12, 13, 14, 15, 16, 17, 18, 19, 20, 21, 22, 23, 24, 25, 26, 27, 28, 29, 30, 31, 32, 33, 34, 35, 36, 37, 38, 39, 40, 41, 42, 43, 44, 45, 46, 47, 48, 49, 7, 50, 51, 52, 53, 54, 55, 56, 57, 58, 59, 60, 61, 62, 63, 64, 65, 66, 67] (by decide +kernel) (by decide +kernel)
set_option maxRecDepth 20000 in
theorem gX6_leastDuty_X6_fill : GoodIn wsX6_leastDuty (wsV RX6 16 RX6 yX6_fill wsX6_fill) := goodIn_app (goodIn_of _ (by decide +kernel)) ggX6_leastDuty_X6_fill
theorem dX6_leastDuty_0 : decode cX6_leastDuty 0 = .ok (.aload_n 0, 1) := by decide +kernel
theorem dX6_leastDuty_1 : decode cX6_leastDuty 1 = .ok (.aload_n 1, 1) := by decide +kernel
theorem dX6_leastDuty_2 : decode cX6_leastDuty 2 = .ok (.iload_n 2, 1) := by decide +kernel
theorem dX6_leastDuty_3 : decode cX6_leastDuty 3 = .ok (.iload_n 3, 1) := by decide +kernel
theorem dX6_leastDuty_4 : decode cX6_leastDuty 4 = .ok (.iload 4, 2) := by decide +kernel
theorem dX6_leastDuty_6 : decode cX6_leastDuty 6 = .ok (.iload 5, 2) := by decide +kernel
theorem dX6_leastDuty_8 : decode cX6_leastDuty 8 = .ok (.invokevirtual 16, 3) := by decide +kernel
theorem dX6_leastDuty_11 : decode cX6_leastDuty 11 = .ok (.aload_n 0, 1) := by decide +kernel
theorem dX6_leastDuty_12 : decode cX6_leastDuty 12 = .ok (.getfield 11, 3) := by decide +kernel
theorem dX6_leastDuty_15 : decode cX6_leastDuty 15 = .ok (.iload_n 3, 1) := by decide +kernel
theorem dX6_leastDuty_16 : decode cX6_leastDuty 16 = .ok (.aaload, 1) := by decide +kernel
theorem dX6_leastDuty_17 : decode cX6_leastDuty 17 = .ok (.iload 5, 2) := by decide +kernel
theorem dX6_leastDuty_19 : decode cX6_leastDuty 19 = .ok (.iaload, 1) := by decide +kernel
theorem dX6_leastDuty_20 : decode cX6_leastDuty 20 = .ok (.ldc 20, 2) := by decide +kernel
theorem dX6_leastDuty_22 : decode cX6_leastDuty 22 = .ok (.if_icmp .ge 15, 3) := by decide +kernel
theorem dX6_leastDuty_25 : decode cX6_leastDuty 25 = .ok (.aload_n 0, 1) := by decide +kernel
theorem dX6_leastDuty_26 : decode cX6_leastDuty 26 = .ok (.getfield 11, 3) := by decide +kernel
theorem dX6_leastDuty_29 : decode cX6_leastDuty 29 = .ok (.iload_n 3, 1) := by decide +kernel
theorem dX6_leastDuty_30 : decode cX6_leastDuty 30 = .ok (.aaload, 1) := by decide +kernel
theorem dX6_leastDuty_31 : decode cX6_leastDuty 31 = .ok (.iload 5, 2) := by decide +kernel
theorem dX6_leastDuty_33 : decode cX6_leastDuty 33 = .ok (.iaload, 1) := by decide +kernel
theorem dX6_leastDuty_34 : decode cX6_leastDuty 34 = .ok (.goto 5, 3) := by decide +kernel
theorem dX6_leastDuty_37 : decode cX6_leastDuty 37 = .ok (.ldc 21, 2) := by decide +kernel
theorem dX6_leastDuty_39 : decode cX6_leastDuty 39 = .ok (.ireturn, 1) := by decide +kernel
set_option maxRecDepth 20000 in
theorem ggX6_gestureOfCheapest_X6_fill : GoodIn wsX6_gestureOfCheapest wsX6_fill := goodIn_r _ [9, 1, 2, 10, 4, 11, 12, 13, 14, 15, 16, 17, 18, 19, 20, 21, 22, 23, 24, 25, 26, 27, 28, 29, 30, 31, 32, 33, 34, 35, 36, 37, 38, 39, 40, 41, 42, 43, 44, 45, 46, 47, 48, 49, 8, 50, 51, 52, 53, 58, 59, 60, 61, 62, 63, 64, 65, 66, 67, 68, 69, 70, 71] (by decide +kernel) (by decide +kernel)
set_option maxRecDepth 20000 in
theorem gX6_gestureOfCheapest_X6_fill : GoodIn wsX6_gestureOfCheapest (wsV RX6 16 RX6 yX6_fill wsX6_fill) := goodIn_app (goodIn_of _ (by decide +kernel)) ggX6_gestureOfCheapest_X6_fill
set_option maxRecDepth 20000 in
theorem ggX6_gestureOfCheapest_X6_firstOfCheapest : GoodIn wsX6_gestureOfCheapest wsX6_firstOfCheapest := goodIn_r _ [57, 10, 4, 1, 3, 11, 12, 13, 14, 15, 16, 17, 18, 19, 20, 21, 22, 23, 24, 25, 26, 27, 28, 29, 30, 31, 32, 33, 34, 35, 36, 37, 38, 39, 40, 41, 42, 43, 44, 45, 46, 59, 60, 61, 62, 63, 64, 65, 66, 67, 68, 69, 70, 71, 58] (by decide +kernel) (by decide +kernel)
set_option maxRecDepth 20000 in
theorem gX6_gestureOfCheapest_X6_firstOfCheapest : GoodIn wsX6_gestureOfCheapest (wsV RX6 22 RX6 yX6_firstOfCheapest wsX6_firstOfCheapest) := goodIn_app (goodIn_of _ (by decide +kernel)) ggX6_gestureOfCheapest_X6_firstOfCheapest
theorem dX6_gestureOfCheapest_0 : decode cX6_gestureOfCheapest 0 = .ok (.aload_n 0, 1) := by decide +kernel
theorem dX6_gestureOfCheapest_1 : decode cX6_gestureOfCheapest 1 = .ok (.aload_n 1, 1) := by decide +kernel
theorem dX6_gestureOfCheapest_2 : decode cX6_gestureOfCheapest 2 = .ok (.iload_n 2, 1) := by decide +kernel
theorem dX6_gestureOfCheapest_3 : decode cX6_gestureOfCheapest 3 = .ok (.iload_n 3, 1) := by decide +kernel
theorem dX6_gestureOfCheapest_4 : decode cX6_gestureOfCheapest 4 = .ok (.iload 4, 2) := by decide +kernel
theorem dX6_gestureOfCheapest_6 : decode cX6_gestureOfCheapest 6 = .ok (.iload 5, 2) := by decide +kernel
theorem dX6_gestureOfCheapest_8 : decode cX6_gestureOfCheapest 8 = .ok (.invokevirtual 16, 3) := by decide +kernel
theorem dX6_gestureOfCheapest_11 : decode cX6_gestureOfCheapest 11 = .ok (.iload 6, 2) := by decide +kernel
theorem dX6_gestureOfCheapest_13 : decode cX6_gestureOfCheapest 13 = .ok (.iload 4, 2) := by decide +kernel
theorem dX6_gestureOfCheapest_15 : decode cX6_gestureOfCheapest 15 = .ok (.iload_n 3, 1) := by decide +kernel
theorem dX6_gestureOfCheapest_16 : decode cX6_gestureOfCheapest 16 = .ok (.isub, 1) := by decide +kernel
theorem dX6_gestureOfCheapest_17 : decode cX6_gestureOfCheapest 17 = .ok (.if_icmp .gt 17, 3) := by decide +kernel
theorem dX6_gestureOfCheapest_20 : decode cX6_gestureOfCheapest 20 = .ok (.aload_n 0, 1) := by decide +kernel
theorem dX6_gestureOfCheapest_21 : decode cX6_gestureOfCheapest 21 = .ok (.getfield 11, 3) := by decide +kernel
theorem dX6_gestureOfCheapest_24 : decode cX6_gestureOfCheapest 24 = .ok (.iload_n 3, 1) := by decide +kernel
theorem dX6_gestureOfCheapest_25 : decode cX6_gestureOfCheapest 25 = .ok (.aaload, 1) := by decide +kernel
theorem dX6_gestureOfCheapest_26 : decode cX6_gestureOfCheapest 26 = .ok (.iload 5, 2) := by decide +kernel
theorem dX6_gestureOfCheapest_28 : decode cX6_gestureOfCheapest 28 = .ok (.iaload, 1) := by decide +kernel
theorem dX6_gestureOfCheapest_29 : decode cX6_gestureOfCheapest 29 = .ok (.ldc 20, 2) := by decide +kernel
theorem dX6_gestureOfCheapest_31 : decode cX6_gestureOfCheapest 31 = .ok (.if_icmp .lt 6, 3) := by decide +kernel
theorem dX6_gestureOfCheapest_34 : decode cX6_gestureOfCheapest 34 = .ok (.ldc 21, 2) := by decide +kernel
theorem dX6_gestureOfCheapest_36 : decode cX6_gestureOfCheapest 36 = .ok (.ireturn, 1) := by decide +kernel
theorem dX6_gestureOfCheapest_37 : decode cX6_gestureOfCheapest 37 = .ok (.iload 5, 2) := by decide +kernel
theorem dX6_gestureOfCheapest_39 : decode cX6_gestureOfCheapest 39 = .ok (.istore 7, 2) := by decide +kernel
theorem dX6_gestureOfCheapest_41 : decode cX6_gestureOfCheapest 41 = .ok (.ldc 21, 2) := by decide +kernel
theorem dX6_gestureOfCheapest_43 : decode cX6_gestureOfCheapest 43 = .ok (.istore 8, 2) := by decide +kernel
theorem dX6_gestureOfCheapest_45 : decode cX6_gestureOfCheapest 45 = .ok (.iload_n 3, 1) := by decide +kernel
theorem dX6_gestureOfCheapest_46 : decode cX6_gestureOfCheapest 46 = .ok (.istore 9, 2) := by decide +kernel
theorem dX6_gestureOfCheapest_48 : decode cX6_gestureOfCheapest 48 = .ok (.iload 9, 2) := by decide +kernel
theorem dX6_gestureOfCheapest_50 : decode cX6_gestureOfCheapest 50 = .ok (.iload_n 3, 1) := by decide +kernel
theorem dX6_gestureOfCheapest_51 : decode cX6_gestureOfCheapest 51 = .ok (.iload 6, 2) := by decide +kernel
theorem dX6_gestureOfCheapest_53 : decode cX6_gestureOfCheapest 53 = .ok (.iadd, 1) := by decide +kernel
theorem dX6_gestureOfCheapest_54 : decode cX6_gestureOfCheapest 54 = .ok (.if_icmp .gt 43, 3) := by decide +kernel
theorem dX6_gestureOfCheapest_57 : decode cX6_gestureOfCheapest 57 = .ok (.aload_n 0, 1) := by decide +kernel
theorem dX6_gestureOfCheapest_58 : decode cX6_gestureOfCheapest 58 = .ok (.aload_n 1, 1) := by decide +kernel
theorem dX6_gestureOfCheapest_59 : decode cX6_gestureOfCheapest 59 = .ok (.iload_n 2, 1) := by decide +kernel
theorem dX6_gestureOfCheapest_60 : decode cX6_gestureOfCheapest 60 = .ok (.iload 9, 2) := by decide +kernel
theorem dX6_gestureOfCheapest_62 : decode cX6_gestureOfCheapest 62 = .ok (.iload 7, 2) := by decide +kernel
theorem dX6_gestureOfCheapest_64 : decode cX6_gestureOfCheapest 64 = .ok (.invokevirtual 22, 3) := by decide +kernel
theorem dX6_gestureOfCheapest_67 : decode cX6_gestureOfCheapest 67 = .ok (.istore 8, 2) := by decide +kernel
theorem dX6_gestureOfCheapest_69 : decode cX6_gestureOfCheapest 69 = .ok (.iload 8, 2) := by decide +kernel
theorem dX6_gestureOfCheapest_71 : decode cX6_gestureOfCheapest 71 = .ok (.ldc 21, 2) := by decide +kernel
theorem dX6_gestureOfCheapest_73 : decode cX6_gestureOfCheapest 73 = .ok (.if_icmp .ne 6, 3) := by decide +kernel
theorem dX6_gestureOfCheapest_76 : decode cX6_gestureOfCheapest 76 = .ok (.ldc 21, 2) := by decide +kernel
theorem dX6_gestureOfCheapest_78 : decode cX6_gestureOfCheapest 78 = .ok (.ireturn, 1) := by decide +kernel
theorem dX6_gestureOfCheapest_79 : decode cX6_gestureOfCheapest 79 = .ok (.iload 7, 2) := by decide +kernel
theorem dX6_gestureOfCheapest_81 : decode cX6_gestureOfCheapest 81 = .ok (.aload_n 1, 1) := by decide +kernel
theorem dX6_gestureOfCheapest_82 : decode cX6_gestureOfCheapest 82 = .ok (.getfield 26, 3) := by decide +kernel
theorem dX6_gestureOfCheapest_85 : decode cX6_gestureOfCheapest 85 = .ok (.iload 8, 2) := by decide +kernel
theorem dX6_gestureOfCheapest_87 : decode cX6_gestureOfCheapest 87 = .ok (.iaload, 1) := by decide +kernel
theorem dX6_gestureOfCheapest_88 : decode cX6_gestureOfCheapest 88 = .ok (.isub, 1) := by decide +kernel
theorem dX6_gestureOfCheapest_89 : decode cX6_gestureOfCheapest 89 = .ok (.istore 7, 2) := by decide +kernel
theorem dX6_gestureOfCheapest_91 : decode cX6_gestureOfCheapest 91 = .ok (.iinc 9 1, 3) := by decide +kernel
theorem dX6_gestureOfCheapest_94 : decode cX6_gestureOfCheapest 94 = .ok (.goto (-46), 3) := by decide +kernel
theorem dX6_gestureOfCheapest_97 : decode cX6_gestureOfCheapest 97 = .ok (.iload 8, 2) := by decide +kernel
theorem dX6_gestureOfCheapest_99 : decode cX6_gestureOfCheapest 99 = .ok (.ireturn, 1) := by decide +kernel
set_option maxRecDepth 20000 in
theorem ggX6_fill_X2_tells : GoodIn wsX6_fill wsX2_tells := goodIn_r _ [9, 10, 11, 12, 13, 8, 14, 15, 16, 17, 50, 51, 52, 53, 54, 55, 56, 57, 58, 59, 60, 61, 62] (by decide +kernel) (by decide +kernel)
set_option maxRecDepth 20000 in
theorem gX6_fill_X2_tells : GoodIn wsX6_fill (wsV RX6 36 RX2 yX2_tells wsX2_tells) := goodIn_app (goodIn_of _ (by decide +kernel)) ggX6_fill_X2_tells
set_option maxRecDepth 20000 in
theorem ggX6_fill_X2_owes : GoodIn wsX6_fill wsX2_owes := goodIn_r _ [21, 15, 16, 22, 23, 24, 8, 25, 26, 27, 28, 29, 30, 31, 32, 33, 34, 35, 36, 37, 38, 39, 40, 50, 51, 52, 53, 54, 55, 56, 57, 58, 59, 60, 61, 62] (by decide +kernel) (by decide +kernel)
set_option maxRecDepth 20000 in
theorem gX6_fill_X2_owes : GoodIn wsX6_fill (wsV RX6 40 RX2 yX2_owes wsX2_owes) := goodIn_app (goodIn_of _ (by decide +kernel)) ggX6_fill_X2_owes
set_option maxRecDepth 20000 in
theorem ggX6_fill_X6_offer : GoodIn wsX6_fill wsX6_offer := goodIn_r _ [45, 1, 46, 47, 34, 48, 49] (by decide +kernel) (by decide +kernel)
set_option maxRecDepth 20000 in
theorem gX6_fill_X6_offer : GoodIn wsX6_fill (wsV RX6 44 RX6 yX6_offer wsX6_offer) := goodIn_app (goodIn_of _ (by decide +kernel)) ggX6_fill_X6_offer
theorem dX6_fill_0 : decode cX6_fill 0 = .ok (.iconst 0, 1) := by decide +kernel
theorem dX6_fill_1 : decode cX6_fill 1 = .ok (.istore 6, 2) := by decide +kernel
theorem dX6_fill_3 : decode cX6_fill 3 = .ok (.iload 6, 2) := by decide +kernel
theorem dX6_fill_5 : decode cX6_fill 5 = .ok (.iload 5, 2) := by decide +kernel
theorem dX6_fill_7 : decode cX6_fill 7 = .ok (.if_icmp .gt 22, 3) := by decide +kernel
theorem dX6_fill_10 : decode cX6_fill 10 = .ok (.aload_n 0, 1) := by decide +kernel
theorem dX6_fill_11 : decode cX6_fill 11 = .ok (.getfield 11, 3) := by decide +kernel
theorem dX6_fill_14 : decode cX6_fill 14 = .ok (.iload 4, 2) := by decide +kernel
theorem dX6_fill_16 : decode cX6_fill 16 = .ok (.iconst 1, 1) := by decide +kernel
theorem dX6_fill_17 : decode cX6_fill 17 = .ok (.iadd, 1) := by decide +kernel
theorem dX6_fill_18 : decode cX6_fill 18 = .ok (.aaload, 1) := by decide +kernel
theorem dX6_fill_19 : decode cX6_fill 19 = .ok (.iload 6, 2) := by decide +kernel
theorem dX6_fill_21 : decode cX6_fill 21 = .ok (.iconst 0, 1) := by decide +kernel
theorem dX6_fill_22 : decode cX6_fill 22 = .ok (.iastore, 1) := by decide +kernel
theorem dX6_fill_23 : decode cX6_fill 23 = .ok (.iinc 6 1, 3) := by decide +kernel
theorem dX6_fill_26 : decode cX6_fill 26 = .ok (.goto (-23), 3) := by decide +kernel
theorem dX6_fill_29 : decode cX6_fill 29 = .ok (.iload 4, 2) := by decide +kernel
theorem dX6_fill_31 : decode cX6_fill 31 = .ok (.istore 6, 2) := by decide +kernel
theorem dX6_fill_33 : decode cX6_fill 33 = .ok (.iload 6, 2) := by decide +kernel
theorem dX6_fill_35 : decode cX6_fill 35 = .ok (.iload_n 3, 1) := by decide +kernel
theorem dX6_fill_36 : decode cX6_fill 36 = .ok (.if_icmp .lt 90, 3) := by decide +kernel
theorem dX6_fill_39 : decode cX6_fill 39 = .ok (.iconst 0, 1) := by decide +kernel
theorem dX6_fill_40 : decode cX6_fill 40 = .ok (.istore 7, 2) := by decide +kernel
theorem dX6_fill_42 : decode cX6_fill 42 = .ok (.iload 7, 2) := by decide +kernel
theorem dX6_fill_44 : decode cX6_fill 44 = .ok (.iload 5, 2) := by decide +kernel
theorem dX6_fill_46 : decode cX6_fill 46 = .ok (.if_icmp .gt 21, 3) := by decide +kernel
theorem dX6_fill_49 : decode cX6_fill 49 = .ok (.aload_n 0, 1) := by decide +kernel
theorem dX6_fill_50 : decode cX6_fill 50 = .ok (.getfield 11, 3) := by decide +kernel
theorem dX6_fill_53 : decode cX6_fill 53 = .ok (.iload 6, 2) := by decide +kernel
theorem dX6_fill_55 : decode cX6_fill 55 = .ok (.aaload, 1) := by decide +kernel
theorem dX6_fill_56 : decode cX6_fill 56 = .ok (.iload 7, 2) := by decide +kernel
theorem dX6_fill_58 : decode cX6_fill 58 = .ok (.ldc 20, 2) := by decide +kernel
theorem dX6_fill_60 : decode cX6_fill 60 = .ok (.iastore, 1) := by decide +kernel
theorem dX6_fill_61 : decode cX6_fill 61 = .ok (.iinc 7 1, 3) := by decide +kernel
theorem dX6_fill_64 : decode cX6_fill 64 = .ok (.goto (-22), 3) := by decide +kernel
theorem dX6_fill_67 : decode cX6_fill 67 = .ok (.iconst 0, 1) := by decide +kernel
theorem dX6_fill_68 : decode cX6_fill 68 = .ok (.istore 7, 2) := by decide +kernel
theorem dX6_fill_70 : decode cX6_fill 70 = .ok (.iload 7, 2) := by decide +kernel
theorem dX6_fill_72 : decode cX6_fill 72 = .ok (.aload_n 1, 1) := by decide +kernel
theorem dX6_fill_73 : decode cX6_fill 73 = .ok (.getfield 32, 3) := by decide +kernel
theorem dX6_fill_76 : decode cX6_fill 76 = .ok (.if_icmp .ge 44, 3) := by decide +kernel
theorem dX6_fill_79 : decode cX6_fill 79 = .ok (.aload_n 1, 1) := by decide +kernel
theorem dX6_fill_80 : decode cX6_fill 80 = .ok (.iload 7, 2) := by decide +kernel
theorem dX6_fill_82 : decode cX6_fill 82 = .ok (.iload_n 2, 1) := by decide +kernel
theorem dX6_fill_83 : decode cX6_fill 83 = .ok (.iload 6, 2) := by decide +kernel
theorem dX6_fill_85 : decode cX6_fill 85 = .ok (.invokevirtual 36, 3) := by decide +kernel
theorem dX6_fill_88 : decode cX6_fill 88 = .ok (.ifCond .eq 26, 3) := by decide +kernel
theorem dX6_fill_91 : decode cX6_fill 91 = .ok (.aload_n 0, 1) := by decide +kernel
theorem dX6_fill_92 : decode cX6_fill 92 = .ok (.aload_n 1, 1) := by decide +kernel
theorem dX6_fill_93 : decode cX6_fill 93 = .ok (.iload 7, 2) := by decide +kernel
theorem dX6_fill_95 : decode cX6_fill 95 = .ok (.iload 6, 2) := by decide +kernel
theorem dX6_fill_97 : decode cX6_fill 97 = .ok (.invokevirtual 40, 3) := by decide +kernel
theorem dX6_fill_100 : decode cX6_fill 100 = .ok (.aload_n 1, 1) := by decide +kernel
theorem dX6_fill_101 : decode cX6_fill 101 = .ok (.getfield 26, 3) := by decide +kernel
theorem dX6_fill_104 : decode cX6_fill 104 = .ok (.iload 7, 2) := by decide +kernel
theorem dX6_fill_106 : decode cX6_fill 106 = .ok (.iaload, 1) := by decide +kernel
theorem dX6_fill_107 : decode cX6_fill 107 = .ok (.iload 6, 2) := by decide +kernel
theorem dX6_fill_109 : decode cX6_fill 109 = .ok (.iload 5, 2) := by decide +kernel
theorem dX6_fill_111 : decode cX6_fill 111 = .ok (.invokevirtual 44, 3) := by decide +kernel
theorem dX6_fill_114 : decode cX6_fill 114 = .ok (.iinc 7 1, 3) := by decide +kernel
theorem dX6_fill_117 : decode cX6_fill 117 = .ok (.goto (-47), 3) := by decide +kernel
theorem dX6_fill_120 : decode cX6_fill 120 = .ok (.iinc 6 (-1), 3) := by decide +kernel
theorem dX6_fill_123 : decode cX6_fill 123 = .ok (.goto (-90), 3) := by decide +kernel
theorem dX6_fill_126 : decode cX6_fill 126 = .ok (.return_, 1) := by decide +kernel
theorem dX6_offer_0 : decode cX6_offer 0 = .ok (.iload_n 2, 1) := by decide +kernel
theorem dX6_offer_1 : decode cX6_offer 1 = .ok (.istore 5, 2) := by decide +kernel
theorem dX6_offer_3 : decode cX6_offer 3 = .ok (.iload 5, 2) := by decide +kernel
theorem dX6_offer_5 : decode cX6_offer 5 = .ok (.iload 4, 2) := by decide +kernel
theorem dX6_offer_7 : decode cX6_offer 7 = .ok (.if_icmp .gt 45, 3) := by decide +kernel
theorem dX6_offer_10 : decode cX6_offer 10 = .ok (.aload_n 0, 1) := by decide +kernel
theorem dX6_offer_11 : decode cX6_offer 11 = .ok (.getfield 11, 3) := by decide +kernel
theorem dX6_offer_14 : decode cX6_offer 14 = .ok (.iload_n 3, 1) := by decide +kernel
theorem dX6_offer_15 : decode cX6_offer 15 = .ok (.aaload, 1) := by decide +kernel
theorem dX6_offer_16 : decode cX6_offer 16 = .ok (.iload 5, 2) := by decide +kernel
theorem dX6_offer_18 : decode cX6_offer 18 = .ok (.aload_n 0, 1) := by decide +kernel
theorem dX6_offer_19 : decode cX6_offer 19 = .ok (.getfield 11, 3) := by decide +kernel
theorem dX6_offer_22 : decode cX6_offer 22 = .ok (.iload_n 3, 1) := by decide +kernel
theorem dX6_offer_23 : decode cX6_offer 23 = .ok (.aaload, 1) := by decide +kernel
theorem dX6_offer_24 : decode cX6_offer 24 = .ok (.iload 5, 2) := by decide +kernel
theorem dX6_offer_26 : decode cX6_offer 26 = .ok (.iaload, 1) := by decide +kernel
theorem dX6_offer_27 : decode cX6_offer 27 = .ok (.iload_n 1, 1) := by decide +kernel
theorem dX6_offer_28 : decode cX6_offer 28 = .ok (.aload_n 0, 1) := by decide +kernel
theorem dX6_offer_29 : decode cX6_offer 29 = .ok (.getfield 11, 3) := by decide +kernel
theorem dX6_offer_32 : decode cX6_offer 32 = .ok (.iload_n 3, 1) := by decide +kernel
theorem dX6_offer_33 : decode cX6_offer 33 = .ok (.iconst 1, 1) := by decide +kernel
theorem dX6_offer_34 : decode cX6_offer 34 = .ok (.iadd, 1) := by decide +kernel
theorem dX6_offer_35 : decode cX6_offer 35 = .ok (.aaload, 1) := by decide +kernel
theorem dX6_offer_36 : decode cX6_offer 36 = .ok (.iload 5, 2) := by decide +kernel
theorem dX6_offer_38 : decode cX6_offer 38 = .ok (.iload_n 2, 1) := by decide +kernel
theorem dX6_offer_39 : decode cX6_offer 39 = .ok (.isub, 1) := by decide +kernel
theorem dX6_offer_40 : decode cX6_offer 40 = .ok (.iaload, 1) := by decide +kernel
theorem dX6_offer_41 : decode cX6_offer 41 = .ok (.iadd, 1) := by decide +kernel
theorem dX6_offer_42 : decode cX6_offer 42 = .ok (.invokestatic 48, 3) := by decide +kernel
theorem dX6_offer_45 : decode cX6_offer 45 = .ok (.iastore, 1) := by decide +kernel
theorem dX6_offer_46 : decode cX6_offer 46 = .ok (.iinc 5 1, 3) := by decide +kernel
theorem dX6_offer_49 : decode cX6_offer 49 = .ok (.goto (-46), 3) := by decide +kernel
theorem dX6_offer_52 : decode cX6_offer 52 = .ok (.return_, 1) := by decide +kernel
set_option maxRecDepth 20000 in
theorem ggX6_firstOfCheapest_X2_tells : GoodIn wsX6_firstOfCheapest wsX2_tells := goodIn_r _ [9, 10, 11, 12, 13, 8, 14, 15, 16, 17, 41, 42, 43, 44, 45, 46, 47, 48, 49, 50, 51, 52, 53] (by decide +kernel) (by decide +kernel)
set_option maxRecDepth 20000 in
theorem gX6_firstOfCheapest_X2_tells : GoodIn wsX6_firstOfCheapest (wsV RX6 36 RX2 yX2_tells wsX2_tells) := goodIn_app (goodIn_of _ (by decide +kernel)) ggX6_firstOfCheapest_X2_tells
set_option maxRecDepth 20000 in
theorem ggX6_firstOfCheapest_X2_owes : GoodIn wsX6_firstOfCheapest wsX2_owes := goodIn_r _ [21, 15, 16, 22, 23, 24, 8, 25, 26, 27, 28, 29, 30, 31, 32, 33, 34, 35, 36, 37, 38, 39, 40, 41, 42, 43, 44, 45, 46, 47, 48, 49, 50, 51, 52, 53] (by decide +kernel) (by decide +kernel)
set_option maxRecDepth 20000 in
theorem gX6_firstOfCheapest_X2_owes : GoodIn wsX6_firstOfCheapest (wsV RX6 40 RX2 yX2_owes wsX2_owes) := goodIn_app (goodIn_of _ (by decide +kernel)) ggX6_firstOfCheapest_X2_owes
theorem dX6_firstOfCheapest_0 : decode cX6_firstOfCheapest 0 = .ok (.iconst 0, 1) := by decide +kernel
theorem dX6_firstOfCheapest_1 : decode cX6_firstOfCheapest 1 = .ok (.istore 5, 2) := by decide +kernel
theorem dX6_firstOfCheapest_3 : decode cX6_firstOfCheapest 3 = .ok (.iload 5, 2) := by decide +kernel
theorem dX6_firstOfCheapest_5 : decode cX6_firstOfCheapest 5 = .ok (.aload_n 1, 1) := by decide +kernel
theorem dX6_firstOfCheapest_6 : decode cX6_firstOfCheapest 6 = .ok (.getfield 32, 3) := by decide +kernel
theorem dX6_firstOfCheapest_9 : decode cX6_firstOfCheapest 9 = .ok (.if_icmp .ge 71, 3) := by decide +kernel
theorem dX6_firstOfCheapest_12 : decode cX6_firstOfCheapest 12 = .ok (.iload 4, 2) := by decide +kernel
theorem dX6_firstOfCheapest_14 : decode cX6_firstOfCheapest 14 = .ok (.aload_n 1, 1) := by decide +kernel
theorem dX6_firstOfCheapest_15 : decode cX6_firstOfCheapest 15 = .ok (.getfield 26, 3) := by decide +kernel
theorem dX6_firstOfCheapest_18 : decode cX6_firstOfCheapest 18 = .ok (.iload 5, 2) := by decide +kernel
theorem dX6_firstOfCheapest_20 : decode cX6_firstOfCheapest 20 = .ok (.iaload, 1) := by decide +kernel
theorem dX6_firstOfCheapest_21 : decode cX6_firstOfCheapest 21 = .ok (.isub, 1) := by decide +kernel
theorem dX6_firstOfCheapest_22 : decode cX6_firstOfCheapest 22 = .ok (.istore 6, 2) := by decide +kernel
theorem dX6_firstOfCheapest_24 : decode cX6_firstOfCheapest 24 = .ok (.iload 6, 2) := by decide +kernel
theorem dX6_firstOfCheapest_26 : decode cX6_firstOfCheapest 26 = .ok (.ifCond .lt 48, 3) := by decide +kernel
theorem dX6_firstOfCheapest_29 : decode cX6_firstOfCheapest 29 = .ok (.aload_n 1, 1) := by decide +kernel
theorem dX6_firstOfCheapest_30 : decode cX6_firstOfCheapest 30 = .ok (.iload 5, 2) := by decide +kernel
theorem dX6_firstOfCheapest_32 : decode cX6_firstOfCheapest 32 = .ok (.iload_n 2, 1) := by decide +kernel
theorem dX6_firstOfCheapest_33 : decode cX6_firstOfCheapest 33 = .ok (.iload_n 3, 1) := by decide +kernel
theorem dX6_firstOfCheapest_34 : decode cX6_firstOfCheapest 34 = .ok (.invokevirtual 36, 3) := by decide +kernel
theorem dX6_firstOfCheapest_37 : decode cX6_firstOfCheapest 37 = .ok (.ifCond .eq 37, 3) := by decide +kernel
theorem dX6_firstOfCheapest_40 : decode cX6_firstOfCheapest 40 = .ok (.aload_n 1, 1) := by decide +kernel
theorem dX6_firstOfCheapest_41 : decode cX6_firstOfCheapest 41 = .ok (.iload 5, 2) := by decide +kernel
theorem dX6_firstOfCheapest_43 : decode cX6_firstOfCheapest 43 = .ok (.iload_n 3, 1) := by decide +kernel
theorem dX6_firstOfCheapest_44 : decode cX6_firstOfCheapest 44 = .ok (.invokevirtual 40, 3) := by decide +kernel
theorem dX6_firstOfCheapest_47 : decode cX6_firstOfCheapest 47 = .ok (.aload_n 0, 1) := by decide +kernel
theorem dX6_firstOfCheapest_48 : decode cX6_firstOfCheapest 48 = .ok (.getfield 11, 3) := by decide +kernel
theorem dX6_firstOfCheapest_51 : decode cX6_firstOfCheapest 51 = .ok (.iload_n 3, 1) := by decide +kernel
theorem dX6_firstOfCheapest_52 : decode cX6_firstOfCheapest 52 = .ok (.iconst 1, 1) := by decide +kernel
theorem dX6_firstOfCheapest_53 : decode cX6_firstOfCheapest 53 = .ok (.iadd, 1) := by decide +kernel
theorem dX6_firstOfCheapest_54 : decode cX6_firstOfCheapest 54 = .ok (.aaload, 1) := by decide +kernel
theorem dX6_firstOfCheapest_55 : decode cX6_firstOfCheapest 55 = .ok (.iload 6, 2) := by decide +kernel
theorem dX6_firstOfCheapest_57 : decode cX6_firstOfCheapest 57 = .ok (.iaload, 1) := by decide +kernel
theorem dX6_firstOfCheapest_58 : decode cX6_firstOfCheapest 58 = .ok (.iadd, 1) := by decide +kernel
theorem dX6_firstOfCheapest_59 : decode cX6_firstOfCheapest 59 = .ok (.aload_n 0, 1) := by decide +kernel
theorem dX6_firstOfCheapest_60 : decode cX6_firstOfCheapest 60 = .ok (.getfield 11, 3) := by decide +kernel
theorem dX6_firstOfCheapest_63 : decode cX6_firstOfCheapest 63 = .ok (.iload_n 3, 1) := by decide +kernel
theorem dX6_firstOfCheapest_64 : decode cX6_firstOfCheapest 64 = .ok (.aaload, 1) := by decide +kernel
theorem dX6_firstOfCheapest_65 : decode cX6_firstOfCheapest 65 = .ok (.iload 4, 2) := by decide +kernel
theorem dX6_firstOfCheapest_67 : decode cX6_firstOfCheapest 67 = .ok (.iaload, 1) := by decide +kernel
theorem dX6_firstOfCheapest_68 : decode cX6_firstOfCheapest 68 = .ok (.if_icmp .ne 6, 3) := by decide +kernel
theorem dX6_firstOfCheapest_71 : decode cX6_firstOfCheapest 71 = .ok (.iload 5, 2) := by decide +kernel
theorem dX6_firstOfCheapest_73 : decode cX6_firstOfCheapest 73 = .ok (.ireturn, 1) := by decide +kernel
theorem dX6_firstOfCheapest_74 : decode cX6_firstOfCheapest 74 = .ok (.iinc 5 1, 3) := by decide +kernel
theorem dX6_firstOfCheapest_77 : decode cX6_firstOfCheapest 77 = .ok (.goto (-74), 3) := by decide +kernel
theorem dX6_firstOfCheapest_80 : decode cX6_firstOfCheapest 80 = .ok (.ldc 21, 2) := by decide +kernel
theorem dX6_firstOfCheapest_82 : decode cX6_firstOfCheapest 82 = .ok (.ireturn, 1) := by decide +kernel
set_option maxRecDepth 20000 in
theorem ggX7_init_X5_init : GoodIn wsX7_init wsX5_init := goodIn_r _ [32, 33, 2, 3, 34, 35, 36, 37, 38, 82, 83, 84] (by decide +kernel) (by decide +kernel)
set_option maxRecDepth 20000 in
theorem gX7_init_X5_init_n9 : GoodIn wsX7_init (wsX5_init) := ggX7_init_X5_init
set_option maxRecDepth 20000 in
theorem ggX7_init_X4_init : GoodIn wsX7_init wsX4_init := goodIn_r _ [40, 41, 2, 3, 35, 42, 43, 44, 45, 46, 47, 94, 95, 96, 97, 98, 99] (by decide +kernel) (by decide +kernel)
set_option maxRecDepth 20000 in
theorem gX7_init_X4_init_n18 : GoodIn wsX7_init (wsX4_init) := ggX7_init_X4_init
set_option maxRecDepth 20000 in
theorem ggX7_init_X2_init : GoodIn wsX7_init wsX2_init := goodIn_r _ [49, 50, 2, 3, 51, 52, 53, 54, 55, 56, 35, 57, 58, 59, 60, 61, 62, 63, 100, 101, 102, 103, 104, 105, 106, 107, 108, 109, 110, 111, 112] (by decide +kernel) (by decide +kernel)
set_option maxRecDepth 20000 in
theorem gX7_init_X2_init_n25 : GoodIn wsX7_init (wsX2_init) := ggX7_init_X2_init
set_option maxRecDepth 20000 in
theorem ggX7_init_X0_init : GoodIn wsX7_init wsX0_init := goodIn_r _ [65, 66, 2, 3, 35, 67, 68, 69, 70, 71, 113, 114, 115, 116, 117] (by decide +kernel) (by decide +kernel)
set_option maxRecDepth 20000 in
theorem gX7_init_X0_init_n39 : GoodIn wsX7_init (wsX0_init) := ggX7_init_X0_init
set_option maxRecDepth 20000 in
theorem ggX7_init_X6_init : GoodIn wsX7_init wsX6_init := goodIn_r _ [73, 74, 2, 3, 75, 35, 76, 118] (by decide +kernel) (by decide +kernel)
set_option maxRecDepth 20000 in
theorem gX7_init_X6_init_n46 : GoodIn wsX7_init (wsX6_init) := ggX7_init_X6_init
set_option maxRecDepth 20000 in
theorem ggX7_init_X1_init : GoodIn wsX7_init wsX1_init := goodIn_r _ [78, 79, 2, 3, 35, 80, 81, 119, 120] (by decide +kernel) (by decide +kernel)
set_option maxRecDepth 20000 in
theorem gX7_init_X1_init_n53 : GoodIn wsX7_init (wsX1_init) := ggX7_init_X1_init
end
section
/-! ===== by program out of the bytecode: what each method computes; none where the machine would throw or a loop not end in time ===== -/
def fX1_leave (a1 : Int32) (σ : x_S) : Option x_S :=
  if 16 ≤ (σ 30 1) then (some σ) else (x_g (x_in (σ 30 1) 16) (x_w (x_u σ 31 (σ 30 1).toNatClampNeg a1) (fun σ3 => x_w (x_u σ3 30 1 ((σ3 30 1) + 1)) (fun σ5 => some σ5))))
def fX5_isRow (a0 : Int32) (σ : x_S) : Option Int32 :=
  if a0 < 0 then (some 0) else (if 8 ≤ a0 then (some 0) else (some 1))
def fX7_isWithin (a0 : Int32) (a1 : Int32) (a2 : Int32) (σ : x_S) : Option Int32 :=
  if a0 < a1 then (some 0) else (if a2 < a0 then (some 0) else (some 1))
def fX7_found (a1 : Int32) (σ : x_S) : Option (Int32 × x_S) :=
  x_w (x_u σ 0 8 a1) (fun σ1 => some (((-1000010) - a1), σ1))
def gX5_lay_17 (x1 : Int32) (K17 : Int32 → x_S → Option x_S) (x4 : Int32) (σ : x_S) : Option x_S :=
  if 40 ≤ x4 then (some σ) else (x_g (x_in x1 8) (x_g (x_in x4 40) (x_w (x_u σ (3 + x1.toNatClampNeg) x4.toNatClampNeg 0) (fun σ4 => K17 (x4 + 1) σ4))))
def bX5_lay_17 (x1 : Int32) (x4 : Int32) (σ : x_S) : Option x_S :=
  x_fx (α := Int32 → x_S → Option x_S) (fun _ _ => none) (fun K => fun x4 σ => gX5_lay_17  x1 K x4 σ) x_F x4 σ
def fX5_lay (a1 : Int32) (a2 : Int32) (a3 : Int32) (σ : x_S) : Option x_S :=
  x_g (x_in a1 8) (x_w (x_u σ 11 a1.toNatClampNeg a3) (fun σ2 => x_g (x_in a1 8) (x_w (x_u σ2 12 a1.toNatClampNeg a2) (fun σ5 => bX5_lay_17 a1 0 σ5))))
def fX7_foundNothing (a1 : Int32) (σ : x_S) : Option (Int32 × x_S) :=
  x_w (x_u σ 0 8 0) (fun σ1 => some (a1, σ1))
def fX7_row (a1 : Int32) (a2 : Int32) (a3 : Int32) (σ : x_S) : Option (Int32 × x_S) :=
  x_p (fX5_isRow a1 σ) (fun r2 => if r2 = 0 then (some ((-1000001), σ)) else (x_p (fX7_isWithin a2 0 2 σ) (fun r5 => if r5 = 0 then (some ((-1000001), σ)) else (if a3 ≤ 40 then (if 0 ≤ a3 then (x_v (fX5_lay a1 a2 a3 σ) (fun σ10 => x_b (fX7_foundNothing a3 σ10) (fun r12 σ13 => some (r12, σ13)))) else (x_b (fX7_found 4 σ) (fun r15 σ16 => some (r15, σ16)))) else (some ((-1000001), σ))))))
def fX5_isMissing (a1 : Int32) (σ : x_S) : Option Int32 :=
  x_g (x_in a1 8) (if (σ 11 a1.toNatClampNeg) = (-1) then (some 1) else (some 0))
def fX5_reaches (a1 : Int32) (a2 : Int32) (a3 : Int32) (σ : x_S) : Option Int32 :=
  if a2 < 0 then (some 0) else (if a3 < 0 then (some 0) else (x_g (x_in a1 8) (if (σ 11 a1.toNatClampNeg) < a3 then (some 0) else (x_g (x_in a1 8) (if ((σ 11 a1.toNatClampNeg) - a3) < a2 then (some 0) else (some 1))))))
def fX5_findingOf (a1 : Int32) (a2 : Int32) (a3 : Int32) (σ : x_S) : Option Int32 :=
  x_p (fX5_isMissing a1 σ) (fun r2 => if r2 = 0 then (x_p (fX5_reaches a1 a2 a3 σ) (fun r5 => if r5 = 0 then (some 2) else (some 0))) else (some 1))
def fX5_lowestBits (a0 : Int32) (a1 : Int32) (σ : x_S) : Option Int32 :=
  if a1 = 0 then (some a0.toInt8.toInt32) else (if a1 = 1 then (some a0.toInt16.toInt32) else (some a0))
def fX5_put (a1 : Int32) (a2 : Int32) (a3 : Int32) (σ : x_S) : Option (Int32 × x_S) :=
  x_g (x_in a1 8) (x_g (x_in a1 8) (x_p (fX5_lowestBits a3 (σ 12 a1.toNatClampNeg) σ) (fun r4 => x_g (x_in a2 40) (x_w (x_u σ (3 + a1.toNatClampNeg) a2.toNatClampNeg r4) (fun σ6 => x_g (x_in a1 8) (x_g (x_in a2 40) (some ((σ6 (3 + a1.toNatClampNeg) a2.toNatClampNeg), σ6))))))))
def fX7_set (a1 : Int32) (a2 : Int32) (a3 : Int32) (σ : x_S) : Option (Int32 × x_S) :=
  x_p (fX5_isRow a1 σ) (fun r2 => if r2 = 0 then (some ((-1000001), σ)) else (x_p (fX5_findingOf a1 a2 1 σ) (fun r5 => if r5 = 0 then (x_b (fX5_put a1 a2 a3 σ) (fun r8 σ9 => x_b (fX7_foundNothing r8 σ9) (fun r11 σ12 => some (r11, σ12)))) else (x_b (fX7_found r5 σ) (fun r14 σ15 => some (r14, σ15))))))
def fX5_areAlike (a1 : Int32) (a2 : Int32) (σ : x_S) : Option Int32 :=
  x_g (x_in a1 8) (x_g (x_in a2 8) (if (σ 12 a1.toNatClampNeg) = (σ 12 a2.toNatClampNeg) then (some 1) else (some 0)))
def fX5_carry (a1 : Int32) (a2 : Int32) (a3 : Int32) (a4 : Int32) (a5 : Int32) (σ : x_S) : Option x_S :=
  x_g (x_in a1 8) (x_g (x_in a3 8) (x_g (¬ a2 < 0 ∧ ¬ a4 < 0 ∧ ¬ a5 < 0 ∧ a2.toNatClampNeg + a5.toNatClampNeg ≤ 40 ∧ a4.toNatClampNeg + a5.toNatClampNeg ≤ 40) (x_w (x_r σ (3 + a3.toNatClampNeg) (va_cpy (σ (3 + a1.toNatClampNeg)) (σ (3 + a3.toNatClampNeg)) a2.toNatClampNeg a4.toNatClampNeg a5.toNatClampNeg)) (fun σ4 => some σ4))))
def bX7_copy_39 (σ : x_S) : Option (Int32 × x_S) :=
  x_b (fX7_found 1 σ) (fun r2 σ3 => some (r2, σ3))
def bX7_copy_92 (σ : x_S) : Option (Int32 × x_S) :=
  x_b (fX7_found 2 σ) (fun r2 σ3 => some (r2, σ3))
def fX7_copy (a1 : Int32) (a2 : Int32) (a3 : Int32) (a4 : Int32) (a5 : Int32) (σ : x_S) : Option (Int32 × x_S) :=
  x_p (fX5_isRow a1 σ) (fun r2 => if r2 = 0 then (some ((-1000001), σ)) else (x_p (fX5_isRow a3 σ) (fun r5 => if r5 = 0 then (some ((-1000001), σ)) else (x_p (fX5_isMissing a1 σ) (fun r8 => if r8 = 0 then (x_p (fX5_isMissing a3 σ) (fun r11 => if r11 = 0 then (x_p (fX5_areAlike a1 a3 σ) (fun r14 => if r14 = 0 then (x_b (fX7_found 5 σ) (fun r28 σ29 => some (r28, σ29))) else (x_p (fX5_reaches a1 a2 a5 σ) (fun r17 => if r17 = 0 then (bX7_copy_92 σ) else (x_p (fX5_reaches a3 a4 a5 σ) (fun r20 => if r20 = 0 then (bX7_copy_92 σ) else (x_v (fX5_carry a1 a2 a3 a4 a5 σ) (fun σ23 => x_b (fX7_foundNothing a5 σ23) (fun r25 σ26 => some (r25, σ26)))))))))) else (bX7_copy_39 σ))) else (bX7_copy_39 σ))))))
def fX5_takeAway (a1 : Int32) (σ : x_S) : Option (Int32 × x_S) :=
  x_g (x_in a1 8) (x_g (x_in a1 8) (x_w (x_u σ 11 a1.toNatClampNeg (-1)) (fun σ3 => some ((σ 11 a1.toNatClampNeg), σ3))))
def fX7_drop (a1 : Int32) (σ : x_S) : Option (Int32 × x_S) :=
  x_p (fX5_isRow a1 σ) (fun r2 => if r2 = 0 then (some ((-1000001), σ)) else (x_p (fX5_isMissing a1 σ) (fun r5 => if r5 = 0 then (x_b (fX5_takeAway a1 σ) (fun r8 σ9 => x_b (fX7_foundNothing r8 σ9) (fun r11 σ12 => some (r11, σ12)))) else (x_b (fX7_found 1 σ) (fun r14 σ15 => some (r14, σ15))))))
def fX4_isFull (σ : x_S) : Option Int32 :=
  if (σ 13 1) < 120 then (some 0) else (some 1)
def fX4_append (a1 : Int32) (σ : x_S) : Option (Int32 × x_S) :=
  x_p (fX4_isFull σ) (fun r2 => if r2 = 0 then (x_g (x_in (σ 13 1) 120) (x_w (x_u σ 14 (σ 13 1).toNatClampNeg a1) (fun σ5 => x_w (x_u σ5 13 1 ((σ5 13 1) + 1)) (fun σ7 => some ((σ7 13 1), σ7))))) else (some ((σ 13 1), σ)))
def fX7_feed (a1 : Int32) (σ : x_S) : Option (Int32 × x_S) :=
  x_p (fX7_isWithin a1 0 255 σ) (fun r2 => if r2 = 0 then (some ((-1000001), σ)) else (x_p (fX4_isFull σ) (fun r5 => if r5 = 0 then (x_b (fX4_append a1 σ) (fun r8 σ9 => some (r8, σ9))) else (some ((-1000003), σ)))))
def fX4_next (σ : x_S) : Option Int32 :=
  if (σ 13 5) < 0 then (some (-1)) else (if (σ 13 1) ≤ (σ 13 5) then (some (-1)) else (if 120 ≤ (σ 13 5) then (some (-1)) else (x_g (x_in (σ 13 5) 120) (some (σ 14 (σ 13 5).toNatClampNeg)))))
def fX4_failAt (a1 : Int32) (a2 : Int32) (σ : x_S) : Option x_S :=
  if (σ 13 4) = 0 then (x_w (x_u σ 13 4 a2) (fun σ2 => x_w (x_u σ2 13 2 a2) (fun σ4 => x_w (x_u σ4 13 3 a1) (fun σ6 => some σ6)))) else (some σ)
def fX4_fail (a1 : Int32) (σ : x_S) : Option x_S :=
  x_v (fX4_failAt (σ 13 5) a1 σ) (fun σ2 => some σ2)
def bX4_readSign_13 (σ : x_S) : Option x_S :=
  x_w (x_u σ 13 5 ((σ 13 5) + 1)) (fun σ1 => some σ1)
def fX4_readSign (a1 : Int32) (σ : x_S) : Option x_S :=
  x_p (fX4_next σ) (fun r2 => if r2 = a1 then (bX4_readSign_13 σ) else (x_v (fX4_fail 1 σ) (fun σ5 => bX4_readSign_13 σ5)))
def bX4_readNumber_88 (x4 : Int32) (x5 : Int32) (σ : x_S) : Option (Int32 × x_S) :=
  x_v (fX4_failAt x5 1 σ) (fun σ2 => some (x4, σ2))
def bX4_readNumber_79 (x1 : Int32) (x2 : Int32) (x3 : Int32) (x4 : Int32) (x5 : Int32) (σ : x_S) : Option (Int32 × x_S) :=
  if x3 = 0 then (bX4_readNumber_88 x4 x5 σ) else (if x3 ≤ 2 then (x_p (fX7_isWithin x4 x1 x2 σ) (fun r4 => if r4 = 0 then (x_v (fX4_failAt x5 2 σ) (fun σ7 => some (x4, σ7))) else (some (x4, σ)))) else (bX4_readNumber_88 x4 x5 σ))
def bX4_readNumber_58 (K14 : Int32 → Int32 → Int32 → x_S → Option (Int32 × x_S)) (x1 : Int32) (x2 : Int32) (x3 : Int32) (x5 : Int32) (x6 : Int32) (y0 : Int32) (σ : x_S) : Option (Int32 × x_S) :=
  x_w (x_u σ 13 5 ((σ 13 5) + 1)) (fun σ1 => K14 (x3 + 1) y0 (x6 + 1) σ1)
def gX4_readNumber_14 (x1 : Int32) (x2 : Int32) (x5 : Int32) (K14 : Int32 → Int32 → Int32 → x_S → Option (Int32 × x_S)) (x3 : Int32) (x4 : Int32) (x6 : Int32) (σ : x_S) : Option (Int32 × x_S) :=
  if 120 ≤ x6 then (bX4_readNumber_79 x1 x2 x3 x4 x5 σ) else (x_p (fX4_next σ) (fun r3 => x_p (fX7_isWithin r3 48 57 σ) (fun r5 => if r5 = 0 then (bX4_readNumber_79 x1 x2 x3 x4 x5 σ) else (if 2 ≤ x3 then (bX4_readNumber_58 K14 x1 x2 x3 x5 x6 x4 σ) else (x_p (fX4_next σ) (fun r9 => bX4_readNumber_58 K14 x1 x2 x3 x5 x6 (((x4 * 10) + r9) - 48) σ))))))
def bX4_readNumber_14 (x1 : Int32) (x2 : Int32) (x5 : Int32) (x3 : Int32) (x4 : Int32) (x6 : Int32) (σ : x_S) : Option (Int32 × x_S) :=
  x_fx (α := Int32 → Int32 → Int32 → x_S → Option (Int32 × x_S)) (fun _ _ _ _ => none) (fun K => fun x3 x4 x6 σ => gX4_readNumber_14  x1 x2 x5 K x3 x4 x6 σ) x_F x3 x4 x6 σ
def fX4_readNumber (a1 : Int32) (a2 : Int32) (σ : x_S) : Option (Int32 × x_S) :=
  bX4_readNumber_14 a1 a2 (σ 13 5) 0 0 0 σ
def fX2_begin (c0 : Nat) (a1 : Int32) (σ : x_S) : Option x_S :=
  x_w (x_u σ c0 0 1) (fun σ1 => x_w (x_u σ1 c0 1 a1) (fun σ3 => x_w (x_u σ3 c0 2 0) (fun σ5 => x_w (x_u σ5 c0 3 0) (fun σ7 => x_w (x_u σ7 c0 4 0) (fun σ9 => x_w (x_u σ9 c0 5 0) (fun σ11 => some σ11))))))
def fX4_readLaw (c1 : Nat) (σ : x_S) : Option x_S :=
  x_v (fX4_readSign 100 σ) (fun σ2 => x_b (fX4_readNumber 1 9 σ2) (fun r4 σ5 => x_v (fX2_begin c1 r4 σ5) (fun σ7 => x_v (fX4_readSign 59 σ7) (fun σ9 => some σ9))))
def fX4_readStreet (c1 : Nat) (σ : x_S) : Option x_S :=
  if (σ c1 3) < 7 then (x_v (fX4_readSign 114 σ) (fun σ3 => x_b (fX4_readNumber 0 30 σ3) (fun r5 σ6 => x_g (x_in (σ c1 3) 7) (x_w (x_u σ6 (c1 + 1) (σ c1 3).toNatClampNeg r5) (fun σ8 => x_v (fX4_readSign 44 σ8) (fun σ11 => x_b (fX4_readNumber 0 9 σ11) (fun r13 σ14 => x_g (x_in (σ c1 3) 7) (x_w (x_u σ14 (c1 + 2) (σ c1 3).toNatClampNeg r13) (fun σ16 => x_v (fX4_readSign 59 σ16) (fun σ19 => x_w (x_u σ19 c1 3 ((σ19 c1 3) + 1)) (fun σ20 => some σ20))))))))))) else (x_v (fX4_fail 3 σ) (fun σ23 => some σ23))
def fX3_ofLetter (a0 : Int32) (σ : x_S) : Option Int32 :=
  if a0 = 98 then (some 3) else (if a0 = 107 then (some 4) else (if a0 = 110 then (some 2) else (if a0 = 115 then (some 5) else (if a0 = 119 then (some 1) else (some 0)))))
def fX4_readGesture (c1 : Nat) (σ : x_S) : Option x_S :=
  if (σ c1 5) < 6 then (x_p (fX4_next σ) (fun r3 => x_p (fX3_ofLetter r3 σ) (fun r5 => x_g (x_in (σ c1 5) 6) (x_w (x_u σ (c1 + 3) (σ c1 5).toNatClampNeg r5) (fun σ7 => x_w (x_u σ7 13 5 ((σ7 13 5) + 1)) (fun σ9 => x_b (fX4_readNumber 1 30 σ9) (fun r12 σ13 => x_g (x_in (σ c1 5) 6) (x_w (x_u σ13 (c1 + 4) (σ c1 5).toNatClampNeg r12) (fun σ15 => x_v (fX4_readSign 44 σ15) (fun σ18 => x_b (fX4_readNumber 0 3 σ18) (fun r20 σ21 => x_g (x_in (σ c1 5) 6) (x_w (x_u σ21 (c1 + 5) (σ c1 5).toNatClampNeg r20) (fun σ23 => x_v (fX4_readSign 44 σ23) (fun σ26 => x_b (fX4_readNumber 1 9 σ26) (fun r28 σ29 => x_g (x_in (σ c1 5) 6) (x_w (x_u σ29 (c1 + 6) (σ c1 5).toNatClampNeg r28) (fun σ31 => x_v (fX4_readSign 59 σ31) (fun σ34 => x_g (x_in (σ c1 5) 6) (x_w (x_u σ34 (c1 + 7) (σ c1 5).toNatClampNeg 0) (fun σ36 => x_w (x_u σ36 c1 5 ((σ36 c1 5) + 1)) (fun σ38 => some σ38))))))))))))))))))))) else (x_v (fX4_fail 3 σ) (fun σ41 => some σ41))
def bX4_reads_102 (σ : x_S) : Option (Int32 × x_S) :=
  x_w (x_u σ 13 1 0) (fun σ1 => if (σ1 13 4) = 0 then (some (1, σ1)) else (some (0, σ1)))
def bX4_reads_86 (σ : x_S) : Option (Int32 × x_S) :=
  if (σ 13 1) ≤ (σ 13 5) then (bX4_reads_102 σ) else (x_v (fX4_fail 1 σ) (fun σ3 => bX4_reads_102 σ3))
def gX4_reads_52 (c1 : Nat) (K52 : Int32 → x_S → Option (Int32 × x_S)) (x2 : Int32) (σ : x_S) : Option (Int32 × x_S) :=
  if 120 ≤ x2 then (bX4_reads_86 σ) else (if (σ 13 4) = 0 then (x_p (fX4_next σ) (fun r4 => x_p (fX3_ofLetter r4 σ) (fun r6 => if r6 = 0 then (bX4_reads_86 σ) else (x_v (fX4_readGesture c1 σ) (fun σ9 => K52 (x2 + 1) σ9))))) else (bX4_reads_86 σ))
def bX4_reads_52 (c1 : Nat) (x2 : Int32) (σ : x_S) : Option (Int32 × x_S) :=
  x_fx (α := Int32 → x_S → Option (Int32 × x_S)) (fun _ _ => none) (fun K => fun x2 σ => gX4_reads_52  c1 K x2 σ) x_F x2 σ
def gX4_reads_17 (c1 : Nat) (K17 : Int32 → x_S → Option (Int32 × x_S)) (x2 : Int32) (σ : x_S) : Option (Int32 × x_S) :=
  if 120 ≤ x2 then (bX4_reads_52 c1 0 σ) else (if (σ 13 4) = 0 then (x_p (fX4_next σ) (fun r4 => if r4 = 114 then (x_v (fX4_readStreet c1 σ) (fun σ7 => K17 (x2 + 1) σ7)) else (bX4_reads_52 c1 0 σ))) else (bX4_reads_52 c1 0 σ))
def bX4_reads_17 (c1 : Nat) (x2 : Int32) (σ : x_S) : Option (Int32 × x_S) :=
  x_fx (α := Int32 → x_S → Option (Int32 × x_S)) (fun _ _ => none) (fun K => fun x2 σ => gX4_reads_17  c1 K x2 σ) x_F x2 σ
def fX4_reads (c1 : Nat) (σ : x_S) : Option (Int32 × x_S) :=
  x_w (x_u σ 13 4 0) (fun σ1 => x_w (x_u σ1 13 5 0) (fun σ3 => x_v (fX4_readLaw c1 σ3) (fun σ6 => bX4_reads_17 c1 0 σ6)))
def fX2_become (c0 : Nat) (c1 : Nat) (σ : x_S) : Option x_S :=
  x_g ((σ c1 0) = 0 ∨ (σ c1 0) = 1) (x_w (x_u σ c0 0 (σ c1 0)) (fun σ2 => x_w (x_u σ2 c0 1 (σ2 c1 1)) (fun σ4 => x_w (x_u σ4 c0 2 (σ4 c1 2)) (fun σ6 => x_w (x_u σ6 c0 3 (σ6 c1 3)) (fun σ8 => x_w (x_u σ8 c0 4 (σ8 c1 4)) (fun σ10 => x_w (x_u σ10 c0 5 (σ10 c1 5)) (fun σ12 => x_g (¬ (0 : Int32) < 0 ∧ ¬ (0 : Int32) < 0 ∧ ¬ (7 : Int32) < 0 ∧ (0 : Int32).toNatClampNeg + (7 : Int32).toNatClampNeg ≤ 7 ∧ (0 : Int32).toNatClampNeg + (7 : Int32).toNatClampNeg ≤ 7) (x_w (x_r σ12 (c0 + 1) (va_cpy (σ12 (c1 + 1)) (σ12 (c0 + 1)) (0 : Int32).toNatClampNeg (0 : Int32).toNatClampNeg (7 : Int32).toNatClampNeg)) (fun σ15 => x_g (¬ (0 : Int32) < 0 ∧ ¬ (0 : Int32) < 0 ∧ ¬ (7 : Int32) < 0 ∧ (0 : Int32).toNatClampNeg + (7 : Int32).toNatClampNeg ≤ 7 ∧ (0 : Int32).toNatClampNeg + (7 : Int32).toNatClampNeg ≤ 7) (x_w (x_r σ15 (c0 + 2) (va_cpy (σ15 (c1 + 2)) (σ15 (c0 + 2)) (0 : Int32).toNatClampNeg (0 : Int32).toNatClampNeg (7 : Int32).toNatClampNeg)) (fun σ18 => x_g (¬ (0 : Int32) < 0 ∧ ¬ (0 : Int32) < 0 ∧ ¬ (6 : Int32) < 0 ∧ (0 : Int32).toNatClampNeg + (6 : Int32).toNatClampNeg ≤ 6 ∧ (0 : Int32).toNatClampNeg + (6 : Int32).toNatClampNeg ≤ 6) (x_w (x_r σ18 (c0 + 3) (va_cpy (σ18 (c1 + 3)) (σ18 (c0 + 3)) (0 : Int32).toNatClampNeg (0 : Int32).toNatClampNeg (6 : Int32).toNatClampNeg)) (fun σ21 => x_g (¬ (0 : Int32) < 0 ∧ ¬ (0 : Int32) < 0 ∧ ¬ (6 : Int32) < 0 ∧ (0 : Int32).toNatClampNeg + (6 : Int32).toNatClampNeg ≤ 6 ∧ (0 : Int32).toNatClampNeg + (6 : Int32).toNatClampNeg ≤ 6) (x_w (x_r σ21 (c0 + 4) (va_cpy (σ21 (c1 + 4)) (σ21 (c0 + 4)) (0 : Int32).toNatClampNeg (0 : Int32).toNatClampNeg (6 : Int32).toNatClampNeg)) (fun σ24 => x_g (¬ (0 : Int32) < 0 ∧ ¬ (0 : Int32) < 0 ∧ ¬ (6 : Int32) < 0 ∧ (0 : Int32).toNatClampNeg + (6 : Int32).toNatClampNeg ≤ 6 ∧ (0 : Int32).toNatClampNeg + (6 : Int32).toNatClampNeg ≤ 6) (x_w (x_r σ24 (c0 + 5) (va_cpy (σ24 (c1 + 5)) (σ24 (c0 + 5)) (0 : Int32).toNatClampNeg (0 : Int32).toNatClampNeg (6 : Int32).toNatClampNeg)) (fun σ27 => x_g (¬ (0 : Int32) < 0 ∧ ¬ (0 : Int32) < 0 ∧ ¬ (6 : Int32) < 0 ∧ (0 : Int32).toNatClampNeg + (6 : Int32).toNatClampNeg ≤ 6 ∧ (0 : Int32).toNatClampNeg + (6 : Int32).toNatClampNeg ≤ 6) (x_w (x_r σ27 (c0 + 6) (va_cpy (σ27 (c1 + 6)) (σ27 (c0 + 6)) (0 : Int32).toNatClampNeg (0 : Int32).toNatClampNeg (6 : Int32).toNatClampNeg)) (fun σ30 => x_g (¬ (0 : Int32) < 0 ∧ ¬ (0 : Int32) < 0 ∧ ¬ (6 : Int32) < 0 ∧ (0 : Int32).toNatClampNeg + (6 : Int32).toNatClampNeg ≤ 6 ∧ (0 : Int32).toNatClampNeg + (6 : Int32).toNatClampNeg ≤ 6) (x_w (x_r σ30 (c0 + 7) (va_cpy (σ30 (c1 + 7)) (σ30 (c0 + 7)) (0 : Int32).toNatClampNeg (0 : Int32).toNatClampNeg (6 : Int32).toNatClampNeg)) (fun σ33 => some σ33)))))))))))))))))))))
def fX0_forgetAll (σ : x_S) : Option x_S :=
  x_w (x_u σ 16 4 0) (fun σ1 => some σ1)
def fX7_city (σ : x_S) : Option (Int32 × x_S) :=
  x_b (fX4_reads 40 σ) (fun r2 σ3 => if r2 = 0 then (some (((-1000100) - (σ3 13 3)), σ3)) else (x_v (fX2_become 32 40 σ3) (fun σ6 => x_v (fX0_forgetAll σ6) (fun σ8 => some ((σ8 32 5), σ8)))))
def fX7_fault (σ : x_S) : Option Int32 :=
  some (σ 13 2)
def fX7_isGesture (a1 : Int32) (σ : x_S) : Option Int32 :=
  if a1 < 0 then (some 0) else (if (σ 32 5) ≤ a1 then (some 0) else (some 1))
def fX7_isStreet (a1 : Int32) (σ : x_S) : Option Int32 :=
  if a1 < 0 then (some 0) else (if (σ 32 3) ≤ a1 then (some 0) else (some 1))
def bX2_isSeen_41 (c0 : Nat) (x2 : Int32) (y0 : Int32) (y1 : Int32) (σ : x_S) : Option Int32 :=
  x_g (x_in x2 7) (if (y1 + y0) < (σ (c0 + 1) x2.toNatClampNeg) then (some 0) else (some 1))
def bX2_isSeen_25 (c0 : Nat) (x1 : Int32) (x2 : Int32) (y0 : Int32) (σ : x_S) : Option Int32 :=
  x_g (x_in x1 6) (if y0 = 0 then (bX2_isSeen_41 c0 x2 0 (σ (c0 + 4) x1.toNatClampNeg) σ) else (bX2_isSeen_41 c0 x2 5 (σ (c0 + 4) x1.toNatClampNeg) σ))
def fX2_isSeen (c0 : Nat) (a1 : Int32) (a2 : Int32) (σ : x_S) : Option Int32 :=
  x_g (x_in a1 6) (if (σ (c0 + 3) a1.toNatClampNeg) = 4 then (bX2_isSeen_25 c0 a1 a2 1 σ) else (x_g (x_in a1 6) (if (σ (c0 + 3) a1.toNatClampNeg) = 5 then (bX2_isSeen_25 c0 a1 a2 1 σ) else (bX2_isSeen_25 c0 a1 a2 0 σ))))
def fX2_owesUnknown (c0 : Nat) (a1 : Int32) (a2 : Int32) (a3 : Int32) (σ : x_S) : Option Int32 :=
  x_g (x_in a3 7) (if a1 = 1 then (some ((a2 * (σ c0 1)) + ((a2 * (σ (c0 + 2) a3.toNatClampNeg)) / 10))) else (if a1 = 2 then (some (((a2 * (σ c0 1)) + ((a2 * (σ (c0 + 2) a3.toNatClampNeg)) / 10)) / 2)) else (if a1 = 3 then (some (((a2 * (σ c0 1)) + ((a2 * (σ (c0 + 2) a3.toNatClampNeg)) / 10)) + ((σ c0 1) * (if 0 < (a2 - 10) then (a2 - 10) else 0)))) else (if a1 = 4 then (some 1) else (if a1 = 5 then (x_g (x_in a3 7) (if (σ (c0 + 2) a3.toNatClampNeg) < 5 then (some 1) else (some ((a2 * (σ c0 1)) + ((a2 * (σ (c0 + 2) a3.toNatClampNeg)) / 10))))) else (some 1))))))
def fX2_isKnown (c0 : Nat) (a1 : Int32) (σ : x_S) : Option Int32 :=
  if (((σ c0 4) >>> (a1 &&& 31)) &&& 1) = 1 then (some 1) else (some 0)
def fX2_owesSuch (c0 : Nat) (a1 : Int32) (a2 : Int32) (a3 : Int32) (σ : x_S) : Option Int32 :=
  x_p (fX2_owesUnknown c0 a1 a2 a3 σ) (fun r2 => x_p (fX2_isKnown c0 a3 σ) (fun r4 => if r4 = 0 then (some r2) else (some (r2 / 2))))
def fX2_owes (c0 : Nat) (a1 : Int32) (a2 : Int32) (σ : x_S) : Option Int32 :=
  x_g (x_in a1 6) (x_g (x_in a1 6) (x_p (fX2_owesSuch c0 (σ (c0 + 3) a1.toNatClampNeg) (σ (c0 + 4) a1.toNatClampNeg) a2 σ) (fun r4 => some r4)))
def fX0_keep (a1 : Int32) (a2 : Int32) (a3 : Int32) (σ : x_S) : Option x_S :=
  x_g (x_in (σ 16 3) 24) (x_w (x_u σ 17 (σ 16 3).toNatClampNeg a1) (fun σ2 => x_g (x_in (σ2 16 3) 24) (x_w (x_u σ2 18 (σ2 16 3).toNatClampNeg a2) (fun σ5 => x_g (x_in (σ5 16 3) 24) (x_w (x_u σ5 19 (σ5 16 3).toNatClampNeg a3) (fun σ8 => x_w (x_u σ8 16 3 (((σ8 16 3) + 1) - ((σ8 16 3) + 1) / 24 * 24)) (fun σ10 => x_w (x_u σ10 16 4 (if 24 < ((σ10 16 4) + 1) then 24 else ((σ10 16 4) + 1))) (fun σ12 => some σ12))))))))
def fX7_make (a1 : Int32) (a2 : Int32) (σ : x_S) : Option (Int32 × x_S) :=
  x_p (fX7_isGesture a1 σ) (fun r2 => if r2 = 0 then (some ((-1000001), σ)) else (x_p (fX7_isStreet a2 σ) (fun r5 => if r5 = 0 then (some ((-1000001), σ)) else (x_p (fX2_isSeen 32 a1 a2 σ) (fun r8 => if r8 = 0 then (some ((-1000002), σ)) else (x_p (fX2_owes 32 a1 a2 σ) (fun r11 => if ((σ 32 2) + r11) ≤ 99999 then (x_g (x_in a1 6) (x_g (x_in a1 6) (x_w (x_u σ 39 a1.toNatClampNeg ((σ 39 a1.toNatClampNeg) + 1)) (fun σ15 => x_w (x_u σ15 32 2 ((σ15 32 2) + r11)) (fun σ17 => x_v (fX0_keep 0 a1 r11 σ17) (fun σ20 => some ((σ20 32 2), σ20))))))) else (some ((-1000003), σ)))))))))
def fX7_dim (a1 : Int32) (a2 : Int32) (σ : x_S) : Option (Int32 × x_S) :=
  x_p (fX7_isStreet a1 σ) (fun r2 => if r2 = 0 then (some ((-1000001), σ)) else (x_p (fX7_isWithin a2 0 30 σ) (fun r5 => if r5 = 0 then (some ((-1000001), σ)) else (x_g (x_in a1 7) (x_g (x_in a1 7) (x_w (x_u σ 33 a1.toNatClampNeg a2) (fun σ9 => x_v (fX0_keep 1 a1 (σ 33 a1.toNatClampNeg) σ9) (fun σ12 => some ((σ 33 a1.toNatClampNeg), σ12)))))))))
def fX7_train (a1 : Int32) (a2 : Int32) (σ : x_S) : Option (Int32 × x_S) :=
  x_p (fX7_isGesture a1 σ) (fun r2 => if r2 = 0 then (some ((-1000001), σ)) else (x_p (fX7_isWithin a2 1 29 σ) (fun r5 => if r5 = 0 then (some ((-1000001), σ)) else (x_g (x_in a1 6) (if 1 ≤ ((σ 36 a1.toNatClampNeg) - a2) then (x_g (x_in a1 6) (x_g (x_in a1 6) (x_w (x_u σ 36 a1.toNatClampNeg ((σ 36 a1.toNatClampNeg) - a2)) (fun σ11 => x_v (fX0_keep 2 a1 a2 σ11) (fun σ14 => x_g (x_in a1 6) (some ((σ14 36 a1.toNatClampNeg), σ14))))))) else (some ((-1000002), σ)))))))
def fX2_turnKnown (c0 : Nat) (a1 : Int32) (σ : x_S) : Option x_S :=
  x_w (x_u σ c0 4 ((σ c0 4) ^^^ (1 <<< (a1 &&& 31)))) (fun σ1 => some σ1)
def bX7_know_38 (x1 : Int32) (y0 : Int32) (y1 : Int32) (σ : x_S) : Option (Int32 × x_S) :=
  if y1 = y0 then (some ((-1000002), σ)) else (x_v (fX2_turnKnown 32 x1 σ) (fun σ3 => x_v (fX0_keep 3 x1 0 σ3) (fun σ5 => some ((σ5 32 4), σ5))))
def fX7_know (a1 : Int32) (a2 : Int32) (σ : x_S) : Option (Int32 × x_S) :=
  x_p (fX7_isStreet a1 σ) (fun r2 => if r2 = 0 then (some ((-1000001), σ)) else (x_p (fX7_isWithin a2 0 1 σ) (fun r5 => if r5 = 0 then (some ((-1000001), σ)) else (x_p (fX2_isKnown 32 a1 σ) (fun r8 => if a2 = 1 then (bX7_know_38 a1 1 r8 σ) else (bX7_know_38 a1 0 r8 σ))))))
def fX0_takeBack (c1 : Nat) (σ : x_S) : Option x_S :=
  x_w (x_u σ 16 3 ((((σ 16 3) + 24) - 1) - (((σ 16 3) + 24) - 1) / 24 * 24)) (fun σ1 => x_w (x_u σ1 16 4 ((σ1 16 4) - 1)) (fun σ3 => x_g (x_in (σ3 16 3) 24) (x_g (x_in (σ3 16 3) 24) (x_g (x_in (σ3 16 3) 24) (if (σ3 17 (σ3 16 3).toNatClampNeg) = 0 then (x_g (x_in (σ3 18 (σ3 16 3).toNatClampNeg) 6) (x_g (x_in (σ3 18 (σ3 16 3).toNatClampNeg) 6) (x_w (x_u σ3 (c1 + 7) (σ3 18 (σ3 16 3).toNatClampNeg).toNatClampNeg ((σ3 (c1 + 7) (σ3 18 (σ3 16 3).toNatClampNeg).toNatClampNeg) - 1)) (fun σ11 => x_w (x_u σ11 c1 2 ((σ11 c1 2) - (σ3 19 (σ3 16 3).toNatClampNeg))) (fun σ13 => some σ13))))) else (if (σ3 17 (σ3 16 3).toNatClampNeg) = 1 then (x_g (x_in (σ3 18 (σ3 16 3).toNatClampNeg) 7) (x_w (x_u σ3 (c1 + 1) (σ3 18 (σ3 16 3).toNatClampNeg).toNatClampNeg (σ3 19 (σ3 16 3).toNatClampNeg)) (fun σ17 => some σ17))) else (if (σ3 17 (σ3 16 3).toNatClampNeg) = 2 then (x_g (x_in (σ3 18 (σ3 16 3).toNatClampNeg) 6) (x_g (x_in (σ3 18 (σ3 16 3).toNatClampNeg) 6) (x_w (x_u σ3 (c1 + 4) (σ3 18 (σ3 16 3).toNatClampNeg).toNatClampNeg ((σ3 (c1 + 4) (σ3 18 (σ3 16 3).toNatClampNeg).toNatClampNeg) + (σ3 19 (σ3 16 3).toNatClampNeg))) (fun σ22 => some σ22)))) else (if (σ3 17 (σ3 16 3).toNatClampNeg) = 3 then (x_v (fX2_turnKnown c1 (σ3 18 (σ3 16 3).toNatClampNeg) σ3) (fun σ26 => some σ26)) else (some σ3)))))))))
def fX7_undo (σ : x_S) : Option (Int32 × x_S) :=
  if (σ 16 4) = 0 then (some ((-1000002), σ)) else (x_v (fX0_takeBack 32 σ) (fun σ3 => some ((σ3 16 4), σ3)))
def gX2_streetsThatSee_4 (c0 : Nat) (x1 : Int32) (K4 : Int32 → Int32 → Option Int32) (x2 : Int32) (x3 : Int32) (σ : x_S) : Option Int32 :=
  if (σ c0 3) ≤ x3 then (some x2) else (x_p (fX2_isSeen c0 x1 x3 σ) (fun r3 => if r3 = 0 then (K4 (x2 ||| 0) (x3 + 1)) else (K4 (x2 ||| (1 <<< (x3 &&& 31))) (x3 + 1))))
def bX2_streetsThatSee_4 (c0 : Nat) (x1 : Int32) (x2 : Int32) (x3 : Int32) (σ : x_S) : Option Int32 :=
  x_fx (α := Int32 → Int32 → Option Int32) (fun _ _ => none) (fun K => fun x2 x3 => gX2_streetsThatSee_4  c0 x1 K x2 x3 σ) x_F x2 x3
def fX2_streetsThatSee (c0 : Nat) (a1 : Int32) (σ : x_S) : Option Int32 :=
  bX2_streetsThatSee_4 c0 a1 0 0 σ
def fX7_gesture (a1 : Int32) (a2 : Int32) (σ : x_S) : Option Int32 :=
  x_p (fX7_isGesture a1 σ) (fun r2 => if r2 = 0 then (some (-1000001)) else (if a2 = 0 then (x_g (x_in a1 6) (some (σ 36 a1.toNatClampNeg))) else (if a2 = 1 then (x_g (x_in a1 6) (some (σ 37 a1.toNatClampNeg))) else (if a2 = 2 then (x_g (x_in a1 6) (some (σ 38 a1.toNatClampNeg))) else (if a2 = 3 then (x_p (fX2_streetsThatSee 32 a1 σ) (fun r12 => some r12)) else (if a2 = 4 then (x_g (x_in a1 6) (some (σ 39 a1.toNatClampNeg))) else (some (-1000001))))))))
def gX2_gesturesSeenIn_4 (c0 : Nat) (x1 : Int32) (K4 : Int32 → Int32 → Option Int32) (x2 : Int32) (x3 : Int32) (σ : x_S) : Option Int32 :=
  if (σ c0 5) ≤ x3 then (some x2) else (x_p (fX2_isSeen c0 x3 x1 σ) (fun r3 => if r3 = 0 then (K4 (x2 ||| 0) (x3 + 1)) else (K4 (x2 ||| (1 <<< (x3 &&& 31))) (x3 + 1))))
def bX2_gesturesSeenIn_4 (c0 : Nat) (x1 : Int32) (x2 : Int32) (x3 : Int32) (σ : x_S) : Option Int32 :=
  x_fx (α := Int32 → Int32 → Option Int32) (fun _ _ => none) (fun K => fun x2 x3 => gX2_gesturesSeenIn_4  c0 x1 K x2 x3 σ) x_F x2 x3
def fX2_gesturesSeenIn (c0 : Nat) (a1 : Int32) (σ : x_S) : Option Int32 :=
  bX2_gesturesSeenIn_4 c0 a1 0 0 σ
def fX7_street (a1 : Int32) (a2 : Int32) (σ : x_S) : Option Int32 :=
  x_p (fX7_isStreet a1 σ) (fun r2 => if r2 = 0 then (some (-1000001)) else (if a2 = 0 then (x_g (x_in a1 7) (some (σ 33 a1.toNatClampNeg))) else (if a2 = 1 then (x_g (x_in a1 7) (some (σ 34 a1.toNatClampNeg))) else (if a2 = 2 then (x_p (fX2_isKnown 32 a1 σ) (fun r10 => if r10 = 0 then (some 0) else (some 1))) else (if a2 = 3 then (x_p (fX2_gesturesSeenIn 32 a1 σ) (fun r14 => some r14)) else (some (-1000001)))))))
def fX7_duty (a1 : Int32) (a2 : Int32) (σ : x_S) : Option Int32 :=
  x_p (fX7_isGesture a1 σ) (fun r2 => if r2 = 0 then (some (-1000001)) else (x_p (fX7_isStreet a2 σ) (fun r5 => if r5 = 0 then (some (-1000001)) else (x_p (fX2_owes 32 a1 a2 σ) (fun r8 => some r8)))))
def fX7_isMeaning (a0 : Int32) (σ : x_S) : Option Int32 :=
  x_p (fX7_isWithin a0 0 3 σ) (fun r2 => x_g (r2 &&& 1 = r2) (some r2))
def fX7_isStretch (a1 : Int32) (a2 : Int32) (σ : x_S) : Option Int32 :=
  x_p (fX7_isStreet a1 σ) (fun r2 => if r2 = 0 then (some 0) else (x_p (fX7_isStreet a2 σ) (fun r5 => if r5 = 0 then (some 0) else (if a2 < a1 then (some 0) else (some 1)))))
def fX2_tells (c0 : Nat) (a1 : Int32) (a2 : Int32) (a3 : Int32) (σ : x_S) : Option Int32 :=
  x_g (x_in a1 6) (if (σ (c0 + 5) a1.toNatClampNeg) = a2 then (x_p (fX2_isSeen c0 a1 a3 σ) (fun r4 => if r4 = 0 then (some 0) else (some 1))) else (some 0))
def gX6_offer_3 (x1 : Int32) (x2 : Int32) (x3 : Int32) (x4 : Int32) (K3 : Int32 → x_S → Option x_S) (x5 : Int32) (σ : x_S) : Option x_S :=
  if x4 < x5 then (some σ) else (x_g (x_in x3 8) (x_g (x_in x3 8) (x_g (x_in x5 100) (x_g (x_in (x3 + 1) 8) (x_g (x_in (x5 - x2) 100) (x_g (x_in x5 100) (x_w (x_u σ (22 + x3.toNatClampNeg) x5.toNatClampNeg (if (x1 + (σ (22 + (x3 + 1).toNatClampNeg) (x5 - x2).toNatClampNeg)) < (σ (22 + x3.toNatClampNeg) x5.toNatClampNeg) then (x1 + (σ (22 + (x3 + 1).toNatClampNeg) (x5 - x2).toNatClampNeg)) else (σ (22 + x3.toNatClampNeg) x5.toNatClampNeg))) (fun σ8 => K3 (x5 + 1) σ8))))))))
def bX6_offer_3 (x1 : Int32) (x2 : Int32) (x3 : Int32) (x4 : Int32) (x5 : Int32) (σ : x_S) : Option x_S :=
  x_fx (α := Int32 → x_S → Option x_S) (fun _ _ => none) (fun K => fun x5 σ => gX6_offer_3  x1 x2 x3 x4 K x5 σ) x_F x5 σ
def fX6_offer (a1 : Int32) (a2 : Int32) (a3 : Int32) (a4 : Int32) (σ : x_S) : Option x_S :=
  bX6_offer_3 a1 a2 a3 a4 a2 σ
def gX6_fill_70 (K33 : Int32 → x_S → Option x_S) (c1 : Nat) (x2 : Int32) (x3 : Int32) (x5 : Int32) (x6 : Int32) (K70 : Int32 → x_S → Option x_S) (x7 : Int32) (σ : x_S) : Option x_S :=
  if (σ c1 5) ≤ x7 then (K33 (x6 + (-1)) σ) else (x_p (fX2_tells c1 x7 x2 x6 σ) (fun r3 => if r3 = 0 then (K70 (x7 + 1) σ) else (x_p (fX2_owes c1 x7 x6 σ) (fun r6 => x_g (x_in x7 6) (x_v (fX6_offer r6 (σ (c1 + 6) x7.toNatClampNeg) x6 x5 σ) (fun σ9 => K70 (x7 + 1) σ9))))))
def bX6_fill_70 (K33 : Int32 → x_S → Option x_S) (c1 : Nat) (x2 : Int32) (x3 : Int32) (x5 : Int32) (x6 : Int32) (x7 : Int32) (σ : x_S) : Option x_S :=
  x_fx (α := Int32 → x_S → Option x_S) (fun _ _ => none) (fun K => fun x7 σ => gX6_fill_70 K33 c1 x2 x3 x5 x6 K x7 σ) x_F x7 σ
def gX6_fill_42 (K33 : Int32 → x_S → Option x_S) (c1 : Nat) (x2 : Int32) (x3 : Int32) (x5 : Int32) (x6 : Int32) (K42 : Int32 → x_S → Option x_S) (x7 : Int32) (σ : x_S) : Option x_S :=
  if x5 < x7 then (bX6_fill_70 K33 c1 x2 x3 x5 x6 0 σ) else (x_g (x_in x6 8) (x_g (x_in x7 100) (x_w (x_u σ (22 + x6.toNatClampNeg) x7.toNatClampNeg 1000000) (fun σ4 => K42 (x7 + 1) σ4))))
def bX6_fill_42 (K33 : Int32 → x_S → Option x_S) (c1 : Nat) (x2 : Int32) (x3 : Int32) (x5 : Int32) (x6 : Int32) (x7 : Int32) (σ : x_S) : Option x_S :=
  x_fx (α := Int32 → x_S → Option x_S) (fun _ _ => none) (fun K => fun x7 σ => gX6_fill_42 K33 c1 x2 x3 x5 x6 K x7 σ) x_F x7 σ
def gX6_fill_33 (c1 : Nat) (x2 : Int32) (x3 : Int32) (x5 : Int32) (K33 : Int32 → x_S → Option x_S) (x6 : Int32) (σ : x_S) : Option x_S :=
  if x6 < x3 then (some σ) else (bX6_fill_42 K33 c1 x2 x3 x5 x6 0 σ)
def bX6_fill_33 (c1 : Nat) (x2 : Int32) (x3 : Int32) (x5 : Int32) (x6 : Int32) (σ : x_S) : Option x_S :=
  x_fx (α := Int32 → x_S → Option x_S) (fun _ _ => none) (fun K => fun x6 σ => gX6_fill_33  c1 x2 x3 x5 K x6 σ) x_F x6 σ
def gX6_fill_3 (c1 : Nat) (x2 : Int32) (x3 : Int32) (x4 : Int32) (x5 : Int32) (K3 : Int32 → x_S → Option x_S) (x6 : Int32) (σ : x_S) : Option x_S :=
  if x5 < x6 then (bX6_fill_33 c1 x2 x3 x5 x4 σ) else (x_g (x_in (x4 + 1) 8) (x_g (x_in x6 100) (x_w (x_u σ (22 + (x4 + 1).toNatClampNeg) x6.toNatClampNeg 0) (fun σ4 => K3 (x6 + 1) σ4))))
def bX6_fill_3 (c1 : Nat) (x2 : Int32) (x3 : Int32) (x4 : Int32) (x5 : Int32) (x6 : Int32) (σ : x_S) : Option x_S :=
  x_fx (α := Int32 → x_S → Option x_S) (fun _ _ => none) (fun K => fun x6 σ => gX6_fill_3  c1 x2 x3 x4 x5 K x6 σ) x_F x6 σ
def fX6_fill (c1 : Nat) (a2 : Int32) (a3 : Int32) (a4 : Int32) (a5 : Int32) (σ : x_S) : Option x_S :=
  bX6_fill_3 c1 a2 a3 a4 a5 0 σ
def fX6_leastDuty (c1 : Nat) (a2 : Int32) (a3 : Int32) (a4 : Int32) (a5 : Int32) (σ : x_S) : Option (Int32 × x_S) :=
  x_v (fX6_fill c1 a2 a3 a4 a5 σ) (fun σ2 => x_g (x_in a3 8) (x_g (x_in a5 100) (if 1000000 ≤ (σ2 (22 + a3.toNatClampNeg) a5.toNatClampNeg) then (some ((-1000000), σ2)) else (x_g (x_in a3 8) (x_g (x_in a5 100) (some ((σ2 (22 + a3.toNatClampNeg) a5.toNatClampNeg), σ2)))))))
def gX6_firstOfCheapest_3 (c1 : Nat) (x2 : Int32) (x3 : Int32) (x4 : Int32) (K3 : Int32 → Option Int32) (x5 : Int32) (σ : x_S) : Option Int32 :=
  if (σ c1 5) ≤ x5 then (some (-1000000)) else (x_g (x_in x5 6) (if (x4 - (σ (c1 + 6) x5.toNatClampNeg)) < 0 then (K3 (x5 + 1)) else (x_p (fX2_tells c1 x5 x2 x3 σ) (fun r5 => if r5 = 0 then (K3 (x5 + 1)) else (x_p (fX2_owes c1 x5 x3 σ) (fun r8 => x_g (x_in (x3 + 1) 8) (x_g (x_in (x4 - (σ (c1 + 6) x5.toNatClampNeg)) 100) (x_g (x_in x3 8) (x_g (x_in x4 100) (if (r8 + (σ (22 + (x3 + 1).toNatClampNeg) (x4 - (σ (c1 + 6) x5.toNatClampNeg)).toNatClampNeg)) = (σ (22 + x3.toNatClampNeg) x4.toNatClampNeg) then (some x5) else (K3 (x5 + 1))))))))))))
def bX6_firstOfCheapest_3 (c1 : Nat) (x2 : Int32) (x3 : Int32) (x4 : Int32) (x5 : Int32) (σ : x_S) : Option Int32 :=
  x_fx (α := Int32 → Option Int32) (fun _ => none) (fun K => fun x5 => gX6_firstOfCheapest_3  c1 x2 x3 x4 K x5 σ) x_F x5
def fX6_firstOfCheapest (c1 : Nat) (a2 : Int32) (a3 : Int32) (a4 : Int32) (σ : x_S) : Option Int32 :=
  bX6_firstOfCheapest_3 c1 a2 a3 a4 0 σ
def gX6_gestureOfCheapest_48 (c1 : Nat) (x2 : Int32) (x3 : Int32) (x6 : Int32) (K48 : Int32 → Int32 → Int32 → x_S → Option (Int32 × x_S)) (x7 : Int32) (x8 : Int32) (x9 : Int32) (σ : x_S) : Option (Int32 × x_S) :=
  if (x3 + x6) < x9 then (some (x8, σ)) else (x_p (fX6_firstOfCheapest c1 x2 x9 x7 σ) (fun r3 => if r3 = (-1000000) then (some ((-1000000), σ)) else (x_g (x_in r3 6) (K48 (x7 - (σ (c1 + 6) r3.toNatClampNeg)) r3 (x9 + 1) σ))))
def bX6_gestureOfCheapest_48 (c1 : Nat) (x2 : Int32) (x3 : Int32) (x6 : Int32) (x7 : Int32) (x8 : Int32) (x9 : Int32) (σ : x_S) : Option (Int32 × x_S) :=
  x_fx (α := Int32 → Int32 → Int32 → x_S → Option (Int32 × x_S)) (fun _ _ _ _ => none) (fun K => fun x7 x8 x9 σ => gX6_gestureOfCheapest_48  c1 x2 x3 x6 K x7 x8 x9 σ) x_F x7 x8 x9 σ
def fX6_gestureOfCheapest (c1 : Nat) (a2 : Int32) (a3 : Int32) (a4 : Int32) (a5 : Int32) (a6 : Int32) (σ : x_S) : Option (Int32 × x_S) :=
  x_v (fX6_fill c1 a2 a3 a4 a5 σ) (fun σ2 => if (a4 - a3) < a6 then (some ((-1000000), σ2)) else (x_g (x_in a3 8) (x_g (x_in a5 100) (if (σ2 (22 + a3.toNatClampNeg) a5.toNatClampNeg) < 1000000 then (bX6_gestureOfCheapest_48 c1 a2 a3 a6 a5 (-1000000) a3 σ2) else (some ((-1000000), σ2))))))
def fX7_tell (a1 : Int32) (a2 : Int32) (a3 : Int32) (a4 : Int32) (a5 : Int32) (σ : x_S) : Option (Int32 × x_S) :=
  x_p (fX7_isMeaning a1 σ) (fun r2 => if r2 = 0 then (some ((-1000001), σ)) else (x_p (fX7_isStretch a2 a3 σ) (fun r5 => if r5 = 0 then (some ((-1000001), σ)) else (x_p (fX7_isWithin a4 0 99 σ) (fun r8 => if r8 = 0 then (some ((-1000001), σ)) else (x_p (fX7_isWithin a5 (-1) 6 σ) (fun r11 => if r11 = 0 then (some ((-1000001), σ)) else (if 0 ≤ a5 then (x_b (fX6_gestureOfCheapest 32 a1 a2 a3 a4 a5 σ) (fun r15 σ16 => some (r15, σ16))) else (x_b (fX6_leastDuty 32 a1 a2 a3 a4 σ) (fun r18 σ19 => some (r18, σ19)))))))))))
def bX2_leastTime_43 (K6 : Int32 → Int32 → Option Int32) (c0 : Nat) (x1 : Int32) (x2 : Int32) (x4 : Int32) (σ : x_S) : Option Int32 :=
  x_g (x_in x4 6) (K6 (σ (c0 + 6) x4.toNatClampNeg) (x4 + 1))
def gX2_leastTime_6 (c0 : Nat) (x1 : Int32) (x2 : Int32) (K6 : Int32 → Int32 → Option Int32) (x3 : Int32) (x4 : Int32) (σ : x_S) : Option Int32 :=
  if (σ c0 5) ≤ x4 then (some x3) else (x_p (fX2_tells c0 x4 x1 x2 σ) (fun r3 => if r3 = 0 then (K6 x3 (x4 + 1)) else (if x3 = (-1000000) then (bX2_leastTime_43 K6 c0 x1 x2 x4 σ) else (x_g (x_in x4 6) (if x3 ≤ (σ (c0 + 6) x4.toNatClampNeg) then (K6 x3 (x4 + 1)) else (bX2_leastTime_43 K6 c0 x1 x2 x4 σ))))))
def bX2_leastTime_6 (c0 : Nat) (x1 : Int32) (x2 : Int32) (x3 : Int32) (x4 : Int32) (σ : x_S) : Option Int32 :=
  x_fx (α := Int32 → Int32 → Option Int32) (fun _ _ => none) (fun K => fun x3 x4 => gX2_leastTime_6  c0 x1 x2 K x3 x4 σ) x_F x3 x4
def fX2_leastTime (c0 : Nat) (a1 : Int32) (a2 : Int32) (σ : x_S) : Option Int32 :=
  bX2_leastTime_6 c0 a1 a2 (-1000000) 0 σ
def gX2_streetsWithout_4 (c0 : Nat) (x1 : Int32) (K4 : Int32 → Int32 → Option Int32) (x2 : Int32) (x3 : Int32) (σ : x_S) : Option Int32 :=
  if (σ c0 3) ≤ x3 then (some x2) else (x_p (fX2_leastTime c0 x1 x3 σ) (fun r3 => if r3 = (-1000000) then (K4 (x2 ||| (1 <<< (x3 &&& 31))) (x3 + 1)) else (K4 (x2 ||| 0) (x3 + 1))))
def bX2_streetsWithout_4 (c0 : Nat) (x1 : Int32) (x2 : Int32) (x3 : Int32) (σ : x_S) : Option Int32 :=
  x_fx (α := Int32 → Int32 → Option Int32) (fun _ _ => none) (fun K => fun x2 x3 => gX2_streetsWithout_4  c0 x1 K x2 x3 σ) x_F x2 x3
def fX2_streetsWithout (c0 : Nat) (a1 : Int32) (σ : x_S) : Option Int32 :=
  bX2_streetsWithout_4 c0 a1 0 0 σ
def fX7_shut (a1 : Int32) (σ : x_S) : Option Int32 :=
  if (σ 32 0) = 0 then (some (-1000002)) else (x_p (fX7_isMeaning a1 σ) (fun r3 => if r3 = 0 then (some (-1000001)) else (x_p (fX2_streetsWithout 32 a1 σ) (fun r6 => some r6))))
def gX7_quick_25 (x1 : Int32) (x3 : Int32) (K25 : Int32 → Int32 → Option Int32) (x4 : Int32) (x5 : Int32) (σ : x_S) : Option Int32 :=
  if x3 < x5 then (some x4) else (x_p (fX2_leastTime 32 x1 x5 σ) (fun r3 => if r3 = (-1000000) then (some (-1000000)) else (K25 (x4 + r3) (x5 + 1))))
def bX7_quick_25 (x1 : Int32) (x3 : Int32) (x4 : Int32) (x5 : Int32) (σ : x_S) : Option Int32 :=
  x_fx (α := Int32 → Int32 → Option Int32) (fun _ _ => none) (fun K => fun x4 x5 => gX7_quick_25  x1 x3 K x4 x5 σ) x_F x4 x5
def fX7_quick (a1 : Int32) (a2 : Int32) (a3 : Int32) (σ : x_S) : Option Int32 :=
  x_p (fX7_isMeaning a1 σ) (fun r2 => if r2 = 0 then (some (-1000001)) else (x_p (fX7_isStretch a2 a3 σ) (fun r5 => if r5 = 0 then (some (-1000001)) else (bX7_quick_25 a1 a3 0 a2 σ))))
def fX5_at (a1 : Int32) (a2 : Int32) (σ : x_S) : Option Int32 :=
  x_g (x_in a1 8) (x_g (x_in a2 40) (some (σ (3 + a1.toNatClampNeg) a2.toNatClampNeg)))
def gX7_refusalOfThread_49 (x1 : Int32) (x2 : Int32) (x3 : Int32) (K49 : Int32 → x_S → Option (Int32 × x_S)) (x5 : Int32) (σ : x_S) : Option (Int32 × x_S) :=
  if x3 ≤ x5 then (some (0, σ)) else (x_p (fX5_at x1 (x2 + (2 * x5)) σ) (fun r3 => x_p (fX7_isStreet r3 σ) (fun r5 => if r5 = 0 then (some ((-1000001), σ)) else (K49 (x5 + 1) σ))))
def bX7_refusalOfThread_49 (x1 : Int32) (x2 : Int32) (x3 : Int32) (x5 : Int32) (σ : x_S) : Option (Int32 × x_S) :=
  x_fx (α := Int32 → x_S → Option (Int32 × x_S)) (fun _ _ => none) (fun K => fun x5 σ => gX7_refusalOfThread_49  x1 x2 x3 K x5 σ) x_F x5 σ
def fX7_refusalOfThread (a1 : Int32) (a2 : Int32) (a3 : Int32) (σ : x_S) : Option (Int32 × x_S) :=
  x_p (fX5_isRow a1 σ) (fun r2 => if r2 = 0 then (some ((-1000001), σ)) else (x_p (fX7_isWithin a3 1 12 σ) (fun r5 => if r5 = 0 then (some ((-1000001), σ)) else (x_p (fX5_findingOf a1 a2 (2 * a3) σ) (fun r8 => if r8 = 0 then (bX7_refusalOfThread_49 a1 a2 a3 0 σ) else (x_b (fX7_found r8 σ) (fun r11 σ12 => some (r11, σ12))))))))
def gX7_owesAlong_3 (x1 : Int32) (x2 : Int32) (x3 : Int32) (x4 : Int32) (x5 : Int32) (K3 : Int32 → Option Int32) (x6 : Int32) (σ : x_S) : Option Int32 :=
  if x5 ≤ x6 then (some 1) else (x_p (fX5_at x3 (x4 + (2 * x6)) σ) (fun r3 => x_p (fX5_at x3 ((x4 + (2 * x6)) + 1) σ) (fun r5 => x_p (fX7_isStreet r3 σ) (fun r7 => if r7 = 0 then (some 0) else (x_p (fX2_owesSuch 32 x1 x2 r3 σ) (fun r10 => if r10 = r5 then (K3 (x6 + 1)) else (some 0)))))))
def bX7_owesAlong_3 (x1 : Int32) (x2 : Int32) (x3 : Int32) (x4 : Int32) (x5 : Int32) (x6 : Int32) (σ : x_S) : Option Int32 :=
  x_fx (α := Int32 → Option Int32) (fun _ => none) (fun K => fun x6 => gX7_owesAlong_3  x1 x2 x3 x4 x5 K x6 σ) x_F x6
def fX7_owesAlong (a1 : Int32) (a2 : Int32) (a3 : Int32) (a4 : Int32) (a5 : Int32) (σ : x_S) : Option Int32 :=
  bX7_owesAlong_3 a1 a2 a3 a4 a5 0 σ
def gX7_isSeenAlong_3 (x1 : Int32) (x2 : Int32) (x3 : Int32) (x4 : Int32) (K3 : Int32 → Option Int32) (x5 : Int32) (σ : x_S) : Option Int32 :=
  if x4 ≤ x5 then (some 1) else (x_p (fX5_at x2 (x3 + (2 * x5)) σ) (fun r3 => x_p (fX7_isStreet r3 σ) (fun r5 => if r5 = 0 then (some 0) else (x_p (fX2_isSeen 32 x1 r3 σ) (fun r8 => if r8 = 0 then (some 0) else (K3 (x5 + 1)))))))
def bX7_isSeenAlong_3 (x1 : Int32) (x2 : Int32) (x3 : Int32) (x4 : Int32) (x5 : Int32) (σ : x_S) : Option Int32 :=
  x_fx (α := Int32 → Option Int32) (fun _ => none) (fun K => fun x5 => gX7_isSeenAlong_3  x1 x2 x3 x4 K x5 σ) x_F x5
def fX7_isSeenAlong (a1 : Int32) (a2 : Int32) (a3 : Int32) (a4 : Int32) (σ : x_S) : Option Int32 :=
  bX7_isSeenAlong_3 a1 a2 a3 a4 0 σ
def gX7_thread_36 (x1 : Int32) (x2 : Int32) (x3 : Int32) (K36 : Int32 → Int32 → x_S → Option (Int32 × x_S)) (x5 : Int32) (x6 : Int32) (σ : x_S) : Option (Int32 × x_S) :=
  if (σ 32 5) ≤ x6 then (x_b (fX7_foundNothing x5 σ) (fun r3 σ4 => some (r3, σ4))) else (x_g (x_in x6 6) (x_g (x_in x6 6) (x_p (fX7_owesAlong (σ 35 x6.toNatClampNeg) (σ 36 x6.toNatClampNeg) x1 x2 x3 σ) (fun r8 => if r8 = 0 then (K36 x5 (x6 + 1) σ) else (x_p (fX7_isSeenAlong x6 x1 x2 x3 σ) (fun r11 => if r11 = 0 then (K36 x5 (x6 + 1) σ) else (K36 (x5 ||| (1 <<< (x6 &&& 31))) (x6 + 1) σ)))))))
def bX7_thread_36 (x1 : Int32) (x2 : Int32) (x3 : Int32) (x5 : Int32) (x6 : Int32) (σ : x_S) : Option (Int32 × x_S) :=
  x_fx (α := Int32 → Int32 → x_S → Option (Int32 × x_S)) (fun _ _ _ => none) (fun K => fun x5 x6 σ => gX7_thread_36  x1 x2 x3 K x5 x6 σ) x_F x5 x6 σ
def fX7_thread (a1 : Int32) (a2 : Int32) (a3 : Int32) (σ : x_S) : Option (Int32 × x_S) :=
  if (σ 32 0) = 0 then (some ((-1000002), σ)) else (x_b (fX7_refusalOfThread a1 a2 a3 σ) (fun r3 σ4 => if r3 = 0 then (bX7_thread_36 a1 a2 a3 0 0 σ4) else (some (r3, σ4))))
def gX7_inches_37 (x1 : Int32) (x2 : Int32) (x3 : Int32) (x4 : Int32) (K37 : Int32 → Int32 → x_S → Option (Int32 × x_S)) (x6 : Int32) (x7 : Int32) (σ : x_S) : Option (Int32 × x_S) :=
  if 30 < x7 then (x_b (fX7_foundNothing x6 σ) (fun r3 σ4 => some (r3, σ4))) else (x_g (x_in x1 6) (x_p (fX7_owesAlong (σ 35 x1.toNatClampNeg) x7 x2 x3 x4 σ) (fun r7 => if r7 = 0 then (K37 x6 (x7 + 1) σ) else (K37 (x6 ||| (1 <<< ((x7 - 1) &&& 31))) (x7 + 1) σ))))
def bX7_inches_37 (x1 : Int32) (x2 : Int32) (x3 : Int32) (x4 : Int32) (x6 : Int32) (x7 : Int32) (σ : x_S) : Option (Int32 × x_S) :=
  x_fx (α := Int32 → Int32 → x_S → Option (Int32 × x_S)) (fun _ _ _ => none) (fun K => fun x6 x7 σ => gX7_inches_37  x1 x2 x3 x4 K x6 x7 σ) x_F x6 x7 σ
def bX7_inches_21 (x1 : Int32) (x2 : Int32) (x3 : Int32) (x4 : Int32) (y0 : Int32) (σ : x_S) : Option (Int32 × x_S) :=
  if y0 = 0 then (bX7_inches_37 x1 x2 x3 x4 0 1 σ) else (some (y0, σ))
def fX7_inches (a1 : Int32) (a2 : Int32) (a3 : Int32) (a4 : Int32) (σ : x_S) : Option (Int32 × x_S) :=
  x_p (fX7_isGesture a1 σ) (fun r2 => if r2 = 0 then (bX7_inches_21 a1 a2 a3 a4 (-1000001) σ) else (x_b (fX7_refusalOfThread a2 a3 a4 σ) (fun r5 σ6 => bX7_inches_21 a1 a2 a3 a4 r5 σ6)))
def gX7_sorts_37 (x1 : Int32) (x2 : Int32) (x3 : Int32) (x4 : Int32) (K37 : Int32 → Int32 → x_S → Option (Int32 × x_S)) (x6 : Int32) (x7 : Int32) (σ : x_S) : Option (Int32 × x_S) :=
  if 5 < x7 then (x_b (fX7_foundNothing x6 σ) (fun r3 σ4 => some (r3, σ4))) else (x_g (x_in x1 6) (x_p (fX7_owesAlong x7 (σ 36 x1.toNatClampNeg) x2 x3 x4 σ) (fun r7 => if r7 = 0 then (K37 x6 (x7 + 1) σ) else (K37 (x6 ||| (1 <<< (x7 &&& 31))) (x7 + 1) σ))))
def bX7_sorts_37 (x1 : Int32) (x2 : Int32) (x3 : Int32) (x4 : Int32) (x6 : Int32) (x7 : Int32) (σ : x_S) : Option (Int32 × x_S) :=
  x_fx (α := Int32 → Int32 → x_S → Option (Int32 × x_S)) (fun _ _ _ => none) (fun K => fun x6 x7 σ => gX7_sorts_37  x1 x2 x3 x4 K x6 x7 σ) x_F x6 x7 σ
def bX7_sorts_21 (x1 : Int32) (x2 : Int32) (x3 : Int32) (x4 : Int32) (y0 : Int32) (σ : x_S) : Option (Int32 × x_S) :=
  if y0 = 0 then (bX7_sorts_37 x1 x2 x3 x4 0 1 σ) else (some (y0, σ))
def fX7_sorts (a1 : Int32) (a2 : Int32) (a3 : Int32) (a4 : Int32) (σ : x_S) : Option (Int32 × x_S) :=
  x_p (fX7_isGesture a1 σ) (fun r2 => if r2 = 0 then (bX7_sorts_21 a1 a2 a3 a4 (-1000001) σ) else (x_b (fX7_refusalOfThread a2 a3 a4 σ) (fun r5 σ6 => bX7_sorts_21 a1 a2 a3 a4 r5 σ6)))
def fX2_owesIfKnown (c0 : Nat) (a1 : Int32) (a2 : Int32) (σ : x_S) : Option Int32 :=
  x_g (x_in a1 6) (x_g (x_in a1 6) (x_p (fX2_owesUnknown c0 (σ (c0 + 3) a1.toNatClampNeg) (σ (c0 + 4) a1.toNatClampNeg) a2 σ) (fun r4 => some (r4 / 2))))
def gX7_saved_15 (x1 : Int32) (K15 : Int32 → Int32 → Option Int32) (x2 : Int32) (x3 : Int32) (σ : x_S) : Option Int32 :=
  if (σ 32 3) ≤ x3 then (some x2) else (x_p (fX2_owes 32 x1 x3 σ) (fun r3 => x_p (fX2_owesIfKnown 32 x1 x3 σ) (fun r5 => K15 (x2 + (r3 - r5)) (x3 + 1))))
def bX7_saved_15 (x1 : Int32) (x2 : Int32) (x3 : Int32) (σ : x_S) : Option Int32 :=
  x_fx (α := Int32 → Int32 → Option Int32) (fun _ _ => none) (fun K => fun x2 x3 => gX7_saved_15  x1 K x2 x3 σ) x_F x2 x3
def fX7_saved (a1 : Int32) (σ : x_S) : Option Int32 :=
  x_p (fX7_isGesture a1 σ) (fun r2 => if r2 = 0 then (some (-1000001)) else (bX7_saved_15 a1 0 0 σ))
def gX2_dearestStreet_4 (c0 : Nat) (x1 : Int32) (K4 : Int32 → Int32 → Option Int32) (x2 : Int32) (x3 : Int32) (σ : x_S) : Option Int32 :=
  if (σ c0 3) ≤ x3 then (some x2) else (x_p (fX2_owes c0 x1 x3 σ) (fun r3 => x_p (fX2_owes c0 x1 x2 σ) (fun r5 => if r3 ≤ r5 then (K4 x2 (x3 + 1)) else (K4 x3 (x3 + 1)))))
def bX2_dearestStreet_4 (c0 : Nat) (x1 : Int32) (x2 : Int32) (x3 : Int32) (σ : x_S) : Option Int32 :=
  x_fx (α := Int32 → Int32 → Option Int32) (fun _ _ => none) (fun K => fun x2 x3 => gX2_dearestStreet_4  c0 x1 K x2 x3 σ) x_F x2 x3
def fX2_dearestStreet (c0 : Nat) (a1 : Int32) (σ : x_S) : Option Int32 :=
  bX2_dearestStreet_4 c0 a1 0 1 σ
def fX7_worst (a1 : Int32) (a2 : Int32) (σ : x_S) : Option Int32 :=
  x_p (fX7_isGesture a1 σ) (fun r2 => if r2 = 0 then (some (-1000001)) else (x_p (fX7_isWithin a2 0 1 σ) (fun r5 => if r5 = 0 then (some (-1000001)) else (if (σ 32 3) = 0 then (some (-1000000)) else (x_p (fX2_dearestStreet 32 a1 σ) (fun r9 => if a2 = 0 then (some r9) else (x_p (fX2_owes 32 a1 r9 σ) (fun r12 => some r12))))))))
def hX7_tenthsWithin (rec : Nat → Int32 → Int32 → Int32 → Int32 → Int32 → x_S → Option Int32) (c0 : Nat) (a1 : Int32) (a2 : Int32) (a3 : Int32) (a4 : Int32) (a5 : Int32) (σ : x_S) : Option Int32 :=
  if 0 ≤ a4 then (if a3 < a2 then (some 1) else (if a2 < 0 then (some 1) else (if a2 < 7 then (x_g (x_in a1 6) (x_g (x_in a1 6) (x_p (fX2_owesSuch c0 (σ (c0 + 3) a1.toNatClampNeg) (σ (c0 + 4) a1.toNatClampNeg) a2 σ) (fun r8 => x_p (fX2_owesSuch c0 (σ (c0 + 3) a1.toNatClampNeg) ((σ (c0 + 4) a1.toNatClampNeg) + 1) a2 σ) (fun r10 => x_p (rec c0 a1 (a2 + 1) a3 (a4 - r8) a5 σ) (fun r12 => x_p (rec c0 a1 (a2 + 1) a3 (a4 - r10) a5 σ) (fun r14 => some (((10 - a5) * r12) + (a5 * r14))))))))) else (some 1)))) else (some 0)
def fX7_tenthsWithin_n (n : Nat) : Nat → Int32 → Int32 → Int32 → Int32 → Int32 → x_S → Option Int32 :=
  x_fx (α := Nat → Int32 → Int32 → Int32 → Int32 → Int32 → x_S → Option Int32) (fun _ _ _ _ _ _ _ => none) (fun rec => fun c0 a1 a2 a3 a4 a5 σ => hX7_tenthsWithin rec c0 a1 a2 a3 a4 a5 σ) n
def fX7_tenthsWithin (c0 : Nat) (a1 : Int32) (a2 : Int32) (a3 : Int32) (a4 : Int32) (a5 : Int32) (σ : x_S) : Option Int32 := fX7_tenthsWithin_n 12 c0 a1 a2 a3 a4 a5 σ
def gX7_commonDivisor_7 (K7 : Int32 → Int32 → Int32 → Option Int32) (x2 : Int32) (x3 : Int32) (x4 : Int32) (σ : x_S) : Option Int32 :=
  if 100 ≤ x4 then (some x2) else (if x3 = 0 then (some x2) else (x_g (¬ x3 = 0) (K7 x3 (x2 - x2 / x3 * x3) (x4 + 1))))
def bX7_commonDivisor_7 (x2 : Int32) (x3 : Int32) (x4 : Int32) (σ : x_S) : Option Int32 :=
  x_fx (α := Int32 → Int32 → Int32 → Option Int32) (fun _ _ _ => none) (fun K => fun x2 x3 x4 => gX7_commonDivisor_7   K x2 x3 x4 σ) x_F x2 x3 x4
def fX7_commonDivisor (a0 : Int32) (a1 : Int32) (σ : x_S) : Option Int32 :=
  bX7_commonDivisor_7 a0 a1 0 σ
def gX7_tremble_78 (x3 : Int32) (x6 : Int32) (x7 : Int32) (K78 : Int32 → Int32 → Option Int32) (x8 : Int32) (x9 : Int32) (σ : x_S) : Option Int32 :=
  if x3 < x9 then (x_p (fX7_commonDivisor x7 x8 σ) (fun r3 => if x6 = 0 then (x_g (¬ (if 1 < r3 then r3 else 1) = 0) (some (x7 / (if 1 < r3 then r3 else 1)))) else (x_g (¬ (if 1 < r3 then r3 else 1) = 0) (some (x8 / (if 1 < r3 then r3 else 1)))))) else (K78 (x8 * 10) (x9 + 1))
def bX7_tremble_78 (x3 : Int32) (x6 : Int32) (x7 : Int32) (x8 : Int32) (x9 : Int32) (σ : x_S) : Option Int32 :=
  x_fx (α := Int32 → Int32 → Option Int32) (fun _ _ => none) (fun K => fun x8 x9 => gX7_tremble_78  x3 x6 x7 K x8 x9 σ) x_F x8 x9
def fX7_tremble (a1 : Int32) (a2 : Int32) (a3 : Int32) (a4 : Int32) (a5 : Int32) (a6 : Int32) (σ : x_S) : Option Int32 :=
  x_p (fX7_isGesture a1 σ) (fun r2 => if r2 = 0 then (some (-1000001)) else (x_p (fX7_isStretch a2 a3 σ) (fun r5 => if r5 = 0 then (some (-1000001)) else (x_p (fX7_isWithin a4 0 9999 σ) (fun r8 => if r8 = 0 then (some (-1000001)) else (x_p (fX7_isWithin a5 0 10 σ) (fun r11 => if r11 = 0 then (some (-1000001)) else (x_p (fX7_isWithin a6 0 1 σ) (fun r14 => if r14 = 0 then (some (-1000001)) else (x_p (fX7_tenthsWithin 32 a1 a2 a3 a4 a5 σ) (fun r17 => bX7_tremble_78 a3 a6 r17 1 a2 σ)))))))))))
def fX7_image (a1 : Int32) (σ : x_S) : Option (Int32 × x_S) :=
  x_p (fX7_isWithin a1 0 1 σ) (fun r2 => if r2 = 0 then (some ((-1000001), σ)) else (if (σ 32 0) = 0 then (some ((-1000002), σ)) else (x_g (x_in a1 2) (x_v (fX2_become (48 + 8 * a1.toNatClampNeg) 32 σ) (fun σ7 => some (1, σ7))))))
def fX7_restore (a1 : Int32) (σ : x_S) : Option (Int32 × x_S) :=
  x_p (fX7_isWithin a1 0 1 σ) (fun r2 => if r2 = 0 then (some ((-1000001), σ)) else (x_g (x_in a1 2) (if (σ (48 + 8 * a1.toNatClampNeg) 0) = 0 then (some ((-1000002), σ)) else (x_g (x_in a1 2) (x_v (fX2_become 32 (48 + 8 * a1.toNatClampNeg) σ) (fun σ8 => x_v (fX0_forgetAll σ8) (fun σ10 => some (1, σ10))))))))
def fX7_kind (a1 : Int32) (σ : x_S) : Option Int32 :=
  x_p (fX7_isGesture a1 σ) (fun r2 => if r2 = 0 then (some (-1000001)) else (x_g (x_in a1 6) (some (σ 35 a1.toNatClampNeg))))
def fX3_widerThan (a0 : Int32) (σ : x_S) : Option Int32 :=
  if a0 < 0 then (some 0) else (if 6 ≤ a0 then (some 0) else (x_g (x_in a0 6) (some (s_t 0 a0.toNatClampNeg))))
def bX3_isOneOf_28 (x1 : Int32) (x2 : Int32) (σ : x_S) : Option Int32 :=
  if x2 = x1 then (some 1) else (some 0)
def gX3_isOneOf_4 (x1 : Int32) (K4 : Int32 → Int32 → Option Int32) (x2 : Int32) (x3 : Int32) (σ : x_S) : Option Int32 :=
  if 6 ≤ x3 then (bX3_isOneOf_28 x1 x2 σ) else (if x2 = x1 then (bX3_isOneOf_28 x1 x2 σ) else (x_p (fX3_widerThan x2 σ) (fun r4 => K4 r4 (x3 + 1))))
def bX3_isOneOf_4 (x1 : Int32) (x2 : Int32) (x3 : Int32) (σ : x_S) : Option Int32 :=
  x_fx (α := Int32 → Int32 → Option Int32) (fun _ _ => none) (fun K => fun x2 x3 => gX3_isOneOf_4  x1 K x2 x3 σ) x_F x2 x3
def fX3_isOneOf (a0 : Int32) (a1 : Int32) (σ : x_S) : Option Int32 :=
  bX3_isOneOf_4 a1 a0 0 σ
def fX7_as (a1 : Int32) (a2 : Int32) (σ : x_S) : Option (Int32 × x_S) :=
  x_p (fX7_isGesture a1 σ) (fun r2 => if r2 = 0 then (some ((-1000001), σ)) else (x_p (fX7_isWithin a2 0 5 σ) (fun r5 => if r5 = 0 then (some ((-1000001), σ)) else (x_g (x_in a1 6) (x_p (fX3_isOneOf (σ 35 a1.toNatClampNeg) a2 σ) (fun r9 => if r9 = 0 then (x_b (fX7_found 3 σ) (fun r12 σ13 => some (r12, σ13))) else (x_b (fX7_foundNothing a1 σ) (fun r15 σ16 => some (r15, σ16)))))))))
def bX1_bodyFor_30 (K4 : Int32 → Int32 → Option Int32) (b0 : Nat) (x2 : Int32) (x3 : Int32) (σ : x_S) : Option Int32 :=
  x_p (fX3_widerThan x2 σ) (fun r2 => K4 r2 (x3 + 1))
def gX1_bodyFor_4 (b0 : Nat) (K4 : Int32 → Int32 → Option Int32) (x2 : Int32) (x3 : Int32) (σ : x_S) : Option Int32 :=
  if 6 ≤ x3 then (some 0) else (if x2 < 0 then (bX1_bodyFor_30 K4 b0 x2 x3 σ) else (if 6 ≤ x2 then (bX1_bodyFor_30 K4 b0 x2 x3 σ) else (x_g (x_in x2 6) (if (s_t b0 x2.toNatClampNeg) = 0 then (bX1_bodyFor_30 K4 b0 x2 x3 σ) else (x_g (x_in x2 6) (some (s_t b0 x2.toNatClampNeg)))))))
def bX1_bodyFor_4 (b0 : Nat) (x2 : Int32) (x3 : Int32) (σ : x_S) : Option Int32 :=
  x_fx (α := Int32 → Int32 → Option Int32) (fun _ _ => none) (fun K => fun x2 x3 => gX1_bodyFor_4  b0 K x2 x3 σ) x_F x2 x3
def fX1_bodyFor (b0 : Nat) (a1 : Int32) (σ : x_S) : Option Int32 :=
  bX1_bodyFor_4 b0 a1 0 σ
def bX1_asked_13 (rec : Int32 → Nat → Int32 → Int32 → x_S → Option (Int32 × x_S)) (c1 : Nat) (x2 : Int32) (x4 : Int32) (yb0 : Nat) (σ : x_S) : Option (Int32 × x_S) :=
  x_g (x_in x2 6) (x_p (fX1_bodyFor yb0 (σ (c1 + 3) x2.toNatClampNeg) σ) (fun r3 => x_b (rec r3 c1 x2 x4 σ) (fun r5 σ6 => some (r5, σ6))))
def fX1_asked (rec : Int32 → Nat → Int32 → Int32 → x_S → Option (Int32 × x_S)) (c1 : Nat) (a2 : Int32) (a3 : Int32) (a4 : Int32) (σ : x_S) : Option (Int32 × x_S) :=
  if a3 = 0 then (bX1_asked_13 rec c1 a2 a4 1 σ) else (bX1_asked_13 rec c1 a2 a4 2 σ)
def hX1_given (rec : Int32 → Nat → Int32 → Int32 → x_S → Option (Int32 × x_S)) (a1 : Int32) (c2 : Nat) (a3 : Int32) (a4 : Int32) (σ : x_S) : Option (Int32 × x_S) :=
  if a4 < 16 then (x_v (fX1_leave a1 σ) (fun σ3 => if a1 = 10 then (x_g (x_in a3 6) (some ((σ3 (c2 + 6) a3.toNatClampNeg), σ3))) else (if a1 = 11 then (x_b (rec 10 c2 a3 (a4 + 1) σ3) (fun r8 σ9 => x_b (fX1_asked rec c2 a3 1 (a4 + 1) σ9) (fun r11 σ12 => some ((r8 + r11), σ12)))) else (if a1 = 12 then (x_b (rec 11 c2 a3 (a4 + 1) σ3) (fun r15 σ16 => some ((-r15), σ16))) else (if a1 = 13 then (x_b (rec 10 c2 a3 (a4 + 1) σ3) (fun r19 σ20 => some ((r19 - 100), σ20))) else (if a1 = 14 then (x_b (rec 13 c2 a3 (a4 + 1) σ3) (fun r23 σ24 => some ((2 * r23), σ24))) else (if a1 = 15 then (some (0, σ3)) else (if a1 = 16 then (some (0, σ3)) else (if a1 = 17 then (some (0, σ3)) else (if a1 = 18 then (some (0, σ3)) else (if a1 = 19 then (some (0, σ3)) else (if a1 = 20 then (some (a3, σ3)) else (if a1 = 21 then (x_b (rec 20 c2 a3 (a4 + 1) σ3) (fun r33 σ34 => x_g (x_in a3 6) (some ((r33 + (σ34 (c2 + 4) a3.toNatClampNeg)), σ34)))) else (if a1 = 22 then (x_b (rec 21 c2 a3 (a4 + 1) σ3) (fun r38 σ39 => some ((r38 - 1000), σ39))) else (if a1 = 23 then (x_b (rec 20 c2 a3 (a4 + 1) σ3) (fun r42 σ43 => x_b (fX1_asked rec c2 a3 0 (a4 + 1) σ43) (fun r45 σ46 => some ((r42 - r45), σ46)))) else (if a1 = 24 then (x_b (rec 21 c2 a3 (a4 + 1) σ3) (fun r49 σ50 => some ((2 * r49), σ50))) else (some (0, σ3)))))))))))))))))) else (some (0, σ))
def fX1_given_n (n : Nat) : Int32 → Nat → Int32 → Int32 → x_S → Option (Int32 × x_S) :=
  x_fx (α := Int32 → Nat → Int32 → Int32 → x_S → Option (Int32 × x_S)) (fun _ _ _ _ _ => none) (fun rec => fun a1 c2 a3 a4 σ => hX1_given rec a1 c2 a3 a4 σ) n
def fX1_given (a1 : Int32) (c2 : Nat) (a3 : Int32) (a4 : Int32) (σ : x_S) : Option (Int32 × x_S) := fX1_given_n 12 a1 c2 a3 a4 σ
def fX1_answer (c1 : Nat) (a2 : Int32) (a3 : Int32) (σ : x_S) : Option (Int32 × x_S) :=
  x_w (x_u σ 30 1 0) (fun σ1 => x_b (fX1_asked (fX1_given_n 12) c1 a2 a3 0 σ1) (fun r4 σ5 => some (r4, σ5)))
def fX7_ask (a1 : Int32) (a2 : Int32) (σ : x_S) : Option (Int32 × x_S) :=
  x_p (fX7_isGesture a1 σ) (fun r2 => if r2 = 0 then (some ((-1000001), σ)) else (x_p (fX7_isWithin a2 0 1 σ) (fun r5 => if r5 = 0 then (some ((-1000001), σ)) else (x_b (fX1_answer 32 a1 a2 σ) (fun r8 σ9 => some (r8, σ9))))))
def fX1_numberLeft (a1 : Int32) (σ : x_S) : Option Int32 :=
  if a1 < 0 then (some (-1000000)) else (if (σ 30 1) ≤ a1 then (some (-1000000)) else (x_g (x_in a1 16) (some (σ 31 a1.toNatClampNeg))))
def fX7_trace (a1 : Int32) (σ : x_S) : Option Int32 :=
  x_p (fX1_numberLeft a1 σ) (fun r2 => some r2)
def gX5_howMany_4 (K4 : Int32 → Int32 → Option Int32) (x1 : Int32) (x2 : Int32) (σ : x_S) : Option Int32 :=
  if 8 ≤ x2 then (some x1) else (x_p (fX5_isMissing x2 σ) (fun r3 => if r3 = 0 then (K4 (x1 + 1) (x2 + 1)) else (K4 (x1 + 0) (x2 + 1))))
def bX5_howMany_4 (x1 : Int32) (x2 : Int32) (σ : x_S) : Option Int32 :=
  x_fx (α := Int32 → Int32 → Option Int32) (fun _ _ => none) (fun K => fun x1 x2 => gX5_howMany_4   K x1 x2 σ) x_F x1 x2
def fX5_howMany (σ : x_S) : Option Int32 :=
  bX5_howMany_4 0 0 σ
def fJ6_bitCount_0f7a4 (a0 : Int32) (σ : x_S) : Option Int32 :=
  some ((((((((a0 - (((a0.toUInt32 >>> ((1 : Int32).toUInt32 &&& Int32.toUInt32 31)).toInt32) &&& 1431655765)) &&& 858993459) + ((((a0 - (((a0.toUInt32 >>> ((1 : Int32).toUInt32 &&& Int32.toUInt32 31)).toInt32) &&& 1431655765)).toUInt32 >>> ((2 : Int32).toUInt32 &&& Int32.toUInt32 31)).toInt32) &&& 858993459)) + (((((a0 - (((a0.toUInt32 >>> ((1 : Int32).toUInt32 &&& Int32.toUInt32 31)).toInt32) &&& 1431655765)) &&& 858993459) + ((((a0 - (((a0.toUInt32 >>> ((1 : Int32).toUInt32 &&& Int32.toUInt32 31)).toInt32) &&& 1431655765)).toUInt32 >>> ((2 : Int32).toUInt32 &&& Int32.toUInt32 31)).toInt32) &&& 858993459)).toUInt32 >>> ((4 : Int32).toUInt32 &&& Int32.toUInt32 31)).toInt32)) &&& 252645135) + (((((((a0 - (((a0.toUInt32 >>> ((1 : Int32).toUInt32 &&& Int32.toUInt32 31)).toInt32) &&& 1431655765)) &&& 858993459) + ((((a0 - (((a0.toUInt32 >>> ((1 : Int32).toUInt32 &&& Int32.toUInt32 31)).toInt32) &&& 1431655765)).toUInt32 >>> ((2 : Int32).toUInt32 &&& Int32.toUInt32 31)).toInt32) &&& 858993459)) + (((((a0 - (((a0.toUInt32 >>> ((1 : Int32).toUInt32 &&& Int32.toUInt32 31)).toInt32) &&& 1431655765)) &&& 858993459) + ((((a0 - (((a0.toUInt32 >>> ((1 : Int32).toUInt32 &&& Int32.toUInt32 31)).toInt32) &&& 1431655765)).toUInt32 >>> ((2 : Int32).toUInt32 &&& Int32.toUInt32 31)).toInt32) &&& 858993459)).toUInt32 >>> ((4 : Int32).toUInt32 &&& Int32.toUInt32 31)).toInt32)) &&& 252645135).toUInt32 >>> ((8 : Int32).toUInt32 &&& Int32.toUInt32 31)).toInt32)) + ((((((((a0 - (((a0.toUInt32 >>> ((1 : Int32).toUInt32 &&& Int32.toUInt32 31)).toInt32) &&& 1431655765)) &&& 858993459) + ((((a0 - (((a0.toUInt32 >>> ((1 : Int32).toUInt32 &&& Int32.toUInt32 31)).toInt32) &&& 1431655765)).toUInt32 >>> ((2 : Int32).toUInt32 &&& Int32.toUInt32 31)).toInt32) &&& 858993459)) + (((((a0 - (((a0.toUInt32 >>> ((1 : Int32).toUInt32 &&& Int32.toUInt32 31)).toInt32) &&& 1431655765)) &&& 858993459) + ((((a0 - (((a0.toUInt32 >>> ((1 : Int32).toUInt32 &&& Int32.toUInt32 31)).toInt32) &&& 1431655765)).toUInt32 >>> ((2 : Int32).toUInt32 &&& Int32.toUInt32 31)).toInt32) &&& 858993459)).toUInt32 >>> ((4 : Int32).toUInt32 &&& Int32.toUInt32 31)).toInt32)) &&& 252645135) + (((((((a0 - (((a0.toUInt32 >>> ((1 : Int32).toUInt32 &&& Int32.toUInt32 31)).toInt32) &&& 1431655765)) &&& 858993459) + ((((a0 - (((a0.toUInt32 >>> ((1 : Int32).toUInt32 &&& Int32.toUInt32 31)).toInt32) &&& 1431655765)).toUInt32 >>> ((2 : Int32).toUInt32 &&& Int32.toUInt32 31)).toInt32) &&& 858993459)) + (((((a0 - (((a0.toUInt32 >>> ((1 : Int32).toUInt32 &&& Int32.toUInt32 31)).toInt32) &&& 1431655765)) &&& 858993459) + ((((a0 - (((a0.toUInt32 >>> ((1 : Int32).toUInt32 &&& Int32.toUInt32 31)).toInt32) &&& 1431655765)).toUInt32 >>> ((2 : Int32).toUInt32 &&& Int32.toUInt32 31)).toInt32) &&& 858993459)).toUInt32 >>> ((4 : Int32).toUInt32 &&& Int32.toUInt32 31)).toInt32)) &&& 252645135).toUInt32 >>> ((8 : Int32).toUInt32 &&& Int32.toUInt32 31)).toInt32)).toUInt32 >>> ((16 : Int32).toUInt32 &&& Int32.toUInt32 31)).toInt32)) &&& 63)
def fX7_count (a1 : Int32) (σ : x_S) : Option Int32 :=
  if a1 = 0 then (x_p (fX5_howMany σ) (fun r3 => some r3)) else (if a1 = 1 then (some (σ 32 3)) else (if a1 = 2 then (some (σ 32 5)) else (if a1 = 3 then (some (σ 32 2)) else (if a1 = 4 then (some (σ 32 1)) else (if a1 = 5 then (x_p (fJ6_bitCount_0f7a4 (σ 32 4) σ) (fun r10 => some r10)) else (if a1 = 6 then (some (σ 16 4)) else (if a1 = 7 then (some (σ 13 1)) else (some (-1000001)))))))))
def fX7_status (σ : x_S) : Option Int32 :=
  some (σ 0 8)
def fX8_in (a0 : Int64) (a2 : Int64) (a4 : Int64) (σ : x_S) : Option Int32 :=
  if (lg_cmp a0 a2) < 0 then (some 0) else (if 0 < (lg_cmp a0 a4) then (some 0) else (some 1))
def fX8_has (a0 : Int32) (a1 : Int32) (σ : x_S) : Option Int32 :=
  if ((a0 >>> (a1 &&& 31)) &&& 1) = 1 then (some 1) else (some 0)
def gX8_bits_4 (x0 : Int32) (K4 : Int32 → Int32 → Option Int32) (x1 : Int32) (x2 : Int32) (σ : x_S) : Option Int32 :=
  if 7 ≤ x2 then (some x1) else (K4 (x1 + ((x0 >>> (x2 &&& 31)) &&& 1)) (x2 + 1))
def bX8_bits_4 (x0 : Int32) (x1 : Int32) (x2 : Int32) (σ : x_S) : Option Int32 :=
  x_fx (α := Int32 → Int32 → Option Int32) (fun _ _ => none) (fun K => fun x1 x2 => gX8_bits_4  x0 K x1 x2 σ) x_F x1 x2
def fX8_bits (a0 : Int32) (σ : x_S) : Option Int32 :=
  bX8_bits_4 a0 0 0 σ
def fX8_find (a1 : Int32) (σ : x_S) : Option (Int32 × x_S) :=
  x_w (x_u σ 0 10 a1) (fun σ1 => some (((-1000010) - a1), σ1))
def fX8_well (a1 : Int32) (σ : x_S) : Option (Int32 × x_S) :=
  x_w (x_u σ 0 10 0) (fun σ1 => some (a1, σ1))
def fX8_isRow (a0 : Int32) (σ : x_S) : Option Int32 :=
  x_p (fX8_in a0.toInt64 0 7 σ) (fun r2 => x_g (r2 &&& 1 = r2) (some r2))
def gX8_row_55 (x1 : Int32) (x3 : Int32) (K55 : Int32 → x_S → Option (Int32 × x_S)) (x4 : Int32) (σ : x_S) : Option (Int32 × x_S) :=
  if 40 ≤ x4 then (x_b (fX8_well x3 σ) (fun r3 σ4 => some (r3, σ4))) else (x_g (x_in ((40 * x1) + x4) 320) (x_w (x_u σ 5 ((40 * x1) + x4).toNatClampNeg 0) (fun σ6 => K55 (x4 + 1) σ6)))
def bX8_row_55 (x1 : Int32) (x3 : Int32) (x4 : Int32) (σ : x_S) : Option (Int32 × x_S) :=
  x_fx (α := Int32 → x_S → Option (Int32 × x_S)) (fun _ _ => none) (fun K => fun x4 σ => gX8_row_55  x1 x3 K x4 σ) x_F x4 σ
def fX8_row (a1 : Int32) (a2 : Int32) (a3 : Int32) (σ : x_S) : Option (Int32 × x_S) :=
  x_p (fX8_isRow a1 σ) (fun r2 => if r2 = 0 then (some ((-1000001), σ)) else (x_p (fX8_in a2.toInt64 0 2 σ) (fun r5 => if r5 = 0 then (some ((-1000001), σ)) else (if a3 ≤ 40 then (if 0 ≤ a3 then (x_g (x_in a1 8) (x_w (x_u σ 3 a1.toNatClampNeg a2) (fun σ10 => x_g (x_in a1 8) (x_w (x_u σ10 4 a1.toNatClampNeg a3) (fun σ13 => bX8_row_55 a1 a3 0 σ13))))) else (x_b (fX8_find 4 σ) (fun r16 σ17 => some (r16, σ17)))) else (some ((-1000001), σ))))))
def fX8_narrow (a0 : Int32) (a1 : Int32) (σ : x_S) : Option Int32 :=
  if a1 = 0 then (some a0.toInt8.toInt32) else (if a1 = 1 then (some a0.toInt16.toInt32) else (some a0))
def fX8_set (a1 : Int32) (a2 : Int32) (a3 : Int32) (σ : x_S) : Option (Int32 × x_S) :=
  x_p (fX8_isRow a1 σ) (fun r2 => if r2 = 0 then (some ((-1000001), σ)) else (x_g (x_in a1 8) (if 0 ≤ (σ 4 a1.toNatClampNeg) then (x_g (x_in a1 8) (x_p (fX8_in a2.toInt64 0 (((σ 4 a1.toNatClampNeg) - 1).toInt64) σ) (fun r8 => if r8 = 0 then (x_b (fX8_find 2 σ) (fun r21 σ22 => some (r21, σ22))) else (x_g (x_in a1 8) (x_p (fX8_narrow a3 (σ 3 a1.toNatClampNeg) σ) (fun r12 => x_g (x_in ((40 * a1) + a2) 320) (x_w (x_u σ 5 ((40 * a1) + a2).toNatClampNeg r12) (fun σ14 => x_g (x_in ((40 * a1) + a2) 320) (x_b (fX8_well (σ14 5 ((40 * a1) + a2).toNatClampNeg) σ14) (fun r18 σ19 => some (r18, σ19))))))))))) else (x_b (fX8_find 1 σ) (fun r24 σ25 => some (r24, σ25))))))
def fX8_isSpan (a1 : Int32) (a2 : Int32) (a3 : Int32) (σ : x_S) : Option Int32 :=
  if a2 < 0 then (some 0) else (if a3 < 0 then (some 0) else (x_g (x_in a1 8) (if 0 < (lg_cmp (a2.toInt64 + a3.toInt64) ((σ 4 a1.toNatClampNeg).toInt64)) then (some 0) else (some 1))))
def bX8_copy_35 (σ : x_S) : Option (Int32 × x_S) :=
  x_b (fX8_find 1 σ) (fun r2 σ3 => some (r2, σ3))
def bX8_copy_85 (σ : x_S) : Option (Int32 × x_S) :=
  x_b (fX8_find 2 σ) (fun r2 σ3 => some (r2, σ3))
def bX8_copy_131 (K107 : Int32 → x_S → Option (Int32 × x_S)) (x1 : Int32) (x2 : Int32) (x3 : Int32) (x4 : Int32) (x5 : Int32) (x6 : Int32) (x7 : Int32) (y0 : Int32) (σ : x_S) : Option (Int32 × x_S) :=
  x_g (x_in (((40 * x1) + x2) + y0) 320) (x_g (x_in (((40 * x3) + x4) + y0) 320) (x_w (x_u σ 5 (((40 * x3) + x4) + y0).toNatClampNeg (σ 5 (((40 * x1) + x2) + y0).toNatClampNeg)) (fun σ3 => K107 (x7 + 1) σ3)))
def gX8_copy_107 (x1 : Int32) (x2 : Int32) (x3 : Int32) (x4 : Int32) (x5 : Int32) (x6 : Int32) (K107 : Int32 → x_S → Option (Int32 × x_S)) (x7 : Int32) (σ : x_S) : Option (Int32 × x_S) :=
  if x5 ≤ x7 then (x_b (fX8_well x5 σ) (fun r3 σ4 => some (r3, σ4))) else (if x6 = 0 then (bX8_copy_131 K107 x1 x2 x3 x4 x5 x6 x7 x7 σ) else (bX8_copy_131 K107 x1 x2 x3 x4 x5 x6 x7 ((x5 - 1) - x7) σ))
def bX8_copy_107 (x1 : Int32) (x2 : Int32) (x3 : Int32) (x4 : Int32) (x5 : Int32) (x6 : Int32) (x7 : Int32) (σ : x_S) : Option (Int32 × x_S) :=
  x_fx (α := Int32 → x_S → Option (Int32 × x_S)) (fun _ _ => none) (fun K => fun x7 σ => gX8_copy_107  x1 x2 x3 x4 x5 x6 K x7 σ) x_F x7 σ
def fX8_copy (a1 : Int32) (a2 : Int32) (a3 : Int32) (a4 : Int32) (a5 : Int32) (σ : x_S) : Option (Int32 × x_S) :=
  x_p (fX8_isRow a1 σ) (fun r2 => if r2 = 0 then (some ((-1000001), σ)) else (x_p (fX8_isRow a3 σ) (fun r5 => if r5 = 0 then (some ((-1000001), σ)) else (x_g (x_in a1 8) (if (σ 4 a1.toNatClampNeg) < 0 then (bX8_copy_35 σ) else (x_g (x_in a3 8) (if 0 ≤ (σ 4 a3.toNatClampNeg) then (x_g (x_in a1 8) (x_g (x_in a3 8) (if (σ 3 a1.toNatClampNeg) = (σ 3 a3.toNatClampNeg) then (x_p (fX8_isSpan a1 a2 a5 σ) (fun r15 => if r15 = 0 then (bX8_copy_85 σ) else (x_p (fX8_isSpan a3 a4 a5 σ) (fun r18 => if r18 = 0 then (bX8_copy_85 σ) else (if a4 ≤ a2 then (bX8_copy_107 a1 a2 a3 a4 a5 0 0 σ) else (bX8_copy_107 a1 a2 a3 a4 a5 1 0 σ)))))) else (x_b (fX8_find 5 σ) (fun r22 σ23 => some (r22, σ23)))))) else (bX8_copy_35 σ))))))))
def fX8_drop (a1 : Int32) (σ : x_S) : Option (Int32 × x_S) :=
  x_p (fX8_isRow a1 σ) (fun r2 => if r2 = 0 then (some ((-1000001), σ)) else (x_g (x_in a1 8) (if 0 ≤ (σ 4 a1.toNatClampNeg) then (x_g (x_in a1 8) (x_g (x_in a1 8) (x_w (x_u σ 4 a1.toNatClampNeg (-1)) (fun σ8 => x_b (fX8_well (σ 4 a1.toNatClampNeg) σ8) (fun r11 σ12 => some (r11, σ12)))))) else (x_b (fX8_find 1 σ) (fun r14 σ15 => some (r14, σ15))))))
def fX8_feed (a1 : Int32) (σ : x_S) : Option (Int32 × x_S) :=
  x_p (fX8_in a1.toInt64 0 255 σ) (fun r2 => if r2 = 0 then (some ((-1000001), σ)) else (if (σ 0 8) = 120 then (some ((-1000003), σ)) else (x_g (x_in (σ 0 8) 120) (x_w (x_u σ 6 (σ 0 8).toNatClampNeg a1) (fun σ6 => x_w (x_u σ6 0 8 ((σ6 0 8) + 1)) (fun σ8 => some ((σ8 0 8), σ8)))))))
def fX8_isLetter (a1 : Int32) (σ : x_S) : Option Int32 :=
  if (σ 0 8) ≤ (σ 0 13) then (some 0) else (x_g (x_in (σ 0 13) 120) (if (σ 6 (σ 0 13).toNatClampNeg) = a1 then (some 1) else (some 0)))
def fX8_isFigure (a1 : Int32) (σ : x_S) : Option Int32 :=
  if (σ 0 8) ≤ a1 then (some 0) else (x_g (x_in a1 120) (x_p (fX8_in ((σ 6 a1.toNatClampNeg).toInt64) 48 57 σ) (fun r4 => if r4 = 0 then (some 0) else (some 1))))
def fX8_refuse (a1 : Int32) (σ : x_S) : Option (Int32 × x_S) :=
  x_w (x_u σ 0 14 a1) (fun σ1 => some (0, σ1))
def fX8_sign (a1 : Int32) (σ : x_S) : Option (Int32 × x_S) :=
  x_p (fX8_isLetter a1 σ) (fun r2 => if r2 = 0 then (x_b (fX8_refuse 1 σ) (fun r7 σ8 => x_g (r7 &&& 1 = r7) (some (r7, σ8)))) else (x_w (x_u σ 0 13 ((σ 0 13) + 1)) (fun σ4 => some (1, σ4))))
def bX8_readsNumber_37 (σ : x_S) : Option (Int32 × x_S) :=
  x_b (fX8_refuse 1 σ) (fun r2 σ3 => x_g (r2 &&& 1 = r2) (some (r2, σ3)))
def bX8_readsNumber_113 (x1 : Int32) (x2 : Int32) (x3 : Int32) (y0 : Int32) (σ : x_S) : Option (Int32 × x_S) :=
  x_w (x_u σ 0 15 y0) (fun σ1 => x_p (fX8_in ((σ1 0 15).toInt64) x1.toInt64 x2.toInt64 σ1) (fun r4 => if r4 = 0 then (x_b (fX8_refuse 2 σ1) (fun r9 σ10 => x_g (r9 &&& 1 = r9) (some (r9, σ10)))) else (x_w (x_u σ1 0 13 ((σ1 0 13) + x3)) (fun σ6 => some (1, σ6)))))
def bX8_readsNumber_77 (x1 : Int32) (x2 : Int32) (y0 : Int32) (σ : x_S) : Option (Int32 × x_S) :=
  if y0 = 2 then (x_g (x_in ((σ 0 13) + 1) 120) (bX8_readsNumber_113 x1 x2 y0 (((10 * (σ 0 15)) + (σ 6 ((σ 0 13) + 1).toNatClampNeg)) - 48) σ)) else (bX8_readsNumber_113 x1 x2 y0 (σ 0 15) σ)
def bX8_readsNumber_43 (x1 : Int32) (x2 : Int32) (σ : x_S) : Option (Int32 × x_S) :=
  x_g (x_in (σ 0 13) 120) (x_w (x_u σ 0 15 ((σ 6 (σ 0 13).toNatClampNeg) - 48)) (fun σ2 => x_p (fX8_isFigure ((σ2 0 13) + 1) σ2) (fun r5 => if r5 = 0 then (bX8_readsNumber_77 x1 x2 1 σ2) else (bX8_readsNumber_77 x1 x2 2 σ2))))
def fX8_readsNumber (a1 : Int32) (a2 : Int32) (σ : x_S) : Option (Int32 × x_S) :=
  x_p (fX8_isFigure (σ 0 13) σ) (fun r2 => if r2 = 0 then (bX8_readsNumber_37 σ) else (x_p (fX8_isFigure ((σ 0 13) + 1) σ) (fun r5 => if r5 = 0 then (bX8_readsNumber_43 a1 a2 σ) else (x_p (fX8_isFigure ((σ 0 13) + 2) σ) (fun r8 => if r8 = 0 then (bX8_readsNumber_43 a1 a2 σ) else (bX8_readsNumber_37 σ))))))
def fX8_readsLaw (σ : x_S) : Option (Int32 × x_S) :=
  x_b (fX8_sign 100 σ) (fun r2 σ3 => if r2 = 0 then (some (0, σ3)) else (x_b (fX8_readsNumber 1 9 σ3) (fun r6 σ7 => if r6 = 0 then (some (0, σ7)) else (x_g (x_in (1323 : Int32) 1372) (x_w (x_u σ7 1 (1323 : Int32).toNatClampNeg (σ7 0 15)) (fun σ10 => x_b (fX8_sign 59 σ10) (fun r13 σ14 => x_g (r13 &&& 1 = r13) (some (r13, σ14)))))))))
def fX8_readsStreet (σ : x_S) : Option (Int32 × x_S) :=
  if (σ 1 (1324 : Int32).toNatClampNeg) = 7 then (x_b (fX8_refuse 3 σ) (fun r32 σ33 => x_g (r32 &&& 1 = r32) (some (r32, σ33)))) else (x_w (x_u σ 0 13 ((σ 0 13) + 1)) (fun σ3 => x_b (fX8_readsNumber 0 30 σ3) (fun r6 σ7 => if r6 = 0 then (some (0, σ7)) else (x_g (x_in (1328 + (σ 1 (1324 : Int32).toNatClampNeg)) 1372) (x_w (x_u σ7 1 (1328 + (σ 1 (1324 : Int32).toNatClampNeg)).toNatClampNeg (σ7 0 15)) (fun σ10 => x_b (fX8_sign 44 σ10) (fun r13 σ14 => if r13 = 0 then (some (0, σ14)) else (x_b (fX8_readsNumber 0 9 σ14) (fun r17 σ18 => if r17 = 0 then (some (0, σ18)) else (x_g (x_in (1335 + (σ 1 (1324 : Int32).toNatClampNeg)) 1372) (x_w (x_u σ18 1 (1335 + (σ 1 (1324 : Int32).toNatClampNeg)).toNatClampNeg (σ18 0 15)) (fun σ21 => x_g (x_in (1324 : Int32) 1372) (x_w (x_u σ21 1 (1324 : Int32).toNatClampNeg ((σ21 1 (1324 : Int32).toNatClampNeg) + 1)) (fun σ25 => x_b (fX8_sign 59 σ25) (fun r28 σ29 => x_g (r28 &&& 1 = r28) (some (r28, σ29)))))))))))))))))
def fX8_kindOfLetter (a0 : Int32) (σ : x_S) : Option Int32 :=
  if a0 = 119 then (some 1) else (if a0 = 110 then (some 2) else (if a0 = 98 then (some 3) else (if a0 = 107 then (some 4) else (if a0 = 115 then (some 5) else (some 0)))))
def fX8_readsGesture (σ : x_S) : Option (Int32 × x_S) :=
  if (σ 1 (1325 : Int32).toNatClampNeg) = 6 then (x_b (fX8_refuse 3 σ) (fun r49 σ50 => x_g (r49 &&& 1 = r49) (some (r49, σ50)))) else (x_g (x_in (σ 0 13) 120) (x_p (fX8_kindOfLetter (σ 6 (σ 0 13).toNatClampNeg) σ) (fun r5 => x_g (x_in (1342 + (σ 1 (1325 : Int32).toNatClampNeg)) 1372) (x_w (x_u σ 1 (1342 + (σ 1 (1325 : Int32).toNatClampNeg)).toNatClampNeg r5) (fun σ7 => x_w (x_u σ7 0 13 ((σ7 0 13) + 1)) (fun σ9 => x_b (fX8_readsNumber 1 30 σ9) (fun r12 σ13 => if r12 = 0 then (some (0, σ13)) else (x_g (x_in (1348 + (σ 1 (1325 : Int32).toNatClampNeg)) 1372) (x_w (x_u σ13 1 (1348 + (σ 1 (1325 : Int32).toNatClampNeg)).toNatClampNeg (σ13 0 15)) (fun σ16 => x_b (fX8_sign 44 σ16) (fun r19 σ20 => if r19 = 0 then (some (0, σ20)) else (x_b (fX8_readsNumber 0 3 σ20) (fun r23 σ24 => if r23 = 0 then (some (0, σ24)) else (x_g (x_in (1354 + (σ 1 (1325 : Int32).toNatClampNeg)) 1372) (x_w (x_u σ24 1 (1354 + (σ 1 (1325 : Int32).toNatClampNeg)).toNatClampNeg (σ24 0 15)) (fun σ27 => x_b (fX8_sign 44 σ27) (fun r30 σ31 => if r30 = 0 then (some (0, σ31)) else (x_b (fX8_readsNumber 1 9 σ31) (fun r34 σ35 => if r34 = 0 then (some (0, σ35)) else (x_g (x_in (1360 + (σ 1 (1325 : Int32).toNatClampNeg)) 1372) (x_w (x_u σ35 1 (1360 + (σ 1 (1325 : Int32).toNatClampNeg)).toNatClampNeg (σ35 0 15)) (fun σ38 => x_g (x_in (1325 : Int32) 1372) (x_w (x_u σ38 1 (1325 : Int32).toNatClampNeg ((σ38 1 (1325 : Int32).toNatClampNeg) + 1)) (fun σ42 => x_b (fX8_sign 59 σ42) (fun r45 σ46 => x_g (r45 &&& 1 = r45) (some (r45, σ46)))))))))))))))))))))))))))
def bX8_reads_94 (x1 : Int32) (σ : x_S) : Option (Int32 × x_S) :=
  if x1 = 0 then (some (0, σ)) else (if (σ 0 13) = (σ 0 8) then (some (1, σ)) else (x_b (fX8_refuse 1 σ) (fun r4 σ5 => if r4 = 0 then (some (0, σ5)) else (some (1, σ5)))))
def gX8_reads_56 (K56 : Int32 → x_S → Option (Int32 × x_S)) (x1 : Int32) (σ : x_S) : Option (Int32 × x_S) :=
  if x1 = 0 then (bX8_reads_94 x1 σ) else (if (σ 0 8) ≤ (σ 0 13) then (bX8_reads_94 x1 σ) else (x_g (x_in (σ 0 13) 120) (x_p (fX8_kindOfLetter (σ 6 (σ 0 13).toNatClampNeg) σ) (fun r5 => if r5 ≤ 0 then (bX8_reads_94 x1 σ) else (x_b (fX8_readsGesture σ) (fun r8 σ9 => K56 r8 σ9))))))
def bX8_reads_56 (x1 : Int32) (σ : x_S) : Option (Int32 × x_S) :=
  x_fx (α := Int32 → x_S → Option (Int32 × x_S)) (fun _ _ => none) (fun K => fun x1 σ => gX8_reads_56   K x1 σ) x_F x1 σ
def gX8_reads_35 (K35 : Int32 → x_S → Option (Int32 × x_S)) (x1 : Int32) (σ : x_S) : Option (Int32 × x_S) :=
  if x1 = 0 then (bX8_reads_56 x1 σ) else (x_p (fX8_isLetter 114 σ) (fun r3 => if r3 = 0 then (bX8_reads_56 x1 σ) else (x_b (fX8_readsStreet σ) (fun r6 σ7 => K35 r6 σ7))))
def bX8_reads_35 (x1 : Int32) (σ : x_S) : Option (Int32 × x_S) :=
  x_fx (α := Int32 → x_S → Option (Int32 × x_S)) (fun _ _ => none) (fun K => fun x1 σ => gX8_reads_35   K x1 σ) x_F x1 σ
def gX8_reads_2 (K2 : Int32 → x_S → Option (Int32 × x_S)) (x1 : Int32) (σ : x_S) : Option (Int32 × x_S) :=
  if 49 ≤ x1 then (x_w (x_u σ 0 13 0) (fun σ2 => x_b (fX8_readsLaw σ2) (fun r5 σ6 => bX8_reads_35 r5 σ6))) else (x_g (x_in (1323 + x1) 1372) (x_w (x_u σ 1 (1323 + x1).toNatClampNeg 0) (fun σ8 => K2 (x1 + 1) σ8)))
def bX8_reads_2 (x1 : Int32) (σ : x_S) : Option (Int32 × x_S) :=
  x_fx (α := Int32 → x_S → Option (Int32 × x_S)) (fun _ _ => none) (fun K => fun x1 σ => gX8_reads_2   K x1 σ) x_F x1 σ
def fX8_reads (σ : x_S) : Option (Int32 × x_S) :=
  bX8_reads_2 0 σ
def gX8_copyTown_2 (x1 : Int32) (x2 : Int32) (K2 : Int32 → x_S → Option x_S) (x3 : Int32) (σ : x_S) : Option x_S :=
  if 49 ≤ x3 then (some σ) else (x_g (x_in (x1 + x3) 1372) (x_g (x_in (x2 + x3) 1372) (x_w (x_u σ 1 (x2 + x3).toNatClampNeg (σ 1 (x1 + x3).toNatClampNeg)) (fun σ4 => K2 (x3 + 1) σ4))))
def bX8_copyTown_2 (x1 : Int32) (x2 : Int32) (x3 : Int32) (σ : x_S) : Option x_S :=
  x_fx (α := Int32 → x_S → Option x_S) (fun _ _ => none) (fun K => fun x3 σ => gX8_copyTown_2  x1 x2 K x3 σ) x_F x3 σ
def fX8_copyTown (a1 : Int32) (a2 : Int32) (σ : x_S) : Option x_S :=
  bX8_copyTown_2 a1 a2 0 σ
def fX8_city (σ : x_S) : Option (Int32 × x_S) :=
  x_b (fX8_reads σ) (fun r2 σ3 => x_w (x_u σ3 0 8 0) (fun σ4 => if r2 = 0 then (x_w (x_u σ4 0 9 (σ4 0 14)) (fun σ14 => some (((-1000100) - (σ14 0 13)), σ14))) else (x_v (fX8_copyTown 1323 0 σ4) (fun σ8 => x_w (x_u σ8 0 1 1) (fun σ9 => x_w (x_u σ9 0 2 0) (fun σ11 => some ((σ11 1 (2 : Int32).toNatClampNeg), σ11)))))))
def fX8_fault (σ : x_S) : Option Int32 :=
  some (σ 0 9)
def bX8_keepPast_61 (y0 : Int32) (y1 : Int32) (σ : x_S) : Option x_S :=
  x_w (x_u σ 0 2 (y1 - y0)) (fun σ1 => x_v (fX8_copyTown 0 (49 + (49 * (σ1 0 2))) σ1) (fun σ4 => x_w (x_u σ4 0 2 ((σ4 0 2) + 1)) (fun σ5 => some σ5)))
def bX8_keepPast_42 (σ : x_S) : Option x_S :=
  if (σ 0 2) = 24 then (bX8_keepPast_61 1 (σ 0 2) σ) else (bX8_keepPast_61 0 (σ 0 2) σ)
def gX8_keepPast_2 (K2 : Int32 → x_S → Option x_S) (x1 : Int32) (σ : x_S) : Option x_S :=
  if 1127 ≤ x1 then (bX8_keepPast_42 σ) else (if (σ 0 2) = 24 then (x_g (x_in (98 + x1) 1372) (x_g (x_in (49 + x1) 1372) (x_w (x_u σ 1 (49 + x1).toNatClampNeg (σ 1 (98 + x1).toNatClampNeg)) (fun σ5 => K2 (x1 + 1) σ5)))) else (bX8_keepPast_42 σ))
def bX8_keepPast_2 (x1 : Int32) (σ : x_S) : Option x_S :=
  x_fx (α := Int32 → x_S → Option x_S) (fun _ _ => none) (fun K => fun x1 σ => gX8_keepPast_2   K x1 σ) x_F x1 σ
def fX8_keepPast (σ : x_S) : Option x_S :=
  bX8_keepPast_2 0 σ
def fX8_undo (σ : x_S) : Option (Int32 × x_S) :=
  if (σ 0 2) = 0 then (some ((-1000002), σ)) else (x_w (x_u σ 0 2 ((σ 0 2) - 1)) (fun σ2 => x_v (fX8_copyTown (49 + (49 * (σ2 0 2))) 0 σ2) (fun σ5 => some ((σ5 0 2), σ5))))
def fX8_isGesture (a1 : Int32) (σ : x_S) : Option Int32 :=
  x_p (fX8_in a1.toInt64 0 (((σ 1 (2 : Int32).toNatClampNeg) - 1).toInt64) σ) (fun r3 => x_g (r3 &&& 1 = r3) (some r3))
def fX8_isStreet (a1 : Int32) (σ : x_S) : Option Int32 :=
  x_p (fX8_in a1.toInt64 0 (((σ 1 (1 : Int32).toNatClampNeg) - 1).toInt64) σ) (fun r3 => x_g (r3 &&& 1 = r3) (some r3))
def fX8_wave (a1 : Int32) (a2 : Int32) (σ : x_S) : Option Int32 :=
  x_g (x_in (12 + a2) 1372) (some ((a1 * (σ 1 (0 : Int32).toNatClampNeg)) + ((a1 * (σ 1 (12 + a2).toNatClampNeg)) / 10)))
def fX8_plainDuty (a1 : Int32) (a2 : Int32) (a3 : Int32) (σ : x_S) : Option Int32 :=
  if a1 = 2 then (x_p (fX8_wave a2 a3 σ) (fun r3 => some (r3 / 2))) else (if a1 = 3 then (x_p (fX8_wave a2 a3 σ) (fun r6 => if a2 ≤ 10 then (some (r6 + 0)) else (some (r6 + ((σ 1 (0 : Int32).toNatClampNeg) * (a2 - 10)))))) else (if a1 = 4 then (some 1) else (if a1 = 5 then (x_g (x_in (12 + a3) 1372) (if 5 ≤ (σ 1 (12 + a3).toNatClampNeg) then (x_p (fX8_wave a2 a3 σ) (fun r14 => some r14)) else (some 1))) else (x_p (fX8_wave a2 a3 σ) (fun r16 => some r16)))))
def fX8_owes (a1 : Int32) (a2 : Int32) (a3 : Int32) (σ : x_S) : Option Int32 :=
  x_p (fX8_plainDuty a1 a2 a3 σ) (fun r2 => x_p (fX8_has (σ 1 (4 : Int32).toNatClampNeg) a3 σ) (fun r5 => if r5 = 0 then (some r2) else (some (r2 / 2))))
def fX8_dutyOf (a1 : Int32) (a2 : Int32) (σ : x_S) : Option Int32 :=
  x_g (x_in (19 + a1) 1372) (x_g (x_in (25 + a1) 1372) (x_p (fX8_owes (σ 1 (19 + a1).toNatClampNeg) (σ 1 (25 + a1).toNatClampNeg) a2 σ) (fun r4 => some r4)))
def bX8_isSeen_18 (x1 : Int32) (x2 : Int32) (y0 : Int32) (σ : x_S) : Option Int32 :=
  x_g (x_in (25 + x1) 1372) (x_g (x_in (5 + x2) 1372) (if ((σ 1 (25 + x1).toNatClampNeg) + y0) < (σ 1 (5 + x2).toNatClampNeg) then (some 0) else (some 1)))
def fX8_isSeen (a1 : Int32) (a2 : Int32) (σ : x_S) : Option Int32 :=
  x_g (x_in (19 + a1) 1372) (if (σ 1 (19 + a1).toNatClampNeg) ≤ 3 then (bX8_isSeen_18 a1 a2 0 σ) else (bX8_isSeen_18 a1 a2 5 σ))
def fX8_make (a1 : Int32) (a2 : Int32) (σ : x_S) : Option (Int32 × x_S) :=
  x_p (fX8_isGesture a1 σ) (fun r2 => if r2 = 0 then (some ((-1000001), σ)) else (x_p (fX8_isStreet a2 σ) (fun r5 => if r5 = 0 then (some ((-1000001), σ)) else (x_p (fX8_isSeen a1 a2 σ) (fun r8 => if r8 = 0 then (some ((-1000002), σ)) else (x_p (fX8_dutyOf a1 a2 σ) (fun r12 => if ((σ 1 (3 : Int32).toNatClampNeg) + r12) ≤ 99999 then (x_v (fX8_keepPast σ) (fun σ15 => x_g (x_in (3 : Int32) 1372) (x_w (x_u σ15 1 (3 : Int32).toNatClampNeg ((σ 1 (3 : Int32).toNatClampNeg) + r12)) (fun σ17 => x_g (x_in (43 + a1) 1372) (x_g (x_in (43 + a1) 1372) (x_w (x_u σ17 1 (43 + a1).toNatClampNeg ((σ17 1 (43 + a1).toNatClampNeg) + 1)) (fun σ21 => some (((σ 1 (3 : Int32).toNatClampNeg) + r12), σ21)))))))) else (some ((-1000003), σ)))))))))
def fX8_dim (a1 : Int32) (a2 : Int32) (σ : x_S) : Option (Int32 × x_S) :=
  x_p (fX8_isStreet a1 σ) (fun r2 => if r2 = 0 then (some ((-1000001), σ)) else (x_p (fX8_in a2.toInt64 0 30 σ) (fun r5 => if r5 = 0 then (some ((-1000001), σ)) else (x_v (fX8_keepPast σ) (fun σ8 => x_g (x_in (5 + a1) 1372) (x_g (x_in (5 + a1) 1372) (x_w (x_u σ8 1 (5 + a1).toNatClampNeg a2) (fun σ11 => some ((σ8 1 (5 + a1).toNatClampNeg), σ11)))))))))
def fX8_train (a1 : Int32) (a2 : Int32) (σ : x_S) : Option (Int32 × x_S) :=
  x_p (fX8_isGesture a1 σ) (fun r2 => if r2 = 0 then (some ((-1000001), σ)) else (x_p (fX8_in a2.toInt64 1 29 σ) (fun r5 => if r5 = 0 then (some ((-1000001), σ)) else (x_g (x_in (25 + a1) 1372) (if 1 ≤ ((σ 1 (25 + a1).toNatClampNeg) - a2) then (x_v (fX8_keepPast σ) (fun σ10 => x_g (x_in (25 + a1) 1372) (x_g (x_in (25 + a1) 1372) (x_w (x_u σ10 1 (25 + a1).toNatClampNeg ((σ10 1 (25 + a1).toNatClampNeg) - a2)) (fun σ13 => x_g (x_in (25 + a1) 1372) (some ((σ13 1 (25 + a1).toNatClampNeg), σ13))))))) else (some ((-1000002), σ)))))))
def bX8_know_41 (x1 : Int32) (y0 : Int32) (y1 : Int32) (σ : x_S) : Option (Int32 × x_S) :=
  if y1 = y0 then (some ((-1000002), σ)) else (x_v (fX8_keepPast σ) (fun σ3 => x_g (x_in (4 : Int32) 1372) (x_w (x_u σ3 1 (4 : Int32).toNatClampNeg ((σ3 1 (4 : Int32).toNatClampNeg) ^^^ (1 <<< (x1 &&& 31)))) (fun σ6 => some ((σ6 1 (4 : Int32).toNatClampNeg), σ6)))))
def fX8_know (a1 : Int32) (a2 : Int32) (σ : x_S) : Option (Int32 × x_S) :=
  x_p (fX8_isStreet a1 σ) (fun r2 => if r2 = 0 then (some ((-1000001), σ)) else (x_p (fX8_in a2.toInt64 0 1 σ) (fun r5 => if r5 = 0 then (some ((-1000001), σ)) else (x_p (fX8_has (σ 1 (4 : Int32).toNatClampNeg) a1 σ) (fun r9 => if a2 = 1 then (bX8_know_41 a1 1 r9 σ) else (bX8_know_41 a1 0 r9 σ))))))
def gX8_seenStreets_4 (x1 : Int32) (K4 : Int32 → Int32 → Option Int32) (x2 : Int32) (x3 : Int32) (σ : x_S) : Option Int32 :=
  if (σ 1 (1 : Int32).toNatClampNeg) ≤ x3 then (some x2) else (x_p (fX8_isSeen x1 x3 σ) (fun r4 => if r4 = 0 then (K4 (x2 ||| 0) (x3 + 1)) else (K4 (x2 ||| (1 <<< (x3 &&& 31))) (x3 + 1))))
def bX8_seenStreets_4 (x1 : Int32) (x2 : Int32) (x3 : Int32) (σ : x_S) : Option Int32 :=
  x_fx (α := Int32 → Int32 → Option Int32) (fun _ _ => none) (fun K => fun x2 x3 => gX8_seenStreets_4  x1 K x2 x3 σ) x_F x2 x3
def fX8_seenStreets (a1 : Int32) (σ : x_S) : Option Int32 :=
  bX8_seenStreets_4 a1 0 0 σ
def gX8_seenGestures_4 (x1 : Int32) (K4 : Int32 → Int32 → Option Int32) (x2 : Int32) (x3 : Int32) (σ : x_S) : Option Int32 :=
  if (σ 1 (2 : Int32).toNatClampNeg) ≤ x3 then (some x2) else (x_p (fX8_isSeen x3 x1 σ) (fun r4 => if r4 = 0 then (K4 (x2 ||| 0) (x3 + 1)) else (K4 (x2 ||| (1 <<< (x3 &&& 31))) (x3 + 1))))
def bX8_seenGestures_4 (x1 : Int32) (x2 : Int32) (x3 : Int32) (σ : x_S) : Option Int32 :=
  x_fx (α := Int32 → Int32 → Option Int32) (fun _ _ => none) (fun K => fun x2 x3 => gX8_seenGestures_4  x1 K x2 x3 σ) x_F x2 x3
def fX8_seenGestures (a1 : Int32) (σ : x_S) : Option Int32 :=
  bX8_seenGestures_4 a1 0 0 σ
def fX8_gesture (a1 : Int32) (a2 : Int32) (σ : x_S) : Option Int32 :=
  x_p (fX8_isGesture a1 σ) (fun r2 => if r2 = 0 then (some (-1000001)) else (if a2 = 0 then (x_g (x_in (25 + a1) 1372) (some (σ 1 (25 + a1).toNatClampNeg))) else (if a2 = 1 then (x_g (x_in (31 + a1) 1372) (some (σ 1 (31 + a1).toNatClampNeg))) else (if a2 = 2 then (x_g (x_in (37 + a1) 1372) (some (σ 1 (37 + a1).toNatClampNeg))) else (if a2 = 3 then (x_p (fX8_seenStreets a1 σ) (fun r12 => some r12)) else (if a2 = 4 then (x_g (x_in (43 + a1) 1372) (some (σ 1 (43 + a1).toNatClampNeg))) else (some (-1000001))))))))
def fX8_street (a1 : Int32) (a2 : Int32) (σ : x_S) : Option Int32 :=
  x_p (fX8_isStreet a1 σ) (fun r2 => if r2 = 0 then (some (-1000001)) else (if a2 = 0 then (x_g (x_in (5 + a1) 1372) (some (σ 1 (5 + a1).toNatClampNeg))) else (if a2 = 1 then (x_g (x_in (12 + a1) 1372) (some (σ 1 (12 + a1).toNatClampNeg))) else (if a2 = 2 then (some (((σ 1 (4 : Int32).toNatClampNeg) >>> (a1 &&& 31)) &&& 1)) else (if a2 = 3 then (x_p (fX8_seenGestures a1 σ) (fun r12 => some r12)) else (some (-1000001)))))))
def fX8_duty (a1 : Int32) (a2 : Int32) (σ : x_S) : Option Int32 :=
  x_p (fX8_isGesture a1 σ) (fun r2 => if r2 = 0 then (some (-1000001)) else (x_p (fX8_isStreet a2 σ) (fun r5 => if r5 = 0 then (some (-1000001)) else (x_p (fX8_dutyOf a1 a2 σ) (fun r8 => some r8)))))
def fX8_tells (a1 : Int32) (a2 : Int32) (a3 : Int32) (σ : x_S) : Option Int32 :=
  x_g (x_in (31 + a1) 1372) (if (σ 1 (31 + a1).toNatClampNeg) = a2 then (x_p (fX8_isSeen a1 a3 σ) (fun r4 => if r4 = 0 then (some 0) else (some 1))) else (some 0))
def bX8_onBy_29 (x1 : Int32) (x3 : Int32) (x4 : Int32) (y0 : Int32) (σ : x_S) : Option Int32 :=
  if y0 = 0 then (some 1000000) else (x_p (fX8_dutyOf x1 x3 σ) (fun r3 => x_g (x_in (37 + x1) 1372) (x_g (x_in (((100 * (x3 + 1)) + x4) - (σ 1 (37 + x1).toNatClampNeg)) 800) (some (r3 + (σ 8 (((100 * (x3 + 1)) + x4) - (σ 1 (37 + x1).toNatClampNeg)).toNatClampNeg))))))
def bX8_onBy_28 (x1 : Int32) (x3 : Int32) (x4 : Int32) (σ : x_S) : Option Int32 :=
  bX8_onBy_29 x1 x3 x4 0 σ
def fX8_onBy (a1 : Int32) (a2 : Int32) (a3 : Int32) (a4 : Int32) (σ : x_S) : Option Int32 :=
  x_p (fX8_tells a1 a2 a3 σ) (fun r2 => if r2 = 0 then (bX8_onBy_28 a1 a3 a4 σ) else (x_g (x_in (37 + a1) 1372) (if a4 < (σ 1 (37 + a1).toNatClampNeg) then (bX8_onBy_28 a1 a3 a4 σ) else (bX8_onBy_29 a1 a3 a4 1 σ))))
def bX8_layCosts_140 (K34 : Int32 → x_S → Option x_S) (K43 : Int32 → x_S → Option x_S) (K68 : Int32 → x_S → Option x_S) (x1 : Int32) (x2 : Int32) (x4 : Int32) (x5 : Int32) (x6 : Int32) (y0 : Int32) (y1 : Int32) (σ : x_S) : Option x_S :=
  x_g (x_in y1 800) (x_w (x_u σ 8 y1.toNatClampNeg y0) (fun σ2 => K68 (x6 + 1) σ2))
def gX8_layCosts_68 (K34 : Int32 → x_S → Option x_S) (K43 : Int32 → x_S → Option x_S) (x1 : Int32) (x2 : Int32) (x4 : Int32) (x5 : Int32) (K68 : Int32 → x_S → Option x_S) (x6 : Int32) (σ : x_S) : Option x_S :=
  if (σ 1 (2 : Int32).toNatClampNeg) ≤ x6 then (K43 (x5 + 1) σ) else (x_p (fX8_onBy x6 x1 x4 x5 σ) (fun r4 => x_g (x_in ((100 * x4) + x5) 800) (if (σ 8 ((100 * x4) + x5).toNatClampNeg) ≤ r4 then (x_g (x_in ((100 * x4) + x5) 800) (bX8_layCosts_140 K34 K43 K68 x1 x2 x4 x5 x6 (σ 8 ((100 * x4) + x5).toNatClampNeg) ((100 * x4) + x5) σ)) else (bX8_layCosts_140 K34 K43 K68 x1 x2 x4 x5 x6 r4 ((100 * x4) + x5) σ))))
def bX8_layCosts_68 (K34 : Int32 → x_S → Option x_S) (K43 : Int32 → x_S → Option x_S) (x1 : Int32) (x2 : Int32) (x4 : Int32) (x5 : Int32) (x6 : Int32) (σ : x_S) : Option x_S :=
  x_fx (α := Int32 → x_S → Option x_S) (fun _ _ => none) (fun K => fun x6 σ => gX8_layCosts_68 K34 K43 x1 x2 x4 x5 K x6 σ) x_F x6 σ
def gX8_layCosts_43 (K34 : Int32 → x_S → Option x_S) (x1 : Int32) (x2 : Int32) (x4 : Int32) (K43 : Int32 → x_S → Option x_S) (x5 : Int32) (σ : x_S) : Option x_S :=
  if 100 ≤ x5 then (K34 (x4 + (-1)) σ) else (x_g (x_in ((100 * x4) + x5) 800) (x_w (x_u σ 8 ((100 * x4) + x5).toNatClampNeg 1000000) (fun σ3 => bX8_layCosts_68 K34 K43 x1 x2 x4 x5 0 σ3)))
def bX8_layCosts_43 (K34 : Int32 → x_S → Option x_S) (x1 : Int32) (x2 : Int32) (x4 : Int32) (x5 : Int32) (σ : x_S) : Option x_S :=
  x_fx (α := Int32 → x_S → Option x_S) (fun _ _ => none) (fun K => fun x5 σ => gX8_layCosts_43 K34 x1 x2 x4 K x5 σ) x_F x5 σ
def gX8_layCosts_34 (x1 : Int32) (x2 : Int32) (K34 : Int32 → x_S → Option x_S) (x4 : Int32) (σ : x_S) : Option x_S :=
  if x4 < x2 then (some σ) else (bX8_layCosts_43 K34 x1 x2 x4 0 σ)
def bX8_layCosts_34 (x1 : Int32) (x2 : Int32) (x4 : Int32) (σ : x_S) : Option x_S :=
  x_fx (α := Int32 → x_S → Option x_S) (fun _ _ => none) (fun K => fun x4 σ => gX8_layCosts_34  x1 x2 K x4 σ) x_F x4 σ
def gX8_layCosts_3 (x1 : Int32) (x2 : Int32) (x3 : Int32) (K3 : Int32 → x_S → Option x_S) (x4 : Int32) (σ : x_S) : Option x_S :=
  if 100 ≤ x4 then (bX8_layCosts_34 x1 x2 x3 σ) else (x_g (x_in ((100 * (x3 + 1)) + x4) 800) (x_w (x_u σ 8 ((100 * (x3 + 1)) + x4).toNatClampNeg 0) (fun σ3 => K3 (x4 + 1) σ3)))
def bX8_layCosts_3 (x1 : Int32) (x2 : Int32) (x3 : Int32) (x4 : Int32) (σ : x_S) : Option x_S :=
  x_fx (α := Int32 → x_S → Option x_S) (fun _ _ => none) (fun K => fun x4 σ => gX8_layCosts_3  x1 x2 x3 K x4 σ) x_F x4 σ
def fX8_layCosts (a1 : Int32) (a2 : Int32) (a3 : Int32) (σ : x_S) : Option x_S :=
  bX8_layCosts_3 a1 a2 a3 0 σ
def fX8_isMeans (a0 : Int32) (σ : x_S) : Option Int32 :=
  x_p (fX8_in a0.toInt64 0 3 σ) (fun r2 => x_g (r2 &&& 1 = r2) (some r2))
def fX8_areStreets (a1 : Int32) (a2 : Int32) (σ : x_S) : Option Int32 :=
  x_p (fX8_isStreet a1 σ) (fun r2 => if r2 = 0 then (some 0) else (x_p (fX8_isStreet a2 σ) (fun r5 => if r5 = 0 then (some 0) else (if a2 < a1 then (some 0) else (some 1)))))
def gX8_tell_109 (K97 : Int32 → Int32 → Int32 → x_S → Option (Int32 × x_S)) (x1 : Int32) (x2 : Int32) (x5 : Int32) (x6 : Int32) (x7 : Int32) (x9 : Int32) (K109 : Int32 → x_S → Option (Int32 × x_S)) (x8 : Int32) (σ : x_S) : Option (Int32 × x_S) :=
  x_p (fX8_onBy x8 x1 x9 x7 σ) (fun r2 => x_g (x_in ((100 * x9) + x7) 800) (if r2 = (σ 8 ((100 * x9) + x7).toNatClampNeg) then (x_g (x_in (37 + x8) 1372) (K97 (x7 - (σ 1 (37 + x8).toNatClampNeg)) x8 (x9 + 1) σ)) else (K109 (x8 + 1) σ)))
def bX8_tell_109 (K97 : Int32 → Int32 → Int32 → x_S → Option (Int32 × x_S)) (x1 : Int32) (x2 : Int32) (x5 : Int32) (x6 : Int32) (x7 : Int32) (x9 : Int32) (x8 : Int32) (σ : x_S) : Option (Int32 × x_S) :=
  x_fx (α := Int32 → x_S → Option (Int32 × x_S)) (fun _ _ => none) (fun K => fun x8 σ => gX8_tell_109 K97 x1 x2 x5 x6 x7 x9 K x8 σ) x_F x8 σ
def gX8_tell_97 (x1 : Int32) (x2 : Int32) (x5 : Int32) (x6 : Int32) (K97 : Int32 → Int32 → Int32 → x_S → Option (Int32 × x_S)) (x7 : Int32) (x8 : Int32) (x9 : Int32) (σ : x_S) : Option (Int32 × x_S) :=
  if (x2 + x5) < x9 then (if 0 ≤ x5 then (some (x8, σ)) else (some (x6, σ))) else (bX8_tell_109 K97 x1 x2 x5 x6 x7 x9 0 σ)
def bX8_tell_97 (x1 : Int32) (x2 : Int32) (x5 : Int32) (x6 : Int32) (x7 : Int32) (x8 : Int32) (x9 : Int32) (σ : x_S) : Option (Int32 × x_S) :=
  x_fx (α := Int32 → Int32 → Int32 → x_S → Option (Int32 × x_S)) (fun _ _ _ _ => none) (fun K => fun x7 x8 x9 σ => gX8_tell_97  x1 x2 x5 x6 K x7 x8 x9 σ) x_F x7 x8 x9 σ
def fX8_tell (a1 : Int32) (a2 : Int32) (a3 : Int32) (a4 : Int32) (a5 : Int32) (σ : x_S) : Option (Int32 × x_S) :=
  x_p (fX8_isMeans a1 σ) (fun r2 => if r2 = 0 then (some ((-1000001), σ)) else (x_p (fX8_areStreets a2 a3 σ) (fun r5 => if r5 = 0 then (some ((-1000001), σ)) else (x_p (fX8_in a4.toInt64 0 99 σ) (fun r8 => if r8 = 0 then (some ((-1000001), σ)) else (x_p (fX8_in a5.toInt64 (-1) 6 σ) (fun r11 => if r11 = 0 then (some ((-1000001), σ)) else (x_v (fX8_layCosts a1 a2 a3 σ) (fun σ14 => x_g (x_in ((100 * a2) + a4) 800) (if 1000000 ≤ (σ14 8 ((100 * a2) + a4).toNatClampNeg) then (some ((-1000000), σ14)) else (if a5 ≤ (a3 - a2) then (bX8_tell_97 a1 a2 a5 (σ14 8 ((100 * a2) + a4).toNatClampNeg) a4 (-1000000) a2 σ14) else (some ((-1000000), σ14)))))))))))))
def bX8_soonest_53 (K6 : Int32 → Int32 → Option Int32) (x1 : Int32) (x2 : Int32) (x3 : Int32) (x4 : Int32) (y0 : Int32) (σ : x_S) : Option Int32 :=
  if y0 = 0 then (K6 x3 (x4 + 1)) else (x_g (x_in (37 + x4) 1372) (K6 (σ 1 (37 + x4).toNatClampNeg) (x4 + 1)))
def bX8_soonest_52 (K6 : Int32 → Int32 → Option Int32) (x1 : Int32) (x2 : Int32) (x3 : Int32) (x4 : Int32) (σ : x_S) : Option Int32 :=
  bX8_soonest_53 K6 x1 x2 x3 x4 0 σ
def gX8_soonest_6 (x1 : Int32) (x2 : Int32) (K6 : Int32 → Int32 → Option Int32) (x3 : Int32) (x4 : Int32) (σ : x_S) : Option Int32 :=
  if (σ 1 (2 : Int32).toNatClampNeg) ≤ x4 then (some x3) else (x_p (fX8_tells x4 x1 x2 σ) (fun r4 => if r4 = 0 then (bX8_soonest_52 K6 x1 x2 x3 x4 σ) else (if x3 = (-1000000) then (bX8_soonest_53 K6 x1 x2 x3 x4 1 σ) else (x_g (x_in (37 + x4) 1372) (if x3 ≤ (σ 1 (37 + x4).toNatClampNeg) then (bX8_soonest_52 K6 x1 x2 x3 x4 σ) else (bX8_soonest_53 K6 x1 x2 x3 x4 1 σ))))))
def bX8_soonest_6 (x1 : Int32) (x2 : Int32) (x3 : Int32) (x4 : Int32) (σ : x_S) : Option Int32 :=
  x_fx (α := Int32 → Int32 → Option Int32) (fun _ _ => none) (fun K => fun x3 x4 => gX8_soonest_6  x1 x2 K x3 x4 σ) x_F x3 x4
def fX8_soonest (a1 : Int32) (a2 : Int32) (σ : x_S) : Option Int32 :=
  bX8_soonest_6 a1 a2 (-1000000) 0 σ
def gX8_shut_24 (x1 : Int32) (K24 : Int32 → Int32 → Option Int32) (x2 : Int32) (x3 : Int32) (σ : x_S) : Option Int32 :=
  if (σ 1 (1 : Int32).toNatClampNeg) ≤ x3 then (some x2) else (x_p (fX8_soonest x1 x3 σ) (fun r4 => if r4 = (-1000000) then (K24 (x2 ||| (1 <<< (x3 &&& 31))) (x3 + 1)) else (K24 (x2 ||| 0) (x3 + 1))))
def bX8_shut_24 (x1 : Int32) (x2 : Int32) (x3 : Int32) (σ : x_S) : Option Int32 :=
  x_fx (α := Int32 → Int32 → Option Int32) (fun _ _ => none) (fun K => fun x2 x3 => gX8_shut_24  x1 K x2 x3 σ) x_F x2 x3
def fX8_shut (a1 : Int32) (σ : x_S) : Option Int32 :=
  if (σ 0 1) = 0 then (some (-1000002)) else (x_p (fX8_isMeans a1 σ) (fun r3 => if r3 = 0 then (some (-1000001)) else (bX8_shut_24 a1 0 0 σ)))
def gX8_quick_25 (x1 : Int32) (x3 : Int32) (K25 : Int32 → Int32 → Option Int32) (x4 : Int32) (x5 : Int32) (σ : x_S) : Option Int32 :=
  if x3 < x5 then (some x4) else (x_p (fX8_soonest x1 x5 σ) (fun r3 => if r3 = (-1000000) then (some (-1000000)) else (x_p (fX8_soonest x1 x5 σ) (fun r6 => K25 (x4 + r6) (x5 + 1)))))
def bX8_quick_25 (x1 : Int32) (x3 : Int32) (x4 : Int32) (x5 : Int32) (σ : x_S) : Option Int32 :=
  x_fx (α := Int32 → Int32 → Option Int32) (fun _ _ => none) (fun K => fun x4 x5 => gX8_quick_25  x1 x3 K x4 x5 σ) x_F x4 x5
def fX8_quick (a1 : Int32) (a2 : Int32) (a3 : Int32) (σ : x_S) : Option Int32 :=
  x_p (fX8_isMeans a1 σ) (fun r2 => if r2 = 0 then (some (-1000001)) else (x_p (fX8_areStreets a2 a3 σ) (fun r5 => if r5 = 0 then (some (-1000001)) else (bX8_quick_25 a1 a3 0 a2 σ))))
def gX8_noPairs_39 (x1 : Int32) (x2 : Int32) (x3 : Int32) (K39 : Int32 → Int32 → x_S → Option (Int32 × x_S)) (x4 : Int32) (x5 : Int32) (σ : x_S) : Option (Int32 × x_S) :=
  if x3 ≤ x5 then (if x4 = 0 then (some ((-1000001), σ)) else (some (0, σ))) else (if x4 = 0 then (K39 0 (x5 + 1) σ) else (x_g (x_in (((40 * x1) + x2) + (2 * x5)) 320) (x_p (fX8_isStreet (σ 5 (((40 * x1) + x2) + (2 * x5)).toNatClampNeg) σ) (fun r6 => if r6 = 0 then (K39 0 (x5 + 1) σ) else (K39 1 (x5 + 1) σ)))))
def bX8_noPairs_39 (x1 : Int32) (x2 : Int32) (x3 : Int32) (x4 : Int32) (x5 : Int32) (σ : x_S) : Option (Int32 × x_S) :=
  x_fx (α := Int32 → Int32 → x_S → Option (Int32 × x_S)) (fun _ _ _ => none) (fun K => fun x4 x5 σ => gX8_noPairs_39  x1 x2 x3 K x4 x5 σ) x_F x4 x5 σ
def fX8_noPairs (a1 : Int32) (a2 : Int32) (a3 : Int32) (σ : x_S) : Option (Int32 × x_S) :=
  x_g (x_in a1 8) (if 0 ≤ (σ 4 a1.toNatClampNeg) then (x_p (fX8_isSpan a1 a2 (2 * a3) σ) (fun r4 => if r4 = 0 then (x_b (fX8_find 2 σ) (fun r7 σ8 => some (r7, σ8))) else (bX8_noPairs_39 a1 a2 a3 1 0 σ))) else (x_b (fX8_find 1 σ) (fun r10 σ11 => some (r10, σ11))))
def gX8_owesSo_12 (x1 : Int32) (x2 : Int32) (x3 : Int32) (x4 : Int32) (x5 : Int32) (K12 : Int32 → Int32 → Option Int32) (x6 : Int32) (x7 : Int32) (σ : x_S) : Option Int32 :=
  if (((40 * x3) + x4) + (2 * x5)) ≤ x7 then (x_g (x6 &&& 1 = x6) (some x6)) else (if x6 = 0 then (K12 0 (x7 + 2)) else (x_g (x_in x7 320) (x_p (fX8_owes x1 x2 (σ 5 x7.toNatClampNeg) σ) (fun r6 => x_g (x_in (x7 + 1) 320) (if r6 = (σ 5 (x7 + 1).toNatClampNeg) then (K12 1 (x7 + 2)) else (K12 0 (x7 + 2)))))))
def bX8_owesSo_12 (x1 : Int32) (x2 : Int32) (x3 : Int32) (x4 : Int32) (x5 : Int32) (x6 : Int32) (x7 : Int32) (σ : x_S) : Option Int32 :=
  x_fx (α := Int32 → Int32 → Option Int32) (fun _ _ => none) (fun K => fun x6 x7 => gX8_owesSo_12  x1 x2 x3 x4 x5 K x6 x7 σ) x_F x6 x7
def fX8_owesSo (a1 : Int32) (a2 : Int32) (a3 : Int32) (a4 : Int32) (a5 : Int32) (σ : x_S) : Option Int32 :=
  bX8_owesSo_12 a1 a2 a3 a4 a5 1 ((40 * a3) + a4) σ
def gX8_isSeenSo_11 (x1 : Int32) (x2 : Int32) (x3 : Int32) (x4 : Int32) (K11 : Int32 → Int32 → Option Int32) (x5 : Int32) (x6 : Int32) (σ : x_S) : Option Int32 :=
  if (((40 * x2) + x3) + (2 * x4)) ≤ x6 then (x_g (x5 &&& 1 = x5) (some x5)) else (if x5 = 0 then (K11 0 (x6 + 2)) else (x_g (x_in x6 320) (x_p (fX8_isSeen x1 (σ 5 x6.toNatClampNeg) σ) (fun r6 => if r6 = 0 then (K11 0 (x6 + 2)) else (K11 1 (x6 + 2))))))
def bX8_isSeenSo_11 (x1 : Int32) (x2 : Int32) (x3 : Int32) (x4 : Int32) (x5 : Int32) (x6 : Int32) (σ : x_S) : Option Int32 :=
  x_fx (α := Int32 → Int32 → Option Int32) (fun _ _ => none) (fun K => fun x5 x6 => gX8_isSeenSo_11  x1 x2 x3 x4 K x5 x6 σ) x_F x5 x6
def fX8_isSeenSo (a1 : Int32) (a2 : Int32) (a3 : Int32) (a4 : Int32) (σ : x_S) : Option Int32 :=
  bX8_isSeenSo_11 a1 a2 a3 a4 1 ((40 * a2) + a3) σ
def gX8_thread_55 (x1 : Int32) (x2 : Int32) (x3 : Int32) (K55 : Int32 → Int32 → x_S → Option (Int32 × x_S)) (x5 : Int32) (x6 : Int32) (σ : x_S) : Option (Int32 × x_S) :=
  if (σ 1 (2 : Int32).toNatClampNeg) ≤ x6 then (x_b (fX8_well x5 σ) (fun r4 σ5 => some (r4, σ5))) else (x_p (fX8_isSeenSo x6 x1 x2 x3 σ) (fun r7 => if r7 = 0 then (K55 (x5 ||| 0) (x6 + 1) σ) else (x_g (x_in (19 + x6) 1372) (x_g (x_in (25 + x6) 1372) (x_p (fX8_owesSo (σ 1 (19 + x6).toNatClampNeg) (σ 1 (25 + x6).toNatClampNeg) x1 x2 x3 σ) (fun r12 => if r12 = 0 then (K55 (x5 ||| 0) (x6 + 1) σ) else (K55 (x5 ||| (1 <<< (x6 &&& 31))) (x6 + 1) σ)))))))
def bX8_thread_55 (x1 : Int32) (x2 : Int32) (x3 : Int32) (x5 : Int32) (x6 : Int32) (σ : x_S) : Option (Int32 × x_S) :=
  x_fx (α := Int32 → Int32 → x_S → Option (Int32 × x_S)) (fun _ _ _ => none) (fun K => fun x5 x6 σ => gX8_thread_55  x1 x2 x3 K x5 x6 σ) x_F x5 x6 σ
def fX8_thread (a1 : Int32) (a2 : Int32) (a3 : Int32) (σ : x_S) : Option (Int32 × x_S) :=
  if (σ 0 1) = 0 then (some ((-1000002), σ)) else (x_p (fX8_isRow a1 σ) (fun r3 => if r3 = 0 then (some ((-1000001), σ)) else (x_p (fX8_in a3.toInt64 1 12 σ) (fun r6 => if r6 = 0 then (some ((-1000001), σ)) else (x_b (fX8_noPairs a1 a2 a3 σ) (fun r9 σ10 => if r9 = 0 then (bX8_thread_55 a1 a2 a3 0 0 σ10) else (some (r9, σ10))))))))
def gX8_inches_55 (x1 : Int32) (x2 : Int32) (x3 : Int32) (x4 : Int32) (K55 : Int32 → Int32 → x_S → Option (Int32 × x_S)) (x6 : Int32) (x7 : Int32) (σ : x_S) : Option (Int32 × x_S) :=
  if 30 ≤ x7 then (x_b (fX8_well x6 σ) (fun r3 σ4 => some (r3, σ4))) else (x_g (x_in (19 + x1) 1372) (x_p (fX8_owesSo (σ 1 (19 + x1).toNatClampNeg) (x7 + 1) x2 x3 x4 σ) (fun r7 => if r7 = 0 then (K55 (x6 ||| 0) (x7 + 1) σ) else (K55 (x6 ||| (1 <<< (x7 &&& 31))) (x7 + 1) σ))))
def bX8_inches_55 (x1 : Int32) (x2 : Int32) (x3 : Int32) (x4 : Int32) (x6 : Int32) (x7 : Int32) (σ : x_S) : Option (Int32 × x_S) :=
  x_fx (α := Int32 → Int32 → x_S → Option (Int32 × x_S)) (fun _ _ _ => none) (fun K => fun x6 x7 σ => gX8_inches_55  x1 x2 x3 x4 K x6 x7 σ) x_F x6 x7 σ
def fX8_inches (a1 : Int32) (a2 : Int32) (a3 : Int32) (a4 : Int32) (σ : x_S) : Option (Int32 × x_S) :=
  x_p (fX8_isGesture a1 σ) (fun r2 => if r2 = 0 then (some ((-1000001), σ)) else (x_p (fX8_isRow a2 σ) (fun r5 => if r5 = 0 then (some ((-1000001), σ)) else (x_p (fX8_in a4.toInt64 1 12 σ) (fun r8 => if r8 = 0 then (some ((-1000001), σ)) else (x_b (fX8_noPairs a2 a3 a4 σ) (fun r11 σ12 => if r11 = 0 then (bX8_inches_55 a1 a2 a3 a4 0 0 σ12) else (some (r11, σ12)))))))))
def gX8_sorts_55 (x1 : Int32) (x2 : Int32) (x3 : Int32) (x4 : Int32) (K55 : Int32 → Int32 → x_S → Option (Int32 × x_S)) (x6 : Int32) (x7 : Int32) (σ : x_S) : Option (Int32 × x_S) :=
  if 6 ≤ x7 then (x_b (fX8_well x6 σ) (fun r3 σ4 => some (r3, σ4))) else (x_g (x_in (25 + x1) 1372) (x_p (fX8_owesSo x7 (σ 1 (25 + x1).toNatClampNeg) x2 x3 x4 σ) (fun r7 => if r7 = 0 then (K55 (x6 ||| 0) (x7 + 1) σ) else (K55 (x6 ||| (1 <<< (x7 &&& 31))) (x7 + 1) σ))))
def bX8_sorts_55 (x1 : Int32) (x2 : Int32) (x3 : Int32) (x4 : Int32) (x6 : Int32) (x7 : Int32) (σ : x_S) : Option (Int32 × x_S) :=
  x_fx (α := Int32 → Int32 → x_S → Option (Int32 × x_S)) (fun _ _ _ => none) (fun K => fun x6 x7 σ => gX8_sorts_55  x1 x2 x3 x4 K x6 x7 σ) x_F x6 x7 σ
def fX8_sorts (a1 : Int32) (a2 : Int32) (a3 : Int32) (a4 : Int32) (σ : x_S) : Option (Int32 × x_S) :=
  x_p (fX8_isGesture a1 σ) (fun r2 => if r2 = 0 then (some ((-1000001), σ)) else (x_p (fX8_isRow a2 σ) (fun r5 => if r5 = 0 then (some ((-1000001), σ)) else (x_p (fX8_in a4.toInt64 1 12 σ) (fun r8 => if r8 = 0 then (some ((-1000001), σ)) else (x_b (fX8_noPairs a2 a3 a4 σ) (fun r11 σ12 => if r11 = 0 then (bX8_sorts_55 a1 a2 a3 a4 0 1 σ12) else (some (r11, σ12)))))))))
def gX8_saved_15 (x1 : Int32) (K15 : Int32 → Int32 → Option Int32) (x2 : Int32) (x3 : Int32) (σ : x_S) : Option Int32 :=
  if (σ 1 (1 : Int32).toNatClampNeg) ≤ x3 then (some x2) else (x_p (fX8_dutyOf x1 x3 σ) (fun r4 => x_g (x_in (19 + x1) 1372) (x_g (x_in (25 + x1) 1372) (x_p (fX8_plainDuty (σ 1 (19 + x1).toNatClampNeg) (σ 1 (25 + x1).toNatClampNeg) x3 σ) (fun r8 => K15 (x2 + (r4 - (r8 / 2))) (x3 + 1))))))
def bX8_saved_15 (x1 : Int32) (x2 : Int32) (x3 : Int32) (σ : x_S) : Option Int32 :=
  x_fx (α := Int32 → Int32 → Option Int32) (fun _ _ => none) (fun K => fun x2 x3 => gX8_saved_15  x1 K x2 x3 σ) x_F x2 x3
def fX8_saved (a1 : Int32) (σ : x_S) : Option Int32 :=
  x_p (fX8_isGesture a1 σ) (fun r2 => if r2 = 0 then (some (-1000001)) else (bX8_saved_15 a1 0 0 σ))
def bX8_worst_64 (K31 : Int32 → Int32 → Int32 → Option Int32) (x1 : Int32) (x2 : Int32) (x4 : Int32) (x5 : Int32) (x6 : Int32) (y0 : Int32) (σ : x_S) : Option Int32 :=
  if x6 ≤ x4 then (K31 y0 x4 (x5 + 1)) else (K31 y0 x6 (x5 + 1))
def gX8_worst_31 (x1 : Int32) (x2 : Int32) (K31 : Int32 → Int32 → Int32 → Option Int32) (x3 : Int32) (x4 : Int32) (x5 : Int32) (σ : x_S) : Option Int32 :=
  if (σ 1 (1 : Int32).toNatClampNeg) ≤ x5 then (if x2 = 0 then (some x3) else (some x4)) else (x_p (fX8_dutyOf x1 x5 σ) (fun r5 => if r5 ≤ x4 then (bX8_worst_64 K31 x1 x2 x4 x5 r5 x3 σ) else (bX8_worst_64 K31 x1 x2 x4 x5 r5 x5 σ)))
def bX8_worst_31 (x1 : Int32) (x2 : Int32) (x3 : Int32) (x4 : Int32) (x5 : Int32) (σ : x_S) : Option Int32 :=
  x_fx (α := Int32 → Int32 → Int32 → Option Int32) (fun _ _ _ => none) (fun K => fun x3 x4 x5 => gX8_worst_31  x1 x2 K x3 x4 x5 σ) x_F x3 x4 x5
def fX8_worst (a1 : Int32) (a2 : Int32) (σ : x_S) : Option Int32 :=
  x_p (fX8_isGesture a1 σ) (fun r2 => if r2 = 0 then (some (-1000001)) else (x_p (fX8_in a2.toInt64 0 1 σ) (fun r5 => if r5 = 0 then (some (-1000001)) else (bX8_worst_31 a1 a2 (-1000000) (-1000000) 0 σ))))
def gX8_tremble_214 (x6 : Int32) (x8 : Int32) (x9 : Int32) (K214 : Int32 → Int32 → Option Int32) (x10 : Int32) (x11 : Int32) (σ : x_S) : Option Int32 :=
  if x11 = 0 then (if x6 = 0 then (x_g (¬ x10 = 0) (some (x8 / x10))) else (x_g (¬ x10 = 0) (some (x9 / x10)))) else (x_g (¬ x11 = 0) (K214 x11 (x10 - x10 / x11 * x11)))
def bX8_tremble_214 (x6 : Int32) (x8 : Int32) (x9 : Int32) (x10 : Int32) (x11 : Int32) (σ : x_S) : Option Int32 :=
  x_fx (α := Int32 → Int32 → Option Int32) (fun _ _ => none) (fun K => fun x10 x11 => gX8_tremble_214  x6 x8 x9 K x10 x11 σ) x_F x10 x11
def bX8_tremble_190 (K73 : Int32 → Int32 → Int32 → Option Int32) (x1 : Int32) (x2 : Int32) (x4 : Int32) (x5 : Int32) (x6 : Int32) (x7 : Int32) (x9 : Int32) (x10 : Int32) (x11 : Int32) (y0 : Int32) (y1 : Int32) (σ : x_S) : Option Int32 :=
  K73 (y1 + y0) (x9 + x11) (x10 + 1)
def bX8_tremble_158 (K73 : Int32 → Int32 → Int32 → Option Int32) (K91 : Int32 → Int32 → Int32 → Option Int32) (x1 : Int32) (x2 : Int32) (x4 : Int32) (x5 : Int32) (x6 : Int32) (x7 : Int32) (x8 : Int32) (x9 : Int32) (x10 : Int32) (x11 : Int32) (x13 : Int32) (y0 : Int32) (y1 : Int32) (y2 : Int32) (y4 : Int32) (σ : x_S) : Option Int32 :=
  x_p (fX8_owes y2 (y1 + y0) (x2 + x13) σ) (fun r2 => K91 x11 (y4 + r2) (x13 + 1))
def bX8_tremble_124 (K73 : Int32 → Int32 → Int32 → Option Int32) (K91 : Int32 → Int32 → Int32 → Option Int32) (x1 : Int32) (x2 : Int32) (x4 : Int32) (x5 : Int32) (x6 : Int32) (x7 : Int32) (x8 : Int32) (x9 : Int32) (x10 : Int32) (x12 : Int32) (x13 : Int32) (x14 : Int32) (y0 : Int32) (y1 : Int32) (σ : x_S) : Option Int32 :=
  x_g (x_in (19 + x1) 1372) (x_g (x_in (25 + x1) 1372) (if x14 = 0 then (bX8_tremble_158 K73 K91 x1 x2 x4 x5 x6 x7 x8 x9 x10 (y1 * y0) x13 0 (σ 1 (25 + x1).toNatClampNeg) (σ 1 (19 + x1).toNatClampNeg) x12 σ) else (bX8_tremble_158 K73 K91 x1 x2 x4 x5 x6 x7 x8 x9 x10 (y1 * y0) x13 1 (σ 1 (25 + x1).toNatClampNeg) (σ 1 (19 + x1).toNatClampNeg) x12 σ)))
def gX8_tremble_91 (K73 : Int32 → Int32 → Int32 → Option Int32) (x1 : Int32) (x2 : Int32) (x4 : Int32) (x5 : Int32) (x6 : Int32) (x7 : Int32) (x8 : Int32) (x9 : Int32) (x10 : Int32) (K91 : Int32 → Int32 → Int32 → Option Int32) (x11 : Int32) (x12 : Int32) (x13 : Int32) (σ : x_S) : Option Int32 :=
  if x7 ≤ x13 then (if x4 < x12 then (bX8_tremble_190 K73 x1 x2 x4 x5 x6 x7 x9 x10 x11 0 x8 σ) else (bX8_tremble_190 K73 x1 x2 x4 x5 x6 x7 x9 x10 x11 x11 x8 σ)) else (x_p (fX8_has x10 x13 σ) (fun r4 => if r4 = 0 then (bX8_tremble_124 K73 K91 x1 x2 x4 x5 x6 x7 x8 x9 x10 x12 x13 r4 (10 - x5) x11 σ) else (bX8_tremble_124 K73 K91 x1 x2 x4 x5 x6 x7 x8 x9 x10 x12 x13 r4 x5 x11 σ)))
def bX8_tremble_91 (K73 : Int32 → Int32 → Int32 → Option Int32) (x1 : Int32) (x2 : Int32) (x4 : Int32) (x5 : Int32) (x6 : Int32) (x7 : Int32) (x8 : Int32) (x9 : Int32) (x10 : Int32) (x11 : Int32) (x12 : Int32) (x13 : Int32) (σ : x_S) : Option Int32 :=
  x_fx (α := Int32 → Int32 → Int32 → Option Int32) (fun _ _ _ => none) (fun K => fun x11 x12 x13 => gX8_tremble_91 K73 x1 x2 x4 x5 x6 x7 x8 x9 x10 K x11 x12 x13 σ) x_F x11 x12 x13
def gX8_tremble_73 (x1 : Int32) (x2 : Int32) (x4 : Int32) (x5 : Int32) (x6 : Int32) (x7 : Int32) (K73 : Int32 → Int32 → Int32 → Option Int32) (x8 : Int32) (x9 : Int32) (x10 : Int32) (σ : x_S) : Option Int32 :=
  if (1 <<< (x7 &&& 31)) ≤ x10 then (bX8_tremble_214 x6 x8 x9 x8 x9 σ) else (bX8_tremble_91 K73 x1 x2 x4 x5 x6 x7 x8 x9 x10 1 0 0 σ)
def bX8_tremble_73 (x1 : Int32) (x2 : Int32) (x4 : Int32) (x5 : Int32) (x6 : Int32) (x7 : Int32) (x8 : Int32) (x9 : Int32) (x10 : Int32) (σ : x_S) : Option Int32 :=
  x_fx (α := Int32 → Int32 → Int32 → Option Int32) (fun _ _ _ => none) (fun K => fun x8 x9 x10 => gX8_tremble_73  x1 x2 x4 x5 x6 x7 K x8 x9 x10 σ) x_F x8 x9 x10
def fX8_tremble (a1 : Int32) (a2 : Int32) (a3 : Int32) (a4 : Int32) (a5 : Int32) (a6 : Int32) (σ : x_S) : Option Int32 :=
  x_p (fX8_isGesture a1 σ) (fun r2 => if r2 = 0 then (some (-1000001)) else (x_p (fX8_areStreets a2 a3 σ) (fun r5 => if r5 = 0 then (some (-1000001)) else (x_p (fX8_in a4.toInt64 0 9999 σ) (fun r8 => if r8 = 0 then (some (-1000001)) else (x_p (fX8_in a5.toInt64 0 10 σ) (fun r11 => if r11 = 0 then (some (-1000001)) else (x_p (fX8_in a6.toInt64 0 1 σ) (fun r14 => if r14 = 0 then (some (-1000001)) else (bX8_tremble_73 a1 a2 a4 a5 a6 ((a3 - a2) + 1) 0 0 0 σ))))))))))
def fX8_image (a1 : Int32) (σ : x_S) : Option (Int32 × x_S) :=
  x_p (fX8_in a1.toInt64 0 1 σ) (fun r2 => if r2 = 0 then (some ((-1000001), σ)) else (if (σ 0 1) = 0 then (some ((-1000002), σ)) else (x_v (fX8_copyTown 0 (1225 + (49 * a1)) σ) (fun σ6 => x_g (x_in a1 2) (x_w (x_u σ6 2 a1.toNatClampNeg 1) (fun σ8 => some (1, σ8)))))))
def fX8_restore (a1 : Int32) (σ : x_S) : Option (Int32 × x_S) :=
  x_p (fX8_in a1.toInt64 0 1 σ) (fun r2 => if r2 = 0 then (some ((-1000001), σ)) else (x_g (x_in a1 2) (if (σ 2 a1.toNatClampNeg) = 0 then (some ((-1000002), σ)) else (x_v (fX8_copyTown (1225 + (49 * a1)) 0 σ) (fun σ7 => x_w (x_u σ7 0 2 0) (fun σ8 => some (1, σ8)))))))
def fX8_kind (a1 : Int32) (σ : x_S) : Option Int32 :=
  x_p (fX8_isGesture a1 σ) (fun r2 => if r2 = 0 then (some (-1000001)) else (x_g (x_in (19 + a1) 1372) (some (σ 1 (19 + a1).toNatClampNeg))))
def bX8_isOf_34 (x2 : Int32) (x3 : Int32) (σ : x_S) : Option Int32 :=
  if x2 = 4 then (if x3 = 5 then (some 1) else (some 0)) else (some 0)
def fX8_isOf (a1 : Int32) (a2 : Int32) (σ : x_S) : Option Int32 :=
  x_g (x_in (19 + a1) 1372) (if a2 = 0 then (some 1) else (if a2 = (σ 1 (19 + a1).toNatClampNeg) then (some 1) else (if a2 = 1 then (if (σ 1 (19 + a1).toNatClampNeg) = 2 then (some 1) else (if (σ 1 (19 + a1).toNatClampNeg) = 3 then (some 1) else (bX8_isOf_34 a2 (σ 1 (19 + a1).toNatClampNeg) σ))) else (bX8_isOf_34 a2 (σ 1 (19 + a1).toNatClampNeg) σ))))
def fX8_as (a1 : Int32) (a2 : Int32) (σ : x_S) : Option (Int32 × x_S) :=
  x_p (fX8_isGesture a1 σ) (fun r2 => if r2 = 0 then (some ((-1000001), σ)) else (x_p (fX8_in a2.toInt64 0 5 σ) (fun r5 => if r5 = 0 then (some ((-1000001), σ)) else (x_p (fX8_isOf a1 a2 σ) (fun r8 => if r8 = 0 then (x_b (fX8_find 3 σ) (fun r11 σ12 => some (r11, σ12))) else (x_b (fX8_well a1 σ) (fun r14 σ15 => some (r14, σ15))))))))
def fX8_begin (a1 : Int32) (σ : x_S) : Option x_S :=
  if 16 ≤ (σ 0 12) then (some σ) else (x_g (x_in (σ 0 12) 16) (x_w (x_u σ 7 (σ 0 12).toNatClampNeg a1) (fun σ3 => x_w (x_u σ3 0 12 ((σ3 0 12) + 1)) (fun σ5 => some σ5))))
def fX8_lentSize (a1 : Int32) (σ : x_S) : Option (Int32 × x_S) :=
  x_v (fX8_begin 10 σ) (fun σ2 => x_g (x_in (37 + a1) 1372) (some ((σ2 1 (37 + a1).toNatClampNeg), σ2)))
def fX8_lentMark (a1 : Int32) (σ : x_S) : Option (Int32 × x_S) :=
  x_v (fX8_begin 20 σ) (fun σ2 => some (a1, σ2))
def fX8_wavesMark (a1 : Int32) (σ : x_S) : Option (Int32 × x_S) :=
  x_v (fX8_begin 21 σ) (fun σ2 => x_b (fX8_lentMark a1 σ2) (fun r4 σ5 => x_g (x_in (25 + a1) 1372) (some ((r4 + (σ5 1 (25 + a1).toNatClampNeg)), σ5))))
def fX8_mark (a1 : Int32) (σ : x_S) : Option (Int32 × x_S) :=
  x_g (x_in (19 + a1) 1372) (if (σ 1 (19 + a1).toNatClampNeg) = 2 then (x_v (fX8_begin 24 σ) (fun σ4 => x_b (fX8_wavesMark a1 σ4) (fun r6 σ7 => some ((2 * r6), σ7)))) else (if (σ 1 (19 + a1).toNatClampNeg) = 3 then (x_v (fX8_begin 22 σ) (fun σ10 => x_b (fX8_wavesMark a1 σ10) (fun r12 σ13 => some ((r12 - 1000), σ13)))) else (x_b (fX8_wavesMark a1 σ) (fun r15 σ16 => some (r15, σ16)))))
def fX8_wavesSize (a1 : Int32) (σ : x_S) : Option (Int32 × x_S) :=
  x_v (fX8_begin 11 σ) (fun σ2 => x_b (fX8_lentSize a1 σ2) (fun r4 σ5 => x_b (fX8_mark a1 σ5) (fun r7 σ8 => some ((r4 + r7), σ8))))
def fX8_winksSize (a1 : Int32) (σ : x_S) : Option (Int32 × x_S) :=
  x_v (fX8_begin 13 σ) (fun σ2 => x_b (fX8_lentSize a1 σ2) (fun r4 σ5 => some ((r4 - 100), σ5)))
def fX8_sizeOf (a1 : Int32) (σ : x_S) : Option (Int32 × x_S) :=
  x_g (x_in (19 + a1) 1372) (if (σ 1 (19 + a1).toNatClampNeg) = 2 then (x_v (fX8_begin 12 σ) (fun σ4 => x_b (fX8_wavesSize a1 σ4) (fun r6 σ7 => some ((-r6), σ7)))) else (if (σ 1 (19 + a1).toNatClampNeg) = 3 then (x_b (fX8_wavesSize a1 σ) (fun r10 σ11 => some (r10, σ11))) else (if (σ 1 (19 + a1).toNatClampNeg) = 4 then (x_b (fX8_winksSize a1 σ) (fun r14 σ15 => some (r14, σ15))) else (if (σ 1 (19 + a1).toNatClampNeg) = 5 then (x_v (fX8_begin 14 σ) (fun σ18 => x_b (fX8_winksSize a1 σ18) (fun r20 σ21 => some ((2 * r20), σ21)))) else (x_b (fX8_wavesSize a1 σ) (fun r23 σ24 => some (r23, σ24)))))))
def fX8_winksMark (a1 : Int32) (σ : x_S) : Option (Int32 × x_S) :=
  x_v (fX8_begin 23 σ) (fun σ2 => x_b (fX8_lentMark a1 σ2) (fun r4 σ5 => x_b (fX8_sizeOf a1 σ5) (fun r7 σ8 => some ((r4 - r7), σ8))))
def fX8_ask (a1 : Int32) (a2 : Int32) (σ : x_S) : Option (Int32 × x_S) :=
  x_p (fX8_isGesture a1 σ) (fun r2 => if r2 = 0 then (some ((-1000001), σ)) else (x_p (fX8_in a2.toInt64 0 1 σ) (fun r5 => if r5 = 0 then (some ((-1000001), σ)) else (x_w (x_u σ 0 12 0) (fun σ7 => if a2 = 0 then (x_b (fX8_sizeOf a1 σ7) (fun r20 σ21 => some (r20, σ21))) else (x_p (fX8_isOf a1 4 σ7) (fun r11 => if r11 = 0 then (x_b (fX8_mark a1 σ7) (fun r14 σ15 => some (r14, σ15))) else (x_b (fX8_winksMark a1 σ7) (fun r17 σ18 => some (r17, σ18))))))))))
def fX8_trace (a1 : Int32) (σ : x_S) : Option Int32 :=
  x_p (fX8_in a1.toInt64 0 (((σ 0 12) - 1).toInt64) σ) (fun r2 => if r2 = 0 then (some (-1000000)) else (x_g (x_in a1 16) (some (σ 7 a1.toNatClampNeg))))
def gX8_count_50 (K50 : Int32 → Int32 → Option Int32) (x2 : Int32) (x3 : Int32) (σ : x_S) : Option Int32 :=
  if 8 ≤ x3 then (some x2) else (x_g (x_in x3 8) (if 0 ≤ (σ 4 x3.toNatClampNeg) then (K50 (x2 + 1) (x3 + 1)) else (K50 (x2 + 0) (x3 + 1))))
def bX8_count_50 (x2 : Int32) (x3 : Int32) (σ : x_S) : Option Int32 :=
  x_fx (α := Int32 → Int32 → Option Int32) (fun _ _ => none) (fun K => fun x2 x3 => gX8_count_50   K x2 x3 σ) x_F x2 x3
def fX8_count (a1 : Int32) (σ : x_S) : Option Int32 :=
  if a1 = 0 then (bX8_count_50 0 0 σ) else (if a1 = 1 then (some (σ 1 (1 : Int32).toNatClampNeg)) else (if a1 = 2 then (some (σ 1 (2 : Int32).toNatClampNeg)) else (if a1 = 3 then (some (σ 1 (3 : Int32).toNatClampNeg)) else (if a1 = 4 then (some (σ 1 (0 : Int32).toNatClampNeg)) else (if a1 = 5 then (x_p (fX8_bits (σ 1 (4 : Int32).toNatClampNeg) σ) (fun r13 => some r13)) else (if a1 = 6 then (some (σ 0 2)) else (if a1 = 7 then (some (σ 0 8)) else (some (-1000001)))))))))
def fX8_status (σ : x_S) : Option Int32 :=
  some (σ 0 10)
end
section
section G
variable {p : Program} {l : Launch} {e : Env} {s : State} {m : MethodId} {args : Array Value} {below : List Frame} {meth : Method} {c : Code}
variable {D : va_G} {cI cQ cC cZ : ClassId} {ad aS : Nat → Nat} {r0 : Int32} {σ0 : x_S}
theorem hdX2_begin : yX2_begin.cls = RX2 ∧ yX2_begin.cls ≠ "java/lang/invoke/MethodHandle" ∧ yX2_begin.cls ≠ "java/lang/invoke/VarHandle" ∧ (parseMethodDescriptor yX2_begin.desc).map (fun d => d.parameters.length) = some 1 := by decide +kernel
theorem iX2_begin_0 : Cond.fieldLink RX2 9 "SignDuty$City" "stands" "Z" ∈ wsX2_begin := by decide +kernel
theorem iX2_begin_cX2 : ∀ w ∈ u_ws RX2 TX2 13, w ∈ wsX2_begin := by decide +kernel
theorem iX2_begin_2 : Cond.fieldLink RX2 15 "SignDuty$City" "rate" "I" ∈ wsX2_begin := by decide +kernel
theorem iX2_begin_3 : Cond.fieldLink RX2 19 "SignDuty$City" "paid" "I" ∈ wsX2_begin := by decide +kernel
theorem iX2_begin_4 : Cond.fieldLink RX2 22 "SignDuty$City" "streets" "I" ∈ wsX2_begin := by decide +kernel
theorem iX2_begin_5 : Cond.fieldLink RX2 25 "SignDuty$City" "known" "I" ∈ wsX2_begin := by decide +kernel
theorem iX2_begin_6 : Cond.fieldLink RX2 28 "SignDuty$City" "gestures" "I" ∈ wsX2_begin := by decide +kernel
set_option maxRecDepth 100000 in
set_option maxHeartbeats 4000000 in
theorem mX2_begin {σ : x_S} {c0 : Nat} {a1 : Int32} (hdis : x_dis s_N ad) (hc0 : s_iC c0) (hf : fX2_begin c0 a1 σ = some σ0) : x_NV l yX2_begin wsX2_begin 0 D vwCl (s_tys cI cQ cC cZ) s_N (s_C cI cQ cC ad) ad (s_St aS) s_NW [.ref (ad c0), .int a1] σ σ0 := by
  refine x_met (cc := cX2_begin) (own := RX2) (maxL := 2) (ret := none) (by decide +kernel) rfl rfl (Nat.le_of_ble_eq_true rfl) hdis (s_StOk aS) s_NwOk (fun p e s m args below meth c B G hr => ?_)
  unfold fX2_begin at hf
  refine x_sub (lv' := [(0, .ref (ad c0)), (1, .int a1)]) [0, 1] rfl ?_
  refine x_aload_n B dX2_begin_0 rfl 0 rfl ?_
  refine x_iconst (v := 1) B dX2_begin_1 (by decide) ?_
  obtain ⟨σ1, u2, hf⟩ := x_ws hf
  refine x_put (v := 1) (ty := .boolean) (kc := c0) (index := 9) B G.1 iX2_begin_cX2 tyX2 tyX2_ok nmX2 rfl (s_kC hc0) (s_cC hc0) 0 (by decide) iX2_begin_0 rfl rfl rfl (by decide) (Nat.le_of_ble_eq_true rfl) (s_w2_0 _ _) dX2_begin_2 ?_
  refine x_nm u2 ?_
  refine x_aload_n B dX2_begin_5 rfl 0 rfl ?_
  refine x_iload_n B dX2_begin_6 rfl 1 rfl ?_
  obtain ⟨σ3, u4, hf⟩ := x_ws hf
  refine x_put (v := a1) (ty := .int) (kc := c0) (index := 15) B G.1 iX2_begin_cX2 tyX2 tyX2_ok nmX2 rfl (s_kC hc0) (s_cC hc0) 1 (by decide) iX2_begin_2 rfl rfl rfl rfl (Nat.le_of_ble_eq_true rfl) (s_w2_1 _ _) dX2_begin_7 ?_
  refine x_nm u4 ?_
  refine x_aload_n B dX2_begin_10 rfl 0 rfl ?_
  refine x_iconst (v := 0) B dX2_begin_11 (by decide) ?_
  obtain ⟨σ5, u6, hf⟩ := x_ws hf
  refine x_put (v := 0) (ty := .int) (kc := c0) (index := 19) B G.1 iX2_begin_cX2 tyX2 tyX2_ok nmX2 rfl (s_kC hc0) (s_cC hc0) 2 (by decide) iX2_begin_3 rfl rfl rfl rfl (Nat.le_of_ble_eq_true rfl) (s_w2_2 _ _) dX2_begin_12 ?_
  refine x_nm u6 ?_
  refine x_aload_n B dX2_begin_15 rfl 0 rfl ?_
  refine x_iconst (v := 0) B dX2_begin_16 (by decide) ?_
  obtain ⟨σ7, u8, hf⟩ := x_ws hf
  refine x_put (v := 0) (ty := .int) (kc := c0) (index := 22) B G.1 iX2_begin_cX2 tyX2 tyX2_ok nmX2 rfl (s_kC hc0) (s_cC hc0) 3 (by decide) iX2_begin_4 rfl rfl rfl rfl (Nat.le_of_ble_eq_true rfl) (s_w2_3 _ _) dX2_begin_17 ?_
  refine x_nm u8 ?_
  refine x_aload_n B dX2_begin_20 rfl 0 rfl ?_
  refine x_iconst (v := 0) B dX2_begin_21 (by decide) ?_
  obtain ⟨σ9, u10, hf⟩ := x_ws hf
  refine x_put (v := 0) (ty := .int) (kc := c0) (index := 25) B G.1 iX2_begin_cX2 tyX2 tyX2_ok nmX2 rfl (s_kC hc0) (s_cC hc0) 4 (by decide) iX2_begin_5 rfl rfl rfl rfl (Nat.le_of_ble_eq_true rfl) (s_w2_4 _ _) dX2_begin_22 ?_
  refine x_nm u10 ?_
  refine x_aload_n B dX2_begin_25 rfl 0 rfl ?_
  refine x_iconst (v := 0) B dX2_begin_26 (by decide) ?_
  obtain ⟨σ11, u12, hf⟩ := x_ws hf
  refine x_put (v := 0) (ty := .int) (kc := c0) (index := 28) B G.1 iX2_begin_cX2 tyX2 tyX2_ok nmX2 rfl (s_kC hc0) (s_cC hc0) 5 (by decide) iX2_begin_6 rfl rfl rfl rfl (Nat.le_of_ble_eq_true rfl) (s_w2_5 _ _) dX2_begin_27 ?_
  refine x_nm u12 ?_
  obtain rfl := x_retV hf
  exact x_vret B hr dX2_begin_30
theorem hdX3_ofLetter : yX3_ofLetter.cls ≠ "java/lang/invoke/MethodHandle" ∧ yX3_ofLetter.cls ≠ "java/lang/invoke/VarHandle" ∧ (parseMethodDescriptor yX3_ofLetter.desc).map (fun d => d.parameters.length) = some 1 := by decide +kernel
set_option maxRecDepth 100000 in
set_option maxHeartbeats 4000000 in
theorem mX3_ofLetter {σ : x_S} {a0 : Int32} (hdis : x_dis s_N ad) (hf : fX3_ofLetter a0 σ = some r0) : x_NI l yX3_ofLetter wsX3_ofLetter 0 D vwCl (s_tys cI cQ cC cZ) s_N (s_C cI cQ cC ad) ad (s_St aS) s_NW [.int a0] σ r0 σ := by
  refine x_met (cc := cX3_ofLetter) (own := RX3) (maxL := 1) (ret := (some .int)) (by decide +kernel) rfl rfl (Nat.le_of_ble_eq_true rfl) hdis (s_StOk aS) s_NwOk (fun p e s m args below meth c B G hr => ?_)
  unfold fX3_ofLetter at hf
  refine x_sub (lv' := [(0, .int a0)]) [0] rfl ?_
  refine x_iload_n B dX3_ofLetter_0 rfl 0 rfl ?_
  by_cases h1 : a0 = 98
  · replace hf := x_it h1 hf
    refine x_lookup (tgt := 56) (off := 55) B dX3_ofLetter_1 (by decide) (by rw [h1]; rfl) (by decide) ?_
    refine x_iconst (v := 3) B dX3_ofLetter_56 (by decide) ?_
    obtain rfl := x_retP hf
    exact x_iret B hr dX3_ofLetter_57
  · replace hf := x_if h1 hf
    by_cases h2 : a0 = 107
    · replace hf := x_it h2 hf
      refine x_lookup (tgt := 58) (off := 57) B dX3_ofLetter_1 (by decide) (by rw [h2]; rfl) (by decide) ?_
      refine x_iconst (v := 4) B dX3_ofLetter_58 (by decide) ?_
      obtain rfl := x_retP hf
      exact x_iret B hr dX3_ofLetter_59
    · replace hf := x_if h2 hf
      by_cases h3 : a0 = 110
      · replace hf := x_it h3 hf
        refine x_lookup (tgt := 54) (off := 53) B dX3_ofLetter_1 (by decide) (by rw [h3]; rfl) (by decide) ?_
        refine x_iconst (v := 2) B dX3_ofLetter_54 (by decide) ?_
        obtain rfl := x_retP hf
        exact x_iret B hr dX3_ofLetter_55
      · replace hf := x_if h3 hf
        by_cases h4 : a0 = 115
        · replace hf := x_it h4 hf
          refine x_lookup (tgt := 60) (off := 59) B dX3_ofLetter_1 (by decide) (by rw [h4]; rfl) (by decide) ?_
          refine x_iconst (v := 5) B dX3_ofLetter_60 (by decide) ?_
          obtain rfl := x_retP hf
          exact x_iret B hr dX3_ofLetter_61
        · replace hf := x_if h4 hf
          by_cases h5 : a0 = 119
          · replace hf := x_it h5 hf
            refine x_lookup (tgt := 52) (off := 51) B dX3_ofLetter_1 (by decide) (by rw [h5]; rfl) (by decide) ?_
            refine x_iconst (v := 1) B dX3_ofLetter_52 (by decide) ?_
            obtain rfl := x_retP hf
            exact x_iret B hr dX3_ofLetter_53
          · replace hf := x_if h5 hf
            refine x_lookup (tgt := 62) (off := 61) B dX3_ofLetter_1 (by decide) (by show Op.lookupswitch.offset [(98, 55), (107, 57), (110, 53), (115, 59), (119, 51)] 61 _ = _; rw [lv_osw h1 (show (98 : Int32).toInt = 98 from rfl), lv_osw h2 (show (107 : Int32).toInt = 107 from rfl), lv_osw h3 (show (110 : Int32).toInt = 110 from rfl), lv_osw h4 (show (115 : Int32).toInt = 115 from rfl), lv_osw h5 (show (119 : Int32).toInt = 119 from rfl)]; rfl) (by decide) ?_
            refine x_iconst (v := 0) B dX3_ofLetter_62 (by decide) ?_
            obtain rfl := x_retP hf
            exact x_iret B hr dX3_ofLetter_63
theorem hdX2_become : yX2_become.cls = RX2 ∧ yX2_become.cls ≠ "java/lang/invoke/MethodHandle" ∧ yX2_become.cls ≠ "java/lang/invoke/VarHandle" ∧ (parseMethodDescriptor yX2_become.desc).map (fun d => d.parameters.length) = some 1 := by decide +kernel
theorem iX2_become_0 : Cond.fieldLink RX2 9 "SignDuty$City" "stands" "Z" ∈ wsX2_become := by decide +kernel
theorem iX2_become_cX2 : ∀ w ∈ u_ws RX2 TX2 13, w ∈ wsX2_become := by decide +kernel
theorem iX2_become_2 : Cond.fieldLink RX2 15 "SignDuty$City" "rate" "I" ∈ wsX2_become := by decide +kernel
theorem iX2_become_3 : Cond.fieldLink RX2 19 "SignDuty$City" "paid" "I" ∈ wsX2_become := by decide +kernel
theorem iX2_become_4 : Cond.fieldLink RX2 22 "SignDuty$City" "streets" "I" ∈ wsX2_become := by decide +kernel
theorem iX2_become_5 : Cond.fieldLink RX2 25 "SignDuty$City" "known" "I" ∈ wsX2_become := by decide +kernel
theorem iX2_become_6 : Cond.fieldLink RX2 28 "SignDuty$City" "gestures" "I" ∈ wsX2_become := by decide +kernel
theorem iX2_become_7 : Cond.fieldLink RX2 31 "SignDuty$City" "dim" "[I" ∈ wsX2_become := by decide +kernel
theorem iX2_become_8 : Cond.methodLink RX2 53 arraycopyName ∈ wsX2_become := by decide +kernel
theorem iX2_become_9 : Cond.native arraycopyName ∈ wsX2_become := by decide +kernel
theorem iX2_become_10 : Cond.static arraycopyName ∈ wsX2_become := by decide +kernel
theorem iX2_become_11 : Cond.initialized "java/lang/System" ∈ wsX2_become := by decide +kernel
theorem iX2_become_12 : Cond.fieldLink RX2 35 "SignDuty$City" "strict" "[I" ∈ wsX2_become := by decide +kernel
theorem iX2_become_13 : Cond.fieldLink RX2 38 "SignDuty$City" "kind" "[I" ∈ wsX2_become := by decide +kernel
theorem iX2_become_14 : Cond.fieldLink RX2 41 "SignDuty$City" "inches" "[I" ∈ wsX2_become := by decide +kernel
theorem iX2_become_15 : Cond.fieldLink RX2 44 "SignDuty$City" "means" "[I" ∈ wsX2_become := by decide +kernel
theorem iX2_become_16 : Cond.fieldLink RX2 47 "SignDuty$City" "takes" "[I" ∈ wsX2_become := by decide +kernel
theorem iX2_become_17 : Cond.fieldLink RX2 50 "SignDuty$City" "made" "[I" ∈ wsX2_become := by decide +kernel
set_option maxRecDepth 100000 in
set_option maxHeartbeats 4000000 in
theorem mX2_become {σ : x_S} {c0 : Nat} {c1 : Nat} (hdis : x_dis s_N ad) (hc0 : s_iC c0) (hc1 : s_iC c1) (hf : fX2_become c0 c1 σ = some σ0) : x_NV l yX2_become wsX2_become 1 D vwCl (s_tys cI cQ cC cZ) s_N (s_C cI cQ cC ad) ad (s_St aS) s_NW [.ref (ad c0), .ref (ad c1)] σ σ0 := by
  refine x_met (cc := cX2_become) (own := RX2) (maxL := 2) (ret := none) (by decide +kernel) rfl rfl (Nat.le_of_ble_eq_true rfl) hdis (s_StOk aS) s_NwOk (fun p e s m args below meth c B G hr => ?_)
  unfold fX2_become at hf
  refine x_sub (lv' := [(0, .ref (ad c0)), (1, .ref (ad c1))]) [0, 1] rfl ?_
  refine x_aload_n B dX2_become_0 rfl 0 rfl ?_
  refine x_aload_n B dX2_become_1 rfl 1 rfl ?_
  refine x_get (v := .int (σ c1 0)) (kc := c1) (index := 9) B G.1 iX2_become_cX2 rfl (s_kC hc1) (s_cC hc1) 0 (by decide) iX2_become_0 rfl dX2_become_2 ?_
  obtain ⟨h1, hf⟩ := x_gs hf
  obtain ⟨σ2, u3, hf⟩ := x_ws hf
  refine x_put (v := (σ c1 0)) (ty := .boolean) (kc := c0) (index := 9) B G.1 iX2_become_cX2 tyX2 tyX2_ok nmX2 rfl (s_kC hc0) (s_cC hc0) 0 (by decide) iX2_become_0 rfl rfl (by rcases h1 with h | h <;> rw [h] <;> rfl) (by rcases h1 with h | h <;> rw [h] <;> rfl) (Nat.le_of_ble_eq_true rfl) (s_w2_0 _ _) dX2_become_5 ?_
  refine x_nm u3 ?_
  refine x_aload_n B dX2_become_8 rfl 0 rfl ?_
  refine x_aload_n B dX2_become_9 rfl 1 rfl ?_
  refine x_get (v := .int (σ2 c1 1)) (kc := c1) (index := 15) B G.1 iX2_become_cX2 rfl (s_kC hc1) (s_cC hc1) 1 (by decide) iX2_become_2 rfl dX2_become_10 ?_
  obtain ⟨σ4, u5, hf⟩ := x_ws hf
  refine x_put (v := (σ2 c1 1)) (ty := .int) (kc := c0) (index := 15) B G.1 iX2_become_cX2 tyX2 tyX2_ok nmX2 rfl (s_kC hc0) (s_cC hc0) 1 (by decide) iX2_become_2 rfl rfl rfl rfl (Nat.le_of_ble_eq_true rfl) (s_w2_1 _ _) dX2_become_13 ?_
  refine x_nm u5 ?_
  refine x_aload_n B dX2_become_16 rfl 0 rfl ?_
  refine x_aload_n B dX2_become_17 rfl 1 rfl ?_
  refine x_get (v := .int (σ4 c1 2)) (kc := c1) (index := 19) B G.1 iX2_become_cX2 rfl (s_kC hc1) (s_cC hc1) 2 (by decide) iX2_become_3 rfl dX2_become_18 ?_
  obtain ⟨σ6, u7, hf⟩ := x_ws hf
  refine x_put (v := (σ4 c1 2)) (ty := .int) (kc := c0) (index := 19) B G.1 iX2_become_cX2 tyX2 tyX2_ok nmX2 rfl (s_kC hc0) (s_cC hc0) 2 (by decide) iX2_become_3 rfl rfl rfl rfl (Nat.le_of_ble_eq_true rfl) (s_w2_2 _ _) dX2_become_21 ?_
  refine x_nm u7 ?_
  refine x_aload_n B dX2_become_24 rfl 0 rfl ?_
  refine x_aload_n B dX2_become_25 rfl 1 rfl ?_
  refine x_get (v := .int (σ6 c1 3)) (kc := c1) (index := 22) B G.1 iX2_become_cX2 rfl (s_kC hc1) (s_cC hc1) 3 (by decide) iX2_become_4 rfl dX2_become_26 ?_
  obtain ⟨σ8, u9, hf⟩ := x_ws hf
  refine x_put (v := (σ6 c1 3)) (ty := .int) (kc := c0) (index := 22) B G.1 iX2_become_cX2 tyX2 tyX2_ok nmX2 rfl (s_kC hc0) (s_cC hc0) 3 (by decide) iX2_become_4 rfl rfl rfl rfl (Nat.le_of_ble_eq_true rfl) (s_w2_3 _ _) dX2_become_29 ?_
  refine x_nm u9 ?_
  refine x_aload_n B dX2_become_32 rfl 0 rfl ?_
  refine x_aload_n B dX2_become_33 rfl 1 rfl ?_
  refine x_get (v := .int (σ8 c1 4)) (kc := c1) (index := 25) B G.1 iX2_become_cX2 rfl (s_kC hc1) (s_cC hc1) 4 (by decide) iX2_become_5 rfl dX2_become_34 ?_
  obtain ⟨σ10, u11, hf⟩ := x_ws hf
  refine x_put (v := (σ8 c1 4)) (ty := .int) (kc := c0) (index := 25) B G.1 iX2_become_cX2 tyX2 tyX2_ok nmX2 rfl (s_kC hc0) (s_cC hc0) 4 (by decide) iX2_become_5 rfl rfl rfl rfl (Nat.le_of_ble_eq_true rfl) (s_w2_4 _ _) dX2_become_37 ?_
  refine x_nm u11 ?_
  refine x_aload_n B dX2_become_40 rfl 0 rfl ?_
  refine x_aload_n B dX2_become_41 rfl 1 rfl ?_
  refine x_get (v := .int (σ10 c1 5)) (kc := c1) (index := 28) B G.1 iX2_become_cX2 rfl (s_kC hc1) (s_cC hc1) 5 (by decide) iX2_become_6 rfl dX2_become_42 ?_
  obtain ⟨σ12, u13, hf⟩ := x_ws hf
  refine x_put (v := (σ10 c1 5)) (ty := .int) (kc := c0) (index := 28) B G.1 iX2_become_cX2 tyX2 tyX2_ok nmX2 rfl (s_kC hc0) (s_cC hc0) 5 (by decide) iX2_become_6 rfl rfl rfl rfl (Nat.le_of_ble_eq_true rfl) (s_w2_5 _ _) dX2_become_45 ?_
  refine x_nm u13 ?_
  refine x_aload_n B dX2_become_48 rfl 1 rfl ?_
  refine x_get (v := .ref (ad (c1 + 1))) (kc := c1) (index := 31) B G.1 iX2_become_cX2 rfl (s_kC hc1) (s_cC hc1) 6 (by decide) iX2_become_7 rfl dX2_become_49 ?_
  refine x_iconst (v := 0) B dX2_become_52 (by decide) ?_
  refine x_aload_n B dX2_become_53 rfl 0 rfl ?_
  refine x_get (v := .ref (ad (c0 + 1))) (kc := c0) (index := 31) B G.1 iX2_become_cX2 rfl (s_kC hc0) (s_cC hc0) 6 (by decide) iX2_become_7 rfl dX2_become_54 ?_
  refine x_iconst (v := 0) B dX2_become_57 (by decide) ?_
  refine x_bipush (v := 7) B dX2_become_58 (by decide) ?_
  obtain ⟨h14, hf⟩ := x_gs hf
  obtain ⟨σ15, u16, hf⟩ := x_ws hf
  refine x_copy (k0 := c1 + 1) (k1 := c0 + 1) (t0 := 0) B G.1 iX2_become_8 iX2_become_9 iX2_become_10 iX2_become_11 (s_kC1 hc1) (s_kC1 hc0) (s_cC1 hc1) (s_cC1 hc0) rfl h14 ⟨Nat.le_of_ble_eq_true rfl, Nat.le_of_ble_eq_true rfl⟩ dX2_become_60 ?_
  refine x_nm u16 ?_
  refine x_aload_n B dX2_become_63 rfl 1 rfl ?_
  refine x_get (v := .ref (ad (c1 + 2))) (kc := c1) (index := 35) B G.1 iX2_become_cX2 rfl (s_kC hc1) (s_cC hc1) 7 (by decide) iX2_become_12 rfl dX2_become_64 ?_
  refine x_iconst (v := 0) B dX2_become_67 (by decide) ?_
  refine x_aload_n B dX2_become_68 rfl 0 rfl ?_
  refine x_get (v := .ref (ad (c0 + 2))) (kc := c0) (index := 35) B G.1 iX2_become_cX2 rfl (s_kC hc0) (s_cC hc0) 7 (by decide) iX2_become_12 rfl dX2_become_69 ?_
  refine x_iconst (v := 0) B dX2_become_72 (by decide) ?_
  refine x_bipush (v := 7) B dX2_become_73 (by decide) ?_
  obtain ⟨h17, hf⟩ := x_gs hf
  obtain ⟨σ18, u19, hf⟩ := x_ws hf
  refine x_copy (k0 := c1 + 2) (k1 := c0 + 2) (t0 := 0) B G.1 iX2_become_8 iX2_become_9 iX2_become_10 iX2_become_11 (s_kC2 hc1) (s_kC2 hc0) (s_cC2 hc1) (s_cC2 hc0) rfl h17 ⟨Nat.le_of_ble_eq_true rfl, Nat.le_of_ble_eq_true rfl⟩ dX2_become_75 ?_
  refine x_nm u19 ?_
  refine x_aload_n B dX2_become_78 rfl 1 rfl ?_
  refine x_get (v := .ref (ad (c1 + 3))) (kc := c1) (index := 38) B G.1 iX2_become_cX2 rfl (s_kC hc1) (s_cC hc1) 8 (by decide) iX2_become_13 rfl dX2_become_79 ?_
  refine x_iconst (v := 0) B dX2_become_82 (by decide) ?_
  refine x_aload_n B dX2_become_83 rfl 0 rfl ?_
  refine x_get (v := .ref (ad (c0 + 3))) (kc := c0) (index := 38) B G.1 iX2_become_cX2 rfl (s_kC hc0) (s_cC hc0) 8 (by decide) iX2_become_13 rfl dX2_become_84 ?_
  refine x_iconst (v := 0) B dX2_become_87 (by decide) ?_
  refine x_bipush (v := 6) B dX2_become_88 (by decide) ?_
  obtain ⟨h20, hf⟩ := x_gs hf
  obtain ⟨σ21, u22, hf⟩ := x_ws hf
  refine x_copy (k0 := c1 + 3) (k1 := c0 + 3) (t0 := 0) B G.1 iX2_become_8 iX2_become_9 iX2_become_10 iX2_become_11 (s_kC3 hc1) (s_kC3 hc0) (s_cC3 hc1) (s_cC3 hc0) rfl h20 ⟨Nat.le_of_ble_eq_true rfl, Nat.le_of_ble_eq_true rfl⟩ dX2_become_90 ?_
  refine x_nm u22 ?_
  refine x_aload_n B dX2_become_93 rfl 1 rfl ?_
  refine x_get (v := .ref (ad (c1 + 4))) (kc := c1) (index := 41) B G.1 iX2_become_cX2 rfl (s_kC hc1) (s_cC hc1) 9 (by decide) iX2_become_14 rfl dX2_become_94 ?_
  refine x_iconst (v := 0) B dX2_become_97 (by decide) ?_
  refine x_aload_n B dX2_become_98 rfl 0 rfl ?_
  refine x_get (v := .ref (ad (c0 + 4))) (kc := c0) (index := 41) B G.1 iX2_become_cX2 rfl (s_kC hc0) (s_cC hc0) 9 (by decide) iX2_become_14 rfl dX2_become_99 ?_
  refine x_iconst (v := 0) B dX2_become_102 (by decide) ?_
  refine x_bipush (v := 6) B dX2_become_103 (by decide) ?_
  obtain ⟨h23, hf⟩ := x_gs hf
  obtain ⟨σ24, u25, hf⟩ := x_ws hf
  refine x_copy (k0 := c1 + 4) (k1 := c0 + 4) (t0 := 0) B G.1 iX2_become_8 iX2_become_9 iX2_become_10 iX2_become_11 (s_kC4 hc1) (s_kC4 hc0) (s_cC4 hc1) (s_cC4 hc0) rfl h23 ⟨Nat.le_of_ble_eq_true rfl, Nat.le_of_ble_eq_true rfl⟩ dX2_become_105 ?_
  refine x_nm u25 ?_
  refine x_aload_n B dX2_become_108 rfl 1 rfl ?_
  refine x_get (v := .ref (ad (c1 + 5))) (kc := c1) (index := 44) B G.1 iX2_become_cX2 rfl (s_kC hc1) (s_cC hc1) 10 (by decide) iX2_become_15 rfl dX2_become_109 ?_
  refine x_iconst (v := 0) B dX2_become_112 (by decide) ?_
  refine x_aload_n B dX2_become_113 rfl 0 rfl ?_
  refine x_get (v := .ref (ad (c0 + 5))) (kc := c0) (index := 44) B G.1 iX2_become_cX2 rfl (s_kC hc0) (s_cC hc0) 10 (by decide) iX2_become_15 rfl dX2_become_114 ?_
  refine x_iconst (v := 0) B dX2_become_117 (by decide) ?_
  refine x_bipush (v := 6) B dX2_become_118 (by decide) ?_
  obtain ⟨h26, hf⟩ := x_gs hf
  obtain ⟨σ27, u28, hf⟩ := x_ws hf
  refine x_copy (k0 := c1 + 5) (k1 := c0 + 5) (t0 := 0) B G.1 iX2_become_8 iX2_become_9 iX2_become_10 iX2_become_11 (s_kC5 hc1) (s_kC5 hc0) (s_cC5 hc1) (s_cC5 hc0) rfl h26 ⟨Nat.le_of_ble_eq_true rfl, Nat.le_of_ble_eq_true rfl⟩ dX2_become_120 ?_
  refine x_nm u28 ?_
  refine x_aload_n B dX2_become_123 rfl 1 rfl ?_
  refine x_get (v := .ref (ad (c1 + 6))) (kc := c1) (index := 47) B G.1 iX2_become_cX2 rfl (s_kC hc1) (s_cC hc1) 11 (by decide) iX2_become_16 rfl dX2_become_124 ?_
  refine x_iconst (v := 0) B dX2_become_127 (by decide) ?_
  refine x_aload_n B dX2_become_128 rfl 0 rfl ?_
  refine x_get (v := .ref (ad (c0 + 6))) (kc := c0) (index := 47) B G.1 iX2_become_cX2 rfl (s_kC hc0) (s_cC hc0) 11 (by decide) iX2_become_16 rfl dX2_become_129 ?_
  refine x_iconst (v := 0) B dX2_become_132 (by decide) ?_
  refine x_bipush (v := 6) B dX2_become_133 (by decide) ?_
  obtain ⟨h29, hf⟩ := x_gs hf
  obtain ⟨σ30, u31, hf⟩ := x_ws hf
  refine x_copy (k0 := c1 + 6) (k1 := c0 + 6) (t0 := 0) B G.1 iX2_become_8 iX2_become_9 iX2_become_10 iX2_become_11 (s_kC6 hc1) (s_kC6 hc0) (s_cC6 hc1) (s_cC6 hc0) rfl h29 ⟨Nat.le_of_ble_eq_true rfl, Nat.le_of_ble_eq_true rfl⟩ dX2_become_135 ?_
  refine x_nm u31 ?_
  refine x_aload_n B dX2_become_138 rfl 1 rfl ?_
  refine x_get (v := .ref (ad (c1 + 7))) (kc := c1) (index := 50) B G.1 iX2_become_cX2 rfl (s_kC hc1) (s_cC hc1) 12 (by decide) iX2_become_17 rfl dX2_become_139 ?_
  refine x_iconst (v := 0) B dX2_become_142 (by decide) ?_
  refine x_aload_n B dX2_become_143 rfl 0 rfl ?_
  refine x_get (v := .ref (ad (c0 + 7))) (kc := c0) (index := 50) B G.1 iX2_become_cX2 rfl (s_kC hc0) (s_cC hc0) 12 (by decide) iX2_become_17 rfl dX2_become_144 ?_
  refine x_iconst (v := 0) B dX2_become_147 (by decide) ?_
  refine x_bipush (v := 6) B dX2_become_148 (by decide) ?_
  obtain ⟨h32, hf⟩ := x_gs hf
  obtain ⟨σ33, u34, hf⟩ := x_ws hf
  refine x_copy (k0 := c1 + 7) (k1 := c0 + 7) (t0 := 0) B G.1 iX2_become_8 iX2_become_9 iX2_become_10 iX2_become_11 (s_kC7 hc1) (s_kC7 hc0) (s_cC7 hc1) (s_cC7 hc0) rfl h32 ⟨Nat.le_of_ble_eq_true rfl, Nat.le_of_ble_eq_true rfl⟩ dX2_become_150 ?_
  refine x_nm u34 ?_
  obtain rfl := x_retV hf
  exact x_vret B hr dX2_become_153
theorem hdX2_isSeen : yX2_isSeen.cls = RX2 ∧ yX2_isSeen.cls ≠ "java/lang/invoke/MethodHandle" ∧ yX2_isSeen.cls ≠ "java/lang/invoke/VarHandle" ∧ (parseMethodDescriptor yX2_isSeen.desc).map (fun d => d.parameters.length) = some 2 := by decide +kernel
theorem iX2_isSeen_0 : Cond.fieldLink RX2 38 "SignDuty$City" "kind" "[I" ∈ wsX2_isSeen := by decide +kernel
theorem iX2_isSeen_cX2 : ∀ w ∈ u_ws RX2 TX2 13, w ∈ wsX2_isSeen := by decide +kernel
theorem iX2_isSeen_2 : Cond.fieldLink RX2 41 "SignDuty$City" "inches" "[I" ∈ wsX2_isSeen := by decide +kernel
theorem iX2_isSeen_3 : Cond.fieldLink RX2 31 "SignDuty$City" "dim" "[I" ∈ wsX2_isSeen := by decide +kernel
set_option maxRecDepth 100000 in
set_option maxHeartbeats 4000000 in
theorem kX2_isSeen_41 {σ : x_S} {c0 : Nat} {x2 : Int32} {y0 : Int32} {y1 : Int32} (B : x_B p s m args meth c cX2_isSeen 4 wsX2_isSeen RX2) (G : x_H s D vwCl (s_tys cI cQ cC cZ) s_N ad (x_A s_N ad) (s_St aS) s_NW) (hr : meth.sig.returnType = (some .boolean)) (hc0 : s_iC c0) (hf : bX2_isSeen_41  c0 x2 y0 y1 σ = some r0) : x_J p l e (x_rm 0) s m args below meth c 0 0 (MQ below (x_Qi D vwCl s_N (s_C cI cQ cC ad) ad r0 σ) args s 0 0 (x_A s_N ad)) (x_A s_N ad) 4 (x_I D vwCl s_N (s_C cI cQ cC ad) ad σ) [(0, .ref (ad c0)), (2, .int x2)] [.int y0, .int y1] 41 := by
  unfold bX2_isSeen_41 at hf
  refine x_iadd B dX2_isSeen_41 ?_
  refine x_aload_n B dX2_isSeen_42 rfl 0 rfl ?_
  refine x_get (v := .ref (ad (c0 + 1))) (kc := c0) (index := 31) B G.1 iX2_isSeen_cX2 rfl (s_kC hc0) (s_cC hc0) 6 (by decide) iX2_isSeen_3 rfl dX2_isSeen_43 ?_
  refine x_iload_n B dX2_isSeen_46 rfl 1 rfl ?_
  obtain ⟨h1, hf⟩ := x_gs hf
  refine x_iald (kc := c0 + 1) (t0 := 0) B G.1 (s_kC1 hc0) (s_cC1 hc0) rfl h1 dX2_isSeen_47 ?_
  refine x_icmp_lt (tgt := 55) B dX2_isSeen_48 (by decide) (fun h2 => ?_) (fun h2 => ?_)
  · replace hf := x_it h2 hf
    refine x_iconst (v := 0) B dX2_isSeen_55 (by decide) ?_
    obtain rfl := x_retP hf
    exact x_zret B hr (by decide) dX2_isSeen_56
  · replace hf := x_if h2 hf
    refine x_iconst (v := 1) B dX2_isSeen_51 (by decide) ?_
    refine x_goto (tgt := 56) B dX2_isSeen_52 (by decide) ?_
    obtain rfl := x_retP hf
    exact x_zret B hr (by decide) dX2_isSeen_56
set_option maxRecDepth 100000 in
set_option maxHeartbeats 4000000 in
theorem kX2_isSeen_25 {σ : x_S} {c0 : Nat} {x1 : Int32} {x2 : Int32} {y0 : Int32} (B : x_B p s m args meth c cX2_isSeen 4 wsX2_isSeen RX2) (G : x_H s D vwCl (s_tys cI cQ cC cZ) s_N ad (x_A s_N ad) (s_St aS) s_NW) (hr : meth.sig.returnType = (some .boolean)) (hc0 : s_iC c0) (hf : bX2_isSeen_25  c0 x1 x2 y0 σ = some r0) : x_J p l e (x_rm 0) s m args below meth c 0 0 (MQ below (x_Qi D vwCl s_N (s_C cI cQ cC ad) ad r0 σ) args s 0 0 (x_A s_N ad)) (x_A s_N ad) 4 (x_I D vwCl s_N (s_C cI cQ cC ad) ad σ) [(0, .ref (ad c0)), (1, .int x1), (2, .int x2)] [.int y0] 25 := by
  unfold bX2_isSeen_25 at hf
  refine x_istore_n (lv' := [(3, .int y0), (0, .ref (ad c0)), (1, .int x1), (2, .int x2)]) B dX2_isSeen_25 rfl (by decide) rfl ?_
  refine x_aload_n B dX2_isSeen_26 rfl 1 rfl ?_
  refine x_get (v := .ref (ad (c0 + 4))) (kc := c0) (index := 41) B G.1 iX2_isSeen_cX2 rfl (s_kC hc0) (s_cC hc0) 9 (by decide) iX2_isSeen_2 rfl dX2_isSeen_27 ?_
  refine x_iload_n B dX2_isSeen_30 rfl 2 rfl ?_
  obtain ⟨h1, hf⟩ := x_gs hf
  refine x_iald (kc := c0 + 4) (t0 := 0) B G.1 (s_kC4 hc0) (s_cC4 hc0) rfl h1 dX2_isSeen_31 ?_
  refine x_iload_n B dX2_isSeen_32 rfl 0 rfl ?_
  refine x_if_eq (tgt := 40) B dX2_isSeen_33 (by decide) (fun h2 => ?_) (fun h2 => ?_)
  · replace hf := x_it h2 hf
    refine x_iconst (v := 0) B dX2_isSeen_40 (by decide) ?_
    refine x_sub [1, 3] rfl ?_
    exact kX2_isSeen_41 B G hr hc0 hf
  · replace hf := x_if h2 hf
    refine x_iconst (v := 5) B dX2_isSeen_36 (by decide) ?_
    refine x_goto (tgt := 41) B dX2_isSeen_37 (by decide) ?_
    refine x_sub [1, 3] rfl ?_
    exact kX2_isSeen_41 B G hr hc0 hf
set_option maxRecDepth 100000 in
set_option maxHeartbeats 4000000 in
theorem mX2_isSeen {σ : x_S} {c0 : Nat} {a1 : Int32} {a2 : Int32} (hdis : x_dis s_N ad) (hc0 : s_iC c0) (hf : fX2_isSeen c0 a1 a2 σ = some r0) : x_NI l yX2_isSeen wsX2_isSeen 0 D vwCl (s_tys cI cQ cC cZ) s_N (s_C cI cQ cC ad) ad (s_St aS) s_NW [.ref (ad c0), .int a1, .int a2] σ r0 σ := by
  refine x_met (cc := cX2_isSeen) (own := RX2) (maxL := 4) (ret := (some .boolean)) (by decide +kernel) rfl rfl (Nat.le_of_ble_eq_true rfl) hdis (s_StOk aS) s_NwOk (fun p e s m args below meth c B G hr => ?_)
  unfold fX2_isSeen at hf
  refine x_sub (lv' := [(0, .ref (ad c0)), (1, .int a1), (2, .int a2)]) [0, 1, 2] rfl ?_
  refine x_aload_n B dX2_isSeen_0 rfl 0 rfl ?_
  refine x_get (v := .ref (ad (c0 + 3))) (kc := c0) (index := 38) B G.1 iX2_isSeen_cX2 rfl (s_kC hc0) (s_cC hc0) 8 (by decide) iX2_isSeen_0 rfl dX2_isSeen_1 ?_
  refine x_iload_n B dX2_isSeen_4 rfl 1 rfl ?_
  obtain ⟨h1, hf⟩ := x_gs hf
  refine x_iald (kc := c0 + 3) (t0 := 0) B G.1 (s_kC3 hc0) (s_cC3 hc0) rfl h1 dX2_isSeen_5 ?_
  refine x_iconst (v := 4) B dX2_isSeen_6 (by decide) ?_
  refine x_icmp_eq (tgt := 20) B dX2_isSeen_7 (by decide) (fun h2 => ?_) (fun h2 => ?_)
  · replace hf := x_it h2 hf
    refine x_iconst (v := 1) B dX2_isSeen_20 (by decide) ?_
    refine x_goto (tgt := 25) B dX2_isSeen_21 (by decide) ?_
    refine x_sub [0, 1, 2] rfl ?_
    exact kX2_isSeen_25 B G hr hc0 hf
  · replace hf := x_if h2 hf
    refine x_aload_n B dX2_isSeen_10 rfl 0 rfl ?_
    refine x_get (v := .ref (ad (c0 + 3))) (kc := c0) (index := 38) B G.1 iX2_isSeen_cX2 rfl (s_kC hc0) (s_cC hc0) 8 (by decide) iX2_isSeen_0 rfl dX2_isSeen_11 ?_
    refine x_iload_n B dX2_isSeen_14 rfl 1 rfl ?_
    obtain ⟨h3, hf⟩ := x_gs hf
    refine x_iald (kc := c0 + 3) (t0 := 0) B G.1 (s_kC3 hc0) (s_cC3 hc0) rfl h3 dX2_isSeen_15 ?_
    refine x_iconst (v := 5) B dX2_isSeen_16 (by decide) ?_
    refine x_icmp_ne (tgt := 24) B dX2_isSeen_17 (by decide) (fun h4 => ?_) (fun h4 => ?_)
    · replace hf := x_if h4 hf
      refine x_iconst (v := 0) B dX2_isSeen_24 (by decide) ?_
      refine x_sub [0, 1, 2] rfl ?_
      exact kX2_isSeen_25 B G hr hc0 hf
    · replace hf := x_it h4 hf
      refine x_iconst (v := 1) B dX2_isSeen_20 (by decide) ?_
      refine x_goto (tgt := 25) B dX2_isSeen_21 (by decide) ?_
      refine x_sub [0, 1, 2] rfl ?_
      exact kX2_isSeen_25 B G hr hc0 hf
theorem hdX2_owesUnknown : yX2_owesUnknown.cls = RX2 ∧ yX2_owesUnknown.cls ≠ "java/lang/invoke/MethodHandle" ∧ yX2_owesUnknown.cls ≠ "java/lang/invoke/VarHandle" ∧ (parseMethodDescriptor yX2_owesUnknown.desc).map (fun d => d.parameters.length) = some 3 := by decide +kernel
theorem iX2_owesUnknown_0 : Cond.fieldLink RX2 15 "SignDuty$City" "rate" "I" ∈ wsX2_owesUnknown := by decide +kernel
theorem iX2_owesUnknown_cX2 : ∀ w ∈ u_ws RX2 TX2 13, w ∈ wsX2_owesUnknown := by decide +kernel
theorem iX2_owesUnknown_2 : Cond.fieldLink RX2 35 "SignDuty$City" "strict" "[I" ∈ wsX2_owesUnknown := by decide +kernel
theorem iX2_owesUnknown_3 : Cond.methodLink RX2 70 Lib.Math.max.name ∈ wsX2_owesUnknown := by decide +kernel
theorem iX2_owesUnknown_4 : Cond.static Lib.Math.max.name ∈ wsX2_owesUnknown := by decide +kernel
theorem iX2_owesUnknown_5 : Cond.initialized "java/lang/Math" ∈ wsX2_owesUnknown := by decide +kernel
theorem iX2_owesUnknown_6 : Cond.code Lib.Math.max.name Lib.Math.max.code 2 (some .int) ∈ wsX2_owesUnknown := by decide +kernel
set_option maxRecDepth 100000 in
set_option maxHeartbeats 4000000 in
theorem mX2_owesUnknown {σ : x_S} {c0 : Nat} {a1 : Int32} {a2 : Int32} {a3 : Int32} (hdis : x_dis s_N ad) (hc0 : s_iC c0) (hf : fX2_owesUnknown c0 a1 a2 a3 σ = some r0) : x_NI l yX2_owesUnknown wsX2_owesUnknown 1 D vwCl (s_tys cI cQ cC cZ) s_N (s_C cI cQ cC ad) ad (s_St aS) s_NW [.ref (ad c0), .int a1, .int a2, .int a3] σ r0 σ := by
  refine x_met (cc := cX2_owesUnknown) (own := RX2) (maxL := 5) (ret := (some .int)) (by decide +kernel) rfl rfl (Nat.le_of_ble_eq_true rfl) hdis (s_StOk aS) s_NwOk (fun p e s m args below meth c B G hr => ?_)
  unfold fX2_owesUnknown at hf
  refine x_sub (lv' := [(0, .ref (ad c0)), (1, .int a1), (2, .int a2), (3, .int a3)]) [0, 1, 2, 3] rfl ?_
  refine x_iload_n B dX2_owesUnknown_0 rfl 2 rfl ?_
  refine x_aload_n B dX2_owesUnknown_1 rfl 0 rfl ?_
  refine x_get (v := .int (σ c0 1)) (kc := c0) (index := 15) B G.1 iX2_owesUnknown_cX2 rfl (s_kC hc0) (s_cC hc0) 1 (by decide) iX2_owesUnknown_0 rfl dX2_owesUnknown_2 ?_
  refine x_imul B dX2_owesUnknown_5 ?_
  refine x_iload_n B dX2_owesUnknown_6 rfl 2 rfl ?_
  refine x_aload_n B dX2_owesUnknown_7 rfl 0 rfl ?_
  refine x_get (v := .ref (ad (c0 + 2))) (kc := c0) (index := 35) B G.1 iX2_owesUnknown_cX2 rfl (s_kC hc0) (s_cC hc0) 7 (by decide) iX2_owesUnknown_2 rfl dX2_owesUnknown_8 ?_
  refine x_iload_n B dX2_owesUnknown_11 rfl 3 rfl ?_
  obtain ⟨h1, hf⟩ := x_gs hf
  refine x_iald (kc := c0 + 2) (t0 := 0) B G.1 (s_kC2 hc0) (s_cC2 hc0) rfl h1 dX2_owesUnknown_12 ?_
  refine x_imul B dX2_owesUnknown_13 ?_
  refine x_bipush (v := 10) B dX2_owesUnknown_14 (by decide) ?_
  refine x_idiv B dX2_owesUnknown_16 (by decide) ?_
  refine x_iadd B dX2_owesUnknown_17 ?_
  refine x_istore (lv' := [(4, .int ((a2 * (σ c0 1)) + ((a2 * (σ (c0 + 2) a3.toNatClampNeg)) / 10))), (0, .ref (ad c0)), (1, .int a1), (2, .int a2), (3, .int a3)]) B dX2_owesUnknown_18 (by decide) rfl ?_
  refine x_iload_n B dX2_owesUnknown_20 rfl 2 rfl ?_
  by_cases h2 : a1 = 1
  · replace hf := x_it h2 hf
    refine x_tableIn (tgt := 56) (off := 35) B dX2_owesUnknown_21 (by rw [h2]; decide) (by rw [h2]; decide) (by rw [h2]; rfl) (by decide) ?_
    refine x_iload B dX2_owesUnknown_56 0 rfl ?_
    obtain rfl := x_retP hf
    exact x_iret B hr dX2_owesUnknown_58
  · replace hf := x_if h2 hf
    by_cases h3 : a1 = 2
    · replace hf := x_it h3 hf
      refine x_tableIn (tgt := 59) (off := 38) B dX2_owesUnknown_21 (by rw [h3]; decide) (by rw [h3]; decide) (by rw [h3]; rfl) (by decide) ?_
      refine x_iload B dX2_owesUnknown_59 0 rfl ?_
      refine x_iconst (v := 2) B dX2_owesUnknown_61 (by decide) ?_
      refine x_idiv B dX2_owesUnknown_62 (by decide) ?_
      obtain rfl := x_retP hf
      exact x_iret B hr dX2_owesUnknown_63
    · replace hf := x_if h3 hf
      by_cases h4 : a1 = 3
      · replace hf := x_it h4 hf
        refine x_tableIn (tgt := 64) (off := 43) B dX2_owesUnknown_21 (by rw [h4]; decide) (by rw [h4]; decide) (by rw [h4]; rfl) (by decide) ?_
        refine x_iload B dX2_owesUnknown_64 0 rfl ?_
        refine x_aload_n B dX2_owesUnknown_66 rfl 1 rfl ?_
        refine x_get (v := .int (σ c0 1)) (kc := c0) (index := 15) B G.1 iX2_owesUnknown_cX2 rfl (s_kC hc0) (s_cC hc0) 1 (by decide) iX2_owesUnknown_0 rfl dX2_owesUnknown_67 ?_
        refine x_iconst (v := 0) B dX2_owesUnknown_70 (by decide) ?_
        refine x_iload_n B dX2_owesUnknown_71 rfl 3 rfl ?_
        refine x_bipush (v := 10) B dX2_owesUnknown_72 (by decide) ?_
        refine x_isub B dX2_owesUnknown_74 ?_
        refine x_mmax B iX2_owesUnknown_3 iX2_owesUnknown_4 iX2_owesUnknown_5 iX2_owesUnknown_6 ⟨Nat.le_of_ble_eq_true rfl, Nat.le_of_ble_eq_true rfl⟩ ⟨Nat.zero_le _, Nat.zero_le _⟩ dX2_owesUnknown_75 ?_
        refine x_imul B dX2_owesUnknown_78 ?_
        refine x_iadd B dX2_owesUnknown_79 ?_
        obtain rfl := x_retP hf
        exact x_iret B hr dX2_owesUnknown_80
      · replace hf := x_if h4 hf
        by_cases h5 : a1 = 4
        · replace hf := x_it h5 hf
          refine x_tableIn (tgt := 98) (off := 77) B dX2_owesUnknown_21 (by rw [h5]; decide) (by rw [h5]; decide) (by rw [h5]; rfl) (by decide) ?_
          refine x_iconst (v := 1) B dX2_owesUnknown_98 (by decide) ?_
          obtain rfl := x_retP hf
          exact x_iret B hr dX2_owesUnknown_99
        · replace hf := x_if h5 hf
          by_cases h6 : a1 = 5
          · replace hf := x_it h6 hf
            refine x_tableIn (tgt := 81) (off := 60) B dX2_owesUnknown_21 (by rw [h6]; decide) (by rw [h6]; decide) (by rw [h6]; rfl) (by decide) ?_
            refine x_aload_n B dX2_owesUnknown_81 rfl 1 rfl ?_
            refine x_get (v := .ref (ad (c0 + 2))) (kc := c0) (index := 35) B G.1 iX2_owesUnknown_cX2 rfl (s_kC hc0) (s_cC hc0) 7 (by decide) iX2_owesUnknown_2 rfl dX2_owesUnknown_82 ?_
            refine x_iload_n B dX2_owesUnknown_85 rfl 4 rfl ?_
            obtain ⟨h7, hf⟩ := x_gs hf
            refine x_iald (kc := c0 + 2) (t0 := 0) B G.1 (s_kC2 hc0) (s_cC2 hc0) rfl h7 dX2_owesUnknown_86 ?_
            refine x_iconst (v := 5) B dX2_owesUnknown_87 (by decide) ?_
            refine x_icmp_lt (tgt := 96) B dX2_owesUnknown_88 (by decide) (fun h8 => ?_) (fun h8 => ?_)
            · replace hf := x_it h8 hf
              refine x_iconst (v := 1) B dX2_owesUnknown_96 (by decide) ?_
              obtain rfl := x_retP hf
              exact x_iret B hr dX2_owesUnknown_97
            · replace hf := x_if h8 hf
              refine x_iload B dX2_owesUnknown_91 0 rfl ?_
              refine x_goto (tgt := 97) B dX2_owesUnknown_93 (by decide) ?_
              obtain rfl := x_retP hf
              exact x_iret B hr dX2_owesUnknown_97
          · replace hf := x_if h6 hf
            refine x_tableOut (tgt := 98) B dX2_owesUnknown_21 (by have g0 := lv_neT (a := 1) h2 rfl; have g1 := lv_neT (a := 2) h3 rfl; have g2 := lv_neT (a := 3) h4 rfl; have g3 := lv_neT (a := 4) h5 rfl; have g4 := lv_neT (a := 5) h6 rfl; omega) (by decide) ?_
            refine x_iconst (v := 1) B dX2_owesUnknown_98 (by decide) ?_
            obtain rfl := x_retP hf
            exact x_iret B hr dX2_owesUnknown_99
theorem hdX2_isKnown : yX2_isKnown.cls = RX2 ∧ yX2_isKnown.cls ≠ "java/lang/invoke/MethodHandle" ∧ yX2_isKnown.cls ≠ "java/lang/invoke/VarHandle" ∧ (parseMethodDescriptor yX2_isKnown.desc).map (fun d => d.parameters.length) = some 1 := by decide +kernel
theorem iX2_isKnown_0 : Cond.fieldLink RX2 25 "SignDuty$City" "known" "I" ∈ wsX2_isKnown := by decide +kernel
theorem iX2_isKnown_cX2 : ∀ w ∈ u_ws RX2 TX2 13, w ∈ wsX2_isKnown := by decide +kernel
set_option maxRecDepth 100000 in
set_option maxHeartbeats 4000000 in
theorem mX2_isKnown {σ : x_S} {c0 : Nat} {a1 : Int32} (hdis : x_dis s_N ad) (hc0 : s_iC c0) (hf : fX2_isKnown c0 a1 σ = some r0) : x_NI l yX2_isKnown wsX2_isKnown 0 D vwCl (s_tys cI cQ cC cZ) s_N (s_C cI cQ cC ad) ad (s_St aS) s_NW [.ref (ad c0), .int a1] σ r0 σ := by
  refine x_met (cc := cX2_isKnown) (own := RX2) (maxL := 2) (ret := (some .boolean)) (by decide +kernel) rfl rfl (Nat.le_of_ble_eq_true rfl) hdis (s_StOk aS) s_NwOk (fun p e s m args below meth c B G hr => ?_)
  unfold fX2_isKnown at hf
  refine x_sub (lv' := [(0, .ref (ad c0)), (1, .int a1)]) [0, 1] rfl ?_
  refine x_aload_n B dX2_isKnown_0 rfl 0 rfl ?_
  refine x_get (v := .int (σ c0 4)) (kc := c0) (index := 25) B G.1 iX2_isKnown_cX2 rfl (s_kC hc0) (s_cC hc0) 4 (by decide) iX2_isKnown_0 rfl dX2_isKnown_1 ?_
  refine x_iload_n B dX2_isKnown_4 rfl 1 rfl ?_
  refine x_ishr B dX2_isKnown_5 ?_
  refine x_iconst (v := 1) B dX2_isKnown_6 (by decide) ?_
  refine x_iand B dX2_isKnown_7 ?_
  refine x_iconst (v := 1) B dX2_isKnown_8 (by decide) ?_
  refine x_icmp_ne (tgt := 16) B dX2_isKnown_9 (by decide) (fun h1 => ?_) (fun h1 => ?_)
  · replace hf := x_if h1 hf
    refine x_iconst (v := 0) B dX2_isKnown_16 (by decide) ?_
    obtain rfl := x_retP hf
    exact x_zret B hr (by decide) dX2_isKnown_17
  · replace hf := x_it h1 hf
    refine x_iconst (v := 1) B dX2_isKnown_12 (by decide) ?_
    refine x_goto (tgt := 17) B dX2_isKnown_13 (by decide) ?_
    obtain rfl := x_retP hf
    exact x_zret B hr (by decide) dX2_isKnown_17
theorem hdX2_owesSuch : yX2_owesSuch.cls = RX2 ∧ yX2_owesSuch.cls ≠ "java/lang/invoke/MethodHandle" ∧ yX2_owesSuch.cls ≠ "java/lang/invoke/VarHandle" ∧ (parseMethodDescriptor yX2_owesSuch.desc).map (fun d => d.parameters.length) = some 3 := by decide +kernel
set_option maxRecDepth 100000 in
set_option maxHeartbeats 4000000 in
theorem mX2_owesSuch {σ : x_S} {c0 : Nat} {a1 : Int32} {a2 : Int32} {a3 : Int32} (hdis : x_dis s_N ad) (hc0 : s_iC c0) (hf : fX2_owesSuch c0 a1 a2 a3 σ = some r0) : x_NI l yX2_owesSuch wsX2_owesSuch 2 D vwCl (s_tys cI cQ cC cZ) s_N (s_C cI cQ cC ad) ad (s_St aS) s_NW [.ref (ad c0), .int a1, .int a2, .int a3] σ r0 σ := by
  refine x_met (cc := cX2_owesSuch) (own := RX2) (maxL := 5) (ret := (some .int)) (by decide +kernel) rfl rfl (Nat.le_of_ble_eq_true rfl) hdis (s_StOk aS) s_NwOk (fun p e s m args below meth c B G hr => ?_)
  unfold fX2_owesSuch at hf
  refine x_sub (lv' := [(0, .ref (ad c0)), (1, .int a1), (2, .int a2), (3, .int a3)]) [0, 1, 2, 3] rfl ?_
  refine x_aload_n B dX2_owesSuch_0 rfl 0 rfl ?_
  refine x_iload_n B dX2_owesSuch_1 rfl 1 rfl ?_
  refine x_iload_n B dX2_owesSuch_2 rfl 2 rfl ?_
  refine x_iload_n B dX2_owesSuch_3 rfl 3 rfl ?_
  obtain ⟨r2, e1, hf⟩ := x_ps hf
  refine x_callV (As := [.int a1, .int a2, .int a3]) (st := []) B G (mX2_owesUnknown (l := l) G.1.2.1 hc0 e1) (cwV 3 B.2.2.2.2.1 gX2_owesSuch_X2_owesUnknown rfl rfl rfl hdX2_owesUnknown (x_rm_ok (by omega) (by decide))) (s_kC hc0) (s_cC hc0) rfl rfl rfl (Nat.le_of_ble_eq_true rfl) ⟨Nat.zero_le _, Nat.zero_le _⟩ dX2_owesSuch_4 ?_
  refine x_istore (lv' := [(4, .int r2), (0, .ref (ad c0)), (1, .int a1), (2, .int a2), (3, .int a3)]) B dX2_owesSuch_7 (by decide) rfl ?_
  refine x_aload_n B dX2_owesSuch_9 rfl 1 rfl ?_
  refine x_iload_n B dX2_owesSuch_10 rfl 4 rfl ?_
  obtain ⟨r4, e3, hf⟩ := x_ps hf
  refine x_callV (As := [.int a3]) (st := []) B G (mX2_isKnown (l := l) G.1.2.1 hc0 e3) (cwV 1 B.2.2.2.2.1 gX2_owesSuch_X2_isKnown rfl rfl rfl hdX2_isKnown (x_rm_ok (by omega) (by decide))) (s_kC hc0) (s_cC hc0) rfl rfl rfl (Nat.le_of_ble_eq_true rfl) ⟨Nat.zero_le _, Nat.zero_le _⟩ dX2_owesSuch_11 ?_
  refine x_if_eq (tgt := 24) B dX2_owesSuch_14 (by decide) (fun h5 => ?_) (fun h5 => ?_)
  · replace hf := x_it h5 hf
    refine x_iload B dX2_owesSuch_24 0 rfl ?_
    obtain rfl := x_retP hf
    exact x_iret B hr dX2_owesSuch_26
  · replace hf := x_if h5 hf
    refine x_iload B dX2_owesSuch_17 0 rfl ?_
    refine x_iconst (v := 2) B dX2_owesSuch_19 (by decide) ?_
    refine x_idiv B dX2_owesSuch_20 (by decide) ?_
    refine x_goto (tgt := 26) B dX2_owesSuch_21 (by decide) ?_
    obtain rfl := x_retP hf
    exact x_iret B hr dX2_owesSuch_26
theorem hdX2_owes : yX2_owes.cls = RX2 ∧ yX2_owes.cls ≠ "java/lang/invoke/MethodHandle" ∧ yX2_owes.cls ≠ "java/lang/invoke/VarHandle" ∧ (parseMethodDescriptor yX2_owes.desc).map (fun d => d.parameters.length) = some 2 := by decide +kernel
theorem iX2_owes_0 : Cond.fieldLink RX2 38 "SignDuty$City" "kind" "[I" ∈ wsX2_owes := by decide +kernel
theorem iX2_owes_cX2 : ∀ w ∈ u_ws RX2 TX2 13, w ∈ wsX2_owes := by decide +kernel
theorem iX2_owes_2 : Cond.fieldLink RX2 41 "SignDuty$City" "inches" "[I" ∈ wsX2_owes := by decide +kernel
set_option maxRecDepth 100000 in
set_option maxHeartbeats 4000000 in
theorem mX2_owes {σ : x_S} {c0 : Nat} {a1 : Int32} {a2 : Int32} (hdis : x_dis s_N ad) (hc0 : s_iC c0) (hf : fX2_owes c0 a1 a2 σ = some r0) : x_NI l yX2_owes wsX2_owes 3 D vwCl (s_tys cI cQ cC cZ) s_N (s_C cI cQ cC ad) ad (s_St aS) s_NW [.ref (ad c0), .int a1, .int a2] σ r0 σ := by
  refine x_met (cc := cX2_owes) (own := RX2) (maxL := 3) (ret := (some .int)) (by decide +kernel) rfl rfl (Nat.le_of_ble_eq_true rfl) hdis (s_StOk aS) s_NwOk (fun p e s m args below meth c B G hr => ?_)
  unfold fX2_owes at hf
  refine x_sub (lv' := [(0, .ref (ad c0)), (1, .int a1), (2, .int a2)]) [0, 1, 2] rfl ?_
  refine x_aload_n B dX2_owes_0 rfl 0 rfl ?_
  refine x_aload_n B dX2_owes_1 rfl 0 rfl ?_
  refine x_get (v := .ref (ad (c0 + 3))) (kc := c0) (index := 38) B G.1 iX2_owes_cX2 rfl (s_kC hc0) (s_cC hc0) 8 (by decide) iX2_owes_0 rfl dX2_owes_2 ?_
  refine x_iload_n B dX2_owes_5 rfl 1 rfl ?_
  obtain ⟨h1, hf⟩ := x_gs hf
  refine x_iald (kc := c0 + 3) (t0 := 0) B G.1 (s_kC3 hc0) (s_cC3 hc0) rfl h1 dX2_owes_6 ?_
  refine x_aload_n B dX2_owes_7 rfl 0 rfl ?_
  refine x_get (v := .ref (ad (c0 + 4))) (kc := c0) (index := 41) B G.1 iX2_owes_cX2 rfl (s_kC hc0) (s_cC hc0) 9 (by decide) iX2_owes_2 rfl dX2_owes_8 ?_
  refine x_iload_n B dX2_owes_11 rfl 1 rfl ?_
  obtain ⟨h2, hf⟩ := x_gs hf
  refine x_iald (kc := c0 + 4) (t0 := 0) B G.1 (s_kC4 hc0) (s_cC4 hc0) rfl h2 dX2_owes_12 ?_
  refine x_iload_n B dX2_owes_13 rfl 2 rfl ?_
  obtain ⟨r4, e3, hf⟩ := x_ps hf
  refine x_callV (As := [.int (σ (c0 + 3) a1.toNatClampNeg), .int (σ (c0 + 4) a1.toNatClampNeg), .int a2]) (st := []) B G (mX2_owesSuch (l := l) G.1.2.1 hc0 e3) (cwV 3 B.2.2.2.2.1 gX2_owes_X2_owesSuch rfl rfl rfl hdX2_owesSuch (x_rm_ok (by omega) (by decide))) (s_kC hc0) (s_cC hc0) rfl rfl rfl (Nat.le_of_ble_eq_true rfl) ⟨Nat.zero_le _, Nat.zero_le _⟩ dX2_owes_14 ?_
  obtain rfl := x_retP hf
  exact x_iret B hr dX2_owes_17
theorem hdX2_turnKnown : yX2_turnKnown.cls = RX2 ∧ yX2_turnKnown.cls ≠ "java/lang/invoke/MethodHandle" ∧ yX2_turnKnown.cls ≠ "java/lang/invoke/VarHandle" ∧ (parseMethodDescriptor yX2_turnKnown.desc).map (fun d => d.parameters.length) = some 1 := by decide +kernel
theorem iX2_turnKnown_0 : Cond.fieldLink RX2 25 "SignDuty$City" "known" "I" ∈ wsX2_turnKnown := by decide +kernel
theorem iX2_turnKnown_cX2 : ∀ w ∈ u_ws RX2 TX2 13, w ∈ wsX2_turnKnown := by decide +kernel
set_option maxRecDepth 100000 in
set_option maxHeartbeats 4000000 in
theorem mX2_turnKnown {σ : x_S} {c0 : Nat} {a1 : Int32} (hdis : x_dis s_N ad) (hc0 : s_iC c0) (hf : fX2_turnKnown c0 a1 σ = some σ0) : x_NV l yX2_turnKnown wsX2_turnKnown 0 D vwCl (s_tys cI cQ cC cZ) s_N (s_C cI cQ cC ad) ad (s_St aS) s_NW [.ref (ad c0), .int a1] σ σ0 := by
  refine x_met (cc := cX2_turnKnown) (own := RX2) (maxL := 2) (ret := none) (by decide +kernel) rfl rfl (Nat.le_of_ble_eq_true rfl) hdis (s_StOk aS) s_NwOk (fun p e s m args below meth c B G hr => ?_)
  unfold fX2_turnKnown at hf
  refine x_sub (lv' := [(0, .ref (ad c0)), (1, .int a1)]) [0, 1] rfl ?_
  refine x_aload_n B dX2_turnKnown_0 rfl 0 rfl ?_
  refine x_dup B dX2_turnKnown_1 rfl ?_
  refine x_get (v := .int (σ c0 4)) (kc := c0) (index := 25) B G.1 iX2_turnKnown_cX2 rfl (s_kC hc0) (s_cC hc0) 4 (by decide) iX2_turnKnown_0 rfl dX2_turnKnown_2 ?_
  refine x_iconst (v := 1) B dX2_turnKnown_5 (by decide) ?_
  refine x_iload_n B dX2_turnKnown_6 rfl 1 rfl ?_
  refine x_ishl B dX2_turnKnown_7 ?_
  refine x_ixor B dX2_turnKnown_8 ?_
  obtain ⟨σ1, u2, hf⟩ := x_ws hf
  refine x_put (v := ((σ c0 4) ^^^ (1 <<< (a1 &&& 31)))) (ty := .int) (kc := c0) (index := 25) B G.1 iX2_turnKnown_cX2 tyX2 tyX2_ok nmX2 rfl (s_kC hc0) (s_cC hc0) 4 (by decide) iX2_turnKnown_0 rfl rfl rfl rfl (Nat.le_of_ble_eq_true rfl) (s_w2_4 _ _) dX2_turnKnown_9 ?_
  refine x_nm u2 ?_
  obtain rfl := x_retV hf
  exact x_vret B hr dX2_turnKnown_12
theorem hdX2_streetsThatSee : yX2_streetsThatSee.cls = RX2 ∧ yX2_streetsThatSee.cls ≠ "java/lang/invoke/MethodHandle" ∧ yX2_streetsThatSee.cls ≠ "java/lang/invoke/VarHandle" ∧ (parseMethodDescriptor yX2_streetsThatSee.desc).map (fun d => d.parameters.length) = some 1 := by decide +kernel
theorem iX2_streetsThatSee_0 : Cond.fieldLink RX2 22 "SignDuty$City" "streets" "I" ∈ wsX2_streetsThatSee := by decide +kernel
theorem iX2_streetsThatSee_cX2 : ∀ w ∈ u_ws RX2 TX2 13, w ∈ wsX2_streetsThatSee := by decide +kernel
set_option maxRecDepth 100000 in
set_option maxHeartbeats 4000000 in
theorem qX2_streetsThatSee_4 {σ : x_S} {c0 : Nat} {x1 : Int32} {x2 : Int32} {x3 : Int32} {K4 : Int32 → Int32 → Option Int32} (B : x_B p s m args meth c cX2_streetsThatSee 4 wsX2_streetsThatSee RX2) (G : x_H s D vwCl (s_tys cI cQ cC cZ) s_N ad (x_A s_N ad) (s_St aS) s_NW) (hr : meth.sig.returnType = (some .int)) (hK4 : ∀ (x2 : Int32) (x3 : Int32), K4 x2 x3 = some r0 → x_J p l e (x_rm 1) s m args below meth c 0 0 (MQ below (x_Qi D vwCl s_N (s_C cI cQ cC ad) ad r0 σ) args s 0 0 (x_A s_N ad)) (x_A s_N ad) 4 (x_I D vwCl s_N (s_C cI cQ cC ad) ad σ) [(0, .ref (ad c0)), (1, .int x1), (2, .int x2), (3, .int x3)] [] 4) (hc0 : s_iC c0) (hf : gX2_streetsThatSee_4  c0 x1 K4 x2 x3 σ = some r0) : x_J p l e (x_rm 1) s m args below meth c 0 0 (MQ below (x_Qi D vwCl s_N (s_C cI cQ cC ad) ad r0 σ) args s 0 0 (x_A s_N ad)) (x_A s_N ad) 4 (x_I D vwCl s_N (s_C cI cQ cC ad) ad σ) [(0, .ref (ad c0)), (1, .int x1), (2, .int x2), (3, .int x3)] [] 4 := by
  unfold gX2_streetsThatSee_4 at hf
  refine x_iload_n B dX2_streetsThatSee_4 rfl 3 rfl ?_
  refine x_aload_n B dX2_streetsThatSee_5 rfl 0 rfl ?_
  refine x_get (v := .int (σ c0 3)) (kc := c0) (index := 22) B G.1 iX2_streetsThatSee_cX2 rfl (s_kC hc0) (s_cC hc0) 3 (by decide) iX2_streetsThatSee_0 rfl dX2_streetsThatSee_6 ?_
  refine x_icmp_ge (tgt := 37) B dX2_streetsThatSee_9 (by decide) (fun h1 => ?_) (fun h1 => ?_)
  · replace hf := x_it h1 hf
    refine x_iload_n B dX2_streetsThatSee_37 rfl 2 rfl ?_
    obtain rfl := x_retP hf
    exact x_iret B hr dX2_streetsThatSee_38
  · replace hf := x_if h1 hf
    refine x_iload_n B dX2_streetsThatSee_12 rfl 2 rfl ?_
    refine x_aload_n B dX2_streetsThatSee_13 rfl 0 rfl ?_
    refine x_iload_n B dX2_streetsThatSee_14 rfl 1 rfl ?_
    refine x_iload_n B dX2_streetsThatSee_15 rfl 3 rfl ?_
    obtain ⟨r3, e2, hf⟩ := x_ps hf
    refine x_callV (As := [.int x1, .int x3]) (st := [.int x2]) B G (mX2_isSeen (l := l) G.1.2.1 hc0 e2) (cwV 2 B.2.2.2.2.1 gX2_streetsThatSee_X2_isSeen rfl rfl rfl hdX2_isSeen (x_rm_ok (by omega) (by decide))) (s_kC hc0) (s_cC hc0) rfl rfl rfl (Nat.le_of_ble_eq_true rfl) ⟨Nat.zero_le _, Nat.zero_le _⟩ dX2_streetsThatSee_16 ?_
    refine x_if_eq (tgt := 28) B dX2_streetsThatSee_19 (by decide) (fun h4 => ?_) (fun h4 => ?_)
    · replace hf := x_it h4 hf
      refine x_iconst (v := 0) B dX2_streetsThatSee_28 (by decide) ?_
      refine x_ior B dX2_streetsThatSee_29 ?_
      refine x_istore_n (lv' := [(2, .int (x2 ||| 0)), (0, .ref (ad c0)), (1, .int x1), (3, .int x3)]) B dX2_streetsThatSee_30 rfl (by decide) rfl ?_
      refine x_iinc (v := (x3 + 1)) (lv' := [(3, .int (x3 + 1)), (2, .int (x2 ||| 0)), (0, .ref (ad c0)), (1, .int x1)]) B dX2_streetsThatSee_31 3 rfl rfl (by decide) rfl ?_
      refine x_goto (tgt := 4) B dX2_streetsThatSee_34 (by decide) ?_
      refine x_sub [2, 3, 1, 0] rfl ?_
      exact hK4 _ _ hf
    · replace hf := x_if h4 hf
      refine x_iconst (v := 1) B dX2_streetsThatSee_22 (by decide) ?_
      refine x_iload_n B dX2_streetsThatSee_23 rfl 3 rfl ?_
      refine x_ishl B dX2_streetsThatSee_24 ?_
      refine x_goto (tgt := 29) B dX2_streetsThatSee_25 (by decide) ?_
      refine x_ior B dX2_streetsThatSee_29 ?_
      refine x_istore_n (lv' := [(2, .int (x2 ||| (1 <<< (x3 &&& 31)))), (0, .ref (ad c0)), (1, .int x1), (3, .int x3)]) B dX2_streetsThatSee_30 rfl (by decide) rfl ?_
      refine x_iinc (v := (x3 + 1)) (lv' := [(3, .int (x3 + 1)), (2, .int (x2 ||| (1 <<< (x3 &&& 31)))), (0, .ref (ad c0)), (1, .int x1)]) B dX2_streetsThatSee_31 3 rfl rfl (by decide) rfl ?_
      refine x_goto (tgt := 4) B dX2_streetsThatSee_34 (by decide) ?_
      refine x_sub [2, 3, 1, 0] rfl ?_
      exact hK4 _ _ hf
set_option maxRecDepth 100000 in
set_option maxHeartbeats 4000000 in
theorem kX2_streetsThatSee_4 {σ : x_S} {c0 : Nat} {x1 : Int32} {x2 : Int32} {x3 : Int32} (B : x_B p s m args meth c cX2_streetsThatSee 4 wsX2_streetsThatSee RX2) (G : x_H s D vwCl (s_tys cI cQ cC cZ) s_N ad (x_A s_N ad) (s_St aS) s_NW) (hr : meth.sig.returnType = (some .int)) (hc0 : s_iC c0) (hf : bX2_streetsThatSee_4  c0 x1 x2 x3 σ = some r0) : x_J p l e (x_rm 1) s m args below meth c 0 0 (MQ below (x_Qi D vwCl s_N (s_C cI cQ cC ad) ad r0 σ) args s 0 0 (x_A s_N ad)) (x_A s_N ad) 4 (x_I D vwCl s_N (s_C cI cQ cC ad) ad σ) [(0, .ref (ad c0)), (1, .int x1), (2, .int x2), (3, .int x3)] [] 4 := by
  have key : ∀ (n : Nat) (x2 : Int32) (x3 : Int32), x_fx (α := Int32 → Int32 → Option Int32) (fun _ _ => none) (fun K => fun x2 x3 => gX2_streetsThatSee_4  c0 x1 K x2 x3 σ) n x2 x3 = some r0 → x_J p l e (x_rm 1) s m args below meth c 0 0 (MQ below (x_Qi D vwCl s_N (s_C cI cQ cC ad) ad r0 σ) args s 0 0 (x_A s_N ad)) (x_A s_N ad) 4 (x_I D vwCl s_N (s_C cI cQ cC ad) ad σ) [(0, .ref (ad c0)), (1, .int x1), (2, .int x2), (3, .int x3)] [] 4 := by
    intro n
    induction n with
    | zero => intro x2 x3 h; cases h
    | succ n ih => intro x2 x3 h; exact qX2_streetsThatSee_4 B G hr  ih hc0 h
  exact key x_F x2 x3 hf
set_option maxRecDepth 100000 in
set_option maxHeartbeats 4000000 in
theorem mX2_streetsThatSee {σ : x_S} {c0 : Nat} {a1 : Int32} (hdis : x_dis s_N ad) (hc0 : s_iC c0) (hf : fX2_streetsThatSee c0 a1 σ = some r0) : x_NI l yX2_streetsThatSee wsX2_streetsThatSee 1 D vwCl (s_tys cI cQ cC cZ) s_N (s_C cI cQ cC ad) ad (s_St aS) s_NW [.ref (ad c0), .int a1] σ r0 σ := by
  refine x_met (cc := cX2_streetsThatSee) (own := RX2) (maxL := 4) (ret := (some .int)) (by decide +kernel) rfl rfl (Nat.le_of_ble_eq_true rfl) hdis (s_StOk aS) s_NwOk (fun p e s m args below meth c B G hr => ?_)
  unfold fX2_streetsThatSee at hf
  refine x_sub (lv' := [(0, .ref (ad c0)), (1, .int a1)]) [0, 1] rfl ?_
  refine x_iconst (v := 0) B dX2_streetsThatSee_0 (by decide) ?_
  refine x_istore_n (lv' := [(2, .int 0), (0, .ref (ad c0)), (1, .int a1)]) B dX2_streetsThatSee_1 rfl (by decide) rfl ?_
  refine x_iconst (v := 0) B dX2_streetsThatSee_2 (by decide) ?_
  refine x_istore_n (lv' := [(3, .int 0), (2, .int 0), (0, .ref (ad c0)), (1, .int a1)]) B dX2_streetsThatSee_3 rfl (by decide) rfl ?_
  refine x_sub [2, 3, 1, 0] rfl ?_
  exact kX2_streetsThatSee_4 B G hr hc0 hf
theorem hdX2_gesturesSeenIn : yX2_gesturesSeenIn.cls = RX2 ∧ yX2_gesturesSeenIn.cls ≠ "java/lang/invoke/MethodHandle" ∧ yX2_gesturesSeenIn.cls ≠ "java/lang/invoke/VarHandle" ∧ (parseMethodDescriptor yX2_gesturesSeenIn.desc).map (fun d => d.parameters.length) = some 1 := by decide +kernel
theorem iX2_gesturesSeenIn_0 : Cond.fieldLink RX2 28 "SignDuty$City" "gestures" "I" ∈ wsX2_gesturesSeenIn := by decide +kernel
theorem iX2_gesturesSeenIn_cX2 : ∀ w ∈ u_ws RX2 TX2 13, w ∈ wsX2_gesturesSeenIn := by decide +kernel
set_option maxRecDepth 100000 in
set_option maxHeartbeats 4000000 in
theorem qX2_gesturesSeenIn_4 {σ : x_S} {c0 : Nat} {x1 : Int32} {x2 : Int32} {x3 : Int32} {K4 : Int32 → Int32 → Option Int32} (B : x_B p s m args meth c cX2_gesturesSeenIn 4 wsX2_gesturesSeenIn RX2) (G : x_H s D vwCl (s_tys cI cQ cC cZ) s_N ad (x_A s_N ad) (s_St aS) s_NW) (hr : meth.sig.returnType = (some .int)) (hK4 : ∀ (x2 : Int32) (x3 : Int32), K4 x2 x3 = some r0 → x_J p l e (x_rm 1) s m args below meth c 0 0 (MQ below (x_Qi D vwCl s_N (s_C cI cQ cC ad) ad r0 σ) args s 0 0 (x_A s_N ad)) (x_A s_N ad) 4 (x_I D vwCl s_N (s_C cI cQ cC ad) ad σ) [(0, .ref (ad c0)), (1, .int x1), (2, .int x2), (3, .int x3)] [] 4) (hc0 : s_iC c0) (hf : gX2_gesturesSeenIn_4  c0 x1 K4 x2 x3 σ = some r0) : x_J p l e (x_rm 1) s m args below meth c 0 0 (MQ below (x_Qi D vwCl s_N (s_C cI cQ cC ad) ad r0 σ) args s 0 0 (x_A s_N ad)) (x_A s_N ad) 4 (x_I D vwCl s_N (s_C cI cQ cC ad) ad σ) [(0, .ref (ad c0)), (1, .int x1), (2, .int x2), (3, .int x3)] [] 4 := by
  unfold gX2_gesturesSeenIn_4 at hf
  refine x_iload_n B dX2_gesturesSeenIn_4 rfl 3 rfl ?_
  refine x_aload_n B dX2_gesturesSeenIn_5 rfl 0 rfl ?_
  refine x_get (v := .int (σ c0 5)) (kc := c0) (index := 28) B G.1 iX2_gesturesSeenIn_cX2 rfl (s_kC hc0) (s_cC hc0) 5 (by decide) iX2_gesturesSeenIn_0 rfl dX2_gesturesSeenIn_6 ?_
  refine x_icmp_ge (tgt := 37) B dX2_gesturesSeenIn_9 (by decide) (fun h1 => ?_) (fun h1 => ?_)
  · replace hf := x_it h1 hf
    refine x_iload_n B dX2_gesturesSeenIn_37 rfl 2 rfl ?_
    obtain rfl := x_retP hf
    exact x_iret B hr dX2_gesturesSeenIn_38
  · replace hf := x_if h1 hf
    refine x_iload_n B dX2_gesturesSeenIn_12 rfl 2 rfl ?_
    refine x_aload_n B dX2_gesturesSeenIn_13 rfl 0 rfl ?_
    refine x_iload_n B dX2_gesturesSeenIn_14 rfl 3 rfl ?_
    refine x_iload_n B dX2_gesturesSeenIn_15 rfl 1 rfl ?_
    obtain ⟨r3, e2, hf⟩ := x_ps hf
    refine x_callV (As := [.int x3, .int x1]) (st := [.int x2]) B G (mX2_isSeen (l := l) G.1.2.1 hc0 e2) (cwV 2 B.2.2.2.2.1 gX2_gesturesSeenIn_X2_isSeen rfl rfl rfl hdX2_isSeen (x_rm_ok (by omega) (by decide))) (s_kC hc0) (s_cC hc0) rfl rfl rfl (Nat.le_of_ble_eq_true rfl) ⟨Nat.zero_le _, Nat.zero_le _⟩ dX2_gesturesSeenIn_16 ?_
    refine x_if_eq (tgt := 28) B dX2_gesturesSeenIn_19 (by decide) (fun h4 => ?_) (fun h4 => ?_)
    · replace hf := x_it h4 hf
      refine x_iconst (v := 0) B dX2_gesturesSeenIn_28 (by decide) ?_
      refine x_ior B dX2_gesturesSeenIn_29 ?_
      refine x_istore_n (lv' := [(2, .int (x2 ||| 0)), (0, .ref (ad c0)), (1, .int x1), (3, .int x3)]) B dX2_gesturesSeenIn_30 rfl (by decide) rfl ?_
      refine x_iinc (v := (x3 + 1)) (lv' := [(3, .int (x3 + 1)), (2, .int (x2 ||| 0)), (0, .ref (ad c0)), (1, .int x1)]) B dX2_gesturesSeenIn_31 3 rfl rfl (by decide) rfl ?_
      refine x_goto (tgt := 4) B dX2_gesturesSeenIn_34 (by decide) ?_
      refine x_sub [2, 3, 1, 0] rfl ?_
      exact hK4 _ _ hf
    · replace hf := x_if h4 hf
      refine x_iconst (v := 1) B dX2_gesturesSeenIn_22 (by decide) ?_
      refine x_iload_n B dX2_gesturesSeenIn_23 rfl 3 rfl ?_
      refine x_ishl B dX2_gesturesSeenIn_24 ?_
      refine x_goto (tgt := 29) B dX2_gesturesSeenIn_25 (by decide) ?_
      refine x_ior B dX2_gesturesSeenIn_29 ?_
      refine x_istore_n (lv' := [(2, .int (x2 ||| (1 <<< (x3 &&& 31)))), (0, .ref (ad c0)), (1, .int x1), (3, .int x3)]) B dX2_gesturesSeenIn_30 rfl (by decide) rfl ?_
      refine x_iinc (v := (x3 + 1)) (lv' := [(3, .int (x3 + 1)), (2, .int (x2 ||| (1 <<< (x3 &&& 31)))), (0, .ref (ad c0)), (1, .int x1)]) B dX2_gesturesSeenIn_31 3 rfl rfl (by decide) rfl ?_
      refine x_goto (tgt := 4) B dX2_gesturesSeenIn_34 (by decide) ?_
      refine x_sub [2, 3, 1, 0] rfl ?_
      exact hK4 _ _ hf
set_option maxRecDepth 100000 in
set_option maxHeartbeats 4000000 in
theorem kX2_gesturesSeenIn_4 {σ : x_S} {c0 : Nat} {x1 : Int32} {x2 : Int32} {x3 : Int32} (B : x_B p s m args meth c cX2_gesturesSeenIn 4 wsX2_gesturesSeenIn RX2) (G : x_H s D vwCl (s_tys cI cQ cC cZ) s_N ad (x_A s_N ad) (s_St aS) s_NW) (hr : meth.sig.returnType = (some .int)) (hc0 : s_iC c0) (hf : bX2_gesturesSeenIn_4  c0 x1 x2 x3 σ = some r0) : x_J p l e (x_rm 1) s m args below meth c 0 0 (MQ below (x_Qi D vwCl s_N (s_C cI cQ cC ad) ad r0 σ) args s 0 0 (x_A s_N ad)) (x_A s_N ad) 4 (x_I D vwCl s_N (s_C cI cQ cC ad) ad σ) [(0, .ref (ad c0)), (1, .int x1), (2, .int x2), (3, .int x3)] [] 4 := by
  have key : ∀ (n : Nat) (x2 : Int32) (x3 : Int32), x_fx (α := Int32 → Int32 → Option Int32) (fun _ _ => none) (fun K => fun x2 x3 => gX2_gesturesSeenIn_4  c0 x1 K x2 x3 σ) n x2 x3 = some r0 → x_J p l e (x_rm 1) s m args below meth c 0 0 (MQ below (x_Qi D vwCl s_N (s_C cI cQ cC ad) ad r0 σ) args s 0 0 (x_A s_N ad)) (x_A s_N ad) 4 (x_I D vwCl s_N (s_C cI cQ cC ad) ad σ) [(0, .ref (ad c0)), (1, .int x1), (2, .int x2), (3, .int x3)] [] 4 := by
    intro n
    induction n with
    | zero => intro x2 x3 h; cases h
    | succ n ih => intro x2 x3 h; exact qX2_gesturesSeenIn_4 B G hr  ih hc0 h
  exact key x_F x2 x3 hf
set_option maxRecDepth 100000 in
set_option maxHeartbeats 4000000 in
theorem mX2_gesturesSeenIn {σ : x_S} {c0 : Nat} {a1 : Int32} (hdis : x_dis s_N ad) (hc0 : s_iC c0) (hf : fX2_gesturesSeenIn c0 a1 σ = some r0) : x_NI l yX2_gesturesSeenIn wsX2_gesturesSeenIn 1 D vwCl (s_tys cI cQ cC cZ) s_N (s_C cI cQ cC ad) ad (s_St aS) s_NW [.ref (ad c0), .int a1] σ r0 σ := by
  refine x_met (cc := cX2_gesturesSeenIn) (own := RX2) (maxL := 4) (ret := (some .int)) (by decide +kernel) rfl rfl (Nat.le_of_ble_eq_true rfl) hdis (s_StOk aS) s_NwOk (fun p e s m args below meth c B G hr => ?_)
  unfold fX2_gesturesSeenIn at hf
  refine x_sub (lv' := [(0, .ref (ad c0)), (1, .int a1)]) [0, 1] rfl ?_
  refine x_iconst (v := 0) B dX2_gesturesSeenIn_0 (by decide) ?_
  refine x_istore_n (lv' := [(2, .int 0), (0, .ref (ad c0)), (1, .int a1)]) B dX2_gesturesSeenIn_1 rfl (by decide) rfl ?_
  refine x_iconst (v := 0) B dX2_gesturesSeenIn_2 (by decide) ?_
  refine x_istore_n (lv' := [(3, .int 0), (2, .int 0), (0, .ref (ad c0)), (1, .int a1)]) B dX2_gesturesSeenIn_3 rfl (by decide) rfl ?_
  refine x_sub [2, 3, 1, 0] rfl ?_
  exact kX2_gesturesSeenIn_4 B G hr hc0 hf
theorem hdX2_tells : yX2_tells.cls = RX2 ∧ yX2_tells.cls ≠ "java/lang/invoke/MethodHandle" ∧ yX2_tells.cls ≠ "java/lang/invoke/VarHandle" ∧ (parseMethodDescriptor yX2_tells.desc).map (fun d => d.parameters.length) = some 3 := by decide +kernel
theorem iX2_tells_0 : Cond.fieldLink RX2 44 "SignDuty$City" "means" "[I" ∈ wsX2_tells := by decide +kernel
theorem iX2_tells_cX2 : ∀ w ∈ u_ws RX2 TX2 13, w ∈ wsX2_tells := by decide +kernel
set_option maxRecDepth 100000 in
set_option maxHeartbeats 4000000 in
theorem mX2_tells {σ : x_S} {c0 : Nat} {a1 : Int32} {a2 : Int32} {a3 : Int32} (hdis : x_dis s_N ad) (hc0 : s_iC c0) (hf : fX2_tells c0 a1 a2 a3 σ = some r0) : x_NI l yX2_tells wsX2_tells 1 D vwCl (s_tys cI cQ cC cZ) s_N (s_C cI cQ cC ad) ad (s_St aS) s_NW [.ref (ad c0), .int a1, .int a2, .int a3] σ r0 σ := by
  refine x_met (cc := cX2_tells) (own := RX2) (maxL := 4) (ret := (some .boolean)) (by decide +kernel) rfl rfl (Nat.le_of_ble_eq_true rfl) hdis (s_StOk aS) s_NwOk (fun p e s m args below meth c B G hr => ?_)
  unfold fX2_tells at hf
  refine x_sub (lv' := [(0, .ref (ad c0)), (1, .int a1), (2, .int a2), (3, .int a3)]) [0, 1, 2, 3] rfl ?_
  refine x_aload_n B dX2_tells_0 rfl 0 rfl ?_
  refine x_get (v := .ref (ad (c0 + 5))) (kc := c0) (index := 44) B G.1 iX2_tells_cX2 rfl (s_kC hc0) (s_cC hc0) 10 (by decide) iX2_tells_0 rfl dX2_tells_1 ?_
  refine x_iload_n B dX2_tells_4 rfl 1 rfl ?_
  obtain ⟨h1, hf⟩ := x_gs hf
  refine x_iald (kc := c0 + 5) (t0 := 0) B G.1 (s_kC5 hc0) (s_cC5 hc0) rfl h1 dX2_tells_5 ?_
  refine x_iload_n B dX2_tells_6 rfl 2 rfl ?_
  refine x_icmp_ne (tgt := 23) B dX2_tells_7 (by decide) (fun h2 => ?_) (fun h2 => ?_)
  · replace hf := x_if h2 hf
    refine x_iconst (v := 0) B dX2_tells_23 (by decide) ?_
    obtain rfl := x_retP hf
    exact x_zret B hr (by decide) dX2_tells_24
  · replace hf := x_it h2 hf
    refine x_aload_n B dX2_tells_10 rfl 0 rfl ?_
    refine x_iload_n B dX2_tells_11 rfl 1 rfl ?_
    refine x_iload_n B dX2_tells_12 rfl 3 rfl ?_
    obtain ⟨r4, e3, hf⟩ := x_ps hf
    refine x_callV (As := [.int a1, .int a3]) (st := []) B G (mX2_isSeen (l := l) G.1.2.1 hc0 e3) (cwV 2 B.2.2.2.2.1 gX2_tells_X2_isSeen rfl rfl rfl hdX2_isSeen (x_rm_ok (by omega) (by decide))) (s_kC hc0) (s_cC hc0) rfl rfl rfl (Nat.le_of_ble_eq_true rfl) ⟨Nat.zero_le _, Nat.zero_le _⟩ dX2_tells_13 ?_
    refine x_if_eq (tgt := 23) B dX2_tells_16 (by decide) (fun h5 => ?_) (fun h5 => ?_)
    · replace hf := x_it h5 hf
      refine x_iconst (v := 0) B dX2_tells_23 (by decide) ?_
      obtain rfl := x_retP hf
      exact x_zret B hr (by decide) dX2_tells_24
    · replace hf := x_if h5 hf
      refine x_iconst (v := 1) B dX2_tells_19 (by decide) ?_
      refine x_goto (tgt := 24) B dX2_tells_20 (by decide) ?_
      obtain rfl := x_retP hf
      exact x_zret B hr (by decide) dX2_tells_24
theorem hdX2_leastTime : yX2_leastTime.cls = RX2 ∧ yX2_leastTime.cls ≠ "java/lang/invoke/MethodHandle" ∧ yX2_leastTime.cls ≠ "java/lang/invoke/VarHandle" ∧ (parseMethodDescriptor yX2_leastTime.desc).map (fun d => d.parameters.length) = some 2 := by decide +kernel
theorem iX2_leastTime_0 : Cond.constant RX2 85 (-1000000) ∈ wsX2_leastTime := by decide +kernel
theorem iX2_leastTime_1 : Cond.fieldLink RX2 28 "SignDuty$City" "gestures" "I" ∈ wsX2_leastTime := by decide +kernel
theorem iX2_leastTime_cX2 : ∀ w ∈ u_ws RX2 TX2 13, w ∈ wsX2_leastTime := by decide +kernel
theorem iX2_leastTime_3 : Cond.fieldLink RX2 47 "SignDuty$City" "takes" "[I" ∈ wsX2_leastTime := by decide +kernel
set_option maxRecDepth 100000 in
set_option maxHeartbeats 4000000 in
theorem kX2_leastTime_43 {σ : x_S} {K6 : Int32 → Int32 → Option Int32} {c0 : Nat} {x1 : Int32} {x2 : Int32} {x4 : Int32} (B : x_B p s m args meth c cX2_leastTime 5 wsX2_leastTime RX2) (G : x_H s D vwCl (s_tys cI cQ cC cZ) s_N ad (x_A s_N ad) (s_St aS) s_NW) (hr : meth.sig.returnType = (some .int)) (hK6 : ∀ (x3 : Int32) (x4 : Int32), K6 x3 x4 = some r0 → x_J p l e (x_rm 2) s m args below meth c 0 0 (MQ below (x_Qi D vwCl s_N (s_C cI cQ cC ad) ad r0 σ) args s 0 0 (x_A s_N ad)) (x_A s_N ad) 5 (x_I D vwCl s_N (s_C cI cQ cC ad) ad σ) [(0, .ref (ad c0)), (1, .int x1), (2, .int x2), (3, .int x3), (4, .int x4)] [] 6) (hc0 : s_iC c0) (hf : bX2_leastTime_43 K6 c0 x1 x2 x4 σ = some r0) : x_J p l e (x_rm 2) s m args below meth c 0 0 (MQ below (x_Qi D vwCl s_N (s_C cI cQ cC ad) ad r0 σ) args s 0 0 (x_A s_N ad)) (x_A s_N ad) 5 (x_I D vwCl s_N (s_C cI cQ cC ad) ad σ) [(0, .ref (ad c0)), (1, .int x1), (2, .int x2), (4, .int x4)] [] 43 := by
  unfold bX2_leastTime_43 at hf
  refine x_aload_n B dX2_leastTime_43 rfl 0 rfl ?_
  refine x_get (v := .ref (ad (c0 + 6))) (kc := c0) (index := 47) B G.1 iX2_leastTime_cX2 rfl (s_kC hc0) (s_cC hc0) 11 (by decide) iX2_leastTime_3 rfl dX2_leastTime_44 ?_
  refine x_iload B dX2_leastTime_47 3 rfl ?_
  obtain ⟨h1, hf⟩ := x_gs hf
  refine x_iald (kc := c0 + 6) (t0 := 0) B G.1 (s_kC6 hc0) (s_cC6 hc0) rfl h1 dX2_leastTime_49 ?_
  refine x_istore_n (lv' := [(3, .int (σ (c0 + 6) x4.toNatClampNeg)), (0, .ref (ad c0)), (1, .int x1), (2, .int x2), (4, .int x4)]) B dX2_leastTime_50 rfl (by decide) rfl ?_
  refine x_iinc (v := (x4 + 1)) (lv' := [(4, .int (x4 + 1)), (3, .int (σ (c0 + 6) x4.toNatClampNeg)), (0, .ref (ad c0)), (1, .int x1), (2, .int x2)]) B dX2_leastTime_51 4 rfl rfl (by decide) rfl ?_
  refine x_goto (tgt := 6) B dX2_leastTime_54 (by decide) ?_
  refine x_sub [2, 3, 4, 1, 0] rfl ?_
  exact hK6 _ _ hf
set_option maxRecDepth 100000 in
set_option maxHeartbeats 4000000 in
theorem qX2_leastTime_6 {σ : x_S} {c0 : Nat} {x1 : Int32} {x2 : Int32} {x3 : Int32} {x4 : Int32} {K6 : Int32 → Int32 → Option Int32} (B : x_B p s m args meth c cX2_leastTime 5 wsX2_leastTime RX2) (G : x_H s D vwCl (s_tys cI cQ cC cZ) s_N ad (x_A s_N ad) (s_St aS) s_NW) (hr : meth.sig.returnType = (some .int)) (hK6 : ∀ (x3 : Int32) (x4 : Int32), K6 x3 x4 = some r0 → x_J p l e (x_rm 2) s m args below meth c 0 0 (MQ below (x_Qi D vwCl s_N (s_C cI cQ cC ad) ad r0 σ) args s 0 0 (x_A s_N ad)) (x_A s_N ad) 5 (x_I D vwCl s_N (s_C cI cQ cC ad) ad σ) [(0, .ref (ad c0)), (1, .int x1), (2, .int x2), (3, .int x3), (4, .int x4)] [] 6) (hc0 : s_iC c0) (hf : gX2_leastTime_6  c0 x1 x2 K6 x3 x4 σ = some r0) : x_J p l e (x_rm 2) s m args below meth c 0 0 (MQ below (x_Qi D vwCl s_N (s_C cI cQ cC ad) ad r0 σ) args s 0 0 (x_A s_N ad)) (x_A s_N ad) 5 (x_I D vwCl s_N (s_C cI cQ cC ad) ad σ) [(0, .ref (ad c0)), (1, .int x1), (2, .int x2), (3, .int x3), (4, .int x4)] [] 6 := by
  unfold gX2_leastTime_6 at hf
  refine x_iload B dX2_leastTime_6 4 rfl ?_
  refine x_aload_n B dX2_leastTime_8 rfl 0 rfl ?_
  refine x_get (v := .int (σ c0 5)) (kc := c0) (index := 28) B G.1 iX2_leastTime_cX2 rfl (s_kC hc0) (s_cC hc0) 5 (by decide) iX2_leastTime_1 rfl dX2_leastTime_9 ?_
  refine x_icmp_ge (tgt := 57) B dX2_leastTime_12 (by decide) (fun h1 => ?_) (fun h1 => ?_)
  · replace hf := x_it h1 hf
    refine x_iload_n B dX2_leastTime_57 rfl 3 rfl ?_
    obtain rfl := x_retP hf
    exact x_iret B hr dX2_leastTime_58
  · replace hf := x_if h1 hf
    refine x_aload_n B dX2_leastTime_15 rfl 0 rfl ?_
    refine x_iload B dX2_leastTime_16 4 rfl ?_
    refine x_iload_n B dX2_leastTime_18 rfl 1 rfl ?_
    refine x_iload_n B dX2_leastTime_19 rfl 2 rfl ?_
    obtain ⟨r3, e2, hf⟩ := x_ps hf
    refine x_callV (As := [.int x4, .int x1, .int x2]) (st := []) B G (mX2_tells (l := l) G.1.2.1 hc0 e2) (cwV 3 B.2.2.2.2.1 gX2_leastTime_X2_tells rfl rfl rfl hdX2_tells (x_rm_ok (by omega) (by decide))) (s_kC hc0) (s_cC hc0) rfl rfl rfl (Nat.le_of_ble_eq_true rfl) ⟨Nat.zero_le _, Nat.zero_le _⟩ dX2_leastTime_20 ?_
    refine x_if_eq (tgt := 51) B dX2_leastTime_23 (by decide) (fun h4 => ?_) (fun h4 => ?_)
    · replace hf := x_it h4 hf
      refine x_iinc (v := (x4 + 1)) (lv' := [(4, .int (x4 + 1)), (0, .ref (ad c0)), (1, .int x1), (2, .int x2), (3, .int x3)]) B dX2_leastTime_51 4 rfl rfl (by decide) rfl ?_
      refine x_goto (tgt := 6) B dX2_leastTime_54 (by decide) ?_
      refine x_sub [1, 2, 3, 4, 0] rfl ?_
      exact hK6 _ _ hf
    · replace hf := x_if h4 hf
      refine x_iload_n B dX2_leastTime_26 rfl 3 rfl ?_
      refine x_ldc (v := (-1000000)) B iX2_leastTime_0 dX2_leastTime_27 ?_
      refine x_icmp_eq (tgt := 43) B dX2_leastTime_29 (by decide) (fun h5 => ?_) (fun h5 => ?_)
      · replace hf := x_it h5 hf
        refine x_sub [0, 1, 2, 4] rfl ?_
        exact kX2_leastTime_43 B G hr hK6 hc0 hf
      · replace hf := x_if h5 hf
        refine x_aload_n B dX2_leastTime_32 rfl 0 rfl ?_
        refine x_get (v := .ref (ad (c0 + 6))) (kc := c0) (index := 47) B G.1 iX2_leastTime_cX2 rfl (s_kC hc0) (s_cC hc0) 11 (by decide) iX2_leastTime_3 rfl dX2_leastTime_33 ?_
        refine x_iload B dX2_leastTime_36 4 rfl ?_
        obtain ⟨h6, hf⟩ := x_gs hf
        refine x_iald (kc := c0 + 6) (t0 := 0) B G.1 (s_kC6 hc0) (s_cC6 hc0) rfl h6 dX2_leastTime_38 ?_
        refine x_iload_n B dX2_leastTime_39 rfl 3 rfl ?_
        refine x_icmp_ge (tgt := 51) B dX2_leastTime_40 (by decide) (fun h7 => ?_) (fun h7 => ?_)
        · replace hf := x_it h7 hf
          refine x_iinc (v := (x4 + 1)) (lv' := [(4, .int (x4 + 1)), (0, .ref (ad c0)), (1, .int x1), (2, .int x2), (3, .int x3)]) B dX2_leastTime_51 4 rfl rfl (by decide) rfl ?_
          refine x_goto (tgt := 6) B dX2_leastTime_54 (by decide) ?_
          refine x_sub [1, 2, 3, 4, 0] rfl ?_
          exact hK6 _ _ hf
        · replace hf := x_if h7 hf
          refine x_sub [0, 1, 2, 4] rfl ?_
          exact kX2_leastTime_43 B G hr hK6 hc0 hf
set_option maxRecDepth 100000 in
set_option maxHeartbeats 4000000 in
theorem kX2_leastTime_6 {σ : x_S} {c0 : Nat} {x1 : Int32} {x2 : Int32} {x3 : Int32} {x4 : Int32} (B : x_B p s m args meth c cX2_leastTime 5 wsX2_leastTime RX2) (G : x_H s D vwCl (s_tys cI cQ cC cZ) s_N ad (x_A s_N ad) (s_St aS) s_NW) (hr : meth.sig.returnType = (some .int)) (hc0 : s_iC c0) (hf : bX2_leastTime_6  c0 x1 x2 x3 x4 σ = some r0) : x_J p l e (x_rm 2) s m args below meth c 0 0 (MQ below (x_Qi D vwCl s_N (s_C cI cQ cC ad) ad r0 σ) args s 0 0 (x_A s_N ad)) (x_A s_N ad) 5 (x_I D vwCl s_N (s_C cI cQ cC ad) ad σ) [(0, .ref (ad c0)), (1, .int x1), (2, .int x2), (3, .int x3), (4, .int x4)] [] 6 := by
  have key : ∀ (n : Nat) (x3 : Int32) (x4 : Int32), x_fx (α := Int32 → Int32 → Option Int32) (fun _ _ => none) (fun K => fun x3 x4 => gX2_leastTime_6  c0 x1 x2 K x3 x4 σ) n x3 x4 = some r0 → x_J p l e (x_rm 2) s m args below meth c 0 0 (MQ below (x_Qi D vwCl s_N (s_C cI cQ cC ad) ad r0 σ) args s 0 0 (x_A s_N ad)) (x_A s_N ad) 5 (x_I D vwCl s_N (s_C cI cQ cC ad) ad σ) [(0, .ref (ad c0)), (1, .int x1), (2, .int x2), (3, .int x3), (4, .int x4)] [] 6 := by
    intro n
    induction n with
    | zero => intro x3 x4 h; cases h
    | succ n ih => intro x3 x4 h; exact qX2_leastTime_6 B G hr  ih hc0 h
  exact key x_F x3 x4 hf
set_option maxRecDepth 100000 in
set_option maxHeartbeats 4000000 in
theorem mX2_leastTime {σ : x_S} {c0 : Nat} {a1 : Int32} {a2 : Int32} (hdis : x_dis s_N ad) (hc0 : s_iC c0) (hf : fX2_leastTime c0 a1 a2 σ = some r0) : x_NI l yX2_leastTime wsX2_leastTime 2 D vwCl (s_tys cI cQ cC cZ) s_N (s_C cI cQ cC ad) ad (s_St aS) s_NW [.ref (ad c0), .int a1, .int a2] σ r0 σ := by
  refine x_met (cc := cX2_leastTime) (own := RX2) (maxL := 5) (ret := (some .int)) (by decide +kernel) rfl rfl (Nat.le_of_ble_eq_true rfl) hdis (s_StOk aS) s_NwOk (fun p e s m args below meth c B G hr => ?_)
  unfold fX2_leastTime at hf
  refine x_sub (lv' := [(0, .ref (ad c0)), (1, .int a1), (2, .int a2)]) [0, 1, 2] rfl ?_
  refine x_ldc (v := (-1000000)) B iX2_leastTime_0 dX2_leastTime_0 ?_
  refine x_istore_n (lv' := [(3, .int (-1000000)), (0, .ref (ad c0)), (1, .int a1), (2, .int a2)]) B dX2_leastTime_2 rfl (by decide) rfl ?_
  refine x_iconst (v := 0) B dX2_leastTime_3 (by decide) ?_
  refine x_istore (lv' := [(4, .int 0), (3, .int (-1000000)), (0, .ref (ad c0)), (1, .int a1), (2, .int a2)]) B dX2_leastTime_4 (by decide) rfl ?_
  refine x_sub [2, 3, 4, 1, 0] rfl ?_
  exact kX2_leastTime_6 B G hr hc0 hf
theorem hdX2_streetsWithout : yX2_streetsWithout.cls = RX2 ∧ yX2_streetsWithout.cls ≠ "java/lang/invoke/MethodHandle" ∧ yX2_streetsWithout.cls ≠ "java/lang/invoke/VarHandle" ∧ (parseMethodDescriptor yX2_streetsWithout.desc).map (fun d => d.parameters.length) = some 1 := by decide +kernel
theorem iX2_streetsWithout_0 : Cond.fieldLink RX2 22 "SignDuty$City" "streets" "I" ∈ wsX2_streetsWithout := by decide +kernel
theorem iX2_streetsWithout_cX2 : ∀ w ∈ u_ws RX2 TX2 13, w ∈ wsX2_streetsWithout := by decide +kernel
theorem iX2_streetsWithout_2 : Cond.constant RX2 85 (-1000000) ∈ wsX2_streetsWithout := by decide +kernel
set_option maxRecDepth 100000 in
set_option maxHeartbeats 4000000 in
theorem qX2_streetsWithout_4 {σ : x_S} {c0 : Nat} {x1 : Int32} {x2 : Int32} {x3 : Int32} {K4 : Int32 → Int32 → Option Int32} (B : x_B p s m args meth c cX2_streetsWithout 4 wsX2_streetsWithout RX2) (G : x_H s D vwCl (s_tys cI cQ cC cZ) s_N ad (x_A s_N ad) (s_St aS) s_NW) (hr : meth.sig.returnType = (some .int)) (hK4 : ∀ (x2 : Int32) (x3 : Int32), K4 x2 x3 = some r0 → x_J p l e (x_rm 3) s m args below meth c 0 0 (MQ below (x_Qi D vwCl s_N (s_C cI cQ cC ad) ad r0 σ) args s 0 0 (x_A s_N ad)) (x_A s_N ad) 4 (x_I D vwCl s_N (s_C cI cQ cC ad) ad σ) [(0, .ref (ad c0)), (1, .int x1), (2, .int x2), (3, .int x3)] [] 4) (hc0 : s_iC c0) (hf : gX2_streetsWithout_4  c0 x1 K4 x2 x3 σ = some r0) : x_J p l e (x_rm 3) s m args below meth c 0 0 (MQ below (x_Qi D vwCl s_N (s_C cI cQ cC ad) ad r0 σ) args s 0 0 (x_A s_N ad)) (x_A s_N ad) 4 (x_I D vwCl s_N (s_C cI cQ cC ad) ad σ) [(0, .ref (ad c0)), (1, .int x1), (2, .int x2), (3, .int x3)] [] 4 := by
  unfold gX2_streetsWithout_4 at hf
  refine x_iload_n B dX2_streetsWithout_4 rfl 3 rfl ?_
  refine x_aload_n B dX2_streetsWithout_5 rfl 0 rfl ?_
  refine x_get (v := .int (σ c0 3)) (kc := c0) (index := 22) B G.1 iX2_streetsWithout_cX2 rfl (s_kC hc0) (s_cC hc0) 3 (by decide) iX2_streetsWithout_0 rfl dX2_streetsWithout_6 ?_
  refine x_icmp_ge (tgt := 39) B dX2_streetsWithout_9 (by decide) (fun h1 => ?_) (fun h1 => ?_)
  · replace hf := x_it h1 hf
    refine x_iload_n B dX2_streetsWithout_39 rfl 2 rfl ?_
    obtain rfl := x_retP hf
    exact x_iret B hr dX2_streetsWithout_40
  · replace hf := x_if h1 hf
    refine x_iload_n B dX2_streetsWithout_12 rfl 2 rfl ?_
    refine x_aload_n B dX2_streetsWithout_13 rfl 0 rfl ?_
    refine x_iload_n B dX2_streetsWithout_14 rfl 1 rfl ?_
    refine x_iload_n B dX2_streetsWithout_15 rfl 3 rfl ?_
    obtain ⟨r3, e2, hf⟩ := x_ps hf
    refine x_callV (As := [.int x1, .int x3]) (st := [.int x2]) B G (mX2_leastTime (l := l) G.1.2.1 hc0 e2) (cwV 2 B.2.2.2.2.1 gX2_streetsWithout_X2_leastTime rfl rfl rfl hdX2_leastTime (x_rm_ok (by omega) (by decide))) (s_kC hc0) (s_cC hc0) rfl rfl rfl (Nat.le_of_ble_eq_true rfl) ⟨Nat.zero_le _, Nat.zero_le _⟩ dX2_streetsWithout_16 ?_
    refine x_ldc (v := (-1000000)) B iX2_streetsWithout_2 dX2_streetsWithout_19 ?_
    refine x_icmp_ne (tgt := 30) B dX2_streetsWithout_21 (by decide) (fun h4 => ?_) (fun h4 => ?_)
    · replace hf := x_if h4 hf
      refine x_iconst (v := 0) B dX2_streetsWithout_30 (by decide) ?_
      refine x_ior B dX2_streetsWithout_31 ?_
      refine x_istore_n (lv' := [(2, .int (x2 ||| 0)), (0, .ref (ad c0)), (1, .int x1), (3, .int x3)]) B dX2_streetsWithout_32 rfl (by decide) rfl ?_
      refine x_iinc (v := (x3 + 1)) (lv' := [(3, .int (x3 + 1)), (2, .int (x2 ||| 0)), (0, .ref (ad c0)), (1, .int x1)]) B dX2_streetsWithout_33 3 rfl rfl (by decide) rfl ?_
      refine x_goto (tgt := 4) B dX2_streetsWithout_36 (by decide) ?_
      refine x_sub [2, 3, 1, 0] rfl ?_
      exact hK4 _ _ hf
    · replace hf := x_it h4 hf
      refine x_iconst (v := 1) B dX2_streetsWithout_24 (by decide) ?_
      refine x_iload_n B dX2_streetsWithout_25 rfl 3 rfl ?_
      refine x_ishl B dX2_streetsWithout_26 ?_
      refine x_goto (tgt := 31) B dX2_streetsWithout_27 (by decide) ?_
      refine x_ior B dX2_streetsWithout_31 ?_
      refine x_istore_n (lv' := [(2, .int (x2 ||| (1 <<< (x3 &&& 31)))), (0, .ref (ad c0)), (1, .int x1), (3, .int x3)]) B dX2_streetsWithout_32 rfl (by decide) rfl ?_
      refine x_iinc (v := (x3 + 1)) (lv' := [(3, .int (x3 + 1)), (2, .int (x2 ||| (1 <<< (x3 &&& 31)))), (0, .ref (ad c0)), (1, .int x1)]) B dX2_streetsWithout_33 3 rfl rfl (by decide) rfl ?_
      refine x_goto (tgt := 4) B dX2_streetsWithout_36 (by decide) ?_
      refine x_sub [2, 3, 1, 0] rfl ?_
      exact hK4 _ _ hf
set_option maxRecDepth 100000 in
set_option maxHeartbeats 4000000 in
theorem kX2_streetsWithout_4 {σ : x_S} {c0 : Nat} {x1 : Int32} {x2 : Int32} {x3 : Int32} (B : x_B p s m args meth c cX2_streetsWithout 4 wsX2_streetsWithout RX2) (G : x_H s D vwCl (s_tys cI cQ cC cZ) s_N ad (x_A s_N ad) (s_St aS) s_NW) (hr : meth.sig.returnType = (some .int)) (hc0 : s_iC c0) (hf : bX2_streetsWithout_4  c0 x1 x2 x3 σ = some r0) : x_J p l e (x_rm 3) s m args below meth c 0 0 (MQ below (x_Qi D vwCl s_N (s_C cI cQ cC ad) ad r0 σ) args s 0 0 (x_A s_N ad)) (x_A s_N ad) 4 (x_I D vwCl s_N (s_C cI cQ cC ad) ad σ) [(0, .ref (ad c0)), (1, .int x1), (2, .int x2), (3, .int x3)] [] 4 := by
  have key : ∀ (n : Nat) (x2 : Int32) (x3 : Int32), x_fx (α := Int32 → Int32 → Option Int32) (fun _ _ => none) (fun K => fun x2 x3 => gX2_streetsWithout_4  c0 x1 K x2 x3 σ) n x2 x3 = some r0 → x_J p l e (x_rm 3) s m args below meth c 0 0 (MQ below (x_Qi D vwCl s_N (s_C cI cQ cC ad) ad r0 σ) args s 0 0 (x_A s_N ad)) (x_A s_N ad) 4 (x_I D vwCl s_N (s_C cI cQ cC ad) ad σ) [(0, .ref (ad c0)), (1, .int x1), (2, .int x2), (3, .int x3)] [] 4 := by
    intro n
    induction n with
    | zero => intro x2 x3 h; cases h
    | succ n ih => intro x2 x3 h; exact qX2_streetsWithout_4 B G hr  ih hc0 h
  exact key x_F x2 x3 hf
set_option maxRecDepth 100000 in
set_option maxHeartbeats 4000000 in
theorem mX2_streetsWithout {σ : x_S} {c0 : Nat} {a1 : Int32} (hdis : x_dis s_N ad) (hc0 : s_iC c0) (hf : fX2_streetsWithout c0 a1 σ = some r0) : x_NI l yX2_streetsWithout wsX2_streetsWithout 3 D vwCl (s_tys cI cQ cC cZ) s_N (s_C cI cQ cC ad) ad (s_St aS) s_NW [.ref (ad c0), .int a1] σ r0 σ := by
  refine x_met (cc := cX2_streetsWithout) (own := RX2) (maxL := 4) (ret := (some .int)) (by decide +kernel) rfl rfl (Nat.le_of_ble_eq_true rfl) hdis (s_StOk aS) s_NwOk (fun p e s m args below meth c B G hr => ?_)
  unfold fX2_streetsWithout at hf
  refine x_sub (lv' := [(0, .ref (ad c0)), (1, .int a1)]) [0, 1] rfl ?_
  refine x_iconst (v := 0) B dX2_streetsWithout_0 (by decide) ?_
  refine x_istore_n (lv' := [(2, .int 0), (0, .ref (ad c0)), (1, .int a1)]) B dX2_streetsWithout_1 rfl (by decide) rfl ?_
  refine x_iconst (v := 0) B dX2_streetsWithout_2 (by decide) ?_
  refine x_istore_n (lv' := [(3, .int 0), (2, .int 0), (0, .ref (ad c0)), (1, .int a1)]) B dX2_streetsWithout_3 rfl (by decide) rfl ?_
  refine x_sub [2, 3, 1, 0] rfl ?_
  exact kX2_streetsWithout_4 B G hr hc0 hf
theorem hdX2_owesIfKnown : yX2_owesIfKnown.cls = RX2 ∧ yX2_owesIfKnown.cls ≠ "java/lang/invoke/MethodHandle" ∧ yX2_owesIfKnown.cls ≠ "java/lang/invoke/VarHandle" ∧ (parseMethodDescriptor yX2_owesIfKnown.desc).map (fun d => d.parameters.length) = some 2 := by decide +kernel
theorem iX2_owesIfKnown_0 : Cond.fieldLink RX2 38 "SignDuty$City" "kind" "[I" ∈ wsX2_owesIfKnown := by decide +kernel
theorem iX2_owesIfKnown_cX2 : ∀ w ∈ u_ws RX2 TX2 13, w ∈ wsX2_owesIfKnown := by decide +kernel
theorem iX2_owesIfKnown_2 : Cond.fieldLink RX2 41 "SignDuty$City" "inches" "[I" ∈ wsX2_owesIfKnown := by decide +kernel
set_option maxRecDepth 100000 in
set_option maxHeartbeats 4000000 in
theorem mX2_owesIfKnown {σ : x_S} {c0 : Nat} {a1 : Int32} {a2 : Int32} (hdis : x_dis s_N ad) (hc0 : s_iC c0) (hf : fX2_owesIfKnown c0 a1 a2 σ = some r0) : x_NI l yX2_owesIfKnown wsX2_owesIfKnown 2 D vwCl (s_tys cI cQ cC cZ) s_N (s_C cI cQ cC ad) ad (s_St aS) s_NW [.ref (ad c0), .int a1, .int a2] σ r0 σ := by
  refine x_met (cc := cX2_owesIfKnown) (own := RX2) (maxL := 3) (ret := (some .int)) (by decide +kernel) rfl rfl (Nat.le_of_ble_eq_true rfl) hdis (s_StOk aS) s_NwOk (fun p e s m args below meth c B G hr => ?_)
  unfold fX2_owesIfKnown at hf
  refine x_sub (lv' := [(0, .ref (ad c0)), (1, .int a1), (2, .int a2)]) [0, 1, 2] rfl ?_
  refine x_aload_n B dX2_owesIfKnown_0 rfl 0 rfl ?_
  refine x_aload_n B dX2_owesIfKnown_1 rfl 0 rfl ?_
  refine x_get (v := .ref (ad (c0 + 3))) (kc := c0) (index := 38) B G.1 iX2_owesIfKnown_cX2 rfl (s_kC hc0) (s_cC hc0) 8 (by decide) iX2_owesIfKnown_0 rfl dX2_owesIfKnown_2 ?_
  refine x_iload_n B dX2_owesIfKnown_5 rfl 1 rfl ?_
  obtain ⟨h1, hf⟩ := x_gs hf
  refine x_iald (kc := c0 + 3) (t0 := 0) B G.1 (s_kC3 hc0) (s_cC3 hc0) rfl h1 dX2_owesIfKnown_6 ?_
  refine x_aload_n B dX2_owesIfKnown_7 rfl 0 rfl ?_
  refine x_get (v := .ref (ad (c0 + 4))) (kc := c0) (index := 41) B G.1 iX2_owesIfKnown_cX2 rfl (s_kC hc0) (s_cC hc0) 9 (by decide) iX2_owesIfKnown_2 rfl dX2_owesIfKnown_8 ?_
  refine x_iload_n B dX2_owesIfKnown_11 rfl 1 rfl ?_
  obtain ⟨h2, hf⟩ := x_gs hf
  refine x_iald (kc := c0 + 4) (t0 := 0) B G.1 (s_kC4 hc0) (s_cC4 hc0) rfl h2 dX2_owesIfKnown_12 ?_
  refine x_iload_n B dX2_owesIfKnown_13 rfl 2 rfl ?_
  obtain ⟨r4, e3, hf⟩ := x_ps hf
  refine x_callV (As := [.int (σ (c0 + 3) a1.toNatClampNeg), .int (σ (c0 + 4) a1.toNatClampNeg), .int a2]) (st := []) B G (mX2_owesUnknown (l := l) G.1.2.1 hc0 e3) (cwV 3 B.2.2.2.2.1 gX2_owesIfKnown_X2_owesUnknown rfl rfl rfl hdX2_owesUnknown (x_rm_ok (by omega) (by decide))) (s_kC hc0) (s_cC hc0) rfl rfl rfl (Nat.le_of_ble_eq_true rfl) ⟨Nat.zero_le _, Nat.zero_le _⟩ dX2_owesIfKnown_14 ?_
  refine x_iconst (v := 2) B dX2_owesIfKnown_17 (by decide) ?_
  refine x_idiv B dX2_owesIfKnown_18 (by decide) ?_
  obtain rfl := x_retP hf
  exact x_iret B hr dX2_owesIfKnown_19
theorem hdX2_dearestStreet : yX2_dearestStreet.cls = RX2 ∧ yX2_dearestStreet.cls ≠ "java/lang/invoke/MethodHandle" ∧ yX2_dearestStreet.cls ≠ "java/lang/invoke/VarHandle" ∧ (parseMethodDescriptor yX2_dearestStreet.desc).map (fun d => d.parameters.length) = some 1 := by decide +kernel
theorem iX2_dearestStreet_0 : Cond.fieldLink RX2 22 "SignDuty$City" "streets" "I" ∈ wsX2_dearestStreet := by decide +kernel
theorem iX2_dearestStreet_cX2 : ∀ w ∈ u_ws RX2 TX2 13, w ∈ wsX2_dearestStreet := by decide +kernel
set_option maxRecDepth 100000 in
set_option maxHeartbeats 4000000 in
theorem qX2_dearestStreet_4 {σ : x_S} {c0 : Nat} {x1 : Int32} {x2 : Int32} {x3 : Int32} {K4 : Int32 → Int32 → Option Int32} (B : x_B p s m args meth c cX2_dearestStreet 4 wsX2_dearestStreet RX2) (G : x_H s D vwCl (s_tys cI cQ cC cZ) s_N ad (x_A s_N ad) (s_St aS) s_NW) (hr : meth.sig.returnType = (some .int)) (hK4 : ∀ (x2 : Int32) (x3 : Int32), K4 x2 x3 = some r0 → x_J p l e (x_rm 4) s m args below meth c 0 0 (MQ below (x_Qi D vwCl s_N (s_C cI cQ cC ad) ad r0 σ) args s 0 0 (x_A s_N ad)) (x_A s_N ad) 4 (x_I D vwCl s_N (s_C cI cQ cC ad) ad σ) [(0, .ref (ad c0)), (1, .int x1), (2, .int x2), (3, .int x3)] [] 4) (hc0 : s_iC c0) (hf : gX2_dearestStreet_4  c0 x1 K4 x2 x3 σ = some r0) : x_J p l e (x_rm 4) s m args below meth c 0 0 (MQ below (x_Qi D vwCl s_N (s_C cI cQ cC ad) ad r0 σ) args s 0 0 (x_A s_N ad)) (x_A s_N ad) 4 (x_I D vwCl s_N (s_C cI cQ cC ad) ad σ) [(0, .ref (ad c0)), (1, .int x1), (2, .int x2), (3, .int x3)] [] 4 := by
  unfold gX2_dearestStreet_4 at hf
  refine x_iload_n B dX2_dearestStreet_4 rfl 3 rfl ?_
  refine x_aload_n B dX2_dearestStreet_5 rfl 0 rfl ?_
  refine x_get (v := .int (σ c0 3)) (kc := c0) (index := 22) B G.1 iX2_dearestStreet_cX2 rfl (s_kC hc0) (s_cC hc0) 3 (by decide) iX2_dearestStreet_0 rfl dX2_dearestStreet_6 ?_
  refine x_icmp_ge (tgt := 35) B dX2_dearestStreet_9 (by decide) (fun h1 => ?_) (fun h1 => ?_)
  · replace hf := x_it h1 hf
    refine x_iload_n B dX2_dearestStreet_35 rfl 2 rfl ?_
    obtain rfl := x_retP hf
    exact x_iret B hr dX2_dearestStreet_36
  · replace hf := x_if h1 hf
    refine x_aload_n B dX2_dearestStreet_12 rfl 0 rfl ?_
    refine x_iload_n B dX2_dearestStreet_13 rfl 1 rfl ?_
    refine x_iload_n B dX2_dearestStreet_14 rfl 3 rfl ?_
    obtain ⟨r3, e2, hf⟩ := x_ps hf
    refine x_callV (As := [.int x1, .int x3]) (st := []) B G (mX2_owes (l := l) G.1.2.1 hc0 e2) (cwV 2 B.2.2.2.2.1 gX2_dearestStreet_X2_owes rfl rfl rfl hdX2_owes (x_rm_ok (by omega) (by decide))) (s_kC hc0) (s_cC hc0) rfl rfl rfl (Nat.le_of_ble_eq_true rfl) ⟨Nat.zero_le _, Nat.zero_le _⟩ dX2_dearestStreet_15 ?_
    refine x_aload_n B dX2_dearestStreet_18 rfl 0 rfl ?_
    refine x_iload_n B dX2_dearestStreet_19 rfl 1 rfl ?_
    refine x_iload_n B dX2_dearestStreet_20 rfl 2 rfl ?_
    obtain ⟨r5, e4, hf⟩ := x_ps hf
    refine x_callV (As := [.int x1, .int x2]) (st := [.int r3]) B G (mX2_owes (l := l) G.1.2.1 hc0 e4) (cwV 2 B.2.2.2.2.1 gX2_dearestStreet_X2_owes rfl rfl rfl hdX2_owes (x_rm_ok (by omega) (by decide))) (s_kC hc0) (s_cC hc0) rfl rfl rfl (Nat.le_of_ble_eq_true rfl) ⟨Nat.zero_le _, Nat.zero_le _⟩ dX2_dearestStreet_21 ?_
    refine x_icmp_le (tgt := 29) B dX2_dearestStreet_24 (by decide) (fun h6 => ?_) (fun h6 => ?_)
    · replace hf := x_it h6 hf
      refine x_iinc (v := (x3 + 1)) (lv' := [(3, .int (x3 + 1)), (0, .ref (ad c0)), (1, .int x1), (2, .int x2)]) B dX2_dearestStreet_29 3 rfl rfl (by decide) rfl ?_
      refine x_goto (tgt := 4) B dX2_dearestStreet_32 (by decide) ?_
      refine x_sub [1, 2, 3, 0] rfl ?_
      exact hK4 _ _ hf
    · replace hf := x_if h6 hf
      refine x_iload_n B dX2_dearestStreet_27 rfl 3 rfl ?_
      refine x_istore_n (lv' := [(2, .int x3), (0, .ref (ad c0)), (1, .int x1), (3, .int x3)]) B dX2_dearestStreet_28 rfl (by decide) rfl ?_
      refine x_iinc (v := (x3 + 1)) (lv' := [(3, .int (x3 + 1)), (2, .int x3), (0, .ref (ad c0)), (1, .int x1)]) B dX2_dearestStreet_29 3 rfl rfl (by decide) rfl ?_
      refine x_goto (tgt := 4) B dX2_dearestStreet_32 (by decide) ?_
      refine x_sub [2, 3, 1, 0] rfl ?_
      exact hK4 _ _ hf
set_option maxRecDepth 100000 in
set_option maxHeartbeats 4000000 in
theorem kX2_dearestStreet_4 {σ : x_S} {c0 : Nat} {x1 : Int32} {x2 : Int32} {x3 : Int32} (B : x_B p s m args meth c cX2_dearestStreet 4 wsX2_dearestStreet RX2) (G : x_H s D vwCl (s_tys cI cQ cC cZ) s_N ad (x_A s_N ad) (s_St aS) s_NW) (hr : meth.sig.returnType = (some .int)) (hc0 : s_iC c0) (hf : bX2_dearestStreet_4  c0 x1 x2 x3 σ = some r0) : x_J p l e (x_rm 4) s m args below meth c 0 0 (MQ below (x_Qi D vwCl s_N (s_C cI cQ cC ad) ad r0 σ) args s 0 0 (x_A s_N ad)) (x_A s_N ad) 4 (x_I D vwCl s_N (s_C cI cQ cC ad) ad σ) [(0, .ref (ad c0)), (1, .int x1), (2, .int x2), (3, .int x3)] [] 4 := by
  have key : ∀ (n : Nat) (x2 : Int32) (x3 : Int32), x_fx (α := Int32 → Int32 → Option Int32) (fun _ _ => none) (fun K => fun x2 x3 => gX2_dearestStreet_4  c0 x1 K x2 x3 σ) n x2 x3 = some r0 → x_J p l e (x_rm 4) s m args below meth c 0 0 (MQ below (x_Qi D vwCl s_N (s_C cI cQ cC ad) ad r0 σ) args s 0 0 (x_A s_N ad)) (x_A s_N ad) 4 (x_I D vwCl s_N (s_C cI cQ cC ad) ad σ) [(0, .ref (ad c0)), (1, .int x1), (2, .int x2), (3, .int x3)] [] 4 := by
    intro n
    induction n with
    | zero => intro x2 x3 h; cases h
    | succ n ih => intro x2 x3 h; exact qX2_dearestStreet_4 B G hr  ih hc0 h
  exact key x_F x2 x3 hf
set_option maxRecDepth 100000 in
set_option maxHeartbeats 4000000 in
theorem mX2_dearestStreet {σ : x_S} {c0 : Nat} {a1 : Int32} (hdis : x_dis s_N ad) (hc0 : s_iC c0) (hf : fX2_dearestStreet c0 a1 σ = some r0) : x_NI l yX2_dearestStreet wsX2_dearestStreet 4 D vwCl (s_tys cI cQ cC cZ) s_N (s_C cI cQ cC ad) ad (s_St aS) s_NW [.ref (ad c0), .int a1] σ r0 σ := by
  refine x_met (cc := cX2_dearestStreet) (own := RX2) (maxL := 4) (ret := (some .int)) (by decide +kernel) rfl rfl (Nat.le_of_ble_eq_true rfl) hdis (s_StOk aS) s_NwOk (fun p e s m args below meth c B G hr => ?_)
  unfold fX2_dearestStreet at hf
  refine x_sub (lv' := [(0, .ref (ad c0)), (1, .int a1)]) [0, 1] rfl ?_
  refine x_iconst (v := 0) B dX2_dearestStreet_0 (by decide) ?_
  refine x_istore_n (lv' := [(2, .int 0), (0, .ref (ad c0)), (1, .int a1)]) B dX2_dearestStreet_1 rfl (by decide) rfl ?_
  refine x_iconst (v := 1) B dX2_dearestStreet_2 (by decide) ?_
  refine x_istore_n (lv' := [(3, .int 1), (2, .int 0), (0, .ref (ad c0)), (1, .int a1)]) B dX2_dearestStreet_3 rfl (by decide) rfl ?_
  refine x_sub [2, 3, 1, 0] rfl ?_
  exact kX2_dearestStreet_4 B G hr hc0 hf
theorem hdX3_widerThan : yX3_widerThan.cls ≠ "java/lang/invoke/MethodHandle" ∧ yX3_widerThan.cls ≠ "java/lang/invoke/VarHandle" ∧ (parseMethodDescriptor yX3_widerThan.desc).map (fun d => d.parameters.length) = some 1 := by decide +kernel
theorem iX3_widerThan_0 : Cond.fieldLink RX3 7 "SignDuty$Kinds" "WIDER" "[I" ∈ wsX3_widerThan := by decide +kernel
set_option maxRecDepth 100000 in
set_option maxHeartbeats 4000000 in
theorem mX3_widerThan {σ : x_S} {a0 : Int32} (hdis : x_dis s_N ad) (hf : fX3_widerThan a0 σ = some r0) : x_NI l yX3_widerThan wsX3_widerThan 0 D vwCl (s_tys cI cQ cC cZ) s_N (s_C cI cQ cC ad) ad (s_St aS) s_NW [.int a0] σ r0 σ := by
  refine x_met (cc := cX3_widerThan) (own := RX3) (maxL := 1) (ret := (some .int)) (by decide +kernel) rfl rfl (Nat.le_of_ble_eq_true rfl) hdis (s_StOk aS) s_NwOk (fun p e s m args below meth c B G hr => ?_)
  unfold fX3_widerThan at hf
  refine x_sub (lv' := [(0, .int a0)]) [0] rfl ?_
  refine x_iload_n B dX3_widerThan_0 rfl 0 rfl ?_
  refine x_if_lt (tgt := 20) B dX3_widerThan_1 (by decide) (fun h1 => ?_) (fun h1 => ?_)
  · replace hf := x_it h1 hf
    refine x_iconst (v := 0) B dX3_widerThan_20 (by decide) ?_
    obtain rfl := x_retP hf
    exact x_iret B hr dX3_widerThan_21
  · replace hf := x_if h1 hf
    refine x_iload_n B dX3_widerThan_4 rfl 0 rfl ?_
    refine x_gets B G.1.2.2.2.2.1 iX3_widerThan_0 dX3_widerThan_5 ?_
    refine x_talen (v := 6) B (G.1.2.2.2.2.2.2.2 0 (by decide)) (by decide) dX3_widerThan_8 ?_
    refine x_icmp_ge (tgt := 20) B dX3_widerThan_9 (by decide) (fun h2 => ?_) (fun h2 => ?_)
    · replace hf := x_it h2 hf
      refine x_iconst (v := 0) B dX3_widerThan_20 (by decide) ?_
      obtain rfl := x_retP hf
      exact x_iret B hr dX3_widerThan_21
    · replace hf := x_if h2 hf
      refine x_gets B G.1.2.2.2.2.1 iX3_widerThan_0 dX3_widerThan_12 ?_
      refine x_iload_n B dX3_widerThan_15 rfl 0 rfl ?_
      obtain ⟨h3, hf⟩ := x_gs hf
      refine x_tald (f := s_t 0) B (G.1.2.2.2.2.2.2.2 0 (by decide)) h3 dX3_widerThan_16 ?_
      refine x_goto (tgt := 21) B dX3_widerThan_17 (by decide) ?_
      obtain rfl := x_retP hf
      exact x_iret B hr dX3_widerThan_21
theorem hdX3_isOneOf : yX3_isOneOf.cls ≠ "java/lang/invoke/MethodHandle" ∧ yX3_isOneOf.cls ≠ "java/lang/invoke/VarHandle" ∧ (parseMethodDescriptor yX3_isOneOf.desc).map (fun d => d.parameters.length) = some 2 := by decide +kernel
theorem iX3_isOneOf_0 : Cond.fieldLink RX3 7 "SignDuty$Kinds" "WIDER" "[I" ∈ wsX3_isOneOf := by decide +kernel
set_option maxRecDepth 100000 in
set_option maxHeartbeats 4000000 in
theorem kX3_isOneOf_28 {σ : x_S} {x1 : Int32} {x2 : Int32} (B : x_B p s m args meth c cX3_isOneOf 4 wsX3_isOneOf RX3) (G : x_H s D vwCl (s_tys cI cQ cC cZ) s_N ad (x_A s_N ad) (s_St aS) s_NW) (hr : meth.sig.returnType = (some .boolean)) (hf : bX3_isOneOf_28  x1 x2 σ = some r0) : x_J p l e (x_rm 1) s m args below meth c 0 0 (MQ below (x_Qi D vwCl s_N (s_C cI cQ cC ad) ad r0 σ) args s 0 0 (x_A s_N ad)) (x_A s_N ad) 4 (x_I D vwCl s_N (s_C cI cQ cC ad) ad σ) [(1, .int x1), (2, .int x2)] [] 28 := by
  unfold bX3_isOneOf_28 at hf
  refine x_iload_n B dX3_isOneOf_28 rfl 1 rfl ?_
  refine x_iload_n B dX3_isOneOf_29 rfl 0 rfl ?_
  refine x_icmp_ne (tgt := 37) B dX3_isOneOf_30 (by decide) (fun h1 => ?_) (fun h1 => ?_)
  · replace hf := x_if h1 hf
    refine x_iconst (v := 0) B dX3_isOneOf_37 (by decide) ?_
    obtain rfl := x_retP hf
    exact x_zret B hr (by decide) dX3_isOneOf_38
  · replace hf := x_it h1 hf
    refine x_iconst (v := 1) B dX3_isOneOf_33 (by decide) ?_
    refine x_goto (tgt := 38) B dX3_isOneOf_34 (by decide) ?_
    obtain rfl := x_retP hf
    exact x_zret B hr (by decide) dX3_isOneOf_38
set_option maxRecDepth 100000 in
set_option maxHeartbeats 4000000 in
theorem qX3_isOneOf_4 {σ : x_S} {x1 : Int32} {x2 : Int32} {x3 : Int32} {K4 : Int32 → Int32 → Option Int32} (B : x_B p s m args meth c cX3_isOneOf 4 wsX3_isOneOf RX3) (G : x_H s D vwCl (s_tys cI cQ cC cZ) s_N ad (x_A s_N ad) (s_St aS) s_NW) (hr : meth.sig.returnType = (some .boolean)) (hK4 : ∀ (x2 : Int32) (x3 : Int32), K4 x2 x3 = some r0 → x_J p l e (x_rm 1) s m args below meth c 0 0 (MQ below (x_Qi D vwCl s_N (s_C cI cQ cC ad) ad r0 σ) args s 0 0 (x_A s_N ad)) (x_A s_N ad) 4 (x_I D vwCl s_N (s_C cI cQ cC ad) ad σ) [(1, .int x1), (2, .int x2), (3, .int x3)] [] 4) (hf : gX3_isOneOf_4  x1 K4 x2 x3 σ = some r0) : x_J p l e (x_rm 1) s m args below meth c 0 0 (MQ below (x_Qi D vwCl s_N (s_C cI cQ cC ad) ad r0 σ) args s 0 0 (x_A s_N ad)) (x_A s_N ad) 4 (x_I D vwCl s_N (s_C cI cQ cC ad) ad σ) [(1, .int x1), (2, .int x2), (3, .int x3)] [] 4 := by
  unfold gX3_isOneOf_4 at hf
  refine x_iload_n B dX3_isOneOf_4 rfl 2 rfl ?_
  refine x_gets B G.1.2.2.2.2.1 iX3_isOneOf_0 dX3_isOneOf_5 ?_
  refine x_talen (v := 6) B (G.1.2.2.2.2.2.2.2 0 (by decide)) (by decide) dX3_isOneOf_8 ?_
  refine x_icmp_ge (tgt := 28) B dX3_isOneOf_9 (by decide) (fun h1 => ?_) (fun h1 => ?_)
  · replace hf := x_it h1 hf
    refine x_sub [0, 1] rfl ?_
    exact kX3_isOneOf_28 B G hr hf
  · replace hf := x_if h1 hf
    refine x_iload_n B dX3_isOneOf_12 rfl 1 rfl ?_
    refine x_iload_n B dX3_isOneOf_13 rfl 0 rfl ?_
    refine x_icmp_eq (tgt := 28) B dX3_isOneOf_14 (by decide) (fun h2 => ?_) (fun h2 => ?_)
    · replace hf := x_it h2 hf
      refine x_sub [0, 1] rfl ?_
      exact kX3_isOneOf_28 B G hr hf
    · replace hf := x_if h2 hf
      refine x_iload_n B dX3_isOneOf_17 rfl 1 rfl ?_
      obtain ⟨r4, e3, hf⟩ := x_ps hf
      refine x_callS (As := [.int x2]) (st := []) B G (mX3_widerThan (l := l) G.1.2.1  e3) (va_cwS 1 B.2.2.2.2.1 gX3_isOneOf_X3_widerThan rfl rfl rfl hdX3_widerThan (x_rm_ok (by omega) (by decide))) rfl rfl (Nat.le_of_ble_eq_true rfl) ⟨Nat.zero_le _, Nat.zero_le _⟩ dX3_isOneOf_18 ?_
      refine x_istore_n (lv' := [(2, .int r4), (1, .int x1), (3, .int x3)]) B dX3_isOneOf_21 rfl (by decide) rfl ?_
      refine x_iinc (v := (x3 + 1)) (lv' := [(3, .int (x3 + 1)), (2, .int r4), (1, .int x1)]) B dX3_isOneOf_22 2 rfl rfl (by decide) rfl ?_
      refine x_goto (tgt := 4) B dX3_isOneOf_25 (by decide) ?_
      refine x_sub [2, 1, 0] rfl ?_
      exact hK4 _ _ hf
set_option maxRecDepth 100000 in
set_option maxHeartbeats 4000000 in
theorem kX3_isOneOf_4 {σ : x_S} {x1 : Int32} {x2 : Int32} {x3 : Int32} (B : x_B p s m args meth c cX3_isOneOf 4 wsX3_isOneOf RX3) (G : x_H s D vwCl (s_tys cI cQ cC cZ) s_N ad (x_A s_N ad) (s_St aS) s_NW) (hr : meth.sig.returnType = (some .boolean)) (hf : bX3_isOneOf_4  x1 x2 x3 σ = some r0) : x_J p l e (x_rm 1) s m args below meth c 0 0 (MQ below (x_Qi D vwCl s_N (s_C cI cQ cC ad) ad r0 σ) args s 0 0 (x_A s_N ad)) (x_A s_N ad) 4 (x_I D vwCl s_N (s_C cI cQ cC ad) ad σ) [(1, .int x1), (2, .int x2), (3, .int x3)] [] 4 := by
  have key : ∀ (n : Nat) (x2 : Int32) (x3 : Int32), x_fx (α := Int32 → Int32 → Option Int32) (fun _ _ => none) (fun K => fun x2 x3 => gX3_isOneOf_4  x1 K x2 x3 σ) n x2 x3 = some r0 → x_J p l e (x_rm 1) s m args below meth c 0 0 (MQ below (x_Qi D vwCl s_N (s_C cI cQ cC ad) ad r0 σ) args s 0 0 (x_A s_N ad)) (x_A s_N ad) 4 (x_I D vwCl s_N (s_C cI cQ cC ad) ad σ) [(1, .int x1), (2, .int x2), (3, .int x3)] [] 4 := by
    intro n
    induction n with
    | zero => intro x2 x3 h; cases h
    | succ n ih => intro x2 x3 h; exact qX3_isOneOf_4 B G hr  ih  h
  exact key x_F x2 x3 hf
set_option maxRecDepth 100000 in
set_option maxHeartbeats 4000000 in
theorem mX3_isOneOf {σ : x_S} {a0 : Int32} {a1 : Int32} (hdis : x_dis s_N ad) (hf : fX3_isOneOf a0 a1 σ = some r0) : x_NI l yX3_isOneOf wsX3_isOneOf 1 D vwCl (s_tys cI cQ cC cZ) s_N (s_C cI cQ cC ad) ad (s_St aS) s_NW [.int a0, .int a1] σ r0 σ := by
  refine x_met (cc := cX3_isOneOf) (own := RX3) (maxL := 4) (ret := (some .boolean)) (by decide +kernel) rfl rfl (Nat.le_of_ble_eq_true rfl) hdis (s_StOk aS) s_NwOk (fun p e s m args below meth c B G hr => ?_)
  unfold fX3_isOneOf at hf
  refine x_sub (lv' := [(0, .int a0), (1, .int a1)]) [0, 1] rfl ?_
  refine x_iload_n B dX3_isOneOf_0 rfl 0 rfl ?_
  refine x_istore_n (lv' := [(2, .int a0), (0, .int a0), (1, .int a1)]) B dX3_isOneOf_1 rfl (by decide) rfl ?_
  refine x_iconst (v := 0) B dX3_isOneOf_2 (by decide) ?_
  refine x_istore_n (lv' := [(3, .int 0), (2, .int a0), (0, .int a0), (1, .int a1)]) B dX3_isOneOf_3 rfl (by decide) rfl ?_
  refine x_sub [3, 1, 0] rfl ?_
  exact kX3_isOneOf_4 B G hr hf
end G
end
section
theorem zz_look : lw_tbl = lw_tbl := rfl
end
