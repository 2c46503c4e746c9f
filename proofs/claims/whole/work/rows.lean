section
-- ===== PART A: goes FIRST, ahead of the names: the tables' words, and 'selects' of the private methods out of them =====
/-- a private method of a class that the tables say can be made, by its rows of tables_1 -/
def lw_okq (q : MethodName × Nat) : Prop := (q.1.cls ≠ "java/lang/invoke/MethodHandle" ∧ q.1.cls ≠ "java/lang/invoke/VarHandle") ∧ Cond.instantiable q.1.cls q.2 ∈ tables_1 ∧ Cond.privateMethod q.1 ∈ tables_1 ∧ Cond.instanceMethod q.1 ∈ tables_1
theorem lw_p0 : lw_okq (⟨"SignDuty", "found", "(I)I"⟩, 9) := ⟨⟨by decide +kernel, by decide +kernel⟩, List.mem_of_getElem? (i := 14) (by decide +kernel), List.mem_of_getElem? (i := 233) (by decide +kernel), List.mem_of_getElem? (i := 234) (by decide +kernel)⟩
theorem lw_p1 : lw_okq (⟨"SignDuty", "foundNothing", "(I)I"⟩, 9) := ⟨⟨by decide +kernel, by decide +kernel⟩, List.mem_of_getElem? (i := 14) (by decide +kernel), List.mem_of_getElem? (i := 242) (by decide +kernel), List.mem_of_getElem? (i := 243) (by decide +kernel)⟩
theorem lw_p2 : lw_okq (⟨"SignDuty$Reader", "readLaw", "(LSignDuty$City;)V"⟩, 6) := ⟨⟨by decide +kernel, by decide +kernel⟩, List.mem_of_getElem? (i := 41) (by decide +kernel), List.mem_of_getElem? (i := 316) (by decide +kernel), List.mem_of_getElem? (i := 317) (by decide +kernel)⟩
theorem lw_p3 : lw_okq (⟨"SignDuty$Reader", "readSign", "(I)V"⟩, 6) := ⟨⟨by decide +kernel, by decide +kernel⟩, List.mem_of_getElem? (i := 41) (by decide +kernel), List.mem_of_getElem? (i := 320) (by decide +kernel), List.mem_of_getElem? (i := 321) (by decide +kernel)⟩
theorem lw_p4 : lw_okq (⟨"SignDuty$Reader", "next", "()I"⟩, 6) := ⟨⟨by decide +kernel, by decide +kernel⟩, List.mem_of_getElem? (i := 41) (by decide +kernel), List.mem_of_getElem? (i := 324) (by decide +kernel), List.mem_of_getElem? (i := 325) (by decide +kernel)⟩
theorem lw_p5 : lw_okq (⟨"SignDuty$Reader", "fail", "(I)V"⟩, 6) := ⟨⟨by decide +kernel, by decide +kernel⟩, List.mem_of_getElem? (i := 41) (by decide +kernel), List.mem_of_getElem? (i := 328) (by decide +kernel), List.mem_of_getElem? (i := 329) (by decide +kernel)⟩
theorem lw_p6 : lw_okq (⟨"SignDuty$Reader", "failAt", "(II)V"⟩, 6) := ⟨⟨by decide +kernel, by decide +kernel⟩, List.mem_of_getElem? (i := 41) (by decide +kernel), List.mem_of_getElem? (i := 332) (by decide +kernel), List.mem_of_getElem? (i := 333) (by decide +kernel)⟩
theorem lw_p7 : lw_okq (⟨"SignDuty$Reader", "readNumber", "(II)I"⟩, 6) := ⟨⟨by decide +kernel, by decide +kernel⟩, List.mem_of_getElem? (i := 41) (by decide +kernel), List.mem_of_getElem? (i := 336) (by decide +kernel), List.mem_of_getElem? (i := 337) (by decide +kernel)⟩
theorem lw_p8 : lw_okq (⟨"SignDuty$Reader", "readStreet", "(LSignDuty$City;)V"⟩, 6) := ⟨⟨by decide +kernel, by decide +kernel⟩, List.mem_of_getElem? (i := 41) (by decide +kernel), List.mem_of_getElem? (i := 345) (by decide +kernel), List.mem_of_getElem? (i := 346) (by decide +kernel)⟩
theorem lw_p9 : lw_okq (⟨"SignDuty$Reader", "readGesture", "(LSignDuty$City;)V"⟩, 6) := ⟨⟨by decide +kernel, by decide +kernel⟩, List.mem_of_getElem? (i := 41) (by decide +kernel), List.mem_of_getElem? (i := 352) (by decide +kernel), List.mem_of_getElem? (i := 353) (by decide +kernel)⟩
theorem lw_p10 : lw_okq (⟨"SignDuty", "isGesture", "(I)Z"⟩, 9) := ⟨⟨by decide +kernel, by decide +kernel⟩, List.mem_of_getElem? (i := 14) (by decide +kernel), List.mem_of_getElem? (i := 374) (by decide +kernel), List.mem_of_getElem? (i := 375) (by decide +kernel)⟩
theorem lw_p11 : lw_okq (⟨"SignDuty", "isStreet", "(I)Z"⟩, 9) := ⟨⟨by decide +kernel, by decide +kernel⟩, List.mem_of_getElem? (i := 14) (by decide +kernel), List.mem_of_getElem? (i := 378) (by decide +kernel), List.mem_of_getElem? (i := 379) (by decide +kernel)⟩
theorem lw_p12 : lw_okq (⟨"SignDuty$City", "owesUnknown", "(III)I"⟩, 13) := ⟨⟨by decide +kernel, by decide +kernel⟩, List.mem_of_getElem? (i := 69) (by decide +kernel), List.mem_of_getElem? (i := 395) (by decide +kernel), List.mem_of_getElem? (i := 396) (by decide +kernel)⟩
theorem lw_p13 : lw_okq (⟨"SignDuty", "isStretch", "(II)Z"⟩, 9) := ⟨⟨by decide +kernel, by decide +kernel⟩, List.mem_of_getElem? (i := 14) (by decide +kernel), List.mem_of_getElem? (i := 468) (by decide +kernel), List.mem_of_getElem? (i := 469) (by decide +kernel)⟩
theorem lw_p14 : lw_okq (⟨"SignDuty$Teller", "fill", "(LSignDuty$City;IIII)V"⟩, 1) := ⟨⟨by decide +kernel, by decide +kernel⟩, List.mem_of_getElem? (i := 170) (by decide +kernel), List.mem_of_getElem? (i := 476) (by decide +kernel), List.mem_of_getElem? (i := 477) (by decide +kernel)⟩
theorem lw_p15 : lw_okq (⟨"SignDuty$Teller", "offer", "(IIII)V"⟩, 1) := ⟨⟨by decide +kernel, by decide +kernel⟩, List.mem_of_getElem? (i := 170) (by decide +kernel), List.mem_of_getElem? (i := 486) (by decide +kernel), List.mem_of_getElem? (i := 487) (by decide +kernel)⟩
def lw_privs_1 : List (MethodName × Nat) := [(⟨"SignDuty", "found", "(I)I"⟩, 9), (⟨"SignDuty", "foundNothing", "(I)I"⟩, 9), (⟨"SignDuty$Reader", "readLaw", "(LSignDuty$City;)V"⟩, 6), (⟨"SignDuty$Reader", "readSign", "(I)V"⟩, 6), (⟨"SignDuty$Reader", "next", "()I"⟩, 6), (⟨"SignDuty$Reader", "fail", "(I)V"⟩, 6), (⟨"SignDuty$Reader", "failAt", "(II)V"⟩, 6), (⟨"SignDuty$Reader", "readNumber", "(II)I"⟩, 6), (⟨"SignDuty$Reader", "readStreet", "(LSignDuty$City;)V"⟩, 6), (⟨"SignDuty$Reader", "readGesture", "(LSignDuty$City;)V"⟩, 6), (⟨"SignDuty", "isGesture", "(I)Z"⟩, 9), (⟨"SignDuty", "isStreet", "(I)Z"⟩, 9), (⟨"SignDuty$City", "owesUnknown", "(III)I"⟩, 13), (⟨"SignDuty", "isStretch", "(II)Z"⟩, 9), (⟨"SignDuty$Teller", "fill", "(LSignDuty$City;IIII)V"⟩, 1), (⟨"SignDuty$Teller", "offer", "(IIII)V"⟩, 1)]
theorem lw_r1 : ∀ q ∈ lw_privs_1, lw_okq q := List.forall_mem_cons.mpr ⟨lw_p0, List.forall_mem_cons.mpr ⟨lw_p1, List.forall_mem_cons.mpr ⟨lw_p2, List.forall_mem_cons.mpr ⟨lw_p3, List.forall_mem_cons.mpr ⟨lw_p4, List.forall_mem_cons.mpr ⟨lw_p5, List.forall_mem_cons.mpr ⟨lw_p6, List.forall_mem_cons.mpr ⟨lw_p7, List.forall_mem_cons.mpr ⟨lw_p8, List.forall_mem_cons.mpr ⟨lw_p9, List.forall_mem_cons.mpr ⟨lw_p10, List.forall_mem_cons.mpr ⟨lw_p11, List.forall_mem_cons.mpr ⟨lw_p12, List.forall_mem_cons.mpr ⟨lw_p13, List.forall_mem_cons.mpr ⟨lw_p14, List.forall_mem_cons.mpr ⟨lw_p15, fun _ h => absurd h List.not_mem_nil⟩⟩⟩⟩⟩⟩⟩⟩⟩⟩⟩⟩⟩⟩⟩⟩
theorem lw_p16 : lw_okq (⟨"SignDuty$Teller", "firstOfCheapest", "(LSignDuty$City;III)I"⟩, 1) := ⟨⟨by decide +kernel, by decide +kernel⟩, List.mem_of_getElem? (i := 170) (by decide +kernel), List.mem_of_getElem? (i := 496) (by decide +kernel), List.mem_of_getElem? (i := 497) (by decide +kernel)⟩
theorem lw_p17 : lw_okq (⟨"SignDuty", "refusalOfThread", "(III)I"⟩, 9) := ⟨⟨by decide +kernel, by decide +kernel⟩, List.mem_of_getElem? (i := 14) (by decide +kernel), List.mem_of_getElem? (i := 524) (by decide +kernel), List.mem_of_getElem? (i := 525) (by decide +kernel)⟩
theorem lw_p18 : lw_okq (⟨"SignDuty", "owesAlong", "(IIIII)Z"⟩, 9) := ⟨⟨by decide +kernel, by decide +kernel⟩, List.mem_of_getElem? (i := 14) (by decide +kernel), List.mem_of_getElem? (i := 532) (by decide +kernel), List.mem_of_getElem? (i := 533) (by decide +kernel)⟩
theorem lw_p19 : lw_okq (⟨"SignDuty", "isSeenAlong", "(IIII)Z"⟩, 9) := ⟨⟨by decide +kernel, by decide +kernel⟩, List.mem_of_getElem? (i := 14) (by decide +kernel), List.mem_of_getElem? (i := 537) (by decide +kernel), List.mem_of_getElem? (i := 538) (by decide +kernel)⟩
theorem lw_p20 : lw_okq (⟨"SignDuty$Asks", "asked", "(LSignDuty$City;III)I"⟩, 2) := ⟨⟨by decide +kernel, by decide +kernel⟩, List.mem_of_getElem? (i := 181) (by decide +kernel), List.mem_of_getElem? (i := 609) (by decide +kernel), List.mem_of_getElem? (i := 610) (by decide +kernel)⟩
theorem lw_p21 : lw_okq (⟨"SignDuty$Asks", "given", "(ILSignDuty$City;II)I"⟩, 2) := ⟨⟨by decide +kernel, by decide +kernel⟩, List.mem_of_getElem? (i := 181) (by decide +kernel), List.mem_of_getElem? (i := 621) (by decide +kernel), List.mem_of_getElem? (i := 622) (by decide +kernel)⟩
theorem lw_p22 : lw_okq (⟨"SignDuty$Asks", "leave", "(I)V"⟩, 2) := ⟨⟨by decide +kernel, by decide +kernel⟩, List.mem_of_getElem? (i := 181) (by decide +kernel), List.mem_of_getElem? (i := 625) (by decide +kernel), List.mem_of_getElem? (i := 626) (by decide +kernel)⟩
theorem lw_p23 : lw_okq (⟨"SignDutyModel", "find", "(I)I"⟩, 17) := ⟨⟨by decide +kernel, by decide +kernel⟩, List.mem_of_getElem? (i := 656) (by decide +kernel), List.mem_of_getElem? (i := 728) (by decide +kernel), List.mem_of_getElem? (i := 729) (by decide +kernel)⟩
theorem lw_p24 : lw_okq (⟨"SignDutyModel", "well", "(I)I"⟩, 17) := ⟨⟨by decide +kernel, by decide +kernel⟩, List.mem_of_getElem? (i := 656) (by decide +kernel), List.mem_of_getElem? (i := 733) (by decide +kernel), List.mem_of_getElem? (i := 734) (by decide +kernel)⟩
theorem lw_p25 : lw_okq (⟨"SignDutyModel", "isSpan", "(III)Z"⟩, 17) := ⟨⟨by decide +kernel, by decide +kernel⟩, List.mem_of_getElem? (i := 656) (by decide +kernel), List.mem_of_getElem? (i := 748) (by decide +kernel), List.mem_of_getElem? (i := 749) (by decide +kernel)⟩
theorem lw_p26 : lw_okq (⟨"SignDutyModel", "reads", "()Z"⟩, 17) := ⟨⟨by decide +kernel, by decide +kernel⟩, List.mem_of_getElem? (i := 656) (by decide +kernel), List.mem_of_getElem? (i := 766) (by decide +kernel), List.mem_of_getElem? (i := 767) (by decide +kernel)⟩
theorem lw_p27 : lw_okq (⟨"SignDutyModel", "readsLaw", "()Z"⟩, 17) := ⟨⟨by decide +kernel, by decide +kernel⟩, List.mem_of_getElem? (i := 656) (by decide +kernel), List.mem_of_getElem? (i := 770) (by decide +kernel), List.mem_of_getElem? (i := 771) (by decide +kernel)⟩
theorem lw_p28 : lw_okq (⟨"SignDutyModel", "sign", "(I)Z"⟩, 17) := ⟨⟨by decide +kernel, by decide +kernel⟩, List.mem_of_getElem? (i := 656) (by decide +kernel), List.mem_of_getElem? (i := 774) (by decide +kernel), List.mem_of_getElem? (i := 775) (by decide +kernel)⟩
theorem lw_p29 : lw_okq (⟨"SignDutyModel", "isLetter", "(I)Z"⟩, 17) := ⟨⟨by decide +kernel, by decide +kernel⟩, List.mem_of_getElem? (i := 656) (by decide +kernel), List.mem_of_getElem? (i := 778) (by decide +kernel), List.mem_of_getElem? (i := 779) (by decide +kernel)⟩
theorem lw_p30 : lw_okq (⟨"SignDutyModel", "refuse", "(I)Z"⟩, 17) := ⟨⟨by decide +kernel, by decide +kernel⟩, List.mem_of_getElem? (i := 656) (by decide +kernel), List.mem_of_getElem? (i := 782) (by decide +kernel), List.mem_of_getElem? (i := 783) (by decide +kernel)⟩
theorem lw_p31 : lw_okq (⟨"SignDutyModel", "readsNumber", "(II)Z"⟩, 17) := ⟨⟨by decide +kernel, by decide +kernel⟩, List.mem_of_getElem? (i := 656) (by decide +kernel), List.mem_of_getElem? (i := 786) (by decide +kernel), List.mem_of_getElem? (i := 787) (by decide +kernel)⟩
def lw_privs_2 : List (MethodName × Nat) := [(⟨"SignDuty$Teller", "firstOfCheapest", "(LSignDuty$City;III)I"⟩, 1), (⟨"SignDuty", "refusalOfThread", "(III)I"⟩, 9), (⟨"SignDuty", "owesAlong", "(IIIII)Z"⟩, 9), (⟨"SignDuty", "isSeenAlong", "(IIII)Z"⟩, 9), (⟨"SignDuty$Asks", "asked", "(LSignDuty$City;III)I"⟩, 2), (⟨"SignDuty$Asks", "given", "(ILSignDuty$City;II)I"⟩, 2), (⟨"SignDuty$Asks", "leave", "(I)V"⟩, 2), (⟨"SignDutyModel", "find", "(I)I"⟩, 17), (⟨"SignDutyModel", "well", "(I)I"⟩, 17), (⟨"SignDutyModel", "isSpan", "(III)Z"⟩, 17), (⟨"SignDutyModel", "reads", "()Z"⟩, 17), (⟨"SignDutyModel", "readsLaw", "()Z"⟩, 17), (⟨"SignDutyModel", "sign", "(I)Z"⟩, 17), (⟨"SignDutyModel", "isLetter", "(I)Z"⟩, 17), (⟨"SignDutyModel", "refuse", "(I)Z"⟩, 17), (⟨"SignDutyModel", "readsNumber", "(II)Z"⟩, 17)]
theorem lw_r2 : ∀ q ∈ lw_privs_2, lw_okq q := List.forall_mem_cons.mpr ⟨lw_p16, List.forall_mem_cons.mpr ⟨lw_p17, List.forall_mem_cons.mpr ⟨lw_p18, List.forall_mem_cons.mpr ⟨lw_p19, List.forall_mem_cons.mpr ⟨lw_p20, List.forall_mem_cons.mpr ⟨lw_p21, List.forall_mem_cons.mpr ⟨lw_p22, List.forall_mem_cons.mpr ⟨lw_p23, List.forall_mem_cons.mpr ⟨lw_p24, List.forall_mem_cons.mpr ⟨lw_p25, List.forall_mem_cons.mpr ⟨lw_p26, List.forall_mem_cons.mpr ⟨lw_p27, List.forall_mem_cons.mpr ⟨lw_p28, List.forall_mem_cons.mpr ⟨lw_p29, List.forall_mem_cons.mpr ⟨lw_p30, List.forall_mem_cons.mpr ⟨lw_p31, fun _ h => absurd h List.not_mem_nil⟩⟩⟩⟩⟩⟩⟩⟩⟩⟩⟩⟩⟩⟩⟩⟩
theorem lw_p32 : lw_okq (⟨"SignDutyModel", "isFigure", "(I)Z"⟩, 17) := ⟨⟨by decide +kernel, by decide +kernel⟩, List.mem_of_getElem? (i := 656) (by decide +kernel), List.mem_of_getElem? (i := 790) (by decide +kernel), List.mem_of_getElem? (i := 791) (by decide +kernel)⟩
theorem lw_p33 : lw_okq (⟨"SignDutyModel", "readsStreet", "()Z"⟩, 17) := ⟨⟨by decide +kernel, by decide +kernel⟩, List.mem_of_getElem? (i := 656) (by decide +kernel), List.mem_of_getElem? (i := 796) (by decide +kernel), List.mem_of_getElem? (i := 797) (by decide +kernel)⟩
theorem lw_p34 : lw_okq (⟨"SignDutyModel", "readsGesture", "()Z"⟩, 17) := ⟨⟨by decide +kernel, by decide +kernel⟩, List.mem_of_getElem? (i := 656) (by decide +kernel), List.mem_of_getElem? (i := 803) (by decide +kernel), List.mem_of_getElem? (i := 804) (by decide +kernel)⟩
theorem lw_p35 : lw_okq (⟨"SignDutyModel", "copyTown", "(II)V"⟩, 17) := ⟨⟨by decide +kernel, by decide +kernel⟩, List.mem_of_getElem? (i := 656) (by decide +kernel), List.mem_of_getElem? (i := 808) (by decide +kernel), List.mem_of_getElem? (i := 809) (by decide +kernel)⟩
theorem lw_p36 : lw_okq (⟨"SignDutyModel", "isGesture", "(I)Z"⟩, 17) := ⟨⟨by decide +kernel, by decide +kernel⟩, List.mem_of_getElem? (i := 656) (by decide +kernel), List.mem_of_getElem? (i := 825) (by decide +kernel), List.mem_of_getElem? (i := 826) (by decide +kernel)⟩
theorem lw_p37 : lw_okq (⟨"SignDutyModel", "isStreet", "(I)Z"⟩, 17) := ⟨⟨by decide +kernel, by decide +kernel⟩, List.mem_of_getElem? (i := 656) (by decide +kernel), List.mem_of_getElem? (i := 829) (by decide +kernel), List.mem_of_getElem? (i := 830) (by decide +kernel)⟩
theorem lw_p38 : lw_okq (⟨"SignDutyModel", "isSeen", "(II)Z"⟩, 17) := ⟨⟨by decide +kernel, by decide +kernel⟩, List.mem_of_getElem? (i := 656) (by decide +kernel), List.mem_of_getElem? (i := 833) (by decide +kernel), List.mem_of_getElem? (i := 834) (by decide +kernel)⟩
theorem lw_p39 : lw_okq (⟨"SignDutyModel", "dutyOf", "(II)I"⟩, 17) := ⟨⟨by decide +kernel, by decide +kernel⟩, List.mem_of_getElem? (i := 656) (by decide +kernel), List.mem_of_getElem? (i := 837) (by decide +kernel), List.mem_of_getElem? (i := 838) (by decide +kernel)⟩
theorem lw_p40 : lw_okq (⟨"SignDutyModel", "owes", "(III)I"⟩, 17) := ⟨⟨by decide +kernel, by decide +kernel⟩, List.mem_of_getElem? (i := 656) (by decide +kernel), List.mem_of_getElem? (i := 841) (by decide +kernel), List.mem_of_getElem? (i := 842) (by decide +kernel)⟩
theorem lw_p41 : lw_okq (⟨"SignDutyModel", "plainDuty", "(III)I"⟩, 17) := ⟨⟨by decide +kernel, by decide +kernel⟩, List.mem_of_getElem? (i := 656) (by decide +kernel), List.mem_of_getElem? (i := 845) (by decide +kernel), List.mem_of_getElem? (i := 846) (by decide +kernel)⟩
theorem lw_p42 : lw_okq (⟨"SignDutyModel", "wave", "(II)I"⟩, 17) := ⟨⟨by decide +kernel, by decide +kernel⟩, List.mem_of_getElem? (i := 656) (by decide +kernel), List.mem_of_getElem? (i := 849) (by decide +kernel), List.mem_of_getElem? (i := 850) (by decide +kernel)⟩
theorem lw_p43 : lw_okq (⟨"SignDutyModel", "keepPast", "()V"⟩, 17) := ⟨⟨by decide +kernel, by decide +kernel⟩, List.mem_of_getElem? (i := 656) (by decide +kernel), List.mem_of_getElem? (i := 857) (by decide +kernel), List.mem_of_getElem? (i := 858) (by decide +kernel)⟩
theorem lw_p44 : lw_okq (⟨"SignDutyModel", "seenStreets", "(I)I"⟩, 17) := ⟨⟨by decide +kernel, by decide +kernel⟩, List.mem_of_getElem? (i := 656) (by decide +kernel), List.mem_of_getElem? (i := 879) (by decide +kernel), List.mem_of_getElem? (i := 880) (by decide +kernel)⟩
theorem lw_p45 : lw_okq (⟨"SignDutyModel", "seenGestures", "(I)I"⟩, 17) := ⟨⟨by decide +kernel, by decide +kernel⟩, List.mem_of_getElem? (i := 656) (by decide +kernel), List.mem_of_getElem? (i := 887) (by decide +kernel), List.mem_of_getElem? (i := 888) (by decide +kernel)⟩
theorem lw_p46 : lw_okq (⟨"SignDutyModel", "areStreets", "(II)Z"⟩, 17) := ⟨⟨by decide +kernel, by decide +kernel⟩, List.mem_of_getElem? (i := 656) (by decide +kernel), List.mem_of_getElem? (i := 903) (by decide +kernel), List.mem_of_getElem? (i := 904) (by decide +kernel)⟩
theorem lw_p47 : lw_okq (⟨"SignDutyModel", "layCosts", "(III)V"⟩, 17) := ⟨⟨by decide +kernel, by decide +kernel⟩, List.mem_of_getElem? (i := 656) (by decide +kernel), List.mem_of_getElem? (i := 910) (by decide +kernel), List.mem_of_getElem? (i := 911) (by decide +kernel)⟩
def lw_privs_3 : List (MethodName × Nat) := [(⟨"SignDutyModel", "isFigure", "(I)Z"⟩, 17), (⟨"SignDutyModel", "readsStreet", "()Z"⟩, 17), (⟨"SignDutyModel", "readsGesture", "()Z"⟩, 17), (⟨"SignDutyModel", "copyTown", "(II)V"⟩, 17), (⟨"SignDutyModel", "isGesture", "(I)Z"⟩, 17), (⟨"SignDutyModel", "isStreet", "(I)Z"⟩, 17), (⟨"SignDutyModel", "isSeen", "(II)Z"⟩, 17), (⟨"SignDutyModel", "dutyOf", "(II)I"⟩, 17), (⟨"SignDutyModel", "owes", "(III)I"⟩, 17), (⟨"SignDutyModel", "plainDuty", "(III)I"⟩, 17), (⟨"SignDutyModel", "wave", "(II)I"⟩, 17), (⟨"SignDutyModel", "keepPast", "()V"⟩, 17), (⟨"SignDutyModel", "seenStreets", "(I)I"⟩, 17), (⟨"SignDutyModel", "seenGestures", "(I)I"⟩, 17), (⟨"SignDutyModel", "areStreets", "(II)Z"⟩, 17), (⟨"SignDutyModel", "layCosts", "(III)V"⟩, 17)]
theorem lw_r3 : ∀ q ∈ lw_privs_3, lw_okq q := List.forall_mem_cons.mpr ⟨lw_p32, List.forall_mem_cons.mpr ⟨lw_p33, List.forall_mem_cons.mpr ⟨lw_p34, List.forall_mem_cons.mpr ⟨lw_p35, List.forall_mem_cons.mpr ⟨lw_p36, List.forall_mem_cons.mpr ⟨lw_p37, List.forall_mem_cons.mpr ⟨lw_p38, List.forall_mem_cons.mpr ⟨lw_p39, List.forall_mem_cons.mpr ⟨lw_p40, List.forall_mem_cons.mpr ⟨lw_p41, List.forall_mem_cons.mpr ⟨lw_p42, List.forall_mem_cons.mpr ⟨lw_p43, List.forall_mem_cons.mpr ⟨lw_p44, List.forall_mem_cons.mpr ⟨lw_p45, List.forall_mem_cons.mpr ⟨lw_p46, List.forall_mem_cons.mpr ⟨lw_p47, fun _ h => absurd h List.not_mem_nil⟩⟩⟩⟩⟩⟩⟩⟩⟩⟩⟩⟩⟩⟩⟩⟩
theorem lw_p48 : lw_okq (⟨"SignDutyModel", "onBy", "(IIII)I"⟩, 17) := ⟨⟨by decide +kernel, by decide +kernel⟩, List.mem_of_getElem? (i := 656) (by decide +kernel), List.mem_of_getElem? (i := 915) (by decide +kernel), List.mem_of_getElem? (i := 916) (by decide +kernel)⟩
theorem lw_p49 : lw_okq (⟨"SignDutyModel", "tells", "(III)Z"⟩, 17) := ⟨⟨by decide +kernel, by decide +kernel⟩, List.mem_of_getElem? (i := 656) (by decide +kernel), List.mem_of_getElem? (i := 919) (by decide +kernel), List.mem_of_getElem? (i := 920) (by decide +kernel)⟩
theorem lw_p50 : lw_okq (⟨"SignDutyModel", "soonest", "(II)I"⟩, 17) := ⟨⟨by decide +kernel, by decide +kernel⟩, List.mem_of_getElem? (i := 656) (by decide +kernel), List.mem_of_getElem? (i := 928) (by decide +kernel), List.mem_of_getElem? (i := 929) (by decide +kernel)⟩
theorem lw_p51 : lw_okq (⟨"SignDutyModel", "noPairs", "(III)I"⟩, 17) := ⟨⟨by decide +kernel, by decide +kernel⟩, List.mem_of_getElem? (i := 656) (by decide +kernel), List.mem_of_getElem? (i := 941) (by decide +kernel), List.mem_of_getElem? (i := 942) (by decide +kernel)⟩
theorem lw_p52 : lw_okq (⟨"SignDutyModel", "isSeenSo", "(IIII)Z"⟩, 17) := ⟨⟨by decide +kernel, by decide +kernel⟩, List.mem_of_getElem? (i := 656) (by decide +kernel), List.mem_of_getElem? (i := 945) (by decide +kernel), List.mem_of_getElem? (i := 946) (by decide +kernel)⟩
theorem lw_p53 : lw_okq (⟨"SignDutyModel", "owesSo", "(IIIII)Z"⟩, 17) := ⟨⟨by decide +kernel, by decide +kernel⟩, List.mem_of_getElem? (i := 656) (by decide +kernel), List.mem_of_getElem? (i := 949) (by decide +kernel), List.mem_of_getElem? (i := 950) (by decide +kernel)⟩
theorem lw_p54 : lw_okq (⟨"SignDutyModel", "isOf", "(II)Z"⟩, 17) := ⟨⟨by decide +kernel, by decide +kernel⟩, List.mem_of_getElem? (i := 656) (by decide +kernel), List.mem_of_getElem? (i := 992) (by decide +kernel), List.mem_of_getElem? (i := 993) (by decide +kernel)⟩
theorem lw_p55 : lw_okq (⟨"SignDutyModel", "sizeOf", "(I)I"⟩, 17) := ⟨⟨by decide +kernel, by decide +kernel⟩, List.mem_of_getElem? (i := 656) (by decide +kernel), List.mem_of_getElem? (i := 1000) (by decide +kernel), List.mem_of_getElem? (i := 1001) (by decide +kernel)⟩
theorem lw_p56 : lw_okq (⟨"SignDutyModel", "begin", "(I)V"⟩, 17) := ⟨⟨by decide +kernel, by decide +kernel⟩, List.mem_of_getElem? (i := 656) (by decide +kernel), List.mem_of_getElem? (i := 1004) (by decide +kernel), List.mem_of_getElem? (i := 1005) (by decide +kernel)⟩
theorem lw_p57 : lw_okq (⟨"SignDutyModel", "wavesSize", "(I)I"⟩, 17) := ⟨⟨by decide +kernel, by decide +kernel⟩, List.mem_of_getElem? (i := 656) (by decide +kernel), List.mem_of_getElem? (i := 1008) (by decide +kernel), List.mem_of_getElem? (i := 1009) (by decide +kernel)⟩
theorem lw_p58 : lw_okq (⟨"SignDutyModel", "lentSize", "(I)I"⟩, 17) := ⟨⟨by decide +kernel, by decide +kernel⟩, List.mem_of_getElem? (i := 656) (by decide +kernel), List.mem_of_getElem? (i := 1012) (by decide +kernel), List.mem_of_getElem? (i := 1013) (by decide +kernel)⟩
theorem lw_p59 : lw_okq (⟨"SignDutyModel", "mark", "(I)I"⟩, 17) := ⟨⟨by decide +kernel, by decide +kernel⟩, List.mem_of_getElem? (i := 656) (by decide +kernel), List.mem_of_getElem? (i := 1016) (by decide +kernel), List.mem_of_getElem? (i := 1017) (by decide +kernel)⟩
theorem lw_p60 : lw_okq (⟨"SignDutyModel", "wavesMark", "(I)I"⟩, 17) := ⟨⟨by decide +kernel, by decide +kernel⟩, List.mem_of_getElem? (i := 656) (by decide +kernel), List.mem_of_getElem? (i := 1020) (by decide +kernel), List.mem_of_getElem? (i := 1021) (by decide +kernel)⟩
theorem lw_p61 : lw_okq (⟨"SignDutyModel", "lentMark", "(I)I"⟩, 17) := ⟨⟨by decide +kernel, by decide +kernel⟩, List.mem_of_getElem? (i := 656) (by decide +kernel), List.mem_of_getElem? (i := 1024) (by decide +kernel), List.mem_of_getElem? (i := 1025) (by decide +kernel)⟩
theorem lw_p62 : lw_okq (⟨"SignDutyModel", "winksSize", "(I)I"⟩, 17) := ⟨⟨by decide +kernel, by decide +kernel⟩, List.mem_of_getElem? (i := 656) (by decide +kernel), List.mem_of_getElem? (i := 1028) (by decide +kernel), List.mem_of_getElem? (i := 1029) (by decide +kernel)⟩
theorem lw_p63 : lw_okq (⟨"SignDutyModel", "winksMark", "(I)I"⟩, 17) := ⟨⟨by decide +kernel, by decide +kernel⟩, List.mem_of_getElem? (i := 656) (by decide +kernel), List.mem_of_getElem? (i := 1032) (by decide +kernel), List.mem_of_getElem? (i := 1033) (by decide +kernel)⟩
def lw_privs_4 : List (MethodName × Nat) := [(⟨"SignDutyModel", "onBy", "(IIII)I"⟩, 17), (⟨"SignDutyModel", "tells", "(III)Z"⟩, 17), (⟨"SignDutyModel", "soonest", "(II)I"⟩, 17), (⟨"SignDutyModel", "noPairs", "(III)I"⟩, 17), (⟨"SignDutyModel", "isSeenSo", "(IIII)Z"⟩, 17), (⟨"SignDutyModel", "owesSo", "(IIIII)Z"⟩, 17), (⟨"SignDutyModel", "isOf", "(II)Z"⟩, 17), (⟨"SignDutyModel", "sizeOf", "(I)I"⟩, 17), (⟨"SignDutyModel", "begin", "(I)V"⟩, 17), (⟨"SignDutyModel", "wavesSize", "(I)I"⟩, 17), (⟨"SignDutyModel", "lentSize", "(I)I"⟩, 17), (⟨"SignDutyModel", "mark", "(I)I"⟩, 17), (⟨"SignDutyModel", "wavesMark", "(I)I"⟩, 17), (⟨"SignDutyModel", "lentMark", "(I)I"⟩, 17), (⟨"SignDutyModel", "winksSize", "(I)I"⟩, 17), (⟨"SignDutyModel", "winksMark", "(I)I"⟩, 17)]
theorem lw_r4 : ∀ q ∈ lw_privs_4, lw_okq q := List.forall_mem_cons.mpr ⟨lw_p48, List.forall_mem_cons.mpr ⟨lw_p49, List.forall_mem_cons.mpr ⟨lw_p50, List.forall_mem_cons.mpr ⟨lw_p51, List.forall_mem_cons.mpr ⟨lw_p52, List.forall_mem_cons.mpr ⟨lw_p53, List.forall_mem_cons.mpr ⟨lw_p54, List.forall_mem_cons.mpr ⟨lw_p55, List.forall_mem_cons.mpr ⟨lw_p56, List.forall_mem_cons.mpr ⟨lw_p57, List.forall_mem_cons.mpr ⟨lw_p58, List.forall_mem_cons.mpr ⟨lw_p59, List.forall_mem_cons.mpr ⟨lw_p60, List.forall_mem_cons.mpr ⟨lw_p61, List.forall_mem_cons.mpr ⟨lw_p62, List.forall_mem_cons.mpr ⟨lw_p63, fun _ h => absurd h List.not_mem_nil⟩⟩⟩⟩⟩⟩⟩⟩⟩⟩⟩⟩⟩⟩⟩⟩
def lw_privs : List (MethodName × Nat) := lw_privs_1 ++ (lw_privs_2 ++ (lw_privs_3 ++ (lw_privs_4)))
def lw_tbl : List Cond := k2_sels lw_privs ++ tables_1
theorem lw_privs_ok : ∀ q ∈ lw_privs, lw_okq q := by
  show ∀ q ∈ lw_privs_1 ++ (lw_privs_2 ++ (lw_privs_3 ++ (lw_privs_4))), lw_okq q
  exact List.forall_mem_append.mpr ⟨lw_r1, List.forall_mem_append.mpr ⟨lw_r2, List.forall_mem_append.mpr ⟨lw_r3, lw_r4⟩⟩⟩
-- ===== end of PART A; then your names; then what follows =====
end
section
/-! ===== THE FLAT WORLD: N cells at addresses ad k; what is in cell k is C (σ k) k; σ : cell, slot ↦ int ===== -/
abbrev x_S : Type := Nat → Nat → Int32
/-- row k of σ is f -/
def x_r (σ : x_S) (k : Nat) (f : Nat → Int32) : x_S := fun a => if a = k then f else σ a
/-- slot i of row k of σ is v -/
def x_u (σ : x_S) (k i : Nat) (v : Int32) : x_S := x_r σ k (upd (σ k) i v)
abbrev x_C : Type := (Nat → Int32) → Nat → va_E
def x_l (N : Nat) (C : x_C) (ad : Nat → Nat) (σ : x_S) : va_W := (List.range N).map (fun k => (ad k, C (σ k) k))
theorem x_l_at {N : Nat} (C : x_C) (ad : Nat → Nat) (σ : x_S) {k : Nat} (hk : k < N) : (x_l N C ad σ)[k]? = some (ad k, C (σ k) k) := by
  simp [x_l, hk]
theorem x_l_in {N : Nat} {C : x_C} {ad : Nat → Nat} {σ : x_S} {k : Nat} {q : Nat × va_E} (h : (x_l N C ad σ)[k]? = some q) : k < N ∧ q = (ad k, C (σ k) k) := by
  have hl : k < (x_l N C ad σ).length := (List.getElem?_eq_some_iff.mp h).1
  have hk : k < N := by simpa [x_l] using hl
  rw [x_l_at C ad σ hk] at h
  exact ⟨hk, (Option.some.inj h).symm⟩
theorem x_l_set {N : Nat} (C : x_C) (ad : Nat → Nat) (σ : x_S) {k : Nat} (hk : k < N) (f : Nat → Int32) : (x_l N C ad σ).set k (ad k, C f k) = x_l N C ad (x_r σ k f) := by
  apply List.ext_getElem?
  intro i
  by_cases hi : i = k
  · subst hi
    have hl : i < (x_l N C ad σ).length := by simpa [x_l] using hk
    rw [List.getElem?_set_self hl, x_l_at _ _ _ hk]
    simp [x_r]
  · rw [List.getElem?_set_ne (Ne.symm hi)]
    by_cases hN : i < N
    · rw [x_l_at _ _ _ hN, x_l_at _ _ _ hN]
      simp [x_r, hi]
    · rw [List.getElem?_eq_none (by simp [x_l]; omega), List.getElem?_eq_none (by simp [x_l]; omega)]
/-- the cells' addresses -/
def x_A (N : Nat) (ad : Nat → Nat) : Nat → Prop := fun q => ∃ k, k < N ∧ q = ad k
def x_I (D : va_G) (cl : List vw_C) (N : Nat) (C : x_C) (ad : Nat → Nat) (σ : x_S) : Heap → Prop := fun H => va_P D cl (x_l N C ad σ) H
def x_dis (N : Nat) (ad : Nat → Nat) : Prop := ∀ i j, i < N → j < N → ad i = ad j → i = j
theorem x_D {N : Nat} {C : x_C} {ad : Nat → Nat} {A : Nat → Prop} (h : x_dis N ad) (hA : ∀ k, k < N → A (ad k)) (σ : x_S) : va_D A (x_l N C ad σ) := by
  refine ⟨fun i j p q hi hj hpq => ?_, fun k q hk => ?_⟩
  · obtain ⟨h1, rfl⟩ := x_l_in hi
    obtain ⟨h2, rfl⟩ := x_l_in hj
    exact h i j h1 h2 hpq
  · obtain ⟨h1, rfl⟩ := x_l_in hk
    exact hA k h1
theorem x_A_in {N : Nat} {ad : Nat → Nat} : ∀ k, k < N → x_A N ad (ad k) := fun k h => ⟨k, h, rfl⟩
/-- what is said of statics: it stays while nothing outside A is written -/
abbrev x_St : Type := (Nat → Prop) → State → Heap → Prop
def x_StOk (St : x_St) : Prop := (∀ (A : Nat → Prop) (u U : State) (H : Heap), u.vm.Alike U.vm → St A u H → St A U H) ∧ (∀ (A : Nat → Prop) (U : State) (H H1 : Heap), (∀ a : Nat, a < H.size → ¬ A a → H1[a]? = H[a]?) → St A U H → St A U H1) ∧ (∀ (A B : Nat → Prop) (U : State) (H : Heap), (∀ q, B q → A q) → St A U H → St B U H)
/-- a method's start -/
def x_Pre (D : va_G) (cl : List vw_C) (tys : List (ClassId × FieldType)) (N : Nat) (C : x_C) (ad : Nat → Nat) (St : x_St) (σ : x_S) : State → Prop := fun U => x_I D cl N C ad σ U.heap ∧ va_K D cl tys U ∧ St (x_A N ad) U U.heap
def x_Post (D : va_G) (cl : List vw_C) (N : Nat) (C : x_C) (ad : Nat → Nat) : x_S → State → Prop := fun u t => x_I D cl N C ad u t.heap
abbrev x_Qi (D : va_G) (cl : List vw_C) (N : Nat) (C : x_C) (ad : Nat → Nat) (r0 : Int32) (σ0 : x_S) : Array Value → State → Outcome → State → Prop := va_Qi (fun (r : Int32) (u : x_S) => r = r0 ∧ u = σ0) (x_Post D cl N C ad) (x_A N ad)
abbrev x_Qv (D : va_G) (cl : List vw_C) (N : Nat) (C : x_C) (ad : Nat → Nat) (σ0 : x_S) : Array Value → State → Outcome → State → Prop := va_Qv (fun (u : x_S) => u = σ0) (x_Post D cl N C ad) (x_A N ad)
/-- room for calls n deep -/
def x_rm (n : Nat) : Room := { frames := n, cells := 0, slots := 0, locals := 100 * n }
theorem x_rm_ok {k n maxL : Nat} (h : k < n) (hm : maxL ≤ 81) : (x_rm k).frames + 1 ≤ (x_rm n).frames ∧ 8 + (maxL + 11) + (x_rm k).locals ≤ (x_rm n).locals := by
  simp only [x_rm]
  omega
abbrev x_MI (l : Launch) (y : MethodName) (ws : List Cond) (n : Nat) (D : va_G) (cl : List vw_C) (tys : List (ClassId × FieldType)) (N : Nat) (C : x_C) (ad : Nat → Nat) (St : x_St) (vs : List Value) (σ : x_S) (r0 : Int32) (σ0 : x_S) : Prop := Met l y ws (x_rm n) (va_Pc vs (x_Pre D cl tys N C ad St σ)) (x_Qi D cl N C ad r0 σ0) 0 0 (x_A N ad)
abbrev x_MV (l : Launch) (y : MethodName) (ws : List Cond) (n : Nat) (D : va_G) (cl : List vw_C) (tys : List (ClassId × FieldType)) (N : Nat) (C : x_C) (ad : Nat → Nat) (St : x_St) (vs : List Value) (σ : x_S) (σ0 : x_S) : Prop := Met l y ws (x_rm n) (va_Pc vs (x_Pre D cl tys N C ad St σ)) (x_Qv D cl N C ad σ0) 0 0 (x_A N ad)
theorem x_blind (vs : List Value) {D : va_G} {cl : List vw_C} {tys : List (ClassId × FieldType)} {N : Nat} {C : x_C} {ad : Nat → Nat} {St : x_St} (hSt : x_StOk St) (σ : x_S) : FrameBlind (va_Pc vs (x_Pre D cl tys N C ad St σ)) := by
  intro a U g mk q
  obtain ⟨q0, qP, qK, qS⟩ := q
  exact ⟨q0, qP, va_K.moved (u := U) (U := U.calling g mk a) (Vm.Alike.refl U.vm) qK, hSt.1 _ U (U.calling g mk a) _ (Vm.Alike.refl U.vm) qS⟩
/-! ===== partial functions ===== -/
/-- c must hold -/
def x_g {β : Type} (c : Prop) [Decidable c] (x : Option β) : Option β := if c then x else none
theorem x_gs {β : Type} {c : Prop} [Decidable c] {x : Option β} {y : β} (h : x_g c x = some y) : c ∧ x = some y := by
  unfold x_g at h
  split at h
  · exact ⟨by assumption, h⟩
  · cases h
def x_p {β : Type} (o : Option Int32) (k : Int32 → Option β) : Option β := match o with
  | some r => k r
  | none => none
theorem x_ps {β : Type} {o : Option Int32} {k : Int32 → Option β} {y : β} (h : x_p o k = some y) : ∃ r, o = some r ∧ k r = some y := by
  cases o with
  | none => cases h
  | some r => exact ⟨r, rfl, h⟩
def x_b {β : Type} (o : Option (Int32 × x_S)) (k : Int32 → x_S → Option β) : Option β := match o with
  | some (r, u) => k r u
  | none => none
theorem x_bs {β : Type} {o : Option (Int32 × x_S)} {k : Int32 → x_S → Option β} {y : β} (h : x_b o k = some y) : ∃ r u, o = some (r, u) ∧ k r u = some y := by
  match o, h with
  | some (r, u), h => exact ⟨r, u, rfl, h⟩
def x_v {β : Type} (o : Option x_S) (k : x_S → Option β) : Option β := match o with
  | some u => k u
  | none => none
theorem x_vs {β : Type} {o : Option x_S} {k : x_S → Option β} {y : β} (h : x_v o k = some y) : ∃ u, o = some u ∧ k u = some y := by
  cases o with
  | none => cases h
  | some r => exact ⟨r, rfl, h⟩
theorem x_it {β : Type} {c : Prop} [Decidable c] {a b : Option β} {y : β} (h : c) (hf : (if c then a else b) = some y) : a = some y := by rwa [if_pos h] at hf
theorem x_if {β : Type} {c : Prop} [Decidable c] {a b : Option β} {y : β} (h : ¬ c) (hf : (if c then a else b) = some y) : b = some y := by rwa [if_neg h] at hf
theorem x_retI {a r : Int32} {b u : x_S} (h : some (a, b) = some (r, u)) : r = a ∧ u = b := by cases h; exact ⟨rfl, rfl⟩
theorem x_retP {a r : Int32} (h : some a = some r) : r = a := by cases h; rfl
theorem x_retV {b u : x_S} (h : some b = some u) : u = b := by cases h; rfl
/-- n rounds of a loop, then z -/
def x_fx {α : Type} (z : α) (b : α → α) : Nat → α
  | 0 => z
  | n + 1 => b (x_fx z b n)
/-- rounds enough for any loop here -/
def x_F : Nat := 4096
end
section
abbrev x_in (i : Int32) (n : Nat) : Prop := ¬ (i < 0 ∨ n ≤ i.toNatClampNeg)
section XJ
variable {p : Program} {l : Launch} {e : Env} {R : Room} {s : State} {m : MethodId} {args : Array Value} {below : List Frame} {meth : Method} {c : Code} {cells slots : Nat} {Q : State → Prop}
variable {cc : ByteArray} {nL : Nat} {Ts : List Cond} {own : String} {A : Nat → Prop} {I : Heap → Prop} {lv lv' : List (Nat × Value)} {st : List Value} {pc : Nat}
variable {D : va_G} {cl : List vw_C} {tys : List (ClassId × FieldType)} {N : Nat} {C : x_C} {ad : Nat → Nat} {St : x_St} {σ : x_S}
/-- what a method's body may use of the machine -/
def x_B (p : Program) (s : State) (m : MethodId) (args : Array Value) (meth : Method) (c : Code) (cc : ByteArray) (nL : Nat) (Ts : List Cond) (own : String) : Prop :=
  p.tables.exec = Jvm.exec ∧ c.code = cc ∧ c.maxLocals = nL ∧ s.vm.findClass own = some m.cls ∧ (∀ w ∈ Ts, w.before args s = true) ∧ meth.locks = false
/-- what it may use of the flat world -/
def x_G (s : State) (D : va_G) (cl : List vw_C) (tys : List (ClassId × FieldType)) (N : Nat) (ad : Nat → Nat) (A : Nat → Prop) (St : x_St) : Prop :=
  va_K D cl tys s ∧ x_dis N ad ∧ (∀ k, k < N → A (ad k)) ∧ x_StOk St ∧ St A s s.heap
/-- from here on, with any heap that holds I and any locals that hold lv, the machine comes to Q -/
def x_J (p : Program) (l : Launch) (e : Env) (R : Room) (s : State) (m : MethodId) (args : Array Value) (below : List Frame) (meth : Method) (c : Code) (cells slots : Nat) (Q : State → Prop) (A : Nat → Prop) (nL : Nat) (I : Heap → Prop) (lv : List (Nat × Value)) (st : List Value) (pc : Nat) : Prop :=
  ∀ (H : Heap) (locs : List Loc) (ls : Array Slot), I H → va_S A s.heap H locs → lv_has ls nL lv → W p l e R s m args below meth c H locs cells slots Q (F0 m pc ls st)
theorem x_sub (ks : List Nat) (hl : lv_pick lv ks = lv') (k : x_J p l e R s m args below meth c cells slots Q A nL I lv' st pc) : x_J p l e R s m args below meth c cells slots Q A nL I lv st pc := fun H locs ls h1 h2 h3 => k H locs ls h1 h2 (lv_sub h3 ks hl)
theorem x_pc {pc' : Nat} (h : pc' = pc) (k : x_J p l e R s m args below meth c cells slots Q A nL I lv st pc') : x_J p l e R s m args below meth c cells slots Q A nL I lv st pc := h ▸ k
theorem x_iconst (B : x_B p s m args meth c cc nL Ts own) {n : Int} {v : Int32} (hdg : decode cc pc = .ok (.iconst n, 1)) (hv : Int32.ofInt n = v) (k : x_J p l e R s m args below meth c cells slots Q A nL I lv (.int v :: st) (pc + 1)) : x_J p l e R s m args below meth c cells slots Q A nL I lv (st) pc :=
  fun H locs ls h1 h2 h3 => lv_iconst B.1 B.2.1 hdg hv (k H locs ls h1 h2 h3)
theorem x_bipush (B : x_B p s m args meth c cc nL Ts own) {n : Int} {v : Int32} (hdg : decode cc pc = .ok (.bipush n, 2)) (hv : (Int8.ofInt n).toInt32 = v) (k : x_J p l e R s m args below meth c cells slots Q A nL I lv (.int v :: st) (pc + 2)) : x_J p l e R s m args below meth c cells slots Q A nL I lv (st) pc :=
  fun H locs ls h1 h2 h3 => lv_bipush B.1 B.2.1 hdg hv (k H locs ls h1 h2 h3)
theorem x_sipush (B : x_B p s m args meth c cc nL Ts own) {n : Int} {v : Int32} (hdg : decode cc pc = .ok (.sipush n, 3)) (hv : (Int16.ofInt n).toInt32 = v) (k : x_J p l e R s m args below meth c cells slots Q A nL I lv (.int v :: st) (pc + 3)) : x_J p l e R s m args below meth c cells slots Q A nL I lv (st) pc :=
  fun H locs ls h1 h2 h3 => lv_sipush B.1 B.2.1 hdg hv (k H locs ls h1 h2 h3)
theorem x_lconst (B : x_B p s m args meth c cc nL Ts own) {n : Fin 2} {v : Int64} (hdg : decode cc pc = .ok (.lconst n, 1)) (hv : Int64.ofNat (n : Nat) = v) (k : x_J p l e R s m args below meth c cells slots Q A nL I lv (.long v :: st) (pc + 1)) : x_J p l e R s m args below meth c cells slots Q A nL I lv (st) pc :=
  fun H locs ls h1 h2 h3 => lv_lconst B.1 B.2.1 hdg hv (k H locs ls h1 h2 h3)
theorem x_iload_n (B : x_B p s m args meth c cc nL Ts own) {k0 : Fin 4} {i : Nat} {x : Int32} (hdg : decode cc pc = .ok (.iload_n k0, 1)) (hi : (k0 : Nat) = i) (j : Nat) (hj : lv[j]? = some (i, .int x)) (k : x_J p l e R s m args below meth c cells slots Q A nL I lv (.int x :: st) (pc + 1)) : x_J p l e R s m args below meth c cells slots Q A nL I lv st pc :=
  fun H locs ls h1 h2 h3 => lv_iload_n B.1 B.2.1 hdg hi (lv_at h3 j hj) (k H locs ls h1 h2 h3)
theorem x_iload (B : x_B p s m args meth c cc nL Ts own) {i : Nat} {x : Int32} (hdg : decode cc pc = .ok (.iload i, 2)) (j : Nat) (hj : lv[j]? = some (i, .int x)) (k : x_J p l e R s m args below meth c cells slots Q A nL I lv (.int x :: st) (pc + 2)) : x_J p l e R s m args below meth c cells slots Q A nL I lv st pc :=
  fun H locs ls h1 h2 h3 => lv_iload B.1 B.2.1 hdg (lv_at h3 j hj) (k H locs ls h1 h2 h3)
theorem x_lload_n (B : x_B p s m args meth c cc nL Ts own) {k0 : Fin 4} {i : Nat} {x : Int64} (hdg : decode cc pc = .ok (.lload_n k0, 1)) (hi : (k0 : Nat) = i) (j : Nat) (hj : lv[j]? = some (i, .long x)) (k : x_J p l e R s m args below meth c cells slots Q A nL I lv (.long x :: st) (pc + 1)) : x_J p l e R s m args below meth c cells slots Q A nL I lv st pc :=
  fun H locs ls h1 h2 h3 => lv_lload_n B.1 B.2.1 hdg hi (lv_at h3 j hj) (k H locs ls h1 h2 h3)
theorem x_lload (B : x_B p s m args meth c cc nL Ts own) {i : Nat} {x : Int64} (hdg : decode cc pc = .ok (.lload i, 2)) (j : Nat) (hj : lv[j]? = some (i, .long x)) (k : x_J p l e R s m args below meth c cells slots Q A nL I lv (.long x :: st) (pc + 2)) : x_J p l e R s m args below meth c cells slots Q A nL I lv st pc :=
  fun H locs ls h1 h2 h3 => lv_lload B.1 B.2.1 hdg (lv_at h3 j hj) (k H locs ls h1 h2 h3)
theorem x_aload_n (B : x_B p s m args meth c cc nL Ts own) {k0 : Fin 4} {i : Nat} {x : Nat} (hdg : decode cc pc = .ok (.aload_n k0, 1)) (hi : (k0 : Nat) = i) (j : Nat) (hj : lv[j]? = some (i, .ref x)) (k : x_J p l e R s m args below meth c cells slots Q A nL I lv (.ref x :: st) (pc + 1)) : x_J p l e R s m args below meth c cells slots Q A nL I lv st pc :=
  fun H locs ls h1 h2 h3 => lv_aload_n B.1 B.2.1 hdg hi (lv_at h3 j hj) (k H locs ls h1 h2 h3)
theorem x_aload (B : x_B p s m args meth c cc nL Ts own) {i : Nat} {x : Nat} (hdg : decode cc pc = .ok (.aload i, 2)) (j : Nat) (hj : lv[j]? = some (i, .ref x)) (k : x_J p l e R s m args below meth c cells slots Q A nL I lv (.ref x :: st) (pc + 2)) : x_J p l e R s m args below meth c cells slots Q A nL I lv st pc :=
  fun H locs ls h1 h2 h3 => lv_aload B.1 B.2.1 hdg (lv_at h3 j hj) (k H locs ls h1 h2 h3)
theorem x_istore_n (B : x_B p s m args meth c cc nL Ts own) {k0 : Fin 4} {i : Nat} {x : Int32} (hdg : decode cc pc = .ok (.istore_n k0, 1)) (hi : (k0 : Nat) = i) (hn : i < nL) (hl : (i, Value.int x) :: lv.filter (fun q => !(q.1 == i) && !(q.1 + 1 == i && q.2.category == 2)) = lv') (k : x_J p l e R s m args below meth c cells slots Q A nL I lv' st (pc + 1)) : x_J p l e R s m args below meth c cells slots Q A nL I lv (.int x :: st) pc :=
  fun H locs ls h1 h2 h3 => lv_istore_n B.1 B.2.1 hdg hi h3 hn hl (fun ls' h' => k H locs ls' h1 h2 h')
theorem x_istore (B : x_B p s m args meth c cc nL Ts own) {i : Nat} {x : Int32} (hdg : decode cc pc = .ok (.istore i, 2)) (hn : i < nL) (hl : (i, Value.int x) :: lv.filter (fun q => !(q.1 == i) && !(q.1 + 1 == i && q.2.category == 2)) = lv') (k : x_J p l e R s m args below meth c cells slots Q A nL I lv' st (pc + 2)) : x_J p l e R s m args below meth c cells slots Q A nL I lv (.int x :: st) pc :=
  fun H locs ls h1 h2 h3 => lv_istore B.1 B.2.1 hdg h3 hn hl (fun ls' h' => k H locs ls' h1 h2 h')
theorem x_astore_n (B : x_B p s m args meth c cc nL Ts own) {k0 : Fin 4} {i : Nat} {x : Nat} (hdg : decode cc pc = .ok (.astore_n k0, 1)) (hi : (k0 : Nat) = i) (hn : i < nL) (hl : (i, Value.ref x) :: lv.filter (fun q => !(q.1 == i) && !(q.1 + 1 == i && q.2.category == 2)) = lv') (k : x_J p l e R s m args below meth c cells slots Q A nL I lv' st (pc + 1)) : x_J p l e R s m args below meth c cells slots Q A nL I lv (.ref x :: st) pc :=
  fun H locs ls h1 h2 h3 => lv_astore_n B.1 B.2.1 hdg hi h3 hn hl (fun ls' h' => k H locs ls' h1 h2 h')
theorem x_astore (B : x_B p s m args meth c cc nL Ts own) {i : Nat} {x : Nat} (hdg : decode cc pc = .ok (.astore i, 2)) (hn : i < nL) (hl : (i, Value.ref x) :: lv.filter (fun q => !(q.1 == i) && !(q.1 + 1 == i && q.2.category == 2)) = lv') (k : x_J p l e R s m args below meth c cells slots Q A nL I lv' st (pc + 2)) : x_J p l e R s m args below meth c cells slots Q A nL I lv (.ref x :: st) pc :=
  fun H locs ls h1 h2 h3 => lv_astore B.1 B.2.1 hdg h3 hn hl (fun ls' h' => k H locs ls' h1 h2 h')
theorem x_iinc (B : x_B p s m args meth c cc nL Ts own) {i : Nat} {n : Int} {x v : Int32} (hdg : decode cc pc = .ok (.iinc i n, 3)) (j : Nat) (hj : lv[j]? = some (i, .int x)) (hv : x + Int32.ofInt n = v) (hn : i < nL) (hl : (i, Value.int v) :: lv.filter (fun q => !(q.1 == i) && !(q.1 + 1 == i && q.2.category == 2)) = lv') (k : x_J p l e R s m args below meth c cells slots Q A nL I lv' st (pc + 3)) : x_J p l e R s m args below meth c cells slots Q A nL I lv st pc :=
  fun H locs ls h1 h2 h3 => lv_iinc B.1 B.2.1 hdg h3 hj hv hn hl (fun ls' h' => k H locs ls' h1 h2 h')
theorem x_iadd (B : x_B p s m args meth c cc nL Ts own) {x y : Int32} (hdg : decode cc pc = .ok (.iadd, 1)) (k : x_J p l e R s m args below meth c cells slots Q A nL I lv (.int (x + y) :: st) (pc + 1)) : x_J p l e R s m args below meth c cells slots Q A nL I lv (.int y :: .int x :: st) pc :=
  fun H locs ls h1 h2 h3 => lv_iadd B.1 B.2.1 hdg (k H locs ls h1 h2 h3)
theorem x_isub (B : x_B p s m args meth c cc nL Ts own) {x y : Int32} (hdg : decode cc pc = .ok (.isub, 1)) (k : x_J p l e R s m args below meth c cells slots Q A nL I lv (.int (x - y) :: st) (pc + 1)) : x_J p l e R s m args below meth c cells slots Q A nL I lv (.int y :: .int x :: st) pc :=
  fun H locs ls h1 h2 h3 => lv_isub B.1 B.2.1 hdg (k H locs ls h1 h2 h3)
theorem x_imul (B : x_B p s m args meth c cc nL Ts own) {x y : Int32} (hdg : decode cc pc = .ok (.imul, 1)) (k : x_J p l e R s m args below meth c cells slots Q A nL I lv (.int (x * y) :: st) (pc + 1)) : x_J p l e R s m args below meth c cells slots Q A nL I lv (.int y :: .int x :: st) pc :=
  fun H locs ls h1 h2 h3 => lv_imul B.1 B.2.1 hdg (k H locs ls h1 h2 h3)
theorem x_iand (B : x_B p s m args meth c cc nL Ts own) {x y : Int32} (hdg : decode cc pc = .ok (.iand, 1)) (k : x_J p l e R s m args below meth c cells slots Q A nL I lv (.int (x &&& y) :: st) (pc + 1)) : x_J p l e R s m args below meth c cells slots Q A nL I lv (.int y :: .int x :: st) pc :=
  fun H locs ls h1 h2 h3 => lv_iand B.1 B.2.1 hdg (k H locs ls h1 h2 h3)
theorem x_ior (B : x_B p s m args meth c cc nL Ts own) {x y : Int32} (hdg : decode cc pc = .ok (.ior, 1)) (k : x_J p l e R s m args below meth c cells slots Q A nL I lv (.int (x ||| y) :: st) (pc + 1)) : x_J p l e R s m args below meth c cells slots Q A nL I lv (.int y :: .int x :: st) pc :=
  fun H locs ls h1 h2 h3 => lv_ior B.1 B.2.1 hdg (k H locs ls h1 h2 h3)
theorem x_ixor (B : x_B p s m args meth c cc nL Ts own) {x y : Int32} (hdg : decode cc pc = .ok (.ixor, 1)) (k : x_J p l e R s m args below meth c cells slots Q A nL I lv (.int (x ^^^ y) :: st) (pc + 1)) : x_J p l e R s m args below meth c cells slots Q A nL I lv (.int y :: .int x :: st) pc :=
  fun H locs ls h1 h2 h3 => lv_ixor B.1 B.2.1 hdg (k H locs ls h1 h2 h3)
theorem x_ishl (B : x_B p s m args meth c cc nL Ts own) {x y : Int32} (hdg : decode cc pc = .ok (.ishl, 1)) (k : x_J p l e R s m args below meth c cells slots Q A nL I lv (.int (x <<< (y &&& 31)) :: st) (pc + 1)) : x_J p l e R s m args below meth c cells slots Q A nL I lv (.int y :: .int x :: st) pc :=
  fun H locs ls h1 h2 h3 => lv_ishl B.1 B.2.1 hdg (k H locs ls h1 h2 h3)
theorem x_ishr (B : x_B p s m args meth c cc nL Ts own) {x y : Int32} (hdg : decode cc pc = .ok (.ishr, 1)) (k : x_J p l e R s m args below meth c cells slots Q A nL I lv (.int (x >>> (y &&& 31)) :: st) (pc + 1)) : x_J p l e R s m args below meth c cells slots Q A nL I lv (.int y :: .int x :: st) pc :=
  fun H locs ls h1 h2 h3 => lv_ishr B.1 B.2.1 hdg (k H locs ls h1 h2 h3)
theorem x_idiv (B : x_B p s m args meth c cc nL Ts own) {x y : Int32} (hdg : decode cc pc = .ok (.idiv, 1)) (hne : ¬ y = 0) (k : x_J p l e R s m args below meth c cells slots Q A nL I lv (.int (x / y) :: st) (pc + 1)) : x_J p l e R s m args below meth c cells slots Q A nL I lv (.int y :: .int x :: st) pc :=
  fun H locs ls h1 h2 h3 => lv_idiv B.1 B.2.1 hdg hne (k H locs ls h1 h2 h3)
theorem x_irem (B : x_B p s m args meth c cc nL Ts own) {x y : Int32} (hdg : decode cc pc = .ok (.irem, 1)) (hne : ¬ y = 0) (k : x_J p l e R s m args below meth c cells slots Q A nL I lv (.int (x - x / y * y) :: st) (pc + 1)) : x_J p l e R s m args below meth c cells slots Q A nL I lv (.int y :: .int x :: st) pc :=
  fun H locs ls h1 h2 h3 => lv_irem B.1 B.2.1 hdg hne (k H locs ls h1 h2 h3)
theorem x_ineg (B : x_B p s m args meth c cc nL Ts own) {x : Int32} (hdg : decode cc pc = .ok (.ineg, 1)) (k : x_J p l e R s m args below meth c cells slots Q A nL I lv (.int (-x) :: st) (pc + 1)) : x_J p l e R s m args below meth c cells slots Q A nL I lv (.int x :: st) pc :=
  fun H locs ls h1 h2 h3 => lv_ineg B.1 B.2.1 hdg (k H locs ls h1 h2 h3)
theorem x_iushr (B : x_B p s m args meth c cc nL Ts own) {x y : Int32} (hdg : decode cc pc = .ok (.iushr, 1)) (k : x_J p l e R s m args below meth c cells slots Q A nL I lv (.int (x.toUInt32 >>> (y.toUInt32 &&& Int32.toUInt32 31)).toInt32 :: st) (pc + 1)) : x_J p l e R s m args below meth c cells slots Q A nL I lv (.int y :: .int x :: st) pc :=
  fun H locs ls h1 h2 h3 => lv_iushr B.1 B.2.1 hdg rfl (k H locs ls h1 h2 h3)
theorem x_i2l (B : x_B p s m args meth c cc nL Ts own) {x : Int32} (hdg : decode cc pc = .ok (.i2l, 1)) (k : x_J p l e R s m args below meth c cells slots Q A nL I lv (.long x.toInt64 :: st) (pc + 1)) : x_J p l e R s m args below meth c cells slots Q A nL I lv (.int x :: st) pc :=
  fun H locs ls h1 h2 h3 => lv_i2l B.1 B.2.1 hdg rfl (k H locs ls h1 h2 h3)
theorem x_l2i (B : x_B p s m args meth c cc nL Ts own) {x : Int64} (hdg : decode cc pc = .ok (.l2i, 1)) (k : x_J p l e R s m args below meth c cells slots Q A nL I lv (.int x.toInt32 :: st) (pc + 1)) : x_J p l e R s m args below meth c cells slots Q A nL I lv (.long x :: st) pc :=
  fun H locs ls h1 h2 h3 => lv_l2i B.1 B.2.1 hdg rfl (k H locs ls h1 h2 h3)
theorem x_i2b (B : x_B p s m args meth c cc nL Ts own) {x : Int32} (hdg : decode cc pc = .ok (.i2b, 1)) (k : x_J p l e R s m args below meth c cells slots Q A nL I lv (.int x.toInt8.toInt32 :: st) (pc + 1)) : x_J p l e R s m args below meth c cells slots Q A nL I lv (.int x :: st) pc :=
  fun H locs ls h1 h2 h3 => lv_i2b B.1 B.2.1 hdg rfl (k H locs ls h1 h2 h3)
theorem x_i2s (B : x_B p s m args meth c cc nL Ts own) {x : Int32} (hdg : decode cc pc = .ok (.i2s, 1)) (k : x_J p l e R s m args below meth c cells slots Q A nL I lv (.int x.toInt16.toInt32 :: st) (pc + 1)) : x_J p l e R s m args below meth c cells slots Q A nL I lv (.int x :: st) pc :=
  fun H locs ls h1 h2 h3 => lv_i2s B.1 B.2.1 hdg rfl (k H locs ls h1 h2 h3)
theorem x_ladd (B : x_B p s m args meth c cc nL Ts own) {x y : Int64} (hdg : decode cc pc = .ok (.ladd, 1)) (k : x_J p l e R s m args below meth c cells slots Q A nL I lv (.long (x + y) :: st) (pc + 1)) : x_J p l e R s m args below meth c cells slots Q A nL I lv (.long y :: .long x :: st) pc :=
  fun H locs ls h1 h2 h3 => lv_ladd B.1 B.2.1 hdg (k H locs ls h1 h2 h3)
theorem x_lcmp (B : x_B p s m args meth c cc nL Ts own) {x y : Int64} (hdg : decode cc pc = .ok (.lcmp, 1)) (k : x_J p l e R s m args below meth c cells slots Q A nL I lv (.int (lg_cmp x y) :: st) (pc + 1)) : x_J p l e R s m args below meth c cells slots Q A nL I lv (.long y :: .long x :: st) pc :=
  fun H locs ls h1 h2 h3 => W.lcmp B.1 B.2.1 hdg (k H locs ls h1 h2 h3)
theorem x_dup (B : x_B p s m args meth c cc nL Ts own) {va : Value} (hdg : decode cc pc = .ok (.dup, 1)) (hva : va.category = 1) (k : x_J p l e R s m args below meth c cells slots Q A nL I lv (va :: va :: st) (pc + 1)) : x_J p l e R s m args below meth c cells slots Q A nL I lv (va :: st) pc :=
  fun H locs ls h1 h2 h3 => lv_dup B.1 B.2.1 hdg hva (k H locs ls h1 h2 h3)
theorem x_pop (B : x_B p s m args meth c cc nL Ts own) {va : Value} (hdg : decode cc pc = .ok (.pop, 1)) (hva : va.category = 1) (k : x_J p l e R s m args below meth c cells slots Q A nL I lv (st) (pc + 1)) : x_J p l e R s m args below meth c cells slots Q A nL I lv (va :: st) pc :=
  fun H locs ls h1 h2 h3 => lv_pop B.1 B.2.1 hdg hva (k H locs ls h1 h2 h3)
theorem x_dup_x1 (B : x_B p s m args meth c cc nL Ts own) {va vb : Value} (hdg : decode cc pc = .ok (.dup_x1, 1)) (hva : va.category = 1) (hvb : vb.category = 1) (k : x_J p l e R s m args below meth c cells slots Q A nL I lv (va :: vb :: va :: st) (pc + 1)) : x_J p l e R s m args below meth c cells slots Q A nL I lv (va :: vb :: st) pc :=
  fun H locs ls h1 h2 h3 => lv_dup_x1 B.1 B.2.1 hdg hva hvb (k H locs ls h1 h2 h3)
theorem x_dup_x2 (B : x_B p s m args meth c cc nL Ts own) {va vb vd : Value} (hdg : decode cc pc = .ok (.dup_x2, 1)) (hva : va.category = 1) (hvb : vb.category = 1) (hvd : vd.category = 1) (k : x_J p l e R s m args below meth c cells slots Q A nL I lv (va :: vb :: vd :: va :: st) (pc + 1)) : x_J p l e R s m args below meth c cells slots Q A nL I lv (va :: vb :: vd :: st) pc :=
  fun H locs ls h1 h2 h3 => lv_dup_x2 B.1 B.2.1 hdg hva hvb hvd (k H locs ls h1 h2 h3)
theorem x_dup2 (B : x_B p s m args meth c cc nL Ts own) {va vb : Value} (hdg : decode cc pc = .ok (.dup2, 1)) (hva : va.category = 1) (hvb : vb.category = 1) (k : x_J p l e R s m args below meth c cells slots Q A nL I lv (va :: vb :: va :: vb :: st) (pc + 1)) : x_J p l e R s m args below meth c cells slots Q A nL I lv (va :: vb :: st) pc :=
  fun H locs ls h1 h2 h3 => lv_dup2_11 B.1 B.2.1 hdg hva hvb (k H locs ls h1 h2 h3)
theorem x_if_eq (B : x_B p s m args meth c cc nL Ts own) {x : Int32} {off : Int} {tgt : Nat} (hdg : decode cc pc = .ok (.ifCond .eq off, 3)) (ht : (pc : Int) + off = (tgt : Int)) (kt : x = 0 → x_J p l e R s m args below meth c cells slots Q A nL I lv st tgt) (kf : ¬ x = 0 → x_J p l e R s m args below meth c cells slots Q A nL I lv st (pc + 3)) : x_J p l e R s m args below meth c cells slots Q A nL I lv (.int x :: st) pc :=
  fun H locs ls h1 h2 h3 => lv_if_eq B.1 B.2.1 hdg ht (fun h => kt h H locs ls h1 h2 h3) (fun h => kf h H locs ls h1 h2 h3)
theorem x_if_ne (B : x_B p s m args meth c cc nL Ts own) {x : Int32} {off : Int} {tgt : Nat} (hdg : decode cc pc = .ok (.ifCond .ne off, 3)) (ht : (pc : Int) + off = (tgt : Int)) (kt : ¬ x = 0 → x_J p l e R s m args below meth c cells slots Q A nL I lv st tgt) (kf : x = 0 → x_J p l e R s m args below meth c cells slots Q A nL I lv st (pc + 3)) : x_J p l e R s m args below meth c cells slots Q A nL I lv (.int x :: st) pc :=
  fun H locs ls h1 h2 h3 => lv_if_ne B.1 B.2.1 hdg ht (fun h => kt h H locs ls h1 h2 h3) (fun h => kf h H locs ls h1 h2 h3)
theorem x_if_lt (B : x_B p s m args meth c cc nL Ts own) {x : Int32} {off : Int} {tgt : Nat} (hdg : decode cc pc = .ok (.ifCond .lt off, 3)) (ht : (pc : Int) + off = (tgt : Int)) (kt : x < 0 → x_J p l e R s m args below meth c cells slots Q A nL I lv st tgt) (kf : ¬ x < 0 → x_J p l e R s m args below meth c cells slots Q A nL I lv st (pc + 3)) : x_J p l e R s m args below meth c cells slots Q A nL I lv (.int x :: st) pc :=
  fun H locs ls h1 h2 h3 => lv_if_lt B.1 B.2.1 hdg ht (fun h => kt h H locs ls h1 h2 h3) (fun h => kf h H locs ls h1 h2 h3)
theorem x_if_ge (B : x_B p s m args meth c cc nL Ts own) {x : Int32} {off : Int} {tgt : Nat} (hdg : decode cc pc = .ok (.ifCond .ge off, 3)) (ht : (pc : Int) + off = (tgt : Int)) (kt : 0 ≤ x → x_J p l e R s m args below meth c cells slots Q A nL I lv st tgt) (kf : ¬ 0 ≤ x → x_J p l e R s m args below meth c cells slots Q A nL I lv st (pc + 3)) : x_J p l e R s m args below meth c cells slots Q A nL I lv (.int x :: st) pc :=
  fun H locs ls h1 h2 h3 => lv_if_ge B.1 B.2.1 hdg ht (fun h => kt h H locs ls h1 h2 h3) (fun h => kf h H locs ls h1 h2 h3)
theorem x_if_gt (B : x_B p s m args meth c cc nL Ts own) {x : Int32} {off : Int} {tgt : Nat} (hdg : decode cc pc = .ok (.ifCond .gt off, 3)) (ht : (pc : Int) + off = (tgt : Int)) (kt : 0 < x → x_J p l e R s m args below meth c cells slots Q A nL I lv st tgt) (kf : ¬ 0 < x → x_J p l e R s m args below meth c cells slots Q A nL I lv st (pc + 3)) : x_J p l e R s m args below meth c cells slots Q A nL I lv (.int x :: st) pc :=
  fun H locs ls h1 h2 h3 => lv_if_gt B.1 B.2.1 hdg ht (fun h => kt h H locs ls h1 h2 h3) (fun h => kf h H locs ls h1 h2 h3)
theorem x_if_le (B : x_B p s m args meth c cc nL Ts own) {x : Int32} {off : Int} {tgt : Nat} (hdg : decode cc pc = .ok (.ifCond .le off, 3)) (ht : (pc : Int) + off = (tgt : Int)) (kt : x ≤ 0 → x_J p l e R s m args below meth c cells slots Q A nL I lv st tgt) (kf : ¬ x ≤ 0 → x_J p l e R s m args below meth c cells slots Q A nL I lv st (pc + 3)) : x_J p l e R s m args below meth c cells slots Q A nL I lv (.int x :: st) pc :=
  fun H locs ls h1 h2 h3 => lv_if_le B.1 B.2.1 hdg ht (fun h => kt h H locs ls h1 h2 h3) (fun h => kf h H locs ls h1 h2 h3)
theorem x_icmp_eq (B : x_B p s m args meth c cc nL Ts own) {x y : Int32} {off : Int} {tgt : Nat} (hdg : decode cc pc = .ok (.if_icmp .eq off, 3)) (ht : (pc : Int) + off = (tgt : Int)) (kt : x = y → x_J p l e R s m args below meth c cells slots Q A nL I lv st tgt) (kf : ¬ x = y → x_J p l e R s m args below meth c cells slots Q A nL I lv st (pc + 3)) : x_J p l e R s m args below meth c cells slots Q A nL I lv (.int y :: .int x :: st) pc :=
  fun H locs ls h1 h2 h3 => lv_icmp_eq B.1 B.2.1 hdg ht (fun h => kt h H locs ls h1 h2 h3) (fun h => kf h H locs ls h1 h2 h3)
theorem x_icmp_ne (B : x_B p s m args meth c cc nL Ts own) {x y : Int32} {off : Int} {tgt : Nat} (hdg : decode cc pc = .ok (.if_icmp .ne off, 3)) (ht : (pc : Int) + off = (tgt : Int)) (kt : ¬ x = y → x_J p l e R s m args below meth c cells slots Q A nL I lv st tgt) (kf : x = y → x_J p l e R s m args below meth c cells slots Q A nL I lv st (pc + 3)) : x_J p l e R s m args below meth c cells slots Q A nL I lv (.int y :: .int x :: st) pc :=
  fun H locs ls h1 h2 h3 => lv_icmp_ne B.1 B.2.1 hdg ht (fun h => kt h H locs ls h1 h2 h3) (fun h => kf h H locs ls h1 h2 h3)
theorem x_icmp_lt (B : x_B p s m args meth c cc nL Ts own) {x y : Int32} {off : Int} {tgt : Nat} (hdg : decode cc pc = .ok (.if_icmp .lt off, 3)) (ht : (pc : Int) + off = (tgt : Int)) (kt : x < y → x_J p l e R s m args below meth c cells slots Q A nL I lv st tgt) (kf : ¬ x < y → x_J p l e R s m args below meth c cells slots Q A nL I lv st (pc + 3)) : x_J p l e R s m args below meth c cells slots Q A nL I lv (.int y :: .int x :: st) pc :=
  fun H locs ls h1 h2 h3 => lv_icmp_lt B.1 B.2.1 hdg ht (fun h => kt h H locs ls h1 h2 h3) (fun h => kf h H locs ls h1 h2 h3)
theorem x_icmp_ge (B : x_B p s m args meth c cc nL Ts own) {x y : Int32} {off : Int} {tgt : Nat} (hdg : decode cc pc = .ok (.if_icmp .ge off, 3)) (ht : (pc : Int) + off = (tgt : Int)) (kt : y ≤ x → x_J p l e R s m args below meth c cells slots Q A nL I lv st tgt) (kf : ¬ y ≤ x → x_J p l e R s m args below meth c cells slots Q A nL I lv st (pc + 3)) : x_J p l e R s m args below meth c cells slots Q A nL I lv (.int y :: .int x :: st) pc :=
  fun H locs ls h1 h2 h3 => lv_icmp_ge B.1 B.2.1 hdg ht (fun h => kt h H locs ls h1 h2 h3) (fun h => kf h H locs ls h1 h2 h3)
theorem x_icmp_gt (B : x_B p s m args meth c cc nL Ts own) {x y : Int32} {off : Int} {tgt : Nat} (hdg : decode cc pc = .ok (.if_icmp .gt off, 3)) (ht : (pc : Int) + off = (tgt : Int)) (kt : y < x → x_J p l e R s m args below meth c cells slots Q A nL I lv st tgt) (kf : ¬ y < x → x_J p l e R s m args below meth c cells slots Q A nL I lv st (pc + 3)) : x_J p l e R s m args below meth c cells slots Q A nL I lv (.int y :: .int x :: st) pc :=
  fun H locs ls h1 h2 h3 => lv_icmp_gt B.1 B.2.1 hdg ht (fun h => kt h H locs ls h1 h2 h3) (fun h => kf h H locs ls h1 h2 h3)
theorem x_icmp_le (B : x_B p s m args meth c cc nL Ts own) {x y : Int32} {off : Int} {tgt : Nat} (hdg : decode cc pc = .ok (.if_icmp .le off, 3)) (ht : (pc : Int) + off = (tgt : Int)) (kt : x ≤ y → x_J p l e R s m args below meth c cells slots Q A nL I lv st tgt) (kf : ¬ x ≤ y → x_J p l e R s m args below meth c cells slots Q A nL I lv st (pc + 3)) : x_J p l e R s m args below meth c cells slots Q A nL I lv (.int y :: .int x :: st) pc :=
  fun H locs ls h1 h2 h3 => lv_icmp_le B.1 B.2.1 hdg ht (fun h => kt h H locs ls h1 h2 h3) (fun h => kf h H locs ls h1 h2 h3)
theorem x_goto (B : x_B p s m args meth c cc nL Ts own) {off : Int} {tgt : Nat} (hdg : decode cc pc = .ok (.goto off, 3)) (ht : (pc : Int) + off = (tgt : Int)) (k : x_J p l e R s m args below meth c cells slots Q A nL I lv st tgt) : x_J p l e R s m args below meth c cells slots Q A nL I lv st pc :=
  fun H locs ls h1 h2 h3 => lv_goto B.1 B.2.1 hdg ht (k H locs ls h1 h2 h3)
theorem x_lookup (B : x_B p s m args meth c cc nL Ts own) {dflt : Int} {ps : Array (Int × Int)} {len : Nat} {x : Int32} {off : Int} {tgt : Nat} (hdg : decode cc pc = .ok (.lookupswitch dflt ps, len)) (hp : (ps.toList.zip (ps.toList.drop 1)).all (fun (a, next) => a.1 < next.1) = true) (ho : Op.lookupswitch.offset ps.toList dflt x.toInt = off) (ht : (pc : Int) + off = (tgt : Int)) (k : x_J p l e R s m args below meth c cells slots Q A nL I lv st tgt) : x_J p l e R s m args below meth c cells slots Q A nL I lv (.int x :: st) pc :=
  fun H locs ls h1 h2 h3 => lv_lookup B.1 B.2.1 hdg hp ho ht (k H locs ls h1 h2 h3)
theorem x_tableOut (B : x_B p s m args meth c cc nL Ts own) {dflt lo hi : Int} {offs : Array Int} {len : Nat} {x : Int32} {tgt : Nat} (hdg : decode cc pc = .ok (.tableswitch dflt lo hi offs, len)) (h : x.toInt < lo ∨ hi < x.toInt) (ht : (pc : Int) + dflt = (tgt : Int)) (k : x_J p l e R s m args below meth c cells slots Q A nL I lv st tgt) : x_J p l e R s m args below meth c cells slots Q A nL I lv (.int x :: st) pc :=
  fun H locs ls h1 h2 h3 => lv_tableOut B.1 B.2.1 hdg h ht (k H locs ls h1 h2 h3)
theorem x_tableIn (B : x_B p s m args meth c cc nL Ts own) {dflt lo hi : Int} {offs : Array Int} {len : Nat} {x : Int32} {off : Int} {tgt : Nat} (hdg : decode cc pc = .ok (.tableswitch dflt lo hi offs, len)) (h1 : ¬ x.toInt < lo) (h2 : ¬ hi < x.toInt) (ho : offs[(x.toInt - lo).toNat]? = some off) (ht : (pc : Int) + off = (tgt : Int)) (k : x_J p l e R s m args below meth c cells slots Q A nL I lv st tgt) : x_J p l e R s m args below meth c cells slots Q A nL I lv (.int x :: st) pc :=
  fun H locs ls g1 g2 g3 => lv_tableIn B.1 B.2.1 hdg h1 h2 ho ht (k H locs ls g1 g2 g3)
theorem x_ldc (B : x_B p s m args meth c cc nL Ts own) {index : Nat} {v : Int32} (hconst : Jvm.Cond.constant own index v ∈ Ts) (hdg : decode cc pc = .ok (.ldc index, 2)) (k : x_J p l e R s m args below meth c cells slots Q A nL I lv (.int v :: st) (pc + 2)) : x_J p l e R s m args below meth c cells slots Q A nL I lv st pc :=
  fun H locs ls h1 h2 h3 => lv_ldc B.1 B.2.1 B.2.2.2.1 (B.2.2.2.2.1 _ hconst) hdg (k H locs ls h1 h2 h3)
theorem x_ldcw (B : x_B p s m args meth c cc nL Ts own) {index : Nat} {v : Int32} (hconst : Jvm.Cond.constant own index v ∈ Ts) (hdg : decode cc pc = .ok (.ldc_w index, 3)) (k : x_J p l e R s m args below meth c cells slots Q A nL I lv (.int v :: st) (pc + 3)) : x_J p l e R s m args below meth c cells slots Q A nL I lv st pc :=
  fun H locs ls h1 h2 h3 => lv_ldcw B.1 B.2.1 B.2.2.2.1 (B.2.2.2.2.1 _ hconst) hdg (k H locs ls h1 h2 h3)
theorem x_ldc2 (B : x_B p s m args meth c cc nL Ts own) {index : Nat} {v : Int64} (hconst : Jvm.Cond.constantLong own index v ∈ Ts) (hdg : decode cc pc = .ok (.ldc2_w index, 3)) (k : x_J p l e R s m args below meth c cells slots Q A nL I lv (.long v :: st) (pc + 3)) : x_J p l e R s m args below meth c cells slots Q A nL I lv st pc :=
  fun H locs ls h1 h2 h3 => lv_ldc2 B.1 B.2.1 B.2.2.2.1 (B.2.2.2.2.1 _ hconst) hdg (k H locs ls h1 h2 h3)
/-- a field is read -/
theorem x_get (B : x_B p s m args meth c cc nL Ts own) (G : x_G s D cl tys N ad A St) {Cn : String} {T : u_T} {n ci kc index : Nat} (hin : ∀ w ∈ u_ws Cn T n, w ∈ Ts) (hc : cl[ci]? = some (Cn, T, n)) (hk : kc < N) {fs : (Nat → Int32) → List Value} (hC : ∀ r, C r kc = .inr (ci, fs r)) (j : Nat) (hj : j < n) (hlink : Cond.fieldLink own index (T j).1 (T j).2.1 (T j).2.2.1 ∈ Ts) {v : Value} (hv : (fs (σ kc))[j]? = some v) (hdg : decode cc pc = .ok (.getfield index, 3))
    (k : x_J p l e R s m args below meth c cells slots Q A nL (x_I D cl N C ad σ) lv (v :: st) (pc + 3)) : x_J p l e R s m args below meth c cells slots Q A nL (x_I D cl N C ad σ) lv (.ref (ad kc) :: st) pc :=
  fun H locs ls h1 h2 h3 => va_get (D := D) (cl := cl) (ws := x_l N C ad σ) (ci := ci) (C := Cn) (T := T) (N := n) B.1 B.2.1 B.2.2.2.2.1 hin B.2.2.2.1 G.1 h1 kc (by rw [x_l_at C ad σ hk, hC]) hc j hj (B.2.2.2.2.1 _ hlink) (fun _ h9 => h9) hv hdg (k H locs ls h1 h2 h3)
/-- an int field is written -/
theorem x_put (B : x_B p s m args meth c cc nL Ts own) (G : x_G s D cl tys N ad A St) {Cn : String} {T : u_T} {n ci kc index : Nat} (hin : ∀ w ∈ u_ws Cn T n, w ∈ Ts) (ty0 : Nat → FieldType) (hty : ∀ k, k < n → parseFieldDescriptor (T k).2.2.1 = some (ty0 k)) (hnm : ∀ a, a < n → ∀ b, b < n → a ≠ b → (T a).2.1 ≠ (T b).2.1) (hc : cl[ci]? = some (Cn, T, n)) (hk : kc < N) {fs : (Nat → Int32) → List Value} (hC : ∀ r, C r kc = .inr (ci, fs r)) (j : Nat) (hj : j < n) (hlink : Cond.fieldLink own index (T j).1 (T j).2.1 (T j).2.2.1 ∈ Ts) (hfin : (T j).2.2.2 = false) {ty : FieldType} {v : Int32} (hd : ty0 j = ty) (hn : narrow ty (.int v) = .int v) (hfit : fits ty (.int v) = true) (hlen : j < (fs (σ kc)).length) (hset : (fs (σ kc)).set j (.int v) = fs (upd (σ kc) j v)) (hdg : decode cc pc = .ok (.putfield index, 3))
    (k : x_J p l e R s m args below meth c cells slots Q A nL (x_I D cl N C ad (x_u σ kc j v)) lv st (pc + 3)) : x_J p l e R s m args below meth c cells slots Q A nL (x_I D cl N C ad σ) lv (.int v :: .ref (ad kc) :: st) pc := by
  intro H locs ls h1 h2 h3
  refine va_put (D := D) (cl := cl) (ws := x_l N C ad σ) (ci := ci) (C := Cn) (T := T) (N := n) (A := A) B.1 B.2.1 B.2.2.2.2.1 hin ty0 hty hnm B.2.2.2.1 G.1 h1 (x_D G.2.1 G.2.2.1 σ) h2 kc (fs := fs (σ kc)) (by rw [x_l_at C ad σ hk, hC]) hc j hj (B.2.2.2.2.1 _ hlink) (fun _ h9 => h9) hfin (ty := ty) (by rw [hty j hj, hd]) hn hfit hlen hdg (fun H1 locs1 g1 _ g2 => ?_)
  rw [hset, ← hC, x_l_set C ad σ hk] at g1
  exact k H1 locs1 ls g1 g2 h3
/-- a place of an int array is read -/
theorem x_iald (B : x_B p s m args meth c cc nL Ts own) (G : x_G s D cl tys N ad A St) {kc n t0 : Nat} {cA : ClassId} (hk : kc < N) (hC : ∀ r, C r kc = .inl (cA, n, .inl r)) (ht : tys[t0]? = some (cA, .int)) {i : Int32} (hi : x_in i n) (hdg : decode cc pc = .ok (.iaload, 1)) (k : x_J p l e R s m args below meth c cells slots Q A nL (x_I D cl N C ad σ) lv (.int (σ kc i.toNatClampNeg) :: st) (pc + 1)) : x_J p l e R s m args below meth c cells slots Q A nL (x_I D cl N C ad σ) lv (.int i :: .ref (ad kc) :: st) pc :=
  fun H locs ls h1 h2 h3 => va_iald (D := D) (cl := cl) (ws := x_l N C ad σ) B.1 B.2.1 G.1 h1 kc t0 (f := σ kc) (by rw [x_l_at C ad σ hk, hC]) ht hi hdg (k H locs ls h1 h2 h3)
theorem x_zald (B : x_B p s m args meth c cc nL Ts own) (G : x_G s D cl tys N ad A St) {kc n t0 : Nat} {cA : ClassId} (hk : kc < N) (hC : ∀ r, C r kc = .inl (cA, n, .inl r)) (ht : tys[t0]? = some (cA, .boolean)) {i : Int32} (hi : x_in i n) (hdg : decode cc pc = .ok (.baload, 1)) (k : x_J p l e R s m args below meth c cells slots Q A nL (x_I D cl N C ad σ) lv (.int (σ kc i.toNatClampNeg) :: st) (pc + 1)) : x_J p l e R s m args below meth c cells slots Q A nL (x_I D cl N C ad σ) lv (.int i :: .ref (ad kc) :: st) pc :=
  fun H locs ls h1 h2 h3 => va_zald (D := D) (cl := cl) (ws := x_l N C ad σ) B.1 B.2.1 G.1 h1 kc t0 (f := σ kc) (by rw [x_l_at C ad σ hk, hC]) ht hi hdg (k H locs ls h1 h2 h3)
theorem x_iast (B : x_B p s m args meth c cc nL Ts own) (G : x_G s D cl tys N ad A St) {kc n t0 : Nat} {cA : ClassId} (hk : kc < N) (hC : ∀ r, C r kc = .inl (cA, n, .inl r)) (ht : tys[t0]? = some (cA, .int)) {i x : Int32} (hi : x_in i n) (hdg : decode cc pc = .ok (.iastore, 1)) (k : x_J p l e R s m args below meth c cells slots Q A nL (x_I D cl N C ad (x_u σ kc i.toNatClampNeg x)) lv st (pc + 1)) : x_J p l e R s m args below meth c cells slots Q A nL (x_I D cl N C ad σ) lv (.int x :: .int i :: .ref (ad kc) :: st) pc := by
  intro H locs ls h1 h2 h3
  refine va_iast (D := D) (cl := cl) (ws := x_l N C ad σ) (A := A) B.1 B.2.1 G.1 h1 (x_D G.2.1 G.2.2.1 σ) h2 kc t0 (f := σ kc) (by rw [x_l_at C ad σ hk, hC]) ht hi hdg (fun H1 locs1 g1 _ g2 => ?_)
  rw [← hC, x_l_set C ad σ hk] at g1
  exact k H1 locs1 ls g1 g2 h3
theorem x_zast (B : x_B p s m args meth c cc nL Ts own) (G : x_G s D cl tys N ad A St) {kc n t0 : Nat} {cA : ClassId} (hk : kc < N) (hC : ∀ r, C r kc = .inl (cA, n, .inl r)) (ht : tys[t0]? = some (cA, .boolean)) {i x : Int32} (hi : x_in i n) (hx : x &&& 1 = x) (hdg : decode cc pc = .ok (.bastore, 1)) (k : x_J p l e R s m args below meth c cells slots Q A nL (x_I D cl N C ad (x_u σ kc i.toNatClampNeg x)) lv st (pc + 1)) : x_J p l e R s m args below meth c cells slots Q A nL (x_I D cl N C ad σ) lv (.int x :: .int i :: .ref (ad kc) :: st) pc := by
  intro H locs ls h1 h2 h3
  refine va_zast (D := D) (cl := cl) (ws := x_l N C ad σ) (A := A) B.1 B.2.1 G.1 h1 (x_D G.2.1 G.2.2.1 σ) h2 kc t0 (f := σ kc) (by rw [x_l_at C ad σ hk, hC]) ht hi hdg (fun H1 locs1 g1 _ g2 => ?_)
  have hx2 : vp_nar .boolean x = x := hx
  rw [hx2, ← hC, x_l_set C ad σ hk] at g1
  exact k H1 locs1 ls g1 g2 h3
/-- a place of an array of references is read -/
theorem x_aald (B : x_B p s m args meth c cc nL Ts own) (G : x_G s D cl tys N ad A St) {kc n t0 : Nat} {cA : ClassId} {ty : FieldType} {f : Nat → Nat} (hk : kc < N) (hC : ∀ r, C r kc = .inl (cA, n, .inr (.inr (.inr (.inr (fun j => some (f j))))))) (ht : tys[t0]? = some (cA, ty)) (hty : ty.isReference = true) {i : Int32} (hi : x_in i n) (hdg : decode cc pc = .ok (.aaload, 1)) (k : x_J p l e R s m args below meth c cells slots Q A nL (x_I D cl N C ad σ) lv (.ref (f i.toNatClampNeg) :: st) (pc + 1)) : x_J p l e R s m args below meth c cells slots Q A nL (x_I D cl N C ad σ) lv (.int i :: .ref (ad kc) :: st) pc := by
  intro H locs ls h1 h2 h3
  have hlt : i.toNatClampNeg < n := Nat.not_le.mp fun q => hi (Or.inr q)
  have hP : va_P D cl (x_l N C ad σ) H := h1
  have ha : (x_l N C ad σ)[kc]? = some (ad kc, .inl (cA, n, .inr (.inr (.inr (.inr (fun j => some (f j))))))) := by rw [x_l_at C ad σ hk, hC]
  exact W.aald (v := va_rf (some (f i.toNatClampNeg))) (ty := ty) B.1 B.2.1 (hP kc _ ha) ((G.1.2 t0 _ ht).1 n (fun j => va_rf (some (f j)))) hty (fun q => by cases q) (by show ¬ (i < 0 ∨ (arrV _ _ _).slots.size ≤ _); rw [arrV_size]; exact hi) (by show (arrV _ _ _).slots[_]? = _; rw [arrV_read _ _ hlt]) rfl rfl hdg (k H locs ls h1 h2 h3)
theorem x_alen (B : x_B p s m args meth c cc nL Ts own) (G : x_G s D cl tys N ad A St) {kc t0 : Nat} {cA : ClassId} {x : (Nat → Int32) → vp_A} (hk : kc < N) (hC : ∀ r, C r kc = .inl (cA, x r)) {ty : FieldType} (ht : tys[t0]? = some (cA, ty)) {v : Int32} (hv : Int32.ofNat (x (σ kc)).1 = v) (hdg : decode cc pc = .ok (.arraylength, 1)) (k : x_J p l e R s m args below meth c cells slots Q A nL (x_I D cl N C ad σ) lv (.int v :: st) (pc + 1)) : x_J p l e R s m args below meth c cells slots Q A nL (x_I D cl N C ad σ) lv (.ref (ad kc) :: st) pc :=
  fun H locs ls h1 h2 h3 => va_alen (D := D) (cl := cl) (ws := x_l N C ad σ) B.1 B.2.1 G.1 h1 kc t0 (x := x (σ kc)) (by rw [x_l_at C ad σ hk, hC]) ht hv hdg (k H locs ls h1 h2 h3)
/-- ints are copied from row to row -/
theorem x_copy (B : x_B p s m args meth c cc nL Ts own) (G : x_G s D cl tys N ad A St) {index k0 k1 n0 n1 t0 : Nat} {cA : ClassId} (hlink : Cond.methodLink own index arraycopyName ∈ Ts) (hnat : Cond.native arraycopyName ∈ Ts) (hstat : Cond.static arraycopyName ∈ Ts) (hini : Cond.initialized "java/lang/System" ∈ Ts) (hk0 : k0 < N) (hk1 : k1 < N) (hC0 : ∀ r, C r k0 = .inl (cA, n0, .inl r)) (hC1 : ∀ r, C r k1 = .inl (cA, n1, .inl r)) (ht : tys[t0]? = some (cA, .int))
    {sp dp n : Int32} (hh : ¬ sp < 0 ∧ ¬ dp < 0 ∧ ¬ n < 0 ∧ sp.toNatClampNeg + n.toNatClampNeg ≤ n0 ∧ dp.toNatClampNeg + n.toNatClampNeg ≤ n1) (hR : 1 ≤ R.frames ∧ (st.map fun v => v.category).sum + (nativeFrameWords "java/lang/System" "arraycopy" 5 + 11) ≤ R.locals) (hdg : decode cc pc = .ok (.invokestatic index, 3))
    (k : x_J p l e R s m args below meth c cells slots Q A nL (x_I D cl N C ad (x_r σ k1 (va_cpy (σ k0) (σ k1) sp.toNatClampNeg dp.toNatClampNeg n.toNatClampNeg))) lv st (pc + 3)) : x_J p l e R s m args below meth c cells slots Q A nL (x_I D cl N C ad σ) lv (.int n :: .int dp :: .ref (ad k1) :: .int sp :: .ref (ad k0) :: st) pc := by
  intro H locs ls h1 h2 h3
  refine va_copyi (D := D) (cl := cl) (ws := x_l N C ad σ) (A := A) B.1 B.2.1 (by rw [B.2.2.1, h3.1]) B.2.2.2.1 (B.2.2.2.2.1 _ hlink) (B.2.2.2.2.1 _ hnat) (B.2.2.2.2.1 _ hstat) (B.2.2.2.2.1 _ hini) G.1 h1 (x_D G.2.1 G.2.2.1 σ) h2 k0 k1 t0 t0 (f := σ k0) (g := σ k1) (ty := .int) (by rw [x_l_at C ad σ hk0, hC0]) (by rw [x_l_at C ad σ hk1, hC1]) ht ht rfl hh.1 hh.2.1 hh.2.2.1 hh.2.2.2.1 hh.2.2.2.2 (fun i _ => rfl) hR.1 hR.2 hdg (fun H1 locs1 g1 _ g2 => ?_)
  rw [← hC1, x_l_set C ad σ hk1] at g1
  exact k H1 locs1 ls g1 g2 h3
theorem x_mmax (B : x_B p s m args meth c cc nL Ts own) {index : Nat} (hlink : Cond.methodLink own index Lib.Math.max.name ∈ Ts) (hstat : Cond.static Lib.Math.max.name ∈ Ts) (hini : Cond.initialized "java/lang/Math" ∈ Ts) (hcode : Cond.code Lib.Math.max.name Lib.Math.max.code 2 (some .int) ∈ Ts) (hR : 1 ≤ R.frames ∧ (st.map fun v => v.category).sum + 13 ≤ R.locals) (hcs : cells ≤ R.cells ∧ slots ≤ R.slots) {x y : Int32} (hdg : decode cc pc = .ok (.invokestatic index, 3)) (k : x_J p l e R s m args below meth c cells slots Q A nL I lv (.int (if x < y then y else x) :: st) (pc + 3)) : x_J p l e R s m args below meth c cells slots Q A nL I lv (.int y :: .int x :: st) pc :=
  fun H locs ls h1 h2 h3 => va_mmax B.1 B.2.1 (by rw [B.2.2.1, h3.1]) B.2.2.2.1 (B.2.2.2.2.1 _ hlink) (B.2.2.2.2.1 _ hstat) (B.2.2.2.2.1 _ hini) (B.2.2.2.2.1 _ hcode) hR.1 hR.2 hcs.1 hcs.2 hdg (k H locs ls h1 h2 h3)
theorem x_mmin (B : x_B p s m args meth c cc nL Ts own) {index : Nat} (hlink : Cond.methodLink own index Lib.Math.min.name ∈ Ts) (hstat : Cond.static Lib.Math.min.name ∈ Ts) (hini : Cond.initialized "java/lang/Math" ∈ Ts) (hcode : Cond.code Lib.Math.min.name Lib.Math.min.code 2 (some .int) ∈ Ts) (hR : 1 ≤ R.frames ∧ (st.map fun v => v.category).sum + 13 ≤ R.locals) (hcs : cells ≤ R.cells ∧ slots ≤ R.slots) {x y : Int32} (hdg : decode cc pc = .ok (.invokestatic index, 3)) (k : x_J p l e R s m args below meth c cells slots Q A nL I lv (.int (if y < x then y else x) :: st) (pc + 3)) : x_J p l e R s m args below meth c cells slots Q A nL I lv (.int y :: .int x :: st) pc :=
  fun H locs ls h1 h2 h3 => va_mmin B.1 B.2.1 (by rw [B.2.2.1, h3.1]) B.2.2.2.1 (B.2.2.2.2.1 _ hlink) (B.2.2.2.2.1 _ hstat) (B.2.2.2.2.1 _ hini) (B.2.2.2.2.1 _ hcode) hR.1 hR.2 hcs.1 hcs.2 hdg (k H locs ls h1 h2 h3)
/-- a static that holds a reference; a table is read -/
theorem x_gets (B : x_B p s m args meth c cc nL Ts own) {Cn nm d : String} {v : Value} {index : Nat} (hZ : va_Z Cn nm d v A s s.heap) (hlink : Cond.fieldLink own index Cn nm d ∈ Ts) (hdg : decode cc pc = .ok (.getstatic index, 3)) (k : x_J p l e R s m args below meth c cells slots Q A nL I lv (v :: st) (pc + 3)) : x_J p l e R s m args below meth c cells slots Q A nL I lv st pc :=
  fun H locs ls h1 h2 h3 => va_gets B.1 B.2.1 hZ h2 B.2.2.2.1 (B.2.2.2.2.1 _ hlink) (fun _ h9 => h9) hdg (k H locs ls h1 h2 h3)
theorem x_tald (B : x_B p s m args meth c cc nL Ts own) {t n : Nat} {f : Nat → Int32} (hT : va_T .int t n (fun j => .int (f j)) A s s.heap) {i : Int32} (hi : x_in i n) (hdg : decode cc pc = .ok (.iaload, 1)) (k : x_J p l e R s m args below meth c cells slots Q A nL I lv (.int (f i.toNatClampNeg) :: st) (pc + 1)) : x_J p l e R s m args below meth c cells slots Q A nL I lv (.int i :: .ref t :: st) pc :=
  fun H locs ls h1 h2 h3 => va_ti B.1 B.2.1 hT h2 hi rfl hdg (k H locs ls h1 h2 h3)
theorem x_talen (B : x_B p s m args meth c cc nL Ts own) {t n : Nat} {f : Nat → Value} {v : Int32} (hT : va_T .int t n f A s s.heap) (hv : Int32.ofNat n = v) (hdg : decode cc pc = .ok (.arraylength, 1)) (k : x_J p l e R s m args below meth c cells slots Q A nL I lv (.int v :: st) (pc + 1)) : x_J p l e R s m args below meth c cells slots Q A nL I lv (.ref t :: st) pc := by
  intro H locs ls h1 h2 h3
  obtain ⟨cell, g1, g2, g3, g4, g5, g6, g7⟩ := hT
  exact W.alen B.1 B.2.1 (a := t) (cell := cell) (ty := .int) (by rw [h2.2.1 t (Array.getElem?_eq_some_iff.mp g1).1 g7]; exact g1) g2 (g5.trans hv) rfl rfl hdg (k H locs ls h1 h2 h3)
end XJ
end
section
/-! ===== BEGIN words of one list among another's, by their places ===== -/
theorem goodIn_r {big : List Cond} (ws : List Cond) (ps : List Nat) (hp : ws = ps.filterMap (fun i => big[i]?)) (h : ws.all goodWord = true) : GoodIn big ws := by
  intro w hw
  have h1 := List.all_eq_true.mp h w hw
  rw [hp] at hw
  obtain ⟨i, -, hi⟩ := List.mem_filterMap.mp hw
  have hm : w ∈ big := by first | exact List.mem_of_getElem? hi | exact List.getElem?_mem hi
  exact ⟨hm, good_of_word h1⟩
theorem goodIn_app {big a b : List Cond} (ha : GoodIn big a) (hb : GoodIn big b) : GoodIn big (a ++ b) := fun w h => (List.mem_append.mp h).elim (ha w) (hb w)
theorem goodIn_ca {big a b : List Cond} {c : Cond} (ha : GoodIn big (c :: a)) (hb : GoodIn big b) : GoodIn big (c :: (a ++ b)) := fun w h => (List.mem_cons.mp h).elim (fun e => ha w (List.mem_cons.mpr (Or.inl e))) (fun h => (List.mem_append.mp h).elim (fun h => ha w (List.mem_cons.mpr (Or.inr h))) (hb w))
theorem goodIn_sub {big ws : List Cond} (hm : ∀ w ∈ ws, w ∈ big) (h : ws.all goodWord = true) : GoodIn big ws := fun w hw => ⟨hm w hw, good_of_word (List.all_eq_true.mp h w hw)⟩
/-! ===== END ===== -/

/-! ===== BEGIN printed: names, fields, word lists, decode rows ===== -/
def RX0 : String := "SignDuty$Acts"
def TX0 : u_T := fun k => match k with
  | 0 => ("SignDuty$Acts", "deeds", "[I", true)
  | 1 => ("SignDuty$Acts", "whats", "[I", true)
  | 2 => ("SignDuty$Acts", "values", "[I", true)
  | 3 => ("SignDuty$Acts", "nextSlot", "I", false)
  | _ => ("SignDuty$Acts", "kept", "I", false)
def tyX0 : Nat → FieldType := fun k => match k with
  | 0 => .array .int
  | 1 => .array .int
  | 2 => .array .int
  | 3 => .int
  | _ => .int
abbrev wsX00 : List Cond := u_ws RX0 TX0 5
theorem nmX0 : ∀ a, a < 5 → ∀ b, b < 5 → a ≠ b → (TX0 a).2.1 ≠ (TX0 b).2.1 := by decide +kernel
theorem tyX0_ok : ∀ k, k < 5 → parseFieldDescriptor (TX0 k).2.2.1 = some (tyX0 k) := by decide +kernel
abbrev cX0_init : ByteArray := prog_2_method_1_code
def yX0_init : MethodName := ⟨RX0, "<init>", "()V"⟩
abbrev cX0_forgetAll : ByteArray := prog_2_method_2_code
def yX0_forgetAll : MethodName := ⟨RX0, "forgetAll", "()V"⟩
abbrev cX0_keep : ByteArray := prog_2_method_3_code
def yX0_keep : MethodName := ⟨RX0, "keep", "(III)V"⟩
abbrev cX0_takeBack : ByteArray := prog_2_method_4_code
def yX0_takeBack : MethodName := ⟨RX0, "takeBack", "(LSignDuty$City;)V"⟩
def RX1 : String := "SignDuty$Asks"
def TX1 : u_T := fun k => match k with
  | 0 => ("SignDuty$Asks", "numbers", "[I", true)
  | _ => ("SignDuty$Asks", "left", "I", false)
def tyX1 : Nat → FieldType := fun k => match k with
  | 0 => .array .int
  | _ => .int
abbrev wsX10 : List Cond := u_ws RX1 TX1 2
theorem nmX1 : ∀ a, a < 2 → ∀ b, b < 2 → a ≠ b → (TX1 a).2.1 ≠ (TX1 b).2.1 := by decide +kernel
theorem tyX1_ok : ∀ k, k < 2 → parseFieldDescriptor (TX1 k).2.2.1 = some (tyX1 k) := by decide +kernel
abbrev cX1_init : ByteArray := prog_3_method_1_code
def yX1_init : MethodName := ⟨RX1, "<init>", "()V"⟩
abbrev cX1_answer : ByteArray := prog_3_method_2_code
def yX1_answer : MethodName := ⟨RX1, "answer", "(LSignDuty$City;II)I"⟩
abbrev cX1_numberLeft : ByteArray := prog_3_method_3_code
def yX1_numberLeft : MethodName := ⟨RX1, "numberLeft", "(I)I"⟩
abbrev cX1_asked : ByteArray := prog_3_method_4_code
def yX1_asked : MethodName := ⟨RX1, "asked", "(LSignDuty$City;III)I"⟩
abbrev cX1_bodyFor : ByteArray := prog_3_method_5_code
def yX1_bodyFor : MethodName := ⟨RX1, "bodyFor", "([II)I"⟩
abbrev cX1_given : ByteArray := prog_3_method_6_code
def yX1_given : MethodName := ⟨RX1, "given", "(ILSignDuty$City;II)I"⟩
abbrev cX1_leave : ByteArray := prog_3_method_7_code
def yX1_leave : MethodName := ⟨RX1, "leave", "(I)V"⟩
def RX2 : String := "SignDuty$City"
def TX2 : u_T := fun k => match k with
  | 0 => ("SignDuty$City", "stands", "Z", false)
  | 1 => ("SignDuty$City", "rate", "I", false)
  | 2 => ("SignDuty$City", "paid", "I", false)
  | 3 => ("SignDuty$City", "streets", "I", false)
  | 4 => ("SignDuty$City", "known", "I", false)
  | 5 => ("SignDuty$City", "gestures", "I", false)
  | 6 => ("SignDuty$City", "dim", "[I", true)
  | 7 => ("SignDuty$City", "strict", "[I", true)
  | 8 => ("SignDuty$City", "kind", "[I", true)
  | 9 => ("SignDuty$City", "inches", "[I", true)
  | 10 => ("SignDuty$City", "means", "[I", true)
  | 11 => ("SignDuty$City", "takes", "[I", true)
  | _ => ("SignDuty$City", "made", "[I", true)
def tyX2 : Nat → FieldType := fun k => match k with
  | 0 => .boolean
  | 1 => .int
  | 2 => .int
  | 3 => .int
  | 4 => .int
  | 5 => .int
  | 6 => .array .int
  | 7 => .array .int
  | 8 => .array .int
  | 9 => .array .int
  | 10 => .array .int
  | 11 => .array .int
  | _ => .array .int
abbrev wsX20 : List Cond := u_ws RX2 TX2 13
theorem nmX2 : ∀ a, a < 13 → ∀ b, b < 13 → a ≠ b → (TX2 a).2.1 ≠ (TX2 b).2.1 := by decide +kernel
theorem tyX2_ok : ∀ k, k < 13 → parseFieldDescriptor (TX2 k).2.2.1 = some (tyX2 k) := by decide +kernel
abbrev cX2_init : ByteArray := prog_4_method_1_code
def yX2_init : MethodName := ⟨RX2, "<init>", "()V"⟩
abbrev cX2_begin : ByteArray := prog_4_method_2_code
def yX2_begin : MethodName := ⟨RX2, "begin", "(I)V"⟩
abbrev cX2_become : ByteArray := prog_4_method_3_code
def yX2_become : MethodName := ⟨RX2, "become", "(LSignDuty$City;)V"⟩
abbrev cX2_isKnown : ByteArray := prog_4_method_4_code
def yX2_isKnown : MethodName := ⟨RX2, "isKnown", "(I)Z"⟩
abbrev cX2_turnKnown : ByteArray := prog_4_method_5_code
def yX2_turnKnown : MethodName := ⟨RX2, "turnKnown", "(I)V"⟩
abbrev cX2_owes : ByteArray := prog_4_method_6_code
def yX2_owes : MethodName := ⟨RX2, "owes", "(II)I"⟩
abbrev cX2_owesIfKnown : ByteArray := prog_4_method_7_code
def yX2_owesIfKnown : MethodName := ⟨RX2, "owesIfKnown", "(II)I"⟩
abbrev cX2_owesSuch : ByteArray := prog_4_method_8_code
def yX2_owesSuch : MethodName := ⟨RX2, "owesSuch", "(III)I"⟩
abbrev cX2_owesUnknown : ByteArray := prog_4_method_9_code
def yX2_owesUnknown : MethodName := ⟨RX2, "owesUnknown", "(III)I"⟩
abbrev cX2_isSeen : ByteArray := prog_4_method_10_code
def yX2_isSeen : MethodName := ⟨RX2, "isSeen", "(II)Z"⟩
abbrev cX2_tells : ByteArray := prog_4_method_11_code
def yX2_tells : MethodName := ⟨RX2, "tells", "(III)Z"⟩
abbrev cX2_streetsThatSee : ByteArray := prog_4_method_12_code
def yX2_streetsThatSee : MethodName := ⟨RX2, "streetsThatSee", "(I)I"⟩
abbrev cX2_gesturesSeenIn : ByteArray := prog_4_method_13_code
def yX2_gesturesSeenIn : MethodName := ⟨RX2, "gesturesSeenIn", "(I)I"⟩
abbrev cX2_streetsWithout : ByteArray := prog_4_method_14_code
def yX2_streetsWithout : MethodName := ⟨RX2, "streetsWithout", "(I)I"⟩
abbrev cX2_leastTime : ByteArray := prog_4_method_15_code
def yX2_leastTime : MethodName := ⟨RX2, "leastTime", "(II)I"⟩
abbrev cX2_dearestStreet : ByteArray := prog_4_method_16_code
def yX2_dearestStreet : MethodName := ⟨RX2, "dearestStreet", "(I)I"⟩
def RX3 : String := "SignDuty$Kinds"
def TX3 : u_T := fun k => match k with
  | _ => ("", "", "", false)
def tyX3 : Nat → FieldType := fun k => match k with
  | _ => .int
abbrev wsX30 : List Cond := u_ws RX3 TX3 0
theorem nmX3 : ∀ a, a < 0 → ∀ b, b < 0 → a ≠ b → (TX3 a).2.1 ≠ (TX3 b).2.1 := by decide +kernel
theorem tyX3_ok : ∀ k, k < 0 → parseFieldDescriptor (TX3 k).2.2.1 = some (tyX3 k) := by decide +kernel
abbrev cX3_widerThan : ByteArray := prog_5_method_2_code
def yX3_widerThan : MethodName := ⟨RX3, "widerThan", "(I)I"⟩
abbrev cX3_isOneOf : ByteArray := prog_5_method_3_code
def yX3_isOneOf : MethodName := ⟨RX3, "isOneOf", "(II)Z"⟩
abbrev cX3_ofLetter : ByteArray := prog_5_method_4_code
def yX3_ofLetter : MethodName := ⟨RX3, "ofLetter", "(I)I"⟩
def RX4 : String := "SignDuty$Reader"
def TX4 : u_T := fun k => match k with
  | 0 => ("SignDuty$Reader", "tape", "[I", true)
  | 1 => ("SignDuty$Reader", "length", "I", false)
  | 2 => ("SignDuty$Reader", "lastFault", "I", false)
  | 3 => ("SignDuty$Reader", "faultPlace", "I", false)
  | 4 => ("SignDuty$Reader", "fault", "I", false)
  | _ => ("SignDuty$Reader", "at", "I", false)
def tyX4 : Nat → FieldType := fun k => match k with
  | 0 => .array .int
  | 1 => .int
  | 2 => .int
  | 3 => .int
  | 4 => .int
  | _ => .int
abbrev wsX40 : List Cond := u_ws RX4 TX4 6
theorem nmX4 : ∀ a, a < 6 → ∀ b, b < 6 → a ≠ b → (TX4 a).2.1 ≠ (TX4 b).2.1 := by decide +kernel
theorem tyX4_ok : ∀ k, k < 6 → parseFieldDescriptor (TX4 k).2.2.1 = some (tyX4 k) := by decide +kernel
abbrev cX4_init : ByteArray := prog_6_method_1_code
def yX4_init : MethodName := ⟨RX4, "<init>", "()V"⟩
abbrev cX4_isFull : ByteArray := prog_6_method_2_code
def yX4_isFull : MethodName := ⟨RX4, "isFull", "()Z"⟩
abbrev cX4_append : ByteArray := prog_6_method_3_code
def yX4_append : MethodName := ⟨RX4, "append", "(I)I"⟩
abbrev cX4_reads : ByteArray := prog_6_method_4_code
def yX4_reads : MethodName := ⟨RX4, "reads", "(LSignDuty$City;)Z"⟩
abbrev cX4_readLaw : ByteArray := prog_6_method_5_code
def yX4_readLaw : MethodName := ⟨RX4, "readLaw", "(LSignDuty$City;)V"⟩
abbrev cX4_readStreet : ByteArray := prog_6_method_6_code
def yX4_readStreet : MethodName := ⟨RX4, "readStreet", "(LSignDuty$City;)V"⟩
abbrev cX4_readGesture : ByteArray := prog_6_method_7_code
def yX4_readGesture : MethodName := ⟨RX4, "readGesture", "(LSignDuty$City;)V"⟩
abbrev cX4_next : ByteArray := prog_6_method_8_code
def yX4_next : MethodName := ⟨RX4, "next", "()I"⟩
abbrev cX4_readSign : ByteArray := prog_6_method_9_code
def yX4_readSign : MethodName := ⟨RX4, "readSign", "(I)V"⟩
abbrev cX4_readNumber : ByteArray := prog_6_method_10_code
def yX4_readNumber : MethodName := ⟨RX4, "readNumber", "(II)I"⟩
abbrev cX4_fail : ByteArray := prog_6_method_11_code
def yX4_fail : MethodName := ⟨RX4, "fail", "(I)V"⟩
abbrev cX4_failAt : ByteArray := prog_6_method_12_code
def yX4_failAt : MethodName := ⟨RX4, "failAt", "(II)V"⟩
def RX5 : String := "SignDuty$Rows"
def TX5 : u_T := fun k => match k with
  | 0 => ("SignDuty$Rows", "items", "[[I", true)
  | 1 => ("SignDuty$Rows", "lengths", "[I", true)
  | _ => ("SignDuty$Rows", "lanes", "[I", true)
def tyX5 : Nat → FieldType := fun k => match k with
  | 0 => .array (.array .int)
  | 1 => .array .int
  | _ => .array .int
abbrev wsX50 : List Cond := u_ws RX5 TX5 3
theorem nmX5 : ∀ a, a < 3 → ∀ b, b < 3 → a ≠ b → (TX5 a).2.1 ≠ (TX5 b).2.1 := by decide +kernel
theorem tyX5_ok : ∀ k, k < 3 → parseFieldDescriptor (TX5 k).2.2.1 = some (tyX5 k) := by decide +kernel
abbrev cX5_init : ByteArray := prog_7_method_1_code
def yX5_init : MethodName := ⟨RX5, "<init>", "()V"⟩
abbrev cX5_isRow : ByteArray := prog_7_method_2_code
def yX5_isRow : MethodName := ⟨RX5, "isRow", "(I)Z"⟩
abbrev cX5_isMissing : ByteArray := prog_7_method_3_code
def yX5_isMissing : MethodName := ⟨RX5, "isMissing", "(I)Z"⟩
abbrev cX5_areAlike : ByteArray := prog_7_method_4_code
def yX5_areAlike : MethodName := ⟨RX5, "areAlike", "(II)Z"⟩
abbrev cX5_reaches : ByteArray := prog_7_method_5_code
def yX5_reaches : MethodName := ⟨RX5, "reaches", "(III)Z"⟩
abbrev cX5_findingOf : ByteArray := prog_7_method_6_code
def yX5_findingOf : MethodName := ⟨RX5, "findingOf", "(III)I"⟩
abbrev cX5_lay : ByteArray := prog_7_method_7_code
def yX5_lay : MethodName := ⟨RX5, "lay", "(III)V"⟩
abbrev cX5_put : ByteArray := prog_7_method_8_code
def yX5_put : MethodName := ⟨RX5, "put", "(III)I"⟩
abbrev cX5_at : ByteArray := prog_7_method_9_code
def yX5_at : MethodName := ⟨RX5, "at", "(II)I"⟩
abbrev cX5_carry : ByteArray := prog_7_method_10_code
def yX5_carry : MethodName := ⟨RX5, "carry", "(IIIII)V"⟩
abbrev cX5_takeAway : ByteArray := prog_7_method_11_code
def yX5_takeAway : MethodName := ⟨RX5, "takeAway", "(I)I"⟩
abbrev cX5_howMany : ByteArray := prog_7_method_12_code
def yX5_howMany : MethodName := ⟨RX5, "howMany", "()I"⟩
abbrev cX5_lowestBits : ByteArray := prog_7_method_13_code
def yX5_lowestBits : MethodName := ⟨RX5, "lowestBits", "(II)I"⟩
def RX6 : String := "SignDuty$Teller"
def TX6 : u_T := fun k => match k with
  | _ => ("SignDuty$Teller", "least", "[[I", true)
def tyX6 : Nat → FieldType := fun k => match k with
  | _ => .array (.array .int)
abbrev wsX60 : List Cond := u_ws RX6 TX6 1
theorem nmX6 : ∀ a, a < 1 → ∀ b, b < 1 → a ≠ b → (TX6 a).2.1 ≠ (TX6 b).2.1 := by decide +kernel
theorem tyX6_ok : ∀ k, k < 1 → parseFieldDescriptor (TX6 k).2.2.1 = some (tyX6 k) := by decide +kernel
abbrev cX6_init : ByteArray := prog_8_method_1_code
def yX6_init : MethodName := ⟨RX6, "<init>", "()V"⟩
abbrev cX6_leastDuty : ByteArray := prog_8_method_2_code
def yX6_leastDuty : MethodName := ⟨RX6, "leastDuty", "(LSignDuty$City;IIII)I"⟩
abbrev cX6_gestureOfCheapest : ByteArray := prog_8_method_3_code
def yX6_gestureOfCheapest : MethodName := ⟨RX6, "gestureOfCheapest", "(LSignDuty$City;IIIII)I"⟩
abbrev cX6_fill : ByteArray := prog_8_method_4_code
def yX6_fill : MethodName := ⟨RX6, "fill", "(LSignDuty$City;IIII)V"⟩
abbrev cX6_offer : ByteArray := prog_8_method_5_code
def yX6_offer : MethodName := ⟨RX6, "offer", "(IIII)V"⟩
abbrev cX6_firstOfCheapest : ByteArray := prog_8_method_6_code
def yX6_firstOfCheapest : MethodName := ⟨RX6, "firstOfCheapest", "(LSignDuty$City;III)I"⟩
def RX7 : String := "SignDuty"
def TX7 : u_T := fun k => match k with
  | 0 => ("SignDuty", "rows", "LSignDuty$Rows;", true)
  | 1 => ("SignDuty", "reader", "LSignDuty$Reader;", true)
  | 2 => ("SignDuty", "city", "LSignDuty$City;", true)
  | 3 => ("SignDuty", "draft", "LSignDuty$City;", true)
  | 4 => ("SignDuty", "images", "[LSignDuty$City;", true)
  | 5 => ("SignDuty", "acts", "LSignDuty$Acts;", true)
  | 6 => ("SignDuty", "teller", "LSignDuty$Teller;", true)
  | 7 => ("SignDuty", "asks", "LSignDuty$Asks;", true)
  | _ => ("SignDuty", "lastFinding", "I", false)
def tyX7 : Nat → FieldType := fun k => match k with
  | 0 => .object "SignDuty$Rows"
  | 1 => .object "SignDuty$Reader"
  | 2 => .object "SignDuty$City"
  | 3 => .object "SignDuty$City"
  | 4 => .array (.object "SignDuty$City")
  | 5 => .object "SignDuty$Acts"
  | 6 => .object "SignDuty$Teller"
  | 7 => .object "SignDuty$Asks"
  | _ => .int
abbrev wsX70 : List Cond := u_ws RX7 TX7 9
theorem nmX7 : ∀ a, a < 9 → ∀ b, b < 9 → a ≠ b → (TX7 a).2.1 ≠ (TX7 b).2.1 := by decide +kernel
theorem tyX7_ok : ∀ k, k < 9 → parseFieldDescriptor (TX7 k).2.2.1 = some (tyX7 k) := by decide +kernel
abbrev cX7_init : ByteArray := prog_1_method_1_code
def yX7_init : MethodName := ⟨RX7, "<init>", "()V"⟩
abbrev cX7_row : ByteArray := prog_1_method_2_code
def yX7_row : MethodName := ⟨RX7, "row", "(III)I"⟩
abbrev cX7_set : ByteArray := prog_1_method_3_code
def yX7_set : MethodName := ⟨RX7, "set", "(III)I"⟩
abbrev cX7_copy : ByteArray := prog_1_method_4_code
def yX7_copy : MethodName := ⟨RX7, "copy", "(IIIII)I"⟩
abbrev cX7_drop : ByteArray := prog_1_method_5_code
def yX7_drop : MethodName := ⟨RX7, "drop", "(I)I"⟩
abbrev cX7_feed : ByteArray := prog_1_method_6_code
def yX7_feed : MethodName := ⟨RX7, "feed", "(I)I"⟩
abbrev cX7_city : ByteArray := prog_1_method_7_code
def yX7_city : MethodName := ⟨RX7, "city", "()I"⟩
abbrev cX7_fault : ByteArray := prog_1_method_8_code
def yX7_fault : MethodName := ⟨RX7, "fault", "()I"⟩
abbrev cX7_make : ByteArray := prog_1_method_9_code
def yX7_make : MethodName := ⟨RX7, "make", "(II)I"⟩
abbrev cX7_dim : ByteArray := prog_1_method_10_code
def yX7_dim : MethodName := ⟨RX7, "dim", "(II)I"⟩
abbrev cX7_train : ByteArray := prog_1_method_11_code
def yX7_train : MethodName := ⟨RX7, "train", "(II)I"⟩
abbrev cX7_know : ByteArray := prog_1_method_12_code
def yX7_know : MethodName := ⟨RX7, "know", "(II)I"⟩
abbrev cX7_undo : ByteArray := prog_1_method_13_code
def yX7_undo : MethodName := ⟨RX7, "undo", "()I"⟩
abbrev cX7_gesture : ByteArray := prog_1_method_14_code
def yX7_gesture : MethodName := ⟨RX7, "gesture", "(II)I"⟩
abbrev cX7_street : ByteArray := prog_1_method_15_code
def yX7_street : MethodName := ⟨RX7, "street", "(II)I"⟩
abbrev cX7_duty : ByteArray := prog_1_method_16_code
def yX7_duty : MethodName := ⟨RX7, "duty", "(II)I"⟩
abbrev cX7_tell : ByteArray := prog_1_method_17_code
def yX7_tell : MethodName := ⟨RX7, "tell", "(IIIII)I"⟩
abbrev cX7_shut : ByteArray := prog_1_method_18_code
def yX7_shut : MethodName := ⟨RX7, "shut", "(I)I"⟩
abbrev cX7_quick : ByteArray := prog_1_method_19_code
def yX7_quick : MethodName := ⟨RX7, "quick", "(III)I"⟩
abbrev cX7_thread : ByteArray := prog_1_method_20_code
def yX7_thread : MethodName := ⟨RX7, "thread", "(III)I"⟩
abbrev cX7_inches : ByteArray := prog_1_method_21_code
def yX7_inches : MethodName := ⟨RX7, "inches", "(IIII)I"⟩
abbrev cX7_sorts : ByteArray := prog_1_method_22_code
def yX7_sorts : MethodName := ⟨RX7, "sorts", "(IIII)I"⟩
abbrev cX7_saved : ByteArray := prog_1_method_23_code
def yX7_saved : MethodName := ⟨RX7, "saved", "(I)I"⟩
abbrev cX7_worst : ByteArray := prog_1_method_24_code
def yX7_worst : MethodName := ⟨RX7, "worst", "(II)I"⟩
abbrev cX7_tremble : ByteArray := prog_1_method_25_code
def yX7_tremble : MethodName := ⟨RX7, "tremble", "(IIIIII)I"⟩
abbrev cX7_image : ByteArray := prog_1_method_26_code
def yX7_image : MethodName := ⟨RX7, "image", "(I)I"⟩
abbrev cX7_restore : ByteArray := prog_1_method_27_code
def yX7_restore : MethodName := ⟨RX7, "restore", "(I)I"⟩
abbrev cX7_kind : ByteArray := prog_1_method_28_code
def yX7_kind : MethodName := ⟨RX7, "kind", "(I)I"⟩
abbrev cX7_as : ByteArray := prog_1_method_29_code
def yX7_as : MethodName := ⟨RX7, "as", "(II)I"⟩
abbrev cX7_ask : ByteArray := prog_1_method_30_code
def yX7_ask : MethodName := ⟨RX7, "ask", "(II)I"⟩
abbrev cX7_trace : ByteArray := prog_1_method_31_code
def yX7_trace : MethodName := ⟨RX7, "trace", "(I)I"⟩
abbrev cX7_count : ByteArray := prog_1_method_32_code
def yX7_count : MethodName := ⟨RX7, "count", "(I)I"⟩
abbrev cX7_status : ByteArray := prog_1_method_33_code
def yX7_status : MethodName := ⟨RX7, "status", "()I"⟩
abbrev cX7_isWithin : ByteArray := prog_1_method_34_code
def yX7_isWithin : MethodName := ⟨RX7, "isWithin", "(III)Z"⟩
abbrev cX7_isMeaning : ByteArray := prog_1_method_35_code
def yX7_isMeaning : MethodName := ⟨RX7, "isMeaning", "(I)Z"⟩
abbrev cX7_isGesture : ByteArray := prog_1_method_36_code
def yX7_isGesture : MethodName := ⟨RX7, "isGesture", "(I)Z"⟩
abbrev cX7_isStreet : ByteArray := prog_1_method_37_code
def yX7_isStreet : MethodName := ⟨RX7, "isStreet", "(I)Z"⟩
abbrev cX7_isStretch : ByteArray := prog_1_method_38_code
def yX7_isStretch : MethodName := ⟨RX7, "isStretch", "(II)Z"⟩
abbrev cX7_found : ByteArray := prog_1_method_39_code
def yX7_found : MethodName := ⟨RX7, "found", "(I)I"⟩
abbrev cX7_foundNothing : ByteArray := prog_1_method_40_code
def yX7_foundNothing : MethodName := ⟨RX7, "foundNothing", "(I)I"⟩
abbrev cX7_refusalOfThread : ByteArray := prog_1_method_41_code
def yX7_refusalOfThread : MethodName := ⟨RX7, "refusalOfThread", "(III)I"⟩
abbrev cX7_owesAlong : ByteArray := prog_1_method_42_code
def yX7_owesAlong : MethodName := ⟨RX7, "owesAlong", "(IIIII)Z"⟩
abbrev cX7_isSeenAlong : ByteArray := prog_1_method_43_code
def yX7_isSeenAlong : MethodName := ⟨RX7, "isSeenAlong", "(IIII)Z"⟩
abbrev cX7_tenthsWithin : ByteArray := prog_1_method_44_code
def yX7_tenthsWithin : MethodName := ⟨RX7, "tenthsWithin", "(LSignDuty$City;IIIII)I"⟩
abbrev cX7_commonDivisor : ByteArray := prog_1_method_45_code
def yX7_commonDivisor : MethodName := ⟨RX7, "commonDivisor", "(II)I"⟩
def RX8 : String := "SignDutyModel"
def TX8 : u_T := fun k => match k with
  | 0 => ("SignDutyModel", "row", "[I", true)
  | 1 => ("SignDutyModel", "isCity", "Z", false)
  | 2 => ("SignDutyModel", "undos", "I", false)
  | 3 => ("SignDutyModel", "isKept", "[Z", true)
  | 4 => ("SignDutyModel", "lanes", "[I", true)
  | 5 => ("SignDutyModel", "sizes", "[I", true)
  | 6 => ("SignDutyModel", "items", "[I", true)
  | 7 => ("SignDutyModel", "tape", "[I", true)
  | 8 => ("SignDutyModel", "length", "I", false)
  | 9 => ("SignDutyModel", "fault", "I", false)
  | 10 => ("SignDutyModel", "status", "I", false)
  | 11 => ("SignDutyModel", "trace", "[I", true)
  | 12 => ("SignDutyModel", "traced", "I", false)
  | 13 => ("SignDutyModel", "at", "I", false)
  | 14 => ("SignDutyModel", "wrong", "I", false)
  | 15 => ("SignDutyModel", "number", "I", false)
  | _ => ("SignDutyModel", "costs", "[I", true)
def tyX8 : Nat → FieldType := fun k => match k with
  | 0 => .array .int
  | 1 => .boolean
  | 2 => .int
  | 3 => .array .boolean
  | 4 => .array .int
  | 5 => .array .int
  | 6 => .array .int
  | 7 => .array .int
  | 8 => .int
  | 9 => .int
  | 10 => .int
  | 11 => .array .int
  | 12 => .int
  | 13 => .int
  | 14 => .int
  | 15 => .int
  | _ => .array .int
abbrev wsX80 : List Cond := u_ws RX8 TX8 17
theorem nmX8 : ∀ a, a < 17 → ∀ b, b < 17 → a ≠ b → (TX8 a).2.1 ≠ (TX8 b).2.1 := by decide +kernel
theorem tyX8_ok : ∀ k, k < 17 → parseFieldDescriptor (TX8 k).2.2.1 = some (tyX8 k) := by decide +kernel
abbrev cX8_init : ByteArray := prog_10_method_1_code
def yX8_init : MethodName := ⟨RX8, "<init>", "()V"⟩
abbrev cX8_in : ByteArray := prog_10_method_2_code
def yX8_in : MethodName := ⟨RX8, "in", "(JJJ)Z"⟩
abbrev cX8_has : ByteArray := prog_10_method_3_code
def yX8_has : MethodName := ⟨RX8, "has", "(II)Z"⟩
abbrev cX8_bits : ByteArray := prog_10_method_4_code
def yX8_bits : MethodName := ⟨RX8, "bits", "(I)I"⟩
abbrev cX8_find : ByteArray := prog_10_method_5_code
def yX8_find : MethodName := ⟨RX8, "find", "(I)I"⟩
abbrev cX8_well : ByteArray := prog_10_method_6_code
def yX8_well : MethodName := ⟨RX8, "well", "(I)I"⟩
abbrev cX8_isRow : ByteArray := prog_10_method_7_code
def yX8_isRow : MethodName := ⟨RX8, "isRow", "(I)Z"⟩
abbrev cX8_row : ByteArray := prog_10_method_8_code
def yX8_row : MethodName := ⟨RX8, "row", "(III)I"⟩
abbrev cX8_narrow : ByteArray := prog_10_method_9_code
def yX8_narrow : MethodName := ⟨RX8, "narrow", "(II)I"⟩
abbrev cX8_set : ByteArray := prog_10_method_10_code
def yX8_set : MethodName := ⟨RX8, "set", "(III)I"⟩
abbrev cX8_isSpan : ByteArray := prog_10_method_11_code
def yX8_isSpan : MethodName := ⟨RX8, "isSpan", "(III)Z"⟩
abbrev cX8_copy : ByteArray := prog_10_method_12_code
def yX8_copy : MethodName := ⟨RX8, "copy", "(IIIII)I"⟩
abbrev cX8_drop : ByteArray := prog_10_method_13_code
def yX8_drop : MethodName := ⟨RX8, "drop", "(I)I"⟩
abbrev cX8_feed : ByteArray := prog_10_method_14_code
def yX8_feed : MethodName := ⟨RX8, "feed", "(I)I"⟩
abbrev cX8_isLetter : ByteArray := prog_10_method_15_code
def yX8_isLetter : MethodName := ⟨RX8, "isLetter", "(I)Z"⟩
abbrev cX8_isFigure : ByteArray := prog_10_method_16_code
def yX8_isFigure : MethodName := ⟨RX8, "isFigure", "(I)Z"⟩
abbrev cX8_refuse : ByteArray := prog_10_method_17_code
def yX8_refuse : MethodName := ⟨RX8, "refuse", "(I)Z"⟩
abbrev cX8_sign : ByteArray := prog_10_method_18_code
def yX8_sign : MethodName := ⟨RX8, "sign", "(I)Z"⟩
abbrev cX8_readsNumber : ByteArray := prog_10_method_19_code
def yX8_readsNumber : MethodName := ⟨RX8, "readsNumber", "(II)Z"⟩
abbrev cX8_readsLaw : ByteArray := prog_10_method_20_code
def yX8_readsLaw : MethodName := ⟨RX8, "readsLaw", "()Z"⟩
abbrev cX8_readsStreet : ByteArray := prog_10_method_21_code
def yX8_readsStreet : MethodName := ⟨RX8, "readsStreet", "()Z"⟩
abbrev cX8_kindOfLetter : ByteArray := prog_10_method_22_code
def yX8_kindOfLetter : MethodName := ⟨RX8, "kindOfLetter", "(I)I"⟩
abbrev cX8_readsGesture : ByteArray := prog_10_method_23_code
def yX8_readsGesture : MethodName := ⟨RX8, "readsGesture", "()Z"⟩
abbrev cX8_reads : ByteArray := prog_10_method_24_code
def yX8_reads : MethodName := ⟨RX8, "reads", "()Z"⟩
abbrev cX8_city : ByteArray := prog_10_method_25_code
def yX8_city : MethodName := ⟨RX8, "city", "()I"⟩
abbrev cX8_fault : ByteArray := prog_10_method_26_code
def yX8_fault : MethodName := ⟨RX8, "fault", "()I"⟩
abbrev cX8_copyTown : ByteArray := prog_10_method_27_code
def yX8_copyTown : MethodName := ⟨RX8, "copyTown", "(II)V"⟩
abbrev cX8_keepPast : ByteArray := prog_10_method_28_code
def yX8_keepPast : MethodName := ⟨RX8, "keepPast", "()V"⟩
abbrev cX8_undo : ByteArray := prog_10_method_29_code
def yX8_undo : MethodName := ⟨RX8, "undo", "()I"⟩
abbrev cX8_isGesture : ByteArray := prog_10_method_30_code
def yX8_isGesture : MethodName := ⟨RX8, "isGesture", "(I)Z"⟩
abbrev cX8_isStreet : ByteArray := prog_10_method_31_code
def yX8_isStreet : MethodName := ⟨RX8, "isStreet", "(I)Z"⟩
abbrev cX8_wave : ByteArray := prog_10_method_32_code
def yX8_wave : MethodName := ⟨RX8, "wave", "(II)I"⟩
abbrev cX8_plainDuty : ByteArray := prog_10_method_33_code
def yX8_plainDuty : MethodName := ⟨RX8, "plainDuty", "(III)I"⟩
abbrev cX8_owes : ByteArray := prog_10_method_34_code
def yX8_owes : MethodName := ⟨RX8, "owes", "(III)I"⟩
abbrev cX8_dutyOf : ByteArray := prog_10_method_35_code
def yX8_dutyOf : MethodName := ⟨RX8, "dutyOf", "(II)I"⟩
abbrev cX8_isSeen : ByteArray := prog_10_method_36_code
def yX8_isSeen : MethodName := ⟨RX8, "isSeen", "(II)Z"⟩
abbrev cX8_make : ByteArray := prog_10_method_37_code
def yX8_make : MethodName := ⟨RX8, "make", "(II)I"⟩
abbrev cX8_dim : ByteArray := prog_10_method_38_code
def yX8_dim : MethodName := ⟨RX8, "dim", "(II)I"⟩
abbrev cX8_train : ByteArray := prog_10_method_39_code
def yX8_train : MethodName := ⟨RX8, "train", "(II)I"⟩
abbrev cX8_know : ByteArray := prog_10_method_40_code
def yX8_know : MethodName := ⟨RX8, "know", "(II)I"⟩
abbrev cX8_seenStreets : ByteArray := prog_10_method_41_code
def yX8_seenStreets : MethodName := ⟨RX8, "seenStreets", "(I)I"⟩
abbrev cX8_seenGestures : ByteArray := prog_10_method_42_code
def yX8_seenGestures : MethodName := ⟨RX8, "seenGestures", "(I)I"⟩
abbrev cX8_gesture : ByteArray := prog_10_method_43_code
def yX8_gesture : MethodName := ⟨RX8, "gesture", "(II)I"⟩
abbrev cX8_street : ByteArray := prog_10_method_44_code
def yX8_street : MethodName := ⟨RX8, "street", "(II)I"⟩
abbrev cX8_duty : ByteArray := prog_10_method_45_code
def yX8_duty : MethodName := ⟨RX8, "duty", "(II)I"⟩
abbrev cX8_tells : ByteArray := prog_10_method_46_code
def yX8_tells : MethodName := ⟨RX8, "tells", "(III)Z"⟩
abbrev cX8_onBy : ByteArray := prog_10_method_47_code
def yX8_onBy : MethodName := ⟨RX8, "onBy", "(IIII)I"⟩
abbrev cX8_layCosts : ByteArray := prog_10_method_48_code
def yX8_layCosts : MethodName := ⟨RX8, "layCosts", "(III)V"⟩
abbrev cX8_isMeans : ByteArray := prog_10_method_49_code
def yX8_isMeans : MethodName := ⟨RX8, "isMeans", "(I)Z"⟩
abbrev cX8_areStreets : ByteArray := prog_10_method_50_code
def yX8_areStreets : MethodName := ⟨RX8, "areStreets", "(II)Z"⟩
abbrev cX8_tell : ByteArray := prog_10_method_51_code
def yX8_tell : MethodName := ⟨RX8, "tell", "(IIIII)I"⟩
abbrev cX8_soonest : ByteArray := prog_10_method_52_code
def yX8_soonest : MethodName := ⟨RX8, "soonest", "(II)I"⟩
abbrev cX8_shut : ByteArray := prog_10_method_53_code
def yX8_shut : MethodName := ⟨RX8, "shut", "(I)I"⟩
abbrev cX8_quick : ByteArray := prog_10_method_54_code
def yX8_quick : MethodName := ⟨RX8, "quick", "(III)I"⟩
abbrev cX8_noPairs : ByteArray := prog_10_method_55_code
def yX8_noPairs : MethodName := ⟨RX8, "noPairs", "(III)I"⟩
abbrev cX8_owesSo : ByteArray := prog_10_method_56_code
def yX8_owesSo : MethodName := ⟨RX8, "owesSo", "(IIIII)Z"⟩
abbrev cX8_isSeenSo : ByteArray := prog_10_method_57_code
def yX8_isSeenSo : MethodName := ⟨RX8, "isSeenSo", "(IIII)Z"⟩
abbrev cX8_thread : ByteArray := prog_10_method_58_code
def yX8_thread : MethodName := ⟨RX8, "thread", "(III)I"⟩
abbrev cX8_inches : ByteArray := prog_10_method_59_code
def yX8_inches : MethodName := ⟨RX8, "inches", "(IIII)I"⟩
abbrev cX8_sorts : ByteArray := prog_10_method_60_code
def yX8_sorts : MethodName := ⟨RX8, "sorts", "(IIII)I"⟩
abbrev cX8_saved : ByteArray := prog_10_method_61_code
def yX8_saved : MethodName := ⟨RX8, "saved", "(I)I"⟩
abbrev cX8_worst : ByteArray := prog_10_method_62_code
def yX8_worst : MethodName := ⟨RX8, "worst", "(II)I"⟩
abbrev cX8_tremble : ByteArray := prog_10_method_63_code
def yX8_tremble : MethodName := ⟨RX8, "tremble", "(IIIIII)I"⟩
abbrev cX8_image : ByteArray := prog_10_method_64_code
def yX8_image : MethodName := ⟨RX8, "image", "(I)I"⟩
abbrev cX8_restore : ByteArray := prog_10_method_65_code
def yX8_restore : MethodName := ⟨RX8, "restore", "(I)I"⟩
abbrev cX8_kind : ByteArray := prog_10_method_66_code
def yX8_kind : MethodName := ⟨RX8, "kind", "(I)I"⟩
abbrev cX8_isOf : ByteArray := prog_10_method_67_code
def yX8_isOf : MethodName := ⟨RX8, "isOf", "(II)Z"⟩
abbrev cX8_as : ByteArray := prog_10_method_68_code
def yX8_as : MethodName := ⟨RX8, "as", "(II)I"⟩
abbrev cX8_begin : ByteArray := prog_10_method_69_code
def yX8_begin : MethodName := ⟨RX8, "begin", "(I)V"⟩
abbrev cX8_lentSize : ByteArray := prog_10_method_70_code
def yX8_lentSize : MethodName := ⟨RX8, "lentSize", "(I)I"⟩
abbrev cX8_wavesSize : ByteArray := prog_10_method_71_code
def yX8_wavesSize : MethodName := ⟨RX8, "wavesSize", "(I)I"⟩
abbrev cX8_winksSize : ByteArray := prog_10_method_72_code
def yX8_winksSize : MethodName := ⟨RX8, "winksSize", "(I)I"⟩
abbrev cX8_sizeOf : ByteArray := prog_10_method_73_code
def yX8_sizeOf : MethodName := ⟨RX8, "sizeOf", "(I)I"⟩
abbrev cX8_lentMark : ByteArray := prog_10_method_74_code
def yX8_lentMark : MethodName := ⟨RX8, "lentMark", "(I)I"⟩
abbrev cX8_wavesMark : ByteArray := prog_10_method_75_code
def yX8_wavesMark : MethodName := ⟨RX8, "wavesMark", "(I)I"⟩
abbrev cX8_mark : ByteArray := prog_10_method_76_code
def yX8_mark : MethodName := ⟨RX8, "mark", "(I)I"⟩
abbrev cX8_winksMark : ByteArray := prog_10_method_77_code
def yX8_winksMark : MethodName := ⟨RX8, "winksMark", "(I)I"⟩
abbrev cX8_ask : ByteArray := prog_10_method_78_code
def yX8_ask : MethodName := ⟨RX8, "ask", "(II)I"⟩
abbrev cX8_trace : ByteArray := prog_10_method_79_code
def yX8_trace : MethodName := ⟨RX8, "trace", "(I)I"⟩
abbrev cX8_count : ByteArray := prog_10_method_80_code
def yX8_count : MethodName := ⟨RX8, "count", "(I)I"⟩
abbrev cX8_status : ByteArray := prog_10_method_81_code
def yX8_status : MethodName := ⟨RX8, "status", "()I"⟩
def RJ6 : String := "java/lang/Integer"
def TJ6 : u_T := fun k => match k with
  | _ => ("", "", "", false)
def tyJ6 : Nat → FieldType := fun k => match k with
  | _ => .int
abbrev wsJ60 : List Cond := u_ws RJ6 TJ6 0
theorem nmJ6 : ∀ a, a < 0 → ∀ b, b < 0 → a ≠ b → (TJ6 a).2.1 ≠ (TJ6 b).2.1 := by decide +kernel
theorem tyJ6_ok : ∀ k, k < 0 → parseFieldDescriptor (TJ6 k).2.2.1 = some (tyJ6 k) := by decide +kernel
abbrev cJ6_bitCount_0f7a4 : ByteArray := prog_11_method_49_code
def yJ6_bitCount_0f7a4 : MethodName := ⟨RJ6, "bitCount", "(I)I"⟩
def RJ9 : String := "java/lang/Math"
def TJ9 : u_T := fun k => match k with
  | _ => ("", "", "", false)
def tyJ9 : Nat → FieldType := fun k => match k with
  | _ => .int
abbrev wsJ90 : List Cond := u_ws RJ9 TJ9 0
theorem nmJ9 : ∀ a, a < 0 → ∀ b, b < 0 → a ≠ b → (TJ9 a).2.1 ≠ (TJ9 b).2.1 := by decide +kernel
theorem tyJ9_ok : ∀ k, k < 0 → parseFieldDescriptor (TJ9 k).2.2.1 = some (tyJ9 k) := by decide +kernel
abbrev cJ9_max_7cf53 : ByteArray := prog_12_method_65_code
def yJ9_max_7cf53 : MethodName := ⟨RJ9, "max", "(II)I"⟩
abbrev cJ9_min_7cf53 : ByteArray := prog_12_method_69_code
def yJ9_min_7cf53 : MethodName := ⟨RJ9, "min", "(II)I"⟩
def RJ10 : String := "java/lang/System"
def TJ10 : u_T := fun k => match k with
  | _ => ("", "", "", false)
def tyJ10 : Nat → FieldType := fun k => match k with
  | _ => .int
abbrev wsJ100 : List Cond := u_ws RJ10 TJ10 0
theorem nmJ10 : ∀ a, a < 0 → ∀ b, b < 0 → a ≠ b → (TJ10 a).2.1 ≠ (TJ10 b).2.1 := by decide +kernel
theorem tyJ10_ok : ∀ k, k < 0 → parseFieldDescriptor (TJ10 k).2.2.1 = some (tyJ10 k) := by decide +kernel
def RL : String := "SignDutyLaw"
abbrev cL_law : ByteArray := code
def yL_law : MethodName := ⟨RL, "law", "([I)Z"⟩
def wsX0_init : List Cond := .code yX0_init cX0_init 1 none :: ([.methodLink RX0 1 objectInit, .instanceMethod objectInit, .code objectInit ⟨#[0xb1]⟩ 1 none, .arrayClass .int, .fieldLink RX0 9 "SignDuty$Acts" "deeds" "[I", .fieldLink RX0 13 "SignDuty$Acts" "whats" "[I", .fieldLink RX0 16 "SignDuty$Acts" "values" "[I", .fieldLink RX0 19 "SignDuty$Acts" "nextSlot" "I", .fieldLink RX0 23 "SignDuty$Acts" "kept" "I"] ++ wsX00)
def wsX0_forgetAll : List Cond := .code yX0_forgetAll cX0_forgetAll 1 none :: ([.fieldLink RX0 23 "SignDuty$Acts" "kept" "I"] ++ wsX00)
def wsX0_keep : List Cond := .code yX0_keep cX0_keep 4 none :: ([.fieldLink RX0 9 "SignDuty$Acts" "deeds" "[I", .fieldLink RX0 19 "SignDuty$Acts" "nextSlot" "I", .fieldLink RX0 13 "SignDuty$Acts" "whats" "[I", .fieldLink RX0 16 "SignDuty$Acts" "values" "[I", .fieldLink RX0 23 "SignDuty$Acts" "kept" "I", .methodLink RX0 26 Lib.Math.min.name, .static Lib.Math.min.name, .initialized "java/lang/Math", .code Lib.Math.min.name Lib.Math.min.code 2 (some .int)] ++ wsX00)
def wsX2_turnKnown : List Cond := .code yX2_turnKnown cX2_turnKnown 2 none :: ([.fieldLink RX2 25 "SignDuty$City" "known" "I"] ++ wsX20)
def wsX0_takeBack : List Cond := .code yX0_takeBack cX0_takeBack 4 none :: ([.fieldLink RX0 19 "SignDuty$Acts" "nextSlot" "I", .fieldLink RX0 23 "SignDuty$Acts" "kept" "I", .fieldLink RX0 13 "SignDuty$Acts" "whats" "[I", .fieldLink RX0 16 "SignDuty$Acts" "values" "[I", .fieldLink RX0 9 "SignDuty$Acts" "deeds" "[I", .fieldLink RX0 32 "SignDuty$City" "made" "[I", .fieldLink RX0 37 "SignDuty$City" "paid" "I", .fieldLink RX0 40 "SignDuty$City" "dim" "[I", .fieldLink RX0 43 "SignDuty$City" "inches" "[I", .methodLink RX0 46 yX2_turnKnown, .instanceMethod yX2_turnKnown, .selects RX2 yX2_turnKnown yX2_turnKnown, .initialized RX2, .code yX2_turnKnown cX2_turnKnown 2 none, .fieldLink RX2 25 "SignDuty$City" "known" "I"] ++ wsX00 ++ wsX20)
def wsX1_init : List Cond := .code yX1_init cX1_init 1 none :: ([.methodLink RX1 3 objectInit, .instanceMethod objectInit, .code objectInit ⟨#[0xb1]⟩ 1 none, .arrayClass .int, .fieldLink RX1 11 "SignDuty$Asks" "numbers" "[I", .fieldLink RX1 15 "SignDuty$Asks" "left" "I"] ++ wsX10)
def wsX3_widerThan : List Cond := .code yX3_widerThan cX3_widerThan 1 (some .int) :: ([.fieldLink RX3 7 "SignDuty$Kinds" "WIDER" "[I"])
def wsX1_bodyFor : List Cond := .code yX1_bodyFor cX1_bodyFor 4 (some .int) :: ([.methodLink RX1 43 yX3_widerThan, .static yX3_widerThan, .initialized RX3, .code yX3_widerThan cX3_widerThan 1 (some .int), .fieldLink RX3 7 "SignDuty$Kinds" "WIDER" "[I"])
def wsX1_leave : List Cond := .code yX1_leave cX1_leave 2 none :: ([.fieldLink RX1 15 "SignDuty$Asks" "left" "I", .fieldLink RX1 11 "SignDuty$Asks" "numbers" "[I"] ++ wsX10)
def wsX1_asked_r1 : List Cond := [Cond.fieldLink RX1 24 "SignDuty$Asks" "SIZE_BODIES" "[I", Cond.fieldLink RX1 27 "SignDuty$Asks" "MARK_BODIES" "[I", Cond.fieldLink RX1 30 "SignDuty$City" "kind" "[I", Cond.methodLink RX1 35 yX1_bodyFor, Cond.static yX1_bodyFor, Cond.initialized RX1, Cond.code yX1_bodyFor cX1_bodyFor 4 (some .int), Cond.methodLink RX1 43 yX3_widerThan, Cond.static yX3_widerThan, Cond.initialized RX3, Cond.code yX3_widerThan cX3_widerThan 1 (some .int), Cond.fieldLink RX3 7 "SignDuty$Kinds" "WIDER" "[I", Cond.methodLink RX1 39 yX1_given, Cond.instanceMethod yX1_given, Cond.selects RX1 yX1_given yX1_given, Cond.code yX1_given cX1_given 6 (some .int), Cond.fieldLink RX1 53 "SignDuty$City" "takes" "[I", Cond.fieldLink RX1 56 "SignDuty$City" "inches" "[I", Cond.methodLink RX1 49 yX1_leave, Cond.instanceMethod yX1_leave, Cond.selects RX1 yX1_leave yX1_leave, Cond.code yX1_leave cX1_leave 2 none, Cond.fieldLink RX1 15 "SignDuty$Asks" "left" "I", Cond.fieldLink RX1 11 "SignDuty$Asks" "numbers" "[I"]
def wsX1_asked_r2 : List Cond := [Cond.methodLink RX1 19 yX1_asked, Cond.instanceMethod yX1_asked, Cond.selects RX1 yX1_asked yX1_asked]
def wsX1_asked : List Cond := .code yX1_asked cX1_asked 6 (some .int) :: ((wsX1_asked_r1 ++ wsX1_asked_r2) ++ wsX20 ++ wsX10)
def wsX1_given_r1 : List Cond := [Cond.fieldLink RX1 53 "SignDuty$City" "takes" "[I", Cond.fieldLink RX1 56 "SignDuty$City" "inches" "[I", Cond.methodLink RX1 49 yX1_leave, Cond.instanceMethod yX1_leave, Cond.selects RX1 yX1_leave yX1_leave, Cond.initialized RX1, Cond.code yX1_leave cX1_leave 2 none, Cond.fieldLink RX1 15 "SignDuty$Asks" "left" "I", Cond.fieldLink RX1 11 "SignDuty$Asks" "numbers" "[I", Cond.methodLink RX1 39 yX1_given, Cond.instanceMethod yX1_given, Cond.selects RX1 yX1_given yX1_given, Cond.methodLink RX1 19 yX1_asked, Cond.instanceMethod yX1_asked, Cond.selects RX1 yX1_asked yX1_asked, Cond.code yX1_asked cX1_asked 6 (some .int), Cond.fieldLink RX1 24 "SignDuty$Asks" "SIZE_BODIES" "[I", Cond.fieldLink RX1 27 "SignDuty$Asks" "MARK_BODIES" "[I", Cond.fieldLink RX1 30 "SignDuty$City" "kind" "[I", Cond.methodLink RX1 35 yX1_bodyFor, Cond.static yX1_bodyFor, Cond.code yX1_bodyFor cX1_bodyFor 4 (some .int), Cond.methodLink RX1 43 yX3_widerThan, Cond.static yX3_widerThan]
def wsX1_given_r2 : List Cond := [Cond.initialized RX3, Cond.code yX3_widerThan cX3_widerThan 1 (some .int), Cond.fieldLink RX3 7 "SignDuty$Kinds" "WIDER" "[I"]
def wsX1_given : List Cond := .code yX1_given cX1_given 6 (some .int) :: ((wsX1_given_r1 ++ wsX1_given_r2) ++ wsX20 ++ wsX10)
def wsX1_answer_r1 : List Cond := [Cond.fieldLink RX1 15 "SignDuty$Asks" "left" "I", Cond.methodLink RX1 19 yX1_asked, Cond.instanceMethod yX1_asked, Cond.selects RX1 yX1_asked yX1_asked, Cond.initialized RX1, Cond.code yX1_asked cX1_asked 6 (some .int), Cond.fieldLink RX1 24 "SignDuty$Asks" "SIZE_BODIES" "[I", Cond.fieldLink RX1 27 "SignDuty$Asks" "MARK_BODIES" "[I", Cond.fieldLink RX1 30 "SignDuty$City" "kind" "[I", Cond.methodLink RX1 35 yX1_bodyFor, Cond.static yX1_bodyFor, Cond.code yX1_bodyFor cX1_bodyFor 4 (some .int), Cond.methodLink RX1 43 yX3_widerThan, Cond.static yX3_widerThan, Cond.initialized RX3, Cond.code yX3_widerThan cX3_widerThan 1 (some .int), Cond.fieldLink RX3 7 "SignDuty$Kinds" "WIDER" "[I", Cond.methodLink RX1 39 yX1_given, Cond.instanceMethod yX1_given, Cond.selects RX1 yX1_given yX1_given, Cond.code yX1_given cX1_given 6 (some .int), Cond.fieldLink RX1 53 "SignDuty$City" "takes" "[I", Cond.fieldLink RX1 56 "SignDuty$City" "inches" "[I", Cond.methodLink RX1 49 yX1_leave]
def wsX1_answer_r2 : List Cond := [Cond.instanceMethod yX1_leave, Cond.selects RX1 yX1_leave yX1_leave, Cond.code yX1_leave cX1_leave 2 none, Cond.fieldLink RX1 11 "SignDuty$Asks" "numbers" "[I"]
def wsX1_answer : List Cond := .code yX1_answer cX1_answer 4 (some .int) :: ((wsX1_answer_r1 ++ wsX1_answer_r2) ++ wsX10 ++ wsX20)
def wsX1_numberLeft : List Cond := .code yX1_numberLeft cX1_numberLeft 2 (some .int) :: ([.fieldLink RX1 15 "SignDuty$Asks" "left" "I", .fieldLink RX1 11 "SignDuty$Asks" "numbers" "[I", .constant RX1 23 (-1000000)] ++ wsX10)
def wsX2_init : List Cond := .code yX2_init cX2_init 1 none :: ([.methodLink RX2 3 objectInit, .instanceMethod objectInit, .code objectInit ⟨#[0xb1]⟩ 1 none, .fieldLink RX2 9 "SignDuty$City" "stands" "Z", .fieldLink RX2 15 "SignDuty$City" "rate" "I", .fieldLink RX2 19 "SignDuty$City" "paid" "I", .fieldLink RX2 22 "SignDuty$City" "streets" "I", .fieldLink RX2 25 "SignDuty$City" "known" "I", .fieldLink RX2 28 "SignDuty$City" "gestures" "I", .arrayClass .int, .fieldLink RX2 31 "SignDuty$City" "dim" "[I", .fieldLink RX2 35 "SignDuty$City" "strict" "[I", .fieldLink RX2 38 "SignDuty$City" "kind" "[I", .fieldLink RX2 41 "SignDuty$City" "inches" "[I", .fieldLink RX2 44 "SignDuty$City" "means" "[I", .fieldLink RX2 47 "SignDuty$City" "takes" "[I", .fieldLink RX2 50 "SignDuty$City" "made" "[I"] ++ wsX20)
def wsX2_begin : List Cond := .code yX2_begin cX2_begin 2 none :: ([.fieldLink RX2 9 "SignDuty$City" "stands" "Z", .fieldLink RX2 15 "SignDuty$City" "rate" "I", .fieldLink RX2 19 "SignDuty$City" "paid" "I", .fieldLink RX2 22 "SignDuty$City" "streets" "I", .fieldLink RX2 25 "SignDuty$City" "known" "I", .fieldLink RX2 28 "SignDuty$City" "gestures" "I"] ++ wsX20)
def wsX2_become : List Cond := .code yX2_become cX2_become 2 none :: ([.fieldLink RX2 9 "SignDuty$City" "stands" "Z", .fieldLink RX2 15 "SignDuty$City" "rate" "I", .fieldLink RX2 19 "SignDuty$City" "paid" "I", .fieldLink RX2 22 "SignDuty$City" "streets" "I", .fieldLink RX2 25 "SignDuty$City" "known" "I", .fieldLink RX2 28 "SignDuty$City" "gestures" "I", .fieldLink RX2 31 "SignDuty$City" "dim" "[I", .methodLink RX2 53 arraycopyName, .native arraycopyName, .static arraycopyName, .initialized "java/lang/System", .fieldLink RX2 35 "SignDuty$City" "strict" "[I", .fieldLink RX2 38 "SignDuty$City" "kind" "[I", .fieldLink RX2 41 "SignDuty$City" "inches" "[I", .fieldLink RX2 44 "SignDuty$City" "means" "[I", .fieldLink RX2 47 "SignDuty$City" "takes" "[I", .fieldLink RX2 50 "SignDuty$City" "made" "[I"] ++ wsX20)
def wsX2_isKnown : List Cond := .code yX2_isKnown cX2_isKnown 2 (some .boolean) :: ([.fieldLink RX2 25 "SignDuty$City" "known" "I"] ++ wsX20)
def wsX2_owesUnknown : List Cond := .code yX2_owesUnknown cX2_owesUnknown 5 (some .int) :: ([.fieldLink RX2 15 "SignDuty$City" "rate" "I", .fieldLink RX2 35 "SignDuty$City" "strict" "[I", .methodLink RX2 70 Lib.Math.max.name, .static Lib.Math.max.name, .initialized "java/lang/Math", .code Lib.Math.max.name Lib.Math.max.code 2 (some .int)] ++ wsX20)
def wsX2_owesSuch : List Cond := .code yX2_owesSuch cX2_owesSuch 5 (some .int) :: ([.methodLink RX2 63 yX2_owesUnknown, .instanceMethod yX2_owesUnknown, .selects RX2 yX2_owesUnknown yX2_owesUnknown, .initialized RX2, .code yX2_owesUnknown cX2_owesUnknown 5 (some .int), .fieldLink RX2 15 "SignDuty$City" "rate" "I", .fieldLink RX2 35 "SignDuty$City" "strict" "[I", .methodLink RX2 70 Lib.Math.max.name, .static Lib.Math.max.name, .initialized "java/lang/Math", .code Lib.Math.max.name Lib.Math.max.code 2 (some .int), .methodLink RX2 66 yX2_isKnown, .instanceMethod yX2_isKnown, .selects RX2 yX2_isKnown yX2_isKnown, .code yX2_isKnown cX2_isKnown 2 (some .boolean), .fieldLink RX2 25 "SignDuty$City" "known" "I"] ++ wsX20)
def wsX2_owes : List Cond := .code yX2_owes cX2_owes 3 (some .int) :: ([.fieldLink RX2 38 "SignDuty$City" "kind" "[I", .fieldLink RX2 41 "SignDuty$City" "inches" "[I", .methodLink RX2 59 yX2_owesSuch, .instanceMethod yX2_owesSuch, .selects RX2 yX2_owesSuch yX2_owesSuch, .initialized RX2, .code yX2_owesSuch cX2_owesSuch 5 (some .int), .methodLink RX2 63 yX2_owesUnknown, .instanceMethod yX2_owesUnknown, .selects RX2 yX2_owesUnknown yX2_owesUnknown, .code yX2_owesUnknown cX2_owesUnknown 5 (some .int), .fieldLink RX2 15 "SignDuty$City" "rate" "I", .fieldLink RX2 35 "SignDuty$City" "strict" "[I", .methodLink RX2 70 Lib.Math.max.name, .static Lib.Math.max.name, .initialized "java/lang/Math", .code Lib.Math.max.name Lib.Math.max.code 2 (some .int), .methodLink RX2 66 yX2_isKnown, .instanceMethod yX2_isKnown, .selects RX2 yX2_isKnown yX2_isKnown, .code yX2_isKnown cX2_isKnown 2 (some .boolean), .fieldLink RX2 25 "SignDuty$City" "known" "I"] ++ wsX20)
def wsX2_owesIfKnown : List Cond := .code yX2_owesIfKnown cX2_owesIfKnown 3 (some .int) :: ([.fieldLink RX2 38 "SignDuty$City" "kind" "[I", .fieldLink RX2 41 "SignDuty$City" "inches" "[I", .methodLink RX2 63 yX2_owesUnknown, .instanceMethod yX2_owesUnknown, .selects RX2 yX2_owesUnknown yX2_owesUnknown, .initialized RX2, .code yX2_owesUnknown cX2_owesUnknown 5 (some .int), .fieldLink RX2 15 "SignDuty$City" "rate" "I", .fieldLink RX2 35 "SignDuty$City" "strict" "[I", .methodLink RX2 70 Lib.Math.max.name, .static Lib.Math.max.name, .initialized "java/lang/Math", .code Lib.Math.max.name Lib.Math.max.code 2 (some .int)] ++ wsX20)
def wsX2_isSeen : List Cond := .code yX2_isSeen cX2_isSeen 4 (some .boolean) :: ([.fieldLink RX2 38 "SignDuty$City" "kind" "[I", .fieldLink RX2 41 "SignDuty$City" "inches" "[I", .fieldLink RX2 31 "SignDuty$City" "dim" "[I"] ++ wsX20)
def wsX2_tells : List Cond := .code yX2_tells cX2_tells 4 (some .boolean) :: ([.fieldLink RX2 44 "SignDuty$City" "means" "[I", .methodLink RX2 78 yX2_isSeen, .instanceMethod yX2_isSeen, .selects RX2 yX2_isSeen yX2_isSeen, .initialized RX2, .code yX2_isSeen cX2_isSeen 4 (some .boolean), .fieldLink RX2 38 "SignDuty$City" "kind" "[I", .fieldLink RX2 41 "SignDuty$City" "inches" "[I", .fieldLink RX2 31 "SignDuty$City" "dim" "[I"] ++ wsX20)
def wsX2_streetsThatSee : List Cond := .code yX2_streetsThatSee cX2_streetsThatSee 4 (some .int) :: ([.fieldLink RX2 22 "SignDuty$City" "streets" "I", .methodLink RX2 78 yX2_isSeen, .instanceMethod yX2_isSeen, .selects RX2 yX2_isSeen yX2_isSeen, .initialized RX2, .code yX2_isSeen cX2_isSeen 4 (some .boolean), .fieldLink RX2 38 "SignDuty$City" "kind" "[I", .fieldLink RX2 41 "SignDuty$City" "inches" "[I", .fieldLink RX2 31 "SignDuty$City" "dim" "[I"] ++ wsX20)
def wsX2_gesturesSeenIn : List Cond := .code yX2_gesturesSeenIn cX2_gesturesSeenIn 4 (some .int) :: ([.fieldLink RX2 28 "SignDuty$City" "gestures" "I", .methodLink RX2 78 yX2_isSeen, .instanceMethod yX2_isSeen, .selects RX2 yX2_isSeen yX2_isSeen, .initialized RX2, .code yX2_isSeen cX2_isSeen 4 (some .boolean), .fieldLink RX2 38 "SignDuty$City" "kind" "[I", .fieldLink RX2 41 "SignDuty$City" "inches" "[I", .fieldLink RX2 31 "SignDuty$City" "dim" "[I"] ++ wsX20)
def wsX2_leastTime : List Cond := .code yX2_leastTime cX2_leastTime 5 (some .int) :: ([.constant RX2 85 (-1000000), .fieldLink RX2 28 "SignDuty$City" "gestures" "I", .fieldLink RX2 47 "SignDuty$City" "takes" "[I", .methodLink RX2 86 yX2_tells, .instanceMethod yX2_tells, .selects RX2 yX2_tells yX2_tells, .initialized RX2, .code yX2_tells cX2_tells 4 (some .boolean), .fieldLink RX2 44 "SignDuty$City" "means" "[I", .methodLink RX2 78 yX2_isSeen, .instanceMethod yX2_isSeen, .selects RX2 yX2_isSeen yX2_isSeen, .code yX2_isSeen cX2_isSeen 4 (some .boolean), .fieldLink RX2 38 "SignDuty$City" "kind" "[I", .fieldLink RX2 41 "SignDuty$City" "inches" "[I", .fieldLink RX2 31 "SignDuty$City" "dim" "[I"] ++ wsX20)
def wsX2_streetsWithout : List Cond := .code yX2_streetsWithout cX2_streetsWithout 4 (some .int) :: ([.fieldLink RX2 22 "SignDuty$City" "streets" "I", .constant RX2 85 (-1000000), .methodLink RX2 82 yX2_leastTime, .instanceMethod yX2_leastTime, .selects RX2 yX2_leastTime yX2_leastTime, .initialized RX2, .code yX2_leastTime cX2_leastTime 5 (some .int), .fieldLink RX2 28 "SignDuty$City" "gestures" "I", .fieldLink RX2 47 "SignDuty$City" "takes" "[I", .methodLink RX2 86 yX2_tells, .instanceMethod yX2_tells, .selects RX2 yX2_tells yX2_tells, .code yX2_tells cX2_tells 4 (some .boolean), .fieldLink RX2 44 "SignDuty$City" "means" "[I", .methodLink RX2 78 yX2_isSeen, .instanceMethod yX2_isSeen, .selects RX2 yX2_isSeen yX2_isSeen, .code yX2_isSeen cX2_isSeen 4 (some .boolean), .fieldLink RX2 38 "SignDuty$City" "kind" "[I", .fieldLink RX2 41 "SignDuty$City" "inches" "[I", .fieldLink RX2 31 "SignDuty$City" "dim" "[I"] ++ wsX20)
def wsX2_dearestStreet_r1 : List Cond := [Cond.fieldLink RX2 22 "SignDuty$City" "streets" "I", Cond.methodLink RX2 90 yX2_owes, Cond.instanceMethod yX2_owes, Cond.selects RX2 yX2_owes yX2_owes, Cond.initialized RX2, Cond.code yX2_owes cX2_owes 3 (some .int), Cond.fieldLink RX2 38 "SignDuty$City" "kind" "[I", Cond.fieldLink RX2 41 "SignDuty$City" "inches" "[I", Cond.methodLink RX2 59 yX2_owesSuch, Cond.instanceMethod yX2_owesSuch, Cond.selects RX2 yX2_owesSuch yX2_owesSuch, Cond.code yX2_owesSuch cX2_owesSuch 5 (some .int), Cond.methodLink RX2 63 yX2_owesUnknown, Cond.instanceMethod yX2_owesUnknown, Cond.selects RX2 yX2_owesUnknown yX2_owesUnknown, Cond.code yX2_owesUnknown cX2_owesUnknown 5 (some .int), Cond.fieldLink RX2 15 "SignDuty$City" "rate" "I", Cond.fieldLink RX2 35 "SignDuty$City" "strict" "[I", Cond.methodLink RX2 70 Lib.Math.max.name, Cond.static Lib.Math.max.name, Cond.initialized "java/lang/Math", Cond.code Lib.Math.max.name Lib.Math.max.code 2 (some .int), Cond.methodLink RX2 66 yX2_isKnown, Cond.instanceMethod yX2_isKnown]
def wsX2_dearestStreet_r2 : List Cond := [Cond.selects RX2 yX2_isKnown yX2_isKnown, Cond.code yX2_isKnown cX2_isKnown 2 (some .boolean), Cond.fieldLink RX2 25 "SignDuty$City" "known" "I"]
def wsX2_dearestStreet : List Cond := .code yX2_dearestStreet cX2_dearestStreet 4 (some .int) :: ((wsX2_dearestStreet_r1 ++ wsX2_dearestStreet_r2) ++ wsX20)
def wsX3_isOneOf : List Cond := .code yX3_isOneOf cX3_isOneOf 4 (some .boolean) :: ([.fieldLink RX3 7 "SignDuty$Kinds" "WIDER" "[I", .methodLink RX3 13 yX3_widerThan, .static yX3_widerThan, .initialized RX3, .code yX3_widerThan cX3_widerThan 1 (some .int)])
def wsX3_ofLetter : List Cond := .code yX3_ofLetter cX3_ofLetter 1 (some .int) :: ([])
def wsX4_init : List Cond := .code yX4_init cX4_init 1 none :: ([.methodLink RX4 3 objectInit, .instanceMethod objectInit, .code objectInit ⟨#[0xb1]⟩ 1 none, .arrayClass .int, .fieldLink RX4 11 "SignDuty$Reader" "tape" "[I", .fieldLink RX4 15 "SignDuty$Reader" "length" "I", .fieldLink RX4 19 "SignDuty$Reader" "lastFault" "I", .fieldLink RX4 22 "SignDuty$Reader" "faultPlace" "I", .fieldLink RX4 25 "SignDuty$Reader" "fault" "I", .fieldLink RX4 28 "SignDuty$Reader" "at" "I"] ++ wsX40)
def wsX4_isFull : List Cond := .code yX4_isFull cX4_isFull 1 (some .boolean) :: ([.fieldLink RX4 15 "SignDuty$Reader" "length" "I"] ++ wsX40)
def wsX4_append : List Cond := .code yX4_append cX4_append 2 (some .int) :: ([.fieldLink RX4 11 "SignDuty$Reader" "tape" "[I", .fieldLink RX4 15 "SignDuty$Reader" "length" "I", .methodLink RX4 31 yX4_isFull, .instanceMethod yX4_isFull, .selects RX4 yX4_isFull yX4_isFull, .initialized RX4, .code yX4_isFull cX4_isFull 1 (some .boolean)] ++ wsX40)
def wsX4_next : List Cond := .code yX4_next cX4_next 1 (some .int) :: ([.fieldLink RX4 28 "SignDuty$Reader" "at" "I", .fieldLink RX4 15 "SignDuty$Reader" "length" "I", .fieldLink RX4 11 "SignDuty$Reader" "tape" "[I"] ++ wsX40)
def wsX4_failAt : List Cond := .code yX4_failAt cX4_failAt 3 none :: ([.fieldLink RX4 25 "SignDuty$Reader" "fault" "I", .fieldLink RX4 19 "SignDuty$Reader" "lastFault" "I", .fieldLink RX4 22 "SignDuty$Reader" "faultPlace" "I"] ++ wsX40)
def wsX4_fail : List Cond := .code yX4_fail cX4_fail 2 none :: ([.fieldLink RX4 28 "SignDuty$Reader" "at" "I", .methodLink RX4 102 yX4_failAt, .instanceMethod yX4_failAt, .selects RX4 yX4_failAt yX4_failAt, .initialized RX4, .code yX4_failAt cX4_failAt 3 none, .fieldLink RX4 25 "SignDuty$Reader" "fault" "I", .fieldLink RX4 19 "SignDuty$Reader" "lastFault" "I", .fieldLink RX4 22 "SignDuty$Reader" "faultPlace" "I"] ++ wsX40)
def wsX4_readSign : List Cond := .code yX4_readSign cX4_readSign 2 none :: ([.fieldLink RX4 28 "SignDuty$Reader" "at" "I", .methodLink RX4 39 yX4_next, .instanceMethod yX4_next, .selects RX4 yX4_next yX4_next, .initialized RX4, .code yX4_next cX4_next 1 (some .int), .fieldLink RX4 15 "SignDuty$Reader" "length" "I", .fieldLink RX4 11 "SignDuty$Reader" "tape" "[I", .methodLink RX4 55 yX4_fail, .instanceMethod yX4_fail, .selects RX4 yX4_fail yX4_fail, .code yX4_fail cX4_fail 2 none, .methodLink RX4 102 yX4_failAt, .instanceMethod yX4_failAt, .selects RX4 yX4_failAt yX4_failAt, .code yX4_failAt cX4_failAt 3 none, .fieldLink RX4 25 "SignDuty$Reader" "fault" "I", .fieldLink RX4 19 "SignDuty$Reader" "lastFault" "I", .fieldLink RX4 22 "SignDuty$Reader" "faultPlace" "I"] ++ wsX40)
def wsX7_isWithin : List Cond := .code yX7_isWithin cX7_isWithin 3 (some .boolean) :: ([])
def wsX4_readNumber : List Cond := .code yX4_readNumber cX4_readNumber 7 (some .int) :: ([.fieldLink RX4 28 "SignDuty$Reader" "at" "I", .methodLink RX4 39 yX4_next, .instanceMethod yX4_next, .selects RX4 yX4_next yX4_next, .initialized RX4, .code yX4_next cX4_next 1 (some .int), .fieldLink RX4 15 "SignDuty$Reader" "length" "I", .fieldLink RX4 11 "SignDuty$Reader" "tape" "[I", .static yX7_isWithin, .initialized RX7, .code yX7_isWithin cX7_isWithin 3 (some .boolean), .methodLink RX4 102 yX4_failAt, .instanceMethod yX4_failAt, .selects RX4 yX4_failAt yX4_failAt, .code yX4_failAt cX4_failAt 3 none, .fieldLink RX4 25 "SignDuty$Reader" "fault" "I", .fieldLink RX4 19 "SignDuty$Reader" "lastFault" "I", .fieldLink RX4 22 "SignDuty$Reader" "faultPlace" "I"] ++ wsX40)
def wsX4_readLaw_r1 : List Cond := [Cond.methodLink RX4 59 yX4_readSign, Cond.instanceMethod yX4_readSign, Cond.selects RX4 yX4_readSign yX4_readSign, Cond.initialized RX4, Cond.code yX4_readSign cX4_readSign 2 none, Cond.fieldLink RX4 28 "SignDuty$Reader" "at" "I", Cond.methodLink RX4 39 yX4_next, Cond.instanceMethod yX4_next, Cond.selects RX4 yX4_next yX4_next, Cond.code yX4_next cX4_next 1 (some .int), Cond.fieldLink RX4 15 "SignDuty$Reader" "length" "I", Cond.fieldLink RX4 11 "SignDuty$Reader" "tape" "[I", Cond.methodLink RX4 55 yX4_fail, Cond.instanceMethod yX4_fail, Cond.selects RX4 yX4_fail yX4_fail, Cond.code yX4_fail cX4_fail 2 none, Cond.methodLink RX4 102 yX4_failAt, Cond.instanceMethod yX4_failAt, Cond.selects RX4 yX4_failAt yX4_failAt, Cond.code yX4_failAt cX4_failAt 3 none, Cond.fieldLink RX4 25 "SignDuty$Reader" "fault" "I", Cond.fieldLink RX4 19 "SignDuty$Reader" "lastFault" "I", Cond.fieldLink RX4 22 "SignDuty$Reader" "faultPlace" "I", Cond.methodLink RX4 62 yX4_readNumber]
def wsX4_readLaw_r2 : List Cond := [Cond.instanceMethod yX4_readNumber, Cond.selects RX4 yX4_readNumber yX4_readNumber, Cond.code yX4_readNumber cX4_readNumber 7 (some .int), Cond.static yX7_isWithin, Cond.initialized RX7, Cond.code yX7_isWithin cX7_isWithin 3 (some .boolean), Cond.methodLink RX4 66 yX2_begin, Cond.instanceMethod yX2_begin, Cond.selects RX2 yX2_begin yX2_begin, Cond.initialized RX2, Cond.code yX2_begin cX2_begin 2 none, Cond.fieldLink RX2 9 "SignDuty$City" "stands" "Z", Cond.fieldLink RX2 15 "SignDuty$City" "rate" "I", Cond.fieldLink RX2 19 "SignDuty$City" "paid" "I", Cond.fieldLink RX2 22 "SignDuty$City" "streets" "I", Cond.fieldLink RX2 25 "SignDuty$City" "known" "I", Cond.fieldLink RX2 28 "SignDuty$City" "gestures" "I"]
def wsX4_readLaw : List Cond := .code yX4_readLaw cX4_readLaw 2 none :: ((wsX4_readLaw_r1 ++ wsX4_readLaw_r2) ++ wsX40 ++ wsX20)
def wsX4_readStreet_r1 : List Cond := [Cond.fieldLink RX4 71 "SignDuty$City" "streets" "I", Cond.fieldLink RX4 74 "SignDuty$City" "dim" "[I", Cond.fieldLink RX4 77 "SignDuty$City" "strict" "[I", Cond.methodLink RX4 55 yX4_fail, Cond.instanceMethod yX4_fail, Cond.selects RX4 yX4_fail yX4_fail, Cond.initialized RX4, Cond.code yX4_fail cX4_fail 2 none, Cond.fieldLink RX4 28 "SignDuty$Reader" "at" "I", Cond.methodLink RX4 102 yX4_failAt, Cond.instanceMethod yX4_failAt, Cond.selects RX4 yX4_failAt yX4_failAt, Cond.code yX4_failAt cX4_failAt 3 none, Cond.fieldLink RX4 25 "SignDuty$Reader" "fault" "I", Cond.fieldLink RX4 19 "SignDuty$Reader" "lastFault" "I", Cond.fieldLink RX4 22 "SignDuty$Reader" "faultPlace" "I", Cond.methodLink RX4 59 yX4_readSign, Cond.instanceMethod yX4_readSign, Cond.selects RX4 yX4_readSign yX4_readSign, Cond.code yX4_readSign cX4_readSign 2 none, Cond.methodLink RX4 39 yX4_next, Cond.instanceMethod yX4_next, Cond.selects RX4 yX4_next yX4_next, Cond.code yX4_next cX4_next 1 (some .int)]
def wsX4_readStreet_r2 : List Cond := [Cond.fieldLink RX4 15 "SignDuty$Reader" "length" "I", Cond.fieldLink RX4 11 "SignDuty$Reader" "tape" "[I", Cond.methodLink RX4 62 yX4_readNumber, Cond.instanceMethod yX4_readNumber, Cond.selects RX4 yX4_readNumber yX4_readNumber, Cond.code yX4_readNumber cX4_readNumber 7 (some .int), Cond.static yX7_isWithin, Cond.initialized RX7, Cond.code yX7_isWithin cX7_isWithin 3 (some .boolean)]
def wsX4_readStreet : List Cond := .code yX4_readStreet cX4_readStreet 3 none :: ((wsX4_readStreet_r1 ++ wsX4_readStreet_r2) ++ wsX20 ++ wsX40)
def wsX4_readGesture_r1 : List Cond := [Cond.fieldLink RX4 80 "SignDuty$City" "gestures" "I", Cond.fieldLink RX4 83 "SignDuty$City" "kind" "[I", Cond.fieldLink RX4 28 "SignDuty$Reader" "at" "I", Cond.fieldLink RX4 86 "SignDuty$City" "inches" "[I", Cond.fieldLink RX4 89 "SignDuty$City" "means" "[I", Cond.fieldLink RX4 92 "SignDuty$City" "takes" "[I", Cond.fieldLink RX4 95 "SignDuty$City" "made" "[I", Cond.methodLink RX4 55 yX4_fail, Cond.instanceMethod yX4_fail, Cond.selects RX4 yX4_fail yX4_fail, Cond.initialized RX4, Cond.code yX4_fail cX4_fail 2 none, Cond.methodLink RX4 102 yX4_failAt, Cond.instanceMethod yX4_failAt, Cond.selects RX4 yX4_failAt yX4_failAt, Cond.code yX4_failAt cX4_failAt 3 none, Cond.fieldLink RX4 25 "SignDuty$Reader" "fault" "I", Cond.fieldLink RX4 19 "SignDuty$Reader" "lastFault" "I", Cond.fieldLink RX4 22 "SignDuty$Reader" "faultPlace" "I", Cond.methodLink RX4 39 yX4_next, Cond.instanceMethod yX4_next, Cond.selects RX4 yX4_next yX4_next, Cond.code yX4_next cX4_next 1 (some .int), Cond.fieldLink RX4 15 "SignDuty$Reader" "length" "I"]
def wsX4_readGesture_r2 : List Cond := [Cond.fieldLink RX4 11 "SignDuty$Reader" "tape" "[I", Cond.methodLink RX4 46 yX3_ofLetter, Cond.static yX3_ofLetter, Cond.initialized RX3, Cond.code yX3_ofLetter cX3_ofLetter 1 (some .int), Cond.methodLink RX4 62 yX4_readNumber, Cond.instanceMethod yX4_readNumber, Cond.selects RX4 yX4_readNumber yX4_readNumber, Cond.code yX4_readNumber cX4_readNumber 7 (some .int), Cond.static yX7_isWithin, Cond.initialized RX7, Cond.code yX7_isWithin cX7_isWithin 3 (some .boolean), Cond.methodLink RX4 59 yX4_readSign, Cond.instanceMethod yX4_readSign, Cond.selects RX4 yX4_readSign yX4_readSign, Cond.code yX4_readSign cX4_readSign 2 none]
def wsX4_readGesture : List Cond := .code yX4_readGesture cX4_readGesture 3 none :: ((wsX4_readGesture_r1 ++ wsX4_readGesture_r2) ++ wsX20 ++ wsX40)
def wsX4_reads_r1 : List Cond := [Cond.fieldLink RX4 25 "SignDuty$Reader" "fault" "I", Cond.fieldLink RX4 28 "SignDuty$Reader" "at" "I", Cond.fieldLink RX4 15 "SignDuty$Reader" "length" "I", Cond.methodLink RX4 35 yX4_readLaw, Cond.instanceMethod yX4_readLaw, Cond.selects RX4 yX4_readLaw yX4_readLaw, Cond.initialized RX4, Cond.code yX4_readLaw cX4_readLaw 2 none, Cond.methodLink RX4 59 yX4_readSign, Cond.instanceMethod yX4_readSign, Cond.selects RX4 yX4_readSign yX4_readSign, Cond.code yX4_readSign cX4_readSign 2 none, Cond.methodLink RX4 39 yX4_next, Cond.instanceMethod yX4_next, Cond.selects RX4 yX4_next yX4_next, Cond.code yX4_next cX4_next 1 (some .int), Cond.fieldLink RX4 11 "SignDuty$Reader" "tape" "[I", Cond.methodLink RX4 55 yX4_fail, Cond.instanceMethod yX4_fail, Cond.selects RX4 yX4_fail yX4_fail, Cond.code yX4_fail cX4_fail 2 none, Cond.methodLink RX4 102 yX4_failAt, Cond.instanceMethod yX4_failAt, Cond.selects RX4 yX4_failAt yX4_failAt]
def wsX4_reads_r2 : List Cond := [Cond.code yX4_failAt cX4_failAt 3 none, Cond.fieldLink RX4 19 "SignDuty$Reader" "lastFault" "I", Cond.fieldLink RX4 22 "SignDuty$Reader" "faultPlace" "I", Cond.methodLink RX4 62 yX4_readNumber, Cond.instanceMethod yX4_readNumber, Cond.selects RX4 yX4_readNumber yX4_readNumber, Cond.code yX4_readNumber cX4_readNumber 7 (some .int), Cond.static yX7_isWithin, Cond.initialized RX7, Cond.code yX7_isWithin cX7_isWithin 3 (some .boolean), Cond.methodLink RX4 66 yX2_begin, Cond.instanceMethod yX2_begin, Cond.selects RX2 yX2_begin yX2_begin, Cond.initialized RX2, Cond.code yX2_begin cX2_begin 2 none, Cond.fieldLink RX2 9 "SignDuty$City" "stands" "Z", Cond.fieldLink RX2 15 "SignDuty$City" "rate" "I", Cond.fieldLink RX2 19 "SignDuty$City" "paid" "I", Cond.fieldLink RX2 22 "SignDuty$City" "streets" "I", Cond.fieldLink RX2 25 "SignDuty$City" "known" "I", Cond.fieldLink RX2 28 "SignDuty$City" "gestures" "I", Cond.methodLink RX4 43 yX4_readStreet, Cond.instanceMethod yX4_readStreet, Cond.selects RX4 yX4_readStreet yX4_readStreet]
def wsX4_reads_r3 : List Cond := [Cond.code yX4_readStreet cX4_readStreet 3 none, Cond.fieldLink RX4 71 "SignDuty$City" "streets" "I", Cond.fieldLink RX4 74 "SignDuty$City" "dim" "[I", Cond.fieldLink RX4 77 "SignDuty$City" "strict" "[I", Cond.methodLink RX4 46 yX3_ofLetter, Cond.static yX3_ofLetter, Cond.initialized RX3, Cond.code yX3_ofLetter cX3_ofLetter 1 (some .int), Cond.methodLink RX4 52 yX4_readGesture, Cond.instanceMethod yX4_readGesture, Cond.selects RX4 yX4_readGesture yX4_readGesture, Cond.code yX4_readGesture cX4_readGesture 3 none, Cond.fieldLink RX4 80 "SignDuty$City" "gestures" "I", Cond.fieldLink RX4 83 "SignDuty$City" "kind" "[I", Cond.fieldLink RX4 86 "SignDuty$City" "inches" "[I", Cond.fieldLink RX4 89 "SignDuty$City" "means" "[I", Cond.fieldLink RX4 92 "SignDuty$City" "takes" "[I", Cond.fieldLink RX4 95 "SignDuty$City" "made" "[I"]
def wsX4_reads : List Cond := .code yX4_reads cX4_reads 3 (some .boolean) :: ((wsX4_reads_r1 ++ (wsX4_reads_r2 ++ wsX4_reads_r3)) ++ wsX40 ++ wsX20)
def wsX5_init : List Cond := .code yX5_init cX5_init 1 none :: ([.methodLink RX5 3 objectInit, .instanceMethod objectInit, .code objectInit ⟨#[0xb1]⟩ 1 none, .classLink RX5 11 "[[I", .arrayClass .int, .fieldLink RX5 13 "SignDuty$Rows" "items" "[[I", .fieldLink RX5 16 "SignDuty$Rows" "lengths" "[I", .fieldLink RX5 20 "SignDuty$Rows" "lanes" "[I"] ++ wsX50)
def wsX5_isRow : List Cond := .code yX5_isRow cX5_isRow 1 (some .boolean) :: ([])
def wsX5_isMissing : List Cond := .code yX5_isMissing cX5_isMissing 2 (some .boolean) :: ([.fieldLink RX5 16 "SignDuty$Rows" "lengths" "[I"] ++ wsX50)
def wsX5_areAlike : List Cond := .code yX5_areAlike cX5_areAlike 3 (some .boolean) :: ([.fieldLink RX5 20 "SignDuty$Rows" "lanes" "[I"] ++ wsX50)
def wsX5_reaches : List Cond := .code yX5_reaches cX5_reaches 4 (some .boolean) :: ([.fieldLink RX5 16 "SignDuty$Rows" "lengths" "[I"] ++ wsX50)
def wsX5_findingOf : List Cond := .code yX5_findingOf cX5_findingOf 4 (some .int) :: ([.methodLink RX5 23 yX5_isMissing, .instanceMethod yX5_isMissing, .selects RX5 yX5_isMissing yX5_isMissing, .initialized RX5, .code yX5_isMissing cX5_isMissing 2 (some .boolean), .fieldLink RX5 16 "SignDuty$Rows" "lengths" "[I", .methodLink RX5 27 yX5_reaches, .instanceMethod yX5_reaches, .selects RX5 yX5_reaches yX5_reaches, .code yX5_reaches cX5_reaches 4 (some .boolean)] ++ wsX50)
def wsX5_lay : List Cond := .code yX5_lay cX5_lay 5 none :: ([.fieldLink RX5 16 "SignDuty$Rows" "lengths" "[I", .fieldLink RX5 20 "SignDuty$Rows" "lanes" "[I", .fieldLink RX5 13 "SignDuty$Rows" "items" "[[I"] ++ wsX50)
def wsX5_lowestBits : List Cond := .code yX5_lowestBits cX5_lowestBits 2 (some .int) :: ([])
def wsX5_put : List Cond := .code yX5_put cX5_put 4 (some .int) :: ([.fieldLink RX5 13 "SignDuty$Rows" "items" "[[I", .fieldLink RX5 20 "SignDuty$Rows" "lanes" "[I", .methodLink RX5 31 yX5_lowestBits, .static yX5_lowestBits, .initialized RX5, .code yX5_lowestBits cX5_lowestBits 2 (some .int)] ++ wsX50)
def wsX5_at : List Cond := .code yX5_at cX5_at 3 (some .int) :: ([.fieldLink RX5 13 "SignDuty$Rows" "items" "[[I"] ++ wsX50)
def wsX5_carry : List Cond := .code yX5_carry cX5_carry 6 none :: ([.fieldLink RX5 13 "SignDuty$Rows" "items" "[[I", .methodLink RX5 35 arraycopyName, .native arraycopyName, .static arraycopyName, .initialized "java/lang/System"] ++ wsX50)
def wsX5_takeAway : List Cond := .code yX5_takeAway cX5_takeAway 3 (some .int) :: ([.fieldLink RX5 16 "SignDuty$Rows" "lengths" "[I"] ++ wsX50)
def wsX5_howMany : List Cond := .code yX5_howMany cX5_howMany 3 (some .int) :: ([.methodLink RX5 23 yX5_isMissing, .instanceMethod yX5_isMissing, .selects RX5 yX5_isMissing yX5_isMissing, .initialized RX5, .code yX5_isMissing cX5_isMissing 2 (some .boolean), .fieldLink RX5 16 "SignDuty$Rows" "lengths" "[I"] ++ wsX50)
def wsX6_init : List Cond := .code yX6_init cX6_init 1 none :: ([.methodLink RX6 3 objectInit, .instanceMethod objectInit, .code objectInit ⟨#[0xb1]⟩ 1 none, .classLink RX6 9 "[[I", .arrayClass .int, .fieldLink RX6 11 "SignDuty$Teller" "least" "[[I"] ++ wsX60)
def wsX6_offer : List Cond := .code yX6_offer cX6_offer 6 none :: ([.fieldLink RX6 11 "SignDuty$Teller" "least" "[[I", .methodLink RX6 48 Lib.Math.min.name, .static Lib.Math.min.name, .initialized "java/lang/Math", .code Lib.Math.min.name Lib.Math.min.code 2 (some .int)] ++ wsX60)
def wsX6_fill_r1 : List Cond := [Cond.fieldLink RX6 11 "SignDuty$Teller" "least" "[[I", Cond.constant RX6 20 (1000000), Cond.fieldLink RX6 32 "SignDuty$City" "gestures" "I", Cond.fieldLink RX6 26 "SignDuty$City" "takes" "[I", Cond.methodLink RX6 36 yX2_tells, Cond.instanceMethod yX2_tells, Cond.selects RX2 yX2_tells yX2_tells, Cond.initialized RX2, Cond.code yX2_tells cX2_tells 4 (some .boolean), Cond.fieldLink RX2 44 "SignDuty$City" "means" "[I", Cond.methodLink RX2 78 yX2_isSeen, Cond.instanceMethod yX2_isSeen, Cond.selects RX2 yX2_isSeen yX2_isSeen, Cond.code yX2_isSeen cX2_isSeen 4 (some .boolean), Cond.fieldLink RX2 38 "SignDuty$City" "kind" "[I", Cond.fieldLink RX2 41 "SignDuty$City" "inches" "[I", Cond.fieldLink RX2 31 "SignDuty$City" "dim" "[I", Cond.methodLink RX6 40 yX2_owes, Cond.instanceMethod yX2_owes, Cond.selects RX2 yX2_owes yX2_owes, Cond.code yX2_owes cX2_owes 3 (some .int), Cond.methodLink RX2 59 yX2_owesSuch, Cond.instanceMethod yX2_owesSuch, Cond.selects RX2 yX2_owesSuch yX2_owesSuch]
def wsX6_fill_r2 : List Cond := [Cond.code yX2_owesSuch cX2_owesSuch 5 (some .int), Cond.methodLink RX2 63 yX2_owesUnknown, Cond.instanceMethod yX2_owesUnknown, Cond.selects RX2 yX2_owesUnknown yX2_owesUnknown, Cond.code yX2_owesUnknown cX2_owesUnknown 5 (some .int), Cond.fieldLink RX2 15 "SignDuty$City" "rate" "I", Cond.fieldLink RX2 35 "SignDuty$City" "strict" "[I", Cond.methodLink RX2 70 Lib.Math.max.name, Cond.static Lib.Math.max.name, Cond.initialized "java/lang/Math", Cond.code Lib.Math.max.name Lib.Math.max.code 2 (some .int), Cond.methodLink RX2 66 yX2_isKnown, Cond.instanceMethod yX2_isKnown, Cond.selects RX2 yX2_isKnown yX2_isKnown, Cond.code yX2_isKnown cX2_isKnown 2 (some .boolean), Cond.fieldLink RX2 25 "SignDuty$City" "known" "I", Cond.methodLink RX6 44 yX6_offer, Cond.instanceMethod yX6_offer, Cond.selects RX6 yX6_offer yX6_offer, Cond.initialized RX6, Cond.code yX6_offer cX6_offer 6 none, Cond.methodLink RX6 48 Lib.Math.min.name, Cond.static Lib.Math.min.name, Cond.code Lib.Math.min.name Lib.Math.min.code 2 (some .int)]
def wsX6_fill : List Cond := .code yX6_fill cX6_fill 8 none :: ((wsX6_fill_r1 ++ wsX6_fill_r2) ++ wsX60 ++ wsX20)
def wsX6_leastDuty_r1 : List Cond := [Cond.fieldLink RX6 11 "SignDuty$Teller" "least" "[[I", Cond.constant RX6 20 (1000000), Cond.constant RX6 21 (-1000000), Cond.methodLink RX6 16 yX6_fill, Cond.instanceMethod yX6_fill, Cond.selects RX6 yX6_fill yX6_fill, Cond.initialized RX6, Cond.code yX6_fill cX6_fill 8 none, Cond.fieldLink RX6 32 "SignDuty$City" "gestures" "I", Cond.fieldLink RX6 26 "SignDuty$City" "takes" "[I", Cond.methodLink RX6 36 yX2_tells, Cond.instanceMethod yX2_tells, Cond.selects RX2 yX2_tells yX2_tells, Cond.initialized RX2, Cond.code yX2_tells cX2_tells 4 (some .boolean), Cond.fieldLink RX2 44 "SignDuty$City" "means" "[I", Cond.methodLink RX2 78 yX2_isSeen, Cond.instanceMethod yX2_isSeen, Cond.selects RX2 yX2_isSeen yX2_isSeen, Cond.code yX2_isSeen cX2_isSeen 4 (some .boolean), Cond.fieldLink RX2 38 "SignDuty$City" "kind" "[I", Cond.fieldLink RX2 41 "SignDuty$City" "inches" "[I", Cond.fieldLink RX2 31 "SignDuty$City" "dim" "[I", Cond.methodLink RX6 40 yX2_owes]
def wsX6_leastDuty_r2 : List Cond := [Cond.instanceMethod yX2_owes, Cond.selects RX2 yX2_owes yX2_owes, Cond.code yX2_owes cX2_owes 3 (some .int), Cond.methodLink RX2 59 yX2_owesSuch, Cond.instanceMethod yX2_owesSuch, Cond.selects RX2 yX2_owesSuch yX2_owesSuch, Cond.code yX2_owesSuch cX2_owesSuch 5 (some .int), Cond.methodLink RX2 63 yX2_owesUnknown, Cond.instanceMethod yX2_owesUnknown, Cond.selects RX2 yX2_owesUnknown yX2_owesUnknown, Cond.code yX2_owesUnknown cX2_owesUnknown 5 (some .int), Cond.fieldLink RX2 15 "SignDuty$City" "rate" "I", Cond.fieldLink RX2 35 "SignDuty$City" "strict" "[I", Cond.methodLink RX2 70 Lib.Math.max.name, Cond.static Lib.Math.max.name, Cond.initialized "java/lang/Math", Cond.code Lib.Math.max.name Lib.Math.max.code 2 (some .int), Cond.methodLink RX2 66 yX2_isKnown, Cond.instanceMethod yX2_isKnown, Cond.selects RX2 yX2_isKnown yX2_isKnown, Cond.code yX2_isKnown cX2_isKnown 2 (some .boolean), Cond.fieldLink RX2 25 "SignDuty$City" "known" "I", Cond.methodLink RX6 44 yX6_offer, Cond.instanceMethod yX6_offer]
def wsX6_leastDuty_r3 : List Cond := [Cond.selects RX6 yX6_offer yX6_offer, Cond.code yX6_offer cX6_offer 6 none, Cond.methodLink RX6 48 Lib.Math.min.name, Cond.static Lib.Math.min.name, Cond.code Lib.Math.min.name Lib.Math.min.code 2 (some .int)]
def wsX6_leastDuty : List Cond := .code yX6_leastDuty cX6_leastDuty 6 (some .int) :: ((wsX6_leastDuty_r1 ++ (wsX6_leastDuty_r2 ++ wsX6_leastDuty_r3)) ++ wsX60 ++ wsX20)
def wsX6_firstOfCheapest_r1 : List Cond := [Cond.fieldLink RX6 32 "SignDuty$City" "gestures" "I", Cond.fieldLink RX6 26 "SignDuty$City" "takes" "[I", Cond.fieldLink RX6 11 "SignDuty$Teller" "least" "[[I", Cond.constant RX6 21 (-1000000), Cond.methodLink RX6 36 yX2_tells, Cond.instanceMethod yX2_tells, Cond.selects RX2 yX2_tells yX2_tells, Cond.initialized RX2, Cond.code yX2_tells cX2_tells 4 (some .boolean), Cond.fieldLink RX2 44 "SignDuty$City" "means" "[I", Cond.methodLink RX2 78 yX2_isSeen, Cond.instanceMethod yX2_isSeen, Cond.selects RX2 yX2_isSeen yX2_isSeen, Cond.code yX2_isSeen cX2_isSeen 4 (some .boolean), Cond.fieldLink RX2 38 "SignDuty$City" "kind" "[I", Cond.fieldLink RX2 41 "SignDuty$City" "inches" "[I", Cond.fieldLink RX2 31 "SignDuty$City" "dim" "[I", Cond.methodLink RX6 40 yX2_owes, Cond.instanceMethod yX2_owes, Cond.selects RX2 yX2_owes yX2_owes, Cond.code yX2_owes cX2_owes 3 (some .int), Cond.methodLink RX2 59 yX2_owesSuch, Cond.instanceMethod yX2_owesSuch, Cond.selects RX2 yX2_owesSuch yX2_owesSuch]
def wsX6_firstOfCheapest_r2 : List Cond := [Cond.code yX2_owesSuch cX2_owesSuch 5 (some .int), Cond.methodLink RX2 63 yX2_owesUnknown, Cond.instanceMethod yX2_owesUnknown, Cond.selects RX2 yX2_owesUnknown yX2_owesUnknown, Cond.code yX2_owesUnknown cX2_owesUnknown 5 (some .int), Cond.fieldLink RX2 15 "SignDuty$City" "rate" "I", Cond.fieldLink RX2 35 "SignDuty$City" "strict" "[I", Cond.methodLink RX2 70 Lib.Math.max.name, Cond.static Lib.Math.max.name, Cond.initialized "java/lang/Math", Cond.code Lib.Math.max.name Lib.Math.max.code 2 (some .int), Cond.methodLink RX2 66 yX2_isKnown, Cond.instanceMethod yX2_isKnown, Cond.selects RX2 yX2_isKnown yX2_isKnown, Cond.code yX2_isKnown cX2_isKnown 2 (some .boolean), Cond.fieldLink RX2 25 "SignDuty$City" "known" "I"]
def wsX6_firstOfCheapest : List Cond := .code yX6_firstOfCheapest cX6_firstOfCheapest 7 (some .int) :: ((wsX6_firstOfCheapest_r1 ++ wsX6_firstOfCheapest_r2) ++ wsX20 ++ wsX60)
def wsX6_gestureOfCheapest_r1 : List Cond := [Cond.fieldLink RX6 11 "SignDuty$Teller" "least" "[[I", Cond.constant RX6 20 (1000000), Cond.constant RX6 21 (-1000000), Cond.fieldLink RX6 26 "SignDuty$City" "takes" "[I", Cond.methodLink RX6 16 yX6_fill, Cond.instanceMethod yX6_fill, Cond.selects RX6 yX6_fill yX6_fill, Cond.initialized RX6, Cond.code yX6_fill cX6_fill 8 none, Cond.fieldLink RX6 32 "SignDuty$City" "gestures" "I", Cond.methodLink RX6 36 yX2_tells, Cond.instanceMethod yX2_tells, Cond.selects RX2 yX2_tells yX2_tells, Cond.initialized RX2, Cond.code yX2_tells cX2_tells 4 (some .boolean), Cond.fieldLink RX2 44 "SignDuty$City" "means" "[I", Cond.methodLink RX2 78 yX2_isSeen, Cond.instanceMethod yX2_isSeen, Cond.selects RX2 yX2_isSeen yX2_isSeen, Cond.code yX2_isSeen cX2_isSeen 4 (some .boolean), Cond.fieldLink RX2 38 "SignDuty$City" "kind" "[I", Cond.fieldLink RX2 41 "SignDuty$City" "inches" "[I", Cond.fieldLink RX2 31 "SignDuty$City" "dim" "[I", Cond.methodLink RX6 40 yX2_owes]
def wsX6_gestureOfCheapest_r2 : List Cond := [Cond.instanceMethod yX2_owes, Cond.selects RX2 yX2_owes yX2_owes, Cond.code yX2_owes cX2_owes 3 (some .int), Cond.methodLink RX2 59 yX2_owesSuch, Cond.instanceMethod yX2_owesSuch, Cond.selects RX2 yX2_owesSuch yX2_owesSuch, Cond.code yX2_owesSuch cX2_owesSuch 5 (some .int), Cond.methodLink RX2 63 yX2_owesUnknown, Cond.instanceMethod yX2_owesUnknown, Cond.selects RX2 yX2_owesUnknown yX2_owesUnknown, Cond.code yX2_owesUnknown cX2_owesUnknown 5 (some .int), Cond.fieldLink RX2 15 "SignDuty$City" "rate" "I", Cond.fieldLink RX2 35 "SignDuty$City" "strict" "[I", Cond.methodLink RX2 70 Lib.Math.max.name, Cond.static Lib.Math.max.name, Cond.initialized "java/lang/Math", Cond.code Lib.Math.max.name Lib.Math.max.code 2 (some .int), Cond.methodLink RX2 66 yX2_isKnown, Cond.instanceMethod yX2_isKnown, Cond.selects RX2 yX2_isKnown yX2_isKnown, Cond.code yX2_isKnown cX2_isKnown 2 (some .boolean), Cond.fieldLink RX2 25 "SignDuty$City" "known" "I", Cond.methodLink RX6 44 yX6_offer, Cond.instanceMethod yX6_offer]
def wsX6_gestureOfCheapest_r3 : List Cond := [Cond.selects RX6 yX6_offer yX6_offer, Cond.code yX6_offer cX6_offer 6 none, Cond.methodLink RX6 48 Lib.Math.min.name, Cond.static Lib.Math.min.name, Cond.code Lib.Math.min.name Lib.Math.min.code 2 (some .int), Cond.methodLink RX6 22 yX6_firstOfCheapest, Cond.instanceMethod yX6_firstOfCheapest, Cond.selects RX6 yX6_firstOfCheapest yX6_firstOfCheapest, Cond.code yX6_firstOfCheapest cX6_firstOfCheapest 7 (some .int)]
def wsX6_gestureOfCheapest : List Cond := .code yX6_gestureOfCheapest cX6_gestureOfCheapest 10 (some .int) :: ((wsX6_gestureOfCheapest_r1 ++ (wsX6_gestureOfCheapest_r2 ++ wsX6_gestureOfCheapest_r3)) ++ wsX60 ++ wsX20)
def wsX7_init_r1 : List Cond := [Cond.methodLink RX7 1 objectInit, Cond.instanceMethod objectInit, Cond.code objectInit ⟨#[0xb1]⟩ 1 none, Cond.classLink RX7 7 RX5, Cond.instantiable RX5 3, Cond.initialized RX5, Cond.fieldLink RX7 10 "SignDuty" "rows" "LSignDuty$Rows;", Cond.classLink RX7 16 RX4, Cond.instantiable RX4 6, Cond.initialized RX4, Cond.fieldLink RX7 19 "SignDuty" "reader" "LSignDuty$Reader;", Cond.classLink RX7 23 RX2, Cond.instantiable RX2 13, Cond.initialized RX2, Cond.fieldLink RX7 26 "SignDuty" "city" "LSignDuty$City;", Cond.fieldLink RX7 30 "SignDuty" "draft" "LSignDuty$City;", Cond.fieldLink RX7 33 "SignDuty" "images" "[LSignDuty$City;", Cond.classLink RX7 37 RX0, Cond.instantiable RX0 5, Cond.initialized RX0, Cond.fieldLink RX7 40 "SignDuty" "acts" "LSignDuty$Acts;", Cond.classLink RX7 44 RX6, Cond.instantiable RX6 1, Cond.initialized RX6]
def wsX7_init_r2 : List Cond := [Cond.fieldLink RX7 47 "SignDuty" "teller" "LSignDuty$Teller;", Cond.classLink RX7 51 RX1, Cond.instantiable RX1 2, Cond.initialized RX1, Cond.fieldLink RX7 54 "SignDuty" "asks" "LSignDuty$Asks;", Cond.fieldLink RX7 58 "SignDuty" "lastFinding" "I", Cond.instanceMethod yX5_init, Cond.code yX5_init cX5_init 1 none, Cond.methodLink RX5 3 objectInit, Cond.classLink RX5 11 "[[I", Cond.arrayClass .int, Cond.fieldLink RX5 13 "SignDuty$Rows" "items" "[[I", Cond.fieldLink RX5 16 "SignDuty$Rows" "lengths" "[I", Cond.fieldLink RX5 20 "SignDuty$Rows" "lanes" "[I", Cond.instanceMethod yX4_init, Cond.code yX4_init cX4_init 1 none, Cond.methodLink RX4 3 objectInit, Cond.fieldLink RX4 11 "SignDuty$Reader" "tape" "[I", Cond.fieldLink RX4 15 "SignDuty$Reader" "length" "I", Cond.fieldLink RX4 19 "SignDuty$Reader" "lastFault" "I", Cond.fieldLink RX4 22 "SignDuty$Reader" "faultPlace" "I", Cond.fieldLink RX4 25 "SignDuty$Reader" "fault" "I", Cond.fieldLink RX4 28 "SignDuty$Reader" "at" "I", Cond.instanceMethod yX2_init]
def wsX7_init_r3 : List Cond := [Cond.code yX2_init cX2_init 1 none, Cond.methodLink RX2 3 objectInit, Cond.fieldLink RX2 9 "SignDuty$City" "stands" "Z", Cond.fieldLink RX2 15 "SignDuty$City" "rate" "I", Cond.fieldLink RX2 19 "SignDuty$City" "paid" "I", Cond.fieldLink RX2 22 "SignDuty$City" "streets" "I", Cond.fieldLink RX2 25 "SignDuty$City" "known" "I", Cond.fieldLink RX2 28 "SignDuty$City" "gestures" "I", Cond.fieldLink RX2 31 "SignDuty$City" "dim" "[I", Cond.fieldLink RX2 35 "SignDuty$City" "strict" "[I", Cond.fieldLink RX2 38 "SignDuty$City" "kind" "[I", Cond.fieldLink RX2 41 "SignDuty$City" "inches" "[I", Cond.fieldLink RX2 44 "SignDuty$City" "means" "[I", Cond.fieldLink RX2 47 "SignDuty$City" "takes" "[I", Cond.fieldLink RX2 50 "SignDuty$City" "made" "[I", Cond.instanceMethod yX0_init, Cond.code yX0_init cX0_init 1 none, Cond.methodLink RX0 1 objectInit, Cond.fieldLink RX0 9 "SignDuty$Acts" "deeds" "[I", Cond.fieldLink RX0 13 "SignDuty$Acts" "whats" "[I", Cond.fieldLink RX0 16 "SignDuty$Acts" "values" "[I", Cond.fieldLink RX0 19 "SignDuty$Acts" "nextSlot" "I", Cond.fieldLink RX0 23 "SignDuty$Acts" "kept" "I", Cond.instanceMethod yX6_init]
def wsX7_init_r4 : List Cond := [Cond.code yX6_init cX6_init 1 none, Cond.methodLink RX6 3 objectInit, Cond.classLink RX6 9 "[[I", Cond.fieldLink RX6 11 "SignDuty$Teller" "least" "[[I", Cond.instanceMethod yX1_init, Cond.code yX1_init cX1_init 1 none, Cond.methodLink RX1 3 objectInit, Cond.fieldLink RX1 11 "SignDuty$Asks" "numbers" "[I", Cond.fieldLink RX1 15 "SignDuty$Asks" "left" "I"]
def wsX7_init : List Cond := .code yX7_init cX7_init 1 none :: ((wsX7_init_r1 ++ (wsX7_init_r2 ++ (wsX7_init_r3 ++ wsX7_init_r4))) ++ wsX50 ++ wsX70 ++ wsX40 ++ wsX20 ++ wsX00 ++ wsX60 ++ wsX10)
def wsX7_found : List Cond := .code yX7_found cX7_found 2 (some .int) :: ([.fieldLink RX7 58 "SignDuty" "lastFinding" "I", .constant RX7 283 (-1000010)] ++ wsX70)
def wsX7_foundNothing : List Cond := .code yX7_foundNothing cX7_foundNothing 2 (some .int) :: ([.fieldLink RX7 58 "SignDuty" "lastFinding" "I"] ++ wsX70)
def wsX7_row_r1 : List Cond := [Cond.constant RX7 70 (-1000001), Cond.fieldLink RX7 10 "SignDuty" "rows" "LSignDuty$Rows;", Cond.methodLink RX7 62 yX5_isRow, Cond.static yX5_isRow, Cond.initialized RX5, Cond.code yX5_isRow cX5_isRow 1 (some .boolean), Cond.methodLink RX7 66 yX7_isWithin, Cond.static yX7_isWithin, Cond.initialized RX7, Cond.code yX7_isWithin cX7_isWithin 3 (some .boolean), Cond.methodLink RX7 71 yX7_found, Cond.instanceMethod yX7_found, Cond.selects RX7 yX7_found yX7_found, Cond.code yX7_found cX7_found 2 (some .int), Cond.fieldLink RX7 58 "SignDuty" "lastFinding" "I", Cond.constant RX7 283 (-1000010), Cond.methodLink RX7 75 yX5_lay, Cond.instanceMethod yX5_lay, Cond.selects RX5 yX5_lay yX5_lay, Cond.code yX5_lay cX5_lay 5 none, Cond.fieldLink RX5 16 "SignDuty$Rows" "lengths" "[I", Cond.fieldLink RX5 20 "SignDuty$Rows" "lanes" "[I", Cond.fieldLink RX5 13 "SignDuty$Rows" "items" "[[I", Cond.methodLink RX7 79 yX7_foundNothing]
def wsX7_row_r2 : List Cond := [Cond.instanceMethod yX7_foundNothing, Cond.selects RX7 yX7_foundNothing yX7_foundNothing, Cond.code yX7_foundNothing cX7_foundNothing 2 (some .int)]
def wsX7_row : List Cond := .code yX7_row cX7_row 4 (some .int) :: ((wsX7_row_r1 ++ wsX7_row_r2) ++ wsX70 ++ wsX50)
def wsX7_set_r1 : List Cond := [Cond.constant RX7 70 (-1000001), Cond.fieldLink RX7 10 "SignDuty" "rows" "LSignDuty$Rows;", Cond.methodLink RX7 62 yX5_isRow, Cond.static yX5_isRow, Cond.initialized RX5, Cond.code yX5_isRow cX5_isRow 1 (some .boolean), Cond.methodLink RX7 82 yX5_findingOf, Cond.instanceMethod yX5_findingOf, Cond.selects RX5 yX5_findingOf yX5_findingOf, Cond.code yX5_findingOf cX5_findingOf 4 (some .int), Cond.methodLink RX5 23 yX5_isMissing, Cond.instanceMethod yX5_isMissing, Cond.selects RX5 yX5_isMissing yX5_isMissing, Cond.code yX5_isMissing cX5_isMissing 2 (some .boolean), Cond.fieldLink RX5 16 "SignDuty$Rows" "lengths" "[I", Cond.methodLink RX5 27 yX5_reaches, Cond.instanceMethod yX5_reaches, Cond.selects RX5 yX5_reaches yX5_reaches, Cond.code yX5_reaches cX5_reaches 4 (some .boolean), Cond.methodLink RX7 71 yX7_found, Cond.instanceMethod yX7_found, Cond.selects RX7 yX7_found yX7_found, Cond.initialized RX7, Cond.code yX7_found cX7_found 2 (some .int)]
def wsX7_set_r2 : List Cond := [Cond.fieldLink RX7 58 "SignDuty" "lastFinding" "I", Cond.constant RX7 283 (-1000010), Cond.methodLink RX7 86 yX5_put, Cond.instanceMethod yX5_put, Cond.selects RX5 yX5_put yX5_put, Cond.code yX5_put cX5_put 4 (some .int), Cond.fieldLink RX5 13 "SignDuty$Rows" "items" "[[I", Cond.fieldLink RX5 20 "SignDuty$Rows" "lanes" "[I", Cond.methodLink RX5 31 yX5_lowestBits, Cond.static yX5_lowestBits, Cond.code yX5_lowestBits cX5_lowestBits 2 (some .int), Cond.methodLink RX7 79 yX7_foundNothing, Cond.instanceMethod yX7_foundNothing, Cond.selects RX7 yX7_foundNothing yX7_foundNothing, Cond.code yX7_foundNothing cX7_foundNothing 2 (some .int)]
def wsX7_set : List Cond := .code yX7_set cX7_set 5 (some .int) :: ((wsX7_set_r1 ++ wsX7_set_r2) ++ wsX70 ++ wsX50)
def wsX7_copy_r1 : List Cond := [Cond.constant RX7 70 (-1000001), Cond.fieldLink RX7 10 "SignDuty" "rows" "LSignDuty$Rows;", Cond.methodLink RX7 62 yX5_isRow, Cond.static yX5_isRow, Cond.initialized RX5, Cond.code yX5_isRow cX5_isRow 1 (some .boolean), Cond.methodLink RX7 89 yX5_isMissing, Cond.instanceMethod yX5_isMissing, Cond.selects RX5 yX5_isMissing yX5_isMissing, Cond.code yX5_isMissing cX5_isMissing 2 (some .boolean), Cond.fieldLink RX5 16 "SignDuty$Rows" "lengths" "[I", Cond.methodLink RX7 71 yX7_found, Cond.instanceMethod yX7_found, Cond.selects RX7 yX7_found yX7_found, Cond.initialized RX7, Cond.code yX7_found cX7_found 2 (some .int), Cond.fieldLink RX7 58 "SignDuty" "lastFinding" "I", Cond.constant RX7 283 (-1000010), Cond.methodLink RX7 92 yX5_areAlike, Cond.instanceMethod yX5_areAlike, Cond.selects RX5 yX5_areAlike yX5_areAlike, Cond.code yX5_areAlike cX5_areAlike 3 (some .boolean), Cond.fieldLink RX5 20 "SignDuty$Rows" "lanes" "[I", Cond.methodLink RX7 96 yX5_reaches]
def wsX7_copy_r2 : List Cond := [Cond.instanceMethod yX5_reaches, Cond.selects RX5 yX5_reaches yX5_reaches, Cond.code yX5_reaches cX5_reaches 4 (some .boolean), Cond.methodLink RX7 99 yX5_carry, Cond.instanceMethod yX5_carry, Cond.selects RX5 yX5_carry yX5_carry, Cond.code yX5_carry cX5_carry 6 none, Cond.fieldLink RX5 13 "SignDuty$Rows" "items" "[[I", Cond.methodLink RX5 35 arraycopyName, Cond.native arraycopyName, Cond.static arraycopyName, Cond.initialized "java/lang/System", Cond.methodLink RX7 79 yX7_foundNothing, Cond.instanceMethod yX7_foundNothing, Cond.selects RX7 yX7_foundNothing yX7_foundNothing, Cond.code yX7_foundNothing cX7_foundNothing 2 (some .int)]
def wsX7_copy : List Cond := .code yX7_copy cX7_copy 6 (some .int) :: ((wsX7_copy_r1 ++ wsX7_copy_r2) ++ wsX70 ++ wsX50)
def wsX7_drop_r1 : List Cond := [Cond.constant RX7 70 (-1000001), Cond.fieldLink RX7 10 "SignDuty" "rows" "LSignDuty$Rows;", Cond.methodLink RX7 62 yX5_isRow, Cond.static yX5_isRow, Cond.initialized RX5, Cond.code yX5_isRow cX5_isRow 1 (some .boolean), Cond.methodLink RX7 89 yX5_isMissing, Cond.instanceMethod yX5_isMissing, Cond.selects RX5 yX5_isMissing yX5_isMissing, Cond.code yX5_isMissing cX5_isMissing 2 (some .boolean), Cond.fieldLink RX5 16 "SignDuty$Rows" "lengths" "[I", Cond.methodLink RX7 71 yX7_found, Cond.instanceMethod yX7_found, Cond.selects RX7 yX7_found yX7_found, Cond.initialized RX7, Cond.code yX7_found cX7_found 2 (some .int), Cond.fieldLink RX7 58 "SignDuty" "lastFinding" "I", Cond.constant RX7 283 (-1000010), Cond.methodLink RX7 103 yX5_takeAway, Cond.instanceMethod yX5_takeAway, Cond.selects RX5 yX5_takeAway yX5_takeAway, Cond.code yX5_takeAway cX5_takeAway 3 (some .int), Cond.methodLink RX7 79 yX7_foundNothing, Cond.instanceMethod yX7_foundNothing]
def wsX7_drop_r2 : List Cond := [Cond.selects RX7 yX7_foundNothing yX7_foundNothing, Cond.code yX7_foundNothing cX7_foundNothing 2 (some .int)]
def wsX7_drop : List Cond := .code yX7_drop cX7_drop 2 (some .int) :: ((wsX7_drop_r1 ++ wsX7_drop_r2) ++ wsX70 ++ wsX50)
def wsX7_feed : List Cond := .code yX7_feed cX7_feed 2 (some .int) :: ([.constant RX7 70 (-1000001), .fieldLink RX7 19 "SignDuty" "reader" "LSignDuty$Reader;", .constant RX7 110 (-1000003), .methodLink RX7 66 yX7_isWithin, .static yX7_isWithin, .initialized RX7, .code yX7_isWithin cX7_isWithin 3 (some .boolean), .methodLink RX7 106 yX4_isFull, .instanceMethod yX4_isFull, .selects RX4 yX4_isFull yX4_isFull, .initialized RX4, .code yX4_isFull cX4_isFull 1 (some .boolean), .fieldLink RX4 15 "SignDuty$Reader" "length" "I", .methodLink RX7 111 yX4_append, .instanceMethod yX4_append, .selects RX4 yX4_append yX4_append, .code yX4_append cX4_append 2 (some .int), .fieldLink RX4 11 "SignDuty$Reader" "tape" "[I", .methodLink RX4 31 yX4_isFull] ++ wsX70 ++ wsX40)
def wsX7_city_r1 : List Cond := [Cond.fieldLink RX7 19 "SignDuty" "reader" "LSignDuty$Reader;", Cond.fieldLink RX7 30 "SignDuty" "draft" "LSignDuty$City;", Cond.constant RX7 118 (-1000100), Cond.fieldLink RX7 119 "SignDuty$Reader" "faultPlace" "I", Cond.fieldLink RX7 26 "SignDuty" "city" "LSignDuty$City;", Cond.fieldLink RX7 40 "SignDuty" "acts" "LSignDuty$Acts;", Cond.fieldLink RX7 129 "SignDuty$City" "gestures" "I", Cond.methodLink RX7 114 yX4_reads, Cond.instanceMethod yX4_reads, Cond.selects RX4 yX4_reads yX4_reads, Cond.initialized RX4, Cond.code yX4_reads cX4_reads 3 (some .boolean), Cond.fieldLink RX4 25 "SignDuty$Reader" "fault" "I", Cond.fieldLink RX4 28 "SignDuty$Reader" "at" "I", Cond.fieldLink RX4 15 "SignDuty$Reader" "length" "I", Cond.methodLink RX4 35 yX4_readLaw, Cond.instanceMethod yX4_readLaw, Cond.selects RX4 yX4_readLaw yX4_readLaw, Cond.code yX4_readLaw cX4_readLaw 2 none, Cond.methodLink RX4 59 yX4_readSign, Cond.instanceMethod yX4_readSign, Cond.selects RX4 yX4_readSign yX4_readSign, Cond.code yX4_readSign cX4_readSign 2 none, Cond.methodLink RX4 39 yX4_next]
def wsX7_city_r2 : List Cond := [Cond.instanceMethod yX4_next, Cond.selects RX4 yX4_next yX4_next, Cond.code yX4_next cX4_next 1 (some .int), Cond.fieldLink RX4 11 "SignDuty$Reader" "tape" "[I", Cond.methodLink RX4 55 yX4_fail, Cond.instanceMethod yX4_fail, Cond.selects RX4 yX4_fail yX4_fail, Cond.code yX4_fail cX4_fail 2 none, Cond.methodLink RX4 102 yX4_failAt, Cond.instanceMethod yX4_failAt, Cond.selects RX4 yX4_failAt yX4_failAt, Cond.code yX4_failAt cX4_failAt 3 none, Cond.fieldLink RX4 19 "SignDuty$Reader" "lastFault" "I", Cond.fieldLink RX4 22 "SignDuty$Reader" "faultPlace" "I", Cond.methodLink RX4 62 yX4_readNumber, Cond.instanceMethod yX4_readNumber, Cond.selects RX4 yX4_readNumber yX4_readNumber, Cond.code yX4_readNumber cX4_readNumber 7 (some .int), Cond.static yX7_isWithin, Cond.initialized RX7, Cond.code yX7_isWithin cX7_isWithin 3 (some .boolean), Cond.methodLink RX4 66 yX2_begin, Cond.instanceMethod yX2_begin, Cond.selects RX2 yX2_begin yX2_begin]
def wsX7_city_r3 : List Cond := [Cond.initialized RX2, Cond.code yX2_begin cX2_begin 2 none, Cond.fieldLink RX2 9 "SignDuty$City" "stands" "Z", Cond.fieldLink RX2 15 "SignDuty$City" "rate" "I", Cond.fieldLink RX2 19 "SignDuty$City" "paid" "I", Cond.fieldLink RX2 22 "SignDuty$City" "streets" "I", Cond.fieldLink RX2 25 "SignDuty$City" "known" "I", Cond.fieldLink RX2 28 "SignDuty$City" "gestures" "I", Cond.methodLink RX4 43 yX4_readStreet, Cond.instanceMethod yX4_readStreet, Cond.selects RX4 yX4_readStreet yX4_readStreet, Cond.code yX4_readStreet cX4_readStreet 3 none, Cond.fieldLink RX4 71 "SignDuty$City" "streets" "I", Cond.fieldLink RX4 74 "SignDuty$City" "dim" "[I", Cond.fieldLink RX4 77 "SignDuty$City" "strict" "[I", Cond.methodLink RX4 46 yX3_ofLetter, Cond.static yX3_ofLetter, Cond.initialized RX3, Cond.code yX3_ofLetter cX3_ofLetter 1 (some .int), Cond.methodLink RX4 52 yX4_readGesture, Cond.instanceMethod yX4_readGesture, Cond.selects RX4 yX4_readGesture yX4_readGesture, Cond.code yX4_readGesture cX4_readGesture 3 none, Cond.fieldLink RX4 80 "SignDuty$City" "gestures" "I"]
def wsX7_city_r4 : List Cond := [Cond.fieldLink RX4 83 "SignDuty$City" "kind" "[I", Cond.fieldLink RX4 86 "SignDuty$City" "inches" "[I", Cond.fieldLink RX4 89 "SignDuty$City" "means" "[I", Cond.fieldLink RX4 92 "SignDuty$City" "takes" "[I", Cond.fieldLink RX4 95 "SignDuty$City" "made" "[I", Cond.methodLink RX7 122 yX2_become, Cond.instanceMethod yX2_become, Cond.selects RX2 yX2_become yX2_become, Cond.code yX2_become cX2_become 2 none, Cond.fieldLink RX2 31 "SignDuty$City" "dim" "[I", Cond.methodLink RX2 53 arraycopyName, Cond.native arraycopyName, Cond.static arraycopyName, Cond.initialized "java/lang/System", Cond.fieldLink RX2 35 "SignDuty$City" "strict" "[I", Cond.fieldLink RX2 38 "SignDuty$City" "kind" "[I", Cond.fieldLink RX2 41 "SignDuty$City" "inches" "[I", Cond.fieldLink RX2 44 "SignDuty$City" "means" "[I", Cond.fieldLink RX2 47 "SignDuty$City" "takes" "[I", Cond.fieldLink RX2 50 "SignDuty$City" "made" "[I", Cond.methodLink RX7 126 yX0_forgetAll, Cond.instanceMethod yX0_forgetAll, Cond.selects RX0 yX0_forgetAll yX0_forgetAll, Cond.initialized RX0]
def wsX7_city_r5 : List Cond := [Cond.code yX0_forgetAll cX0_forgetAll 1 none, Cond.fieldLink RX0 23 "SignDuty$Acts" "kept" "I"]
def wsX7_city : List Cond := .code yX7_city cX7_city 1 (some .int) :: ((wsX7_city_r1 ++ (wsX7_city_r2 ++ (wsX7_city_r3 ++ (wsX7_city_r4 ++ wsX7_city_r5)))) ++ wsX70 ++ wsX40 ++ wsX20 ++ wsX00)
def wsX7_fault : List Cond := .code yX7_fault cX7_fault 1 (some .int) :: ([.fieldLink RX7 19 "SignDuty" "reader" "LSignDuty$Reader;", .fieldLink RX7 132 "SignDuty$Reader" "lastFault" "I"] ++ wsX70 ++ wsX40)
def wsX7_isGesture : List Cond := .code yX7_isGesture cX7_isGesture 2 (some .boolean) :: ([.fieldLink RX7 26 "SignDuty" "city" "LSignDuty$City;", .fieldLink RX7 129 "SignDuty$City" "gestures" "I"] ++ wsX70 ++ wsX20)
def wsX7_isStreet : List Cond := .code yX7_isStreet cX7_isStreet 2 (some .boolean) :: ([.fieldLink RX7 26 "SignDuty" "city" "LSignDuty$City;", .fieldLink RX7 238 "SignDuty$City" "streets" "I"] ++ wsX70 ++ wsX20)
def wsX7_make_r1 : List Cond := [Cond.constant RX7 70 (-1000001), Cond.fieldLink RX7 26 "SignDuty" "city" "LSignDuty$City;", Cond.constant RX7 144 (-1000002), Cond.fieldLink RX7 149 "SignDuty$City" "paid" "I", Cond.constant RX7 152 (99999), Cond.constant RX7 110 (-1000003), Cond.fieldLink RX7 153 "SignDuty$City" "made" "[I", Cond.fieldLink RX7 40 "SignDuty" "acts" "LSignDuty$Acts;", Cond.methodLink RX7 135 yX7_isGesture, Cond.instanceMethod yX7_isGesture, Cond.selects RX7 yX7_isGesture yX7_isGesture, Cond.initialized RX7, Cond.code yX7_isGesture cX7_isGesture 2 (some .boolean), Cond.fieldLink RX7 129 "SignDuty$City" "gestures" "I", Cond.methodLink RX7 138 yX7_isStreet, Cond.instanceMethod yX7_isStreet, Cond.selects RX7 yX7_isStreet yX7_isStreet, Cond.code yX7_isStreet cX7_isStreet 2 (some .boolean), Cond.fieldLink RX7 238 "SignDuty$City" "streets" "I", Cond.methodLink RX7 141 yX2_isSeen, Cond.instanceMethod yX2_isSeen, Cond.selects RX2 yX2_isSeen yX2_isSeen, Cond.initialized RX2, Cond.code yX2_isSeen cX2_isSeen 4 (some .boolean)]
def wsX7_make_r2 : List Cond := [Cond.fieldLink RX2 38 "SignDuty$City" "kind" "[I", Cond.fieldLink RX2 41 "SignDuty$City" "inches" "[I", Cond.fieldLink RX2 31 "SignDuty$City" "dim" "[I", Cond.methodLink RX7 145 yX2_owes, Cond.instanceMethod yX2_owes, Cond.selects RX2 yX2_owes yX2_owes, Cond.code yX2_owes cX2_owes 3 (some .int), Cond.methodLink RX2 59 yX2_owesSuch, Cond.instanceMethod yX2_owesSuch, Cond.selects RX2 yX2_owesSuch yX2_owesSuch, Cond.code yX2_owesSuch cX2_owesSuch 5 (some .int), Cond.methodLink RX2 63 yX2_owesUnknown, Cond.instanceMethod yX2_owesUnknown, Cond.selects RX2 yX2_owesUnknown yX2_owesUnknown, Cond.code yX2_owesUnknown cX2_owesUnknown 5 (some .int), Cond.fieldLink RX2 15 "SignDuty$City" "rate" "I", Cond.fieldLink RX2 35 "SignDuty$City" "strict" "[I", Cond.methodLink RX2 70 Lib.Math.max.name, Cond.static Lib.Math.max.name, Cond.initialized "java/lang/Math", Cond.code Lib.Math.max.name Lib.Math.max.code 2 (some .int), Cond.methodLink RX2 66 yX2_isKnown, Cond.instanceMethod yX2_isKnown, Cond.selects RX2 yX2_isKnown yX2_isKnown]
def wsX7_make_r3 : List Cond := [Cond.code yX2_isKnown cX2_isKnown 2 (some .boolean), Cond.fieldLink RX2 25 "SignDuty$City" "known" "I", Cond.methodLink RX7 157 yX0_keep, Cond.instanceMethod yX0_keep, Cond.selects RX0 yX0_keep yX0_keep, Cond.initialized RX0, Cond.code yX0_keep cX0_keep 4 none, Cond.fieldLink RX0 9 "SignDuty$Acts" "deeds" "[I", Cond.fieldLink RX0 19 "SignDuty$Acts" "nextSlot" "I", Cond.fieldLink RX0 13 "SignDuty$Acts" "whats" "[I", Cond.fieldLink RX0 16 "SignDuty$Acts" "values" "[I", Cond.fieldLink RX0 23 "SignDuty$Acts" "kept" "I", Cond.methodLink RX0 26 Lib.Math.min.name, Cond.static Lib.Math.min.name, Cond.code Lib.Math.min.name Lib.Math.min.code 2 (some .int)]
def wsX7_make : List Cond := .code yX7_make cX7_make 4 (some .int) :: ((wsX7_make_r1 ++ (wsX7_make_r2 ++ wsX7_make_r3)) ++ wsX70 ++ wsX20 ++ wsX00)
def wsX7_dim_r1 : List Cond := [Cond.constant RX7 70 (-1000001), Cond.fieldLink RX7 26 "SignDuty" "city" "LSignDuty$City;", Cond.fieldLink RX7 160 "SignDuty$City" "dim" "[I", Cond.fieldLink RX7 40 "SignDuty" "acts" "LSignDuty$Acts;", Cond.methodLink RX7 138 yX7_isStreet, Cond.instanceMethod yX7_isStreet, Cond.selects RX7 yX7_isStreet yX7_isStreet, Cond.initialized RX7, Cond.code yX7_isStreet cX7_isStreet 2 (some .boolean), Cond.fieldLink RX7 238 "SignDuty$City" "streets" "I", Cond.methodLink RX7 66 yX7_isWithin, Cond.static yX7_isWithin, Cond.code yX7_isWithin cX7_isWithin 3 (some .boolean), Cond.methodLink RX7 157 yX0_keep, Cond.instanceMethod yX0_keep, Cond.selects RX0 yX0_keep yX0_keep, Cond.initialized RX0, Cond.code yX0_keep cX0_keep 4 none, Cond.fieldLink RX0 9 "SignDuty$Acts" "deeds" "[I", Cond.fieldLink RX0 19 "SignDuty$Acts" "nextSlot" "I", Cond.fieldLink RX0 13 "SignDuty$Acts" "whats" "[I", Cond.fieldLink RX0 16 "SignDuty$Acts" "values" "[I", Cond.fieldLink RX0 23 "SignDuty$Acts" "kept" "I", Cond.methodLink RX0 26 Lib.Math.min.name]
def wsX7_dim_r2 : List Cond := [Cond.static Lib.Math.min.name, Cond.initialized "java/lang/Math", Cond.code Lib.Math.min.name Lib.Math.min.code 2 (some .int)]
def wsX7_dim : List Cond := .code yX7_dim cX7_dim 4 (some .int) :: ((wsX7_dim_r1 ++ wsX7_dim_r2) ++ wsX70 ++ wsX20 ++ wsX00)
def wsX7_train_r1 : List Cond := [Cond.constant RX7 70 (-1000001), Cond.fieldLink RX7 26 "SignDuty" "city" "LSignDuty$City;", Cond.fieldLink RX7 163 "SignDuty$City" "inches" "[I", Cond.constant RX7 144 (-1000002), Cond.fieldLink RX7 40 "SignDuty" "acts" "LSignDuty$Acts;", Cond.methodLink RX7 135 yX7_isGesture, Cond.instanceMethod yX7_isGesture, Cond.selects RX7 yX7_isGesture yX7_isGesture, Cond.initialized RX7, Cond.code yX7_isGesture cX7_isGesture 2 (some .boolean), Cond.fieldLink RX7 129 "SignDuty$City" "gestures" "I", Cond.methodLink RX7 66 yX7_isWithin, Cond.static yX7_isWithin, Cond.code yX7_isWithin cX7_isWithin 3 (some .boolean), Cond.methodLink RX7 157 yX0_keep, Cond.instanceMethod yX0_keep, Cond.selects RX0 yX0_keep yX0_keep, Cond.initialized RX0, Cond.code yX0_keep cX0_keep 4 none, Cond.fieldLink RX0 9 "SignDuty$Acts" "deeds" "[I", Cond.fieldLink RX0 19 "SignDuty$Acts" "nextSlot" "I", Cond.fieldLink RX0 13 "SignDuty$Acts" "whats" "[I", Cond.fieldLink RX0 16 "SignDuty$Acts" "values" "[I", Cond.fieldLink RX0 23 "SignDuty$Acts" "kept" "I"]
def wsX7_train_r2 : List Cond := [Cond.methodLink RX0 26 Lib.Math.min.name, Cond.static Lib.Math.min.name, Cond.initialized "java/lang/Math", Cond.code Lib.Math.min.name Lib.Math.min.code 2 (some .int)]
def wsX7_train : List Cond := .code yX7_train cX7_train 3 (some .int) :: ((wsX7_train_r1 ++ wsX7_train_r2) ++ wsX70 ++ wsX20 ++ wsX00)
def wsX7_know_r1 : List Cond := [Cond.constant RX7 70 (-1000001), Cond.fieldLink RX7 26 "SignDuty" "city" "LSignDuty$City;", Cond.constant RX7 144 (-1000002), Cond.fieldLink RX7 40 "SignDuty" "acts" "LSignDuty$Acts;", Cond.fieldLink RX7 173 "SignDuty$City" "known" "I", Cond.methodLink RX7 138 yX7_isStreet, Cond.instanceMethod yX7_isStreet, Cond.selects RX7 yX7_isStreet yX7_isStreet, Cond.initialized RX7, Cond.code yX7_isStreet cX7_isStreet 2 (some .boolean), Cond.fieldLink RX7 238 "SignDuty$City" "streets" "I", Cond.methodLink RX7 66 yX7_isWithin, Cond.static yX7_isWithin, Cond.code yX7_isWithin cX7_isWithin 3 (some .boolean), Cond.methodLink RX7 166 yX2_isKnown, Cond.instanceMethod yX2_isKnown, Cond.selects RX2 yX2_isKnown yX2_isKnown, Cond.initialized RX2, Cond.code yX2_isKnown cX2_isKnown 2 (some .boolean), Cond.fieldLink RX2 25 "SignDuty$City" "known" "I", Cond.methodLink RX7 169 yX2_turnKnown, Cond.instanceMethod yX2_turnKnown, Cond.selects RX2 yX2_turnKnown yX2_turnKnown, Cond.code yX2_turnKnown cX2_turnKnown 2 none]
def wsX7_know_r2 : List Cond := [Cond.methodLink RX7 157 yX0_keep, Cond.instanceMethod yX0_keep, Cond.selects RX0 yX0_keep yX0_keep, Cond.initialized RX0, Cond.code yX0_keep cX0_keep 4 none, Cond.fieldLink RX0 9 "SignDuty$Acts" "deeds" "[I", Cond.fieldLink RX0 19 "SignDuty$Acts" "nextSlot" "I", Cond.fieldLink RX0 13 "SignDuty$Acts" "whats" "[I", Cond.fieldLink RX0 16 "SignDuty$Acts" "values" "[I", Cond.fieldLink RX0 23 "SignDuty$Acts" "kept" "I", Cond.methodLink RX0 26 Lib.Math.min.name, Cond.static Lib.Math.min.name, Cond.initialized "java/lang/Math", Cond.code Lib.Math.min.name Lib.Math.min.code 2 (some .int)]
def wsX7_know : List Cond := .code yX7_know cX7_know 3 (some .int) :: ((wsX7_know_r1 ++ wsX7_know_r2) ++ wsX70 ++ wsX20 ++ wsX00)
def wsX7_undo : List Cond := .code yX7_undo cX7_undo 1 (some .int) :: ([.fieldLink RX7 40 "SignDuty" "acts" "LSignDuty$Acts;", .fieldLink RX7 176 "SignDuty$Acts" "kept" "I", .constant RX7 144 (-1000002), .fieldLink RX7 26 "SignDuty" "city" "LSignDuty$City;", .methodLink RX7 179 yX0_takeBack, .instanceMethod yX0_takeBack, .selects RX0 yX0_takeBack yX0_takeBack, .initialized RX0, .code yX0_takeBack cX0_takeBack 4 none, .fieldLink RX0 19 "SignDuty$Acts" "nextSlot" "I", .fieldLink RX0 23 "SignDuty$Acts" "kept" "I", .fieldLink RX0 13 "SignDuty$Acts" "whats" "[I", .fieldLink RX0 16 "SignDuty$Acts" "values" "[I", .fieldLink RX0 9 "SignDuty$Acts" "deeds" "[I", .fieldLink RX0 32 "SignDuty$City" "made" "[I", .fieldLink RX0 37 "SignDuty$City" "paid" "I", .fieldLink RX0 40 "SignDuty$City" "dim" "[I", .fieldLink RX0 43 "SignDuty$City" "inches" "[I", .methodLink RX0 46 yX2_turnKnown, .instanceMethod yX2_turnKnown, .selects RX2 yX2_turnKnown yX2_turnKnown, .initialized RX2, .code yX2_turnKnown cX2_turnKnown 2 none, .fieldLink RX2 25 "SignDuty$City" "known" "I"] ++ wsX70 ++ wsX00 ++ wsX20)
def wsX7_gesture_r1 : List Cond := [Cond.constant RX7 70 (-1000001), Cond.fieldLink RX7 26 "SignDuty" "city" "LSignDuty$City;", Cond.fieldLink RX7 163 "SignDuty$City" "inches" "[I", Cond.fieldLink RX7 182 "SignDuty$City" "means" "[I", Cond.fieldLink RX7 185 "SignDuty$City" "takes" "[I", Cond.fieldLink RX7 153 "SignDuty$City" "made" "[I", Cond.methodLink RX7 135 yX7_isGesture, Cond.instanceMethod yX7_isGesture, Cond.selects RX7 yX7_isGesture yX7_isGesture, Cond.initialized RX7, Cond.code yX7_isGesture cX7_isGesture 2 (some .boolean), Cond.fieldLink RX7 129 "SignDuty$City" "gestures" "I", Cond.methodLink RX7 188 yX2_streetsThatSee, Cond.instanceMethod yX2_streetsThatSee, Cond.selects RX2 yX2_streetsThatSee yX2_streetsThatSee, Cond.initialized RX2, Cond.code yX2_streetsThatSee cX2_streetsThatSee 4 (some .int), Cond.fieldLink RX2 22 "SignDuty$City" "streets" "I", Cond.methodLink RX2 78 yX2_isSeen, Cond.instanceMethod yX2_isSeen, Cond.selects RX2 yX2_isSeen yX2_isSeen, Cond.code yX2_isSeen cX2_isSeen 4 (some .boolean), Cond.fieldLink RX2 38 "SignDuty$City" "kind" "[I", Cond.fieldLink RX2 41 "SignDuty$City" "inches" "[I"]
def wsX7_gesture_r2 : List Cond := [Cond.fieldLink RX2 31 "SignDuty$City" "dim" "[I"]
def wsX7_gesture : List Cond := .code yX7_gesture cX7_gesture 3 (some .int) :: ((wsX7_gesture_r1 ++ wsX7_gesture_r2) ++ wsX70 ++ wsX20)
def wsX7_street_r1 : List Cond := [Cond.constant RX7 70 (-1000001), Cond.fieldLink RX7 26 "SignDuty" "city" "LSignDuty$City;", Cond.fieldLink RX7 160 "SignDuty$City" "dim" "[I", Cond.fieldLink RX7 191 "SignDuty$City" "strict" "[I", Cond.methodLink RX7 138 yX7_isStreet, Cond.instanceMethod yX7_isStreet, Cond.selects RX7 yX7_isStreet yX7_isStreet, Cond.initialized RX7, Cond.code yX7_isStreet cX7_isStreet 2 (some .boolean), Cond.fieldLink RX7 238 "SignDuty$City" "streets" "I", Cond.methodLink RX7 166 yX2_isKnown, Cond.instanceMethod yX2_isKnown, Cond.selects RX2 yX2_isKnown yX2_isKnown, Cond.initialized RX2, Cond.code yX2_isKnown cX2_isKnown 2 (some .boolean), Cond.fieldLink RX2 25 "SignDuty$City" "known" "I", Cond.methodLink RX7 194 yX2_gesturesSeenIn, Cond.instanceMethod yX2_gesturesSeenIn, Cond.selects RX2 yX2_gesturesSeenIn yX2_gesturesSeenIn, Cond.code yX2_gesturesSeenIn cX2_gesturesSeenIn 4 (some .int), Cond.fieldLink RX2 28 "SignDuty$City" "gestures" "I", Cond.methodLink RX2 78 yX2_isSeen, Cond.instanceMethod yX2_isSeen, Cond.selects RX2 yX2_isSeen yX2_isSeen]
def wsX7_street_r2 : List Cond := [Cond.code yX2_isSeen cX2_isSeen 4 (some .boolean), Cond.fieldLink RX2 38 "SignDuty$City" "kind" "[I", Cond.fieldLink RX2 41 "SignDuty$City" "inches" "[I", Cond.fieldLink RX2 31 "SignDuty$City" "dim" "[I"]
def wsX7_street : List Cond := .code yX7_street cX7_street 3 (some .int) :: ((wsX7_street_r1 ++ wsX7_street_r2) ++ wsX70 ++ wsX20)
def wsX7_duty_r1 : List Cond := [Cond.fieldLink RX7 26 "SignDuty" "city" "LSignDuty$City;", Cond.constant RX7 70 (-1000001), Cond.methodLink RX7 135 yX7_isGesture, Cond.instanceMethod yX7_isGesture, Cond.selects RX7 yX7_isGesture yX7_isGesture, Cond.initialized RX7, Cond.code yX7_isGesture cX7_isGesture 2 (some .boolean), Cond.fieldLink RX7 129 "SignDuty$City" "gestures" "I", Cond.methodLink RX7 138 yX7_isStreet, Cond.instanceMethod yX7_isStreet, Cond.selects RX7 yX7_isStreet yX7_isStreet, Cond.code yX7_isStreet cX7_isStreet 2 (some .boolean), Cond.fieldLink RX7 238 "SignDuty$City" "streets" "I", Cond.methodLink RX7 145 yX2_owes, Cond.instanceMethod yX2_owes, Cond.selects RX2 yX2_owes yX2_owes, Cond.initialized RX2, Cond.code yX2_owes cX2_owes 3 (some .int), Cond.fieldLink RX2 38 "SignDuty$City" "kind" "[I", Cond.fieldLink RX2 41 "SignDuty$City" "inches" "[I", Cond.methodLink RX2 59 yX2_owesSuch, Cond.instanceMethod yX2_owesSuch, Cond.selects RX2 yX2_owesSuch yX2_owesSuch, Cond.code yX2_owesSuch cX2_owesSuch 5 (some .int)]
def wsX7_duty_r2 : List Cond := [Cond.methodLink RX2 63 yX2_owesUnknown, Cond.instanceMethod yX2_owesUnknown, Cond.selects RX2 yX2_owesUnknown yX2_owesUnknown, Cond.code yX2_owesUnknown cX2_owesUnknown 5 (some .int), Cond.fieldLink RX2 15 "SignDuty$City" "rate" "I", Cond.fieldLink RX2 35 "SignDuty$City" "strict" "[I", Cond.methodLink RX2 70 Lib.Math.max.name, Cond.static Lib.Math.max.name, Cond.initialized "java/lang/Math", Cond.code Lib.Math.max.name Lib.Math.max.code 2 (some .int), Cond.methodLink RX2 66 yX2_isKnown, Cond.instanceMethod yX2_isKnown, Cond.selects RX2 yX2_isKnown yX2_isKnown, Cond.code yX2_isKnown cX2_isKnown 2 (some .boolean), Cond.fieldLink RX2 25 "SignDuty$City" "known" "I"]
def wsX7_duty : List Cond := .code yX7_duty cX7_duty 3 (some .int) :: ((wsX7_duty_r1 ++ wsX7_duty_r2) ++ wsX70 ++ wsX20)
def wsX7_isMeaning : List Cond := .code yX7_isMeaning cX7_isMeaning 1 (some .boolean) :: ([.methodLink RX7 66 yX7_isWithin, .static yX7_isWithin, .initialized RX7, .code yX7_isWithin cX7_isWithin 3 (some .boolean)])
def wsX7_isStretch : List Cond := .code yX7_isStretch cX7_isStretch 3 (some .boolean) :: ([.methodLink RX7 138 yX7_isStreet, .instanceMethod yX7_isStreet, .selects RX7 yX7_isStreet yX7_isStreet, .initialized RX7, .code yX7_isStreet cX7_isStreet 2 (some .boolean), .fieldLink RX7 26 "SignDuty" "city" "LSignDuty$City;", .fieldLink RX7 238 "SignDuty$City" "streets" "I"] ++ wsX70 ++ wsX20)
def wsX7_tell_r1 : List Cond := [Cond.constant RX7 70 (-1000001), Cond.fieldLink RX7 47 "SignDuty" "teller" "LSignDuty$Teller;", Cond.fieldLink RX7 26 "SignDuty" "city" "LSignDuty$City;", Cond.methodLink RX7 197 yX7_isMeaning, Cond.static yX7_isMeaning, Cond.initialized RX7, Cond.code yX7_isMeaning cX7_isMeaning 1 (some .boolean), Cond.methodLink RX7 66 yX7_isWithin, Cond.static yX7_isWithin, Cond.code yX7_isWithin cX7_isWithin 3 (some .boolean), Cond.methodLink RX7 200 yX7_isStretch, Cond.instanceMethod yX7_isStretch, Cond.selects RX7 yX7_isStretch yX7_isStretch, Cond.code yX7_isStretch cX7_isStretch 3 (some .boolean), Cond.methodLink RX7 138 yX7_isStreet, Cond.instanceMethod yX7_isStreet, Cond.selects RX7 yX7_isStreet yX7_isStreet, Cond.code yX7_isStreet cX7_isStreet 2 (some .boolean), Cond.fieldLink RX7 238 "SignDuty$City" "streets" "I", Cond.methodLink RX7 203 yX6_leastDuty, Cond.instanceMethod yX6_leastDuty, Cond.selects RX6 yX6_leastDuty yX6_leastDuty, Cond.initialized RX6, Cond.code yX6_leastDuty cX6_leastDuty 6 (some .int)]
def wsX7_tell_r2 : List Cond := [Cond.fieldLink RX6 11 "SignDuty$Teller" "least" "[[I", Cond.constant RX6 20 (1000000), Cond.constant RX6 21 (-1000000), Cond.methodLink RX6 16 yX6_fill, Cond.instanceMethod yX6_fill, Cond.selects RX6 yX6_fill yX6_fill, Cond.code yX6_fill cX6_fill 8 none, Cond.fieldLink RX6 32 "SignDuty$City" "gestures" "I", Cond.fieldLink RX6 26 "SignDuty$City" "takes" "[I", Cond.methodLink RX6 36 yX2_tells, Cond.instanceMethod yX2_tells, Cond.selects RX2 yX2_tells yX2_tells, Cond.initialized RX2, Cond.code yX2_tells cX2_tells 4 (some .boolean), Cond.fieldLink RX2 44 "SignDuty$City" "means" "[I", Cond.methodLink RX2 78 yX2_isSeen, Cond.instanceMethod yX2_isSeen, Cond.selects RX2 yX2_isSeen yX2_isSeen, Cond.code yX2_isSeen cX2_isSeen 4 (some .boolean), Cond.fieldLink RX2 38 "SignDuty$City" "kind" "[I", Cond.fieldLink RX2 41 "SignDuty$City" "inches" "[I", Cond.fieldLink RX2 31 "SignDuty$City" "dim" "[I", Cond.methodLink RX6 40 yX2_owes, Cond.instanceMethod yX2_owes]
def wsX7_tell_r3 : List Cond := [Cond.selects RX2 yX2_owes yX2_owes, Cond.code yX2_owes cX2_owes 3 (some .int), Cond.methodLink RX2 59 yX2_owesSuch, Cond.instanceMethod yX2_owesSuch, Cond.selects RX2 yX2_owesSuch yX2_owesSuch, Cond.code yX2_owesSuch cX2_owesSuch 5 (some .int), Cond.methodLink RX2 63 yX2_owesUnknown, Cond.instanceMethod yX2_owesUnknown, Cond.selects RX2 yX2_owesUnknown yX2_owesUnknown, Cond.code yX2_owesUnknown cX2_owesUnknown 5 (some .int), Cond.fieldLink RX2 15 "SignDuty$City" "rate" "I", Cond.fieldLink RX2 35 "SignDuty$City" "strict" "[I", Cond.methodLink RX2 70 Lib.Math.max.name, Cond.static Lib.Math.max.name, Cond.initialized "java/lang/Math", Cond.code Lib.Math.max.name Lib.Math.max.code 2 (some .int), Cond.methodLink RX2 66 yX2_isKnown, Cond.instanceMethod yX2_isKnown, Cond.selects RX2 yX2_isKnown yX2_isKnown, Cond.code yX2_isKnown cX2_isKnown 2 (some .boolean), Cond.fieldLink RX2 25 "SignDuty$City" "known" "I", Cond.methodLink RX6 44 yX6_offer, Cond.instanceMethod yX6_offer, Cond.selects RX6 yX6_offer yX6_offer]
def wsX7_tell_r4 : List Cond := [Cond.code yX6_offer cX6_offer 6 none, Cond.methodLink RX6 48 Lib.Math.min.name, Cond.static Lib.Math.min.name, Cond.code Lib.Math.min.name Lib.Math.min.code 2 (some .int), Cond.methodLink RX7 207 yX6_gestureOfCheapest, Cond.instanceMethod yX6_gestureOfCheapest, Cond.selects RX6 yX6_gestureOfCheapest yX6_gestureOfCheapest, Cond.code yX6_gestureOfCheapest cX6_gestureOfCheapest 10 (some .int), Cond.methodLink RX6 22 yX6_firstOfCheapest, Cond.instanceMethod yX6_firstOfCheapest, Cond.selects RX6 yX6_firstOfCheapest yX6_firstOfCheapest, Cond.code yX6_firstOfCheapest cX6_firstOfCheapest 7 (some .int)]
def wsX7_tell : List Cond := .code yX7_tell cX7_tell 6 (some .int) :: ((wsX7_tell_r1 ++ (wsX7_tell_r2 ++ (wsX7_tell_r3 ++ wsX7_tell_r4))) ++ wsX70 ++ wsX20 ++ wsX60)
def wsX7_shut_r1 : List Cond := [Cond.fieldLink RX7 26 "SignDuty" "city" "LSignDuty$City;", Cond.fieldLink RX7 211 "SignDuty$City" "stands" "Z", Cond.constant RX7 144 (-1000002), Cond.constant RX7 70 (-1000001), Cond.methodLink RX7 197 yX7_isMeaning, Cond.static yX7_isMeaning, Cond.initialized RX7, Cond.code yX7_isMeaning cX7_isMeaning 1 (some .boolean), Cond.methodLink RX7 66 yX7_isWithin, Cond.static yX7_isWithin, Cond.code yX7_isWithin cX7_isWithin 3 (some .boolean), Cond.methodLink RX7 215 yX2_streetsWithout, Cond.instanceMethod yX2_streetsWithout, Cond.selects RX2 yX2_streetsWithout yX2_streetsWithout, Cond.initialized RX2, Cond.code yX2_streetsWithout cX2_streetsWithout 4 (some .int), Cond.fieldLink RX2 22 "SignDuty$City" "streets" "I", Cond.constant RX2 85 (-1000000), Cond.methodLink RX2 82 yX2_leastTime, Cond.instanceMethod yX2_leastTime, Cond.selects RX2 yX2_leastTime yX2_leastTime, Cond.code yX2_leastTime cX2_leastTime 5 (some .int), Cond.fieldLink RX2 28 "SignDuty$City" "gestures" "I", Cond.fieldLink RX2 47 "SignDuty$City" "takes" "[I"]
def wsX7_shut_r2 : List Cond := [Cond.methodLink RX2 86 yX2_tells, Cond.instanceMethod yX2_tells, Cond.selects RX2 yX2_tells yX2_tells, Cond.code yX2_tells cX2_tells 4 (some .boolean), Cond.fieldLink RX2 44 "SignDuty$City" "means" "[I", Cond.methodLink RX2 78 yX2_isSeen, Cond.instanceMethod yX2_isSeen, Cond.selects RX2 yX2_isSeen yX2_isSeen, Cond.code yX2_isSeen cX2_isSeen 4 (some .boolean), Cond.fieldLink RX2 38 "SignDuty$City" "kind" "[I", Cond.fieldLink RX2 41 "SignDuty$City" "inches" "[I", Cond.fieldLink RX2 31 "SignDuty$City" "dim" "[I"]
def wsX7_shut : List Cond := .code yX7_shut cX7_shut 2 (some .int) :: ((wsX7_shut_r1 ++ wsX7_shut_r2) ++ wsX70 ++ wsX20)
def wsX7_quick_r1 : List Cond := [Cond.constant RX7 70 (-1000001), Cond.fieldLink RX7 26 "SignDuty" "city" "LSignDuty$City;", Cond.constant RX7 221 (-1000000), Cond.methodLink RX7 197 yX7_isMeaning, Cond.static yX7_isMeaning, Cond.initialized RX7, Cond.code yX7_isMeaning cX7_isMeaning 1 (some .boolean), Cond.methodLink RX7 66 yX7_isWithin, Cond.static yX7_isWithin, Cond.code yX7_isWithin cX7_isWithin 3 (some .boolean), Cond.methodLink RX7 200 yX7_isStretch, Cond.instanceMethod yX7_isStretch, Cond.selects RX7 yX7_isStretch yX7_isStretch, Cond.code yX7_isStretch cX7_isStretch 3 (some .boolean), Cond.methodLink RX7 138 yX7_isStreet, Cond.instanceMethod yX7_isStreet, Cond.selects RX7 yX7_isStreet yX7_isStreet, Cond.code yX7_isStreet cX7_isStreet 2 (some .boolean), Cond.fieldLink RX7 238 "SignDuty$City" "streets" "I", Cond.methodLink RX7 218 yX2_leastTime, Cond.instanceMethod yX2_leastTime, Cond.selects RX2 yX2_leastTime yX2_leastTime, Cond.initialized RX2, Cond.code yX2_leastTime cX2_leastTime 5 (some .int)]
def wsX7_quick_r2 : List Cond := [Cond.constant RX2 85 (-1000000), Cond.fieldLink RX2 28 "SignDuty$City" "gestures" "I", Cond.fieldLink RX2 47 "SignDuty$City" "takes" "[I", Cond.methodLink RX2 86 yX2_tells, Cond.instanceMethod yX2_tells, Cond.selects RX2 yX2_tells yX2_tells, Cond.code yX2_tells cX2_tells 4 (some .boolean), Cond.fieldLink RX2 44 "SignDuty$City" "means" "[I", Cond.methodLink RX2 78 yX2_isSeen, Cond.instanceMethod yX2_isSeen, Cond.selects RX2 yX2_isSeen yX2_isSeen, Cond.code yX2_isSeen cX2_isSeen 4 (some .boolean), Cond.fieldLink RX2 38 "SignDuty$City" "kind" "[I", Cond.fieldLink RX2 41 "SignDuty$City" "inches" "[I", Cond.fieldLink RX2 31 "SignDuty$City" "dim" "[I"]
def wsX7_quick : List Cond := .code yX7_quick cX7_quick 7 (some .int) :: ((wsX7_quick_r1 ++ wsX7_quick_r2) ++ wsX70 ++ wsX20)
def wsX7_refusalOfThread_r1 : List Cond := [Cond.constant RX7 70 (-1000001), Cond.fieldLink RX7 10 "SignDuty" "rows" "LSignDuty$Rows;", Cond.methodLink RX7 62 yX5_isRow, Cond.static yX5_isRow, Cond.initialized RX5, Cond.code yX5_isRow cX5_isRow 1 (some .boolean), Cond.methodLink RX7 66 yX7_isWithin, Cond.static yX7_isWithin, Cond.initialized RX7, Cond.code yX7_isWithin cX7_isWithin 3 (some .boolean), Cond.methodLink RX7 82 yX5_findingOf, Cond.instanceMethod yX5_findingOf, Cond.selects RX5 yX5_findingOf yX5_findingOf, Cond.code yX5_findingOf cX5_findingOf 4 (some .int), Cond.methodLink RX5 23 yX5_isMissing, Cond.instanceMethod yX5_isMissing, Cond.selects RX5 yX5_isMissing yX5_isMissing, Cond.code yX5_isMissing cX5_isMissing 2 (some .boolean), Cond.fieldLink RX5 16 "SignDuty$Rows" "lengths" "[I", Cond.methodLink RX5 27 yX5_reaches, Cond.instanceMethod yX5_reaches, Cond.selects RX5 yX5_reaches yX5_reaches, Cond.code yX5_reaches cX5_reaches 4 (some .boolean), Cond.methodLink RX7 71 yX7_found]
def wsX7_refusalOfThread_r2 : List Cond := [Cond.instanceMethod yX7_found, Cond.selects RX7 yX7_found yX7_found, Cond.code yX7_found cX7_found 2 (some .int), Cond.fieldLink RX7 58 "SignDuty" "lastFinding" "I", Cond.constant RX7 283 (-1000010), Cond.methodLink RX7 284 yX5_at, Cond.instanceMethod yX5_at, Cond.selects RX5 yX5_at yX5_at, Cond.code yX5_at cX5_at 3 (some .int), Cond.fieldLink RX5 13 "SignDuty$Rows" "items" "[[I", Cond.methodLink RX7 138 yX7_isStreet, Cond.instanceMethod yX7_isStreet, Cond.selects RX7 yX7_isStreet yX7_isStreet, Cond.code yX7_isStreet cX7_isStreet 2 (some .boolean), Cond.fieldLink RX7 26 "SignDuty" "city" "LSignDuty$City;", Cond.fieldLink RX7 238 "SignDuty$City" "streets" "I"]
def wsX7_refusalOfThread : List Cond := .code yX7_refusalOfThread cX7_refusalOfThread 6 (some .int) :: ((wsX7_refusalOfThread_r1 ++ wsX7_refusalOfThread_r2) ++ wsX70 ++ wsX50 ++ wsX20)
def wsX7_owesAlong_r1 : List Cond := [Cond.fieldLink RX7 10 "SignDuty" "rows" "LSignDuty$Rows;", Cond.fieldLink RX7 26 "SignDuty" "city" "LSignDuty$City;", Cond.methodLink RX7 284 yX5_at, Cond.instanceMethod yX5_at, Cond.selects RX5 yX5_at yX5_at, Cond.initialized RX5, Cond.code yX5_at cX5_at 3 (some .int), Cond.fieldLink RX5 13 "SignDuty$Rows" "items" "[[I", Cond.methodLink RX7 138 yX7_isStreet, Cond.instanceMethod yX7_isStreet, Cond.selects RX7 yX7_isStreet yX7_isStreet, Cond.initialized RX7, Cond.code yX7_isStreet cX7_isStreet 2 (some .boolean), Cond.fieldLink RX7 238 "SignDuty$City" "streets" "I", Cond.methodLink RX7 287 yX2_owesSuch, Cond.instanceMethod yX2_owesSuch, Cond.selects RX2 yX2_owesSuch yX2_owesSuch, Cond.initialized RX2, Cond.code yX2_owesSuch cX2_owesSuch 5 (some .int), Cond.methodLink RX2 63 yX2_owesUnknown, Cond.instanceMethod yX2_owesUnknown, Cond.selects RX2 yX2_owesUnknown yX2_owesUnknown, Cond.code yX2_owesUnknown cX2_owesUnknown 5 (some .int), Cond.fieldLink RX2 15 "SignDuty$City" "rate" "I"]
def wsX7_owesAlong_r2 : List Cond := [Cond.fieldLink RX2 35 "SignDuty$City" "strict" "[I", Cond.methodLink RX2 70 Lib.Math.max.name, Cond.static Lib.Math.max.name, Cond.initialized "java/lang/Math", Cond.code Lib.Math.max.name Lib.Math.max.code 2 (some .int), Cond.methodLink RX2 66 yX2_isKnown, Cond.instanceMethod yX2_isKnown, Cond.selects RX2 yX2_isKnown yX2_isKnown, Cond.code yX2_isKnown cX2_isKnown 2 (some .boolean), Cond.fieldLink RX2 25 "SignDuty$City" "known" "I"]
def wsX7_owesAlong : List Cond := .code yX7_owesAlong cX7_owesAlong 9 (some .boolean) :: ((wsX7_owesAlong_r1 ++ wsX7_owesAlong_r2) ++ wsX70 ++ wsX50 ++ wsX20)
def wsX7_isSeenAlong : List Cond := .code yX7_isSeenAlong cX7_isSeenAlong 7 (some .boolean) :: ([.fieldLink RX7 10 "SignDuty" "rows" "LSignDuty$Rows;", .fieldLink RX7 26 "SignDuty" "city" "LSignDuty$City;", .methodLink RX7 284 yX5_at, .instanceMethod yX5_at, .selects RX5 yX5_at yX5_at, .initialized RX5, .code yX5_at cX5_at 3 (some .int), .fieldLink RX5 13 "SignDuty$Rows" "items" "[[I", .methodLink RX7 138 yX7_isStreet, .instanceMethod yX7_isStreet, .selects RX7 yX7_isStreet yX7_isStreet, .initialized RX7, .code yX7_isStreet cX7_isStreet 2 (some .boolean), .fieldLink RX7 238 "SignDuty$City" "streets" "I", .methodLink RX7 141 yX2_isSeen, .instanceMethod yX2_isSeen, .selects RX2 yX2_isSeen yX2_isSeen, .initialized RX2, .code yX2_isSeen cX2_isSeen 4 (some .boolean), .fieldLink RX2 38 "SignDuty$City" "kind" "[I", .fieldLink RX2 41 "SignDuty$City" "inches" "[I", .fieldLink RX2 31 "SignDuty$City" "dim" "[I"] ++ wsX70 ++ wsX50 ++ wsX20)
def wsX7_thread_r1 : List Cond := [Cond.fieldLink RX7 26 "SignDuty" "city" "LSignDuty$City;", Cond.fieldLink RX7 211 "SignDuty$City" "stands" "Z", Cond.constant RX7 144 (-1000002), Cond.fieldLink RX7 129 "SignDuty$City" "gestures" "I", Cond.fieldLink RX7 225 "SignDuty$City" "kind" "[I", Cond.fieldLink RX7 163 "SignDuty$City" "inches" "[I", Cond.methodLink RX7 222 yX7_refusalOfThread, Cond.instanceMethod yX7_refusalOfThread, Cond.selects RX7 yX7_refusalOfThread yX7_refusalOfThread, Cond.initialized RX7, Cond.code yX7_refusalOfThread cX7_refusalOfThread 6 (some .int), Cond.constant RX7 70 (-1000001), Cond.fieldLink RX7 10 "SignDuty" "rows" "LSignDuty$Rows;", Cond.methodLink RX7 62 yX5_isRow, Cond.static yX5_isRow, Cond.initialized RX5, Cond.code yX5_isRow cX5_isRow 1 (some .boolean), Cond.methodLink RX7 66 yX7_isWithin, Cond.static yX7_isWithin, Cond.code yX7_isWithin cX7_isWithin 3 (some .boolean), Cond.methodLink RX7 82 yX5_findingOf, Cond.instanceMethod yX5_findingOf, Cond.selects RX5 yX5_findingOf yX5_findingOf, Cond.code yX5_findingOf cX5_findingOf 4 (some .int)]
def wsX7_thread_r2 : List Cond := [Cond.methodLink RX5 23 yX5_isMissing, Cond.instanceMethod yX5_isMissing, Cond.selects RX5 yX5_isMissing yX5_isMissing, Cond.code yX5_isMissing cX5_isMissing 2 (some .boolean), Cond.fieldLink RX5 16 "SignDuty$Rows" "lengths" "[I", Cond.methodLink RX5 27 yX5_reaches, Cond.instanceMethod yX5_reaches, Cond.selects RX5 yX5_reaches yX5_reaches, Cond.code yX5_reaches cX5_reaches 4 (some .boolean), Cond.methodLink RX7 71 yX7_found, Cond.instanceMethod yX7_found, Cond.selects RX7 yX7_found yX7_found, Cond.code yX7_found cX7_found 2 (some .int), Cond.fieldLink RX7 58 "SignDuty" "lastFinding" "I", Cond.constant RX7 283 (-1000010), Cond.methodLink RX7 284 yX5_at, Cond.instanceMethod yX5_at, Cond.selects RX5 yX5_at yX5_at, Cond.code yX5_at cX5_at 3 (some .int), Cond.fieldLink RX5 13 "SignDuty$Rows" "items" "[[I", Cond.methodLink RX7 138 yX7_isStreet, Cond.instanceMethod yX7_isStreet, Cond.selects RX7 yX7_isStreet yX7_isStreet, Cond.code yX7_isStreet cX7_isStreet 2 (some .boolean)]
def wsX7_thread_r3 : List Cond := [Cond.fieldLink RX7 238 "SignDuty$City" "streets" "I", Cond.methodLink RX7 228 yX7_owesAlong, Cond.instanceMethod yX7_owesAlong, Cond.selects RX7 yX7_owesAlong yX7_owesAlong, Cond.code yX7_owesAlong cX7_owesAlong 9 (some .boolean), Cond.methodLink RX7 287 yX2_owesSuch, Cond.instanceMethod yX2_owesSuch, Cond.selects RX2 yX2_owesSuch yX2_owesSuch, Cond.initialized RX2, Cond.code yX2_owesSuch cX2_owesSuch 5 (some .int), Cond.methodLink RX2 63 yX2_owesUnknown, Cond.instanceMethod yX2_owesUnknown, Cond.selects RX2 yX2_owesUnknown yX2_owesUnknown, Cond.code yX2_owesUnknown cX2_owesUnknown 5 (some .int), Cond.fieldLink RX2 15 "SignDuty$City" "rate" "I", Cond.fieldLink RX2 35 "SignDuty$City" "strict" "[I", Cond.methodLink RX2 70 Lib.Math.max.name, Cond.static Lib.Math.max.name, Cond.initialized "java/lang/Math", Cond.code Lib.Math.max.name Lib.Math.max.code 2 (some .int), Cond.methodLink RX2 66 yX2_isKnown, Cond.instanceMethod yX2_isKnown, Cond.selects RX2 yX2_isKnown yX2_isKnown, Cond.code yX2_isKnown cX2_isKnown 2 (some .boolean)]
def wsX7_thread_r4 : List Cond := [Cond.fieldLink RX2 25 "SignDuty$City" "known" "I", Cond.methodLink RX7 232 yX7_isSeenAlong, Cond.instanceMethod yX7_isSeenAlong, Cond.selects RX7 yX7_isSeenAlong yX7_isSeenAlong, Cond.code yX7_isSeenAlong cX7_isSeenAlong 7 (some .boolean), Cond.methodLink RX7 141 yX2_isSeen, Cond.instanceMethod yX2_isSeen, Cond.selects RX2 yX2_isSeen yX2_isSeen, Cond.code yX2_isSeen cX2_isSeen 4 (some .boolean), Cond.fieldLink RX2 38 "SignDuty$City" "kind" "[I", Cond.fieldLink RX2 41 "SignDuty$City" "inches" "[I", Cond.fieldLink RX2 31 "SignDuty$City" "dim" "[I", Cond.methodLink RX7 79 yX7_foundNothing, Cond.instanceMethod yX7_foundNothing, Cond.selects RX7 yX7_foundNothing yX7_foundNothing, Cond.code yX7_foundNothing cX7_foundNothing 2 (some .int)]
def wsX7_thread : List Cond := .code yX7_thread cX7_thread 8 (some .int) :: ((wsX7_thread_r1 ++ (wsX7_thread_r2 ++ (wsX7_thread_r3 ++ wsX7_thread_r4))) ++ wsX70 ++ wsX20 ++ wsX50)
def wsX7_inches_r1 : List Cond := [Cond.constant RX7 70 (-1000001), Cond.fieldLink RX7 26 "SignDuty" "city" "LSignDuty$City;", Cond.fieldLink RX7 225 "SignDuty$City" "kind" "[I", Cond.methodLink RX7 135 yX7_isGesture, Cond.instanceMethod yX7_isGesture, Cond.selects RX7 yX7_isGesture yX7_isGesture, Cond.initialized RX7, Cond.code yX7_isGesture cX7_isGesture 2 (some .boolean), Cond.fieldLink RX7 129 "SignDuty$City" "gestures" "I", Cond.methodLink RX7 222 yX7_refusalOfThread, Cond.instanceMethod yX7_refusalOfThread, Cond.selects RX7 yX7_refusalOfThread yX7_refusalOfThread, Cond.code yX7_refusalOfThread cX7_refusalOfThread 6 (some .int), Cond.fieldLink RX7 10 "SignDuty" "rows" "LSignDuty$Rows;", Cond.methodLink RX7 62 yX5_isRow, Cond.static yX5_isRow, Cond.initialized RX5, Cond.code yX5_isRow cX5_isRow 1 (some .boolean), Cond.methodLink RX7 66 yX7_isWithin, Cond.static yX7_isWithin, Cond.code yX7_isWithin cX7_isWithin 3 (some .boolean), Cond.methodLink RX7 82 yX5_findingOf, Cond.instanceMethod yX5_findingOf, Cond.selects RX5 yX5_findingOf yX5_findingOf]
def wsX7_inches_r2 : List Cond := [Cond.code yX5_findingOf cX5_findingOf 4 (some .int), Cond.methodLink RX5 23 yX5_isMissing, Cond.instanceMethod yX5_isMissing, Cond.selects RX5 yX5_isMissing yX5_isMissing, Cond.code yX5_isMissing cX5_isMissing 2 (some .boolean), Cond.fieldLink RX5 16 "SignDuty$Rows" "lengths" "[I", Cond.methodLink RX5 27 yX5_reaches, Cond.instanceMethod yX5_reaches, Cond.selects RX5 yX5_reaches yX5_reaches, Cond.code yX5_reaches cX5_reaches 4 (some .boolean), Cond.methodLink RX7 71 yX7_found, Cond.instanceMethod yX7_found, Cond.selects RX7 yX7_found yX7_found, Cond.code yX7_found cX7_found 2 (some .int), Cond.fieldLink RX7 58 "SignDuty" "lastFinding" "I", Cond.constant RX7 283 (-1000010), Cond.methodLink RX7 284 yX5_at, Cond.instanceMethod yX5_at, Cond.selects RX5 yX5_at yX5_at, Cond.code yX5_at cX5_at 3 (some .int), Cond.fieldLink RX5 13 "SignDuty$Rows" "items" "[[I", Cond.methodLink RX7 138 yX7_isStreet, Cond.instanceMethod yX7_isStreet, Cond.selects RX7 yX7_isStreet yX7_isStreet]
def wsX7_inches_r3 : List Cond := [Cond.code yX7_isStreet cX7_isStreet 2 (some .boolean), Cond.fieldLink RX7 238 "SignDuty$City" "streets" "I", Cond.methodLink RX7 228 yX7_owesAlong, Cond.instanceMethod yX7_owesAlong, Cond.selects RX7 yX7_owesAlong yX7_owesAlong, Cond.code yX7_owesAlong cX7_owesAlong 9 (some .boolean), Cond.methodLink RX7 287 yX2_owesSuch, Cond.instanceMethod yX2_owesSuch, Cond.selects RX2 yX2_owesSuch yX2_owesSuch, Cond.initialized RX2, Cond.code yX2_owesSuch cX2_owesSuch 5 (some .int), Cond.methodLink RX2 63 yX2_owesUnknown, Cond.instanceMethod yX2_owesUnknown, Cond.selects RX2 yX2_owesUnknown yX2_owesUnknown, Cond.code yX2_owesUnknown cX2_owesUnknown 5 (some .int), Cond.fieldLink RX2 15 "SignDuty$City" "rate" "I", Cond.fieldLink RX2 35 "SignDuty$City" "strict" "[I", Cond.methodLink RX2 70 Lib.Math.max.name, Cond.static Lib.Math.max.name, Cond.initialized "java/lang/Math", Cond.code Lib.Math.max.name Lib.Math.max.code 2 (some .int), Cond.methodLink RX2 66 yX2_isKnown, Cond.instanceMethod yX2_isKnown, Cond.selects RX2 yX2_isKnown yX2_isKnown]
def wsX7_inches_r4 : List Cond := [Cond.code yX2_isKnown cX2_isKnown 2 (some .boolean), Cond.fieldLink RX2 25 "SignDuty$City" "known" "I", Cond.methodLink RX7 79 yX7_foundNothing, Cond.instanceMethod yX7_foundNothing, Cond.selects RX7 yX7_foundNothing yX7_foundNothing, Cond.code yX7_foundNothing cX7_foundNothing 2 (some .int)]
def wsX7_inches : List Cond := .code yX7_inches cX7_inches 8 (some .int) :: ((wsX7_inches_r1 ++ (wsX7_inches_r2 ++ (wsX7_inches_r3 ++ wsX7_inches_r4))) ++ wsX70 ++ wsX20 ++ wsX50)
def wsX7_sorts_r1 : List Cond := [Cond.constant RX7 70 (-1000001), Cond.fieldLink RX7 26 "SignDuty" "city" "LSignDuty$City;", Cond.fieldLink RX7 163 "SignDuty$City" "inches" "[I", Cond.methodLink RX7 135 yX7_isGesture, Cond.instanceMethod yX7_isGesture, Cond.selects RX7 yX7_isGesture yX7_isGesture, Cond.initialized RX7, Cond.code yX7_isGesture cX7_isGesture 2 (some .boolean), Cond.fieldLink RX7 129 "SignDuty$City" "gestures" "I", Cond.methodLink RX7 222 yX7_refusalOfThread, Cond.instanceMethod yX7_refusalOfThread, Cond.selects RX7 yX7_refusalOfThread yX7_refusalOfThread, Cond.code yX7_refusalOfThread cX7_refusalOfThread 6 (some .int), Cond.fieldLink RX7 10 "SignDuty" "rows" "LSignDuty$Rows;", Cond.methodLink RX7 62 yX5_isRow, Cond.static yX5_isRow, Cond.initialized RX5, Cond.code yX5_isRow cX5_isRow 1 (some .boolean), Cond.methodLink RX7 66 yX7_isWithin, Cond.static yX7_isWithin, Cond.code yX7_isWithin cX7_isWithin 3 (some .boolean), Cond.methodLink RX7 82 yX5_findingOf, Cond.instanceMethod yX5_findingOf, Cond.selects RX5 yX5_findingOf yX5_findingOf]
def wsX7_sorts_r2 : List Cond := [Cond.code yX5_findingOf cX5_findingOf 4 (some .int), Cond.methodLink RX5 23 yX5_isMissing, Cond.instanceMethod yX5_isMissing, Cond.selects RX5 yX5_isMissing yX5_isMissing, Cond.code yX5_isMissing cX5_isMissing 2 (some .boolean), Cond.fieldLink RX5 16 "SignDuty$Rows" "lengths" "[I", Cond.methodLink RX5 27 yX5_reaches, Cond.instanceMethod yX5_reaches, Cond.selects RX5 yX5_reaches yX5_reaches, Cond.code yX5_reaches cX5_reaches 4 (some .boolean), Cond.methodLink RX7 71 yX7_found, Cond.instanceMethod yX7_found, Cond.selects RX7 yX7_found yX7_found, Cond.code yX7_found cX7_found 2 (some .int), Cond.fieldLink RX7 58 "SignDuty" "lastFinding" "I", Cond.constant RX7 283 (-1000010), Cond.methodLink RX7 284 yX5_at, Cond.instanceMethod yX5_at, Cond.selects RX5 yX5_at yX5_at, Cond.code yX5_at cX5_at 3 (some .int), Cond.fieldLink RX5 13 "SignDuty$Rows" "items" "[[I", Cond.methodLink RX7 138 yX7_isStreet, Cond.instanceMethod yX7_isStreet, Cond.selects RX7 yX7_isStreet yX7_isStreet]
def wsX7_sorts_r3 : List Cond := [Cond.code yX7_isStreet cX7_isStreet 2 (some .boolean), Cond.fieldLink RX7 238 "SignDuty$City" "streets" "I", Cond.methodLink RX7 228 yX7_owesAlong, Cond.instanceMethod yX7_owesAlong, Cond.selects RX7 yX7_owesAlong yX7_owesAlong, Cond.code yX7_owesAlong cX7_owesAlong 9 (some .boolean), Cond.methodLink RX7 287 yX2_owesSuch, Cond.instanceMethod yX2_owesSuch, Cond.selects RX2 yX2_owesSuch yX2_owesSuch, Cond.initialized RX2, Cond.code yX2_owesSuch cX2_owesSuch 5 (some .int), Cond.methodLink RX2 63 yX2_owesUnknown, Cond.instanceMethod yX2_owesUnknown, Cond.selects RX2 yX2_owesUnknown yX2_owesUnknown, Cond.code yX2_owesUnknown cX2_owesUnknown 5 (some .int), Cond.fieldLink RX2 15 "SignDuty$City" "rate" "I", Cond.fieldLink RX2 35 "SignDuty$City" "strict" "[I", Cond.methodLink RX2 70 Lib.Math.max.name, Cond.static Lib.Math.max.name, Cond.initialized "java/lang/Math", Cond.code Lib.Math.max.name Lib.Math.max.code 2 (some .int), Cond.methodLink RX2 66 yX2_isKnown, Cond.instanceMethod yX2_isKnown, Cond.selects RX2 yX2_isKnown yX2_isKnown]
def wsX7_sorts_r4 : List Cond := [Cond.code yX2_isKnown cX2_isKnown 2 (some .boolean), Cond.fieldLink RX2 25 "SignDuty$City" "known" "I", Cond.methodLink RX7 79 yX7_foundNothing, Cond.instanceMethod yX7_foundNothing, Cond.selects RX7 yX7_foundNothing yX7_foundNothing, Cond.code yX7_foundNothing cX7_foundNothing 2 (some .int)]
def wsX7_sorts : List Cond := .code yX7_sorts cX7_sorts 8 (some .int) :: ((wsX7_sorts_r1 ++ (wsX7_sorts_r2 ++ (wsX7_sorts_r3 ++ wsX7_sorts_r4))) ++ wsX70 ++ wsX20 ++ wsX50)
def wsX7_saved_r1 : List Cond := [Cond.constant RX7 70 (-1000001), Cond.fieldLink RX7 26 "SignDuty" "city" "LSignDuty$City;", Cond.fieldLink RX7 238 "SignDuty$City" "streets" "I", Cond.methodLink RX7 135 yX7_isGesture, Cond.instanceMethod yX7_isGesture, Cond.selects RX7 yX7_isGesture yX7_isGesture, Cond.initialized RX7, Cond.code yX7_isGesture cX7_isGesture 2 (some .boolean), Cond.fieldLink RX7 129 "SignDuty$City" "gestures" "I", Cond.methodLink RX7 145 yX2_owes, Cond.instanceMethod yX2_owes, Cond.selects RX2 yX2_owes yX2_owes, Cond.initialized RX2, Cond.code yX2_owes cX2_owes 3 (some .int), Cond.fieldLink RX2 38 "SignDuty$City" "kind" "[I", Cond.fieldLink RX2 41 "SignDuty$City" "inches" "[I", Cond.methodLink RX2 59 yX2_owesSuch, Cond.instanceMethod yX2_owesSuch, Cond.selects RX2 yX2_owesSuch yX2_owesSuch, Cond.code yX2_owesSuch cX2_owesSuch 5 (some .int), Cond.methodLink RX2 63 yX2_owesUnknown, Cond.instanceMethod yX2_owesUnknown, Cond.selects RX2 yX2_owesUnknown yX2_owesUnknown, Cond.code yX2_owesUnknown cX2_owesUnknown 5 (some .int)]
def wsX7_saved_r2 : List Cond := [Cond.fieldLink RX2 15 "SignDuty$City" "rate" "I", Cond.fieldLink RX2 35 "SignDuty$City" "strict" "[I", Cond.methodLink RX2 70 Lib.Math.max.name, Cond.static Lib.Math.max.name, Cond.initialized "java/lang/Math", Cond.code Lib.Math.max.name Lib.Math.max.code 2 (some .int), Cond.methodLink RX2 66 yX2_isKnown, Cond.instanceMethod yX2_isKnown, Cond.selects RX2 yX2_isKnown yX2_isKnown, Cond.code yX2_isKnown cX2_isKnown 2 (some .boolean), Cond.fieldLink RX2 25 "SignDuty$City" "known" "I", Cond.methodLink RX7 241 yX2_owesIfKnown, Cond.instanceMethod yX2_owesIfKnown, Cond.selects RX2 yX2_owesIfKnown yX2_owesIfKnown, Cond.code yX2_owesIfKnown cX2_owesIfKnown 3 (some .int)]
def wsX7_saved : List Cond := .code yX7_saved cX7_saved 4 (some .int) :: ((wsX7_saved_r1 ++ wsX7_saved_r2) ++ wsX70 ++ wsX20)
def wsX7_worst_r1 : List Cond := [Cond.constant RX7 70 (-1000001), Cond.fieldLink RX7 26 "SignDuty" "city" "LSignDuty$City;", Cond.fieldLink RX7 238 "SignDuty$City" "streets" "I", Cond.constant RX7 221 (-1000000), Cond.methodLink RX7 135 yX7_isGesture, Cond.instanceMethod yX7_isGesture, Cond.selects RX7 yX7_isGesture yX7_isGesture, Cond.initialized RX7, Cond.code yX7_isGesture cX7_isGesture 2 (some .boolean), Cond.fieldLink RX7 129 "SignDuty$City" "gestures" "I", Cond.methodLink RX7 66 yX7_isWithin, Cond.static yX7_isWithin, Cond.code yX7_isWithin cX7_isWithin 3 (some .boolean), Cond.methodLink RX7 244 yX2_dearestStreet, Cond.instanceMethod yX2_dearestStreet, Cond.selects RX2 yX2_dearestStreet yX2_dearestStreet, Cond.initialized RX2, Cond.code yX2_dearestStreet cX2_dearestStreet 4 (some .int), Cond.fieldLink RX2 22 "SignDuty$City" "streets" "I", Cond.methodLink RX2 90 yX2_owes, Cond.instanceMethod yX2_owes, Cond.selects RX2 yX2_owes yX2_owes, Cond.code yX2_owes cX2_owes 3 (some .int), Cond.fieldLink RX2 38 "SignDuty$City" "kind" "[I"]
def wsX7_worst_r2 : List Cond := [Cond.fieldLink RX2 41 "SignDuty$City" "inches" "[I", Cond.methodLink RX2 59 yX2_owesSuch, Cond.instanceMethod yX2_owesSuch, Cond.selects RX2 yX2_owesSuch yX2_owesSuch, Cond.code yX2_owesSuch cX2_owesSuch 5 (some .int), Cond.methodLink RX2 63 yX2_owesUnknown, Cond.instanceMethod yX2_owesUnknown, Cond.selects RX2 yX2_owesUnknown yX2_owesUnknown, Cond.code yX2_owesUnknown cX2_owesUnknown 5 (some .int), Cond.fieldLink RX2 15 "SignDuty$City" "rate" "I", Cond.fieldLink RX2 35 "SignDuty$City" "strict" "[I", Cond.methodLink RX2 70 Lib.Math.max.name, Cond.static Lib.Math.max.name, Cond.initialized "java/lang/Math", Cond.code Lib.Math.max.name Lib.Math.max.code 2 (some .int), Cond.methodLink RX2 66 yX2_isKnown, Cond.instanceMethod yX2_isKnown, Cond.selects RX2 yX2_isKnown yX2_isKnown, Cond.code yX2_isKnown cX2_isKnown 2 (some .boolean), Cond.fieldLink RX2 25 "SignDuty$City" "known" "I", Cond.methodLink RX7 145 yX2_owes]
def wsX7_worst : List Cond := .code yX7_worst cX7_worst 4 (some .int) :: ((wsX7_worst_r1 ++ wsX7_worst_r2) ++ wsX70 ++ wsX20)
def wsX7_tenthsWithin_r1 : List Cond := [Cond.fieldLink RX7 225 "SignDuty$City" "kind" "[I", Cond.fieldLink RX7 163 "SignDuty$City" "inches" "[I", Cond.methodLink RX7 287 yX2_owesSuch, Cond.instanceMethod yX2_owesSuch, Cond.selects RX2 yX2_owesSuch yX2_owesSuch, Cond.initialized RX2, Cond.code yX2_owesSuch cX2_owesSuch 5 (some .int), Cond.methodLink RX2 63 yX2_owesUnknown, Cond.instanceMethod yX2_owesUnknown, Cond.selects RX2 yX2_owesUnknown yX2_owesUnknown, Cond.code yX2_owesUnknown cX2_owesUnknown 5 (some .int), Cond.fieldLink RX2 15 "SignDuty$City" "rate" "I", Cond.fieldLink RX2 35 "SignDuty$City" "strict" "[I", Cond.methodLink RX2 70 Lib.Math.max.name, Cond.static Lib.Math.max.name, Cond.initialized "java/lang/Math", Cond.code Lib.Math.max.name Lib.Math.max.code 2 (some .int), Cond.methodLink RX2 66 yX2_isKnown, Cond.instanceMethod yX2_isKnown, Cond.selects RX2 yX2_isKnown yX2_isKnown, Cond.code yX2_isKnown cX2_isKnown 2 (some .boolean), Cond.fieldLink RX2 25 "SignDuty$City" "known" "I", Cond.methodLink RX7 247 yX7_tenthsWithin, Cond.static yX7_tenthsWithin]
def wsX7_tenthsWithin_r2 : List Cond := [Cond.initialized RX7]
def wsX7_tenthsWithin : List Cond := .code yX7_tenthsWithin cX7_tenthsWithin 10 (some .int) :: ((wsX7_tenthsWithin_r1 ++ wsX7_tenthsWithin_r2) ++ wsX20)
def wsX7_commonDivisor : List Cond := .code yX7_commonDivisor cX7_commonDivisor 6 (some .int) :: ([])
def wsX7_tremble_r1 : List Cond := [Cond.constant RX7 70 (-1000001), Cond.fieldLink RX7 26 "SignDuty" "city" "LSignDuty$City;", Cond.methodLink RX7 253 Lib.Math.max.name, Cond.static Lib.Math.max.name, Cond.initialized "java/lang/Math", Cond.code Lib.Math.max.name Lib.Math.max.code 2 (some .int), Cond.methodLink RX7 135 yX7_isGesture, Cond.instanceMethod yX7_isGesture, Cond.selects RX7 yX7_isGesture yX7_isGesture, Cond.initialized RX7, Cond.code yX7_isGesture cX7_isGesture 2 (some .boolean), Cond.fieldLink RX7 129 "SignDuty$City" "gestures" "I", Cond.methodLink RX7 200 yX7_isStretch, Cond.instanceMethod yX7_isStretch, Cond.selects RX7 yX7_isStretch yX7_isStretch, Cond.code yX7_isStretch cX7_isStretch 3 (some .boolean), Cond.methodLink RX7 138 yX7_isStreet, Cond.instanceMethod yX7_isStreet, Cond.selects RX7 yX7_isStreet yX7_isStreet, Cond.code yX7_isStreet cX7_isStreet 2 (some .boolean), Cond.fieldLink RX7 238 "SignDuty$City" "streets" "I", Cond.methodLink RX7 66 yX7_isWithin, Cond.static yX7_isWithin, Cond.code yX7_isWithin cX7_isWithin 3 (some .boolean)]
def wsX7_tremble_r2 : List Cond := [Cond.methodLink RX7 247 yX7_tenthsWithin, Cond.static yX7_tenthsWithin, Cond.code yX7_tenthsWithin cX7_tenthsWithin 10 (some .int), Cond.fieldLink RX7 225 "SignDuty$City" "kind" "[I", Cond.fieldLink RX7 163 "SignDuty$City" "inches" "[I", Cond.methodLink RX7 287 yX2_owesSuch, Cond.instanceMethod yX2_owesSuch, Cond.selects RX2 yX2_owesSuch yX2_owesSuch, Cond.initialized RX2, Cond.code yX2_owesSuch cX2_owesSuch 5 (some .int), Cond.methodLink RX2 63 yX2_owesUnknown, Cond.instanceMethod yX2_owesUnknown, Cond.selects RX2 yX2_owesUnknown yX2_owesUnknown, Cond.code yX2_owesUnknown cX2_owesUnknown 5 (some .int), Cond.fieldLink RX2 15 "SignDuty$City" "rate" "I", Cond.fieldLink RX2 35 "SignDuty$City" "strict" "[I", Cond.methodLink RX2 70 Lib.Math.max.name, Cond.methodLink RX2 66 yX2_isKnown, Cond.instanceMethod yX2_isKnown, Cond.selects RX2 yX2_isKnown yX2_isKnown, Cond.code yX2_isKnown cX2_isKnown 2 (some .boolean), Cond.fieldLink RX2 25 "SignDuty$City" "known" "I", Cond.methodLink RX7 250 yX7_commonDivisor, Cond.static yX7_commonDivisor]
def wsX7_tremble_r3 : List Cond := [Cond.code yX7_commonDivisor cX7_commonDivisor 6 (some .int)]
def wsX7_tremble : List Cond := .code yX7_tremble cX7_tremble 10 (some .int) :: ((wsX7_tremble_r1 ++ (wsX7_tremble_r2 ++ wsX7_tremble_r3)) ++ wsX70 ++ wsX20)
def wsX7_image_r1 : List Cond := [Cond.constant RX7 70 (-1000001), Cond.fieldLink RX7 26 "SignDuty" "city" "LSignDuty$City;", Cond.fieldLink RX7 211 "SignDuty$City" "stands" "Z", Cond.constant RX7 144 (-1000002), Cond.fieldLink RX7 33 "SignDuty" "images" "[LSignDuty$City;", Cond.methodLink RX7 66 yX7_isWithin, Cond.static yX7_isWithin, Cond.initialized RX7, Cond.code yX7_isWithin cX7_isWithin 3 (some .boolean), Cond.methodLink RX7 122 yX2_become, Cond.instanceMethod yX2_become, Cond.selects RX2 yX2_become yX2_become, Cond.initialized RX2, Cond.code yX2_become cX2_become 2 none, Cond.fieldLink RX2 9 "SignDuty$City" "stands" "Z", Cond.fieldLink RX2 15 "SignDuty$City" "rate" "I", Cond.fieldLink RX2 19 "SignDuty$City" "paid" "I", Cond.fieldLink RX2 22 "SignDuty$City" "streets" "I", Cond.fieldLink RX2 25 "SignDuty$City" "known" "I", Cond.fieldLink RX2 28 "SignDuty$City" "gestures" "I", Cond.fieldLink RX2 31 "SignDuty$City" "dim" "[I", Cond.methodLink RX2 53 arraycopyName, Cond.native arraycopyName, Cond.static arraycopyName]
def wsX7_image_r2 : List Cond := [Cond.initialized "java/lang/System", Cond.fieldLink RX2 35 "SignDuty$City" "strict" "[I", Cond.fieldLink RX2 38 "SignDuty$City" "kind" "[I", Cond.fieldLink RX2 41 "SignDuty$City" "inches" "[I", Cond.fieldLink RX2 44 "SignDuty$City" "means" "[I", Cond.fieldLink RX2 47 "SignDuty$City" "takes" "[I", Cond.fieldLink RX2 50 "SignDuty$City" "made" "[I"]
def wsX7_image : List Cond := .code yX7_image cX7_image 2 (some .int) :: ((wsX7_image_r1 ++ wsX7_image_r2) ++ wsX70 ++ wsX20)
def wsX7_restore_r1 : List Cond := [Cond.constant RX7 70 (-1000001), Cond.fieldLink RX7 33 "SignDuty" "images" "[LSignDuty$City;", Cond.fieldLink RX7 211 "SignDuty$City" "stands" "Z", Cond.constant RX7 144 (-1000002), Cond.fieldLink RX7 26 "SignDuty" "city" "LSignDuty$City;", Cond.fieldLink RX7 40 "SignDuty" "acts" "LSignDuty$Acts;", Cond.methodLink RX7 66 yX7_isWithin, Cond.static yX7_isWithin, Cond.initialized RX7, Cond.code yX7_isWithin cX7_isWithin 3 (some .boolean), Cond.methodLink RX7 122 yX2_become, Cond.instanceMethod yX2_become, Cond.selects RX2 yX2_become yX2_become, Cond.initialized RX2, Cond.code yX2_become cX2_become 2 none, Cond.fieldLink RX2 9 "SignDuty$City" "stands" "Z", Cond.fieldLink RX2 15 "SignDuty$City" "rate" "I", Cond.fieldLink RX2 19 "SignDuty$City" "paid" "I", Cond.fieldLink RX2 22 "SignDuty$City" "streets" "I", Cond.fieldLink RX2 25 "SignDuty$City" "known" "I", Cond.fieldLink RX2 28 "SignDuty$City" "gestures" "I", Cond.fieldLink RX2 31 "SignDuty$City" "dim" "[I", Cond.methodLink RX2 53 arraycopyName, Cond.native arraycopyName]
def wsX7_restore_r2 : List Cond := [Cond.static arraycopyName, Cond.initialized "java/lang/System", Cond.fieldLink RX2 35 "SignDuty$City" "strict" "[I", Cond.fieldLink RX2 38 "SignDuty$City" "kind" "[I", Cond.fieldLink RX2 41 "SignDuty$City" "inches" "[I", Cond.fieldLink RX2 44 "SignDuty$City" "means" "[I", Cond.fieldLink RX2 47 "SignDuty$City" "takes" "[I", Cond.fieldLink RX2 50 "SignDuty$City" "made" "[I", Cond.methodLink RX7 126 yX0_forgetAll, Cond.instanceMethod yX0_forgetAll, Cond.selects RX0 yX0_forgetAll yX0_forgetAll, Cond.initialized RX0, Cond.code yX0_forgetAll cX0_forgetAll 1 none, Cond.fieldLink RX0 23 "SignDuty$Acts" "kept" "I"]
def wsX7_restore : List Cond := .code yX7_restore cX7_restore 2 (some .int) :: ((wsX7_restore_r1 ++ wsX7_restore_r2) ++ wsX70 ++ wsX20 ++ wsX00)
def wsX7_kind : List Cond := .code yX7_kind cX7_kind 2 (some .int) :: ([.fieldLink RX7 26 "SignDuty" "city" "LSignDuty$City;", .fieldLink RX7 225 "SignDuty$City" "kind" "[I", .constant RX7 70 (-1000001), .methodLink RX7 135 yX7_isGesture, .instanceMethod yX7_isGesture, .selects RX7 yX7_isGesture yX7_isGesture, .initialized RX7, .code yX7_isGesture cX7_isGesture 2 (some .boolean), .fieldLink RX7 129 "SignDuty$City" "gestures" "I"] ++ wsX70 ++ wsX20)
def wsX7_as_r1 : List Cond := [Cond.constant RX7 70 (-1000001), Cond.fieldLink RX7 26 "SignDuty" "city" "LSignDuty$City;", Cond.fieldLink RX7 225 "SignDuty$City" "kind" "[I", Cond.methodLink RX7 135 yX7_isGesture, Cond.instanceMethod yX7_isGesture, Cond.selects RX7 yX7_isGesture yX7_isGesture, Cond.initialized RX7, Cond.code yX7_isGesture cX7_isGesture 2 (some .boolean), Cond.fieldLink RX7 129 "SignDuty$City" "gestures" "I", Cond.methodLink RX7 66 yX7_isWithin, Cond.static yX7_isWithin, Cond.code yX7_isWithin cX7_isWithin 3 (some .boolean), Cond.methodLink RX7 258 yX3_isOneOf, Cond.static yX3_isOneOf, Cond.initialized RX3, Cond.code yX3_isOneOf cX3_isOneOf 4 (some .boolean), Cond.fieldLink RX3 7 "SignDuty$Kinds" "WIDER" "[I", Cond.methodLink RX3 13 yX3_widerThan, Cond.static yX3_widerThan, Cond.code yX3_widerThan cX3_widerThan 1 (some .int), Cond.methodLink RX7 79 yX7_foundNothing, Cond.instanceMethod yX7_foundNothing, Cond.selects RX7 yX7_foundNothing yX7_foundNothing, Cond.code yX7_foundNothing cX7_foundNothing 2 (some .int)]
def wsX7_as_r2 : List Cond := [Cond.fieldLink RX7 58 "SignDuty" "lastFinding" "I", Cond.methodLink RX7 71 yX7_found, Cond.instanceMethod yX7_found, Cond.selects RX7 yX7_found yX7_found, Cond.code yX7_found cX7_found 2 (some .int), Cond.constant RX7 283 (-1000010)]
def wsX7_as : List Cond := .code yX7_as cX7_as 3 (some .int) :: ((wsX7_as_r1 ++ wsX7_as_r2) ++ wsX70 ++ wsX20)
def wsX7_ask_r1 : List Cond := [Cond.constant RX7 70 (-1000001), Cond.fieldLink RX7 54 "SignDuty" "asks" "LSignDuty$Asks;", Cond.fieldLink RX7 26 "SignDuty" "city" "LSignDuty$City;", Cond.methodLink RX7 135 yX7_isGesture, Cond.instanceMethod yX7_isGesture, Cond.selects RX7 yX7_isGesture yX7_isGesture, Cond.initialized RX7, Cond.code yX7_isGesture cX7_isGesture 2 (some .boolean), Cond.fieldLink RX7 129 "SignDuty$City" "gestures" "I", Cond.methodLink RX7 66 yX7_isWithin, Cond.static yX7_isWithin, Cond.code yX7_isWithin cX7_isWithin 3 (some .boolean), Cond.methodLink RX7 261 yX1_answer, Cond.instanceMethod yX1_answer, Cond.selects RX1 yX1_answer yX1_answer, Cond.initialized RX1, Cond.code yX1_answer cX1_answer 4 (some .int), Cond.fieldLink RX1 15 "SignDuty$Asks" "left" "I", Cond.methodLink RX1 19 yX1_asked, Cond.instanceMethod yX1_asked, Cond.selects RX1 yX1_asked yX1_asked, Cond.code yX1_asked cX1_asked 6 (some .int), Cond.fieldLink RX1 24 "SignDuty$Asks" "SIZE_BODIES" "[I", Cond.fieldLink RX1 27 "SignDuty$Asks" "MARK_BODIES" "[I"]
def wsX7_ask_r2 : List Cond := [Cond.fieldLink RX1 30 "SignDuty$City" "kind" "[I", Cond.methodLink RX1 35 yX1_bodyFor, Cond.static yX1_bodyFor, Cond.code yX1_bodyFor cX1_bodyFor 4 (some .int), Cond.methodLink RX1 43 yX3_widerThan, Cond.static yX3_widerThan, Cond.initialized RX3, Cond.code yX3_widerThan cX3_widerThan 1 (some .int), Cond.fieldLink RX3 7 "SignDuty$Kinds" "WIDER" "[I", Cond.methodLink RX1 39 yX1_given, Cond.instanceMethod yX1_given, Cond.selects RX1 yX1_given yX1_given, Cond.code yX1_given cX1_given 6 (some .int), Cond.fieldLink RX1 53 "SignDuty$City" "takes" "[I", Cond.fieldLink RX1 56 "SignDuty$City" "inches" "[I", Cond.methodLink RX1 49 yX1_leave, Cond.instanceMethod yX1_leave, Cond.selects RX1 yX1_leave yX1_leave, Cond.code yX1_leave cX1_leave 2 none, Cond.fieldLink RX1 11 "SignDuty$Asks" "numbers" "[I"]
def wsX7_ask : List Cond := .code yX7_ask cX7_ask 3 (some .int) :: ((wsX7_ask_r1 ++ wsX7_ask_r2) ++ wsX70 ++ wsX20 ++ wsX10)
def wsX7_trace : List Cond := .code yX7_trace cX7_trace 2 (some .int) :: ([.fieldLink RX7 54 "SignDuty" "asks" "LSignDuty$Asks;", .methodLink RX7 265 yX1_numberLeft, .instanceMethod yX1_numberLeft, .selects RX1 yX1_numberLeft yX1_numberLeft, .initialized RX1, .code yX1_numberLeft cX1_numberLeft 2 (some .int), .fieldLink RX1 15 "SignDuty$Asks" "left" "I", .fieldLink RX1 11 "SignDuty$Asks" "numbers" "[I", .constant RX1 23 (-1000000)] ++ wsX70 ++ wsX10)
def wsJ6_bitCount_0f7a4 : List Cond := .code yJ6_bitCount_0f7a4 cJ6_bitCount_0f7a4 1 (some .int) :: ([.constant RJ6 265 (1431655765), .constant RJ6 266 (858993459), .constant RJ6 267 (252645135)])
def wsX7_count_r1 : List Cond := [Cond.fieldLink RX7 10 "SignDuty" "rows" "LSignDuty$Rows;", Cond.fieldLink RX7 26 "SignDuty" "city" "LSignDuty$City;", Cond.fieldLink RX7 238 "SignDuty$City" "streets" "I", Cond.fieldLink RX7 129 "SignDuty$City" "gestures" "I", Cond.fieldLink RX7 149 "SignDuty$City" "paid" "I", Cond.fieldLink RX7 272 "SignDuty$City" "rate" "I", Cond.fieldLink RX7 173 "SignDuty$City" "known" "I", Cond.fieldLink RX7 40 "SignDuty" "acts" "LSignDuty$Acts;", Cond.fieldLink RX7 176 "SignDuty$Acts" "kept" "I", Cond.fieldLink RX7 19 "SignDuty" "reader" "LSignDuty$Reader;", Cond.fieldLink RX7 280 "SignDuty$Reader" "length" "I", Cond.constant RX7 70 (-1000001), Cond.methodLink RX7 268 yX5_howMany, Cond.instanceMethod yX5_howMany, Cond.selects RX5 yX5_howMany yX5_howMany, Cond.initialized RX5, Cond.code yX5_howMany cX5_howMany 3 (some .int), Cond.methodLink RX5 23 yX5_isMissing, Cond.instanceMethod yX5_isMissing, Cond.selects RX5 yX5_isMissing yX5_isMissing, Cond.code yX5_isMissing cX5_isMissing 2 (some .boolean), Cond.fieldLink RX5 16 "SignDuty$Rows" "lengths" "[I", Cond.methodLink RX7 275 yJ6_bitCount_0f7a4, Cond.static yJ6_bitCount_0f7a4]
def wsX7_count_r2 : List Cond := [Cond.initialized RJ6, Cond.code yJ6_bitCount_0f7a4 cJ6_bitCount_0f7a4 1 (some .int), Cond.constant RJ6 265 (1431655765), Cond.constant RJ6 266 (858993459), Cond.constant RJ6 267 (252645135)]
def wsX7_count : List Cond := .code yX7_count cX7_count 2 (some .int) :: ((wsX7_count_r1 ++ wsX7_count_r2) ++ wsX70 ++ wsX20 ++ wsX00 ++ wsX40 ++ wsX50)
def wsX7_status : List Cond := .code yX7_status cX7_status 1 (some .int) :: ([.fieldLink RX7 58 "SignDuty" "lastFinding" "I"] ++ wsX70)
def wsX8_init : List Cond := .code yX8_init cX8_init 1 none :: ([.methodLink RX8 1 objectInit, .instanceMethod objectInit, .code objectInit ⟨#[0xb1]⟩ 1 none, .arrayClass .int, .fieldLink RX8 7 "SignDutyModel" "row" "[I", .arrayClass .boolean, .fieldLink RX8 13 "SignDutyModel" "isKept" "[Z", .fieldLink RX8 17 "SignDutyModel" "lanes" "[I", .fieldLink RX8 20 "SignDutyModel" "sizes" "[I", .fieldLink RX8 23 "SignDutyModel" "items" "[I", .fieldLink RX8 26 "SignDutyModel" "tape" "[I", .fieldLink RX8 29 "SignDutyModel" "trace" "[I", .fieldLink RX8 32 "SignDutyModel" "costs" "[I"] ++ wsX80)
def wsX8_in : List Cond := .code yX8_in cX8_in 6 (some .boolean) :: ([])
def wsX8_has : List Cond := .code yX8_has cX8_has 2 (some .boolean) :: ([])
def wsX8_bits : List Cond := .code yX8_bits cX8_bits 3 (some .int) :: ([])
def wsX8_find : List Cond := .code yX8_find cX8_find 2 (some .int) :: ([.fieldLink RX8 35 "SignDutyModel" "status" "I", .constant RX8 39 (-1000010)] ++ wsX80)
def wsX8_well : List Cond := .code yX8_well cX8_well 2 (some .int) :: ([.fieldLink RX8 35 "SignDutyModel" "status" "I"] ++ wsX80)
def wsX8_isRow : List Cond := .code yX8_isRow cX8_isRow 1 (some .boolean) :: ([.constantLong RX8 40 (7), .methodLink RX8 42 yX8_in, .static yX8_in, .initialized RX8, .code yX8_in cX8_in 6 (some .boolean)])
def wsX8_row : List Cond := .code yX8_row cX8_row 5 (some .int) :: ([.constantLong RX8 50 (2), .constant RX8 52 (-1000001), .fieldLink RX8 17 "SignDutyModel" "lanes" "[I", .fieldLink RX8 20 "SignDutyModel" "sizes" "[I", .fieldLink RX8 23 "SignDutyModel" "items" "[I", .methodLink RX8 46 yX8_isRow, .static yX8_isRow, .initialized RX8, .code yX8_isRow cX8_isRow 1 (some .boolean), .constantLong RX8 40 (7), .methodLink RX8 42 yX8_in, .static yX8_in, .code yX8_in cX8_in 6 (some .boolean), .methodLink RX8 53 yX8_find, .instanceMethod yX8_find, .selects RX8 yX8_find yX8_find, .code yX8_find cX8_find 2 (some .int), .fieldLink RX8 35 "SignDutyModel" "status" "I", .constant RX8 39 (-1000010), .methodLink RX8 57 yX8_well, .instanceMethod yX8_well, .selects RX8 yX8_well yX8_well, .code yX8_well cX8_well 2 (some .int)] ++ wsX80)
def wsX8_narrow : List Cond := .code yX8_narrow cX8_narrow 2 (some .int) :: ([])
def wsX8_set_r1 : List Cond := [Cond.constant RX8 52 (-1000001), Cond.fieldLink RX8 20 "SignDutyModel" "sizes" "[I", Cond.fieldLink RX8 23 "SignDutyModel" "items" "[I", Cond.fieldLink RX8 17 "SignDutyModel" "lanes" "[I", Cond.methodLink RX8 46 yX8_isRow, Cond.static yX8_isRow, Cond.initialized RX8, Cond.code yX8_isRow cX8_isRow 1 (some .boolean), Cond.constantLong RX8 40 (7), Cond.methodLink RX8 42 yX8_in, Cond.static yX8_in, Cond.code yX8_in cX8_in 6 (some .boolean), Cond.methodLink RX8 53 yX8_find, Cond.instanceMethod yX8_find, Cond.selects RX8 yX8_find yX8_find, Cond.code yX8_find cX8_find 2 (some .int), Cond.fieldLink RX8 35 "SignDutyModel" "status" "I", Cond.constant RX8 39 (-1000010), Cond.methodLink RX8 60 yX8_narrow, Cond.static yX8_narrow, Cond.code yX8_narrow cX8_narrow 2 (some .int), Cond.methodLink RX8 57 yX8_well, Cond.instanceMethod yX8_well, Cond.selects RX8 yX8_well yX8_well]
def wsX8_set_r2 : List Cond := [Cond.code yX8_well cX8_well 2 (some .int)]
def wsX8_set : List Cond := .code yX8_set cX8_set 4 (some .int) :: ((wsX8_set_r1 ++ wsX8_set_r2) ++ wsX80)
def wsX8_isSpan : List Cond := .code yX8_isSpan cX8_isSpan 4 (some .boolean) :: ([.fieldLink RX8 20 "SignDutyModel" "sizes" "[I"] ++ wsX80)
def wsX8_copy_r1 : List Cond := [Cond.constant RX8 52 (-1000001), Cond.fieldLink RX8 20 "SignDutyModel" "sizes" "[I", Cond.fieldLink RX8 17 "SignDutyModel" "lanes" "[I", Cond.fieldLink RX8 23 "SignDutyModel" "items" "[I", Cond.methodLink RX8 46 yX8_isRow, Cond.static yX8_isRow, Cond.initialized RX8, Cond.code yX8_isRow cX8_isRow 1 (some .boolean), Cond.constantLong RX8 40 (7), Cond.methodLink RX8 42 yX8_in, Cond.static yX8_in, Cond.code yX8_in cX8_in 6 (some .boolean), Cond.methodLink RX8 53 yX8_find, Cond.instanceMethod yX8_find, Cond.selects RX8 yX8_find yX8_find, Cond.code yX8_find cX8_find 2 (some .int), Cond.fieldLink RX8 35 "SignDutyModel" "status" "I", Cond.constant RX8 39 (-1000010), Cond.methodLink RX8 64 yX8_isSpan, Cond.instanceMethod yX8_isSpan, Cond.selects RX8 yX8_isSpan yX8_isSpan, Cond.code yX8_isSpan cX8_isSpan 4 (some .boolean), Cond.methodLink RX8 57 yX8_well, Cond.instanceMethod yX8_well]
def wsX8_copy_r2 : List Cond := [Cond.selects RX8 yX8_well yX8_well, Cond.code yX8_well cX8_well 2 (some .int)]
def wsX8_copy : List Cond := .code yX8_copy cX8_copy 9 (some .int) :: ((wsX8_copy_r1 ++ wsX8_copy_r2) ++ wsX80)
def wsX8_drop : List Cond := .code yX8_drop cX8_drop 3 (some .int) :: ([.constant RX8 52 (-1000001), .fieldLink RX8 20 "SignDutyModel" "sizes" "[I", .methodLink RX8 46 yX8_isRow, .static yX8_isRow, .initialized RX8, .code yX8_isRow cX8_isRow 1 (some .boolean), .constantLong RX8 40 (7), .methodLink RX8 42 yX8_in, .static yX8_in, .code yX8_in cX8_in 6 (some .boolean), .methodLink RX8 53 yX8_find, .instanceMethod yX8_find, .selects RX8 yX8_find yX8_find, .code yX8_find cX8_find 2 (some .int), .fieldLink RX8 35 "SignDutyModel" "status" "I", .constant RX8 39 (-1000010), .methodLink RX8 57 yX8_well, .instanceMethod yX8_well, .selects RX8 yX8_well yX8_well, .code yX8_well cX8_well 2 (some .int)] ++ wsX80)
def wsX8_feed : List Cond := .code yX8_feed cX8_feed 2 (some .int) :: ([.constantLong RX8 68 (255), .constant RX8 52 (-1000001), .fieldLink RX8 70 "SignDutyModel" "length" "I", .constant RX8 73 (-1000003), .fieldLink RX8 26 "SignDutyModel" "tape" "[I", .methodLink RX8 42 yX8_in, .static yX8_in, .initialized RX8, .code yX8_in cX8_in 6 (some .boolean)] ++ wsX80)
def wsX8_isLetter : List Cond := .code yX8_isLetter cX8_isLetter 2 (some .boolean) :: ([.fieldLink RX8 74 "SignDutyModel" "at" "I", .fieldLink RX8 70 "SignDutyModel" "length" "I", .fieldLink RX8 26 "SignDutyModel" "tape" "[I"] ++ wsX80)
def wsX8_isFigure : List Cond := .code yX8_isFigure cX8_isFigure 2 (some .boolean) :: ([.fieldLink RX8 70 "SignDutyModel" "length" "I", .fieldLink RX8 26 "SignDutyModel" "tape" "[I", .constantLong RX8 77 (48), .constantLong RX8 79 (57), .methodLink RX8 42 yX8_in, .static yX8_in, .initialized RX8, .code yX8_in cX8_in 6 (some .boolean)] ++ wsX80)
def wsX8_refuse : List Cond := .code yX8_refuse cX8_refuse 2 (some .boolean) :: ([.fieldLink RX8 81 "SignDutyModel" "wrong" "I"] ++ wsX80)
def wsX8_sign : List Cond := .code yX8_sign cX8_sign 2 (some .boolean) :: ([.fieldLink RX8 74 "SignDutyModel" "at" "I", .methodLink RX8 84 yX8_isLetter, .instanceMethod yX8_isLetter, .selects RX8 yX8_isLetter yX8_isLetter, .initialized RX8, .code yX8_isLetter cX8_isLetter 2 (some .boolean), .fieldLink RX8 70 "SignDutyModel" "length" "I", .fieldLink RX8 26 "SignDutyModel" "tape" "[I", .methodLink RX8 87 yX8_refuse, .instanceMethod yX8_refuse, .selects RX8 yX8_refuse yX8_refuse, .code yX8_refuse cX8_refuse 2 (some .boolean), .fieldLink RX8 81 "SignDutyModel" "wrong" "I"] ++ wsX80)
def wsX8_readsNumber : List Cond := .code yX8_readsNumber cX8_readsNumber 4 (some .boolean) :: ([.fieldLink RX8 74 "SignDutyModel" "at" "I", .fieldLink RX8 26 "SignDutyModel" "tape" "[I", .fieldLink RX8 93 "SignDutyModel" "number" "I", .methodLink RX8 90 yX8_isFigure, .instanceMethod yX8_isFigure, .selects RX8 yX8_isFigure yX8_isFigure, .initialized RX8, .code yX8_isFigure cX8_isFigure 2 (some .boolean), .fieldLink RX8 70 "SignDutyModel" "length" "I", .constantLong RX8 77 (48), .constantLong RX8 79 (57), .methodLink RX8 42 yX8_in, .static yX8_in, .code yX8_in cX8_in 6 (some .boolean), .methodLink RX8 87 yX8_refuse, .instanceMethod yX8_refuse, .selects RX8 yX8_refuse yX8_refuse, .code yX8_refuse cX8_refuse 2 (some .boolean), .fieldLink RX8 81 "SignDutyModel" "wrong" "I"] ++ wsX80)
def wsX8_readsLaw_r1 : List Cond := [Cond.fieldLink RX8 7 "SignDutyModel" "row" "[I", Cond.fieldLink RX8 93 "SignDutyModel" "number" "I", Cond.methodLink RX8 96 yX8_sign, Cond.instanceMethod yX8_sign, Cond.selects RX8 yX8_sign yX8_sign, Cond.initialized RX8, Cond.code yX8_sign cX8_sign 2 (some .boolean), Cond.fieldLink RX8 74 "SignDutyModel" "at" "I", Cond.methodLink RX8 84 yX8_isLetter, Cond.instanceMethod yX8_isLetter, Cond.selects RX8 yX8_isLetter yX8_isLetter, Cond.code yX8_isLetter cX8_isLetter 2 (some .boolean), Cond.fieldLink RX8 70 "SignDutyModel" "length" "I", Cond.fieldLink RX8 26 "SignDutyModel" "tape" "[I", Cond.methodLink RX8 87 yX8_refuse, Cond.instanceMethod yX8_refuse, Cond.selects RX8 yX8_refuse yX8_refuse, Cond.code yX8_refuse cX8_refuse 2 (some .boolean), Cond.fieldLink RX8 81 "SignDutyModel" "wrong" "I", Cond.methodLink RX8 99 yX8_readsNumber, Cond.instanceMethod yX8_readsNumber, Cond.selects RX8 yX8_readsNumber yX8_readsNumber, Cond.code yX8_readsNumber cX8_readsNumber 4 (some .boolean), Cond.methodLink RX8 90 yX8_isFigure]
def wsX8_readsLaw_r2 : List Cond := [Cond.instanceMethod yX8_isFigure, Cond.selects RX8 yX8_isFigure yX8_isFigure, Cond.code yX8_isFigure cX8_isFigure 2 (some .boolean), Cond.constantLong RX8 77 (48), Cond.constantLong RX8 79 (57), Cond.methodLink RX8 42 yX8_in, Cond.static yX8_in, Cond.code yX8_in cX8_in 6 (some .boolean)]
def wsX8_readsLaw : List Cond := .code yX8_readsLaw cX8_readsLaw 1 (some .boolean) :: ((wsX8_readsLaw_r1 ++ wsX8_readsLaw_r2) ++ wsX80)
def wsX8_readsStreet_r1 : List Cond := [Cond.fieldLink RX8 7 "SignDutyModel" "row" "[I", Cond.fieldLink RX8 74 "SignDutyModel" "at" "I", Cond.fieldLink RX8 93 "SignDutyModel" "number" "I", Cond.methodLink RX8 87 yX8_refuse, Cond.instanceMethod yX8_refuse, Cond.selects RX8 yX8_refuse yX8_refuse, Cond.initialized RX8, Cond.code yX8_refuse cX8_refuse 2 (some .boolean), Cond.fieldLink RX8 81 "SignDutyModel" "wrong" "I", Cond.methodLink RX8 99 yX8_readsNumber, Cond.instanceMethod yX8_readsNumber, Cond.selects RX8 yX8_readsNumber yX8_readsNumber, Cond.code yX8_readsNumber cX8_readsNumber 4 (some .boolean), Cond.fieldLink RX8 26 "SignDutyModel" "tape" "[I", Cond.methodLink RX8 90 yX8_isFigure, Cond.instanceMethod yX8_isFigure, Cond.selects RX8 yX8_isFigure yX8_isFigure, Cond.code yX8_isFigure cX8_isFigure 2 (some .boolean), Cond.fieldLink RX8 70 "SignDutyModel" "length" "I", Cond.constantLong RX8 77 (48), Cond.constantLong RX8 79 (57), Cond.methodLink RX8 42 yX8_in, Cond.static yX8_in, Cond.code yX8_in cX8_in 6 (some .boolean)]
def wsX8_readsStreet_r2 : List Cond := [Cond.methodLink RX8 96 yX8_sign, Cond.instanceMethod yX8_sign, Cond.selects RX8 yX8_sign yX8_sign, Cond.code yX8_sign cX8_sign 2 (some .boolean), Cond.methodLink RX8 84 yX8_isLetter, Cond.instanceMethod yX8_isLetter, Cond.selects RX8 yX8_isLetter yX8_isLetter, Cond.code yX8_isLetter cX8_isLetter 2 (some .boolean)]
def wsX8_readsStreet : List Cond := .code yX8_readsStreet cX8_readsStreet 2 (some .boolean) :: ((wsX8_readsStreet_r1 ++ wsX8_readsStreet_r2) ++ wsX80)
def wsX8_kindOfLetter : List Cond := .code yX8_kindOfLetter cX8_kindOfLetter 1 (some .int) :: ([])
def wsX8_readsGesture_r1 : List Cond := [Cond.fieldLink RX8 7 "SignDutyModel" "row" "[I", Cond.fieldLink RX8 26 "SignDutyModel" "tape" "[I", Cond.fieldLink RX8 74 "SignDutyModel" "at" "I", Cond.fieldLink RX8 93 "SignDutyModel" "number" "I", Cond.methodLink RX8 87 yX8_refuse, Cond.instanceMethod yX8_refuse, Cond.selects RX8 yX8_refuse yX8_refuse, Cond.initialized RX8, Cond.code yX8_refuse cX8_refuse 2 (some .boolean), Cond.fieldLink RX8 81 "SignDutyModel" "wrong" "I", Cond.methodLink RX8 103 yX8_kindOfLetter, Cond.static yX8_kindOfLetter, Cond.code yX8_kindOfLetter cX8_kindOfLetter 1 (some .int), Cond.methodLink RX8 99 yX8_readsNumber, Cond.instanceMethod yX8_readsNumber, Cond.selects RX8 yX8_readsNumber yX8_readsNumber, Cond.code yX8_readsNumber cX8_readsNumber 4 (some .boolean), Cond.methodLink RX8 90 yX8_isFigure, Cond.instanceMethod yX8_isFigure, Cond.selects RX8 yX8_isFigure yX8_isFigure, Cond.code yX8_isFigure cX8_isFigure 2 (some .boolean), Cond.fieldLink RX8 70 "SignDutyModel" "length" "I", Cond.constantLong RX8 77 (48), Cond.constantLong RX8 79 (57)]
def wsX8_readsGesture_r2 : List Cond := [Cond.methodLink RX8 42 yX8_in, Cond.static yX8_in, Cond.code yX8_in cX8_in 6 (some .boolean), Cond.methodLink RX8 96 yX8_sign, Cond.instanceMethod yX8_sign, Cond.selects RX8 yX8_sign yX8_sign, Cond.code yX8_sign cX8_sign 2 (some .boolean), Cond.methodLink RX8 84 yX8_isLetter, Cond.instanceMethod yX8_isLetter, Cond.selects RX8 yX8_isLetter yX8_isLetter, Cond.code yX8_isLetter cX8_isLetter 2 (some .boolean)]
def wsX8_readsGesture : List Cond := .code yX8_readsGesture cX8_readsGesture 2 (some .boolean) :: ((wsX8_readsGesture_r1 ++ wsX8_readsGesture_r2) ++ wsX80)
def wsX8_reads_r1 : List Cond := [Cond.fieldLink RX8 7 "SignDutyModel" "row" "[I", Cond.fieldLink RX8 74 "SignDutyModel" "at" "I", Cond.fieldLink RX8 70 "SignDutyModel" "length" "I", Cond.fieldLink RX8 26 "SignDutyModel" "tape" "[I", Cond.methodLink RX8 106 yX8_readsLaw, Cond.instanceMethod yX8_readsLaw, Cond.selects RX8 yX8_readsLaw yX8_readsLaw, Cond.initialized RX8, Cond.code yX8_readsLaw cX8_readsLaw 1 (some .boolean), Cond.fieldLink RX8 93 "SignDutyModel" "number" "I", Cond.methodLink RX8 96 yX8_sign, Cond.instanceMethod yX8_sign, Cond.selects RX8 yX8_sign yX8_sign, Cond.code yX8_sign cX8_sign 2 (some .boolean), Cond.methodLink RX8 84 yX8_isLetter, Cond.instanceMethod yX8_isLetter, Cond.selects RX8 yX8_isLetter yX8_isLetter, Cond.code yX8_isLetter cX8_isLetter 2 (some .boolean), Cond.methodLink RX8 87 yX8_refuse, Cond.instanceMethod yX8_refuse, Cond.selects RX8 yX8_refuse yX8_refuse, Cond.code yX8_refuse cX8_refuse 2 (some .boolean), Cond.fieldLink RX8 81 "SignDutyModel" "wrong" "I", Cond.methodLink RX8 99 yX8_readsNumber]
def wsX8_reads_r2 : List Cond := [Cond.instanceMethod yX8_readsNumber, Cond.selects RX8 yX8_readsNumber yX8_readsNumber, Cond.code yX8_readsNumber cX8_readsNumber 4 (some .boolean), Cond.methodLink RX8 90 yX8_isFigure, Cond.instanceMethod yX8_isFigure, Cond.selects RX8 yX8_isFigure yX8_isFigure, Cond.code yX8_isFigure cX8_isFigure 2 (some .boolean), Cond.constantLong RX8 77 (48), Cond.constantLong RX8 79 (57), Cond.methodLink RX8 42 yX8_in, Cond.static yX8_in, Cond.code yX8_in cX8_in 6 (some .boolean), Cond.methodLink RX8 110 yX8_readsStreet, Cond.instanceMethod yX8_readsStreet, Cond.selects RX8 yX8_readsStreet yX8_readsStreet, Cond.code yX8_readsStreet cX8_readsStreet 2 (some .boolean), Cond.methodLink RX8 103 yX8_kindOfLetter, Cond.static yX8_kindOfLetter, Cond.code yX8_kindOfLetter cX8_kindOfLetter 1 (some .int), Cond.methodLink RX8 113 yX8_readsGesture, Cond.instanceMethod yX8_readsGesture, Cond.selects RX8 yX8_readsGesture yX8_readsGesture, Cond.code yX8_readsGesture cX8_readsGesture 2 (some .boolean)]
def wsX8_reads : List Cond := .code yX8_reads cX8_reads 2 (some .boolean) :: ((wsX8_reads_r1 ++ wsX8_reads_r2) ++ wsX80)
def wsX8_copyTown : List Cond := .code yX8_copyTown cX8_copyTown 4 none :: ([.fieldLink RX8 7 "SignDutyModel" "row" "[I"] ++ wsX80)
def wsX8_city_r1 : List Cond := [Cond.fieldLink RX8 70 "SignDutyModel" "length" "I", Cond.fieldLink RX8 81 "SignDutyModel" "wrong" "I", Cond.fieldLink RX8 119 "SignDutyModel" "fault" "I", Cond.constant RX8 122 (-1000100), Cond.fieldLink RX8 74 "SignDutyModel" "at" "I", Cond.fieldLink RX8 127 "SignDutyModel" "isCity" "Z", Cond.fieldLink RX8 131 "SignDutyModel" "undos" "I", Cond.fieldLink RX8 7 "SignDutyModel" "row" "[I", Cond.methodLink RX8 116 yX8_reads, Cond.instanceMethod yX8_reads, Cond.selects RX8 yX8_reads yX8_reads, Cond.initialized RX8, Cond.code yX8_reads cX8_reads 2 (some .boolean), Cond.fieldLink RX8 26 "SignDutyModel" "tape" "[I", Cond.methodLink RX8 106 yX8_readsLaw, Cond.instanceMethod yX8_readsLaw, Cond.selects RX8 yX8_readsLaw yX8_readsLaw, Cond.code yX8_readsLaw cX8_readsLaw 1 (some .boolean), Cond.fieldLink RX8 93 "SignDutyModel" "number" "I", Cond.methodLink RX8 96 yX8_sign, Cond.instanceMethod yX8_sign, Cond.selects RX8 yX8_sign yX8_sign, Cond.code yX8_sign cX8_sign 2 (some .boolean), Cond.methodLink RX8 84 yX8_isLetter]
def wsX8_city_r2 : List Cond := [Cond.instanceMethod yX8_isLetter, Cond.selects RX8 yX8_isLetter yX8_isLetter, Cond.code yX8_isLetter cX8_isLetter 2 (some .boolean), Cond.methodLink RX8 87 yX8_refuse, Cond.instanceMethod yX8_refuse, Cond.selects RX8 yX8_refuse yX8_refuse, Cond.code yX8_refuse cX8_refuse 2 (some .boolean), Cond.methodLink RX8 99 yX8_readsNumber, Cond.instanceMethod yX8_readsNumber, Cond.selects RX8 yX8_readsNumber yX8_readsNumber, Cond.code yX8_readsNumber cX8_readsNumber 4 (some .boolean), Cond.methodLink RX8 90 yX8_isFigure, Cond.instanceMethod yX8_isFigure, Cond.selects RX8 yX8_isFigure yX8_isFigure, Cond.code yX8_isFigure cX8_isFigure 2 (some .boolean), Cond.constantLong RX8 77 (48), Cond.constantLong RX8 79 (57), Cond.methodLink RX8 42 yX8_in, Cond.static yX8_in, Cond.code yX8_in cX8_in 6 (some .boolean), Cond.methodLink RX8 110 yX8_readsStreet, Cond.instanceMethod yX8_readsStreet, Cond.selects RX8 yX8_readsStreet yX8_readsStreet, Cond.code yX8_readsStreet cX8_readsStreet 2 (some .boolean)]
def wsX8_city_r3 : List Cond := [Cond.methodLink RX8 103 yX8_kindOfLetter, Cond.static yX8_kindOfLetter, Cond.code yX8_kindOfLetter cX8_kindOfLetter 1 (some .int), Cond.methodLink RX8 113 yX8_readsGesture, Cond.instanceMethod yX8_readsGesture, Cond.selects RX8 yX8_readsGesture yX8_readsGesture, Cond.code yX8_readsGesture cX8_readsGesture 2 (some .boolean), Cond.methodLink RX8 123 yX8_copyTown, Cond.instanceMethod yX8_copyTown, Cond.selects RX8 yX8_copyTown yX8_copyTown, Cond.code yX8_copyTown cX8_copyTown 4 none]
def wsX8_city : List Cond := .code yX8_city cX8_city 2 (some .int) :: ((wsX8_city_r1 ++ (wsX8_city_r2 ++ wsX8_city_r3)) ++ wsX80)
def wsX8_fault : List Cond := .code yX8_fault cX8_fault 1 (some .int) :: ([.fieldLink RX8 119 "SignDutyModel" "fault" "I"] ++ wsX80)
def wsX8_keepPast : List Cond := .code yX8_keepPast cX8_keepPast 2 none :: ([.fieldLink RX8 131 "SignDutyModel" "undos" "I", .fieldLink RX8 7 "SignDutyModel" "row" "[I", .methodLink RX8 123 yX8_copyTown, .instanceMethod yX8_copyTown, .selects RX8 yX8_copyTown yX8_copyTown, .initialized RX8, .code yX8_copyTown cX8_copyTown 4 none] ++ wsX80)
def wsX8_undo : List Cond := .code yX8_undo cX8_undo 1 (some .int) :: ([.fieldLink RX8 131 "SignDutyModel" "undos" "I", .constant RX8 134 (-1000002), .methodLink RX8 123 yX8_copyTown, .instanceMethod yX8_copyTown, .selects RX8 yX8_copyTown yX8_copyTown, .initialized RX8, .code yX8_copyTown cX8_copyTown 4 none, .fieldLink RX8 7 "SignDutyModel" "row" "[I"] ++ wsX80)
def wsX8_isGesture : List Cond := .code yX8_isGesture cX8_isGesture 2 (some .boolean) :: ([.fieldLink RX8 7 "SignDutyModel" "row" "[I", .methodLink RX8 42 yX8_in, .static yX8_in, .initialized RX8, .code yX8_in cX8_in 6 (some .boolean)] ++ wsX80)
def wsX8_isStreet : List Cond := .code yX8_isStreet cX8_isStreet 2 (some .boolean) :: ([.fieldLink RX8 7 "SignDutyModel" "row" "[I", .methodLink RX8 42 yX8_in, .static yX8_in, .initialized RX8, .code yX8_in cX8_in 6 (some .boolean)] ++ wsX80)
def wsX8_wave : List Cond := .code yX8_wave cX8_wave 3 (some .int) :: ([.fieldLink RX8 7 "SignDutyModel" "row" "[I"] ++ wsX80)
def wsX8_plainDuty : List Cond := .code yX8_plainDuty cX8_plainDuty 4 (some .int) :: ([.fieldLink RX8 7 "SignDutyModel" "row" "[I", .methodLink RX8 135 yX8_wave, .instanceMethod yX8_wave, .selects RX8 yX8_wave yX8_wave, .initialized RX8, .code yX8_wave cX8_wave 3 (some .int)] ++ wsX80)
def wsX8_owes : List Cond := .code yX8_owes cX8_owes 5 (some .int) :: ([.fieldLink RX8 7 "SignDutyModel" "row" "[I", .methodLink RX8 138 yX8_plainDuty, .instanceMethod yX8_plainDuty, .selects RX8 yX8_plainDuty yX8_plainDuty, .initialized RX8, .code yX8_plainDuty cX8_plainDuty 4 (some .int), .methodLink RX8 135 yX8_wave, .instanceMethod yX8_wave, .selects RX8 yX8_wave yX8_wave, .code yX8_wave cX8_wave 3 (some .int), .methodLink RX8 142 yX8_has, .static yX8_has, .code yX8_has cX8_has 2 (some .boolean)] ++ wsX80)
def wsX8_dutyOf : List Cond := .code yX8_dutyOf cX8_dutyOf 3 (some .int) :: ([.fieldLink RX8 7 "SignDutyModel" "row" "[I", .methodLink RX8 145 yX8_owes, .instanceMethod yX8_owes, .selects RX8 yX8_owes yX8_owes, .initialized RX8, .code yX8_owes cX8_owes 5 (some .int), .methodLink RX8 138 yX8_plainDuty, .instanceMethod yX8_plainDuty, .selects RX8 yX8_plainDuty yX8_plainDuty, .code yX8_plainDuty cX8_plainDuty 4 (some .int), .methodLink RX8 135 yX8_wave, .instanceMethod yX8_wave, .selects RX8 yX8_wave yX8_wave, .code yX8_wave cX8_wave 3 (some .int), .methodLink RX8 142 yX8_has, .static yX8_has, .code yX8_has cX8_has 2 (some .boolean)] ++ wsX80)
def wsX8_isSeen : List Cond := .code yX8_isSeen cX8_isSeen 4 (some .boolean) :: ([.fieldLink RX8 7 "SignDutyModel" "row" "[I"] ++ wsX80)
def wsX8_make_r1 : List Cond := [Cond.constant RX8 52 (-1000001), Cond.constant RX8 134 (-1000002), Cond.fieldLink RX8 7 "SignDutyModel" "row" "[I", Cond.constant RX8 160 (99999), Cond.constant RX8 73 (-1000003), Cond.methodLink RX8 148 yX8_isGesture, Cond.instanceMethod yX8_isGesture, Cond.selects RX8 yX8_isGesture yX8_isGesture, Cond.initialized RX8, Cond.code yX8_isGesture cX8_isGesture 2 (some .boolean), Cond.methodLink RX8 42 yX8_in, Cond.static yX8_in, Cond.code yX8_in cX8_in 6 (some .boolean), Cond.methodLink RX8 151 yX8_isStreet, Cond.instanceMethod yX8_isStreet, Cond.selects RX8 yX8_isStreet yX8_isStreet, Cond.code yX8_isStreet cX8_isStreet 2 (some .boolean), Cond.methodLink RX8 154 yX8_isSeen, Cond.instanceMethod yX8_isSeen, Cond.selects RX8 yX8_isSeen yX8_isSeen, Cond.code yX8_isSeen cX8_isSeen 4 (some .boolean), Cond.methodLink RX8 157 yX8_dutyOf, Cond.instanceMethod yX8_dutyOf, Cond.selects RX8 yX8_dutyOf yX8_dutyOf]
def wsX8_make_r2 : List Cond := [Cond.code yX8_dutyOf cX8_dutyOf 3 (some .int), Cond.methodLink RX8 145 yX8_owes, Cond.instanceMethod yX8_owes, Cond.selects RX8 yX8_owes yX8_owes, Cond.code yX8_owes cX8_owes 5 (some .int), Cond.methodLink RX8 138 yX8_plainDuty, Cond.instanceMethod yX8_plainDuty, Cond.selects RX8 yX8_plainDuty yX8_plainDuty, Cond.code yX8_plainDuty cX8_plainDuty 4 (some .int), Cond.methodLink RX8 135 yX8_wave, Cond.instanceMethod yX8_wave, Cond.selects RX8 yX8_wave yX8_wave, Cond.code yX8_wave cX8_wave 3 (some .int), Cond.methodLink RX8 142 yX8_has, Cond.static yX8_has, Cond.code yX8_has cX8_has 2 (some .boolean), Cond.methodLink RX8 161 yX8_keepPast, Cond.instanceMethod yX8_keepPast, Cond.selects RX8 yX8_keepPast yX8_keepPast, Cond.code yX8_keepPast cX8_keepPast 2 none, Cond.fieldLink RX8 131 "SignDutyModel" "undos" "I", Cond.methodLink RX8 123 yX8_copyTown, Cond.instanceMethod yX8_copyTown, Cond.selects RX8 yX8_copyTown yX8_copyTown]
def wsX8_make_r3 : List Cond := [Cond.code yX8_copyTown cX8_copyTown 4 none]
def wsX8_make : List Cond := .code yX8_make cX8_make 4 (some .int) :: ((wsX8_make_r1 ++ (wsX8_make_r2 ++ wsX8_make_r3)) ++ wsX80)
def wsX8_dim : List Cond := .code yX8_dim cX8_dim 4 (some .int) :: ([.constantLong RX8 164 (30), .constant RX8 52 (-1000001), .fieldLink RX8 7 "SignDutyModel" "row" "[I", .methodLink RX8 151 yX8_isStreet, .instanceMethod yX8_isStreet, .selects RX8 yX8_isStreet yX8_isStreet, .initialized RX8, .code yX8_isStreet cX8_isStreet 2 (some .boolean), .methodLink RX8 42 yX8_in, .static yX8_in, .code yX8_in cX8_in 6 (some .boolean), .methodLink RX8 161 yX8_keepPast, .instanceMethod yX8_keepPast, .selects RX8 yX8_keepPast yX8_keepPast, .code yX8_keepPast cX8_keepPast 2 none, .fieldLink RX8 131 "SignDutyModel" "undos" "I", .methodLink RX8 123 yX8_copyTown, .instanceMethod yX8_copyTown, .selects RX8 yX8_copyTown yX8_copyTown, .code yX8_copyTown cX8_copyTown 4 none] ++ wsX80)
def wsX8_train : List Cond := .code yX8_train cX8_train 3 (some .int) :: ([.constantLong RX8 166 (29), .constant RX8 52 (-1000001), .fieldLink RX8 7 "SignDutyModel" "row" "[I", .constant RX8 134 (-1000002), .methodLink RX8 148 yX8_isGesture, .instanceMethod yX8_isGesture, .selects RX8 yX8_isGesture yX8_isGesture, .initialized RX8, .code yX8_isGesture cX8_isGesture 2 (some .boolean), .methodLink RX8 42 yX8_in, .static yX8_in, .code yX8_in cX8_in 6 (some .boolean), .methodLink RX8 161 yX8_keepPast, .instanceMethod yX8_keepPast, .selects RX8 yX8_keepPast yX8_keepPast, .code yX8_keepPast cX8_keepPast 2 none, .fieldLink RX8 131 "SignDutyModel" "undos" "I", .methodLink RX8 123 yX8_copyTown, .instanceMethod yX8_copyTown, .selects RX8 yX8_copyTown yX8_copyTown, .code yX8_copyTown cX8_copyTown 4 none] ++ wsX80)
def wsX8_know : List Cond := .code yX8_know cX8_know 3 (some .int) :: ([.constant RX8 52 (-1000001), .fieldLink RX8 7 "SignDutyModel" "row" "[I", .constant RX8 134 (-1000002), .methodLink RX8 151 yX8_isStreet, .instanceMethod yX8_isStreet, .selects RX8 yX8_isStreet yX8_isStreet, .initialized RX8, .code yX8_isStreet cX8_isStreet 2 (some .boolean), .methodLink RX8 42 yX8_in, .static yX8_in, .code yX8_in cX8_in 6 (some .boolean), .methodLink RX8 142 yX8_has, .static yX8_has, .code yX8_has cX8_has 2 (some .boolean), .methodLink RX8 161 yX8_keepPast, .instanceMethod yX8_keepPast, .selects RX8 yX8_keepPast yX8_keepPast, .code yX8_keepPast cX8_keepPast 2 none, .fieldLink RX8 131 "SignDutyModel" "undos" "I", .methodLink RX8 123 yX8_copyTown, .instanceMethod yX8_copyTown, .selects RX8 yX8_copyTown yX8_copyTown, .code yX8_copyTown cX8_copyTown 4 none] ++ wsX80)
def wsX8_seenStreets : List Cond := .code yX8_seenStreets cX8_seenStreets 4 (some .int) :: ([.fieldLink RX8 7 "SignDutyModel" "row" "[I", .methodLink RX8 154 yX8_isSeen, .instanceMethod yX8_isSeen, .selects RX8 yX8_isSeen yX8_isSeen, .initialized RX8, .code yX8_isSeen cX8_isSeen 4 (some .boolean)] ++ wsX80)
def wsX8_seenGestures : List Cond := .code yX8_seenGestures cX8_seenGestures 4 (some .int) :: ([.fieldLink RX8 7 "SignDutyModel" "row" "[I", .methodLink RX8 154 yX8_isSeen, .instanceMethod yX8_isSeen, .selects RX8 yX8_isSeen yX8_isSeen, .initialized RX8, .code yX8_isSeen cX8_isSeen 4 (some .boolean)] ++ wsX80)
def wsX8_gesture : List Cond := .code yX8_gesture cX8_gesture 3 (some .int) :: ([.constant RX8 52 (-1000001), .fieldLink RX8 7 "SignDutyModel" "row" "[I", .methodLink RX8 148 yX8_isGesture, .instanceMethod yX8_isGesture, .selects RX8 yX8_isGesture yX8_isGesture, .initialized RX8, .code yX8_isGesture cX8_isGesture 2 (some .boolean), .methodLink RX8 42 yX8_in, .static yX8_in, .code yX8_in cX8_in 6 (some .boolean), .methodLink RX8 168 yX8_seenStreets, .instanceMethod yX8_seenStreets, .selects RX8 yX8_seenStreets yX8_seenStreets, .code yX8_seenStreets cX8_seenStreets 4 (some .int), .methodLink RX8 154 yX8_isSeen, .instanceMethod yX8_isSeen, .selects RX8 yX8_isSeen yX8_isSeen, .code yX8_isSeen cX8_isSeen 4 (some .boolean)] ++ wsX80)
def wsX8_street : List Cond := .code yX8_street cX8_street 3 (some .int) :: ([.constant RX8 52 (-1000001), .fieldLink RX8 7 "SignDutyModel" "row" "[I", .methodLink RX8 151 yX8_isStreet, .instanceMethod yX8_isStreet, .selects RX8 yX8_isStreet yX8_isStreet, .initialized RX8, .code yX8_isStreet cX8_isStreet 2 (some .boolean), .methodLink RX8 42 yX8_in, .static yX8_in, .code yX8_in cX8_in 6 (some .boolean), .methodLink RX8 171 yX8_seenGestures, .instanceMethod yX8_seenGestures, .selects RX8 yX8_seenGestures yX8_seenGestures, .code yX8_seenGestures cX8_seenGestures 4 (some .int), .methodLink RX8 154 yX8_isSeen, .instanceMethod yX8_isSeen, .selects RX8 yX8_isSeen yX8_isSeen, .code yX8_isSeen cX8_isSeen 4 (some .boolean)] ++ wsX80)
def wsX8_duty_r1 : List Cond := [Cond.constant RX8 52 (-1000001), Cond.methodLink RX8 148 yX8_isGesture, Cond.instanceMethod yX8_isGesture, Cond.selects RX8 yX8_isGesture yX8_isGesture, Cond.initialized RX8, Cond.code yX8_isGesture cX8_isGesture 2 (some .boolean), Cond.fieldLink RX8 7 "SignDutyModel" "row" "[I", Cond.methodLink RX8 42 yX8_in, Cond.static yX8_in, Cond.code yX8_in cX8_in 6 (some .boolean), Cond.methodLink RX8 151 yX8_isStreet, Cond.instanceMethod yX8_isStreet, Cond.selects RX8 yX8_isStreet yX8_isStreet, Cond.code yX8_isStreet cX8_isStreet 2 (some .boolean), Cond.methodLink RX8 157 yX8_dutyOf, Cond.instanceMethod yX8_dutyOf, Cond.selects RX8 yX8_dutyOf yX8_dutyOf, Cond.code yX8_dutyOf cX8_dutyOf 3 (some .int), Cond.methodLink RX8 145 yX8_owes, Cond.instanceMethod yX8_owes, Cond.selects RX8 yX8_owes yX8_owes, Cond.code yX8_owes cX8_owes 5 (some .int), Cond.methodLink RX8 138 yX8_plainDuty, Cond.instanceMethod yX8_plainDuty]
def wsX8_duty_r2 : List Cond := [Cond.selects RX8 yX8_plainDuty yX8_plainDuty, Cond.code yX8_plainDuty cX8_plainDuty 4 (some .int), Cond.methodLink RX8 135 yX8_wave, Cond.instanceMethod yX8_wave, Cond.selects RX8 yX8_wave yX8_wave, Cond.code yX8_wave cX8_wave 3 (some .int), Cond.methodLink RX8 142 yX8_has, Cond.static yX8_has, Cond.code yX8_has cX8_has 2 (some .boolean)]
def wsX8_duty : List Cond := .code yX8_duty cX8_duty 3 (some .int) :: ((wsX8_duty_r1 ++ wsX8_duty_r2) ++ wsX80)
def wsX8_tells : List Cond := .code yX8_tells cX8_tells 4 (some .boolean) :: ([.fieldLink RX8 7 "SignDutyModel" "row" "[I", .methodLink RX8 154 yX8_isSeen, .instanceMethod yX8_isSeen, .selects RX8 yX8_isSeen yX8_isSeen, .initialized RX8, .code yX8_isSeen cX8_isSeen 4 (some .boolean)] ++ wsX80)
def wsX8_onBy_r1 : List Cond := [Cond.fieldLink RX8 7 "SignDutyModel" "row" "[I", Cond.fieldLink RX8 32 "SignDutyModel" "costs" "[I", Cond.constant RX8 177 (1000000), Cond.methodLink RX8 174 yX8_tells, Cond.instanceMethod yX8_tells, Cond.selects RX8 yX8_tells yX8_tells, Cond.initialized RX8, Cond.code yX8_tells cX8_tells 4 (some .boolean), Cond.methodLink RX8 154 yX8_isSeen, Cond.instanceMethod yX8_isSeen, Cond.selects RX8 yX8_isSeen yX8_isSeen, Cond.code yX8_isSeen cX8_isSeen 4 (some .boolean), Cond.methodLink RX8 157 yX8_dutyOf, Cond.instanceMethod yX8_dutyOf, Cond.selects RX8 yX8_dutyOf yX8_dutyOf, Cond.code yX8_dutyOf cX8_dutyOf 3 (some .int), Cond.methodLink RX8 145 yX8_owes, Cond.instanceMethod yX8_owes, Cond.selects RX8 yX8_owes yX8_owes, Cond.code yX8_owes cX8_owes 5 (some .int), Cond.methodLink RX8 138 yX8_plainDuty, Cond.instanceMethod yX8_plainDuty, Cond.selects RX8 yX8_plainDuty yX8_plainDuty, Cond.code yX8_plainDuty cX8_plainDuty 4 (some .int)]
def wsX8_onBy_r2 : List Cond := [Cond.methodLink RX8 135 yX8_wave, Cond.instanceMethod yX8_wave, Cond.selects RX8 yX8_wave yX8_wave, Cond.code yX8_wave cX8_wave 3 (some .int), Cond.methodLink RX8 142 yX8_has, Cond.static yX8_has, Cond.code yX8_has cX8_has 2 (some .boolean)]
def wsX8_onBy : List Cond := .code yX8_onBy cX8_onBy 6 (some .int) :: ((wsX8_onBy_r1 ++ wsX8_onBy_r2) ++ wsX80)
def wsX8_layCosts_r1 : List Cond := [Cond.fieldLink RX8 32 "SignDutyModel" "costs" "[I", Cond.constant RX8 177 (1000000), Cond.fieldLink RX8 7 "SignDutyModel" "row" "[I", Cond.methodLink RX8 178 yX8_onBy, Cond.instanceMethod yX8_onBy, Cond.selects RX8 yX8_onBy yX8_onBy, Cond.initialized RX8, Cond.code yX8_onBy cX8_onBy 6 (some .int), Cond.methodLink RX8 174 yX8_tells, Cond.instanceMethod yX8_tells, Cond.selects RX8 yX8_tells yX8_tells, Cond.code yX8_tells cX8_tells 4 (some .boolean), Cond.methodLink RX8 154 yX8_isSeen, Cond.instanceMethod yX8_isSeen, Cond.selects RX8 yX8_isSeen yX8_isSeen, Cond.code yX8_isSeen cX8_isSeen 4 (some .boolean), Cond.methodLink RX8 157 yX8_dutyOf, Cond.instanceMethod yX8_dutyOf, Cond.selects RX8 yX8_dutyOf yX8_dutyOf, Cond.code yX8_dutyOf cX8_dutyOf 3 (some .int), Cond.methodLink RX8 145 yX8_owes, Cond.instanceMethod yX8_owes, Cond.selects RX8 yX8_owes yX8_owes, Cond.code yX8_owes cX8_owes 5 (some .int)]
def wsX8_layCosts_r2 : List Cond := [Cond.methodLink RX8 138 yX8_plainDuty, Cond.instanceMethod yX8_plainDuty, Cond.selects RX8 yX8_plainDuty yX8_plainDuty, Cond.code yX8_plainDuty cX8_plainDuty 4 (some .int), Cond.methodLink RX8 135 yX8_wave, Cond.instanceMethod yX8_wave, Cond.selects RX8 yX8_wave yX8_wave, Cond.code yX8_wave cX8_wave 3 (some .int), Cond.methodLink RX8 142 yX8_has, Cond.static yX8_has, Cond.code yX8_has cX8_has 2 (some .boolean)]
def wsX8_layCosts : List Cond := .code yX8_layCosts cX8_layCosts 8 none :: ((wsX8_layCosts_r1 ++ wsX8_layCosts_r2) ++ wsX80)
def wsX8_isMeans : List Cond := .code yX8_isMeans cX8_isMeans 1 (some .boolean) :: ([.constantLong RX8 182 (3), .methodLink RX8 42 yX8_in, .static yX8_in, .initialized RX8, .code yX8_in cX8_in 6 (some .boolean)])
def wsX8_areStreets : List Cond := .code yX8_areStreets cX8_areStreets 3 (some .boolean) :: ([.methodLink RX8 151 yX8_isStreet, .instanceMethod yX8_isStreet, .selects RX8 yX8_isStreet yX8_isStreet, .initialized RX8, .code yX8_isStreet cX8_isStreet 2 (some .boolean), .fieldLink RX8 7 "SignDutyModel" "row" "[I", .methodLink RX8 42 yX8_in, .static yX8_in, .code yX8_in cX8_in 6 (some .boolean)] ++ wsX80)
def wsX8_tell_r1 : List Cond := [Cond.constantLong RX8 190 (99), Cond.constantLong RX8 192 (-1), Cond.constantLong RX8 194 (6), Cond.constant RX8 52 (-1000001), Cond.fieldLink RX8 32 "SignDutyModel" "costs" "[I", Cond.constant RX8 177 (1000000), Cond.constant RX8 200 (-1000000), Cond.fieldLink RX8 7 "SignDutyModel" "row" "[I", Cond.methodLink RX8 184 yX8_isMeans, Cond.static yX8_isMeans, Cond.initialized RX8, Cond.code yX8_isMeans cX8_isMeans 1 (some .boolean), Cond.constantLong RX8 182 (3), Cond.methodLink RX8 42 yX8_in, Cond.static yX8_in, Cond.code yX8_in cX8_in 6 (some .boolean), Cond.methodLink RX8 187 yX8_areStreets, Cond.instanceMethod yX8_areStreets, Cond.selects RX8 yX8_areStreets yX8_areStreets, Cond.code yX8_areStreets cX8_areStreets 3 (some .boolean), Cond.methodLink RX8 151 yX8_isStreet, Cond.instanceMethod yX8_isStreet, Cond.selects RX8 yX8_isStreet yX8_isStreet, Cond.code yX8_isStreet cX8_isStreet 2 (some .boolean)]
def wsX8_tell_r2 : List Cond := [Cond.methodLink RX8 196 yX8_layCosts, Cond.instanceMethod yX8_layCosts, Cond.selects RX8 yX8_layCosts yX8_layCosts, Cond.code yX8_layCosts cX8_layCosts 8 none, Cond.methodLink RX8 178 yX8_onBy, Cond.instanceMethod yX8_onBy, Cond.selects RX8 yX8_onBy yX8_onBy, Cond.code yX8_onBy cX8_onBy 6 (some .int), Cond.methodLink RX8 174 yX8_tells, Cond.instanceMethod yX8_tells, Cond.selects RX8 yX8_tells yX8_tells, Cond.code yX8_tells cX8_tells 4 (some .boolean), Cond.methodLink RX8 154 yX8_isSeen, Cond.instanceMethod yX8_isSeen, Cond.selects RX8 yX8_isSeen yX8_isSeen, Cond.code yX8_isSeen cX8_isSeen 4 (some .boolean), Cond.methodLink RX8 157 yX8_dutyOf, Cond.instanceMethod yX8_dutyOf, Cond.selects RX8 yX8_dutyOf yX8_dutyOf, Cond.code yX8_dutyOf cX8_dutyOf 3 (some .int), Cond.methodLink RX8 145 yX8_owes, Cond.instanceMethod yX8_owes, Cond.selects RX8 yX8_owes yX8_owes, Cond.code yX8_owes cX8_owes 5 (some .int)]
def wsX8_tell_r3 : List Cond := [Cond.methodLink RX8 138 yX8_plainDuty, Cond.instanceMethod yX8_plainDuty, Cond.selects RX8 yX8_plainDuty yX8_plainDuty, Cond.code yX8_plainDuty cX8_plainDuty 4 (some .int), Cond.methodLink RX8 135 yX8_wave, Cond.instanceMethod yX8_wave, Cond.selects RX8 yX8_wave yX8_wave, Cond.code yX8_wave cX8_wave 3 (some .int), Cond.methodLink RX8 142 yX8_has, Cond.static yX8_has, Cond.code yX8_has cX8_has 2 (some .boolean)]
def wsX8_tell : List Cond := .code yX8_tell cX8_tell 10 (some .int) :: ((wsX8_tell_r1 ++ (wsX8_tell_r2 ++ wsX8_tell_r3)) ++ wsX80)
def wsX8_soonest : List Cond := .code yX8_soonest cX8_soonest 6 (some .int) :: ([.constant RX8 200 (-1000000), .fieldLink RX8 7 "SignDutyModel" "row" "[I", .methodLink RX8 174 yX8_tells, .instanceMethod yX8_tells, .selects RX8 yX8_tells yX8_tells, .initialized RX8, .code yX8_tells cX8_tells 4 (some .boolean), .methodLink RX8 154 yX8_isSeen, .instanceMethod yX8_isSeen, .selects RX8 yX8_isSeen yX8_isSeen, .code yX8_isSeen cX8_isSeen 4 (some .boolean)] ++ wsX80)
def wsX8_shut_r1 : List Cond := [Cond.fieldLink RX8 127 "SignDutyModel" "isCity" "Z", Cond.constant RX8 134 (-1000002), Cond.constant RX8 52 (-1000001), Cond.fieldLink RX8 7 "SignDutyModel" "row" "[I", Cond.constant RX8 200 (-1000000), Cond.methodLink RX8 184 yX8_isMeans, Cond.static yX8_isMeans, Cond.initialized RX8, Cond.code yX8_isMeans cX8_isMeans 1 (some .boolean), Cond.constantLong RX8 182 (3), Cond.methodLink RX8 42 yX8_in, Cond.static yX8_in, Cond.code yX8_in cX8_in 6 (some .boolean), Cond.methodLink RX8 201 yX8_soonest, Cond.instanceMethod yX8_soonest, Cond.selects RX8 yX8_soonest yX8_soonest, Cond.code yX8_soonest cX8_soonest 6 (some .int), Cond.methodLink RX8 174 yX8_tells, Cond.instanceMethod yX8_tells, Cond.selects RX8 yX8_tells yX8_tells, Cond.code yX8_tells cX8_tells 4 (some .boolean), Cond.methodLink RX8 154 yX8_isSeen, Cond.instanceMethod yX8_isSeen, Cond.selects RX8 yX8_isSeen yX8_isSeen]
def wsX8_shut_r2 : List Cond := [Cond.code yX8_isSeen cX8_isSeen 4 (some .boolean)]
def wsX8_shut : List Cond := .code yX8_shut cX8_shut 4 (some .int) :: ((wsX8_shut_r1 ++ wsX8_shut_r2) ++ wsX80)
def wsX8_quick_r1 : List Cond := [Cond.constant RX8 52 (-1000001), Cond.constant RX8 200 (-1000000), Cond.methodLink RX8 184 yX8_isMeans, Cond.static yX8_isMeans, Cond.initialized RX8, Cond.code yX8_isMeans cX8_isMeans 1 (some .boolean), Cond.constantLong RX8 182 (3), Cond.methodLink RX8 42 yX8_in, Cond.static yX8_in, Cond.code yX8_in cX8_in 6 (some .boolean), Cond.methodLink RX8 187 yX8_areStreets, Cond.instanceMethod yX8_areStreets, Cond.selects RX8 yX8_areStreets yX8_areStreets, Cond.code yX8_areStreets cX8_areStreets 3 (some .boolean), Cond.methodLink RX8 151 yX8_isStreet, Cond.instanceMethod yX8_isStreet, Cond.selects RX8 yX8_isStreet yX8_isStreet, Cond.code yX8_isStreet cX8_isStreet 2 (some .boolean), Cond.fieldLink RX8 7 "SignDutyModel" "row" "[I", Cond.methodLink RX8 201 yX8_soonest, Cond.instanceMethod yX8_soonest, Cond.selects RX8 yX8_soonest yX8_soonest, Cond.code yX8_soonest cX8_soonest 6 (some .int), Cond.methodLink RX8 174 yX8_tells]
def wsX8_quick_r2 : List Cond := [Cond.instanceMethod yX8_tells, Cond.selects RX8 yX8_tells yX8_tells, Cond.code yX8_tells cX8_tells 4 (some .boolean), Cond.methodLink RX8 154 yX8_isSeen, Cond.instanceMethod yX8_isSeen, Cond.selects RX8 yX8_isSeen yX8_isSeen, Cond.code yX8_isSeen cX8_isSeen 4 (some .boolean)]
def wsX8_quick : List Cond := .code yX8_quick cX8_quick 6 (some .int) :: ((wsX8_quick_r1 ++ wsX8_quick_r2) ++ wsX80)
def wsX8_noPairs : List Cond := .code yX8_noPairs cX8_noPairs 6 (some .int) :: ([.fieldLink RX8 20 "SignDutyModel" "sizes" "[I", .fieldLink RX8 23 "SignDutyModel" "items" "[I", .constant RX8 52 (-1000001), .methodLink RX8 53 yX8_find, .instanceMethod yX8_find, .selects RX8 yX8_find yX8_find, .initialized RX8, .code yX8_find cX8_find 2 (some .int), .fieldLink RX8 35 "SignDutyModel" "status" "I", .constant RX8 39 (-1000010), .methodLink RX8 64 yX8_isSpan, .instanceMethod yX8_isSpan, .selects RX8 yX8_isSpan yX8_isSpan, .code yX8_isSpan cX8_isSpan 4 (some .boolean), .methodLink RX8 151 yX8_isStreet, .instanceMethod yX8_isStreet, .selects RX8 yX8_isStreet yX8_isStreet, .code yX8_isStreet cX8_isStreet 2 (some .boolean), .fieldLink RX8 7 "SignDutyModel" "row" "[I", .methodLink RX8 42 yX8_in, .static yX8_in, .code yX8_in cX8_in 6 (some .boolean)] ++ wsX80)
def wsX8_owesSo : List Cond := .code yX8_owesSo cX8_owesSo 8 (some .boolean) :: ([.fieldLink RX8 23 "SignDutyModel" "items" "[I", .methodLink RX8 145 yX8_owes, .instanceMethod yX8_owes, .selects RX8 yX8_owes yX8_owes, .initialized RX8, .code yX8_owes cX8_owes 5 (some .int), .fieldLink RX8 7 "SignDutyModel" "row" "[I", .methodLink RX8 138 yX8_plainDuty, .instanceMethod yX8_plainDuty, .selects RX8 yX8_plainDuty yX8_plainDuty, .code yX8_plainDuty cX8_plainDuty 4 (some .int), .methodLink RX8 135 yX8_wave, .instanceMethod yX8_wave, .selects RX8 yX8_wave yX8_wave, .code yX8_wave cX8_wave 3 (some .int), .methodLink RX8 142 yX8_has, .static yX8_has, .code yX8_has cX8_has 2 (some .boolean)] ++ wsX80)
def wsX8_isSeenSo : List Cond := .code yX8_isSeenSo cX8_isSeenSo 7 (some .boolean) :: ([.fieldLink RX8 23 "SignDutyModel" "items" "[I", .methodLink RX8 154 yX8_isSeen, .instanceMethod yX8_isSeen, .selects RX8 yX8_isSeen yX8_isSeen, .initialized RX8, .code yX8_isSeen cX8_isSeen 4 (some .boolean), .fieldLink RX8 7 "SignDutyModel" "row" "[I"] ++ wsX80)
def wsX8_thread_r1 : List Cond := [Cond.fieldLink RX8 127 "SignDutyModel" "isCity" "Z", Cond.constant RX8 134 (-1000002), Cond.constantLong RX8 204 (12), Cond.constant RX8 52 (-1000001), Cond.fieldLink RX8 7 "SignDutyModel" "row" "[I", Cond.methodLink RX8 46 yX8_isRow, Cond.static yX8_isRow, Cond.initialized RX8, Cond.code yX8_isRow cX8_isRow 1 (some .boolean), Cond.constantLong RX8 40 (7), Cond.methodLink RX8 42 yX8_in, Cond.static yX8_in, Cond.code yX8_in cX8_in 6 (some .boolean), Cond.methodLink RX8 206 yX8_noPairs, Cond.instanceMethod yX8_noPairs, Cond.selects RX8 yX8_noPairs yX8_noPairs, Cond.code yX8_noPairs cX8_noPairs 6 (some .int), Cond.fieldLink RX8 20 "SignDutyModel" "sizes" "[I", Cond.fieldLink RX8 23 "SignDutyModel" "items" "[I", Cond.methodLink RX8 53 yX8_find, Cond.instanceMethod yX8_find, Cond.selects RX8 yX8_find yX8_find, Cond.code yX8_find cX8_find 2 (some .int), Cond.fieldLink RX8 35 "SignDutyModel" "status" "I"]
def wsX8_thread_r2 : List Cond := [Cond.constant RX8 39 (-1000010), Cond.methodLink RX8 64 yX8_isSpan, Cond.instanceMethod yX8_isSpan, Cond.selects RX8 yX8_isSpan yX8_isSpan, Cond.code yX8_isSpan cX8_isSpan 4 (some .boolean), Cond.methodLink RX8 151 yX8_isStreet, Cond.instanceMethod yX8_isStreet, Cond.selects RX8 yX8_isStreet yX8_isStreet, Cond.code yX8_isStreet cX8_isStreet 2 (some .boolean), Cond.methodLink RX8 209 yX8_isSeenSo, Cond.instanceMethod yX8_isSeenSo, Cond.selects RX8 yX8_isSeenSo yX8_isSeenSo, Cond.code yX8_isSeenSo cX8_isSeenSo 7 (some .boolean), Cond.methodLink RX8 154 yX8_isSeen, Cond.instanceMethod yX8_isSeen, Cond.selects RX8 yX8_isSeen yX8_isSeen, Cond.code yX8_isSeen cX8_isSeen 4 (some .boolean), Cond.methodLink RX8 213 yX8_owesSo, Cond.instanceMethod yX8_owesSo, Cond.selects RX8 yX8_owesSo yX8_owesSo, Cond.code yX8_owesSo cX8_owesSo 8 (some .boolean), Cond.methodLink RX8 145 yX8_owes, Cond.instanceMethod yX8_owes, Cond.selects RX8 yX8_owes yX8_owes]
def wsX8_thread_r3 : List Cond := [Cond.code yX8_owes cX8_owes 5 (some .int), Cond.methodLink RX8 138 yX8_plainDuty, Cond.instanceMethod yX8_plainDuty, Cond.selects RX8 yX8_plainDuty yX8_plainDuty, Cond.code yX8_plainDuty cX8_plainDuty 4 (some .int), Cond.methodLink RX8 135 yX8_wave, Cond.instanceMethod yX8_wave, Cond.selects RX8 yX8_wave yX8_wave, Cond.code yX8_wave cX8_wave 3 (some .int), Cond.methodLink RX8 142 yX8_has, Cond.static yX8_has, Cond.code yX8_has cX8_has 2 (some .boolean), Cond.methodLink RX8 57 yX8_well, Cond.instanceMethod yX8_well, Cond.selects RX8 yX8_well yX8_well, Cond.code yX8_well cX8_well 2 (some .int)]
def wsX8_thread : List Cond := .code yX8_thread cX8_thread 7 (some .int) :: ((wsX8_thread_r1 ++ (wsX8_thread_r2 ++ wsX8_thread_r3)) ++ wsX80)
def wsX8_inches_r1 : List Cond := [Cond.constantLong RX8 204 (12), Cond.constant RX8 52 (-1000001), Cond.fieldLink RX8 7 "SignDutyModel" "row" "[I", Cond.methodLink RX8 148 yX8_isGesture, Cond.instanceMethod yX8_isGesture, Cond.selects RX8 yX8_isGesture yX8_isGesture, Cond.initialized RX8, Cond.code yX8_isGesture cX8_isGesture 2 (some .boolean), Cond.methodLink RX8 42 yX8_in, Cond.static yX8_in, Cond.code yX8_in cX8_in 6 (some .boolean), Cond.methodLink RX8 46 yX8_isRow, Cond.static yX8_isRow, Cond.code yX8_isRow cX8_isRow 1 (some .boolean), Cond.constantLong RX8 40 (7), Cond.methodLink RX8 206 yX8_noPairs, Cond.instanceMethod yX8_noPairs, Cond.selects RX8 yX8_noPairs yX8_noPairs, Cond.code yX8_noPairs cX8_noPairs 6 (some .int), Cond.fieldLink RX8 20 "SignDutyModel" "sizes" "[I", Cond.fieldLink RX8 23 "SignDutyModel" "items" "[I", Cond.methodLink RX8 53 yX8_find, Cond.instanceMethod yX8_find, Cond.selects RX8 yX8_find yX8_find]
def wsX8_inches_r2 : List Cond := [Cond.code yX8_find cX8_find 2 (some .int), Cond.fieldLink RX8 35 "SignDutyModel" "status" "I", Cond.constant RX8 39 (-1000010), Cond.methodLink RX8 64 yX8_isSpan, Cond.instanceMethod yX8_isSpan, Cond.selects RX8 yX8_isSpan yX8_isSpan, Cond.code yX8_isSpan cX8_isSpan 4 (some .boolean), Cond.methodLink RX8 151 yX8_isStreet, Cond.instanceMethod yX8_isStreet, Cond.selects RX8 yX8_isStreet yX8_isStreet, Cond.code yX8_isStreet cX8_isStreet 2 (some .boolean), Cond.methodLink RX8 213 yX8_owesSo, Cond.instanceMethod yX8_owesSo, Cond.selects RX8 yX8_owesSo yX8_owesSo, Cond.code yX8_owesSo cX8_owesSo 8 (some .boolean), Cond.methodLink RX8 145 yX8_owes, Cond.instanceMethod yX8_owes, Cond.selects RX8 yX8_owes yX8_owes, Cond.code yX8_owes cX8_owes 5 (some .int), Cond.methodLink RX8 138 yX8_plainDuty, Cond.instanceMethod yX8_plainDuty, Cond.selects RX8 yX8_plainDuty yX8_plainDuty, Cond.code yX8_plainDuty cX8_plainDuty 4 (some .int), Cond.methodLink RX8 135 yX8_wave]
def wsX8_inches_r3 : List Cond := [Cond.instanceMethod yX8_wave, Cond.selects RX8 yX8_wave yX8_wave, Cond.code yX8_wave cX8_wave 3 (some .int), Cond.methodLink RX8 142 yX8_has, Cond.static yX8_has, Cond.code yX8_has cX8_has 2 (some .boolean), Cond.methodLink RX8 57 yX8_well, Cond.instanceMethod yX8_well, Cond.selects RX8 yX8_well yX8_well, Cond.code yX8_well cX8_well 2 (some .int)]
def wsX8_inches : List Cond := .code yX8_inches cX8_inches 8 (some .int) :: ((wsX8_inches_r1 ++ (wsX8_inches_r2 ++ wsX8_inches_r3)) ++ wsX80)
def wsX8_sorts_r1 : List Cond := [Cond.constantLong RX8 204 (12), Cond.constant RX8 52 (-1000001), Cond.fieldLink RX8 7 "SignDutyModel" "row" "[I", Cond.methodLink RX8 148 yX8_isGesture, Cond.instanceMethod yX8_isGesture, Cond.selects RX8 yX8_isGesture yX8_isGesture, Cond.initialized RX8, Cond.code yX8_isGesture cX8_isGesture 2 (some .boolean), Cond.methodLink RX8 42 yX8_in, Cond.static yX8_in, Cond.code yX8_in cX8_in 6 (some .boolean), Cond.methodLink RX8 46 yX8_isRow, Cond.static yX8_isRow, Cond.code yX8_isRow cX8_isRow 1 (some .boolean), Cond.constantLong RX8 40 (7), Cond.methodLink RX8 206 yX8_noPairs, Cond.instanceMethod yX8_noPairs, Cond.selects RX8 yX8_noPairs yX8_noPairs, Cond.code yX8_noPairs cX8_noPairs 6 (some .int), Cond.fieldLink RX8 20 "SignDutyModel" "sizes" "[I", Cond.fieldLink RX8 23 "SignDutyModel" "items" "[I", Cond.methodLink RX8 53 yX8_find, Cond.instanceMethod yX8_find, Cond.selects RX8 yX8_find yX8_find]
def wsX8_sorts_r2 : List Cond := [Cond.code yX8_find cX8_find 2 (some .int), Cond.fieldLink RX8 35 "SignDutyModel" "status" "I", Cond.constant RX8 39 (-1000010), Cond.methodLink RX8 64 yX8_isSpan, Cond.instanceMethod yX8_isSpan, Cond.selects RX8 yX8_isSpan yX8_isSpan, Cond.code yX8_isSpan cX8_isSpan 4 (some .boolean), Cond.methodLink RX8 151 yX8_isStreet, Cond.instanceMethod yX8_isStreet, Cond.selects RX8 yX8_isStreet yX8_isStreet, Cond.code yX8_isStreet cX8_isStreet 2 (some .boolean), Cond.methodLink RX8 213 yX8_owesSo, Cond.instanceMethod yX8_owesSo, Cond.selects RX8 yX8_owesSo yX8_owesSo, Cond.code yX8_owesSo cX8_owesSo 8 (some .boolean), Cond.methodLink RX8 145 yX8_owes, Cond.instanceMethod yX8_owes, Cond.selects RX8 yX8_owes yX8_owes, Cond.code yX8_owes cX8_owes 5 (some .int), Cond.methodLink RX8 138 yX8_plainDuty, Cond.instanceMethod yX8_plainDuty, Cond.selects RX8 yX8_plainDuty yX8_plainDuty, Cond.code yX8_plainDuty cX8_plainDuty 4 (some .int), Cond.methodLink RX8 135 yX8_wave]
def wsX8_sorts_r3 : List Cond := [Cond.instanceMethod yX8_wave, Cond.selects RX8 yX8_wave yX8_wave, Cond.code yX8_wave cX8_wave 3 (some .int), Cond.methodLink RX8 142 yX8_has, Cond.static yX8_has, Cond.code yX8_has cX8_has 2 (some .boolean), Cond.methodLink RX8 57 yX8_well, Cond.instanceMethod yX8_well, Cond.selects RX8 yX8_well yX8_well, Cond.code yX8_well cX8_well 2 (some .int)]
def wsX8_sorts : List Cond := .code yX8_sorts cX8_sorts 8 (some .int) :: ((wsX8_sorts_r1 ++ (wsX8_sorts_r2 ++ wsX8_sorts_r3)) ++ wsX80)
def wsX8_saved_r1 : List Cond := [Cond.constant RX8 52 (-1000001), Cond.fieldLink RX8 7 "SignDutyModel" "row" "[I", Cond.methodLink RX8 148 yX8_isGesture, Cond.instanceMethod yX8_isGesture, Cond.selects RX8 yX8_isGesture yX8_isGesture, Cond.initialized RX8, Cond.code yX8_isGesture cX8_isGesture 2 (some .boolean), Cond.methodLink RX8 42 yX8_in, Cond.static yX8_in, Cond.code yX8_in cX8_in 6 (some .boolean), Cond.methodLink RX8 157 yX8_dutyOf, Cond.instanceMethod yX8_dutyOf, Cond.selects RX8 yX8_dutyOf yX8_dutyOf, Cond.code yX8_dutyOf cX8_dutyOf 3 (some .int), Cond.methodLink RX8 145 yX8_owes, Cond.instanceMethod yX8_owes, Cond.selects RX8 yX8_owes yX8_owes, Cond.code yX8_owes cX8_owes 5 (some .int), Cond.methodLink RX8 138 yX8_plainDuty, Cond.instanceMethod yX8_plainDuty, Cond.selects RX8 yX8_plainDuty yX8_plainDuty, Cond.code yX8_plainDuty cX8_plainDuty 4 (some .int), Cond.methodLink RX8 135 yX8_wave, Cond.instanceMethod yX8_wave]
def wsX8_saved_r2 : List Cond := [Cond.selects RX8 yX8_wave yX8_wave, Cond.code yX8_wave cX8_wave 3 (some .int), Cond.methodLink RX8 142 yX8_has, Cond.static yX8_has, Cond.code yX8_has cX8_has 2 (some .boolean)]
def wsX8_saved : List Cond := .code yX8_saved cX8_saved 4 (some .int) :: ((wsX8_saved_r1 ++ wsX8_saved_r2) ++ wsX80)
def wsX8_worst_r1 : List Cond := [Cond.constant RX8 52 (-1000001), Cond.constant RX8 200 (-1000000), Cond.fieldLink RX8 7 "SignDutyModel" "row" "[I", Cond.methodLink RX8 148 yX8_isGesture, Cond.instanceMethod yX8_isGesture, Cond.selects RX8 yX8_isGesture yX8_isGesture, Cond.initialized RX8, Cond.code yX8_isGesture cX8_isGesture 2 (some .boolean), Cond.methodLink RX8 42 yX8_in, Cond.static yX8_in, Cond.code yX8_in cX8_in 6 (some .boolean), Cond.methodLink RX8 157 yX8_dutyOf, Cond.instanceMethod yX8_dutyOf, Cond.selects RX8 yX8_dutyOf yX8_dutyOf, Cond.code yX8_dutyOf cX8_dutyOf 3 (some .int), Cond.methodLink RX8 145 yX8_owes, Cond.instanceMethod yX8_owes, Cond.selects RX8 yX8_owes yX8_owes, Cond.code yX8_owes cX8_owes 5 (some .int), Cond.methodLink RX8 138 yX8_plainDuty, Cond.instanceMethod yX8_plainDuty, Cond.selects RX8 yX8_plainDuty yX8_plainDuty, Cond.code yX8_plainDuty cX8_plainDuty 4 (some .int), Cond.methodLink RX8 135 yX8_wave]
def wsX8_worst_r2 : List Cond := [Cond.instanceMethod yX8_wave, Cond.selects RX8 yX8_wave yX8_wave, Cond.code yX8_wave cX8_wave 3 (some .int), Cond.methodLink RX8 142 yX8_has, Cond.static yX8_has, Cond.code yX8_has cX8_has 2 (some .boolean)]
def wsX8_worst : List Cond := .code yX8_worst cX8_worst 7 (some .int) :: ((wsX8_worst_r1 ++ wsX8_worst_r2) ++ wsX80)
def wsX8_tremble_r1 : List Cond := [Cond.constantLong RX8 217 (9999), Cond.constantLong RX8 219 (10), Cond.constant RX8 52 (-1000001), Cond.fieldLink RX8 7 "SignDutyModel" "row" "[I", Cond.methodLink RX8 148 yX8_isGesture, Cond.instanceMethod yX8_isGesture, Cond.selects RX8 yX8_isGesture yX8_isGesture, Cond.initialized RX8, Cond.code yX8_isGesture cX8_isGesture 2 (some .boolean), Cond.methodLink RX8 42 yX8_in, Cond.static yX8_in, Cond.code yX8_in cX8_in 6 (some .boolean), Cond.methodLink RX8 187 yX8_areStreets, Cond.instanceMethod yX8_areStreets, Cond.selects RX8 yX8_areStreets yX8_areStreets, Cond.code yX8_areStreets cX8_areStreets 3 (some .boolean), Cond.methodLink RX8 151 yX8_isStreet, Cond.instanceMethod yX8_isStreet, Cond.selects RX8 yX8_isStreet yX8_isStreet, Cond.code yX8_isStreet cX8_isStreet 2 (some .boolean), Cond.methodLink RX8 142 yX8_has, Cond.static yX8_has, Cond.code yX8_has cX8_has 2 (some .boolean), Cond.methodLink RX8 145 yX8_owes]
def wsX8_tremble_r2 : List Cond := [Cond.instanceMethod yX8_owes, Cond.selects RX8 yX8_owes yX8_owes, Cond.code yX8_owes cX8_owes 5 (some .int), Cond.methodLink RX8 138 yX8_plainDuty, Cond.instanceMethod yX8_plainDuty, Cond.selects RX8 yX8_plainDuty yX8_plainDuty, Cond.code yX8_plainDuty cX8_plainDuty 4 (some .int), Cond.methodLink RX8 135 yX8_wave, Cond.instanceMethod yX8_wave, Cond.selects RX8 yX8_wave yX8_wave, Cond.code yX8_wave cX8_wave 3 (some .int)]
def wsX8_tremble : List Cond := .code yX8_tremble cX8_tremble 15 (some .int) :: ((wsX8_tremble_r1 ++ wsX8_tremble_r2) ++ wsX80)
def wsX8_image : List Cond := .code yX8_image cX8_image 2 (some .int) :: ([.constant RX8 52 (-1000001), .fieldLink RX8 127 "SignDutyModel" "isCity" "Z", .constant RX8 134 (-1000002), .fieldLink RX8 13 "SignDutyModel" "isKept" "[Z", .methodLink RX8 42 yX8_in, .static yX8_in, .initialized RX8, .code yX8_in cX8_in 6 (some .boolean), .methodLink RX8 123 yX8_copyTown, .instanceMethod yX8_copyTown, .selects RX8 yX8_copyTown yX8_copyTown, .code yX8_copyTown cX8_copyTown 4 none, .fieldLink RX8 7 "SignDutyModel" "row" "[I"] ++ wsX80)
def wsX8_restore : List Cond := .code yX8_restore cX8_restore 2 (some .int) :: ([.constant RX8 52 (-1000001), .fieldLink RX8 13 "SignDutyModel" "isKept" "[Z", .constant RX8 134 (-1000002), .fieldLink RX8 131 "SignDutyModel" "undos" "I", .methodLink RX8 42 yX8_in, .static yX8_in, .initialized RX8, .code yX8_in cX8_in 6 (some .boolean), .methodLink RX8 123 yX8_copyTown, .instanceMethod yX8_copyTown, .selects RX8 yX8_copyTown yX8_copyTown, .code yX8_copyTown cX8_copyTown 4 none, .fieldLink RX8 7 "SignDutyModel" "row" "[I"] ++ wsX80)
def wsX8_kind : List Cond := .code yX8_kind cX8_kind 2 (some .int) :: ([.fieldLink RX8 7 "SignDutyModel" "row" "[I", .constant RX8 52 (-1000001), .methodLink RX8 148 yX8_isGesture, .instanceMethod yX8_isGesture, .selects RX8 yX8_isGesture yX8_isGesture, .initialized RX8, .code yX8_isGesture cX8_isGesture 2 (some .boolean), .methodLink RX8 42 yX8_in, .static yX8_in, .code yX8_in cX8_in 6 (some .boolean)] ++ wsX80)
def wsX8_isOf : List Cond := .code yX8_isOf cX8_isOf 4 (some .boolean) :: ([.fieldLink RX8 7 "SignDutyModel" "row" "[I"] ++ wsX80)
def wsX8_as_r1 : List Cond := [Cond.constantLong RX8 221 (5), Cond.constant RX8 52 (-1000001), Cond.methodLink RX8 148 yX8_isGesture, Cond.instanceMethod yX8_isGesture, Cond.selects RX8 yX8_isGesture yX8_isGesture, Cond.initialized RX8, Cond.code yX8_isGesture cX8_isGesture 2 (some .boolean), Cond.fieldLink RX8 7 "SignDutyModel" "row" "[I", Cond.methodLink RX8 42 yX8_in, Cond.static yX8_in, Cond.code yX8_in cX8_in 6 (some .boolean), Cond.methodLink RX8 223 yX8_isOf, Cond.instanceMethod yX8_isOf, Cond.selects RX8 yX8_isOf yX8_isOf, Cond.code yX8_isOf cX8_isOf 4 (some .boolean), Cond.methodLink RX8 57 yX8_well, Cond.instanceMethod yX8_well, Cond.selects RX8 yX8_well yX8_well, Cond.code yX8_well cX8_well 2 (some .int), Cond.fieldLink RX8 35 "SignDutyModel" "status" "I", Cond.methodLink RX8 53 yX8_find, Cond.instanceMethod yX8_find, Cond.selects RX8 yX8_find yX8_find, Cond.code yX8_find cX8_find 2 (some .int)]
def wsX8_as_r2 : List Cond := [Cond.constant RX8 39 (-1000010)]
def wsX8_as : List Cond := .code yX8_as cX8_as 3 (some .int) :: ((wsX8_as_r1 ++ wsX8_as_r2) ++ wsX80)
def wsX8_begin : List Cond := .code yX8_begin cX8_begin 2 none :: ([.fieldLink RX8 226 "SignDutyModel" "traced" "I", .fieldLink RX8 29 "SignDutyModel" "trace" "[I"] ++ wsX80)
def wsX8_lentSize : List Cond := .code yX8_lentSize cX8_lentSize 2 (some .int) :: ([.fieldLink RX8 7 "SignDutyModel" "row" "[I", .methodLink RX8 229 yX8_begin, .instanceMethod yX8_begin, .selects RX8 yX8_begin yX8_begin, .initialized RX8, .code yX8_begin cX8_begin 2 none, .fieldLink RX8 226 "SignDutyModel" "traced" "I", .fieldLink RX8 29 "SignDutyModel" "trace" "[I"] ++ wsX80)
def wsX8_lentMark : List Cond := .code yX8_lentMark cX8_lentMark 2 (some .int) :: ([.methodLink RX8 229 yX8_begin, .instanceMethod yX8_begin, .selects RX8 yX8_begin yX8_begin, .initialized RX8, .code yX8_begin cX8_begin 2 none, .fieldLink RX8 226 "SignDutyModel" "traced" "I", .fieldLink RX8 29 "SignDutyModel" "trace" "[I"] ++ wsX80)
def wsX8_wavesMark : List Cond := .code yX8_wavesMark cX8_wavesMark 2 (some .int) :: ([.fieldLink RX8 7 "SignDutyModel" "row" "[I", .methodLink RX8 229 yX8_begin, .instanceMethod yX8_begin, .selects RX8 yX8_begin yX8_begin, .initialized RX8, .code yX8_begin cX8_begin 2 none, .fieldLink RX8 226 "SignDutyModel" "traced" "I", .fieldLink RX8 29 "SignDutyModel" "trace" "[I", .methodLink RX8 245 yX8_lentMark, .instanceMethod yX8_lentMark, .selects RX8 yX8_lentMark yX8_lentMark, .code yX8_lentMark cX8_lentMark 2 (some .int)] ++ wsX80)
def wsX8_mark : List Cond := .code yX8_mark cX8_mark 2 (some .int) :: ([.fieldLink RX8 7 "SignDutyModel" "row" "[I", .methodLink RX8 229 yX8_begin, .instanceMethod yX8_begin, .selects RX8 yX8_begin yX8_begin, .initialized RX8, .code yX8_begin cX8_begin 2 none, .fieldLink RX8 226 "SignDutyModel" "traced" "I", .fieldLink RX8 29 "SignDutyModel" "trace" "[I", .methodLink RX8 248 yX8_wavesMark, .instanceMethod yX8_wavesMark, .selects RX8 yX8_wavesMark yX8_wavesMark, .code yX8_wavesMark cX8_wavesMark 2 (some .int), .methodLink RX8 245 yX8_lentMark, .instanceMethod yX8_lentMark, .selects RX8 yX8_lentMark yX8_lentMark, .code yX8_lentMark cX8_lentMark 2 (some .int)] ++ wsX80)
def wsX8_wavesSize : List Cond := .code yX8_wavesSize cX8_wavesSize 3 (some .int) :: ([.methodLink RX8 229 yX8_begin, .instanceMethod yX8_begin, .selects RX8 yX8_begin yX8_begin, .initialized RX8, .code yX8_begin cX8_begin 2 none, .fieldLink RX8 226 "SignDutyModel" "traced" "I", .fieldLink RX8 29 "SignDutyModel" "trace" "[I", .methodLink RX8 233 yX8_lentSize, .instanceMethod yX8_lentSize, .selects RX8 yX8_lentSize yX8_lentSize, .code yX8_lentSize cX8_lentSize 2 (some .int), .fieldLink RX8 7 "SignDutyModel" "row" "[I", .methodLink RX8 236 yX8_mark, .instanceMethod yX8_mark, .selects RX8 yX8_mark yX8_mark, .code yX8_mark cX8_mark 2 (some .int), .methodLink RX8 248 yX8_wavesMark, .instanceMethod yX8_wavesMark, .selects RX8 yX8_wavesMark yX8_wavesMark, .code yX8_wavesMark cX8_wavesMark 2 (some .int), .methodLink RX8 245 yX8_lentMark, .instanceMethod yX8_lentMark, .selects RX8 yX8_lentMark yX8_lentMark, .code yX8_lentMark cX8_lentMark 2 (some .int)] ++ wsX80)
def wsX8_winksSize : List Cond := .code yX8_winksSize cX8_winksSize 2 (some .int) :: ([.methodLink RX8 229 yX8_begin, .instanceMethod yX8_begin, .selects RX8 yX8_begin yX8_begin, .initialized RX8, .code yX8_begin cX8_begin 2 none, .fieldLink RX8 226 "SignDutyModel" "traced" "I", .fieldLink RX8 29 "SignDutyModel" "trace" "[I", .methodLink RX8 233 yX8_lentSize, .instanceMethod yX8_lentSize, .selects RX8 yX8_lentSize yX8_lentSize, .code yX8_lentSize cX8_lentSize 2 (some .int), .fieldLink RX8 7 "SignDutyModel" "row" "[I"] ++ wsX80)
def wsX8_sizeOf_r1 : List Cond := [Cond.fieldLink RX8 7 "SignDutyModel" "row" "[I", Cond.methodLink RX8 229 yX8_begin, Cond.instanceMethod yX8_begin, Cond.selects RX8 yX8_begin yX8_begin, Cond.initialized RX8, Cond.code yX8_begin cX8_begin 2 none, Cond.fieldLink RX8 226 "SignDutyModel" "traced" "I", Cond.fieldLink RX8 29 "SignDutyModel" "trace" "[I", Cond.methodLink RX8 239 yX8_wavesSize, Cond.instanceMethod yX8_wavesSize, Cond.selects RX8 yX8_wavesSize yX8_wavesSize, Cond.code yX8_wavesSize cX8_wavesSize 3 (some .int), Cond.methodLink RX8 233 yX8_lentSize, Cond.instanceMethod yX8_lentSize, Cond.selects RX8 yX8_lentSize yX8_lentSize, Cond.code yX8_lentSize cX8_lentSize 2 (some .int), Cond.methodLink RX8 236 yX8_mark, Cond.instanceMethod yX8_mark, Cond.selects RX8 yX8_mark yX8_mark, Cond.code yX8_mark cX8_mark 2 (some .int), Cond.methodLink RX8 248 yX8_wavesMark, Cond.instanceMethod yX8_wavesMark, Cond.selects RX8 yX8_wavesMark yX8_wavesMark, Cond.code yX8_wavesMark cX8_wavesMark 2 (some .int)]
def wsX8_sizeOf_r2 : List Cond := [Cond.methodLink RX8 245 yX8_lentMark, Cond.instanceMethod yX8_lentMark, Cond.selects RX8 yX8_lentMark yX8_lentMark, Cond.code yX8_lentMark cX8_lentMark 2 (some .int), Cond.methodLink RX8 242 yX8_winksSize, Cond.instanceMethod yX8_winksSize, Cond.selects RX8 yX8_winksSize yX8_winksSize, Cond.code yX8_winksSize cX8_winksSize 2 (some .int)]
def wsX8_sizeOf : List Cond := .code yX8_sizeOf cX8_sizeOf 2 (some .int) :: ((wsX8_sizeOf_r1 ++ wsX8_sizeOf_r2) ++ wsX80)
def wsX8_winksMark_r1 : List Cond := [Cond.methodLink RX8 229 yX8_begin, Cond.instanceMethod yX8_begin, Cond.selects RX8 yX8_begin yX8_begin, Cond.initialized RX8, Cond.code yX8_begin cX8_begin 2 none, Cond.fieldLink RX8 226 "SignDutyModel" "traced" "I", Cond.fieldLink RX8 29 "SignDutyModel" "trace" "[I", Cond.methodLink RX8 245 yX8_lentMark, Cond.instanceMethod yX8_lentMark, Cond.selects RX8 yX8_lentMark yX8_lentMark, Cond.code yX8_lentMark cX8_lentMark 2 (some .int), Cond.methodLink RX8 251 yX8_sizeOf, Cond.instanceMethod yX8_sizeOf, Cond.selects RX8 yX8_sizeOf yX8_sizeOf, Cond.code yX8_sizeOf cX8_sizeOf 2 (some .int), Cond.fieldLink RX8 7 "SignDutyModel" "row" "[I", Cond.methodLink RX8 239 yX8_wavesSize, Cond.instanceMethod yX8_wavesSize, Cond.selects RX8 yX8_wavesSize yX8_wavesSize, Cond.code yX8_wavesSize cX8_wavesSize 3 (some .int), Cond.methodLink RX8 233 yX8_lentSize, Cond.instanceMethod yX8_lentSize, Cond.selects RX8 yX8_lentSize yX8_lentSize, Cond.code yX8_lentSize cX8_lentSize 2 (some .int)]
def wsX8_winksMark_r2 : List Cond := [Cond.methodLink RX8 236 yX8_mark, Cond.instanceMethod yX8_mark, Cond.selects RX8 yX8_mark yX8_mark, Cond.code yX8_mark cX8_mark 2 (some .int), Cond.methodLink RX8 248 yX8_wavesMark, Cond.instanceMethod yX8_wavesMark, Cond.selects RX8 yX8_wavesMark yX8_wavesMark, Cond.code yX8_wavesMark cX8_wavesMark 2 (some .int), Cond.methodLink RX8 242 yX8_winksSize, Cond.instanceMethod yX8_winksSize, Cond.selects RX8 yX8_winksSize yX8_winksSize, Cond.code yX8_winksSize cX8_winksSize 2 (some .int)]
def wsX8_winksMark : List Cond := .code yX8_winksMark cX8_winksMark 3 (some .int) :: ((wsX8_winksMark_r1 ++ wsX8_winksMark_r2) ++ wsX80)
def wsX8_ask_r1 : List Cond := [Cond.constant RX8 52 (-1000001), Cond.fieldLink RX8 226 "SignDutyModel" "traced" "I", Cond.methodLink RX8 148 yX8_isGesture, Cond.instanceMethod yX8_isGesture, Cond.selects RX8 yX8_isGesture yX8_isGesture, Cond.initialized RX8, Cond.code yX8_isGesture cX8_isGesture 2 (some .boolean), Cond.fieldLink RX8 7 "SignDutyModel" "row" "[I", Cond.methodLink RX8 42 yX8_in, Cond.static yX8_in, Cond.code yX8_in cX8_in 6 (some .boolean), Cond.methodLink RX8 251 yX8_sizeOf, Cond.instanceMethod yX8_sizeOf, Cond.selects RX8 yX8_sizeOf yX8_sizeOf, Cond.code yX8_sizeOf cX8_sizeOf 2 (some .int), Cond.methodLink RX8 229 yX8_begin, Cond.instanceMethod yX8_begin, Cond.selects RX8 yX8_begin yX8_begin, Cond.code yX8_begin cX8_begin 2 none, Cond.fieldLink RX8 29 "SignDutyModel" "trace" "[I", Cond.methodLink RX8 239 yX8_wavesSize, Cond.instanceMethod yX8_wavesSize, Cond.selects RX8 yX8_wavesSize yX8_wavesSize, Cond.code yX8_wavesSize cX8_wavesSize 3 (some .int)]
def wsX8_ask_r2 : List Cond := [Cond.methodLink RX8 233 yX8_lentSize, Cond.instanceMethod yX8_lentSize, Cond.selects RX8 yX8_lentSize yX8_lentSize, Cond.code yX8_lentSize cX8_lentSize 2 (some .int), Cond.methodLink RX8 236 yX8_mark, Cond.instanceMethod yX8_mark, Cond.selects RX8 yX8_mark yX8_mark, Cond.code yX8_mark cX8_mark 2 (some .int), Cond.methodLink RX8 248 yX8_wavesMark, Cond.instanceMethod yX8_wavesMark, Cond.selects RX8 yX8_wavesMark yX8_wavesMark, Cond.code yX8_wavesMark cX8_wavesMark 2 (some .int), Cond.methodLink RX8 245 yX8_lentMark, Cond.instanceMethod yX8_lentMark, Cond.selects RX8 yX8_lentMark yX8_lentMark, Cond.code yX8_lentMark cX8_lentMark 2 (some .int), Cond.methodLink RX8 242 yX8_winksSize, Cond.instanceMethod yX8_winksSize, Cond.selects RX8 yX8_winksSize yX8_winksSize, Cond.code yX8_winksSize cX8_winksSize 2 (some .int), Cond.methodLink RX8 223 yX8_isOf, Cond.instanceMethod yX8_isOf, Cond.selects RX8 yX8_isOf yX8_isOf, Cond.code yX8_isOf cX8_isOf 4 (some .boolean)]
def wsX8_ask_r3 : List Cond := [Cond.methodLink RX8 254 yX8_winksMark, Cond.instanceMethod yX8_winksMark, Cond.selects RX8 yX8_winksMark yX8_winksMark, Cond.code yX8_winksMark cX8_winksMark 3 (some .int)]
def wsX8_ask : List Cond := .code yX8_ask cX8_ask 3 (some .int) :: ((wsX8_ask_r1 ++ (wsX8_ask_r2 ++ wsX8_ask_r3)) ++ wsX80)
def wsX8_trace : List Cond := .code yX8_trace cX8_trace 2 (some .int) :: ([.fieldLink RX8 226 "SignDutyModel" "traced" "I", .fieldLink RX8 29 "SignDutyModel" "trace" "[I", .constant RX8 200 (-1000000), .methodLink RX8 42 yX8_in, .static yX8_in, .initialized RX8, .code yX8_in cX8_in 6 (some .boolean)] ++ wsX80)
def wsX8_count : List Cond := .code yX8_count cX8_count 4 (some .int) :: ([.fieldLink RX8 20 "SignDutyModel" "sizes" "[I", .fieldLink RX8 7 "SignDutyModel" "row" "[I", .fieldLink RX8 131 "SignDutyModel" "undos" "I", .fieldLink RX8 70 "SignDutyModel" "length" "I", .constant RX8 52 (-1000001), .methodLink RX8 257 yX8_bits, .static yX8_bits, .initialized RX8, .code yX8_bits cX8_bits 3 (some .int)] ++ wsX80)
def wsX8_status : List Cond := .code yX8_status cX8_status 1 (some .int) :: ([.fieldLink RX8 35 "SignDutyModel" "status" "I"] ++ wsX80)
def wsJ9_max_7cf53 : List Cond := .code yJ9_max_7cf53 cJ9_max_7cf53 2 (some .int) :: ([])
def wsJ9_min_7cf53 : List Cond := .code yJ9_min_7cf53 cJ9_min_7cf53 2 (some .int) :: ([])
abbrev vwCl : List vw_C := [(RX0, TX0, 5), (RX1, TX1, 2), (RX2, TX2, 13), (RX4, TX4, 6), (RX5, TX5, 3), (RX6, TX6, 1), (RX7, TX7, 9), (RX8, TX8, 17)]
end
section
theorem dX0_init_0 : decode cX0_init 0 = .ok (.aload_n 0, 1) := by decide +kernel
theorem dX0_init_1 : decode cX0_init 1 = .ok (.invokespecial 1, 3) := by decide +kernel
theorem dX0_init_4 : decode cX0_init 4 = .ok (.aload_n 0, 1) := by decide +kernel
theorem dX0_init_5 : decode cX0_init 5 = .ok (.bipush 24, 2) := by decide +kernel
theorem dX0_init_7 : decode cX0_init 7 = .ok (.newarray .int, 2) := by decide +kernel
theorem dX0_init_9 : decode cX0_init 9 = .ok (.putfield 9, 3) := by decide +kernel
theorem dX0_init_12 : decode cX0_init 12 = .ok (.aload_n 0, 1) := by decide +kernel
theorem dX0_init_13 : decode cX0_init 13 = .ok (.bipush 24, 2) := by decide +kernel
theorem dX0_init_15 : decode cX0_init 15 = .ok (.newarray .int, 2) := by decide +kernel
theorem dX0_init_17 : decode cX0_init 17 = .ok (.putfield 13, 3) := by decide +kernel
theorem dX0_init_20 : decode cX0_init 20 = .ok (.aload_n 0, 1) := by decide +kernel
theorem dX0_init_21 : decode cX0_init 21 = .ok (.bipush 24, 2) := by decide +kernel
theorem dX0_init_23 : decode cX0_init 23 = .ok (.newarray .int, 2) := by decide +kernel
theorem dX0_init_25 : decode cX0_init 25 = .ok (.putfield 16, 3) := by decide +kernel
theorem dX0_init_28 : decode cX0_init 28 = .ok (.aload_n 0, 1) := by decide +kernel
theorem dX0_init_29 : decode cX0_init 29 = .ok (.iconst 0, 1) := by decide +kernel
theorem dX0_init_30 : decode cX0_init 30 = .ok (.putfield 19, 3) := by decide +kernel
theorem dX0_init_33 : decode cX0_init 33 = .ok (.aload_n 0, 1) := by decide +kernel
theorem dX0_init_34 : decode cX0_init 34 = .ok (.iconst 0, 1) := by decide +kernel
theorem dX0_init_35 : decode cX0_init 35 = .ok (.putfield 23, 3) := by decide +kernel
theorem dX0_init_38 : decode cX0_init 38 = .ok (.return_, 1) := by decide +kernel
theorem dX0_forgetAll_0 : decode cX0_forgetAll 0 = .ok (.aload_n 0, 1) := by decide +kernel
theorem dX0_forgetAll_1 : decode cX0_forgetAll 1 = .ok (.iconst 0, 1) := by decide +kernel
theorem dX0_forgetAll_2 : decode cX0_forgetAll 2 = .ok (.putfield 23, 3) := by decide +kernel
theorem dX0_forgetAll_5 : decode cX0_forgetAll 5 = .ok (.return_, 1) := by decide +kernel
theorem dX0_keep_0 : decode cX0_keep 0 = .ok (.aload_n 0, 1) := by decide +kernel
theorem dX0_keep_1 : decode cX0_keep 1 = .ok (.getfield 9, 3) := by decide +kernel
theorem dX0_keep_4 : decode cX0_keep 4 = .ok (.aload_n 0, 1) := by decide +kernel
theorem dX0_keep_5 : decode cX0_keep 5 = .ok (.getfield 19, 3) := by decide +kernel
theorem dX0_keep_8 : decode cX0_keep 8 = .ok (.iload_n 1, 1) := by decide +kernel
theorem dX0_keep_9 : decode cX0_keep 9 = .ok (.iastore, 1) := by decide +kernel
theorem dX0_keep_10 : decode cX0_keep 10 = .ok (.aload_n 0, 1) := by decide +kernel
theorem dX0_keep_11 : decode cX0_keep 11 = .ok (.getfield 13, 3) := by decide +kernel
theorem dX0_keep_14 : decode cX0_keep 14 = .ok (.aload_n 0, 1) := by decide +kernel
theorem dX0_keep_15 : decode cX0_keep 15 = .ok (.getfield 19, 3) := by decide +kernel
theorem dX0_keep_18 : decode cX0_keep 18 = .ok (.iload_n 2, 1) := by decide +kernel
theorem dX0_keep_19 : decode cX0_keep 19 = .ok (.iastore, 1) := by decide +kernel
theorem dX0_keep_20 : decode cX0_keep 20 = .ok (.aload_n 0, 1) := by decide +kernel
theorem dX0_keep_21 : decode cX0_keep 21 = .ok (.getfield 16, 3) := by decide +kernel
theorem dX0_keep_24 : decode cX0_keep 24 = .ok (.aload_n 0, 1) := by decide +kernel
theorem dX0_keep_25 : decode cX0_keep 25 = .ok (.getfield 19, 3) := by decide +kernel
theorem dX0_keep_28 : decode cX0_keep 28 = .ok (.iload_n 3, 1) := by decide +kernel
theorem dX0_keep_29 : decode cX0_keep 29 = .ok (.iastore, 1) := by decide +kernel
theorem dX0_keep_30 : decode cX0_keep 30 = .ok (.aload_n 0, 1) := by decide +kernel
theorem dX0_keep_31 : decode cX0_keep 31 = .ok (.aload_n 0, 1) := by decide +kernel
theorem dX0_keep_32 : decode cX0_keep 32 = .ok (.getfield 19, 3) := by decide +kernel
theorem dX0_keep_35 : decode cX0_keep 35 = .ok (.iconst 1, 1) := by decide +kernel
theorem dX0_keep_36 : decode cX0_keep 36 = .ok (.iadd, 1) := by decide +kernel
theorem dX0_keep_37 : decode cX0_keep 37 = .ok (.bipush 24, 2) := by decide +kernel
theorem dX0_keep_39 : decode cX0_keep 39 = .ok (.irem, 1) := by decide +kernel
theorem dX0_keep_40 : decode cX0_keep 40 = .ok (.putfield 19, 3) := by decide +kernel
theorem dX0_keep_43 : decode cX0_keep 43 = .ok (.aload_n 0, 1) := by decide +kernel
theorem dX0_keep_44 : decode cX0_keep 44 = .ok (.aload_n 0, 1) := by decide +kernel
theorem dX0_keep_45 : decode cX0_keep 45 = .ok (.getfield 23, 3) := by decide +kernel
theorem dX0_keep_48 : decode cX0_keep 48 = .ok (.iconst 1, 1) := by decide +kernel
theorem dX0_keep_49 : decode cX0_keep 49 = .ok (.iadd, 1) := by decide +kernel
theorem dX0_keep_50 : decode cX0_keep 50 = .ok (.bipush 24, 2) := by decide +kernel
theorem dX0_keep_52 : decode cX0_keep 52 = .ok (.invokestatic 26, 3) := by decide +kernel
theorem dX0_keep_55 : decode cX0_keep 55 = .ok (.putfield 23, 3) := by decide +kernel
theorem dX0_keep_58 : decode cX0_keep 58 = .ok (.return_, 1) := by decide +kernel
set_option maxRecDepth 20000 in
theorem ggX0_takeBack_X2_turnKnown : GoodIn wsX0_takeBack wsX2_turnKnown := goodIn_r _ [14, 15, 21, 22, 23, 24, 25, 26, 27, 28, 29, 30, 31, 32, 33] (by decide +kernel) (by decide +kernel)
set_option maxRecDepth 20000 in
theorem gX0_takeBack_X2_turnKnown : GoodIn wsX0_takeBack (wsV RX0 46 RX2 yX2_turnKnown wsX2_turnKnown) := goodIn_app (goodIn_of _ (by decide +kernel)) ggX0_takeBack_X2_turnKnown
theorem dX0_takeBack_0 : decode cX0_takeBack 0 = .ok (.aload_n 0, 1) := by decide +kernel
theorem dX0_takeBack_1 : decode cX0_takeBack 1 = .ok (.aload_n 0, 1) := by decide +kernel
theorem dX0_takeBack_2 : decode cX0_takeBack 2 = .ok (.getfield 19, 3) := by decide +kernel
theorem dX0_takeBack_5 : decode cX0_takeBack 5 = .ok (.bipush 24, 2) := by decide +kernel
theorem dX0_takeBack_7 : decode cX0_takeBack 7 = .ok (.iadd, 1) := by decide +kernel
theorem dX0_takeBack_8 : decode cX0_takeBack 8 = .ok (.iconst 1, 1) := by decide +kernel
theorem dX0_takeBack_9 : decode cX0_takeBack 9 = .ok (.isub, 1) := by decide +kernel
theorem dX0_takeBack_10 : decode cX0_takeBack 10 = .ok (.bipush 24, 2) := by decide +kernel
theorem dX0_takeBack_12 : decode cX0_takeBack 12 = .ok (.irem, 1) := by decide +kernel
theorem dX0_takeBack_13 : decode cX0_takeBack 13 = .ok (.putfield 19, 3) := by decide +kernel
theorem dX0_takeBack_16 : decode cX0_takeBack 16 = .ok (.aload_n 0, 1) := by decide +kernel
theorem dX0_takeBack_17 : decode cX0_takeBack 17 = .ok (.dup, 1) := by decide +kernel
theorem dX0_takeBack_18 : decode cX0_takeBack 18 = .ok (.getfield 23, 3) := by decide +kernel
theorem dX0_takeBack_21 : decode cX0_takeBack 21 = .ok (.iconst 1, 1) := by decide +kernel
theorem dX0_takeBack_22 : decode cX0_takeBack 22 = .ok (.isub, 1) := by decide +kernel
theorem dX0_takeBack_23 : decode cX0_takeBack 23 = .ok (.putfield 23, 3) := by decide +kernel
theorem dX0_takeBack_26 : decode cX0_takeBack 26 = .ok (.aload_n 0, 1) := by decide +kernel
theorem dX0_takeBack_27 : decode cX0_takeBack 27 = .ok (.getfield 13, 3) := by decide +kernel
theorem dX0_takeBack_30 : decode cX0_takeBack 30 = .ok (.aload_n 0, 1) := by decide +kernel
theorem dX0_takeBack_31 : decode cX0_takeBack 31 = .ok (.getfield 19, 3) := by decide +kernel
theorem dX0_takeBack_34 : decode cX0_takeBack 34 = .ok (.iaload, 1) := by decide +kernel
theorem dX0_takeBack_35 : decode cX0_takeBack 35 = .ok (.istore_n 2, 1) := by decide +kernel
theorem dX0_takeBack_36 : decode cX0_takeBack 36 = .ok (.aload_n 0, 1) := by decide +kernel
theorem dX0_takeBack_37 : decode cX0_takeBack 37 = .ok (.getfield 16, 3) := by decide +kernel
theorem dX0_takeBack_40 : decode cX0_takeBack 40 = .ok (.aload_n 0, 1) := by decide +kernel
theorem dX0_takeBack_41 : decode cX0_takeBack 41 = .ok (.getfield 19, 3) := by decide +kernel
theorem dX0_takeBack_44 : decode cX0_takeBack 44 = .ok (.iaload, 1) := by decide +kernel
theorem dX0_takeBack_45 : decode cX0_takeBack 45 = .ok (.istore_n 3, 1) := by decide +kernel
theorem dX0_takeBack_46 : decode cX0_takeBack 46 = .ok (.aload_n 0, 1) := by decide +kernel
theorem dX0_takeBack_47 : decode cX0_takeBack 47 = .ok (.getfield 9, 3) := by decide +kernel
theorem dX0_takeBack_50 : decode cX0_takeBack 50 = .ok (.aload_n 0, 1) := by decide +kernel
theorem dX0_takeBack_51 : decode cX0_takeBack 51 = .ok (.getfield 19, 3) := by decide +kernel
theorem dX0_takeBack_54 : decode cX0_takeBack 54 = .ok (.iaload, 1) := by decide +kernel
theorem dX0_takeBack_55 : decode cX0_takeBack 55 = .ok (.tableswitch 83 0 3 #[29, 52, 62, 75], 29) := by decide +kernel
theorem dX0_takeBack_84 : decode cX0_takeBack 84 = .ok (.aload_n 1, 1) := by decide +kernel
theorem dX0_takeBack_85 : decode cX0_takeBack 85 = .ok (.getfield 32, 3) := by decide +kernel
theorem dX0_takeBack_88 : decode cX0_takeBack 88 = .ok (.iload_n 2, 1) := by decide +kernel
theorem dX0_takeBack_89 : decode cX0_takeBack 89 = .ok (.dup2, 1) := by decide +kernel
theorem dX0_takeBack_90 : decode cX0_takeBack 90 = .ok (.iaload, 1) := by decide +kernel
theorem dX0_takeBack_91 : decode cX0_takeBack 91 = .ok (.iconst 1, 1) := by decide +kernel
theorem dX0_takeBack_92 : decode cX0_takeBack 92 = .ok (.isub, 1) := by decide +kernel
theorem dX0_takeBack_93 : decode cX0_takeBack 93 = .ok (.iastore, 1) := by decide +kernel
theorem dX0_takeBack_94 : decode cX0_takeBack 94 = .ok (.aload_n 1, 1) := by decide +kernel
theorem dX0_takeBack_95 : decode cX0_takeBack 95 = .ok (.dup, 1) := by decide +kernel
theorem dX0_takeBack_96 : decode cX0_takeBack 96 = .ok (.getfield 37, 3) := by decide +kernel
theorem dX0_takeBack_99 : decode cX0_takeBack 99 = .ok (.iload_n 3, 1) := by decide +kernel
theorem dX0_takeBack_100 : decode cX0_takeBack 100 = .ok (.isub, 1) := by decide +kernel
theorem dX0_takeBack_101 : decode cX0_takeBack 101 = .ok (.putfield 37, 3) := by decide +kernel
theorem dX0_takeBack_104 : decode cX0_takeBack 104 = .ok (.goto 34, 3) := by decide +kernel
theorem dX0_takeBack_107 : decode cX0_takeBack 107 = .ok (.aload_n 1, 1) := by decide +kernel
theorem dX0_takeBack_108 : decode cX0_takeBack 108 = .ok (.getfield 40, 3) := by decide +kernel
theorem dX0_takeBack_111 : decode cX0_takeBack 111 = .ok (.iload_n 2, 1) := by decide +kernel
theorem dX0_takeBack_112 : decode cX0_takeBack 112 = .ok (.iload_n 3, 1) := by decide +kernel
theorem dX0_takeBack_113 : decode cX0_takeBack 113 = .ok (.iastore, 1) := by decide +kernel
theorem dX0_takeBack_114 : decode cX0_takeBack 114 = .ok (.goto 24, 3) := by decide +kernel
theorem dX0_takeBack_117 : decode cX0_takeBack 117 = .ok (.aload_n 1, 1) := by decide +kernel
theorem dX0_takeBack_118 : decode cX0_takeBack 118 = .ok (.getfield 43, 3) := by decide +kernel
theorem dX0_takeBack_121 : decode cX0_takeBack 121 = .ok (.iload_n 2, 1) := by decide +kernel
theorem dX0_takeBack_122 : decode cX0_takeBack 122 = .ok (.dup2, 1) := by decide +kernel
theorem dX0_takeBack_123 : decode cX0_takeBack 123 = .ok (.iaload, 1) := by decide +kernel
theorem dX0_takeBack_124 : decode cX0_takeBack 124 = .ok (.iload_n 3, 1) := by decide +kernel
theorem dX0_takeBack_125 : decode cX0_takeBack 125 = .ok (.iadd, 1) := by decide +kernel
theorem dX0_takeBack_126 : decode cX0_takeBack 126 = .ok (.iastore, 1) := by decide +kernel
theorem dX0_takeBack_127 : decode cX0_takeBack 127 = .ok (.goto 11, 3) := by decide +kernel
theorem dX0_takeBack_130 : decode cX0_takeBack 130 = .ok (.aload_n 1, 1) := by decide +kernel
theorem dX0_takeBack_131 : decode cX0_takeBack 131 = .ok (.iload_n 2, 1) := by decide +kernel
theorem dX0_takeBack_132 : decode cX0_takeBack 132 = .ok (.invokevirtual 46, 3) := by decide +kernel
theorem dX0_takeBack_135 : decode cX0_takeBack 135 = .ok (.goto 3, 3) := by decide +kernel
theorem dX0_takeBack_138 : decode cX0_takeBack 138 = .ok (.return_, 1) := by decide +kernel
theorem dX1_init_0 : decode cX1_init 0 = .ok (.aload_n 0, 1) := by decide +kernel
theorem dX1_init_1 : decode cX1_init 1 = .ok (.invokespecial 3, 3) := by decide +kernel
theorem dX1_init_4 : decode cX1_init 4 = .ok (.aload_n 0, 1) := by decide +kernel
theorem dX1_init_5 : decode cX1_init 5 = .ok (.bipush 16, 2) := by decide +kernel
theorem dX1_init_7 : decode cX1_init 7 = .ok (.newarray .int, 2) := by decide +kernel
theorem dX1_init_9 : decode cX1_init 9 = .ok (.putfield 11, 3) := by decide +kernel
theorem dX1_init_12 : decode cX1_init 12 = .ok (.aload_n 0, 1) := by decide +kernel
theorem dX1_init_13 : decode cX1_init 13 = .ok (.iconst 0, 1) := by decide +kernel
theorem dX1_init_14 : decode cX1_init 14 = .ok (.putfield 15, 3) := by decide +kernel
theorem dX1_init_17 : decode cX1_init 17 = .ok (.return_, 1) := by decide +kernel
set_option maxRecDepth 20000 in
theorem ggX1_answer_X1_asked : GoodIn wsX1_answer wsX1_asked := goodIn_r _ [6, 7, 8, 9, 10, 11, 5, 12, 13, 14, 15, 16, 17, 18, 19, 20, 21, 22, 23, 24, 25, 26, 27, 1, 28, 2, 3, 4, 31, 32, 33, 34, 35, 36, 37, 38, 39, 40, 41, 42, 43, 29, 30] (by decide +kernel) (by decide +kernel)
set_option maxRecDepth 20000 in
theorem gX1_answer_X1_asked : GoodIn wsX1_answer (wsV RX1 19 RX1 yX1_asked wsX1_asked) := goodIn_app (goodIn_of _ (by decide +kernel)) ggX1_answer_X1_asked
theorem dX1_answer_0 : decode cX1_answer 0 = .ok (.aload_n 0, 1) := by decide +kernel
theorem dX1_answer_1 : decode cX1_answer 1 = .ok (.iconst 0, 1) := by decide +kernel
theorem dX1_answer_2 : decode cX1_answer 2 = .ok (.putfield 15, 3) := by decide +kernel
theorem dX1_answer_5 : decode cX1_answer 5 = .ok (.aload_n 0, 1) := by decide +kernel
theorem dX1_answer_6 : decode cX1_answer 6 = .ok (.aload_n 1, 1) := by decide +kernel
theorem dX1_answer_7 : decode cX1_answer 7 = .ok (.iload_n 2, 1) := by decide +kernel
theorem dX1_answer_8 : decode cX1_answer 8 = .ok (.iload_n 3, 1) := by decide +kernel
theorem dX1_answer_9 : decode cX1_answer 9 = .ok (.iconst 0, 1) := by decide +kernel
theorem dX1_answer_10 : decode cX1_answer 10 = .ok (.invokevirtual 19, 3) := by decide +kernel
theorem dX1_answer_13 : decode cX1_answer 13 = .ok (.ireturn, 1) := by decide +kernel
theorem dX1_numberLeft_0 : decode cX1_numberLeft 0 = .ok (.iload_n 1, 1) := by decide +kernel
theorem dX1_numberLeft_1 : decode cX1_numberLeft 1 = .ok (.ifCond .lt 20, 3) := by decide +kernel
theorem dX1_numberLeft_4 : decode cX1_numberLeft 4 = .ok (.iload_n 1, 1) := by decide +kernel
theorem dX1_numberLeft_5 : decode cX1_numberLeft 5 = .ok (.aload_n 0, 1) := by decide +kernel
theorem dX1_numberLeft_6 : decode cX1_numberLeft 6 = .ok (.getfield 15, 3) := by decide +kernel
theorem dX1_numberLeft_9 : decode cX1_numberLeft 9 = .ok (.if_icmp .ge 12, 3) := by decide +kernel
theorem dX1_numberLeft_12 : decode cX1_numberLeft 12 = .ok (.aload_n 0, 1) := by decide +kernel
theorem dX1_numberLeft_13 : decode cX1_numberLeft 13 = .ok (.getfield 11, 3) := by decide +kernel
theorem dX1_numberLeft_16 : decode cX1_numberLeft 16 = .ok (.iload_n 1, 1) := by decide +kernel
theorem dX1_numberLeft_17 : decode cX1_numberLeft 17 = .ok (.iaload, 1) := by decide +kernel
theorem dX1_numberLeft_18 : decode cX1_numberLeft 18 = .ok (.goto 5, 3) := by decide +kernel
theorem dX1_numberLeft_21 : decode cX1_numberLeft 21 = .ok (.ldc 23, 2) := by decide +kernel
theorem dX1_numberLeft_23 : decode cX1_numberLeft 23 = .ok (.ireturn, 1) := by decide +kernel
set_option maxRecDepth 20000 in
theorem ggX1_asked_X1_bodyFor : GoodIn wsX1_asked wsX1_bodyFor := goodIn_r _ [7, 8, 9, 10, 11, 12] (by decide +kernel) (by decide +kernel)
set_option maxRecDepth 20000 in
theorem gX1_asked_X1_bodyFor : GoodIn wsX1_asked (va_wsS RX1 35 yX1_bodyFor wsX1_bodyFor) := goodIn_app (goodIn_of _ (by decide +kernel)) ggX1_asked_X1_bodyFor
set_option maxRecDepth 20000 in
theorem ggX1_asked_X1_given : GoodIn wsX1_asked wsX1_given := goodIn_r _ [16, 17, 18, 19, 20, 21, 6, 22, 23, 24, 13, 14, 15, 25, 26, 27, 0, 1, 2, 3, 4, 5, 7, 8, 9, 10, 11, 12, 28, 29, 30, 31, 32, 33, 34, 35, 36, 37, 38, 39, 40, 41, 42] (by decide +kernel) (by decide +kernel)
set_option maxRecDepth 20000 in
theorem gX1_asked_X1_given : GoodIn wsX1_asked (wsV RX1 39 RX1 yX1_given wsX1_given) := goodIn_app (goodIn_of _ (by decide +kernel)) ggX1_asked_X1_given
theorem dX1_asked_0 : decode cX1_asked 0 = .ok (.iload_n 3, 1) := by decide +kernel
theorem dX1_asked_1 : decode cX1_asked 1 = .ok (.ifCond .ne 9, 3) := by decide +kernel
theorem dX1_asked_4 : decode cX1_asked 4 = .ok (.getstatic 24, 3) := by decide +kernel
theorem dX1_asked_7 : decode cX1_asked 7 = .ok (.goto 6, 3) := by decide +kernel
theorem dX1_asked_10 : decode cX1_asked 10 = .ok (.getstatic 27, 3) := by decide +kernel
theorem dX1_asked_13 : decode cX1_asked 13 = .ok (.astore 5, 2) := by decide +kernel
theorem dX1_asked_15 : decode cX1_asked 15 = .ok (.aload_n 0, 1) := by decide +kernel
theorem dX1_asked_16 : decode cX1_asked 16 = .ok (.aload 5, 2) := by decide +kernel
theorem dX1_asked_18 : decode cX1_asked 18 = .ok (.aload_n 1, 1) := by decide +kernel
theorem dX1_asked_19 : decode cX1_asked 19 = .ok (.getfield 30, 3) := by decide +kernel
theorem dX1_asked_22 : decode cX1_asked 22 = .ok (.iload_n 2, 1) := by decide +kernel
theorem dX1_asked_23 : decode cX1_asked 23 = .ok (.iaload, 1) := by decide +kernel
theorem dX1_asked_24 : decode cX1_asked 24 = .ok (.invokestatic 35, 3) := by decide +kernel
theorem dX1_asked_27 : decode cX1_asked 27 = .ok (.aload_n 1, 1) := by decide +kernel
theorem dX1_asked_28 : decode cX1_asked 28 = .ok (.iload_n 2, 1) := by decide +kernel
theorem dX1_asked_29 : decode cX1_asked 29 = .ok (.iload 4, 2) := by decide +kernel
theorem dX1_asked_31 : decode cX1_asked 31 = .ok (.invokevirtual 39, 3) := by decide +kernel
theorem dX1_asked_34 : decode cX1_asked 34 = .ok (.ireturn, 1) := by decide +kernel
set_option maxRecDepth 20000 in
theorem ggX1_bodyFor_X3_widerThan : GoodIn wsX1_bodyFor wsX3_widerThan := goodIn_r _ [4, 5] (by decide +kernel) (by decide +kernel)
set_option maxRecDepth 20000 in
theorem gX1_bodyFor_X3_widerThan : GoodIn wsX1_bodyFor (va_wsS RX1 43 yX3_widerThan wsX3_widerThan) := goodIn_app (goodIn_of _ (by decide +kernel)) ggX1_bodyFor_X3_widerThan
theorem dX1_bodyFor_0 : decode cX1_bodyFor 0 = .ok (.iload_n 1, 1) := by decide +kernel
theorem dX1_bodyFor_1 : decode cX1_bodyFor 1 = .ok (.istore_n 2, 1) := by decide +kernel
theorem dX1_bodyFor_2 : decode cX1_bodyFor 2 = .ok (.iconst 0, 1) := by decide +kernel
theorem dX1_bodyFor_3 : decode cX1_bodyFor 3 = .ok (.istore_n 3, 1) := by decide +kernel
theorem dX1_bodyFor_4 : decode cX1_bodyFor 4 = .ok (.iload_n 3, 1) := by decide +kernel
theorem dX1_bodyFor_5 : decode cX1_bodyFor 5 = .ok (.aload_n 0, 1) := by decide +kernel
theorem dX1_bodyFor_6 : decode cX1_bodyFor 6 = .ok (.arraylength, 1) := by decide +kernel
theorem dX1_bodyFor_7 : decode cX1_bodyFor 7 = .ok (.if_icmp .ge 34, 3) := by decide +kernel
theorem dX1_bodyFor_10 : decode cX1_bodyFor 10 = .ok (.iload_n 2, 1) := by decide +kernel
theorem dX1_bodyFor_11 : decode cX1_bodyFor 11 = .ok (.ifCond .lt 19, 3) := by decide +kernel
theorem dX1_bodyFor_14 : decode cX1_bodyFor 14 = .ok (.iload_n 2, 1) := by decide +kernel
theorem dX1_bodyFor_15 : decode cX1_bodyFor 15 = .ok (.aload_n 0, 1) := by decide +kernel
theorem dX1_bodyFor_16 : decode cX1_bodyFor 16 = .ok (.arraylength, 1) := by decide +kernel
theorem dX1_bodyFor_17 : decode cX1_bodyFor 17 = .ok (.if_icmp .ge 13, 3) := by decide +kernel
theorem dX1_bodyFor_20 : decode cX1_bodyFor 20 = .ok (.aload_n 0, 1) := by decide +kernel
theorem dX1_bodyFor_21 : decode cX1_bodyFor 21 = .ok (.iload_n 2, 1) := by decide +kernel
theorem dX1_bodyFor_22 : decode cX1_bodyFor 22 = .ok (.iaload, 1) := by decide +kernel
theorem dX1_bodyFor_23 : decode cX1_bodyFor 23 = .ok (.ifCond .eq 7, 3) := by decide +kernel
theorem dX1_bodyFor_26 : decode cX1_bodyFor 26 = .ok (.aload_n 0, 1) := by decide +kernel
theorem dX1_bodyFor_27 : decode cX1_bodyFor 27 = .ok (.iload_n 2, 1) := by decide +kernel
theorem dX1_bodyFor_28 : decode cX1_bodyFor 28 = .ok (.iaload, 1) := by decide +kernel
theorem dX1_bodyFor_29 : decode cX1_bodyFor 29 = .ok (.ireturn, 1) := by decide +kernel
theorem dX1_bodyFor_30 : decode cX1_bodyFor 30 = .ok (.iload_n 2, 1) := by decide +kernel
theorem dX1_bodyFor_31 : decode cX1_bodyFor 31 = .ok (.invokestatic 43, 3) := by decide +kernel
theorem dX1_bodyFor_34 : decode cX1_bodyFor 34 = .ok (.istore_n 2, 1) := by decide +kernel
theorem dX1_bodyFor_35 : decode cX1_bodyFor 35 = .ok (.iinc 3 1, 3) := by decide +kernel
theorem dX1_bodyFor_38 : decode cX1_bodyFor 38 = .ok (.goto (-34), 3) := by decide +kernel
theorem dX1_bodyFor_41 : decode cX1_bodyFor 41 = .ok (.iconst 0, 1) := by decide +kernel
theorem dX1_bodyFor_42 : decode cX1_bodyFor 42 = .ok (.ireturn, 1) := by decide +kernel
set_option maxRecDepth 20000 in
theorem ggX1_given_X1_leave : GoodIn wsX1_given wsX1_leave := goodIn_r _ [7, 8, 9, 41, 42] (by decide +kernel) (by decide +kernel)
set_option maxRecDepth 20000 in
theorem gX1_given_X1_leave : GoodIn wsX1_given (wsV RX1 49 RX1 yX1_leave wsX1_leave) := goodIn_app (goodIn_of _ (by decide +kernel)) ggX1_given_X1_leave
set_option maxRecDepth 20000 in
theorem ggX1_given_X1_given : GoodIn wsX1_given wsX1_given := goodIn_r _ [0, 1, 2, 3, 4, 5, 6, 7, 8, 9, 10, 11, 12, 13, 14, 15, 16, 17, 18, 19, 20, 21, 22, 23, 24, 25, 26, 27, 28, 29, 30, 31, 32, 33, 34, 35, 36, 37, 38, 39, 40, 41, 42] (by decide +kernel) (by decide +kernel)
set_option maxRecDepth 20000 in
theorem gX1_given_X1_given : GoodIn wsX1_given (wsV RX1 39 RX1 yX1_given wsX1_given) := goodIn_app (goodIn_of _ (by decide +kernel)) ggX1_given_X1_given
set_option maxRecDepth 20000 in
theorem ggX1_given_X1_asked : GoodIn wsX1_given wsX1_asked := goodIn_r _ [16, 17, 18, 19, 20, 21, 6, 22, 23, 24, 25, 26, 27, 10, 11, 12, 0, 1, 2, 3, 4, 5, 7, 8, 9, 13, 14, 15, 28, 29, 30, 31, 32, 33, 34, 35, 36, 37, 38, 39, 40, 41, 42] (by decide +kernel) (by decide +kernel)
set_option maxRecDepth 20000 in
theorem gX1_given_X1_asked : GoodIn wsX1_given (wsV RX1 19 RX1 yX1_asked wsX1_asked) := goodIn_app (goodIn_of _ (by decide +kernel)) ggX1_given_X1_asked
theorem dX1_given_0 : decode cX1_given 0 = .ok (.iload 4, 2) := by decide +kernel
theorem dX1_given_2 : decode cX1_given 2 = .ok (.bipush 16, 2) := by decide +kernel
theorem dX1_given_4 : decode cX1_given 4 = .ok (.if_icmp .lt 5, 3) := by decide +kernel
theorem dX1_given_7 : decode cX1_given 7 = .ok (.iconst 0, 1) := by decide +kernel
theorem dX1_given_8 : decode cX1_given 8 = .ok (.ireturn, 1) := by decide +kernel
theorem dX1_given_9 : decode cX1_given 9 = .ok (.aload_n 0, 1) := by decide +kernel
theorem dX1_given_10 : decode cX1_given 10 = .ok (.iload_n 1, 1) := by decide +kernel
theorem dX1_given_11 : decode cX1_given 11 = .ok (.invokevirtual 49, 3) := by decide +kernel
theorem dX1_given_14 : decode cX1_given 14 = .ok (.iload 4, 2) := by decide +kernel
theorem dX1_given_16 : decode cX1_given 16 = .ok (.iconst 1, 1) := by decide +kernel
theorem dX1_given_17 : decode cX1_given 17 = .ok (.iadd, 1) := by decide +kernel
theorem dX1_given_18 : decode cX1_given 18 = .ok (.istore 5, 2) := by decide +kernel
theorem dX1_given_20 : decode cX1_given 20 = .ok (.iload_n 1, 1) := by decide +kernel
theorem dX1_given_21 : decode cX1_given 21 = .ok (.tableswitch 211 10 24 #[75, 82, 103, 115, 129, 211, 211, 211, 211, 211, 142, 144, 162, 177, 198], 75) := by decide +kernel
theorem dX1_given_96 : decode cX1_given 96 = .ok (.aload_n 2, 1) := by decide +kernel
theorem dX1_given_97 : decode cX1_given 97 = .ok (.getfield 53, 3) := by decide +kernel
theorem dX1_given_100 : decode cX1_given 100 = .ok (.iload_n 3, 1) := by decide +kernel
theorem dX1_given_101 : decode cX1_given 101 = .ok (.iaload, 1) := by decide +kernel
theorem dX1_given_102 : decode cX1_given 102 = .ok (.ireturn, 1) := by decide +kernel
theorem dX1_given_103 : decode cX1_given 103 = .ok (.aload_n 0, 1) := by decide +kernel
theorem dX1_given_104 : decode cX1_given 104 = .ok (.bipush 10, 2) := by decide +kernel
theorem dX1_given_106 : decode cX1_given 106 = .ok (.aload_n 2, 1) := by decide +kernel
theorem dX1_given_107 : decode cX1_given 107 = .ok (.iload_n 3, 1) := by decide +kernel
theorem dX1_given_108 : decode cX1_given 108 = .ok (.iload 5, 2) := by decide +kernel
theorem dX1_given_110 : decode cX1_given 110 = .ok (.invokevirtual 39, 3) := by decide +kernel
theorem dX1_given_113 : decode cX1_given 113 = .ok (.aload_n 0, 1) := by decide +kernel
theorem dX1_given_114 : decode cX1_given 114 = .ok (.aload_n 2, 1) := by decide +kernel
theorem dX1_given_115 : decode cX1_given 115 = .ok (.iload_n 3, 1) := by decide +kernel
theorem dX1_given_116 : decode cX1_given 116 = .ok (.iconst 1, 1) := by decide +kernel
theorem dX1_given_117 : decode cX1_given 117 = .ok (.iload 5, 2) := by decide +kernel
theorem dX1_given_119 : decode cX1_given 119 = .ok (.invokevirtual 19, 3) := by decide +kernel
theorem dX1_given_122 : decode cX1_given 122 = .ok (.iadd, 1) := by decide +kernel
theorem dX1_given_123 : decode cX1_given 123 = .ok (.ireturn, 1) := by decide +kernel
theorem dX1_given_124 : decode cX1_given 124 = .ok (.aload_n 0, 1) := by decide +kernel
theorem dX1_given_125 : decode cX1_given 125 = .ok (.bipush 11, 2) := by decide +kernel
theorem dX1_given_127 : decode cX1_given 127 = .ok (.aload_n 2, 1) := by decide +kernel
theorem dX1_given_128 : decode cX1_given 128 = .ok (.iload_n 3, 1) := by decide +kernel
theorem dX1_given_129 : decode cX1_given 129 = .ok (.iload 5, 2) := by decide +kernel
theorem dX1_given_131 : decode cX1_given 131 = .ok (.invokevirtual 39, 3) := by decide +kernel
theorem dX1_given_134 : decode cX1_given 134 = .ok (.ineg, 1) := by decide +kernel
theorem dX1_given_135 : decode cX1_given 135 = .ok (.ireturn, 1) := by decide +kernel
theorem dX1_given_136 : decode cX1_given 136 = .ok (.aload_n 0, 1) := by decide +kernel
theorem dX1_given_137 : decode cX1_given 137 = .ok (.bipush 10, 2) := by decide +kernel
theorem dX1_given_139 : decode cX1_given 139 = .ok (.aload_n 2, 1) := by decide +kernel
theorem dX1_given_140 : decode cX1_given 140 = .ok (.iload_n 3, 1) := by decide +kernel
theorem dX1_given_141 : decode cX1_given 141 = .ok (.iload 5, 2) := by decide +kernel
theorem dX1_given_143 : decode cX1_given 143 = .ok (.invokevirtual 39, 3) := by decide +kernel
theorem dX1_given_146 : decode cX1_given 146 = .ok (.bipush 100, 2) := by decide +kernel
theorem dX1_given_148 : decode cX1_given 148 = .ok (.isub, 1) := by decide +kernel
theorem dX1_given_149 : decode cX1_given 149 = .ok (.ireturn, 1) := by decide +kernel
theorem dX1_given_150 : decode cX1_given 150 = .ok (.iconst 2, 1) := by decide +kernel
theorem dX1_given_151 : decode cX1_given 151 = .ok (.aload_n 0, 1) := by decide +kernel
theorem dX1_given_152 : decode cX1_given 152 = .ok (.bipush 13, 2) := by decide +kernel
theorem dX1_given_154 : decode cX1_given 154 = .ok (.aload_n 2, 1) := by decide +kernel
theorem dX1_given_155 : decode cX1_given 155 = .ok (.iload_n 3, 1) := by decide +kernel
theorem dX1_given_156 : decode cX1_given 156 = .ok (.iload 5, 2) := by decide +kernel
theorem dX1_given_158 : decode cX1_given 158 = .ok (.invokevirtual 39, 3) := by decide +kernel
theorem dX1_given_161 : decode cX1_given 161 = .ok (.imul, 1) := by decide +kernel
theorem dX1_given_162 : decode cX1_given 162 = .ok (.ireturn, 1) := by decide +kernel
theorem dX1_given_163 : decode cX1_given 163 = .ok (.iload_n 3, 1) := by decide +kernel
theorem dX1_given_164 : decode cX1_given 164 = .ok (.ireturn, 1) := by decide +kernel
theorem dX1_given_165 : decode cX1_given 165 = .ok (.aload_n 0, 1) := by decide +kernel
theorem dX1_given_166 : decode cX1_given 166 = .ok (.bipush 20, 2) := by decide +kernel
theorem dX1_given_168 : decode cX1_given 168 = .ok (.aload_n 2, 1) := by decide +kernel
theorem dX1_given_169 : decode cX1_given 169 = .ok (.iload_n 3, 1) := by decide +kernel
theorem dX1_given_170 : decode cX1_given 170 = .ok (.iload 5, 2) := by decide +kernel
theorem dX1_given_172 : decode cX1_given 172 = .ok (.invokevirtual 39, 3) := by decide +kernel
theorem dX1_given_175 : decode cX1_given 175 = .ok (.aload_n 2, 1) := by decide +kernel
theorem dX1_given_176 : decode cX1_given 176 = .ok (.getfield 56, 3) := by decide +kernel
theorem dX1_given_179 : decode cX1_given 179 = .ok (.iload_n 3, 1) := by decide +kernel
theorem dX1_given_180 : decode cX1_given 180 = .ok (.iaload, 1) := by decide +kernel
theorem dX1_given_181 : decode cX1_given 181 = .ok (.iadd, 1) := by decide +kernel
theorem dX1_given_182 : decode cX1_given 182 = .ok (.ireturn, 1) := by decide +kernel
theorem dX1_given_183 : decode cX1_given 183 = .ok (.aload_n 0, 1) := by decide +kernel
theorem dX1_given_184 : decode cX1_given 184 = .ok (.bipush 21, 2) := by decide +kernel
theorem dX1_given_186 : decode cX1_given 186 = .ok (.aload_n 2, 1) := by decide +kernel
theorem dX1_given_187 : decode cX1_given 187 = .ok (.iload_n 3, 1) := by decide +kernel
theorem dX1_given_188 : decode cX1_given 188 = .ok (.iload 5, 2) := by decide +kernel
theorem dX1_given_190 : decode cX1_given 190 = .ok (.invokevirtual 39, 3) := by decide +kernel
theorem dX1_given_193 : decode cX1_given 193 = .ok (.sipush 1000, 3) := by decide +kernel
theorem dX1_given_196 : decode cX1_given 196 = .ok (.isub, 1) := by decide +kernel
theorem dX1_given_197 : decode cX1_given 197 = .ok (.ireturn, 1) := by decide +kernel
theorem dX1_given_198 : decode cX1_given 198 = .ok (.aload_n 0, 1) := by decide +kernel
theorem dX1_given_199 : decode cX1_given 199 = .ok (.bipush 20, 2) := by decide +kernel
theorem dX1_given_201 : decode cX1_given 201 = .ok (.aload_n 2, 1) := by decide +kernel
theorem dX1_given_202 : decode cX1_given 202 = .ok (.iload_n 3, 1) := by decide +kernel
theorem dX1_given_203 : decode cX1_given 203 = .ok (.iload 5, 2) := by decide +kernel
theorem dX1_given_205 : decode cX1_given 205 = .ok (.invokevirtual 39, 3) := by decide +kernel
theorem dX1_given_208 : decode cX1_given 208 = .ok (.aload_n 0, 1) := by decide +kernel
theorem dX1_given_209 : decode cX1_given 209 = .ok (.aload_n 2, 1) := by decide +kernel
theorem dX1_given_210 : decode cX1_given 210 = .ok (.iload_n 3, 1) := by decide +kernel
theorem dX1_given_211 : decode cX1_given 211 = .ok (.iconst 0, 1) := by decide +kernel
theorem dX1_given_212 : decode cX1_given 212 = .ok (.iload 5, 2) := by decide +kernel
theorem dX1_given_214 : decode cX1_given 214 = .ok (.invokevirtual 19, 3) := by decide +kernel
theorem dX1_given_217 : decode cX1_given 217 = .ok (.isub, 1) := by decide +kernel
theorem dX1_given_218 : decode cX1_given 218 = .ok (.ireturn, 1) := by decide +kernel
theorem dX1_given_219 : decode cX1_given 219 = .ok (.iconst 2, 1) := by decide +kernel
theorem dX1_given_220 : decode cX1_given 220 = .ok (.aload_n 0, 1) := by decide +kernel
theorem dX1_given_221 : decode cX1_given 221 = .ok (.bipush 21, 2) := by decide +kernel
theorem dX1_given_223 : decode cX1_given 223 = .ok (.aload_n 2, 1) := by decide +kernel
theorem dX1_given_224 : decode cX1_given 224 = .ok (.iload_n 3, 1) := by decide +kernel
theorem dX1_given_225 : decode cX1_given 225 = .ok (.iload 5, 2) := by decide +kernel
theorem dX1_given_227 : decode cX1_given 227 = .ok (.invokevirtual 39, 3) := by decide +kernel
theorem dX1_given_230 : decode cX1_given 230 = .ok (.imul, 1) := by decide +kernel
theorem dX1_given_231 : decode cX1_given 231 = .ok (.ireturn, 1) := by decide +kernel
theorem dX1_given_232 : decode cX1_given 232 = .ok (.iconst 0, 1) := by decide +kernel
theorem dX1_given_233 : decode cX1_given 233 = .ok (.ireturn, 1) := by decide +kernel
theorem dX1_leave_0 : decode cX1_leave 0 = .ok (.aload_n 0, 1) := by decide +kernel
theorem dX1_leave_1 : decode cX1_leave 1 = .ok (.getfield 15, 3) := by decide +kernel
theorem dX1_leave_4 : decode cX1_leave 4 = .ok (.bipush 16, 2) := by decide +kernel
theorem dX1_leave_6 : decode cX1_leave 6 = .ok (.if_icmp .ge 23, 3) := by decide +kernel
theorem dX1_leave_9 : decode cX1_leave 9 = .ok (.aload_n 0, 1) := by decide +kernel
theorem dX1_leave_10 : decode cX1_leave 10 = .ok (.getfield 11, 3) := by decide +kernel
theorem dX1_leave_13 : decode cX1_leave 13 = .ok (.aload_n 0, 1) := by decide +kernel
theorem dX1_leave_14 : decode cX1_leave 14 = .ok (.getfield 15, 3) := by decide +kernel
theorem dX1_leave_17 : decode cX1_leave 17 = .ok (.iload_n 1, 1) := by decide +kernel
theorem dX1_leave_18 : decode cX1_leave 18 = .ok (.iastore, 1) := by decide +kernel
theorem dX1_leave_19 : decode cX1_leave 19 = .ok (.aload_n 0, 1) := by decide +kernel
theorem dX1_leave_20 : decode cX1_leave 20 = .ok (.dup, 1) := by decide +kernel
theorem dX1_leave_21 : decode cX1_leave 21 = .ok (.getfield 15, 3) := by decide +kernel
theorem dX1_leave_24 : decode cX1_leave 24 = .ok (.iconst 1, 1) := by decide +kernel
theorem dX1_leave_25 : decode cX1_leave 25 = .ok (.iadd, 1) := by decide +kernel
theorem dX1_leave_26 : decode cX1_leave 26 = .ok (.putfield 15, 3) := by decide +kernel
theorem dX1_leave_29 : decode cX1_leave 29 = .ok (.return_, 1) := by decide +kernel
theorem dX2_init_0 : decode cX2_init 0 = .ok (.aload_n 0, 1) := by decide +kernel
theorem dX2_init_1 : decode cX2_init 1 = .ok (.invokespecial 3, 3) := by decide +kernel
theorem dX2_init_4 : decode cX2_init 4 = .ok (.aload_n 0, 1) := by decide +kernel
theorem dX2_init_5 : decode cX2_init 5 = .ok (.iconst 0, 1) := by decide +kernel
theorem dX2_init_6 : decode cX2_init 6 = .ok (.putfield 9, 3) := by decide +kernel
theorem dX2_init_9 : decode cX2_init 9 = .ok (.aload_n 0, 1) := by decide +kernel
theorem dX2_init_10 : decode cX2_init 10 = .ok (.iconst 0, 1) := by decide +kernel
theorem dX2_init_11 : decode cX2_init 11 = .ok (.putfield 15, 3) := by decide +kernel
theorem dX2_init_14 : decode cX2_init 14 = .ok (.aload_n 0, 1) := by decide +kernel
theorem dX2_init_15 : decode cX2_init 15 = .ok (.iconst 0, 1) := by decide +kernel
theorem dX2_init_16 : decode cX2_init 16 = .ok (.putfield 19, 3) := by decide +kernel
theorem dX2_init_19 : decode cX2_init 19 = .ok (.aload_n 0, 1) := by decide +kernel
theorem dX2_init_20 : decode cX2_init 20 = .ok (.iconst 0, 1) := by decide +kernel
theorem dX2_init_21 : decode cX2_init 21 = .ok (.putfield 22, 3) := by decide +kernel
theorem dX2_init_24 : decode cX2_init 24 = .ok (.aload_n 0, 1) := by decide +kernel
theorem dX2_init_25 : decode cX2_init 25 = .ok (.iconst 0, 1) := by decide +kernel
theorem dX2_init_26 : decode cX2_init 26 = .ok (.putfield 25, 3) := by decide +kernel
theorem dX2_init_29 : decode cX2_init 29 = .ok (.aload_n 0, 1) := by decide +kernel
theorem dX2_init_30 : decode cX2_init 30 = .ok (.iconst 0, 1) := by decide +kernel
theorem dX2_init_31 : decode cX2_init 31 = .ok (.putfield 28, 3) := by decide +kernel
theorem dX2_init_34 : decode cX2_init 34 = .ok (.aload_n 0, 1) := by decide +kernel
theorem dX2_init_35 : decode cX2_init 35 = .ok (.bipush 7, 2) := by decide +kernel
theorem dX2_init_37 : decode cX2_init 37 = .ok (.newarray .int, 2) := by decide +kernel
theorem dX2_init_39 : decode cX2_init 39 = .ok (.putfield 31, 3) := by decide +kernel
theorem dX2_init_42 : decode cX2_init 42 = .ok (.aload_n 0, 1) := by decide +kernel
theorem dX2_init_43 : decode cX2_init 43 = .ok (.bipush 7, 2) := by decide +kernel
theorem dX2_init_45 : decode cX2_init 45 = .ok (.newarray .int, 2) := by decide +kernel
theorem dX2_init_47 : decode cX2_init 47 = .ok (.putfield 35, 3) := by decide +kernel
theorem dX2_init_50 : decode cX2_init 50 = .ok (.aload_n 0, 1) := by decide +kernel
theorem dX2_init_51 : decode cX2_init 51 = .ok (.bipush 6, 2) := by decide +kernel
theorem dX2_init_53 : decode cX2_init 53 = .ok (.newarray .int, 2) := by decide +kernel
theorem dX2_init_55 : decode cX2_init 55 = .ok (.putfield 38, 3) := by decide +kernel
theorem dX2_init_58 : decode cX2_init 58 = .ok (.aload_n 0, 1) := by decide +kernel
theorem dX2_init_59 : decode cX2_init 59 = .ok (.bipush 6, 2) := by decide +kernel
theorem dX2_init_61 : decode cX2_init 61 = .ok (.newarray .int, 2) := by decide +kernel
theorem dX2_init_63 : decode cX2_init 63 = .ok (.putfield 41, 3) := by decide +kernel
theorem dX2_init_66 : decode cX2_init 66 = .ok (.aload_n 0, 1) := by decide +kernel
theorem dX2_init_67 : decode cX2_init 67 = .ok (.bipush 6, 2) := by decide +kernel
theorem dX2_init_69 : decode cX2_init 69 = .ok (.newarray .int, 2) := by decide +kernel
theorem dX2_init_71 : decode cX2_init 71 = .ok (.putfield 44, 3) := by decide +kernel
theorem dX2_init_74 : decode cX2_init 74 = .ok (.aload_n 0, 1) := by decide +kernel
theorem dX2_init_75 : decode cX2_init 75 = .ok (.bipush 6, 2) := by decide +kernel
theorem dX2_init_77 : decode cX2_init 77 = .ok (.newarray .int, 2) := by decide +kernel
theorem dX2_init_79 : decode cX2_init 79 = .ok (.putfield 47, 3) := by decide +kernel
theorem dX2_init_82 : decode cX2_init 82 = .ok (.aload_n 0, 1) := by decide +kernel
theorem dX2_init_83 : decode cX2_init 83 = .ok (.bipush 6, 2) := by decide +kernel
theorem dX2_init_85 : decode cX2_init 85 = .ok (.newarray .int, 2) := by decide +kernel
theorem dX2_init_87 : decode cX2_init 87 = .ok (.putfield 50, 3) := by decide +kernel
theorem dX2_init_90 : decode cX2_init 90 = .ok (.return_, 1) := by decide +kernel
theorem dX2_begin_0 : decode cX2_begin 0 = .ok (.aload_n 0, 1) := by decide +kernel
theorem dX2_begin_1 : decode cX2_begin 1 = .ok (.iconst 1, 1) := by decide +kernel
theorem dX2_begin_2 : decode cX2_begin 2 = .ok (.putfield 9, 3) := by decide +kernel
theorem dX2_begin_5 : decode cX2_begin 5 = .ok (.aload_n 0, 1) := by decide +kernel
theorem dX2_begin_6 : decode cX2_begin 6 = .ok (.iload_n 1, 1) := by decide +kernel
theorem dX2_begin_7 : decode cX2_begin 7 = .ok (.putfield 15, 3) := by decide +kernel
theorem dX2_begin_10 : decode cX2_begin 10 = .ok (.aload_n 0, 1) := by decide +kernel
theorem dX2_begin_11 : decode cX2_begin 11 = .ok (.iconst 0, 1) := by decide +kernel
theorem dX2_begin_12 : decode cX2_begin 12 = .ok (.putfield 19, 3) := by decide +kernel
theorem dX2_begin_15 : decode cX2_begin 15 = .ok (.aload_n 0, 1) := by decide +kernel
theorem dX2_begin_16 : decode cX2_begin 16 = .ok (.iconst 0, 1) := by decide +kernel
theorem dX2_begin_17 : decode cX2_begin 17 = .ok (.putfield 22, 3) := by decide +kernel
theorem dX2_begin_20 : decode cX2_begin 20 = .ok (.aload_n 0, 1) := by decide +kernel
theorem dX2_begin_21 : decode cX2_begin 21 = .ok (.iconst 0, 1) := by decide +kernel
theorem dX2_begin_22 : decode cX2_begin 22 = .ok (.putfield 25, 3) := by decide +kernel
theorem dX2_begin_25 : decode cX2_begin 25 = .ok (.aload_n 0, 1) := by decide +kernel
theorem dX2_begin_26 : decode cX2_begin 26 = .ok (.iconst 0, 1) := by decide +kernel
theorem dX2_begin_27 : decode cX2_begin 27 = .ok (.putfield 28, 3) := by decide +kernel
theorem dX2_begin_30 : decode cX2_begin 30 = .ok (.return_, 1) := by decide +kernel
theorem dX2_become_0 : decode cX2_become 0 = .ok (.aload_n 0, 1) := by decide +kernel
theorem dX2_become_1 : decode cX2_become 1 = .ok (.aload_n 1, 1) := by decide +kernel
theorem dX2_become_2 : decode cX2_become 2 = .ok (.getfield 9, 3) := by decide +kernel
theorem dX2_become_5 : decode cX2_become 5 = .ok (.putfield 9, 3) := by decide +kernel
theorem dX2_become_8 : decode cX2_become 8 = .ok (.aload_n 0, 1) := by decide +kernel
theorem dX2_become_9 : decode cX2_become 9 = .ok (.aload_n 1, 1) := by decide +kernel
theorem dX2_become_10 : decode cX2_become 10 = .ok (.getfield 15, 3) := by decide +kernel
theorem dX2_become_13 : decode cX2_become 13 = .ok (.putfield 15, 3) := by decide +kernel
theorem dX2_become_16 : decode cX2_become 16 = .ok (.aload_n 0, 1) := by decide +kernel
theorem dX2_become_17 : decode cX2_become 17 = .ok (.aload_n 1, 1) := by decide +kernel
theorem dX2_become_18 : decode cX2_become 18 = .ok (.getfield 19, 3) := by decide +kernel
theorem dX2_become_21 : decode cX2_become 21 = .ok (.putfield 19, 3) := by decide +kernel
theorem dX2_become_24 : decode cX2_become 24 = .ok (.aload_n 0, 1) := by decide +kernel
theorem dX2_become_25 : decode cX2_become 25 = .ok (.aload_n 1, 1) := by decide +kernel
theorem dX2_become_26 : decode cX2_become 26 = .ok (.getfield 22, 3) := by decide +kernel
theorem dX2_become_29 : decode cX2_become 29 = .ok (.putfield 22, 3) := by decide +kernel
theorem dX2_become_32 : decode cX2_become 32 = .ok (.aload_n 0, 1) := by decide +kernel
theorem dX2_become_33 : decode cX2_become 33 = .ok (.aload_n 1, 1) := by decide +kernel
theorem dX2_become_34 : decode cX2_become 34 = .ok (.getfield 25, 3) := by decide +kernel
theorem dX2_become_37 : decode cX2_become 37 = .ok (.putfield 25, 3) := by decide +kernel
theorem dX2_become_40 : decode cX2_become 40 = .ok (.aload_n 0, 1) := by decide +kernel
theorem dX2_become_41 : decode cX2_become 41 = .ok (.aload_n 1, 1) := by decide +kernel
theorem dX2_become_42 : decode cX2_become 42 = .ok (.getfield 28, 3) := by decide +kernel
theorem dX2_become_45 : decode cX2_become 45 = .ok (.putfield 28, 3) := by decide +kernel
theorem dX2_become_48 : decode cX2_become 48 = .ok (.aload_n 1, 1) := by decide +kernel
theorem dX2_become_49 : decode cX2_become 49 = .ok (.getfield 31, 3) := by decide +kernel
theorem dX2_become_52 : decode cX2_become 52 = .ok (.iconst 0, 1) := by decide +kernel
theorem dX2_become_53 : decode cX2_become 53 = .ok (.aload_n 0, 1) := by decide +kernel
theorem dX2_become_54 : decode cX2_become 54 = .ok (.getfield 31, 3) := by decide +kernel
theorem dX2_become_57 : decode cX2_become 57 = .ok (.iconst 0, 1) := by decide +kernel
theorem dX2_become_58 : decode cX2_become 58 = .ok (.bipush 7, 2) := by decide +kernel
theorem dX2_become_60 : decode cX2_become 60 = .ok (.invokestatic 53, 3) := by decide +kernel
theorem dX2_become_63 : decode cX2_become 63 = .ok (.aload_n 1, 1) := by decide +kernel
theorem dX2_become_64 : decode cX2_become 64 = .ok (.getfield 35, 3) := by decide +kernel
theorem dX2_become_67 : decode cX2_become 67 = .ok (.iconst 0, 1) := by decide +kernel
theorem dX2_become_68 : decode cX2_become 68 = .ok (.aload_n 0, 1) := by decide +kernel
theorem dX2_become_69 : decode cX2_become 69 = .ok (.getfield 35, 3) := by decide +kernel
theorem dX2_become_72 : decode cX2_become 72 = .ok (.iconst 0, 1) := by decide +kernel
theorem dX2_become_73 : decode cX2_become 73 = .ok (.bipush 7, 2) := by decide +kernel
theorem dX2_become_75 : decode cX2_become 75 = .ok (.invokestatic 53, 3) := by decide +kernel
theorem dX2_become_78 : decode cX2_become 78 = .ok (.aload_n 1, 1) := by decide +kernel
theorem dX2_become_79 : decode cX2_become 79 = .ok (.getfield 38, 3) := by decide +kernel
theorem dX2_become_82 : decode cX2_become 82 = .ok (.iconst 0, 1) := by decide +kernel
theorem dX2_become_83 : decode cX2_become 83 = .ok (.aload_n 0, 1) := by decide +kernel
theorem dX2_become_84 : decode cX2_become 84 = .ok (.getfield 38, 3) := by decide +kernel
theorem dX2_become_87 : decode cX2_become 87 = .ok (.iconst 0, 1) := by decide +kernel
theorem dX2_become_88 : decode cX2_become 88 = .ok (.bipush 6, 2) := by decide +kernel
theorem dX2_become_90 : decode cX2_become 90 = .ok (.invokestatic 53, 3) := by decide +kernel
theorem dX2_become_93 : decode cX2_become 93 = .ok (.aload_n 1, 1) := by decide +kernel
theorem dX2_become_94 : decode cX2_become 94 = .ok (.getfield 41, 3) := by decide +kernel
theorem dX2_become_97 : decode cX2_become 97 = .ok (.iconst 0, 1) := by decide +kernel
theorem dX2_become_98 : decode cX2_become 98 = .ok (.aload_n 0, 1) := by decide +kernel
theorem dX2_become_99 : decode cX2_become 99 = .ok (.getfield 41, 3) := by decide +kernel
theorem dX2_become_102 : decode cX2_become 102 = .ok (.iconst 0, 1) := by decide +kernel
theorem dX2_become_103 : decode cX2_become 103 = .ok (.bipush 6, 2) := by decide +kernel
theorem dX2_become_105 : decode cX2_become 105 = .ok (.invokestatic 53, 3) := by decide +kernel
theorem dX2_become_108 : decode cX2_become 108 = .ok (.aload_n 1, 1) := by decide +kernel
theorem dX2_become_109 : decode cX2_become 109 = .ok (.getfield 44, 3) := by decide +kernel
theorem dX2_become_112 : decode cX2_become 112 = .ok (.iconst 0, 1) := by decide +kernel
theorem dX2_become_113 : decode cX2_become 113 = .ok (.aload_n 0, 1) := by decide +kernel
theorem dX2_become_114 : decode cX2_become 114 = .ok (.getfield 44, 3) := by decide +kernel
theorem dX2_become_117 : decode cX2_become 117 = .ok (.iconst 0, 1) := by decide +kernel
theorem dX2_become_118 : decode cX2_become 118 = .ok (.bipush 6, 2) := by decide +kernel
theorem dX2_become_120 : decode cX2_become 120 = .ok (.invokestatic 53, 3) := by decide +kernel
theorem dX2_become_123 : decode cX2_become 123 = .ok (.aload_n 1, 1) := by decide +kernel
theorem dX2_become_124 : decode cX2_become 124 = .ok (.getfield 47, 3) := by decide +kernel
theorem dX2_become_127 : decode cX2_become 127 = .ok (.iconst 0, 1) := by decide +kernel
theorem dX2_become_128 : decode cX2_become 128 = .ok (.aload_n 0, 1) := by decide +kernel
theorem dX2_become_129 : decode cX2_become 129 = .ok (.getfield 47, 3) := by decide +kernel
theorem dX2_become_132 : decode cX2_become 132 = .ok (.iconst 0, 1) := by decide +kernel
theorem dX2_become_133 : decode cX2_become 133 = .ok (.bipush 6, 2) := by decide +kernel
theorem dX2_become_135 : decode cX2_become 135 = .ok (.invokestatic 53, 3) := by decide +kernel
theorem dX2_become_138 : decode cX2_become 138 = .ok (.aload_n 1, 1) := by decide +kernel
theorem dX2_become_139 : decode cX2_become 139 = .ok (.getfield 50, 3) := by decide +kernel
theorem dX2_become_142 : decode cX2_become 142 = .ok (.iconst 0, 1) := by decide +kernel
theorem dX2_become_143 : decode cX2_become 143 = .ok (.aload_n 0, 1) := by decide +kernel
theorem dX2_become_144 : decode cX2_become 144 = .ok (.getfield 50, 3) := by decide +kernel
theorem dX2_become_147 : decode cX2_become 147 = .ok (.iconst 0, 1) := by decide +kernel
theorem dX2_become_148 : decode cX2_become 148 = .ok (.bipush 6, 2) := by decide +kernel
theorem dX2_become_150 : decode cX2_become 150 = .ok (.invokestatic 53, 3) := by decide +kernel
theorem dX2_become_153 : decode cX2_become 153 = .ok (.return_, 1) := by decide +kernel
theorem dX2_isKnown_0 : decode cX2_isKnown 0 = .ok (.aload_n 0, 1) := by decide +kernel
theorem dX2_isKnown_1 : decode cX2_isKnown 1 = .ok (.getfield 25, 3) := by decide +kernel
theorem dX2_isKnown_4 : decode cX2_isKnown 4 = .ok (.iload_n 1, 1) := by decide +kernel
theorem dX2_isKnown_5 : decode cX2_isKnown 5 = .ok (.ishr, 1) := by decide +kernel
theorem dX2_isKnown_6 : decode cX2_isKnown 6 = .ok (.iconst 1, 1) := by decide +kernel
theorem dX2_isKnown_7 : decode cX2_isKnown 7 = .ok (.iand, 1) := by decide +kernel
theorem dX2_isKnown_8 : decode cX2_isKnown 8 = .ok (.iconst 1, 1) := by decide +kernel
theorem dX2_isKnown_9 : decode cX2_isKnown 9 = .ok (.if_icmp .ne 7, 3) := by decide +kernel
theorem dX2_isKnown_12 : decode cX2_isKnown 12 = .ok (.iconst 1, 1) := by decide +kernel
theorem dX2_isKnown_13 : decode cX2_isKnown 13 = .ok (.goto 4, 3) := by decide +kernel
theorem dX2_isKnown_16 : decode cX2_isKnown 16 = .ok (.iconst 0, 1) := by decide +kernel
theorem dX2_isKnown_17 : decode cX2_isKnown 17 = .ok (.ireturn, 1) := by decide +kernel
theorem dX2_turnKnown_0 : decode cX2_turnKnown 0 = .ok (.aload_n 0, 1) := by decide +kernel
theorem dX2_turnKnown_1 : decode cX2_turnKnown 1 = .ok (.dup, 1) := by decide +kernel
theorem dX2_turnKnown_2 : decode cX2_turnKnown 2 = .ok (.getfield 25, 3) := by decide +kernel
theorem dX2_turnKnown_5 : decode cX2_turnKnown 5 = .ok (.iconst 1, 1) := by decide +kernel
theorem dX2_turnKnown_6 : decode cX2_turnKnown 6 = .ok (.iload_n 1, 1) := by decide +kernel
theorem dX2_turnKnown_7 : decode cX2_turnKnown 7 = .ok (.ishl, 1) := by decide +kernel
theorem dX2_turnKnown_8 : decode cX2_turnKnown 8 = .ok (.ixor, 1) := by decide +kernel
theorem dX2_turnKnown_9 : decode cX2_turnKnown 9 = .ok (.putfield 25, 3) := by decide +kernel
theorem dX2_turnKnown_12 : decode cX2_turnKnown 12 = .ok (.return_, 1) := by decide +kernel
set_option maxRecDepth 20000 in
theorem ggX2_owes_X2_owesSuch : GoodIn wsX2_owes wsX2_owesSuch := goodIn_r _ [7, 8, 9, 10, 6, 11, 12, 13, 14, 15, 16, 17, 18, 19, 20, 21, 22, 23, 24, 25, 26, 27, 28, 29, 30, 31, 32, 33, 34, 35] (by decide +kernel) (by decide +kernel)
set_option maxRecDepth 20000 in
theorem gX2_owes_X2_owesSuch : GoodIn wsX2_owes (wsV RX2 59 RX2 yX2_owesSuch wsX2_owesSuch) := goodIn_app (goodIn_of _ (by decide +kernel)) ggX2_owes_X2_owesSuch
theorem dX2_owes_0 : decode cX2_owes 0 = .ok (.aload_n 0, 1) := by decide +kernel
theorem dX2_owes_1 : decode cX2_owes 1 = .ok (.aload_n 0, 1) := by decide +kernel
theorem dX2_owes_2 : decode cX2_owes 2 = .ok (.getfield 38, 3) := by decide +kernel
theorem dX2_owes_5 : decode cX2_owes 5 = .ok (.iload_n 1, 1) := by decide +kernel
theorem dX2_owes_6 : decode cX2_owes 6 = .ok (.iaload, 1) := by decide +kernel
theorem dX2_owes_7 : decode cX2_owes 7 = .ok (.aload_n 0, 1) := by decide +kernel
theorem dX2_owes_8 : decode cX2_owes 8 = .ok (.getfield 41, 3) := by decide +kernel
theorem dX2_owes_11 : decode cX2_owes 11 = .ok (.iload_n 1, 1) := by decide +kernel
theorem dX2_owes_12 : decode cX2_owes 12 = .ok (.iaload, 1) := by decide +kernel
theorem dX2_owes_13 : decode cX2_owes 13 = .ok (.iload_n 2, 1) := by decide +kernel
theorem dX2_owes_14 : decode cX2_owes 14 = .ok (.invokevirtual 59, 3) := by decide +kernel
theorem dX2_owes_17 : decode cX2_owes 17 = .ok (.ireturn, 1) := by decide +kernel
set_option maxRecDepth 20000 in
theorem ggX2_owesIfKnown_X2_owesUnknown : GoodIn wsX2_owesIfKnown wsX2_owesUnknown := goodIn_r _ [7, 8, 9, 10, 11, 12, 13, 14, 15, 16, 17, 18, 19, 20, 21, 22, 23, 24, 25, 26] (by decide +kernel) (by decide +kernel)
set_option maxRecDepth 20000 in
theorem gX2_owesIfKnown_X2_owesUnknown : GoodIn wsX2_owesIfKnown (wsV RX2 63 RX2 yX2_owesUnknown wsX2_owesUnknown) := goodIn_app (goodIn_of _ (by decide +kernel)) ggX2_owesIfKnown_X2_owesUnknown
theorem dX2_owesIfKnown_0 : decode cX2_owesIfKnown 0 = .ok (.aload_n 0, 1) := by decide +kernel
theorem dX2_owesIfKnown_1 : decode cX2_owesIfKnown 1 = .ok (.aload_n 0, 1) := by decide +kernel
theorem dX2_owesIfKnown_2 : decode cX2_owesIfKnown 2 = .ok (.getfield 38, 3) := by decide +kernel
theorem dX2_owesIfKnown_5 : decode cX2_owesIfKnown 5 = .ok (.iload_n 1, 1) := by decide +kernel
theorem dX2_owesIfKnown_6 : decode cX2_owesIfKnown 6 = .ok (.iaload, 1) := by decide +kernel
theorem dX2_owesIfKnown_7 : decode cX2_owesIfKnown 7 = .ok (.aload_n 0, 1) := by decide +kernel
theorem dX2_owesIfKnown_8 : decode cX2_owesIfKnown 8 = .ok (.getfield 41, 3) := by decide +kernel
theorem dX2_owesIfKnown_11 : decode cX2_owesIfKnown 11 = .ok (.iload_n 1, 1) := by decide +kernel
theorem dX2_owesIfKnown_12 : decode cX2_owesIfKnown 12 = .ok (.iaload, 1) := by decide +kernel
theorem dX2_owesIfKnown_13 : decode cX2_owesIfKnown 13 = .ok (.iload_n 2, 1) := by decide +kernel
theorem dX2_owesIfKnown_14 : decode cX2_owesIfKnown 14 = .ok (.invokevirtual 63, 3) := by decide +kernel
theorem dX2_owesIfKnown_17 : decode cX2_owesIfKnown 17 = .ok (.iconst 2, 1) := by decide +kernel
theorem dX2_owesIfKnown_18 : decode cX2_owesIfKnown 18 = .ok (.idiv, 1) := by decide +kernel
theorem dX2_owesIfKnown_19 : decode cX2_owesIfKnown 19 = .ok (.ireturn, 1) := by decide +kernel
set_option maxRecDepth 20000 in
theorem ggX2_owesSuch_X2_owesUnknown : GoodIn wsX2_owesSuch wsX2_owesUnknown := goodIn_r _ [5, 6, 7, 8, 9, 10, 11, 17, 18, 19, 20, 21, 22, 23, 24, 25, 26, 27, 28, 29] (by decide +kernel) (by decide +kernel)
set_option maxRecDepth 20000 in
theorem gX2_owesSuch_X2_owesUnknown : GoodIn wsX2_owesSuch (wsV RX2 63 RX2 yX2_owesUnknown wsX2_owesUnknown) := goodIn_app (goodIn_of _ (by decide +kernel)) ggX2_owesSuch_X2_owesUnknown
set_option maxRecDepth 20000 in
theorem ggX2_owesSuch_X2_isKnown : GoodIn wsX2_owesSuch wsX2_isKnown := goodIn_r _ [15, 16, 17, 18, 19, 20, 21, 22, 23, 24, 25, 26, 27, 28, 29] (by decide +kernel) (by decide +kernel)
set_option maxRecDepth 20000 in
theorem gX2_owesSuch_X2_isKnown : GoodIn wsX2_owesSuch (wsV RX2 66 RX2 yX2_isKnown wsX2_isKnown) := goodIn_app (goodIn_of _ (by decide +kernel)) ggX2_owesSuch_X2_isKnown
theorem dX2_owesSuch_0 : decode cX2_owesSuch 0 = .ok (.aload_n 0, 1) := by decide +kernel
theorem dX2_owesSuch_1 : decode cX2_owesSuch 1 = .ok (.iload_n 1, 1) := by decide +kernel
theorem dX2_owesSuch_2 : decode cX2_owesSuch 2 = .ok (.iload_n 2, 1) := by decide +kernel
theorem dX2_owesSuch_3 : decode cX2_owesSuch 3 = .ok (.iload_n 3, 1) := by decide +kernel
theorem dX2_owesSuch_4 : decode cX2_owesSuch 4 = .ok (.invokevirtual 63, 3) := by decide +kernel
theorem dX2_owesSuch_7 : decode cX2_owesSuch 7 = .ok (.istore 4, 2) := by decide +kernel
theorem dX2_owesSuch_9 : decode cX2_owesSuch 9 = .ok (.aload_n 0, 1) := by decide +kernel
theorem dX2_owesSuch_10 : decode cX2_owesSuch 10 = .ok (.iload_n 3, 1) := by decide +kernel
theorem dX2_owesSuch_11 : decode cX2_owesSuch 11 = .ok (.invokevirtual 66, 3) := by decide +kernel
theorem dX2_owesSuch_14 : decode cX2_owesSuch 14 = .ok (.ifCond .eq 10, 3) := by decide +kernel
theorem dX2_owesSuch_17 : decode cX2_owesSuch 17 = .ok (.iload 4, 2) := by decide +kernel
theorem dX2_owesSuch_19 : decode cX2_owesSuch 19 = .ok (.iconst 2, 1) := by decide +kernel
theorem dX2_owesSuch_20 : decode cX2_owesSuch 20 = .ok (.idiv, 1) := by decide +kernel
theorem dX2_owesSuch_21 : decode cX2_owesSuch 21 = .ok (.goto 5, 3) := by decide +kernel
theorem dX2_owesSuch_24 : decode cX2_owesSuch 24 = .ok (.iload 4, 2) := by decide +kernel
theorem dX2_owesSuch_26 : decode cX2_owesSuch 26 = .ok (.ireturn, 1) := by decide +kernel
theorem dX2_owesUnknown_0 : decode cX2_owesUnknown 0 = .ok (.iload_n 2, 1) := by decide +kernel
theorem dX2_owesUnknown_1 : decode cX2_owesUnknown 1 = .ok (.aload_n 0, 1) := by decide +kernel
theorem dX2_owesUnknown_2 : decode cX2_owesUnknown 2 = .ok (.getfield 15, 3) := by decide +kernel
theorem dX2_owesUnknown_5 : decode cX2_owesUnknown 5 = .ok (.imul, 1) := by decide +kernel
theorem dX2_owesUnknown_6 : decode cX2_owesUnknown 6 = .ok (.iload_n 2, 1) := by decide +kernel
theorem dX2_owesUnknown_7 : decode cX2_owesUnknown 7 = .ok (.aload_n 0, 1) := by decide +kernel
theorem dX2_owesUnknown_8 : decode cX2_owesUnknown 8 = .ok (.getfield 35, 3) := by decide +kernel
theorem dX2_owesUnknown_11 : decode cX2_owesUnknown 11 = .ok (.iload_n 3, 1) := by decide +kernel
theorem dX2_owesUnknown_12 : decode cX2_owesUnknown 12 = .ok (.iaload, 1) := by decide +kernel
theorem dX2_owesUnknown_13 : decode cX2_owesUnknown 13 = .ok (.imul, 1) := by decide +kernel
theorem dX2_owesUnknown_14 : decode cX2_owesUnknown 14 = .ok (.bipush 10, 2) := by decide +kernel
theorem dX2_owesUnknown_16 : decode cX2_owesUnknown 16 = .ok (.idiv, 1) := by decide +kernel
theorem dX2_owesUnknown_17 : decode cX2_owesUnknown 17 = .ok (.iadd, 1) := by decide +kernel
theorem dX2_owesUnknown_18 : decode cX2_owesUnknown 18 = .ok (.istore 4, 2) := by decide +kernel
theorem dX2_owesUnknown_20 : decode cX2_owesUnknown 20 = .ok (.iload_n 1, 1) := by decide +kernel
theorem dX2_owesUnknown_21 : decode cX2_owesUnknown 21 = .ok (.tableswitch 77 1 5 #[35, 38, 43, 77, 60], 35) := by decide +kernel
theorem dX2_owesUnknown_56 : decode cX2_owesUnknown 56 = .ok (.iload 4, 2) := by decide +kernel
theorem dX2_owesUnknown_58 : decode cX2_owesUnknown 58 = .ok (.ireturn, 1) := by decide +kernel
theorem dX2_owesUnknown_59 : decode cX2_owesUnknown 59 = .ok (.iload 4, 2) := by decide +kernel
theorem dX2_owesUnknown_61 : decode cX2_owesUnknown 61 = .ok (.iconst 2, 1) := by decide +kernel
theorem dX2_owesUnknown_62 : decode cX2_owesUnknown 62 = .ok (.idiv, 1) := by decide +kernel
theorem dX2_owesUnknown_63 : decode cX2_owesUnknown 63 = .ok (.ireturn, 1) := by decide +kernel
theorem dX2_owesUnknown_64 : decode cX2_owesUnknown 64 = .ok (.iload 4, 2) := by decide +kernel
theorem dX2_owesUnknown_66 : decode cX2_owesUnknown 66 = .ok (.aload_n 0, 1) := by decide +kernel
theorem dX2_owesUnknown_67 : decode cX2_owesUnknown 67 = .ok (.getfield 15, 3) := by decide +kernel
theorem dX2_owesUnknown_70 : decode cX2_owesUnknown 70 = .ok (.iconst 0, 1) := by decide +kernel
theorem dX2_owesUnknown_71 : decode cX2_owesUnknown 71 = .ok (.iload_n 2, 1) := by decide +kernel
theorem dX2_owesUnknown_72 : decode cX2_owesUnknown 72 = .ok (.bipush 10, 2) := by decide +kernel
theorem dX2_owesUnknown_74 : decode cX2_owesUnknown 74 = .ok (.isub, 1) := by decide +kernel
theorem dX2_owesUnknown_75 : decode cX2_owesUnknown 75 = .ok (.invokestatic 70, 3) := by decide +kernel
theorem dX2_owesUnknown_78 : decode cX2_owesUnknown 78 = .ok (.imul, 1) := by decide +kernel
theorem dX2_owesUnknown_79 : decode cX2_owesUnknown 79 = .ok (.iadd, 1) := by decide +kernel
theorem dX2_owesUnknown_80 : decode cX2_owesUnknown 80 = .ok (.ireturn, 1) := by decide +kernel
theorem dX2_owesUnknown_81 : decode cX2_owesUnknown 81 = .ok (.aload_n 0, 1) := by decide +kernel
theorem dX2_owesUnknown_82 : decode cX2_owesUnknown 82 = .ok (.getfield 35, 3) := by decide +kernel
theorem dX2_owesUnknown_85 : decode cX2_owesUnknown 85 = .ok (.iload_n 3, 1) := by decide +kernel
theorem dX2_owesUnknown_86 : decode cX2_owesUnknown 86 = .ok (.iaload, 1) := by decide +kernel
theorem dX2_owesUnknown_87 : decode cX2_owesUnknown 87 = .ok (.iconst 5, 1) := by decide +kernel
theorem dX2_owesUnknown_88 : decode cX2_owesUnknown 88 = .ok (.if_icmp .lt 8, 3) := by decide +kernel
theorem dX2_owesUnknown_91 : decode cX2_owesUnknown 91 = .ok (.iload 4, 2) := by decide +kernel
theorem dX2_owesUnknown_93 : decode cX2_owesUnknown 93 = .ok (.goto 4, 3) := by decide +kernel
theorem dX2_owesUnknown_96 : decode cX2_owesUnknown 96 = .ok (.iconst 1, 1) := by decide +kernel
theorem dX2_owesUnknown_97 : decode cX2_owesUnknown 97 = .ok (.ireturn, 1) := by decide +kernel
theorem dX2_owesUnknown_98 : decode cX2_owesUnknown 98 = .ok (.iconst 1, 1) := by decide +kernel
theorem dX2_owesUnknown_99 : decode cX2_owesUnknown 99 = .ok (.ireturn, 1) := by decide +kernel
theorem dX2_isSeen_0 : decode cX2_isSeen 0 = .ok (.aload_n 0, 1) := by decide +kernel
theorem dX2_isSeen_1 : decode cX2_isSeen 1 = .ok (.getfield 38, 3) := by decide +kernel
theorem dX2_isSeen_4 : decode cX2_isSeen 4 = .ok (.iload_n 1, 1) := by decide +kernel
theorem dX2_isSeen_5 : decode cX2_isSeen 5 = .ok (.iaload, 1) := by decide +kernel
theorem dX2_isSeen_6 : decode cX2_isSeen 6 = .ok (.iconst 4, 1) := by decide +kernel
theorem dX2_isSeen_7 : decode cX2_isSeen 7 = .ok (.if_icmp .eq 13, 3) := by decide +kernel
theorem dX2_isSeen_10 : decode cX2_isSeen 10 = .ok (.aload_n 0, 1) := by decide +kernel
theorem dX2_isSeen_11 : decode cX2_isSeen 11 = .ok (.getfield 38, 3) := by decide +kernel
theorem dX2_isSeen_14 : decode cX2_isSeen 14 = .ok (.iload_n 1, 1) := by decide +kernel
theorem dX2_isSeen_15 : decode cX2_isSeen 15 = .ok (.iaload, 1) := by decide +kernel
theorem dX2_isSeen_16 : decode cX2_isSeen 16 = .ok (.iconst 5, 1) := by decide +kernel
theorem dX2_isSeen_17 : decode cX2_isSeen 17 = .ok (.if_icmp .ne 7, 3) := by decide +kernel
theorem dX2_isSeen_20 : decode cX2_isSeen 20 = .ok (.iconst 1, 1) := by decide +kernel
theorem dX2_isSeen_21 : decode cX2_isSeen 21 = .ok (.goto 4, 3) := by decide +kernel
theorem dX2_isSeen_24 : decode cX2_isSeen 24 = .ok (.iconst 0, 1) := by decide +kernel
theorem dX2_isSeen_25 : decode cX2_isSeen 25 = .ok (.istore_n 3, 1) := by decide +kernel
theorem dX2_isSeen_26 : decode cX2_isSeen 26 = .ok (.aload_n 0, 1) := by decide +kernel
theorem dX2_isSeen_27 : decode cX2_isSeen 27 = .ok (.getfield 41, 3) := by decide +kernel
theorem dX2_isSeen_30 : decode cX2_isSeen 30 = .ok (.iload_n 1, 1) := by decide +kernel
theorem dX2_isSeen_31 : decode cX2_isSeen 31 = .ok (.iaload, 1) := by decide +kernel
theorem dX2_isSeen_32 : decode cX2_isSeen 32 = .ok (.iload_n 3, 1) := by decide +kernel
theorem dX2_isSeen_33 : decode cX2_isSeen 33 = .ok (.ifCond .eq 7, 3) := by decide +kernel
theorem dX2_isSeen_36 : decode cX2_isSeen 36 = .ok (.iconst 5, 1) := by decide +kernel
theorem dX2_isSeen_37 : decode cX2_isSeen 37 = .ok (.goto 4, 3) := by decide +kernel
theorem dX2_isSeen_40 : decode cX2_isSeen 40 = .ok (.iconst 0, 1) := by decide +kernel
theorem dX2_isSeen_41 : decode cX2_isSeen 41 = .ok (.iadd, 1) := by decide +kernel
theorem dX2_isSeen_42 : decode cX2_isSeen 42 = .ok (.aload_n 0, 1) := by decide +kernel
theorem dX2_isSeen_43 : decode cX2_isSeen 43 = .ok (.getfield 31, 3) := by decide +kernel
theorem dX2_isSeen_46 : decode cX2_isSeen 46 = .ok (.iload_n 2, 1) := by decide +kernel
theorem dX2_isSeen_47 : decode cX2_isSeen 47 = .ok (.iaload, 1) := by decide +kernel
theorem dX2_isSeen_48 : decode cX2_isSeen 48 = .ok (.if_icmp .lt 7, 3) := by decide +kernel
theorem dX2_isSeen_51 : decode cX2_isSeen 51 = .ok (.iconst 1, 1) := by decide +kernel
theorem dX2_isSeen_52 : decode cX2_isSeen 52 = .ok (.goto 4, 3) := by decide +kernel
theorem dX2_isSeen_55 : decode cX2_isSeen 55 = .ok (.iconst 0, 1) := by decide +kernel
theorem dX2_isSeen_56 : decode cX2_isSeen 56 = .ok (.ireturn, 1) := by decide +kernel
set_option maxRecDepth 20000 in
theorem ggX2_tells_X2_isSeen : GoodIn wsX2_tells wsX2_isSeen := goodIn_r _ [6, 7, 8, 9, 10, 11, 12, 13, 14, 15, 16, 17, 18, 19, 20, 21, 22] (by decide +kernel) (by decide +kernel)
set_option maxRecDepth 20000 in
theorem gX2_tells_X2_isSeen : GoodIn wsX2_tells (wsV RX2 78 RX2 yX2_isSeen wsX2_isSeen) := goodIn_app (goodIn_of _ (by decide +kernel)) ggX2_tells_X2_isSeen
theorem dX2_tells_0 : decode cX2_tells 0 = .ok (.aload_n 0, 1) := by decide +kernel
theorem dX2_tells_1 : decode cX2_tells 1 = .ok (.getfield 44, 3) := by decide +kernel
theorem dX2_tells_4 : decode cX2_tells 4 = .ok (.iload_n 1, 1) := by decide +kernel
theorem dX2_tells_5 : decode cX2_tells 5 = .ok (.iaload, 1) := by decide +kernel
theorem dX2_tells_6 : decode cX2_tells 6 = .ok (.iload_n 2, 1) := by decide +kernel
theorem dX2_tells_7 : decode cX2_tells 7 = .ok (.if_icmp .ne 16, 3) := by decide +kernel
theorem dX2_tells_10 : decode cX2_tells 10 = .ok (.aload_n 0, 1) := by decide +kernel
theorem dX2_tells_11 : decode cX2_tells 11 = .ok (.iload_n 1, 1) := by decide +kernel
theorem dX2_tells_12 : decode cX2_tells 12 = .ok (.iload_n 3, 1) := by decide +kernel
theorem dX2_tells_13 : decode cX2_tells 13 = .ok (.invokevirtual 78, 3) := by decide +kernel
theorem dX2_tells_16 : decode cX2_tells 16 = .ok (.ifCond .eq 7, 3) := by decide +kernel
theorem dX2_tells_19 : decode cX2_tells 19 = .ok (.iconst 1, 1) := by decide +kernel
theorem dX2_tells_20 : decode cX2_tells 20 = .ok (.goto 4, 3) := by decide +kernel
theorem dX2_tells_23 : decode cX2_tells 23 = .ok (.iconst 0, 1) := by decide +kernel
theorem dX2_tells_24 : decode cX2_tells 24 = .ok (.ireturn, 1) := by decide +kernel
set_option maxRecDepth 20000 in
theorem ggX2_streetsThatSee_X2_isSeen : GoodIn wsX2_streetsThatSee wsX2_isSeen := goodIn_r _ [6, 7, 8, 9, 10, 11, 12, 13, 14, 15, 16, 17, 18, 19, 20, 21, 22] (by decide +kernel) (by decide +kernel)
set_option maxRecDepth 20000 in
theorem gX2_streetsThatSee_X2_isSeen : GoodIn wsX2_streetsThatSee (wsV RX2 78 RX2 yX2_isSeen wsX2_isSeen) := goodIn_app (goodIn_of _ (by decide +kernel)) ggX2_streetsThatSee_X2_isSeen
theorem dX2_streetsThatSee_0 : decode cX2_streetsThatSee 0 = .ok (.iconst 0, 1) := by decide +kernel
theorem dX2_streetsThatSee_1 : decode cX2_streetsThatSee 1 = .ok (.istore_n 2, 1) := by decide +kernel
theorem dX2_streetsThatSee_2 : decode cX2_streetsThatSee 2 = .ok (.iconst 0, 1) := by decide +kernel
theorem dX2_streetsThatSee_3 : decode cX2_streetsThatSee 3 = .ok (.istore_n 3, 1) := by decide +kernel
theorem dX2_streetsThatSee_4 : decode cX2_streetsThatSee 4 = .ok (.iload_n 3, 1) := by decide +kernel
theorem dX2_streetsThatSee_5 : decode cX2_streetsThatSee 5 = .ok (.aload_n 0, 1) := by decide +kernel
theorem dX2_streetsThatSee_6 : decode cX2_streetsThatSee 6 = .ok (.getfield 22, 3) := by decide +kernel
theorem dX2_streetsThatSee_9 : decode cX2_streetsThatSee 9 = .ok (.if_icmp .ge 28, 3) := by decide +kernel
theorem dX2_streetsThatSee_12 : decode cX2_streetsThatSee 12 = .ok (.iload_n 2, 1) := by decide +kernel
theorem dX2_streetsThatSee_13 : decode cX2_streetsThatSee 13 = .ok (.aload_n 0, 1) := by decide +kernel
theorem dX2_streetsThatSee_14 : decode cX2_streetsThatSee 14 = .ok (.iload_n 1, 1) := by decide +kernel
theorem dX2_streetsThatSee_15 : decode cX2_streetsThatSee 15 = .ok (.iload_n 3, 1) := by decide +kernel
theorem dX2_streetsThatSee_16 : decode cX2_streetsThatSee 16 = .ok (.invokevirtual 78, 3) := by decide +kernel
theorem dX2_streetsThatSee_19 : decode cX2_streetsThatSee 19 = .ok (.ifCond .eq 9, 3) := by decide +kernel
theorem dX2_streetsThatSee_22 : decode cX2_streetsThatSee 22 = .ok (.iconst 1, 1) := by decide +kernel
theorem dX2_streetsThatSee_23 : decode cX2_streetsThatSee 23 = .ok (.iload_n 3, 1) := by decide +kernel
theorem dX2_streetsThatSee_24 : decode cX2_streetsThatSee 24 = .ok (.ishl, 1) := by decide +kernel
theorem dX2_streetsThatSee_25 : decode cX2_streetsThatSee 25 = .ok (.goto 4, 3) := by decide +kernel
theorem dX2_streetsThatSee_28 : decode cX2_streetsThatSee 28 = .ok (.iconst 0, 1) := by decide +kernel
theorem dX2_streetsThatSee_29 : decode cX2_streetsThatSee 29 = .ok (.ior, 1) := by decide +kernel
theorem dX2_streetsThatSee_30 : decode cX2_streetsThatSee 30 = .ok (.istore_n 2, 1) := by decide +kernel
theorem dX2_streetsThatSee_31 : decode cX2_streetsThatSee 31 = .ok (.iinc 3 1, 3) := by decide +kernel
theorem dX2_streetsThatSee_34 : decode cX2_streetsThatSee 34 = .ok (.goto (-30), 3) := by decide +kernel
theorem dX2_streetsThatSee_37 : decode cX2_streetsThatSee 37 = .ok (.iload_n 2, 1) := by decide +kernel
theorem dX2_streetsThatSee_38 : decode cX2_streetsThatSee 38 = .ok (.ireturn, 1) := by decide +kernel
set_option maxRecDepth 20000 in
theorem ggX2_gesturesSeenIn_X2_isSeen : GoodIn wsX2_gesturesSeenIn wsX2_isSeen := goodIn_r _ [6, 7, 8, 9, 10, 11, 12, 13, 14, 15, 16, 17, 18, 19, 20, 21, 22] (by decide +kernel) (by decide +kernel)
set_option maxRecDepth 20000 in
theorem gX2_gesturesSeenIn_X2_isSeen : GoodIn wsX2_gesturesSeenIn (wsV RX2 78 RX2 yX2_isSeen wsX2_isSeen) := goodIn_app (goodIn_of _ (by decide +kernel)) ggX2_gesturesSeenIn_X2_isSeen
theorem dX2_gesturesSeenIn_0 : decode cX2_gesturesSeenIn 0 = .ok (.iconst 0, 1) := by decide +kernel
theorem dX2_gesturesSeenIn_1 : decode cX2_gesturesSeenIn 1 = .ok (.istore_n 2, 1) := by decide +kernel
theorem dX2_gesturesSeenIn_2 : decode cX2_gesturesSeenIn 2 = .ok (.iconst 0, 1) := by decide +kernel
theorem dX2_gesturesSeenIn_3 : decode cX2_gesturesSeenIn 3 = .ok (.istore_n 3, 1) := by decide +kernel
theorem dX2_gesturesSeenIn_4 : decode cX2_gesturesSeenIn 4 = .ok (.iload_n 3, 1) := by decide +kernel
theorem dX2_gesturesSeenIn_5 : decode cX2_gesturesSeenIn 5 = .ok (.aload_n 0, 1) := by decide +kernel
theorem dX2_gesturesSeenIn_6 : decode cX2_gesturesSeenIn 6 = .ok (.getfield 28, 3) := by decide +kernel
theorem dX2_gesturesSeenIn_9 : decode cX2_gesturesSeenIn 9 = .ok (.if_icmp .ge 28, 3) := by decide +kernel
theorem dX2_gesturesSeenIn_12 : decode cX2_gesturesSeenIn 12 = .ok (.iload_n 2, 1) := by decide +kernel
theorem dX2_gesturesSeenIn_13 : decode cX2_gesturesSeenIn 13 = .ok (.aload_n 0, 1) := by decide +kernel
theorem dX2_gesturesSeenIn_14 : decode cX2_gesturesSeenIn 14 = .ok (.iload_n 3, 1) := by decide +kernel
theorem dX2_gesturesSeenIn_15 : decode cX2_gesturesSeenIn 15 = .ok (.iload_n 1, 1) := by decide +kernel
theorem dX2_gesturesSeenIn_16 : decode cX2_gesturesSeenIn 16 = .ok (.invokevirtual 78, 3) := by decide +kernel
theorem dX2_gesturesSeenIn_19 : decode cX2_gesturesSeenIn 19 = .ok (.ifCond .eq 9, 3) := by decide +kernel
theorem dX2_gesturesSeenIn_22 : decode cX2_gesturesSeenIn 22 = .ok (.iconst 1, 1) := by decide +kernel
theorem dX2_gesturesSeenIn_23 : decode cX2_gesturesSeenIn 23 = .ok (.iload_n 3, 1) := by decide +kernel
theorem dX2_gesturesSeenIn_24 : decode cX2_gesturesSeenIn 24 = .ok (.ishl, 1) := by decide +kernel
theorem dX2_gesturesSeenIn_25 : decode cX2_gesturesSeenIn 25 = .ok (.goto 4, 3) := by decide +kernel
theorem dX2_gesturesSeenIn_28 : decode cX2_gesturesSeenIn 28 = .ok (.iconst 0, 1) := by decide +kernel
theorem dX2_gesturesSeenIn_29 : decode cX2_gesturesSeenIn 29 = .ok (.ior, 1) := by decide +kernel
theorem dX2_gesturesSeenIn_30 : decode cX2_gesturesSeenIn 30 = .ok (.istore_n 2, 1) := by decide +kernel
theorem dX2_gesturesSeenIn_31 : decode cX2_gesturesSeenIn 31 = .ok (.iinc 3 1, 3) := by decide +kernel
theorem dX2_gesturesSeenIn_34 : decode cX2_gesturesSeenIn 34 = .ok (.goto (-30), 3) := by decide +kernel
theorem dX2_gesturesSeenIn_37 : decode cX2_gesturesSeenIn 37 = .ok (.iload_n 2, 1) := by decide +kernel
theorem dX2_gesturesSeenIn_38 : decode cX2_gesturesSeenIn 38 = .ok (.ireturn, 1) := by decide +kernel
set_option maxRecDepth 20000 in
theorem ggX2_streetsWithout_X2_leastTime : GoodIn wsX2_streetsWithout wsX2_leastTime := goodIn_r _ [7, 2, 8, 9, 10, 11, 12, 6, 13, 14, 15, 16, 17, 18, 19, 20, 21, 22, 23, 24, 25, 26, 27, 28, 29, 30, 31, 32, 33, 34] (by decide +kernel) (by decide +kernel)
set_option maxRecDepth 20000 in
theorem gX2_streetsWithout_X2_leastTime : GoodIn wsX2_streetsWithout (wsV RX2 82 RX2 yX2_leastTime wsX2_leastTime) := goodIn_app (goodIn_of _ (by decide +kernel)) ggX2_streetsWithout_X2_leastTime
theorem dX2_streetsWithout_0 : decode cX2_streetsWithout 0 = .ok (.iconst 0, 1) := by decide +kernel
theorem dX2_streetsWithout_1 : decode cX2_streetsWithout 1 = .ok (.istore_n 2, 1) := by decide +kernel
theorem dX2_streetsWithout_2 : decode cX2_streetsWithout 2 = .ok (.iconst 0, 1) := by decide +kernel
theorem dX2_streetsWithout_3 : decode cX2_streetsWithout 3 = .ok (.istore_n 3, 1) := by decide +kernel
theorem dX2_streetsWithout_4 : decode cX2_streetsWithout 4 = .ok (.iload_n 3, 1) := by decide +kernel
theorem dX2_streetsWithout_5 : decode cX2_streetsWithout 5 = .ok (.aload_n 0, 1) := by decide +kernel
theorem dX2_streetsWithout_6 : decode cX2_streetsWithout 6 = .ok (.getfield 22, 3) := by decide +kernel
theorem dX2_streetsWithout_9 : decode cX2_streetsWithout 9 = .ok (.if_icmp .ge 30, 3) := by decide +kernel
theorem dX2_streetsWithout_12 : decode cX2_streetsWithout 12 = .ok (.iload_n 2, 1) := by decide +kernel
theorem dX2_streetsWithout_13 : decode cX2_streetsWithout 13 = .ok (.aload_n 0, 1) := by decide +kernel
theorem dX2_streetsWithout_14 : decode cX2_streetsWithout 14 = .ok (.iload_n 1, 1) := by decide +kernel
theorem dX2_streetsWithout_15 : decode cX2_streetsWithout 15 = .ok (.iload_n 3, 1) := by decide +kernel
theorem dX2_streetsWithout_16 : decode cX2_streetsWithout 16 = .ok (.invokevirtual 82, 3) := by decide +kernel
theorem dX2_streetsWithout_19 : decode cX2_streetsWithout 19 = .ok (.ldc 85, 2) := by decide +kernel
theorem dX2_streetsWithout_21 : decode cX2_streetsWithout 21 = .ok (.if_icmp .ne 9, 3) := by decide +kernel
theorem dX2_streetsWithout_24 : decode cX2_streetsWithout 24 = .ok (.iconst 1, 1) := by decide +kernel
theorem dX2_streetsWithout_25 : decode cX2_streetsWithout 25 = .ok (.iload_n 3, 1) := by decide +kernel
theorem dX2_streetsWithout_26 : decode cX2_streetsWithout 26 = .ok (.ishl, 1) := by decide +kernel
theorem dX2_streetsWithout_27 : decode cX2_streetsWithout 27 = .ok (.goto 4, 3) := by decide +kernel
theorem dX2_streetsWithout_30 : decode cX2_streetsWithout 30 = .ok (.iconst 0, 1) := by decide +kernel
theorem dX2_streetsWithout_31 : decode cX2_streetsWithout 31 = .ok (.ior, 1) := by decide +kernel
theorem dX2_streetsWithout_32 : decode cX2_streetsWithout 32 = .ok (.istore_n 2, 1) := by decide +kernel
theorem dX2_streetsWithout_33 : decode cX2_streetsWithout 33 = .ok (.iinc 3 1, 3) := by decide +kernel
theorem dX2_streetsWithout_36 : decode cX2_streetsWithout 36 = .ok (.goto (-32), 3) := by decide +kernel
theorem dX2_streetsWithout_39 : decode cX2_streetsWithout 39 = .ok (.iload_n 2, 1) := by decide +kernel
theorem dX2_streetsWithout_40 : decode cX2_streetsWithout 40 = .ok (.ireturn, 1) := by decide +kernel
set_option maxRecDepth 20000 in
theorem ggX2_leastTime_X2_tells : GoodIn wsX2_leastTime wsX2_tells := goodIn_r _ [8, 9, 10, 11, 12, 7, 13, 14, 15, 16, 17, 18, 19, 20, 21, 22, 23, 24, 25, 26, 27, 28, 29] (by decide +kernel) (by decide +kernel)
set_option maxRecDepth 20000 in
theorem gX2_leastTime_X2_tells : GoodIn wsX2_leastTime (wsV RX2 86 RX2 yX2_tells wsX2_tells) := goodIn_app (goodIn_of _ (by decide +kernel)) ggX2_leastTime_X2_tells
theorem dX2_leastTime_0 : decode cX2_leastTime 0 = .ok (.ldc 85, 2) := by decide +kernel
theorem dX2_leastTime_2 : decode cX2_leastTime 2 = .ok (.istore_n 3, 1) := by decide +kernel
theorem dX2_leastTime_3 : decode cX2_leastTime 3 = .ok (.iconst 0, 1) := by decide +kernel
theorem dX2_leastTime_4 : decode cX2_leastTime 4 = .ok (.istore 4, 2) := by decide +kernel
theorem dX2_leastTime_6 : decode cX2_leastTime 6 = .ok (.iload 4, 2) := by decide +kernel
theorem dX2_leastTime_8 : decode cX2_leastTime 8 = .ok (.aload_n 0, 1) := by decide +kernel
theorem dX2_leastTime_9 : decode cX2_leastTime 9 = .ok (.getfield 28, 3) := by decide +kernel
theorem dX2_leastTime_12 : decode cX2_leastTime 12 = .ok (.if_icmp .ge 45, 3) := by decide +kernel
theorem dX2_leastTime_15 : decode cX2_leastTime 15 = .ok (.aload_n 0, 1) := by decide +kernel
theorem dX2_leastTime_16 : decode cX2_leastTime 16 = .ok (.iload 4, 2) := by decide +kernel
theorem dX2_leastTime_18 : decode cX2_leastTime 18 = .ok (.iload_n 1, 1) := by decide +kernel
theorem dX2_leastTime_19 : decode cX2_leastTime 19 = .ok (.iload_n 2, 1) := by decide +kernel
theorem dX2_leastTime_20 : decode cX2_leastTime 20 = .ok (.invokevirtual 86, 3) := by decide +kernel
theorem dX2_leastTime_23 : decode cX2_leastTime 23 = .ok (.ifCond .eq 28, 3) := by decide +kernel
theorem dX2_leastTime_26 : decode cX2_leastTime 26 = .ok (.iload_n 3, 1) := by decide +kernel
theorem dX2_leastTime_27 : decode cX2_leastTime 27 = .ok (.ldc 85, 2) := by decide +kernel
theorem dX2_leastTime_29 : decode cX2_leastTime 29 = .ok (.if_icmp .eq 14, 3) := by decide +kernel
theorem dX2_leastTime_32 : decode cX2_leastTime 32 = .ok (.aload_n 0, 1) := by decide +kernel
theorem dX2_leastTime_33 : decode cX2_leastTime 33 = .ok (.getfield 47, 3) := by decide +kernel
theorem dX2_leastTime_36 : decode cX2_leastTime 36 = .ok (.iload 4, 2) := by decide +kernel
theorem dX2_leastTime_38 : decode cX2_leastTime 38 = .ok (.iaload, 1) := by decide +kernel
theorem dX2_leastTime_39 : decode cX2_leastTime 39 = .ok (.iload_n 3, 1) := by decide +kernel
theorem dX2_leastTime_40 : decode cX2_leastTime 40 = .ok (.if_icmp .ge 11, 3) := by decide +kernel
theorem dX2_leastTime_43 : decode cX2_leastTime 43 = .ok (.aload_n 0, 1) := by decide +kernel
theorem dX2_leastTime_44 : decode cX2_leastTime 44 = .ok (.getfield 47, 3) := by decide +kernel
theorem dX2_leastTime_47 : decode cX2_leastTime 47 = .ok (.iload 4, 2) := by decide +kernel
theorem dX2_leastTime_49 : decode cX2_leastTime 49 = .ok (.iaload, 1) := by decide +kernel
theorem dX2_leastTime_50 : decode cX2_leastTime 50 = .ok (.istore_n 3, 1) := by decide +kernel
theorem dX2_leastTime_51 : decode cX2_leastTime 51 = .ok (.iinc 4 1, 3) := by decide +kernel
theorem dX2_leastTime_54 : decode cX2_leastTime 54 = .ok (.goto (-48), 3) := by decide +kernel
theorem dX2_leastTime_57 : decode cX2_leastTime 57 = .ok (.iload_n 3, 1) := by decide +kernel
theorem dX2_leastTime_58 : decode cX2_leastTime 58 = .ok (.ireturn, 1) := by decide +kernel
set_option maxRecDepth 20000 in
theorem ggX2_dearestStreet_X2_owes : GoodIn wsX2_dearestStreet wsX2_owes := goodIn_r _ [6, 7, 8, 9, 10, 11, 5, 12, 13, 14, 15, 16, 17, 18, 19, 20, 21, 22, 23, 24, 25, 26, 27, 28, 29, 30, 31, 32, 33, 34, 35, 36, 37, 38, 39, 40] (by decide +kernel) (by decide +kernel)
set_option maxRecDepth 20000 in
theorem gX2_dearestStreet_X2_owes : GoodIn wsX2_dearestStreet (wsV RX2 90 RX2 yX2_owes wsX2_owes) := goodIn_app (goodIn_of _ (by decide +kernel)) ggX2_dearestStreet_X2_owes
theorem dX2_dearestStreet_0 : decode cX2_dearestStreet 0 = .ok (.iconst 0, 1) := by decide +kernel
theorem dX2_dearestStreet_1 : decode cX2_dearestStreet 1 = .ok (.istore_n 2, 1) := by decide +kernel
theorem dX2_dearestStreet_2 : decode cX2_dearestStreet 2 = .ok (.iconst 1, 1) := by decide +kernel
theorem dX2_dearestStreet_3 : decode cX2_dearestStreet 3 = .ok (.istore_n 3, 1) := by decide +kernel
theorem dX2_dearestStreet_4 : decode cX2_dearestStreet 4 = .ok (.iload_n 3, 1) := by decide +kernel
theorem dX2_dearestStreet_5 : decode cX2_dearestStreet 5 = .ok (.aload_n 0, 1) := by decide +kernel
theorem dX2_dearestStreet_6 : decode cX2_dearestStreet 6 = .ok (.getfield 22, 3) := by decide +kernel
theorem dX2_dearestStreet_9 : decode cX2_dearestStreet 9 = .ok (.if_icmp .ge 26, 3) := by decide +kernel
theorem dX2_dearestStreet_12 : decode cX2_dearestStreet 12 = .ok (.aload_n 0, 1) := by decide +kernel
theorem dX2_dearestStreet_13 : decode cX2_dearestStreet 13 = .ok (.iload_n 1, 1) := by decide +kernel
theorem dX2_dearestStreet_14 : decode cX2_dearestStreet 14 = .ok (.iload_n 3, 1) := by decide +kernel
theorem dX2_dearestStreet_15 : decode cX2_dearestStreet 15 = .ok (.invokevirtual 90, 3) := by decide +kernel
theorem dX2_dearestStreet_18 : decode cX2_dearestStreet 18 = .ok (.aload_n 0, 1) := by decide +kernel
theorem dX2_dearestStreet_19 : decode cX2_dearestStreet 19 = .ok (.iload_n 1, 1) := by decide +kernel
theorem dX2_dearestStreet_20 : decode cX2_dearestStreet 20 = .ok (.iload_n 2, 1) := by decide +kernel
theorem dX2_dearestStreet_21 : decode cX2_dearestStreet 21 = .ok (.invokevirtual 90, 3) := by decide +kernel
theorem dX2_dearestStreet_24 : decode cX2_dearestStreet 24 = .ok (.if_icmp .le 5, 3) := by decide +kernel
theorem dX2_dearestStreet_27 : decode cX2_dearestStreet 27 = .ok (.iload_n 3, 1) := by decide +kernel
theorem dX2_dearestStreet_28 : decode cX2_dearestStreet 28 = .ok (.istore_n 2, 1) := by decide +kernel
theorem dX2_dearestStreet_29 : decode cX2_dearestStreet 29 = .ok (.iinc 3 1, 3) := by decide +kernel
theorem dX2_dearestStreet_32 : decode cX2_dearestStreet 32 = .ok (.goto (-28), 3) := by decide +kernel
theorem dX2_dearestStreet_35 : decode cX2_dearestStreet 35 = .ok (.iload_n 2, 1) := by decide +kernel
theorem dX2_dearestStreet_36 : decode cX2_dearestStreet 36 = .ok (.ireturn, 1) := by decide +kernel
theorem dX3_widerThan_0 : decode cX3_widerThan 0 = .ok (.iload_n 0, 1) := by decide +kernel
theorem dX3_widerThan_1 : decode cX3_widerThan 1 = .ok (.ifCond .lt 19, 3) := by decide +kernel
theorem dX3_widerThan_4 : decode cX3_widerThan 4 = .ok (.iload_n 0, 1) := by decide +kernel
theorem dX3_widerThan_5 : decode cX3_widerThan 5 = .ok (.getstatic 7, 3) := by decide +kernel
theorem dX3_widerThan_8 : decode cX3_widerThan 8 = .ok (.arraylength, 1) := by decide +kernel
theorem dX3_widerThan_9 : decode cX3_widerThan 9 = .ok (.if_icmp .ge 11, 3) := by decide +kernel
theorem dX3_widerThan_12 : decode cX3_widerThan 12 = .ok (.getstatic 7, 3) := by decide +kernel
theorem dX3_widerThan_15 : decode cX3_widerThan 15 = .ok (.iload_n 0, 1) := by decide +kernel
theorem dX3_widerThan_16 : decode cX3_widerThan 16 = .ok (.iaload, 1) := by decide +kernel
theorem dX3_widerThan_17 : decode cX3_widerThan 17 = .ok (.goto 4, 3) := by decide +kernel
theorem dX3_widerThan_20 : decode cX3_widerThan 20 = .ok (.iconst 0, 1) := by decide +kernel
theorem dX3_widerThan_21 : decode cX3_widerThan 21 = .ok (.ireturn, 1) := by decide +kernel
set_option maxRecDepth 20000 in
theorem ggX3_isOneOf_X3_widerThan : GoodIn wsX3_isOneOf wsX3_widerThan := goodIn_r _ [5, 1] (by decide +kernel) (by decide +kernel)
set_option maxRecDepth 20000 in
theorem gX3_isOneOf_X3_widerThan : GoodIn wsX3_isOneOf (va_wsS RX3 13 yX3_widerThan wsX3_widerThan) := goodIn_app (goodIn_of _ (by decide +kernel)) ggX3_isOneOf_X3_widerThan
theorem dX3_isOneOf_0 : decode cX3_isOneOf 0 = .ok (.iload_n 0, 1) := by decide +kernel
theorem dX3_isOneOf_1 : decode cX3_isOneOf 1 = .ok (.istore_n 2, 1) := by decide +kernel
theorem dX3_isOneOf_2 : decode cX3_isOneOf 2 = .ok (.iconst 0, 1) := by decide +kernel
theorem dX3_isOneOf_3 : decode cX3_isOneOf 3 = .ok (.istore_n 3, 1) := by decide +kernel
theorem dX3_isOneOf_4 : decode cX3_isOneOf 4 = .ok (.iload_n 3, 1) := by decide +kernel
theorem dX3_isOneOf_5 : decode cX3_isOneOf 5 = .ok (.getstatic 7, 3) := by decide +kernel
theorem dX3_isOneOf_8 : decode cX3_isOneOf 8 = .ok (.arraylength, 1) := by decide +kernel
theorem dX3_isOneOf_9 : decode cX3_isOneOf 9 = .ok (.if_icmp .ge 19, 3) := by decide +kernel
theorem dX3_isOneOf_12 : decode cX3_isOneOf 12 = .ok (.iload_n 2, 1) := by decide +kernel
theorem dX3_isOneOf_13 : decode cX3_isOneOf 13 = .ok (.iload_n 1, 1) := by decide +kernel
theorem dX3_isOneOf_14 : decode cX3_isOneOf 14 = .ok (.if_icmp .eq 14, 3) := by decide +kernel
theorem dX3_isOneOf_17 : decode cX3_isOneOf 17 = .ok (.iload_n 2, 1) := by decide +kernel
theorem dX3_isOneOf_18 : decode cX3_isOneOf 18 = .ok (.invokestatic 13, 3) := by decide +kernel
theorem dX3_isOneOf_21 : decode cX3_isOneOf 21 = .ok (.istore_n 2, 1) := by decide +kernel
theorem dX3_isOneOf_22 : decode cX3_isOneOf 22 = .ok (.iinc 3 1, 3) := by decide +kernel
theorem dX3_isOneOf_25 : decode cX3_isOneOf 25 = .ok (.goto (-21), 3) := by decide +kernel
theorem dX3_isOneOf_28 : decode cX3_isOneOf 28 = .ok (.iload_n 2, 1) := by decide +kernel
theorem dX3_isOneOf_29 : decode cX3_isOneOf 29 = .ok (.iload_n 1, 1) := by decide +kernel
theorem dX3_isOneOf_30 : decode cX3_isOneOf 30 = .ok (.if_icmp .ne 7, 3) := by decide +kernel
theorem dX3_isOneOf_33 : decode cX3_isOneOf 33 = .ok (.iconst 1, 1) := by decide +kernel
theorem dX3_isOneOf_34 : decode cX3_isOneOf 34 = .ok (.goto 4, 3) := by decide +kernel
theorem dX3_isOneOf_37 : decode cX3_isOneOf 37 = .ok (.iconst 0, 1) := by decide +kernel
theorem dX3_isOneOf_38 : decode cX3_isOneOf 38 = .ok (.ireturn, 1) := by decide +kernel
theorem dX3_ofLetter_0 : decode cX3_ofLetter 0 = .ok (.iload_n 0, 1) := by decide +kernel
theorem dX3_ofLetter_1 : decode cX3_ofLetter 1 = .ok (.lookupswitch 61 #[(98, 55), (107, 57), (110, 53), (115, 59), (119, 51)], 51) := by decide +kernel
theorem dX3_ofLetter_52 : decode cX3_ofLetter 52 = .ok (.iconst 1, 1) := by decide +kernel
theorem dX3_ofLetter_53 : decode cX3_ofLetter 53 = .ok (.ireturn, 1) := by decide +kernel
theorem dX3_ofLetter_54 : decode cX3_ofLetter 54 = .ok (.iconst 2, 1) := by decide +kernel
theorem dX3_ofLetter_55 : decode cX3_ofLetter 55 = .ok (.ireturn, 1) := by decide +kernel
theorem dX3_ofLetter_56 : decode cX3_ofLetter 56 = .ok (.iconst 3, 1) := by decide +kernel
theorem dX3_ofLetter_57 : decode cX3_ofLetter 57 = .ok (.ireturn, 1) := by decide +kernel
theorem dX3_ofLetter_58 : decode cX3_ofLetter 58 = .ok (.iconst 4, 1) := by decide +kernel
theorem dX3_ofLetter_59 : decode cX3_ofLetter 59 = .ok (.ireturn, 1) := by decide +kernel
theorem dX3_ofLetter_60 : decode cX3_ofLetter 60 = .ok (.iconst 5, 1) := by decide +kernel
theorem dX3_ofLetter_61 : decode cX3_ofLetter 61 = .ok (.ireturn, 1) := by decide +kernel
theorem dX3_ofLetter_62 : decode cX3_ofLetter 62 = .ok (.iconst 0, 1) := by decide +kernel
theorem dX3_ofLetter_63 : decode cX3_ofLetter 63 = .ok (.ireturn, 1) := by decide +kernel
theorem dX4_init_0 : decode cX4_init 0 = .ok (.aload_n 0, 1) := by decide +kernel
theorem dX4_init_1 : decode cX4_init 1 = .ok (.invokespecial 3, 3) := by decide +kernel
theorem dX4_init_4 : decode cX4_init 4 = .ok (.aload_n 0, 1) := by decide +kernel
theorem dX4_init_5 : decode cX4_init 5 = .ok (.bipush 120, 2) := by decide +kernel
theorem dX4_init_7 : decode cX4_init 7 = .ok (.newarray .int, 2) := by decide +kernel
theorem dX4_init_9 : decode cX4_init 9 = .ok (.putfield 11, 3) := by decide +kernel
theorem dX4_init_12 : decode cX4_init 12 = .ok (.aload_n 0, 1) := by decide +kernel
theorem dX4_init_13 : decode cX4_init 13 = .ok (.iconst 0, 1) := by decide +kernel
theorem dX4_init_14 : decode cX4_init 14 = .ok (.putfield 15, 3) := by decide +kernel
theorem dX4_init_17 : decode cX4_init 17 = .ok (.aload_n 0, 1) := by decide +kernel
theorem dX4_init_18 : decode cX4_init 18 = .ok (.iconst 0, 1) := by decide +kernel
theorem dX4_init_19 : decode cX4_init 19 = .ok (.putfield 19, 3) := by decide +kernel
theorem dX4_init_22 : decode cX4_init 22 = .ok (.aload_n 0, 1) := by decide +kernel
theorem dX4_init_23 : decode cX4_init 23 = .ok (.iconst 0, 1) := by decide +kernel
theorem dX4_init_24 : decode cX4_init 24 = .ok (.putfield 22, 3) := by decide +kernel
theorem dX4_init_27 : decode cX4_init 27 = .ok (.aload_n 0, 1) := by decide +kernel
theorem dX4_init_28 : decode cX4_init 28 = .ok (.iconst 0, 1) := by decide +kernel
theorem dX4_init_29 : decode cX4_init 29 = .ok (.putfield 25, 3) := by decide +kernel
theorem dX4_init_32 : decode cX4_init 32 = .ok (.aload_n 0, 1) := by decide +kernel
theorem dX4_init_33 : decode cX4_init 33 = .ok (.iconst 0, 1) := by decide +kernel
theorem dX4_init_34 : decode cX4_init 34 = .ok (.putfield 28, 3) := by decide +kernel
theorem dX4_init_37 : decode cX4_init 37 = .ok (.return_, 1) := by decide +kernel
theorem dX4_isFull_0 : decode cX4_isFull 0 = .ok (.aload_n 0, 1) := by decide +kernel
theorem dX4_isFull_1 : decode cX4_isFull 1 = .ok (.getfield 15, 3) := by decide +kernel
theorem dX4_isFull_4 : decode cX4_isFull 4 = .ok (.bipush 120, 2) := by decide +kernel
theorem dX4_isFull_6 : decode cX4_isFull 6 = .ok (.if_icmp .lt 7, 3) := by decide +kernel
theorem dX4_isFull_9 : decode cX4_isFull 9 = .ok (.iconst 1, 1) := by decide +kernel
theorem dX4_isFull_10 : decode cX4_isFull 10 = .ok (.goto 4, 3) := by decide +kernel
theorem dX4_isFull_13 : decode cX4_isFull 13 = .ok (.iconst 0, 1) := by decide +kernel
theorem dX4_isFull_14 : decode cX4_isFull 14 = .ok (.ireturn, 1) := by decide +kernel
set_option maxRecDepth 20000 in
theorem ggX4_append_X4_isFull : GoodIn wsX4_append wsX4_isFull := goodIn_r _ [7, 2, 8, 9, 10, 11, 12, 13] (by decide +kernel) (by decide +kernel)
set_option maxRecDepth 20000 in
theorem gX4_append_X4_isFull : GoodIn wsX4_append (wsV RX4 31 RX4 yX4_isFull wsX4_isFull) := goodIn_app (goodIn_of _ (by decide +kernel)) ggX4_append_X4_isFull
theorem dX4_append_0 : decode cX4_append 0 = .ok (.aload_n 0, 1) := by decide +kernel
theorem dX4_append_1 : decode cX4_append 1 = .ok (.invokevirtual 31, 3) := by decide +kernel
theorem dX4_append_4 : decode cX4_append 4 = .ok (.ifCond .ne 23, 3) := by decide +kernel
theorem dX4_append_7 : decode cX4_append 7 = .ok (.aload_n 0, 1) := by decide +kernel
theorem dX4_append_8 : decode cX4_append 8 = .ok (.getfield 11, 3) := by decide +kernel
theorem dX4_append_11 : decode cX4_append 11 = .ok (.aload_n 0, 1) := by decide +kernel
theorem dX4_append_12 : decode cX4_append 12 = .ok (.getfield 15, 3) := by decide +kernel
theorem dX4_append_15 : decode cX4_append 15 = .ok (.iload_n 1, 1) := by decide +kernel
theorem dX4_append_16 : decode cX4_append 16 = .ok (.iastore, 1) := by decide +kernel
theorem dX4_append_17 : decode cX4_append 17 = .ok (.aload_n 0, 1) := by decide +kernel
theorem dX4_append_18 : decode cX4_append 18 = .ok (.dup, 1) := by decide +kernel
theorem dX4_append_19 : decode cX4_append 19 = .ok (.getfield 15, 3) := by decide +kernel
theorem dX4_append_22 : decode cX4_append 22 = .ok (.iconst 1, 1) := by decide +kernel
theorem dX4_append_23 : decode cX4_append 23 = .ok (.iadd, 1) := by decide +kernel
theorem dX4_append_24 : decode cX4_append 24 = .ok (.putfield 15, 3) := by decide +kernel
theorem dX4_append_27 : decode cX4_append 27 = .ok (.aload_n 0, 1) := by decide +kernel
theorem dX4_append_28 : decode cX4_append 28 = .ok (.getfield 15, 3) := by decide +kernel
theorem dX4_append_31 : decode cX4_append 31 = .ok (.ireturn, 1) := by decide +kernel
set_option maxRecDepth 20000 in
theorem ggX4_reads_X4_readLaw : GoodIn wsX4_reads wsX4_readLaw := goodIn_r _ [8, 9, 10, 11, 7, 12, 2, 13, 14, 15, 16, 3, 17, 18, 19, 20, 21, 22, 23, 24, 25, 1, 26, 27, 28, 29, 30, 31, 32, 33, 34, 35, 36, 37, 38, 39, 40, 41, 42, 43, 44, 45, 67, 68, 69, 70, 71, 72, 73, 74, 75, 76, 77, 78, 79, 80, 81, 82, 83, 84, 85] (by decide +kernel) (by decide +kernel)
set_option maxRecDepth 20000 in
theorem gX4_reads_X4_readLaw : GoodIn wsX4_reads (wsV RX4 35 RX4 yX4_readLaw wsX4_readLaw) := goodIn_app (goodIn_of _ (by decide +kernel)) ggX4_reads_X4_readLaw
set_option maxRecDepth 20000 in
theorem ggX4_reads_X4_next : GoodIn wsX4_reads wsX4_next := goodIn_r _ [16, 2, 3, 17, 67, 68, 69, 70, 71, 72] (by decide +kernel) (by decide +kernel)
set_option maxRecDepth 20000 in
theorem gX4_reads_X4_next : GoodIn wsX4_reads (wsV RX4 39 RX4 yX4_next wsX4_next) := goodIn_app (goodIn_of _ (by decide +kernel)) ggX4_reads_X4_next
set_option maxRecDepth 20000 in
theorem ggX4_reads_X4_readStreet : GoodIn wsX4_reads wsX4_readStreet := goodIn_r _ [49, 50, 51, 52, 18, 19, 20, 7, 21, 2, 22, 23, 24, 25, 1, 26, 27, 9, 10, 11, 12, 13, 14, 15, 16, 3, 17, 28, 29, 30, 31, 32, 33, 34, 73, 74, 75, 76, 77, 78, 79, 80, 81, 82, 83, 84, 85, 67, 68, 69, 70, 71, 72] (by decide +kernel) (by decide +kernel)
set_option maxRecDepth 20000 in
theorem gX4_reads_X4_readStreet : GoodIn wsX4_reads (wsV RX4 43 RX4 yX4_readStreet wsX4_readStreet) := goodIn_app (goodIn_of _ (by decide +kernel)) ggX4_reads_X4_readStreet
set_option maxRecDepth 20000 in
theorem ggX4_reads_X3_ofLetter : GoodIn wsX4_reads wsX3_ofLetter := goodIn_r _ [56] (by decide +kernel) (by decide +kernel)
set_option maxRecDepth 20000 in
theorem gX4_reads_X3_ofLetter : GoodIn wsX4_reads (va_wsS RX4 46 yX3_ofLetter wsX3_ofLetter) := goodIn_app (goodIn_of _ (by decide +kernel)) ggX4_reads_X3_ofLetter
set_option maxRecDepth 20000 in
theorem ggX4_reads_X4_readGesture : GoodIn wsX4_reads wsX4_readGesture := goodIn_r _ [60, 61, 62, 2, 63, 64, 65, 66, 18, 19, 20, 7, 21, 22, 23, 24, 25, 1, 26, 27, 13, 14, 15, 16, 3, 17, 53, 54, 55, 56, 28, 29, 30, 31, 32, 33, 34, 9, 10, 11, 12, 73, 74, 75, 76, 77, 78, 79, 80, 81, 82, 83, 84, 85, 67, 68, 69, 70, 71, 72] (by decide +kernel) (by decide +kernel)
set_option maxRecDepth 20000 in
theorem gX4_reads_X4_readGesture : GoodIn wsX4_reads (wsV RX4 52 RX4 yX4_readGesture wsX4_readGesture) := goodIn_app (goodIn_of _ (by decide +kernel)) ggX4_reads_X4_readGesture
set_option maxRecDepth 20000 in
theorem ggX4_reads_X4_fail : GoodIn wsX4_reads wsX4_fail := goodIn_r _ [21, 2, 22, 23, 24, 7, 25, 1, 26, 27, 67, 68, 69, 70, 71, 72] (by decide +kernel) (by decide +kernel)
set_option maxRecDepth 20000 in
theorem gX4_reads_X4_fail : GoodIn wsX4_reads (wsV RX4 55 RX4 yX4_fail wsX4_fail) := goodIn_app (goodIn_of _ (by decide +kernel)) ggX4_reads_X4_fail
theorem dX4_reads_0 : decode cX4_reads 0 = .ok (.aload_n 0, 1) := by decide +kernel
theorem dX4_reads_1 : decode cX4_reads 1 = .ok (.iconst 0, 1) := by decide +kernel
theorem dX4_reads_2 : decode cX4_reads 2 = .ok (.putfield 25, 3) := by decide +kernel
theorem dX4_reads_5 : decode cX4_reads 5 = .ok (.aload_n 0, 1) := by decide +kernel
theorem dX4_reads_6 : decode cX4_reads 6 = .ok (.iconst 0, 1) := by decide +kernel
theorem dX4_reads_7 : decode cX4_reads 7 = .ok (.putfield 28, 3) := by decide +kernel
theorem dX4_reads_10 : decode cX4_reads 10 = .ok (.aload_n 0, 1) := by decide +kernel
theorem dX4_reads_11 : decode cX4_reads 11 = .ok (.aload_n 1, 1) := by decide +kernel
theorem dX4_reads_12 : decode cX4_reads 12 = .ok (.invokevirtual 35, 3) := by decide +kernel
theorem dX4_reads_15 : decode cX4_reads 15 = .ok (.iconst 0, 1) := by decide +kernel
theorem dX4_reads_16 : decode cX4_reads 16 = .ok (.istore_n 2, 1) := by decide +kernel
theorem dX4_reads_17 : decode cX4_reads 17 = .ok (.iload_n 2, 1) := by decide +kernel
theorem dX4_reads_18 : decode cX4_reads 18 = .ok (.bipush 120, 2) := by decide +kernel
theorem dX4_reads_20 : decode cX4_reads 20 = .ok (.if_icmp .ge 30, 3) := by decide +kernel
theorem dX4_reads_23 : decode cX4_reads 23 = .ok (.aload_n 0, 1) := by decide +kernel
theorem dX4_reads_24 : decode cX4_reads 24 = .ok (.getfield 25, 3) := by decide +kernel
theorem dX4_reads_27 : decode cX4_reads 27 = .ok (.ifCond .ne 23, 3) := by decide +kernel
theorem dX4_reads_30 : decode cX4_reads 30 = .ok (.aload_n 0, 1) := by decide +kernel
theorem dX4_reads_31 : decode cX4_reads 31 = .ok (.invokevirtual 39, 3) := by decide +kernel
theorem dX4_reads_34 : decode cX4_reads 34 = .ok (.bipush 114, 2) := by decide +kernel
theorem dX4_reads_36 : decode cX4_reads 36 = .ok (.if_icmp .ne 14, 3) := by decide +kernel
theorem dX4_reads_39 : decode cX4_reads 39 = .ok (.aload_n 0, 1) := by decide +kernel
theorem dX4_reads_40 : decode cX4_reads 40 = .ok (.aload_n 1, 1) := by decide +kernel
theorem dX4_reads_41 : decode cX4_reads 41 = .ok (.invokevirtual 43, 3) := by decide +kernel
theorem dX4_reads_44 : decode cX4_reads 44 = .ok (.iinc 2 1, 3) := by decide +kernel
theorem dX4_reads_47 : decode cX4_reads 47 = .ok (.goto (-30), 3) := by decide +kernel
theorem dX4_reads_50 : decode cX4_reads 50 = .ok (.iconst 0, 1) := by decide +kernel
theorem dX4_reads_51 : decode cX4_reads 51 = .ok (.istore_n 2, 1) := by decide +kernel
theorem dX4_reads_52 : decode cX4_reads 52 = .ok (.iload_n 2, 1) := by decide +kernel
theorem dX4_reads_53 : decode cX4_reads 53 = .ok (.bipush 120, 2) := by decide +kernel
theorem dX4_reads_55 : decode cX4_reads 55 = .ok (.if_icmp .ge 31, 3) := by decide +kernel
theorem dX4_reads_58 : decode cX4_reads 58 = .ok (.aload_n 0, 1) := by decide +kernel
theorem dX4_reads_59 : decode cX4_reads 59 = .ok (.getfield 25, 3) := by decide +kernel
theorem dX4_reads_62 : decode cX4_reads 62 = .ok (.ifCond .ne 24, 3) := by decide +kernel
theorem dX4_reads_65 : decode cX4_reads 65 = .ok (.aload_n 0, 1) := by decide +kernel
theorem dX4_reads_66 : decode cX4_reads 66 = .ok (.invokevirtual 39, 3) := by decide +kernel
theorem dX4_reads_69 : decode cX4_reads 69 = .ok (.invokestatic 46, 3) := by decide +kernel
theorem dX4_reads_72 : decode cX4_reads 72 = .ok (.ifCond .eq 14, 3) := by decide +kernel
theorem dX4_reads_75 : decode cX4_reads 75 = .ok (.aload_n 0, 1) := by decide +kernel
theorem dX4_reads_76 : decode cX4_reads 76 = .ok (.aload_n 1, 1) := by decide +kernel
theorem dX4_reads_77 : decode cX4_reads 77 = .ok (.invokevirtual 52, 3) := by decide +kernel
theorem dX4_reads_80 : decode cX4_reads 80 = .ok (.iinc 2 1, 3) := by decide +kernel
theorem dX4_reads_83 : decode cX4_reads 83 = .ok (.goto (-31), 3) := by decide +kernel
theorem dX4_reads_86 : decode cX4_reads 86 = .ok (.aload_n 0, 1) := by decide +kernel
theorem dX4_reads_87 : decode cX4_reads 87 = .ok (.getfield 28, 3) := by decide +kernel
theorem dX4_reads_90 : decode cX4_reads 90 = .ok (.aload_n 0, 1) := by decide +kernel
theorem dX4_reads_91 : decode cX4_reads 91 = .ok (.getfield 15, 3) := by decide +kernel
theorem dX4_reads_94 : decode cX4_reads 94 = .ok (.if_icmp .ge 8, 3) := by decide +kernel
theorem dX4_reads_97 : decode cX4_reads 97 = .ok (.aload_n 0, 1) := by decide +kernel
theorem dX4_reads_98 : decode cX4_reads 98 = .ok (.iconst 1, 1) := by decide +kernel
theorem dX4_reads_99 : decode cX4_reads 99 = .ok (.invokevirtual 55, 3) := by decide +kernel
theorem dX4_reads_102 : decode cX4_reads 102 = .ok (.aload_n 0, 1) := by decide +kernel
theorem dX4_reads_103 : decode cX4_reads 103 = .ok (.iconst 0, 1) := by decide +kernel
theorem dX4_reads_104 : decode cX4_reads 104 = .ok (.putfield 15, 3) := by decide +kernel
theorem dX4_reads_107 : decode cX4_reads 107 = .ok (.aload_n 0, 1) := by decide +kernel
theorem dX4_reads_108 : decode cX4_reads 108 = .ok (.getfield 25, 3) := by decide +kernel
theorem dX4_reads_111 : decode cX4_reads 111 = .ok (.ifCond .ne 7, 3) := by decide +kernel
theorem dX4_reads_114 : decode cX4_reads 114 = .ok (.iconst 1, 1) := by decide +kernel
theorem dX4_reads_115 : decode cX4_reads 115 = .ok (.goto 4, 3) := by decide +kernel
theorem dX4_reads_118 : decode cX4_reads 118 = .ok (.iconst 0, 1) := by decide +kernel
theorem dX4_reads_119 : decode cX4_reads 119 = .ok (.ireturn, 1) := by decide +kernel
set_option maxRecDepth 20000 in
theorem ggX4_readLaw_X4_readSign : GoodIn wsX4_readLaw wsX4_readSign := goodIn_r _ [5, 6, 7, 8, 9, 4, 10, 11, 12, 13, 14, 15, 16, 17, 18, 19, 20, 21, 22, 23, 42, 43, 44, 45, 46, 47] (by decide +kernel) (by decide +kernel)
set_option maxRecDepth 20000 in
theorem gX4_readLaw_X4_readSign : GoodIn wsX4_readLaw (wsV RX4 59 RX4 yX4_readSign wsX4_readSign) := goodIn_app (goodIn_of _ (by decide +kernel)) ggX4_readLaw_X4_readSign
set_option maxRecDepth 20000 in
theorem ggX4_readLaw_X4_readNumber : GoodIn wsX4_readLaw wsX4_readNumber := goodIn_r _ [27, 6, 7, 8, 9, 4, 10, 11, 12, 28, 29, 30, 17, 18, 19, 20, 21, 22, 23, 42, 43, 44, 45, 46, 47] (by decide +kernel) (by decide +kernel)
set_option maxRecDepth 20000 in
theorem gX4_readLaw_X4_readNumber : GoodIn wsX4_readLaw (wsV RX4 62 RX4 yX4_readNumber wsX4_readNumber) := goodIn_app (goodIn_of _ (by decide +kernel)) ggX4_readLaw_X4_readNumber
set_option maxRecDepth 20000 in
theorem ggX4_readLaw_X2_begin : GoodIn wsX4_readLaw wsX2_begin := goodIn_r _ [35, 36, 37, 38, 39, 40, 41, 48, 49, 50, 51, 52, 53, 54, 55, 56, 57, 58, 59, 60] (by decide +kernel) (by decide +kernel)
set_option maxRecDepth 20000 in
theorem gX4_readLaw_X2_begin : GoodIn wsX4_readLaw (wsV RX4 66 RX2 yX2_begin wsX2_begin) := goodIn_app (goodIn_of _ (by decide +kernel)) ggX4_readLaw_X2_begin
theorem dX4_readLaw_0 : decode cX4_readLaw 0 = .ok (.aload_n 0, 1) := by decide +kernel
theorem dX4_readLaw_1 : decode cX4_readLaw 1 = .ok (.bipush 100, 2) := by decide +kernel
theorem dX4_readLaw_3 : decode cX4_readLaw 3 = .ok (.invokevirtual 59, 3) := by decide +kernel
theorem dX4_readLaw_6 : decode cX4_readLaw 6 = .ok (.aload_n 1, 1) := by decide +kernel
theorem dX4_readLaw_7 : decode cX4_readLaw 7 = .ok (.aload_n 0, 1) := by decide +kernel
theorem dX4_readLaw_8 : decode cX4_readLaw 8 = .ok (.iconst 1, 1) := by decide +kernel
theorem dX4_readLaw_9 : decode cX4_readLaw 9 = .ok (.bipush 9, 2) := by decide +kernel
theorem dX4_readLaw_11 : decode cX4_readLaw 11 = .ok (.invokevirtual 62, 3) := by decide +kernel
theorem dX4_readLaw_14 : decode cX4_readLaw 14 = .ok (.invokevirtual 66, 3) := by decide +kernel
theorem dX4_readLaw_17 : decode cX4_readLaw 17 = .ok (.aload_n 0, 1) := by decide +kernel
theorem dX4_readLaw_18 : decode cX4_readLaw 18 = .ok (.bipush 59, 2) := by decide +kernel
theorem dX4_readLaw_20 : decode cX4_readLaw 20 = .ok (.invokevirtual 59, 3) := by decide +kernel
theorem dX4_readLaw_23 : decode cX4_readLaw 23 = .ok (.return_, 1) := by decide +kernel
set_option maxRecDepth 20000 in
theorem ggX4_readStreet_X4_fail : GoodIn wsX4_readStreet wsX4_fail := goodIn_r _ [8, 9, 10, 11, 12, 7, 13, 14, 15, 16, 47, 48, 49, 50, 51, 52] (by decide +kernel) (by decide +kernel)
set_option maxRecDepth 20000 in
theorem gX4_readStreet_X4_fail : GoodIn wsX4_readStreet (wsV RX4 55 RX4 yX4_fail wsX4_fail) := goodIn_app (goodIn_of _ (by decide +kernel)) ggX4_readStreet_X4_fail
set_option maxRecDepth 20000 in
theorem ggX4_readStreet_X4_readSign : GoodIn wsX4_readStreet wsX4_readSign := goodIn_r _ [20, 9, 21, 22, 23, 7, 24, 25, 26, 4, 5, 6, 8, 10, 11, 12, 13, 14, 15, 16, 47, 48, 49, 50, 51, 52] (by decide +kernel) (by decide +kernel)
set_option maxRecDepth 20000 in
theorem gX4_readStreet_X4_readSign : GoodIn wsX4_readStreet (wsV RX4 59 RX4 yX4_readSign wsX4_readSign) := goodIn_app (goodIn_of _ (by decide +kernel)) ggX4_readStreet_X4_readSign
set_option maxRecDepth 20000 in
theorem ggX4_readStreet_X4_readNumber : GoodIn wsX4_readStreet wsX4_readNumber := goodIn_r _ [30, 9, 21, 22, 23, 7, 24, 25, 26, 31, 32, 33, 10, 11, 12, 13, 14, 15, 16, 47, 48, 49, 50, 51, 52] (by decide +kernel) (by decide +kernel)
set_option maxRecDepth 20000 in
theorem gX4_readStreet_X4_readNumber : GoodIn wsX4_readStreet (wsV RX4 62 RX4 yX4_readNumber wsX4_readNumber) := goodIn_app (goodIn_of _ (by decide +kernel)) ggX4_readStreet_X4_readNumber
theorem dX4_readStreet_0 : decode cX4_readStreet 0 = .ok (.aload_n 1, 1) := by decide +kernel
theorem dX4_readStreet_1 : decode cX4_readStreet 1 = .ok (.getfield 71, 3) := by decide +kernel
theorem dX4_readStreet_4 : decode cX4_readStreet 4 = .ok (.bipush 7, 2) := by decide +kernel
theorem dX4_readStreet_6 : decode cX4_readStreet 6 = .ok (.if_icmp .lt 9, 3) := by decide +kernel
theorem dX4_readStreet_9 : decode cX4_readStreet 9 = .ok (.aload_n 0, 1) := by decide +kernel
theorem dX4_readStreet_10 : decode cX4_readStreet 10 = .ok (.iconst 3, 1) := by decide +kernel
theorem dX4_readStreet_11 : decode cX4_readStreet 11 = .ok (.invokevirtual 55, 3) := by decide +kernel
theorem dX4_readStreet_14 : decode cX4_readStreet 14 = .ok (.return_, 1) := by decide +kernel
theorem dX4_readStreet_15 : decode cX4_readStreet 15 = .ok (.aload_n 1, 1) := by decide +kernel
theorem dX4_readStreet_16 : decode cX4_readStreet 16 = .ok (.getfield 71, 3) := by decide +kernel
theorem dX4_readStreet_19 : decode cX4_readStreet 19 = .ok (.istore_n 2, 1) := by decide +kernel
theorem dX4_readStreet_20 : decode cX4_readStreet 20 = .ok (.aload_n 0, 1) := by decide +kernel
theorem dX4_readStreet_21 : decode cX4_readStreet 21 = .ok (.bipush 114, 2) := by decide +kernel
theorem dX4_readStreet_23 : decode cX4_readStreet 23 = .ok (.invokevirtual 59, 3) := by decide +kernel
theorem dX4_readStreet_26 : decode cX4_readStreet 26 = .ok (.aload_n 1, 1) := by decide +kernel
theorem dX4_readStreet_27 : decode cX4_readStreet 27 = .ok (.getfield 74, 3) := by decide +kernel
theorem dX4_readStreet_30 : decode cX4_readStreet 30 = .ok (.iload_n 2, 1) := by decide +kernel
theorem dX4_readStreet_31 : decode cX4_readStreet 31 = .ok (.aload_n 0, 1) := by decide +kernel
theorem dX4_readStreet_32 : decode cX4_readStreet 32 = .ok (.iconst 0, 1) := by decide +kernel
theorem dX4_readStreet_33 : decode cX4_readStreet 33 = .ok (.bipush 30, 2) := by decide +kernel
theorem dX4_readStreet_35 : decode cX4_readStreet 35 = .ok (.invokevirtual 62, 3) := by decide +kernel
theorem dX4_readStreet_38 : decode cX4_readStreet 38 = .ok (.iastore, 1) := by decide +kernel
theorem dX4_readStreet_39 : decode cX4_readStreet 39 = .ok (.aload_n 0, 1) := by decide +kernel
theorem dX4_readStreet_40 : decode cX4_readStreet 40 = .ok (.bipush 44, 2) := by decide +kernel
theorem dX4_readStreet_42 : decode cX4_readStreet 42 = .ok (.invokevirtual 59, 3) := by decide +kernel
theorem dX4_readStreet_45 : decode cX4_readStreet 45 = .ok (.aload_n 1, 1) := by decide +kernel
theorem dX4_readStreet_46 : decode cX4_readStreet 46 = .ok (.getfield 77, 3) := by decide +kernel
theorem dX4_readStreet_49 : decode cX4_readStreet 49 = .ok (.iload_n 2, 1) := by decide +kernel
theorem dX4_readStreet_50 : decode cX4_readStreet 50 = .ok (.aload_n 0, 1) := by decide +kernel
theorem dX4_readStreet_51 : decode cX4_readStreet 51 = .ok (.iconst 0, 1) := by decide +kernel
theorem dX4_readStreet_52 : decode cX4_readStreet 52 = .ok (.bipush 9, 2) := by decide +kernel
theorem dX4_readStreet_54 : decode cX4_readStreet 54 = .ok (.invokevirtual 62, 3) := by decide +kernel
theorem dX4_readStreet_57 : decode cX4_readStreet 57 = .ok (.iastore, 1) := by decide +kernel
theorem dX4_readStreet_58 : decode cX4_readStreet 58 = .ok (.aload_n 0, 1) := by decide +kernel
theorem dX4_readStreet_59 : decode cX4_readStreet 59 = .ok (.bipush 59, 2) := by decide +kernel
theorem dX4_readStreet_61 : decode cX4_readStreet 61 = .ok (.invokevirtual 59, 3) := by decide +kernel
theorem dX4_readStreet_64 : decode cX4_readStreet 64 = .ok (.aload_n 1, 1) := by decide +kernel
theorem dX4_readStreet_65 : decode cX4_readStreet 65 = .ok (.dup, 1) := by decide +kernel
theorem dX4_readStreet_66 : decode cX4_readStreet 66 = .ok (.getfield 71, 3) := by decide +kernel
theorem dX4_readStreet_69 : decode cX4_readStreet 69 = .ok (.iconst 1, 1) := by decide +kernel
theorem dX4_readStreet_70 : decode cX4_readStreet 70 = .ok (.iadd, 1) := by decide +kernel
theorem dX4_readStreet_71 : decode cX4_readStreet 71 = .ok (.putfield 71, 3) := by decide +kernel
theorem dX4_readStreet_74 : decode cX4_readStreet 74 = .ok (.return_, 1) := by decide +kernel
set_option maxRecDepth 20000 in
theorem ggX4_readGesture_X4_fail : GoodIn wsX4_readGesture wsX4_fail := goodIn_r _ [12, 3, 13, 14, 15, 11, 16, 17, 18, 19, 54, 55, 56, 57, 58, 59] (by decide +kernel) (by decide +kernel)
set_option maxRecDepth 20000 in
theorem gX4_readGesture_X4_fail : GoodIn wsX4_readGesture (wsV RX4 55 RX4 yX4_fail wsX4_fail) := goodIn_app (goodIn_of _ (by decide +kernel)) ggX4_readGesture_X4_fail
set_option maxRecDepth 20000 in
theorem ggX4_readGesture_X4_next : GoodIn wsX4_readGesture wsX4_next := goodIn_r _ [23, 3, 24, 25, 54, 55, 56, 57, 58, 59] (by decide +kernel) (by decide +kernel)
set_option maxRecDepth 20000 in
theorem gX4_readGesture_X4_next : GoodIn wsX4_readGesture (wsV RX4 39 RX4 yX4_next wsX4_next) := goodIn_app (goodIn_of _ (by decide +kernel)) ggX4_readGesture_X4_next
set_option maxRecDepth 20000 in
theorem ggX4_readGesture_X3_ofLetter : GoodIn wsX4_readGesture wsX3_ofLetter := goodIn_r _ [29] (by decide +kernel) (by decide +kernel)
set_option maxRecDepth 20000 in
theorem gX4_readGesture_X3_ofLetter : GoodIn wsX4_readGesture (va_wsS RX4 46 yX3_ofLetter wsX3_ofLetter) := goodIn_app (goodIn_of _ (by decide +kernel)) ggX4_readGesture_X3_ofLetter
set_option maxRecDepth 20000 in
theorem ggX4_readGesture_X4_readNumber : GoodIn wsX4_readGesture wsX4_readNumber := goodIn_r _ [33, 3, 20, 21, 22, 11, 23, 24, 25, 34, 35, 36, 13, 14, 15, 16, 17, 18, 19, 54, 55, 56, 57, 58, 59] (by decide +kernel) (by decide +kernel)
set_option maxRecDepth 20000 in
theorem gX4_readGesture_X4_readNumber : GoodIn wsX4_readGesture (wsV RX4 62 RX4 yX4_readNumber wsX4_readNumber) := goodIn_app (goodIn_of _ (by decide +kernel)) ggX4_readGesture_X4_readNumber
set_option maxRecDepth 20000 in
theorem ggX4_readGesture_X4_readSign : GoodIn wsX4_readGesture wsX4_readSign := goodIn_r _ [40, 3, 20, 21, 22, 11, 23, 24, 25, 8, 9, 10, 12, 13, 14, 15, 16, 17, 18, 19, 54, 55, 56, 57, 58, 59] (by decide +kernel) (by decide +kernel)
set_option maxRecDepth 20000 in
theorem gX4_readGesture_X4_readSign : GoodIn wsX4_readGesture (wsV RX4 59 RX4 yX4_readSign wsX4_readSign) := goodIn_app (goodIn_of _ (by decide +kernel)) ggX4_readGesture_X4_readSign
theorem dX4_readGesture_0 : decode cX4_readGesture 0 = .ok (.aload_n 1, 1) := by decide +kernel
theorem dX4_readGesture_1 : decode cX4_readGesture 1 = .ok (.getfield 80, 3) := by decide +kernel
theorem dX4_readGesture_4 : decode cX4_readGesture 4 = .ok (.bipush 6, 2) := by decide +kernel
theorem dX4_readGesture_6 : decode cX4_readGesture 6 = .ok (.if_icmp .lt 9, 3) := by decide +kernel
theorem dX4_readGesture_9 : decode cX4_readGesture 9 = .ok (.aload_n 0, 1) := by decide +kernel
theorem dX4_readGesture_10 : decode cX4_readGesture 10 = .ok (.iconst 3, 1) := by decide +kernel
theorem dX4_readGesture_11 : decode cX4_readGesture 11 = .ok (.invokevirtual 55, 3) := by decide +kernel
theorem dX4_readGesture_14 : decode cX4_readGesture 14 = .ok (.return_, 1) := by decide +kernel
theorem dX4_readGesture_15 : decode cX4_readGesture 15 = .ok (.aload_n 1, 1) := by decide +kernel
theorem dX4_readGesture_16 : decode cX4_readGesture 16 = .ok (.getfield 80, 3) := by decide +kernel
theorem dX4_readGesture_19 : decode cX4_readGesture 19 = .ok (.istore_n 2, 1) := by decide +kernel
theorem dX4_readGesture_20 : decode cX4_readGesture 20 = .ok (.aload_n 1, 1) := by decide +kernel
theorem dX4_readGesture_21 : decode cX4_readGesture 21 = .ok (.getfield 83, 3) := by decide +kernel
theorem dX4_readGesture_24 : decode cX4_readGesture 24 = .ok (.iload_n 2, 1) := by decide +kernel
theorem dX4_readGesture_25 : decode cX4_readGesture 25 = .ok (.aload_n 0, 1) := by decide +kernel
theorem dX4_readGesture_26 : decode cX4_readGesture 26 = .ok (.invokevirtual 39, 3) := by decide +kernel
theorem dX4_readGesture_29 : decode cX4_readGesture 29 = .ok (.invokestatic 46, 3) := by decide +kernel
theorem dX4_readGesture_32 : decode cX4_readGesture 32 = .ok (.iastore, 1) := by decide +kernel
theorem dX4_readGesture_33 : decode cX4_readGesture 33 = .ok (.aload_n 0, 1) := by decide +kernel
theorem dX4_readGesture_34 : decode cX4_readGesture 34 = .ok (.dup, 1) := by decide +kernel
theorem dX4_readGesture_35 : decode cX4_readGesture 35 = .ok (.getfield 28, 3) := by decide +kernel
theorem dX4_readGesture_38 : decode cX4_readGesture 38 = .ok (.iconst 1, 1) := by decide +kernel
theorem dX4_readGesture_39 : decode cX4_readGesture 39 = .ok (.iadd, 1) := by decide +kernel
theorem dX4_readGesture_40 : decode cX4_readGesture 40 = .ok (.putfield 28, 3) := by decide +kernel
theorem dX4_readGesture_43 : decode cX4_readGesture 43 = .ok (.aload_n 1, 1) := by decide +kernel
theorem dX4_readGesture_44 : decode cX4_readGesture 44 = .ok (.getfield 86, 3) := by decide +kernel
theorem dX4_readGesture_47 : decode cX4_readGesture 47 = .ok (.iload_n 2, 1) := by decide +kernel
theorem dX4_readGesture_48 : decode cX4_readGesture 48 = .ok (.aload_n 0, 1) := by decide +kernel
theorem dX4_readGesture_49 : decode cX4_readGesture 49 = .ok (.iconst 1, 1) := by decide +kernel
theorem dX4_readGesture_50 : decode cX4_readGesture 50 = .ok (.bipush 30, 2) := by decide +kernel
theorem dX4_readGesture_52 : decode cX4_readGesture 52 = .ok (.invokevirtual 62, 3) := by decide +kernel
theorem dX4_readGesture_55 : decode cX4_readGesture 55 = .ok (.iastore, 1) := by decide +kernel
theorem dX4_readGesture_56 : decode cX4_readGesture 56 = .ok (.aload_n 0, 1) := by decide +kernel
theorem dX4_readGesture_57 : decode cX4_readGesture 57 = .ok (.bipush 44, 2) := by decide +kernel
theorem dX4_readGesture_59 : decode cX4_readGesture 59 = .ok (.invokevirtual 59, 3) := by decide +kernel
theorem dX4_readGesture_62 : decode cX4_readGesture 62 = .ok (.aload_n 1, 1) := by decide +kernel
theorem dX4_readGesture_63 : decode cX4_readGesture 63 = .ok (.getfield 89, 3) := by decide +kernel
theorem dX4_readGesture_66 : decode cX4_readGesture 66 = .ok (.iload_n 2, 1) := by decide +kernel
theorem dX4_readGesture_67 : decode cX4_readGesture 67 = .ok (.aload_n 0, 1) := by decide +kernel
theorem dX4_readGesture_68 : decode cX4_readGesture 68 = .ok (.iconst 0, 1) := by decide +kernel
theorem dX4_readGesture_69 : decode cX4_readGesture 69 = .ok (.iconst 3, 1) := by decide +kernel
theorem dX4_readGesture_70 : decode cX4_readGesture 70 = .ok (.invokevirtual 62, 3) := by decide +kernel
theorem dX4_readGesture_73 : decode cX4_readGesture 73 = .ok (.iastore, 1) := by decide +kernel
theorem dX4_readGesture_74 : decode cX4_readGesture 74 = .ok (.aload_n 0, 1) := by decide +kernel
theorem dX4_readGesture_75 : decode cX4_readGesture 75 = .ok (.bipush 44, 2) := by decide +kernel
theorem dX4_readGesture_77 : decode cX4_readGesture 77 = .ok (.invokevirtual 59, 3) := by decide +kernel
theorem dX4_readGesture_80 : decode cX4_readGesture 80 = .ok (.aload_n 1, 1) := by decide +kernel
theorem dX4_readGesture_81 : decode cX4_readGesture 81 = .ok (.getfield 92, 3) := by decide +kernel
theorem dX4_readGesture_84 : decode cX4_readGesture 84 = .ok (.iload_n 2, 1) := by decide +kernel
theorem dX4_readGesture_85 : decode cX4_readGesture 85 = .ok (.aload_n 0, 1) := by decide +kernel
theorem dX4_readGesture_86 : decode cX4_readGesture 86 = .ok (.iconst 1, 1) := by decide +kernel
theorem dX4_readGesture_87 : decode cX4_readGesture 87 = .ok (.bipush 9, 2) := by decide +kernel
theorem dX4_readGesture_89 : decode cX4_readGesture 89 = .ok (.invokevirtual 62, 3) := by decide +kernel
theorem dX4_readGesture_92 : decode cX4_readGesture 92 = .ok (.iastore, 1) := by decide +kernel
theorem dX4_readGesture_93 : decode cX4_readGesture 93 = .ok (.aload_n 0, 1) := by decide +kernel
theorem dX4_readGesture_94 : decode cX4_readGesture 94 = .ok (.bipush 59, 2) := by decide +kernel
theorem dX4_readGesture_96 : decode cX4_readGesture 96 = .ok (.invokevirtual 59, 3) := by decide +kernel
theorem dX4_readGesture_99 : decode cX4_readGesture 99 = .ok (.aload_n 1, 1) := by decide +kernel
theorem dX4_readGesture_100 : decode cX4_readGesture 100 = .ok (.getfield 95, 3) := by decide +kernel
theorem dX4_readGesture_103 : decode cX4_readGesture 103 = .ok (.iload_n 2, 1) := by decide +kernel
theorem dX4_readGesture_104 : decode cX4_readGesture 104 = .ok (.iconst 0, 1) := by decide +kernel
theorem dX4_readGesture_105 : decode cX4_readGesture 105 = .ok (.iastore, 1) := by decide +kernel
theorem dX4_readGesture_106 : decode cX4_readGesture 106 = .ok (.aload_n 1, 1) := by decide +kernel
theorem dX4_readGesture_107 : decode cX4_readGesture 107 = .ok (.dup, 1) := by decide +kernel
theorem dX4_readGesture_108 : decode cX4_readGesture 108 = .ok (.getfield 80, 3) := by decide +kernel
theorem dX4_readGesture_111 : decode cX4_readGesture 111 = .ok (.iconst 1, 1) := by decide +kernel
theorem dX4_readGesture_112 : decode cX4_readGesture 112 = .ok (.iadd, 1) := by decide +kernel
theorem dX4_readGesture_113 : decode cX4_readGesture 113 = .ok (.putfield 80, 3) := by decide +kernel
theorem dX4_readGesture_116 : decode cX4_readGesture 116 = .ok (.return_, 1) := by decide +kernel
theorem dX4_next_0 : decode cX4_next 0 = .ok (.aload_n 0, 1) := by decide +kernel
theorem dX4_next_1 : decode cX4_next 1 = .ok (.getfield 28, 3) := by decide +kernel
theorem dX4_next_4 : decode cX4_next 4 = .ok (.ifCond .lt 35, 3) := by decide +kernel
theorem dX4_next_7 : decode cX4_next 7 = .ok (.aload_n 0, 1) := by decide +kernel
theorem dX4_next_8 : decode cX4_next 8 = .ok (.getfield 28, 3) := by decide +kernel
theorem dX4_next_11 : decode cX4_next 11 = .ok (.aload_n 0, 1) := by decide +kernel
theorem dX4_next_12 : decode cX4_next 12 = .ok (.getfield 15, 3) := by decide +kernel
theorem dX4_next_15 : decode cX4_next 15 = .ok (.if_icmp .ge 24, 3) := by decide +kernel
theorem dX4_next_18 : decode cX4_next 18 = .ok (.aload_n 0, 1) := by decide +kernel
theorem dX4_next_19 : decode cX4_next 19 = .ok (.getfield 28, 3) := by decide +kernel
theorem dX4_next_22 : decode cX4_next 22 = .ok (.bipush 120, 2) := by decide +kernel
theorem dX4_next_24 : decode cX4_next 24 = .ok (.if_icmp .ge 15, 3) := by decide +kernel
theorem dX4_next_27 : decode cX4_next 27 = .ok (.aload_n 0, 1) := by decide +kernel
theorem dX4_next_28 : decode cX4_next 28 = .ok (.getfield 11, 3) := by decide +kernel
theorem dX4_next_31 : decode cX4_next 31 = .ok (.aload_n 0, 1) := by decide +kernel
theorem dX4_next_32 : decode cX4_next 32 = .ok (.getfield 28, 3) := by decide +kernel
theorem dX4_next_35 : decode cX4_next 35 = .ok (.iaload, 1) := by decide +kernel
theorem dX4_next_36 : decode cX4_next 36 = .ok (.goto 4, 3) := by decide +kernel
theorem dX4_next_39 : decode cX4_next 39 = .ok (.iconst (-1), 1) := by decide +kernel
theorem dX4_next_40 : decode cX4_next 40 = .ok (.ireturn, 1) := by decide +kernel
set_option maxRecDepth 20000 in
theorem ggX4_readSign_X4_next : GoodIn wsX4_readSign wsX4_next := goodIn_r _ [6, 1, 7, 8, 20, 21, 22, 23, 24, 25] (by decide +kernel) (by decide +kernel)
set_option maxRecDepth 20000 in
theorem gX4_readSign_X4_next : GoodIn wsX4_readSign (wsV RX4 39 RX4 yX4_next wsX4_next) := goodIn_app (goodIn_of _ (by decide +kernel)) ggX4_readSign_X4_next
set_option maxRecDepth 20000 in
theorem ggX4_readSign_X4_fail : GoodIn wsX4_readSign wsX4_fail := goodIn_r _ [12, 1, 13, 14, 15, 5, 16, 17, 18, 19, 20, 21, 22, 23, 24, 25] (by decide +kernel) (by decide +kernel)
set_option maxRecDepth 20000 in
theorem gX4_readSign_X4_fail : GoodIn wsX4_readSign (wsV RX4 55 RX4 yX4_fail wsX4_fail) := goodIn_app (goodIn_of _ (by decide +kernel)) ggX4_readSign_X4_fail
theorem dX4_readSign_0 : decode cX4_readSign 0 = .ok (.aload_n 0, 1) := by decide +kernel
theorem dX4_readSign_1 : decode cX4_readSign 1 = .ok (.invokevirtual 39, 3) := by decide +kernel
theorem dX4_readSign_4 : decode cX4_readSign 4 = .ok (.iload_n 1, 1) := by decide +kernel
theorem dX4_readSign_5 : decode cX4_readSign 5 = .ok (.if_icmp .eq 8, 3) := by decide +kernel
theorem dX4_readSign_8 : decode cX4_readSign 8 = .ok (.aload_n 0, 1) := by decide +kernel
theorem dX4_readSign_9 : decode cX4_readSign 9 = .ok (.iconst 1, 1) := by decide +kernel
theorem dX4_readSign_10 : decode cX4_readSign 10 = .ok (.invokevirtual 55, 3) := by decide +kernel
theorem dX4_readSign_13 : decode cX4_readSign 13 = .ok (.aload_n 0, 1) := by decide +kernel
theorem dX4_readSign_14 : decode cX4_readSign 14 = .ok (.dup, 1) := by decide +kernel
theorem dX4_readSign_15 : decode cX4_readSign 15 = .ok (.getfield 28, 3) := by decide +kernel
theorem dX4_readSign_18 : decode cX4_readSign 18 = .ok (.iconst 1, 1) := by decide +kernel
theorem dX4_readSign_19 : decode cX4_readSign 19 = .ok (.iadd, 1) := by decide +kernel
theorem dX4_readSign_20 : decode cX4_readSign 20 = .ok (.putfield 28, 3) := by decide +kernel
theorem dX4_readSign_23 : decode cX4_readSign 23 = .ok (.return_, 1) := by decide +kernel
set_option maxRecDepth 20000 in
theorem ggX4_readNumber_X4_next : GoodIn wsX4_readNumber wsX4_next := goodIn_r _ [6, 1, 7, 8, 19, 20, 21, 22, 23, 24] (by decide +kernel) (by decide +kernel)
set_option maxRecDepth 20000 in
theorem gX4_readNumber_X4_next : GoodIn wsX4_readNumber (wsV RX4 39 RX4 yX4_next wsX4_next) := goodIn_app (goodIn_of _ (by decide +kernel)) ggX4_readNumber_X4_next
set_option maxRecDepth 20000 in
theorem ggX4_readNumber_X7_isWithin : GoodIn wsX4_readNumber wsX7_isWithin := goodIn_r _ [11] (by decide +kernel) (by decide +kernel)
set_option maxRecDepth 20000 in
theorem gX4_readNumber_X7_isWithin_n98 : GoodIn wsX4_readNumber (wsX7_isWithin) := ggX4_readNumber_X7_isWithin
set_option maxRecDepth 20000 in
theorem ggX4_readNumber_X4_failAt : GoodIn wsX4_readNumber wsX4_failAt := goodIn_r _ [15, 16, 17, 18, 19, 20, 21, 22, 23, 24] (by decide +kernel) (by decide +kernel)
set_option maxRecDepth 20000 in
theorem gX4_readNumber_X4_failAt : GoodIn wsX4_readNumber (wsV RX4 102 RX4 yX4_failAt wsX4_failAt) := goodIn_app (goodIn_of _ (by decide +kernel)) ggX4_readNumber_X4_failAt
theorem dX4_readNumber_0 : decode cX4_readNumber 0 = .ok (.iconst 0, 1) := by decide +kernel
theorem dX4_readNumber_1 : decode cX4_readNumber 1 = .ok (.istore_n 3, 1) := by decide +kernel
theorem dX4_readNumber_2 : decode cX4_readNumber 2 = .ok (.iconst 0, 1) := by decide +kernel
theorem dX4_readNumber_3 : decode cX4_readNumber 3 = .ok (.istore 4, 2) := by decide +kernel
theorem dX4_readNumber_5 : decode cX4_readNumber 5 = .ok (.aload_n 0, 1) := by decide +kernel
theorem dX4_readNumber_6 : decode cX4_readNumber 6 = .ok (.getfield 28, 3) := by decide +kernel
theorem dX4_readNumber_9 : decode cX4_readNumber 9 = .ok (.istore 5, 2) := by decide +kernel
theorem dX4_readNumber_11 : decode cX4_readNumber 11 = .ok (.iconst 0, 1) := by decide +kernel
theorem dX4_readNumber_12 : decode cX4_readNumber 12 = .ok (.istore 6, 2) := by decide +kernel
theorem dX4_readNumber_14 : decode cX4_readNumber 14 = .ok (.iload 6, 2) := by decide +kernel
theorem dX4_readNumber_16 : decode cX4_readNumber 16 = .ok (.bipush 120, 2) := by decide +kernel
theorem dX4_readNumber_18 : decode cX4_readNumber 18 = .ok (.if_icmp .ge 61, 3) := by decide +kernel
theorem dX4_readNumber_21 : decode cX4_readNumber 21 = .ok (.aload_n 0, 1) := by decide +kernel
theorem dX4_readNumber_22 : decode cX4_readNumber 22 = .ok (.invokevirtual 39, 3) := by decide +kernel
theorem dX4_readNumber_25 : decode cX4_readNumber 25 = .ok (.bipush 48, 2) := by decide +kernel
theorem dX4_readNumber_27 : decode cX4_readNumber 27 = .ok (.bipush 57, 2) := by decide +kernel
theorem dX4_readNumber_29 : decode cX4_readNumber 29 = .ok (.invokestatic 98, 3) := by decide +kernel
theorem dX4_readNumber_32 : decode cX4_readNumber 32 = .ok (.ifCond .eq 47, 3) := by decide +kernel
theorem dX4_readNumber_35 : decode cX4_readNumber 35 = .ok (.iload_n 3, 1) := by decide +kernel
theorem dX4_readNumber_36 : decode cX4_readNumber 36 = .ok (.iconst 2, 1) := by decide +kernel
theorem dX4_readNumber_37 : decode cX4_readNumber 37 = .ok (.if_icmp .ge 19, 3) := by decide +kernel
theorem dX4_readNumber_40 : decode cX4_readNumber 40 = .ok (.iload 4, 2) := by decide +kernel
theorem dX4_readNumber_42 : decode cX4_readNumber 42 = .ok (.bipush 10, 2) := by decide +kernel
theorem dX4_readNumber_44 : decode cX4_readNumber 44 = .ok (.imul, 1) := by decide +kernel
theorem dX4_readNumber_45 : decode cX4_readNumber 45 = .ok (.aload_n 0, 1) := by decide +kernel
theorem dX4_readNumber_46 : decode cX4_readNumber 46 = .ok (.invokevirtual 39, 3) := by decide +kernel
theorem dX4_readNumber_49 : decode cX4_readNumber 49 = .ok (.iadd, 1) := by decide +kernel
theorem dX4_readNumber_50 : decode cX4_readNumber 50 = .ok (.bipush 48, 2) := by decide +kernel
theorem dX4_readNumber_52 : decode cX4_readNumber 52 = .ok (.isub, 1) := by decide +kernel
theorem dX4_readNumber_53 : decode cX4_readNumber 53 = .ok (.goto 5, 3) := by decide +kernel
theorem dX4_readNumber_56 : decode cX4_readNumber 56 = .ok (.iload 4, 2) := by decide +kernel
theorem dX4_readNumber_58 : decode cX4_readNumber 58 = .ok (.istore 4, 2) := by decide +kernel
theorem dX4_readNumber_60 : decode cX4_readNumber 60 = .ok (.iinc 3 1, 3) := by decide +kernel
theorem dX4_readNumber_63 : decode cX4_readNumber 63 = .ok (.aload_n 0, 1) := by decide +kernel
theorem dX4_readNumber_64 : decode cX4_readNumber 64 = .ok (.dup, 1) := by decide +kernel
theorem dX4_readNumber_65 : decode cX4_readNumber 65 = .ok (.getfield 28, 3) := by decide +kernel
theorem dX4_readNumber_68 : decode cX4_readNumber 68 = .ok (.iconst 1, 1) := by decide +kernel
theorem dX4_readNumber_69 : decode cX4_readNumber 69 = .ok (.iadd, 1) := by decide +kernel
theorem dX4_readNumber_70 : decode cX4_readNumber 70 = .ok (.putfield 28, 3) := by decide +kernel
theorem dX4_readNumber_73 : decode cX4_readNumber 73 = .ok (.iinc 6 1, 3) := by decide +kernel
theorem dX4_readNumber_76 : decode cX4_readNumber 76 = .ok (.goto (-62), 3) := by decide +kernel
theorem dX4_readNumber_79 : decode cX4_readNumber 79 = .ok (.iload_n 3, 1) := by decide +kernel
theorem dX4_readNumber_80 : decode cX4_readNumber 80 = .ok (.ifCond .eq 8, 3) := by decide +kernel
theorem dX4_readNumber_83 : decode cX4_readNumber 83 = .ok (.iload_n 3, 1) := by decide +kernel
theorem dX4_readNumber_84 : decode cX4_readNumber 84 = .ok (.iconst 2, 1) := by decide +kernel
theorem dX4_readNumber_85 : decode cX4_readNumber 85 = .ok (.if_icmp .le 13, 3) := by decide +kernel
theorem dX4_readNumber_88 : decode cX4_readNumber 88 = .ok (.aload_n 0, 1) := by decide +kernel
theorem dX4_readNumber_89 : decode cX4_readNumber 89 = .ok (.iload 5, 2) := by decide +kernel
theorem dX4_readNumber_91 : decode cX4_readNumber 91 = .ok (.iconst 1, 1) := by decide +kernel
theorem dX4_readNumber_92 : decode cX4_readNumber 92 = .ok (.invokevirtual 102, 3) := by decide +kernel
theorem dX4_readNumber_95 : decode cX4_readNumber 95 = .ok (.goto 20, 3) := by decide +kernel
theorem dX4_readNumber_98 : decode cX4_readNumber 98 = .ok (.iload 4, 2) := by decide +kernel
theorem dX4_readNumber_100 : decode cX4_readNumber 100 = .ok (.iload_n 1, 1) := by decide +kernel
theorem dX4_readNumber_101 : decode cX4_readNumber 101 = .ok (.iload_n 2, 1) := by decide +kernel
theorem dX4_readNumber_102 : decode cX4_readNumber 102 = .ok (.invokestatic 98, 3) := by decide +kernel
theorem dX4_readNumber_105 : decode cX4_readNumber 105 = .ok (.ifCond .ne 10, 3) := by decide +kernel
theorem dX4_readNumber_108 : decode cX4_readNumber 108 = .ok (.aload_n 0, 1) := by decide +kernel
theorem dX4_readNumber_109 : decode cX4_readNumber 109 = .ok (.iload 5, 2) := by decide +kernel
theorem dX4_readNumber_111 : decode cX4_readNumber 111 = .ok (.iconst 2, 1) := by decide +kernel
theorem dX4_readNumber_112 : decode cX4_readNumber 112 = .ok (.invokevirtual 102, 3) := by decide +kernel
theorem dX4_readNumber_115 : decode cX4_readNumber 115 = .ok (.iload 4, 2) := by decide +kernel
theorem dX4_readNumber_117 : decode cX4_readNumber 117 = .ok (.ireturn, 1) := by decide +kernel
set_option maxRecDepth 20000 in
theorem ggX4_fail_X4_failAt : GoodIn wsX4_fail wsX4_failAt := goodIn_r _ [6, 7, 8, 9, 10, 11, 12, 13, 14, 15] (by decide +kernel) (by decide +kernel)
set_option maxRecDepth 20000 in
theorem gX4_fail_X4_failAt : GoodIn wsX4_fail (wsV RX4 102 RX4 yX4_failAt wsX4_failAt) := goodIn_app (goodIn_of _ (by decide +kernel)) ggX4_fail_X4_failAt
theorem dX4_fail_0 : decode cX4_fail 0 = .ok (.aload_n 0, 1) := by decide +kernel
theorem dX4_fail_1 : decode cX4_fail 1 = .ok (.aload_n 0, 1) := by decide +kernel
theorem dX4_fail_2 : decode cX4_fail 2 = .ok (.getfield 28, 3) := by decide +kernel
theorem dX4_fail_5 : decode cX4_fail 5 = .ok (.iload_n 1, 1) := by decide +kernel
theorem dX4_fail_6 : decode cX4_fail 6 = .ok (.invokevirtual 102, 3) := by decide +kernel
theorem dX4_fail_9 : decode cX4_fail 9 = .ok (.return_, 1) := by decide +kernel
theorem dX4_failAt_0 : decode cX4_failAt 0 = .ok (.aload_n 0, 1) := by decide +kernel
theorem dX4_failAt_1 : decode cX4_failAt 1 = .ok (.getfield 25, 3) := by decide +kernel
theorem dX4_failAt_4 : decode cX4_failAt 4 = .ok (.ifCond .ne 18, 3) := by decide +kernel
theorem dX4_failAt_7 : decode cX4_failAt 7 = .ok (.aload_n 0, 1) := by decide +kernel
theorem dX4_failAt_8 : decode cX4_failAt 8 = .ok (.iload_n 2, 1) := by decide +kernel
theorem dX4_failAt_9 : decode cX4_failAt 9 = .ok (.putfield 25, 3) := by decide +kernel
theorem dX4_failAt_12 : decode cX4_failAt 12 = .ok (.aload_n 0, 1) := by decide +kernel
theorem dX4_failAt_13 : decode cX4_failAt 13 = .ok (.iload_n 2, 1) := by decide +kernel
theorem dX4_failAt_14 : decode cX4_failAt 14 = .ok (.putfield 19, 3) := by decide +kernel
theorem dX4_failAt_17 : decode cX4_failAt 17 = .ok (.aload_n 0, 1) := by decide +kernel
theorem dX4_failAt_18 : decode cX4_failAt 18 = .ok (.iload_n 1, 1) := by decide +kernel
theorem dX4_failAt_19 : decode cX4_failAt 19 = .ok (.putfield 22, 3) := by decide +kernel
theorem dX4_failAt_22 : decode cX4_failAt 22 = .ok (.return_, 1) := by decide +kernel
theorem dX5_init_0 : decode cX5_init 0 = .ok (.aload_n 0, 1) := by decide +kernel
theorem dX5_init_1 : decode cX5_init 1 = .ok (.invokespecial 3, 3) := by decide +kernel
theorem dX5_init_4 : decode cX5_init 4 = .ok (.aload_n 0, 1) := by decide +kernel
theorem dX5_init_5 : decode cX5_init 5 = .ok (.bipush 8, 2) := by decide +kernel
theorem dX5_init_7 : decode cX5_init 7 = .ok (.bipush 40, 2) := by decide +kernel
theorem dX5_init_9 : decode cX5_init 9 = .ok (.multianewarray 11 2, 4) := by decide +kernel
theorem dX5_init_13 : decode cX5_init 13 = .ok (.putfield 13, 3) := by decide +kernel
theorem dX5_init_16 : decode cX5_init 16 = .ok (.aload_n 0, 1) := by decide +kernel
theorem dX5_init_17 : decode cX5_init 17 = .ok (.bipush 8, 2) := by decide +kernel
theorem dX5_init_19 : decode cX5_init 19 = .ok (.newarray .int, 2) := by decide +kernel
theorem dX5_init_21 : decode cX5_init 21 = .ok (.dup, 1) := by decide +kernel
theorem dX5_init_22 : decode cX5_init 22 = .ok (.iconst 0, 1) := by decide +kernel
theorem dX5_init_23 : decode cX5_init 23 = .ok (.iconst (-1), 1) := by decide +kernel
theorem dX5_init_24 : decode cX5_init 24 = .ok (.iastore, 1) := by decide +kernel
theorem dX5_init_25 : decode cX5_init 25 = .ok (.dup, 1) := by decide +kernel
theorem dX5_init_26 : decode cX5_init 26 = .ok (.iconst 1, 1) := by decide +kernel
theorem dX5_init_27 : decode cX5_init 27 = .ok (.iconst (-1), 1) := by decide +kernel
theorem dX5_init_28 : decode cX5_init 28 = .ok (.iastore, 1) := by decide +kernel
theorem dX5_init_29 : decode cX5_init 29 = .ok (.dup, 1) := by decide +kernel
theorem dX5_init_30 : decode cX5_init 30 = .ok (.iconst 2, 1) := by decide +kernel
theorem dX5_init_31 : decode cX5_init 31 = .ok (.iconst (-1), 1) := by decide +kernel
theorem dX5_init_32 : decode cX5_init 32 = .ok (.iastore, 1) := by decide +kernel
theorem dX5_init_33 : decode cX5_init 33 = .ok (.dup, 1) := by decide +kernel
theorem dX5_init_34 : decode cX5_init 34 = .ok (.iconst 3, 1) := by decide +kernel
theorem dX5_init_35 : decode cX5_init 35 = .ok (.iconst (-1), 1) := by decide +kernel
theorem dX5_init_36 : decode cX5_init 36 = .ok (.iastore, 1) := by decide +kernel
theorem dX5_init_37 : decode cX5_init 37 = .ok (.dup, 1) := by decide +kernel
theorem dX5_init_38 : decode cX5_init 38 = .ok (.iconst 4, 1) := by decide +kernel
theorem dX5_init_39 : decode cX5_init 39 = .ok (.iconst (-1), 1) := by decide +kernel
theorem dX5_init_40 : decode cX5_init 40 = .ok (.iastore, 1) := by decide +kernel
theorem dX5_init_41 : decode cX5_init 41 = .ok (.dup, 1) := by decide +kernel
theorem dX5_init_42 : decode cX5_init 42 = .ok (.iconst 5, 1) := by decide +kernel
theorem dX5_init_43 : decode cX5_init 43 = .ok (.iconst (-1), 1) := by decide +kernel
theorem dX5_init_44 : decode cX5_init 44 = .ok (.iastore, 1) := by decide +kernel
theorem dX5_init_45 : decode cX5_init 45 = .ok (.dup, 1) := by decide +kernel
theorem dX5_init_46 : decode cX5_init 46 = .ok (.bipush 6, 2) := by decide +kernel
theorem dX5_init_48 : decode cX5_init 48 = .ok (.iconst (-1), 1) := by decide +kernel
theorem dX5_init_49 : decode cX5_init 49 = .ok (.iastore, 1) := by decide +kernel
theorem dX5_init_50 : decode cX5_init 50 = .ok (.dup, 1) := by decide +kernel
theorem dX5_init_51 : decode cX5_init 51 = .ok (.bipush 7, 2) := by decide +kernel
theorem dX5_init_53 : decode cX5_init 53 = .ok (.iconst (-1), 1) := by decide +kernel
theorem dX5_init_54 : decode cX5_init 54 = .ok (.iastore, 1) := by decide +kernel
theorem dX5_init_55 : decode cX5_init 55 = .ok (.putfield 16, 3) := by decide +kernel
theorem dX5_init_58 : decode cX5_init 58 = .ok (.aload_n 0, 1) := by decide +kernel
theorem dX5_init_59 : decode cX5_init 59 = .ok (.bipush 8, 2) := by decide +kernel
theorem dX5_init_61 : decode cX5_init 61 = .ok (.newarray .int, 2) := by decide +kernel
theorem dX5_init_63 : decode cX5_init 63 = .ok (.putfield 20, 3) := by decide +kernel
theorem dX5_init_66 : decode cX5_init 66 = .ok (.return_, 1) := by decide +kernel
theorem dX5_isRow_0 : decode cX5_isRow 0 = .ok (.iload_n 0, 1) := by decide +kernel
theorem dX5_isRow_1 : decode cX5_isRow 1 = .ok (.ifCond .lt 13, 3) := by decide +kernel
theorem dX5_isRow_4 : decode cX5_isRow 4 = .ok (.iload_n 0, 1) := by decide +kernel
theorem dX5_isRow_5 : decode cX5_isRow 5 = .ok (.bipush 8, 2) := by decide +kernel
theorem dX5_isRow_7 : decode cX5_isRow 7 = .ok (.if_icmp .ge 7, 3) := by decide +kernel
theorem dX5_isRow_10 : decode cX5_isRow 10 = .ok (.iconst 1, 1) := by decide +kernel
theorem dX5_isRow_11 : decode cX5_isRow 11 = .ok (.goto 4, 3) := by decide +kernel
theorem dX5_isRow_14 : decode cX5_isRow 14 = .ok (.iconst 0, 1) := by decide +kernel
theorem dX5_isRow_15 : decode cX5_isRow 15 = .ok (.ireturn, 1) := by decide +kernel
theorem dX5_isMissing_0 : decode cX5_isMissing 0 = .ok (.aload_n 0, 1) := by decide +kernel
theorem dX5_isMissing_1 : decode cX5_isMissing 1 = .ok (.getfield 16, 3) := by decide +kernel
theorem dX5_isMissing_4 : decode cX5_isMissing 4 = .ok (.iload_n 1, 1) := by decide +kernel
theorem dX5_isMissing_5 : decode cX5_isMissing 5 = .ok (.iaload, 1) := by decide +kernel
theorem dX5_isMissing_6 : decode cX5_isMissing 6 = .ok (.iconst (-1), 1) := by decide +kernel
theorem dX5_isMissing_7 : decode cX5_isMissing 7 = .ok (.if_icmp .ne 7, 3) := by decide +kernel
theorem dX5_isMissing_10 : decode cX5_isMissing 10 = .ok (.iconst 1, 1) := by decide +kernel
theorem dX5_isMissing_11 : decode cX5_isMissing 11 = .ok (.goto 4, 3) := by decide +kernel
theorem dX5_isMissing_14 : decode cX5_isMissing 14 = .ok (.iconst 0, 1) := by decide +kernel
theorem dX5_isMissing_15 : decode cX5_isMissing 15 = .ok (.ireturn, 1) := by decide +kernel
theorem dX5_areAlike_0 : decode cX5_areAlike 0 = .ok (.aload_n 0, 1) := by decide +kernel
theorem dX5_areAlike_1 : decode cX5_areAlike 1 = .ok (.getfield 20, 3) := by decide +kernel
theorem dX5_areAlike_4 : decode cX5_areAlike 4 = .ok (.iload_n 1, 1) := by decide +kernel
theorem dX5_areAlike_5 : decode cX5_areAlike 5 = .ok (.iaload, 1) := by decide +kernel
theorem dX5_areAlike_6 : decode cX5_areAlike 6 = .ok (.aload_n 0, 1) := by decide +kernel
theorem dX5_areAlike_7 : decode cX5_areAlike 7 = .ok (.getfield 20, 3) := by decide +kernel
theorem dX5_areAlike_10 : decode cX5_areAlike 10 = .ok (.iload_n 2, 1) := by decide +kernel
theorem dX5_areAlike_11 : decode cX5_areAlike 11 = .ok (.iaload, 1) := by decide +kernel
theorem dX5_areAlike_12 : decode cX5_areAlike 12 = .ok (.if_icmp .ne 7, 3) := by decide +kernel
theorem dX5_areAlike_15 : decode cX5_areAlike 15 = .ok (.iconst 1, 1) := by decide +kernel
theorem dX5_areAlike_16 : decode cX5_areAlike 16 = .ok (.goto 4, 3) := by decide +kernel
theorem dX5_areAlike_19 : decode cX5_areAlike 19 = .ok (.iconst 0, 1) := by decide +kernel
theorem dX5_areAlike_20 : decode cX5_areAlike 20 = .ok (.ireturn, 1) := by decide +kernel
theorem dX5_reaches_0 : decode cX5_reaches 0 = .ok (.iload_n 2, 1) := by decide +kernel
theorem dX5_reaches_1 : decode cX5_reaches 1 = .ok (.ifCond .lt 33, 3) := by decide +kernel
theorem dX5_reaches_4 : decode cX5_reaches 4 = .ok (.iload_n 3, 1) := by decide +kernel
theorem dX5_reaches_5 : decode cX5_reaches 5 = .ok (.ifCond .lt 29, 3) := by decide +kernel
theorem dX5_reaches_8 : decode cX5_reaches 8 = .ok (.iload_n 3, 1) := by decide +kernel
theorem dX5_reaches_9 : decode cX5_reaches 9 = .ok (.aload_n 0, 1) := by decide +kernel
theorem dX5_reaches_10 : decode cX5_reaches 10 = .ok (.getfield 16, 3) := by decide +kernel
theorem dX5_reaches_13 : decode cX5_reaches 13 = .ok (.iload_n 1, 1) := by decide +kernel
theorem dX5_reaches_14 : decode cX5_reaches 14 = .ok (.iaload, 1) := by decide +kernel
theorem dX5_reaches_15 : decode cX5_reaches 15 = .ok (.if_icmp .gt 19, 3) := by decide +kernel
theorem dX5_reaches_18 : decode cX5_reaches 18 = .ok (.iload_n 2, 1) := by decide +kernel
theorem dX5_reaches_19 : decode cX5_reaches 19 = .ok (.aload_n 0, 1) := by decide +kernel
theorem dX5_reaches_20 : decode cX5_reaches 20 = .ok (.getfield 16, 3) := by decide +kernel
theorem dX5_reaches_23 : decode cX5_reaches 23 = .ok (.iload_n 1, 1) := by decide +kernel
theorem dX5_reaches_24 : decode cX5_reaches 24 = .ok (.iaload, 1) := by decide +kernel
theorem dX5_reaches_25 : decode cX5_reaches 25 = .ok (.iload_n 3, 1) := by decide +kernel
theorem dX5_reaches_26 : decode cX5_reaches 26 = .ok (.isub, 1) := by decide +kernel
theorem dX5_reaches_27 : decode cX5_reaches 27 = .ok (.if_icmp .gt 7, 3) := by decide +kernel
theorem dX5_reaches_30 : decode cX5_reaches 30 = .ok (.iconst 1, 1) := by decide +kernel
theorem dX5_reaches_31 : decode cX5_reaches 31 = .ok (.goto 4, 3) := by decide +kernel
theorem dX5_reaches_34 : decode cX5_reaches 34 = .ok (.iconst 0, 1) := by decide +kernel
theorem dX5_reaches_35 : decode cX5_reaches 35 = .ok (.ireturn, 1) := by decide +kernel
set_option maxRecDepth 20000 in
theorem ggX5_findingOf_X5_isMissing : GoodIn wsX5_findingOf wsX5_isMissing := goodIn_r _ [5, 6, 11, 12, 13] (by decide +kernel) (by decide +kernel)
set_option maxRecDepth 20000 in
theorem gX5_findingOf_X5_isMissing : GoodIn wsX5_findingOf (wsV RX5 23 RX5 yX5_isMissing wsX5_isMissing) := goodIn_app (goodIn_of _ (by decide +kernel)) ggX5_findingOf_X5_isMissing
set_option maxRecDepth 20000 in
theorem ggX5_findingOf_X5_reaches : GoodIn wsX5_findingOf wsX5_reaches := goodIn_r _ [10, 6, 11, 12, 13] (by decide +kernel) (by decide +kernel)
set_option maxRecDepth 20000 in
theorem gX5_findingOf_X5_reaches : GoodIn wsX5_findingOf (wsV RX5 27 RX5 yX5_reaches wsX5_reaches) := goodIn_app (goodIn_of _ (by decide +kernel)) ggX5_findingOf_X5_reaches
theorem dX5_findingOf_0 : decode cX5_findingOf 0 = .ok (.aload_n 0, 1) := by decide +kernel
theorem dX5_findingOf_1 : decode cX5_findingOf 1 = .ok (.iload_n 1, 1) := by decide +kernel
theorem dX5_findingOf_2 : decode cX5_findingOf 2 = .ok (.invokevirtual 23, 3) := by decide +kernel
theorem dX5_findingOf_5 : decode cX5_findingOf 5 = .ok (.ifCond .eq 5, 3) := by decide +kernel
theorem dX5_findingOf_8 : decode cX5_findingOf 8 = .ok (.iconst 1, 1) := by decide +kernel
theorem dX5_findingOf_9 : decode cX5_findingOf 9 = .ok (.ireturn, 1) := by decide +kernel
theorem dX5_findingOf_10 : decode cX5_findingOf 10 = .ok (.aload_n 0, 1) := by decide +kernel
theorem dX5_findingOf_11 : decode cX5_findingOf 11 = .ok (.iload_n 1, 1) := by decide +kernel
theorem dX5_findingOf_12 : decode cX5_findingOf 12 = .ok (.iload_n 2, 1) := by decide +kernel
theorem dX5_findingOf_13 : decode cX5_findingOf 13 = .ok (.iload_n 3, 1) := by decide +kernel
theorem dX5_findingOf_14 : decode cX5_findingOf 14 = .ok (.invokevirtual 27, 3) := by decide +kernel
theorem dX5_findingOf_17 : decode cX5_findingOf 17 = .ok (.ifCond .eq 7, 3) := by decide +kernel
theorem dX5_findingOf_20 : decode cX5_findingOf 20 = .ok (.iconst 0, 1) := by decide +kernel
theorem dX5_findingOf_21 : decode cX5_findingOf 21 = .ok (.goto 4, 3) := by decide +kernel
theorem dX5_findingOf_24 : decode cX5_findingOf 24 = .ok (.iconst 2, 1) := by decide +kernel
theorem dX5_findingOf_25 : decode cX5_findingOf 25 = .ok (.ireturn, 1) := by decide +kernel
theorem dX5_lay_0 : decode cX5_lay 0 = .ok (.aload_n 0, 1) := by decide +kernel
theorem dX5_lay_1 : decode cX5_lay 1 = .ok (.getfield 16, 3) := by decide +kernel
theorem dX5_lay_4 : decode cX5_lay 4 = .ok (.iload_n 1, 1) := by decide +kernel
theorem dX5_lay_5 : decode cX5_lay 5 = .ok (.iload_n 3, 1) := by decide +kernel
theorem dX5_lay_6 : decode cX5_lay 6 = .ok (.iastore, 1) := by decide +kernel
theorem dX5_lay_7 : decode cX5_lay 7 = .ok (.aload_n 0, 1) := by decide +kernel
theorem dX5_lay_8 : decode cX5_lay 8 = .ok (.getfield 20, 3) := by decide +kernel
theorem dX5_lay_11 : decode cX5_lay 11 = .ok (.iload_n 1, 1) := by decide +kernel
theorem dX5_lay_12 : decode cX5_lay 12 = .ok (.iload_n 2, 1) := by decide +kernel
theorem dX5_lay_13 : decode cX5_lay 13 = .ok (.iastore, 1) := by decide +kernel
theorem dX5_lay_14 : decode cX5_lay 14 = .ok (.iconst 0, 1) := by decide +kernel
theorem dX5_lay_15 : decode cX5_lay 15 = .ok (.istore 4, 2) := by decide +kernel
theorem dX5_lay_17 : decode cX5_lay 17 = .ok (.iload 4, 2) := by decide +kernel
theorem dX5_lay_19 : decode cX5_lay 19 = .ok (.bipush 40, 2) := by decide +kernel
theorem dX5_lay_21 : decode cX5_lay 21 = .ok (.if_icmp .ge 19, 3) := by decide +kernel
theorem dX5_lay_24 : decode cX5_lay 24 = .ok (.aload_n 0, 1) := by decide +kernel
theorem dX5_lay_25 : decode cX5_lay 25 = .ok (.getfield 13, 3) := by decide +kernel
theorem dX5_lay_28 : decode cX5_lay 28 = .ok (.iload_n 1, 1) := by decide +kernel
theorem dX5_lay_29 : decode cX5_lay 29 = .ok (.aaload, 1) := by decide +kernel
theorem dX5_lay_30 : decode cX5_lay 30 = .ok (.iload 4, 2) := by decide +kernel
theorem dX5_lay_32 : decode cX5_lay 32 = .ok (.iconst 0, 1) := by decide +kernel
theorem dX5_lay_33 : decode cX5_lay 33 = .ok (.iastore, 1) := by decide +kernel
theorem dX5_lay_34 : decode cX5_lay 34 = .ok (.iinc 4 1, 3) := by decide +kernel
theorem dX5_lay_37 : decode cX5_lay 37 = .ok (.goto (-20), 3) := by decide +kernel
theorem dX5_lay_40 : decode cX5_lay 40 = .ok (.return_, 1) := by decide +kernel
set_option maxRecDepth 20000 in
theorem ggX5_put_X5_lowestBits : GoodIn wsX5_put wsX5_lowestBits := goodIn_r _ [6] (by decide +kernel) (by decide +kernel)
set_option maxRecDepth 20000 in
theorem gX5_put_X5_lowestBits : GoodIn wsX5_put (va_wsS RX5 31 yX5_lowestBits wsX5_lowestBits) := goodIn_app (goodIn_of _ (by decide +kernel)) ggX5_put_X5_lowestBits
theorem dX5_put_0 : decode cX5_put 0 = .ok (.aload_n 0, 1) := by decide +kernel
theorem dX5_put_1 : decode cX5_put 1 = .ok (.getfield 13, 3) := by decide +kernel
theorem dX5_put_4 : decode cX5_put 4 = .ok (.iload_n 1, 1) := by decide +kernel
theorem dX5_put_5 : decode cX5_put 5 = .ok (.aaload, 1) := by decide +kernel
theorem dX5_put_6 : decode cX5_put 6 = .ok (.iload_n 2, 1) := by decide +kernel
theorem dX5_put_7 : decode cX5_put 7 = .ok (.iload_n 3, 1) := by decide +kernel
theorem dX5_put_8 : decode cX5_put 8 = .ok (.aload_n 0, 1) := by decide +kernel
theorem dX5_put_9 : decode cX5_put 9 = .ok (.getfield 20, 3) := by decide +kernel
theorem dX5_put_12 : decode cX5_put 12 = .ok (.iload_n 1, 1) := by decide +kernel
theorem dX5_put_13 : decode cX5_put 13 = .ok (.iaload, 1) := by decide +kernel
theorem dX5_put_14 : decode cX5_put 14 = .ok (.invokestatic 31, 3) := by decide +kernel
theorem dX5_put_17 : decode cX5_put 17 = .ok (.iastore, 1) := by decide +kernel
theorem dX5_put_18 : decode cX5_put 18 = .ok (.aload_n 0, 1) := by decide +kernel
theorem dX5_put_19 : decode cX5_put 19 = .ok (.getfield 13, 3) := by decide +kernel
theorem dX5_put_22 : decode cX5_put 22 = .ok (.iload_n 1, 1) := by decide +kernel
theorem dX5_put_23 : decode cX5_put 23 = .ok (.aaload, 1) := by decide +kernel
theorem dX5_put_24 : decode cX5_put 24 = .ok (.iload_n 2, 1) := by decide +kernel
theorem dX5_put_25 : decode cX5_put 25 = .ok (.iaload, 1) := by decide +kernel
theorem dX5_put_26 : decode cX5_put 26 = .ok (.ireturn, 1) := by decide +kernel
theorem dX5_at_0 : decode cX5_at 0 = .ok (.aload_n 0, 1) := by decide +kernel
theorem dX5_at_1 : decode cX5_at 1 = .ok (.getfield 13, 3) := by decide +kernel
theorem dX5_at_4 : decode cX5_at 4 = .ok (.iload_n 1, 1) := by decide +kernel
theorem dX5_at_5 : decode cX5_at 5 = .ok (.aaload, 1) := by decide +kernel
theorem dX5_at_6 : decode cX5_at 6 = .ok (.iload_n 2, 1) := by decide +kernel
theorem dX5_at_7 : decode cX5_at 7 = .ok (.iaload, 1) := by decide +kernel
theorem dX5_at_8 : decode cX5_at 8 = .ok (.ireturn, 1) := by decide +kernel
theorem dX5_carry_0 : decode cX5_carry 0 = .ok (.aload_n 0, 1) := by decide +kernel
theorem dX5_carry_1 : decode cX5_carry 1 = .ok (.getfield 13, 3) := by decide +kernel
theorem dX5_carry_4 : decode cX5_carry 4 = .ok (.iload_n 1, 1) := by decide +kernel
theorem dX5_carry_5 : decode cX5_carry 5 = .ok (.aaload, 1) := by decide +kernel
theorem dX5_carry_6 : decode cX5_carry 6 = .ok (.iload_n 2, 1) := by decide +kernel
theorem dX5_carry_7 : decode cX5_carry 7 = .ok (.aload_n 0, 1) := by decide +kernel
theorem dX5_carry_8 : decode cX5_carry 8 = .ok (.getfield 13, 3) := by decide +kernel
theorem dX5_carry_11 : decode cX5_carry 11 = .ok (.iload_n 3, 1) := by decide +kernel
theorem dX5_carry_12 : decode cX5_carry 12 = .ok (.aaload, 1) := by decide +kernel
theorem dX5_carry_13 : decode cX5_carry 13 = .ok (.iload 4, 2) := by decide +kernel
theorem dX5_carry_15 : decode cX5_carry 15 = .ok (.iload 5, 2) := by decide +kernel
theorem dX5_carry_17 : decode cX5_carry 17 = .ok (.invokestatic 35, 3) := by decide +kernel
theorem dX5_carry_20 : decode cX5_carry 20 = .ok (.return_, 1) := by decide +kernel
theorem dX5_takeAway_0 : decode cX5_takeAway 0 = .ok (.aload_n 0, 1) := by decide +kernel
theorem dX5_takeAway_1 : decode cX5_takeAway 1 = .ok (.getfield 16, 3) := by decide +kernel
theorem dX5_takeAway_4 : decode cX5_takeAway 4 = .ok (.iload_n 1, 1) := by decide +kernel
theorem dX5_takeAway_5 : decode cX5_takeAway 5 = .ok (.iaload, 1) := by decide +kernel
theorem dX5_takeAway_6 : decode cX5_takeAway 6 = .ok (.istore_n 2, 1) := by decide +kernel
theorem dX5_takeAway_7 : decode cX5_takeAway 7 = .ok (.aload_n 0, 1) := by decide +kernel
theorem dX5_takeAway_8 : decode cX5_takeAway 8 = .ok (.getfield 16, 3) := by decide +kernel
theorem dX5_takeAway_11 : decode cX5_takeAway 11 = .ok (.iload_n 1, 1) := by decide +kernel
theorem dX5_takeAway_12 : decode cX5_takeAway 12 = .ok (.iconst (-1), 1) := by decide +kernel
theorem dX5_takeAway_13 : decode cX5_takeAway 13 = .ok (.iastore, 1) := by decide +kernel
theorem dX5_takeAway_14 : decode cX5_takeAway 14 = .ok (.iload_n 2, 1) := by decide +kernel
theorem dX5_takeAway_15 : decode cX5_takeAway 15 = .ok (.ireturn, 1) := by decide +kernel
set_option maxRecDepth 20000 in
theorem ggX5_howMany_X5_isMissing : GoodIn wsX5_howMany wsX5_isMissing := goodIn_r _ [5, 6, 7, 8, 9] (by decide +kernel) (by decide +kernel)
set_option maxRecDepth 20000 in
theorem gX5_howMany_X5_isMissing : GoodIn wsX5_howMany (wsV RX5 23 RX5 yX5_isMissing wsX5_isMissing) := goodIn_app (goodIn_of _ (by decide +kernel)) ggX5_howMany_X5_isMissing
theorem dX5_howMany_0 : decode cX5_howMany 0 = .ok (.iconst 0, 1) := by decide +kernel
theorem dX5_howMany_1 : decode cX5_howMany 1 = .ok (.istore_n 1, 1) := by decide +kernel
theorem dX5_howMany_2 : decode cX5_howMany 2 = .ok (.iconst 0, 1) := by decide +kernel
theorem dX5_howMany_3 : decode cX5_howMany 3 = .ok (.istore_n 2, 1) := by decide +kernel
theorem dX5_howMany_4 : decode cX5_howMany 4 = .ok (.iload_n 2, 1) := by decide +kernel
theorem dX5_howMany_5 : decode cX5_howMany 5 = .ok (.bipush 8, 2) := by decide +kernel
theorem dX5_howMany_7 : decode cX5_howMany 7 = .ok (.if_icmp .ge 25, 3) := by decide +kernel
theorem dX5_howMany_10 : decode cX5_howMany 10 = .ok (.iload_n 1, 1) := by decide +kernel
theorem dX5_howMany_11 : decode cX5_howMany 11 = .ok (.aload_n 0, 1) := by decide +kernel
theorem dX5_howMany_12 : decode cX5_howMany 12 = .ok (.iload_n 2, 1) := by decide +kernel
theorem dX5_howMany_13 : decode cX5_howMany 13 = .ok (.invokevirtual 23, 3) := by decide +kernel
theorem dX5_howMany_16 : decode cX5_howMany 16 = .ok (.ifCond .eq 7, 3) := by decide +kernel
theorem dX5_howMany_19 : decode cX5_howMany 19 = .ok (.iconst 0, 1) := by decide +kernel
theorem dX5_howMany_20 : decode cX5_howMany 20 = .ok (.goto 4, 3) := by decide +kernel
theorem dX5_howMany_23 : decode cX5_howMany 23 = .ok (.iconst 1, 1) := by decide +kernel
theorem dX5_howMany_24 : decode cX5_howMany 24 = .ok (.iadd, 1) := by decide +kernel
theorem dX5_howMany_25 : decode cX5_howMany 25 = .ok (.istore_n 1, 1) := by decide +kernel
theorem dX5_howMany_26 : decode cX5_howMany 26 = .ok (.iinc 2 1, 3) := by decide +kernel
theorem dX5_howMany_29 : decode cX5_howMany 29 = .ok (.goto (-25), 3) := by decide +kernel
theorem dX5_howMany_32 : decode cX5_howMany 32 = .ok (.iload_n 1, 1) := by decide +kernel
theorem dX5_howMany_33 : decode cX5_howMany 33 = .ok (.ireturn, 1) := by decide +kernel
theorem dX5_lowestBits_0 : decode cX5_lowestBits 0 = .ok (.iload_n 1, 1) := by decide +kernel
theorem dX5_lowestBits_1 : decode cX5_lowestBits 1 = .ok (.ifCond .ne 6, 3) := by decide +kernel
theorem dX5_lowestBits_4 : decode cX5_lowestBits 4 = .ok (.iload_n 0, 1) := by decide +kernel
theorem dX5_lowestBits_5 : decode cX5_lowestBits 5 = .ok (.i2b, 1) := by decide +kernel
theorem dX5_lowestBits_6 : decode cX5_lowestBits 6 = .ok (.ireturn, 1) := by decide +kernel
theorem dX5_lowestBits_7 : decode cX5_lowestBits 7 = .ok (.iload_n 1, 1) := by decide +kernel
theorem dX5_lowestBits_8 : decode cX5_lowestBits 8 = .ok (.iconst 1, 1) := by decide +kernel
theorem dX5_lowestBits_9 : decode cX5_lowestBits 9 = .ok (.if_icmp .ne 8, 3) := by decide +kernel
theorem dX5_lowestBits_12 : decode cX5_lowestBits 12 = .ok (.iload_n 0, 1) := by decide +kernel
theorem dX5_lowestBits_13 : decode cX5_lowestBits 13 = .ok (.i2s, 1) := by decide +kernel
theorem dX5_lowestBits_14 : decode cX5_lowestBits 14 = .ok (.goto 4, 3) := by decide +kernel
theorem dX5_lowestBits_17 : decode cX5_lowestBits 17 = .ok (.iload_n 0, 1) := by decide +kernel
theorem dX5_lowestBits_18 : decode cX5_lowestBits 18 = .ok (.ireturn, 1) := by decide +kernel
theorem dX6_init_0 : decode cX6_init 0 = .ok (.aload_n 0, 1) := by decide +kernel
theorem dX6_init_1 : decode cX6_init 1 = .ok (.invokespecial 3, 3) := by decide +kernel
theorem dX6_init_4 : decode cX6_init 4 = .ok (.aload_n 0, 1) := by decide +kernel
theorem dX6_init_5 : decode cX6_init 5 = .ok (.bipush 8, 2) := by decide +kernel
theorem dX6_init_7 : decode cX6_init 7 = .ok (.bipush 100, 2) := by decide +kernel
theorem dX6_init_9 : decode cX6_init 9 = .ok (.multianewarray 9 2, 4) := by decide +kernel
theorem dX6_init_13 : decode cX6_init 13 = .ok (.putfield 11, 3) := by decide +kernel
theorem dX6_init_16 : decode cX6_init 16 = .ok (.return_, 1) := by decide +kernel
set_option maxRecDepth 20000 in
theorem ggX6_leastDuty_X6_fill : GoodIn wsX6_leastDuty wsX6_fill := goodIn_r _ [8, 1, 2, 9, 10, 11, 12, 13, 14, 15, 16, 17, 18, 19, 20, 21, 22, 23, 24, 25, 26, 27, 28, 29, 30, 31, 32, 33, 34, 35, 36, 37, 38, 39, 40, 41, 42, 43, 44, 45, 46, 47, 48, 49, 7, 50, 51, 52, 53, 54, 55, 56, 57, 58, 59, 60, 61, 62, 63, 64, 65, 66, 67] (by decide +kernel) (by decide +kernel)
set_option maxRecDepth 20000 in
theorem gX6_leastDuty_X6_fill : GoodIn wsX6_leastDuty (wsV RX6 16 RX6 yX6_fill wsX6_fill) := goodIn_app (goodIn_of _ (by decide +kernel)) ggX6_leastDuty_X6_fill
theorem dX6_leastDuty_0 : decode cX6_leastDuty 0 = .ok (.aload_n 0, 1) := by decide +kernel
theorem dX6_leastDuty_1 : decode cX6_leastDuty 1 = .ok (.aload_n 1, 1) := by decide +kernel
theorem dX6_leastDuty_2 : decode cX6_leastDuty 2 = .ok (.iload_n 2, 1) := by decide +kernel
theorem dX6_leastDuty_3 : decode cX6_leastDuty 3 = .ok (.iload_n 3, 1) := by decide +kernel
theorem dX6_leastDuty_4 : decode cX6_leastDuty 4 = .ok (.iload 4, 2) := by decide +kernel
theorem dX6_leastDuty_6 : decode cX6_leastDuty 6 = .ok (.iload 5, 2) := by decide +kernel
theorem dX6_leastDuty_8 : decode cX6_leastDuty 8 = .ok (.invokevirtual 16, 3) := by decide +kernel
theorem dX6_leastDuty_11 : decode cX6_leastDuty 11 = .ok (.aload_n 0, 1) := by decide +kernel
theorem dX6_leastDuty_12 : decode cX6_leastDuty 12 = .ok (.getfield 11, 3) := by decide +kernel
theorem dX6_leastDuty_15 : decode cX6_leastDuty 15 = .ok (.iload_n 3, 1) := by decide +kernel
theorem dX6_leastDuty_16 : decode cX6_leastDuty 16 = .ok (.aaload, 1) := by decide +kernel
theorem dX6_leastDuty_17 : decode cX6_leastDuty 17 = .ok (.iload 5, 2) := by decide +kernel
theorem dX6_leastDuty_19 : decode cX6_leastDuty 19 = .ok (.iaload, 1) := by decide +kernel
theorem dX6_leastDuty_20 : decode cX6_leastDuty 20 = .ok (.ldc 20, 2) := by decide +kernel
theorem dX6_leastDuty_22 : decode cX6_leastDuty 22 = .ok (.if_icmp .ge 15, 3) := by decide +kernel
theorem dX6_leastDuty_25 : decode cX6_leastDuty 25 = .ok (.aload_n 0, 1) := by decide +kernel
theorem dX6_leastDuty_26 : decode cX6_leastDuty 26 = .ok (.getfield 11, 3) := by decide +kernel
theorem dX6_leastDuty_29 : decode cX6_leastDuty 29 = .ok (.iload_n 3, 1) := by decide +kernel
theorem dX6_leastDuty_30 : decode cX6_leastDuty 30 = .ok (.aaload, 1) := by decide +kernel
theorem dX6_leastDuty_31 : decode cX6_leastDuty 31 = .ok (.iload 5, 2) := by decide +kernel
theorem dX6_leastDuty_33 : decode cX6_leastDuty 33 = .ok (.iaload, 1) := by decide +kernel
theorem dX6_leastDuty_34 : decode cX6_leastDuty 34 = .ok (.goto 5, 3) := by decide +kernel
theorem dX6_leastDuty_37 : decode cX6_leastDuty 37 = .ok (.ldc 21, 2) := by decide +kernel
theorem dX6_leastDuty_39 : decode cX6_leastDuty 39 = .ok (.ireturn, 1) := by decide +kernel
set_option maxRecDepth 20000 in
theorem ggX6_gestureOfCheapest_X6_fill : GoodIn wsX6_gestureOfCheapest wsX6_fill := goodIn_r _ [9, 1, 2, 10, 4, 11, 12, 13, 14, 15, 16, 17, 18, 19, 20, 21, 22, 23, 24, 25, 26, 27, 28, 29, 30, 31, 32, 33, 34, 35, 36, 37, 38, 39, 40, 41, 42, 43, 44, 45, 46, 47, 48, 49, 8, 50, 51, 52, 53, 58, 59, 60, 61, 62, 63, 64, 65, 66, 67, 68, 69, 70, 71] (by decide +kernel) (by decide +kernel)
set_option maxRecDepth 20000 in
theorem gX6_gestureOfCheapest_X6_fill : GoodIn wsX6_gestureOfCheapest (wsV RX6 16 RX6 yX6_fill wsX6_fill) := goodIn_app (goodIn_of _ (by decide +kernel)) ggX6_gestureOfCheapest_X6_fill
set_option maxRecDepth 20000 in
theorem ggX6_gestureOfCheapest_X6_firstOfCheapest : GoodIn wsX6_gestureOfCheapest wsX6_firstOfCheapest := goodIn_r _ [57, 10, 4, 1, 3, 11, 12, 13, 14, 15, 16, 17, 18, 19, 20, 21, 22, 23, 24, 25, 26, 27, 28, 29, 30, 31, 32, 33, 34, 35, 36, 37, 38, 39, 40, 41, 42, 43, 44, 45, 46, 59, 60, 61, 62, 63, 64, 65, 66, 67, 68, 69, 70, 71, 58] (by decide +kernel) (by decide +kernel)
set_option maxRecDepth 20000 in
theorem gX6_gestureOfCheapest_X6_firstOfCheapest : GoodIn wsX6_gestureOfCheapest (wsV RX6 22 RX6 yX6_firstOfCheapest wsX6_firstOfCheapest) := goodIn_app (goodIn_of _ (by decide +kernel)) ggX6_gestureOfCheapest_X6_firstOfCheapest
theorem dX6_gestureOfCheapest_0 : decode cX6_gestureOfCheapest 0 = .ok (.aload_n 0, 1) := by decide +kernel
theorem dX6_gestureOfCheapest_1 : decode cX6_gestureOfCheapest 1 = .ok (.aload_n 1, 1) := by decide +kernel
theorem dX6_gestureOfCheapest_2 : decode cX6_gestureOfCheapest 2 = .ok (.iload_n 2, 1) := by decide +kernel
theorem dX6_gestureOfCheapest_3 : decode cX6_gestureOfCheapest 3 = .ok (.iload_n 3, 1) := by decide +kernel
theorem dX6_gestureOfCheapest_4 : decode cX6_gestureOfCheapest 4 = .ok (.iload 4, 2) := by decide +kernel
theorem dX6_gestureOfCheapest_6 : decode cX6_gestureOfCheapest 6 = .ok (.iload 5, 2) := by decide +kernel
theorem dX6_gestureOfCheapest_8 : decode cX6_gestureOfCheapest 8 = .ok (.invokevirtual 16, 3) := by decide +kernel
theorem dX6_gestureOfCheapest_11 : decode cX6_gestureOfCheapest 11 = .ok (.iload 6, 2) := by decide +kernel
theorem dX6_gestureOfCheapest_13 : decode cX6_gestureOfCheapest 13 = .ok (.iload 4, 2) := by decide +kernel
theorem dX6_gestureOfCheapest_15 : decode cX6_gestureOfCheapest 15 = .ok (.iload_n 3, 1) := by decide +kernel
theorem dX6_gestureOfCheapest_16 : decode cX6_gestureOfCheapest 16 = .ok (.isub, 1) := by decide +kernel
theorem dX6_gestureOfCheapest_17 : decode cX6_gestureOfCheapest 17 = .ok (.if_icmp .gt 17, 3) := by decide +kernel
theorem dX6_gestureOfCheapest_20 : decode cX6_gestureOfCheapest 20 = .ok (.aload_n 0, 1) := by decide +kernel
theorem dX6_gestureOfCheapest_21 : decode cX6_gestureOfCheapest 21 = .ok (.getfield 11, 3) := by decide +kernel
theorem dX6_gestureOfCheapest_24 : decode cX6_gestureOfCheapest 24 = .ok (.iload_n 3, 1) := by decide +kernel
theorem dX6_gestureOfCheapest_25 : decode cX6_gestureOfCheapest 25 = .ok (.aaload, 1) := by decide +kernel
theorem dX6_gestureOfCheapest_26 : decode cX6_gestureOfCheapest 26 = .ok (.iload 5, 2) := by decide +kernel
theorem dX6_gestureOfCheapest_28 : decode cX6_gestureOfCheapest 28 = .ok (.iaload, 1) := by decide +kernel
theorem dX6_gestureOfCheapest_29 : decode cX6_gestureOfCheapest 29 = .ok (.ldc 20, 2) := by decide +kernel
theorem dX6_gestureOfCheapest_31 : decode cX6_gestureOfCheapest 31 = .ok (.if_icmp .lt 6, 3) := by decide +kernel
theorem dX6_gestureOfCheapest_34 : decode cX6_gestureOfCheapest 34 = .ok (.ldc 21, 2) := by decide +kernel
theorem dX6_gestureOfCheapest_36 : decode cX6_gestureOfCheapest 36 = .ok (.ireturn, 1) := by decide +kernel
theorem dX6_gestureOfCheapest_37 : decode cX6_gestureOfCheapest 37 = .ok (.iload 5, 2) := by decide +kernel
theorem dX6_gestureOfCheapest_39 : decode cX6_gestureOfCheapest 39 = .ok (.istore 7, 2) := by decide +kernel
theorem dX6_gestureOfCheapest_41 : decode cX6_gestureOfCheapest 41 = .ok (.ldc 21, 2) := by decide +kernel
theorem dX6_gestureOfCheapest_43 : decode cX6_gestureOfCheapest 43 = .ok (.istore 8, 2) := by decide +kernel
theorem dX6_gestureOfCheapest_45 : decode cX6_gestureOfCheapest 45 = .ok (.iload_n 3, 1) := by decide +kernel
theorem dX6_gestureOfCheapest_46 : decode cX6_gestureOfCheapest 46 = .ok (.istore 9, 2) := by decide +kernel
theorem dX6_gestureOfCheapest_48 : decode cX6_gestureOfCheapest 48 = .ok (.iload 9, 2) := by decide +kernel
theorem dX6_gestureOfCheapest_50 : decode cX6_gestureOfCheapest 50 = .ok (.iload_n 3, 1) := by decide +kernel
theorem dX6_gestureOfCheapest_51 : decode cX6_gestureOfCheapest 51 = .ok (.iload 6, 2) := by decide +kernel
theorem dX6_gestureOfCheapest_53 : decode cX6_gestureOfCheapest 53 = .ok (.iadd, 1) := by decide +kernel
theorem dX6_gestureOfCheapest_54 : decode cX6_gestureOfCheapest 54 = .ok (.if_icmp .gt 43, 3) := by decide +kernel
theorem dX6_gestureOfCheapest_57 : decode cX6_gestureOfCheapest 57 = .ok (.aload_n 0, 1) := by decide +kernel
theorem dX6_gestureOfCheapest_58 : decode cX6_gestureOfCheapest 58 = .ok (.aload_n 1, 1) := by decide +kernel
theorem dX6_gestureOfCheapest_59 : decode cX6_gestureOfCheapest 59 = .ok (.iload_n 2, 1) := by decide +kernel
theorem dX6_gestureOfCheapest_60 : decode cX6_gestureOfCheapest 60 = .ok (.iload 9, 2) := by decide +kernel
theorem dX6_gestureOfCheapest_62 : decode cX6_gestureOfCheapest 62 = .ok (.iload 7, 2) := by decide +kernel
theorem dX6_gestureOfCheapest_64 : decode cX6_gestureOfCheapest 64 = .ok (.invokevirtual 22, 3) := by decide +kernel
theorem dX6_gestureOfCheapest_67 : decode cX6_gestureOfCheapest 67 = .ok (.istore 8, 2) := by decide +kernel
theorem dX6_gestureOfCheapest_69 : decode cX6_gestureOfCheapest 69 = .ok (.iload 8, 2) := by decide +kernel
theorem dX6_gestureOfCheapest_71 : decode cX6_gestureOfCheapest 71 = .ok (.ldc 21, 2) := by decide +kernel
theorem dX6_gestureOfCheapest_73 : decode cX6_gestureOfCheapest 73 = .ok (.if_icmp .ne 6, 3) := by decide +kernel
theorem dX6_gestureOfCheapest_76 : decode cX6_gestureOfCheapest 76 = .ok (.ldc 21, 2) := by decide +kernel
theorem dX6_gestureOfCheapest_78 : decode cX6_gestureOfCheapest 78 = .ok (.ireturn, 1) := by decide +kernel
theorem dX6_gestureOfCheapest_79 : decode cX6_gestureOfCheapest 79 = .ok (.iload 7, 2) := by decide +kernel
theorem dX6_gestureOfCheapest_81 : decode cX6_gestureOfCheapest 81 = .ok (.aload_n 1, 1) := by decide +kernel
theorem dX6_gestureOfCheapest_82 : decode cX6_gestureOfCheapest 82 = .ok (.getfield 26, 3) := by decide +kernel
theorem dX6_gestureOfCheapest_85 : decode cX6_gestureOfCheapest 85 = .ok (.iload 8, 2) := by decide +kernel
theorem dX6_gestureOfCheapest_87 : decode cX6_gestureOfCheapest 87 = .ok (.iaload, 1) := by decide +kernel
theorem dX6_gestureOfCheapest_88 : decode cX6_gestureOfCheapest 88 = .ok (.isub, 1) := by decide +kernel
theorem dX6_gestureOfCheapest_89 : decode cX6_gestureOfCheapest 89 = .ok (.istore 7, 2) := by decide +kernel
theorem dX6_gestureOfCheapest_91 : decode cX6_gestureOfCheapest 91 = .ok (.iinc 9 1, 3) := by decide +kernel
theorem dX6_gestureOfCheapest_94 : decode cX6_gestureOfCheapest 94 = .ok (.goto (-46), 3) := by decide +kernel
theorem dX6_gestureOfCheapest_97 : decode cX6_gestureOfCheapest 97 = .ok (.iload 8, 2) := by decide +kernel
theorem dX6_gestureOfCheapest_99 : decode cX6_gestureOfCheapest 99 = .ok (.ireturn, 1) := by decide +kernel
set_option maxRecDepth 20000 in
theorem ggX6_fill_X2_tells : GoodIn wsX6_fill wsX2_tells := goodIn_r _ [9, 10, 11, 12, 13, 8, 14, 15, 16, 17, 50, 51, 52, 53, 54, 55, 56, 57, 58, 59, 60, 61, 62] (by decide +kernel) (by decide +kernel)
set_option maxRecDepth 20000 in
theorem gX6_fill_X2_tells : GoodIn wsX6_fill (wsV RX6 36 RX2 yX2_tells wsX2_tells) := goodIn_app (goodIn_of _ (by decide +kernel)) ggX6_fill_X2_tells
set_option maxRecDepth 20000 in
theorem ggX6_fill_X2_owes : GoodIn wsX6_fill wsX2_owes := goodIn_r _ [21, 15, 16, 22, 23, 24, 8, 25, 26, 27, 28, 29, 30, 31, 32, 33, 34, 35, 36, 37, 38, 39, 40, 50, 51, 52, 53, 54, 55, 56, 57, 58, 59, 60, 61, 62] (by decide +kernel) (by decide +kernel)
set_option maxRecDepth 20000 in
theorem gX6_fill_X2_owes : GoodIn wsX6_fill (wsV RX6 40 RX2 yX2_owes wsX2_owes) := goodIn_app (goodIn_of _ (by decide +kernel)) ggX6_fill_X2_owes
set_option maxRecDepth 20000 in
theorem ggX6_fill_X6_offer : GoodIn wsX6_fill wsX6_offer := goodIn_r _ [45, 1, 46, 47, 34, 48, 49] (by decide +kernel) (by decide +kernel)
set_option maxRecDepth 20000 in
theorem gX6_fill_X6_offer : GoodIn wsX6_fill (wsV RX6 44 RX6 yX6_offer wsX6_offer) := goodIn_app (goodIn_of _ (by decide +kernel)) ggX6_fill_X6_offer
theorem dX6_fill_0 : decode cX6_fill 0 = .ok (.iconst 0, 1) := by decide +kernel
theorem dX6_fill_1 : decode cX6_fill 1 = .ok (.istore 6, 2) := by decide +kernel
theorem dX6_fill_3 : decode cX6_fill 3 = .ok (.iload 6, 2) := by decide +kernel
theorem dX6_fill_5 : decode cX6_fill 5 = .ok (.iload 5, 2) := by decide +kernel
theorem dX6_fill_7 : decode cX6_fill 7 = .ok (.if_icmp .gt 22, 3) := by decide +kernel
theorem dX6_fill_10 : decode cX6_fill 10 = .ok (.aload_n 0, 1) := by decide +kernel
theorem dX6_fill_11 : decode cX6_fill 11 = .ok (.getfield 11, 3) := by decide +kernel
theorem dX6_fill_14 : decode cX6_fill 14 = .ok (.iload 4, 2) := by decide +kernel
theorem dX6_fill_16 : decode cX6_fill 16 = .ok (.iconst 1, 1) := by decide +kernel
theorem dX6_fill_17 : decode cX6_fill 17 = .ok (.iadd, 1) := by decide +kernel
theorem dX6_fill_18 : decode cX6_fill 18 = .ok (.aaload, 1) := by decide +kernel
theorem dX6_fill_19 : decode cX6_fill 19 = .ok (.iload 6, 2) := by decide +kernel
theorem dX6_fill_21 : decode cX6_fill 21 = .ok (.iconst 0, 1) := by decide +kernel
theorem dX6_fill_22 : decode cX6_fill 22 = .ok (.iastore, 1) := by decide +kernel
theorem dX6_fill_23 : decode cX6_fill 23 = .ok (.iinc 6 1, 3) := by decide +kernel
theorem dX6_fill_26 : decode cX6_fill 26 = .ok (.goto (-23), 3) := by decide +kernel
theorem dX6_fill_29 : decode cX6_fill 29 = .ok (.iload 4, 2) := by decide +kernel
theorem dX6_fill_31 : decode cX6_fill 31 = .ok (.istore 6, 2) := by decide +kernel
theorem dX6_fill_33 : decode cX6_fill 33 = .ok (.iload 6, 2) := by decide +kernel
theorem dX6_fill_35 : decode cX6_fill 35 = .ok (.iload_n 3, 1) := by decide +kernel
theorem dX6_fill_36 : decode cX6_fill 36 = .ok (.if_icmp .lt 90, 3) := by decide +kernel
theorem dX6_fill_39 : decode cX6_fill 39 = .ok (.iconst 0, 1) := by decide +kernel
theorem dX6_fill_40 : decode cX6_fill 40 = .ok (.istore 7, 2) := by decide +kernel
theorem dX6_fill_42 : decode cX6_fill 42 = .ok (.iload 7, 2) := by decide +kernel
theorem dX6_fill_44 : decode cX6_fill 44 = .ok (.iload 5, 2) := by decide +kernel
theorem dX6_fill_46 : decode cX6_fill 46 = .ok (.if_icmp .gt 21, 3) := by decide +kernel
theorem dX6_fill_49 : decode cX6_fill 49 = .ok (.aload_n 0, 1) := by decide +kernel
theorem dX6_fill_50 : decode cX6_fill 50 = .ok (.getfield 11, 3) := by decide +kernel
theorem dX6_fill_53 : decode cX6_fill 53 = .ok (.iload 6, 2) := by decide +kernel
theorem dX6_fill_55 : decode cX6_fill 55 = .ok (.aaload, 1) := by decide +kernel
theorem dX6_fill_56 : decode cX6_fill 56 = .ok (.iload 7, 2) := by decide +kernel
theorem dX6_fill_58 : decode cX6_fill 58 = .ok (.ldc 20, 2) := by decide +kernel
theorem dX6_fill_60 : decode cX6_fill 60 = .ok (.iastore, 1) := by decide +kernel
theorem dX6_fill_61 : decode cX6_fill 61 = .ok (.iinc 7 1, 3) := by decide +kernel
theorem dX6_fill_64 : decode cX6_fill 64 = .ok (.goto (-22), 3) := by decide +kernel
theorem dX6_fill_67 : decode cX6_fill 67 = .ok (.iconst 0, 1) := by decide +kernel
theorem dX6_fill_68 : decode cX6_fill 68 = .ok (.istore 7, 2) := by decide +kernel
theorem dX6_fill_70 : decode cX6_fill 70 = .ok (.iload 7, 2) := by decide +kernel
theorem dX6_fill_72 : decode cX6_fill 72 = .ok (.aload_n 1, 1) := by decide +kernel
theorem dX6_fill_73 : decode cX6_fill 73 = .ok (.getfield 32, 3) := by decide +kernel
theorem dX6_fill_76 : decode cX6_fill 76 = .ok (.if_icmp .ge 44, 3) := by decide +kernel
theorem dX6_fill_79 : decode cX6_fill 79 = .ok (.aload_n 1, 1) := by decide +kernel
theorem dX6_fill_80 : decode cX6_fill 80 = .ok (.iload 7, 2) := by decide +kernel
theorem dX6_fill_82 : decode cX6_fill 82 = .ok (.iload_n 2, 1) := by decide +kernel
theorem dX6_fill_83 : decode cX6_fill 83 = .ok (.iload 6, 2) := by decide +kernel
theorem dX6_fill_85 : decode cX6_fill 85 = .ok (.invokevirtual 36, 3) := by decide +kernel
theorem dX6_fill_88 : decode cX6_fill 88 = .ok (.ifCond .eq 26, 3) := by decide +kernel
theorem dX6_fill_91 : decode cX6_fill 91 = .ok (.aload_n 0, 1) := by decide +kernel
theorem dX6_fill_92 : decode cX6_fill 92 = .ok (.aload_n 1, 1) := by decide +kernel
theorem dX6_fill_93 : decode cX6_fill 93 = .ok (.iload 7, 2) := by decide +kernel
theorem dX6_fill_95 : decode cX6_fill 95 = .ok (.iload 6, 2) := by decide +kernel
theorem dX6_fill_97 : decode cX6_fill 97 = .ok (.invokevirtual 40, 3) := by decide +kernel
theorem dX6_fill_100 : decode cX6_fill 100 = .ok (.aload_n 1, 1) := by decide +kernel
theorem dX6_fill_101 : decode cX6_fill 101 = .ok (.getfield 26, 3) := by decide +kernel
theorem dX6_fill_104 : decode cX6_fill 104 = .ok (.iload 7, 2) := by decide +kernel
theorem dX6_fill_106 : decode cX6_fill 106 = .ok (.iaload, 1) := by decide +kernel
theorem dX6_fill_107 : decode cX6_fill 107 = .ok (.iload 6, 2) := by decide +kernel
theorem dX6_fill_109 : decode cX6_fill 109 = .ok (.iload 5, 2) := by decide +kernel
theorem dX6_fill_111 : decode cX6_fill 111 = .ok (.invokevirtual 44, 3) := by decide +kernel
theorem dX6_fill_114 : decode cX6_fill 114 = .ok (.iinc 7 1, 3) := by decide +kernel
theorem dX6_fill_117 : decode cX6_fill 117 = .ok (.goto (-47), 3) := by decide +kernel
theorem dX6_fill_120 : decode cX6_fill 120 = .ok (.iinc 6 (-1), 3) := by decide +kernel
theorem dX6_fill_123 : decode cX6_fill 123 = .ok (.goto (-90), 3) := by decide +kernel
theorem dX6_fill_126 : decode cX6_fill 126 = .ok (.return_, 1) := by decide +kernel
theorem dX6_offer_0 : decode cX6_offer 0 = .ok (.iload_n 2, 1) := by decide +kernel
theorem dX6_offer_1 : decode cX6_offer 1 = .ok (.istore 5, 2) := by decide +kernel
theorem dX6_offer_3 : decode cX6_offer 3 = .ok (.iload 5, 2) := by decide +kernel
theorem dX6_offer_5 : decode cX6_offer 5 = .ok (.iload 4, 2) := by decide +kernel
theorem dX6_offer_7 : decode cX6_offer 7 = .ok (.if_icmp .gt 45, 3) := by decide +kernel
theorem dX6_offer_10 : decode cX6_offer 10 = .ok (.aload_n 0, 1) := by decide +kernel
theorem dX6_offer_11 : decode cX6_offer 11 = .ok (.getfield 11, 3) := by decide +kernel
theorem dX6_offer_14 : decode cX6_offer 14 = .ok (.iload_n 3, 1) := by decide +kernel
theorem dX6_offer_15 : decode cX6_offer 15 = .ok (.aaload, 1) := by decide +kernel
theorem dX6_offer_16 : decode cX6_offer 16 = .ok (.iload 5, 2) := by decide +kernel
theorem dX6_offer_18 : decode cX6_offer 18 = .ok (.aload_n 0, 1) := by decide +kernel
theorem dX6_offer_19 : decode cX6_offer 19 = .ok (.getfield 11, 3) := by decide +kernel
theorem dX6_offer_22 : decode cX6_offer 22 = .ok (.iload_n 3, 1) := by decide +kernel
theorem dX6_offer_23 : decode cX6_offer 23 = .ok (.aaload, 1) := by decide +kernel
theorem dX6_offer_24 : decode cX6_offer 24 = .ok (.iload 5, 2) := by decide +kernel
theorem dX6_offer_26 : decode cX6_offer 26 = .ok (.iaload, 1) := by decide +kernel
theorem dX6_offer_27 : decode cX6_offer 27 = .ok (.iload_n 1, 1) := by decide +kernel
theorem dX6_offer_28 : decode cX6_offer 28 = .ok (.aload_n 0, 1) := by decide +kernel
theorem dX6_offer_29 : decode cX6_offer 29 = .ok (.getfield 11, 3) := by decide +kernel
theorem dX6_offer_32 : decode cX6_offer 32 = .ok (.iload_n 3, 1) := by decide +kernel
theorem dX6_offer_33 : decode cX6_offer 33 = .ok (.iconst 1, 1) := by decide +kernel
theorem dX6_offer_34 : decode cX6_offer 34 = .ok (.iadd, 1) := by decide +kernel
theorem dX6_offer_35 : decode cX6_offer 35 = .ok (.aaload, 1) := by decide +kernel
theorem dX6_offer_36 : decode cX6_offer 36 = .ok (.iload 5, 2) := by decide +kernel
theorem dX6_offer_38 : decode cX6_offer 38 = .ok (.iload_n 2, 1) := by decide +kernel
theorem dX6_offer_39 : decode cX6_offer 39 = .ok (.isub, 1) := by decide +kernel
theorem dX6_offer_40 : decode cX6_offer 40 = .ok (.iaload, 1) := by decide +kernel
theorem dX6_offer_41 : decode cX6_offer 41 = .ok (.iadd, 1) := by decide +kernel
theorem dX6_offer_42 : decode cX6_offer 42 = .ok (.invokestatic 48, 3) := by decide +kernel
theorem dX6_offer_45 : decode cX6_offer 45 = .ok (.iastore, 1) := by decide +kernel
theorem dX6_offer_46 : decode cX6_offer 46 = .ok (.iinc 5 1, 3) := by decide +kernel
theorem dX6_offer_49 : decode cX6_offer 49 = .ok (.goto (-46), 3) := by decide +kernel
theorem dX6_offer_52 : decode cX6_offer 52 = .ok (.return_, 1) := by decide +kernel
set_option maxRecDepth 20000 in
theorem ggX6_firstOfCheapest_X2_tells : GoodIn wsX6_firstOfCheapest wsX2_tells := goodIn_r _ [9, 10, 11, 12, 13, 8, 14, 15, 16, 17, 41, 42, 43, 44, 45, 46, 47, 48, 49, 50, 51, 52, 53] (by decide +kernel) (by decide +kernel)
set_option maxRecDepth 20000 in
theorem gX6_firstOfCheapest_X2_tells : GoodIn wsX6_firstOfCheapest (wsV RX6 36 RX2 yX2_tells wsX2_tells) := goodIn_app (goodIn_of _ (by decide +kernel)) ggX6_firstOfCheapest_X2_tells
set_option maxRecDepth 20000 in
theorem ggX6_firstOfCheapest_X2_owes : GoodIn wsX6_firstOfCheapest wsX2_owes := goodIn_r _ [21, 15, 16, 22, 23, 24, 8, 25, 26, 27, 28, 29, 30, 31, 32, 33, 34, 35, 36, 37, 38, 39, 40, 41, 42, 43, 44, 45, 46, 47, 48, 49, 50, 51, 52, 53] (by decide +kernel) (by decide +kernel)
set_option maxRecDepth 20000 in
theorem gX6_firstOfCheapest_X2_owes : GoodIn wsX6_firstOfCheapest (wsV RX6 40 RX2 yX2_owes wsX2_owes) := goodIn_app (goodIn_of _ (by decide +kernel)) ggX6_firstOfCheapest_X2_owes
theorem dX6_firstOfCheapest_0 : decode cX6_firstOfCheapest 0 = .ok (.iconst 0, 1) := by decide +kernel
theorem dX6_firstOfCheapest_1 : decode cX6_firstOfCheapest 1 = .ok (.istore 5, 2) := by decide +kernel
theorem dX6_firstOfCheapest_3 : decode cX6_firstOfCheapest 3 = .ok (.iload 5, 2) := by decide +kernel
theorem dX6_firstOfCheapest_5 : decode cX6_firstOfCheapest 5 = .ok (.aload_n 1, 1) := by decide +kernel
theorem dX6_firstOfCheapest_6 : decode cX6_firstOfCheapest 6 = .ok (.getfield 32, 3) := by decide +kernel
theorem dX6_firstOfCheapest_9 : decode cX6_firstOfCheapest 9 = .ok (.if_icmp .ge 71, 3) := by decide +kernel
theorem dX6_firstOfCheapest_12 : decode cX6_firstOfCheapest 12 = .ok (.iload 4, 2) := by decide +kernel
theorem dX6_firstOfCheapest_14 : decode cX6_firstOfCheapest 14 = .ok (.aload_n 1, 1) := by decide +kernel
theorem dX6_firstOfCheapest_15 : decode cX6_firstOfCheapest 15 = .ok (.getfield 26, 3) := by decide +kernel
theorem dX6_firstOfCheapest_18 : decode cX6_firstOfCheapest 18 = .ok (.iload 5, 2) := by decide +kernel
theorem dX6_firstOfCheapest_20 : decode cX6_firstOfCheapest 20 = .ok (.iaload, 1) := by decide +kernel
theorem dX6_firstOfCheapest_21 : decode cX6_firstOfCheapest 21 = .ok (.isub, 1) := by decide +kernel
theorem dX6_firstOfCheapest_22 : decode cX6_firstOfCheapest 22 = .ok (.istore 6, 2) := by decide +kernel
theorem dX6_firstOfCheapest_24 : decode cX6_firstOfCheapest 24 = .ok (.iload 6, 2) := by decide +kernel
theorem dX6_firstOfCheapest_26 : decode cX6_firstOfCheapest 26 = .ok (.ifCond .lt 48, 3) := by decide +kernel
theorem dX6_firstOfCheapest_29 : decode cX6_firstOfCheapest 29 = .ok (.aload_n 1, 1) := by decide +kernel
theorem dX6_firstOfCheapest_30 : decode cX6_firstOfCheapest 30 = .ok (.iload 5, 2) := by decide +kernel
theorem dX6_firstOfCheapest_32 : decode cX6_firstOfCheapest 32 = .ok (.iload_n 2, 1) := by decide +kernel
theorem dX6_firstOfCheapest_33 : decode cX6_firstOfCheapest 33 = .ok (.iload_n 3, 1) := by decide +kernel
theorem dX6_firstOfCheapest_34 : decode cX6_firstOfCheapest 34 = .ok (.invokevirtual 36, 3) := by decide +kernel
theorem dX6_firstOfCheapest_37 : decode cX6_firstOfCheapest 37 = .ok (.ifCond .eq 37, 3) := by decide +kernel
theorem dX6_firstOfCheapest_40 : decode cX6_firstOfCheapest 40 = .ok (.aload_n 1, 1) := by decide +kernel
theorem dX6_firstOfCheapest_41 : decode cX6_firstOfCheapest 41 = .ok (.iload 5, 2) := by decide +kernel
theorem dX6_firstOfCheapest_43 : decode cX6_firstOfCheapest 43 = .ok (.iload_n 3, 1) := by decide +kernel
theorem dX6_firstOfCheapest_44 : decode cX6_firstOfCheapest 44 = .ok (.invokevirtual 40, 3) := by decide +kernel
theorem dX6_firstOfCheapest_47 : decode cX6_firstOfCheapest 47 = .ok (.aload_n 0, 1) := by decide +kernel
theorem dX6_firstOfCheapest_48 : decode cX6_firstOfCheapest 48 = .ok (.getfield 11, 3) := by decide +kernel
theorem dX6_firstOfCheapest_51 : decode cX6_firstOfCheapest 51 = .ok (.iload_n 3, 1) := by decide +kernel
theorem dX6_firstOfCheapest_52 : decode cX6_firstOfCheapest 52 = .ok (.iconst 1, 1) := by decide +kernel
theorem dX6_firstOfCheapest_53 : decode cX6_firstOfCheapest 53 = .ok (.iadd, 1) := by decide +kernel
theorem dX6_firstOfCheapest_54 : decode cX6_firstOfCheapest 54 = .ok (.aaload, 1) := by decide +kernel
theorem dX6_firstOfCheapest_55 : decode cX6_firstOfCheapest 55 = .ok (.iload 6, 2) := by decide +kernel
theorem dX6_firstOfCheapest_57 : decode cX6_firstOfCheapest 57 = .ok (.iaload, 1) := by decide +kernel
theorem dX6_firstOfCheapest_58 : decode cX6_firstOfCheapest 58 = .ok (.iadd, 1) := by decide +kernel
theorem dX6_firstOfCheapest_59 : decode cX6_firstOfCheapest 59 = .ok (.aload_n 0, 1) := by decide +kernel
theorem dX6_firstOfCheapest_60 : decode cX6_firstOfCheapest 60 = .ok (.getfield 11, 3) := by decide +kernel
theorem dX6_firstOfCheapest_63 : decode cX6_firstOfCheapest 63 = .ok (.iload_n 3, 1) := by decide +kernel
theorem dX6_firstOfCheapest_64 : decode cX6_firstOfCheapest 64 = .ok (.aaload, 1) := by decide +kernel
theorem dX6_firstOfCheapest_65 : decode cX6_firstOfCheapest 65 = .ok (.iload 4, 2) := by decide +kernel
theorem dX6_firstOfCheapest_67 : decode cX6_firstOfCheapest 67 = .ok (.iaload, 1) := by decide +kernel
theorem dX6_firstOfCheapest_68 : decode cX6_firstOfCheapest 68 = .ok (.if_icmp .ne 6, 3) := by decide +kernel
theorem dX6_firstOfCheapest_71 : decode cX6_firstOfCheapest 71 = .ok (.iload 5, 2) := by decide +kernel
theorem dX6_firstOfCheapest_73 : decode cX6_firstOfCheapest 73 = .ok (.ireturn, 1) := by decide +kernel
theorem dX6_firstOfCheapest_74 : decode cX6_firstOfCheapest 74 = .ok (.iinc 5 1, 3) := by decide +kernel
theorem dX6_firstOfCheapest_77 : decode cX6_firstOfCheapest 77 = .ok (.goto (-74), 3) := by decide +kernel
theorem dX6_firstOfCheapest_80 : decode cX6_firstOfCheapest 80 = .ok (.ldc 21, 2) := by decide +kernel
theorem dX6_firstOfCheapest_82 : decode cX6_firstOfCheapest 82 = .ok (.ireturn, 1) := by decide +kernel
set_option maxRecDepth 20000 in
theorem ggX7_init_X5_init : GoodIn wsX7_init wsX5_init := goodIn_r _ [32, 33, 2, 3, 34, 35, 36, 37, 38, 82, 83, 84] (by decide +kernel) (by decide +kernel)
set_option maxRecDepth 20000 in
theorem gX7_init_X5_init_n9 : GoodIn wsX7_init (wsX5_init) := ggX7_init_X5_init
set_option maxRecDepth 20000 in
theorem ggX7_init_X4_init : GoodIn wsX7_init wsX4_init := goodIn_r _ [40, 41, 2, 3, 35, 42, 43, 44, 45, 46, 47, 94, 95, 96, 97, 98, 99] (by decide +kernel) (by decide +kernel)
set_option maxRecDepth 20000 in
theorem gX7_init_X4_init_n18 : GoodIn wsX7_init (wsX4_init) := ggX7_init_X4_init
set_option maxRecDepth 20000 in
theorem ggX7_init_X2_init : GoodIn wsX7_init wsX2_init := goodIn_r _ [49, 50, 2, 3, 51, 52, 53, 54, 55, 56, 35, 57, 58, 59, 60, 61, 62, 63, 100, 101, 102, 103, 104, 105, 106, 107, 108, 109, 110, 111, 112] (by decide +kernel) (by decide +kernel)
set_option maxRecDepth 20000 in
theorem gX7_init_X2_init_n25 : GoodIn wsX7_init (wsX2_init) := ggX7_init_X2_init
set_option maxRecDepth 20000 in
theorem ggX7_init_X0_init : GoodIn wsX7_init wsX0_init := goodIn_r _ [65, 66, 2, 3, 35, 67, 68, 69, 70, 71, 113, 114, 115, 116, 117] (by decide +kernel) (by decide +kernel)
set_option maxRecDepth 20000 in
theorem gX7_init_X0_init_n39 : GoodIn wsX7_init (wsX0_init) := ggX7_init_X0_init
set_option maxRecDepth 20000 in
theorem ggX7_init_X6_init : GoodIn wsX7_init wsX6_init := goodIn_r _ [73, 74, 2, 3, 75, 35, 76, 118] (by decide +kernel) (by decide +kernel)
set_option maxRecDepth 20000 in
theorem gX7_init_X6_init_n46 : GoodIn wsX7_init (wsX6_init) := ggX7_init_X6_init
set_option maxRecDepth 20000 in
theorem ggX7_init_X1_init : GoodIn wsX7_init wsX1_init := goodIn_r _ [78, 79, 2, 3, 35, 80, 81, 119, 120] (by decide +kernel) (by decide +kernel)
set_option maxRecDepth 20000 in
theorem gX7_init_X1_init_n53 : GoodIn wsX7_init (wsX1_init) := ggX7_init_X1_init
end
section
theorem dX7_init_0 : decode cX7_init 0 = .ok (.aload_n 0, 1) := by decide +kernel
theorem dX7_init_1 : decode cX7_init 1 = .ok (.invokespecial 1, 3) := by decide +kernel
theorem dX7_init_4 : decode cX7_init 4 = .ok (.aload_n 0, 1) := by decide +kernel
theorem dX7_init_5 : decode cX7_init 5 = .ok (.new 7, 3) := by decide +kernel
theorem dX7_init_8 : decode cX7_init 8 = .ok (.dup, 1) := by decide +kernel
theorem dX7_init_9 : decode cX7_init 9 = .ok (.invokespecial 9, 3) := by decide +kernel
theorem dX7_init_12 : decode cX7_init 12 = .ok (.putfield 10, 3) := by decide +kernel
theorem dX7_init_15 : decode cX7_init 15 = .ok (.aload_n 0, 1) := by decide +kernel
theorem dX7_init_16 : decode cX7_init 16 = .ok (.new 16, 3) := by decide +kernel
theorem dX7_init_19 : decode cX7_init 19 = .ok (.dup, 1) := by decide +kernel
theorem dX7_init_20 : decode cX7_init 20 = .ok (.invokespecial 18, 3) := by decide +kernel
theorem dX7_init_23 : decode cX7_init 23 = .ok (.putfield 19, 3) := by decide +kernel
theorem dX7_init_26 : decode cX7_init 26 = .ok (.aload_n 0, 1) := by decide +kernel
theorem dX7_init_27 : decode cX7_init 27 = .ok (.new 23, 3) := by decide +kernel
theorem dX7_init_30 : decode cX7_init 30 = .ok (.dup, 1) := by decide +kernel
theorem dX7_init_31 : decode cX7_init 31 = .ok (.invokespecial 25, 3) := by decide +kernel
theorem dX7_init_34 : decode cX7_init 34 = .ok (.putfield 26, 3) := by decide +kernel
theorem dX7_init_37 : decode cX7_init 37 = .ok (.aload_n 0, 1) := by decide +kernel
theorem dX7_init_38 : decode cX7_init 38 = .ok (.new 23, 3) := by decide +kernel
theorem dX7_init_41 : decode cX7_init 41 = .ok (.dup, 1) := by decide +kernel
theorem dX7_init_42 : decode cX7_init 42 = .ok (.invokespecial 25, 3) := by decide +kernel
theorem dX7_init_45 : decode cX7_init 45 = .ok (.putfield 30, 3) := by decide +kernel
theorem dX7_init_48 : decode cX7_init 48 = .ok (.aload_n 0, 1) := by decide +kernel
theorem dX7_init_49 : decode cX7_init 49 = .ok (.iconst 2, 1) := by decide +kernel
theorem dX7_init_50 : decode cX7_init 50 = .ok (.anewarray 23, 3) := by decide +kernel
theorem dX7_init_53 : decode cX7_init 53 = .ok (.dup, 1) := by decide +kernel
theorem dX7_init_54 : decode cX7_init 54 = .ok (.iconst 0, 1) := by decide +kernel
theorem dX7_init_55 : decode cX7_init 55 = .ok (.new 23, 3) := by decide +kernel
theorem dX7_init_58 : decode cX7_init 58 = .ok (.dup, 1) := by decide +kernel
theorem dX7_init_59 : decode cX7_init 59 = .ok (.invokespecial 25, 3) := by decide +kernel
theorem dX7_init_62 : decode cX7_init 62 = .ok (.aastore, 1) := by decide +kernel
theorem dX7_init_63 : decode cX7_init 63 = .ok (.dup, 1) := by decide +kernel
theorem dX7_init_64 : decode cX7_init 64 = .ok (.iconst 1, 1) := by decide +kernel
theorem dX7_init_65 : decode cX7_init 65 = .ok (.new 23, 3) := by decide +kernel
theorem dX7_init_68 : decode cX7_init 68 = .ok (.dup, 1) := by decide +kernel
theorem dX7_init_69 : decode cX7_init 69 = .ok (.invokespecial 25, 3) := by decide +kernel
theorem dX7_init_72 : decode cX7_init 72 = .ok (.aastore, 1) := by decide +kernel
theorem dX7_init_73 : decode cX7_init 73 = .ok (.putfield 33, 3) := by decide +kernel
theorem dX7_init_76 : decode cX7_init 76 = .ok (.aload_n 0, 1) := by decide +kernel
theorem dX7_init_77 : decode cX7_init 77 = .ok (.new 37, 3) := by decide +kernel
theorem dX7_init_80 : decode cX7_init 80 = .ok (.dup, 1) := by decide +kernel
theorem dX7_init_81 : decode cX7_init 81 = .ok (.invokespecial 39, 3) := by decide +kernel
theorem dX7_init_84 : decode cX7_init 84 = .ok (.putfield 40, 3) := by decide +kernel
theorem dX7_init_87 : decode cX7_init 87 = .ok (.aload_n 0, 1) := by decide +kernel
theorem dX7_init_88 : decode cX7_init 88 = .ok (.new 44, 3) := by decide +kernel
theorem dX7_init_91 : decode cX7_init 91 = .ok (.dup, 1) := by decide +kernel
theorem dX7_init_92 : decode cX7_init 92 = .ok (.invokespecial 46, 3) := by decide +kernel
theorem dX7_init_95 : decode cX7_init 95 = .ok (.putfield 47, 3) := by decide +kernel
theorem dX7_init_98 : decode cX7_init 98 = .ok (.aload_n 0, 1) := by decide +kernel
theorem dX7_init_99 : decode cX7_init 99 = .ok (.new 51, 3) := by decide +kernel
theorem dX7_init_102 : decode cX7_init 102 = .ok (.dup, 1) := by decide +kernel
theorem dX7_init_103 : decode cX7_init 103 = .ok (.invokespecial 53, 3) := by decide +kernel
theorem dX7_init_106 : decode cX7_init 106 = .ok (.putfield 54, 3) := by decide +kernel
theorem dX7_init_109 : decode cX7_init 109 = .ok (.aload_n 0, 1) := by decide +kernel
theorem dX7_init_110 : decode cX7_init 110 = .ok (.iconst 0, 1) := by decide +kernel
theorem dX7_init_111 : decode cX7_init 111 = .ok (.putfield 58, 3) := by decide +kernel
theorem dX7_init_114 : decode cX7_init 114 = .ok (.return_, 1) := by decide +kernel
set_option maxRecDepth 20000 in
theorem ggX7_row_X5_isRow : GoodIn wsX7_row wsX5_isRow := goodIn_r _ [6] (by decide +kernel) (by decide +kernel)
set_option maxRecDepth 20000 in
theorem gX7_row_X5_isRow : GoodIn wsX7_row (va_wsS RX7 62 yX5_isRow wsX5_isRow) := goodIn_app (goodIn_of _ (by decide +kernel)) ggX7_row_X5_isRow
set_option maxRecDepth 20000 in
theorem ggX7_row_X7_isWithin : GoodIn wsX7_row wsX7_isWithin := goodIn_r _ [10] (by decide +kernel) (by decide +kernel)
set_option maxRecDepth 20000 in
theorem gX7_row_X7_isWithin : GoodIn wsX7_row (va_wsS RX7 66 yX7_isWithin wsX7_isWithin) := goodIn_app (goodIn_of _ (by decide +kernel)) ggX7_row_X7_isWithin
set_option maxRecDepth 20000 in
theorem ggX7_row_X7_found : GoodIn wsX7_row wsX7_found := goodIn_r _ [14, 15, 16, 28, 29, 30, 31, 32, 33, 34, 35, 36] (by decide +kernel) (by decide +kernel)
set_option maxRecDepth 20000 in
theorem gX7_row_X7_found : GoodIn wsX7_row (wsV RX7 71 RX7 yX7_found wsX7_found) := goodIn_app (goodIn_of _ (by decide +kernel)) ggX7_row_X7_found
set_option maxRecDepth 20000 in
theorem ggX7_row_X5_lay : GoodIn wsX7_row wsX5_lay := goodIn_r _ [20, 21, 22, 23, 37, 38, 39] (by decide +kernel) (by decide +kernel)
set_option maxRecDepth 20000 in
theorem gX7_row_X5_lay : GoodIn wsX7_row (wsV RX7 75 RX5 yX5_lay wsX5_lay) := goodIn_app (goodIn_of _ (by decide +kernel)) ggX7_row_X5_lay
set_option maxRecDepth 20000 in
theorem ggX7_row_X7_foundNothing : GoodIn wsX7_row wsX7_foundNothing := goodIn_r _ [27, 15, 28, 29, 30, 31, 32, 33, 34, 35, 36] (by decide +kernel) (by decide +kernel)
set_option maxRecDepth 20000 in
theorem gX7_row_X7_foundNothing : GoodIn wsX7_row (wsV RX7 79 RX7 yX7_foundNothing wsX7_foundNothing) := goodIn_app (goodIn_of _ (by decide +kernel)) ggX7_row_X7_foundNothing
theorem dX7_row_0 : decode cX7_row 0 = .ok (.iload_n 1, 1) := by decide +kernel
theorem dX7_row_1 : decode cX7_row 1 = .ok (.invokestatic 62, 3) := by decide +kernel
theorem dX7_row_4 : decode cX7_row 4 = .ok (.ifCond .eq 18, 3) := by decide +kernel
theorem dX7_row_7 : decode cX7_row 7 = .ok (.iload_n 2, 1) := by decide +kernel
theorem dX7_row_8 : decode cX7_row 8 = .ok (.iconst 0, 1) := by decide +kernel
theorem dX7_row_9 : decode cX7_row 9 = .ok (.iconst 2, 1) := by decide +kernel
theorem dX7_row_10 : decode cX7_row 10 = .ok (.invokestatic 66, 3) := by decide +kernel
theorem dX7_row_13 : decode cX7_row 13 = .ok (.ifCond .eq 9, 3) := by decide +kernel
theorem dX7_row_16 : decode cX7_row 16 = .ok (.iload_n 3, 1) := by decide +kernel
theorem dX7_row_17 : decode cX7_row 17 = .ok (.bipush 40, 2) := by decide +kernel
theorem dX7_row_19 : decode cX7_row 19 = .ok (.if_icmp .le 6, 3) := by decide +kernel
theorem dX7_row_22 : decode cX7_row 22 = .ok (.ldc 70, 2) := by decide +kernel
theorem dX7_row_24 : decode cX7_row 24 = .ok (.ireturn, 1) := by decide +kernel
theorem dX7_row_25 : decode cX7_row 25 = .ok (.iload_n 3, 1) := by decide +kernel
theorem dX7_row_26 : decode cX7_row 26 = .ok (.ifCond .ge 9, 3) := by decide +kernel
theorem dX7_row_29 : decode cX7_row 29 = .ok (.aload_n 0, 1) := by decide +kernel
theorem dX7_row_30 : decode cX7_row 30 = .ok (.iconst 4, 1) := by decide +kernel
theorem dX7_row_31 : decode cX7_row 31 = .ok (.invokevirtual 71, 3) := by decide +kernel
theorem dX7_row_34 : decode cX7_row 34 = .ok (.ireturn, 1) := by decide +kernel
theorem dX7_row_35 : decode cX7_row 35 = .ok (.aload_n 0, 1) := by decide +kernel
theorem dX7_row_36 : decode cX7_row 36 = .ok (.getfield 10, 3) := by decide +kernel
theorem dX7_row_39 : decode cX7_row 39 = .ok (.iload_n 1, 1) := by decide +kernel
theorem dX7_row_40 : decode cX7_row 40 = .ok (.iload_n 2, 1) := by decide +kernel
theorem dX7_row_41 : decode cX7_row 41 = .ok (.iload_n 3, 1) := by decide +kernel
theorem dX7_row_42 : decode cX7_row 42 = .ok (.invokevirtual 75, 3) := by decide +kernel
theorem dX7_row_45 : decode cX7_row 45 = .ok (.aload_n 0, 1) := by decide +kernel
theorem dX7_row_46 : decode cX7_row 46 = .ok (.iload_n 3, 1) := by decide +kernel
theorem dX7_row_47 : decode cX7_row 47 = .ok (.invokevirtual 79, 3) := by decide +kernel
theorem dX7_row_50 : decode cX7_row 50 = .ok (.ireturn, 1) := by decide +kernel
set_option maxRecDepth 20000 in
theorem ggX7_set_X5_isRow : GoodIn wsX7_set wsX5_isRow := goodIn_r _ [6] (by decide +kernel) (by decide +kernel)
set_option maxRecDepth 20000 in
theorem gX7_set_X5_isRow : GoodIn wsX7_set (va_wsS RX7 62 yX5_isRow wsX5_isRow) := goodIn_app (goodIn_of _ (by decide +kernel)) ggX7_set_X5_isRow
set_option maxRecDepth 20000 in
theorem ggX7_set_X5_findingOf : GoodIn wsX7_set wsX5_findingOf := goodIn_r _ [10, 11, 12, 13, 5, 14, 15, 16, 17, 18, 19, 49, 50, 51] (by decide +kernel) (by decide +kernel)
set_option maxRecDepth 20000 in
theorem gX7_set_X5_findingOf : GoodIn wsX7_set (wsV RX7 82 RX5 yX5_findingOf wsX5_findingOf) := goodIn_app (goodIn_of _ (by decide +kernel)) ggX7_set_X5_findingOf
set_option maxRecDepth 20000 in
theorem ggX7_set_X7_found : GoodIn wsX7_set wsX7_found := goodIn_r _ [24, 25, 26, 40, 41, 42, 43, 44, 45, 46, 47, 48] (by decide +kernel) (by decide +kernel)
set_option maxRecDepth 20000 in
theorem gX7_set_X7_found : GoodIn wsX7_set (wsV RX7 71 RX7 yX7_found wsX7_found) := goodIn_app (goodIn_of _ (by decide +kernel)) ggX7_set_X7_found
set_option maxRecDepth 20000 in
theorem ggX7_set_X5_put : GoodIn wsX7_set wsX5_put := goodIn_r _ [30, 31, 32, 33, 34, 5, 35, 49, 50, 51] (by decide +kernel) (by decide +kernel)
set_option maxRecDepth 20000 in
theorem gX7_set_X5_put : GoodIn wsX7_set (wsV RX7 86 RX5 yX5_put wsX5_put) := goodIn_app (goodIn_of _ (by decide +kernel)) ggX7_set_X5_put
set_option maxRecDepth 20000 in
theorem ggX7_set_X7_foundNothing : GoodIn wsX7_set wsX7_foundNothing := goodIn_r _ [39, 25, 40, 41, 42, 43, 44, 45, 46, 47, 48] (by decide +kernel) (by decide +kernel)
set_option maxRecDepth 20000 in
theorem gX7_set_X7_foundNothing : GoodIn wsX7_set (wsV RX7 79 RX7 yX7_foundNothing wsX7_foundNothing) := goodIn_app (goodIn_of _ (by decide +kernel)) ggX7_set_X7_foundNothing
theorem dX7_set_0 : decode cX7_set 0 = .ok (.iload_n 1, 1) := by decide +kernel
theorem dX7_set_1 : decode cX7_set 1 = .ok (.invokestatic 62, 3) := by decide +kernel
theorem dX7_set_4 : decode cX7_set 4 = .ok (.ifCond .ne 6, 3) := by decide +kernel
theorem dX7_set_7 : decode cX7_set 7 = .ok (.ldc 70, 2) := by decide +kernel
theorem dX7_set_9 : decode cX7_set 9 = .ok (.ireturn, 1) := by decide +kernel
theorem dX7_set_10 : decode cX7_set 10 = .ok (.aload_n 0, 1) := by decide +kernel
theorem dX7_set_11 : decode cX7_set 11 = .ok (.getfield 10, 3) := by decide +kernel
theorem dX7_set_14 : decode cX7_set 14 = .ok (.iload_n 1, 1) := by decide +kernel
theorem dX7_set_15 : decode cX7_set 15 = .ok (.iload_n 2, 1) := by decide +kernel
theorem dX7_set_16 : decode cX7_set 16 = .ok (.iconst 1, 1) := by decide +kernel
theorem dX7_set_17 : decode cX7_set 17 = .ok (.invokevirtual 82, 3) := by decide +kernel
theorem dX7_set_20 : decode cX7_set 20 = .ok (.istore 4, 2) := by decide +kernel
theorem dX7_set_22 : decode cX7_set 22 = .ok (.iload 4, 2) := by decide +kernel
theorem dX7_set_24 : decode cX7_set 24 = .ok (.ifCond .eq 10, 3) := by decide +kernel
theorem dX7_set_27 : decode cX7_set 27 = .ok (.aload_n 0, 1) := by decide +kernel
theorem dX7_set_28 : decode cX7_set 28 = .ok (.iload 4, 2) := by decide +kernel
theorem dX7_set_30 : decode cX7_set 30 = .ok (.invokevirtual 71, 3) := by decide +kernel
theorem dX7_set_33 : decode cX7_set 33 = .ok (.ireturn, 1) := by decide +kernel
theorem dX7_set_34 : decode cX7_set 34 = .ok (.aload_n 0, 1) := by decide +kernel
theorem dX7_set_35 : decode cX7_set 35 = .ok (.aload_n 0, 1) := by decide +kernel
theorem dX7_set_36 : decode cX7_set 36 = .ok (.getfield 10, 3) := by decide +kernel
theorem dX7_set_39 : decode cX7_set 39 = .ok (.iload_n 1, 1) := by decide +kernel
theorem dX7_set_40 : decode cX7_set 40 = .ok (.iload_n 2, 1) := by decide +kernel
theorem dX7_set_41 : decode cX7_set 41 = .ok (.iload_n 3, 1) := by decide +kernel
theorem dX7_set_42 : decode cX7_set 42 = .ok (.invokevirtual 86, 3) := by decide +kernel
theorem dX7_set_45 : decode cX7_set 45 = .ok (.invokevirtual 79, 3) := by decide +kernel
theorem dX7_set_48 : decode cX7_set 48 = .ok (.ireturn, 1) := by decide +kernel
set_option maxRecDepth 20000 in
theorem ggX7_copy_X5_isRow : GoodIn wsX7_copy wsX5_isRow := goodIn_r _ [6] (by decide +kernel) (by decide +kernel)
set_option maxRecDepth 20000 in
theorem gX7_copy_X5_isRow : GoodIn wsX7_copy (va_wsS RX7 62 yX5_isRow wsX5_isRow) := goodIn_app (goodIn_of _ (by decide +kernel)) ggX7_copy_X5_isRow
set_option maxRecDepth 20000 in
theorem ggX7_copy_X5_isMissing : GoodIn wsX7_copy wsX5_isMissing := goodIn_r _ [10, 11, 50, 51, 52] (by decide +kernel) (by decide +kernel)
set_option maxRecDepth 20000 in
theorem gX7_copy_X5_isMissing : GoodIn wsX7_copy (wsV RX7 89 RX5 yX5_isMissing wsX5_isMissing) := goodIn_app (goodIn_of _ (by decide +kernel)) ggX7_copy_X5_isMissing
set_option maxRecDepth 20000 in
theorem ggX7_copy_X7_found : GoodIn wsX7_copy wsX7_found := goodIn_r _ [16, 17, 18, 41, 42, 43, 44, 45, 46, 47, 48, 49] (by decide +kernel) (by decide +kernel)
set_option maxRecDepth 20000 in
theorem gX7_copy_X7_found : GoodIn wsX7_copy (wsV RX7 71 RX7 yX7_found wsX7_found) := goodIn_app (goodIn_of _ (by decide +kernel)) ggX7_copy_X7_found
set_option maxRecDepth 20000 in
theorem ggX7_copy_X5_areAlike : GoodIn wsX7_copy wsX5_areAlike := goodIn_r _ [22, 23, 50, 51, 52] (by decide +kernel) (by decide +kernel)
set_option maxRecDepth 20000 in
theorem gX7_copy_X5_areAlike : GoodIn wsX7_copy (wsV RX7 92 RX5 yX5_areAlike wsX5_areAlike) := goodIn_app (goodIn_of _ (by decide +kernel)) ggX7_copy_X5_areAlike
set_option maxRecDepth 20000 in
theorem ggX7_copy_X5_reaches : GoodIn wsX7_copy wsX5_reaches := goodIn_r _ [27, 11, 50, 51, 52] (by decide +kernel) (by decide +kernel)
set_option maxRecDepth 20000 in
theorem gX7_copy_X5_reaches : GoodIn wsX7_copy (wsV RX7 96 RX5 yX5_reaches wsX5_reaches) := goodIn_app (goodIn_of _ (by decide +kernel)) ggX7_copy_X5_reaches
set_option maxRecDepth 20000 in
theorem ggX7_copy_X5_carry : GoodIn wsX7_copy wsX5_carry := goodIn_r _ [31, 32, 33, 34, 35, 36, 50, 51, 52] (by decide +kernel) (by decide +kernel)
set_option maxRecDepth 20000 in
theorem gX7_copy_X5_carry : GoodIn wsX7_copy (wsV RX7 99 RX5 yX5_carry wsX5_carry) := goodIn_app (goodIn_of _ (by decide +kernel)) ggX7_copy_X5_carry
set_option maxRecDepth 20000 in
theorem ggX7_copy_X7_foundNothing : GoodIn wsX7_copy wsX7_foundNothing := goodIn_r _ [40, 17, 41, 42, 43, 44, 45, 46, 47, 48, 49] (by decide +kernel) (by decide +kernel)
set_option maxRecDepth 20000 in
theorem gX7_copy_X7_foundNothing : GoodIn wsX7_copy (wsV RX7 79 RX7 yX7_foundNothing wsX7_foundNothing) := goodIn_app (goodIn_of _ (by decide +kernel)) ggX7_copy_X7_foundNothing
theorem dX7_copy_0 : decode cX7_copy 0 = .ok (.iload_n 1, 1) := by decide +kernel
theorem dX7_copy_1 : decode cX7_copy 1 = .ok (.invokestatic 62, 3) := by decide +kernel
theorem dX7_copy_4 : decode cX7_copy 4 = .ok (.ifCond .eq 10, 3) := by decide +kernel
theorem dX7_copy_7 : decode cX7_copy 7 = .ok (.iload_n 3, 1) := by decide +kernel
theorem dX7_copy_8 : decode cX7_copy 8 = .ok (.invokestatic 62, 3) := by decide +kernel
theorem dX7_copy_11 : decode cX7_copy 11 = .ok (.ifCond .ne 6, 3) := by decide +kernel
theorem dX7_copy_14 : decode cX7_copy 14 = .ok (.ldc 70, 2) := by decide +kernel
theorem dX7_copy_16 : decode cX7_copy 16 = .ok (.ireturn, 1) := by decide +kernel
theorem dX7_copy_17 : decode cX7_copy 17 = .ok (.aload_n 0, 1) := by decide +kernel
theorem dX7_copy_18 : decode cX7_copy 18 = .ok (.getfield 10, 3) := by decide +kernel
theorem dX7_copy_21 : decode cX7_copy 21 = .ok (.iload_n 1, 1) := by decide +kernel
theorem dX7_copy_22 : decode cX7_copy 22 = .ok (.invokevirtual 89, 3) := by decide +kernel
theorem dX7_copy_25 : decode cX7_copy 25 = .ok (.ifCond .ne 14, 3) := by decide +kernel
theorem dX7_copy_28 : decode cX7_copy 28 = .ok (.aload_n 0, 1) := by decide +kernel
theorem dX7_copy_29 : decode cX7_copy 29 = .ok (.getfield 10, 3) := by decide +kernel
theorem dX7_copy_32 : decode cX7_copy 32 = .ok (.iload_n 3, 1) := by decide +kernel
theorem dX7_copy_33 : decode cX7_copy 33 = .ok (.invokevirtual 89, 3) := by decide +kernel
theorem dX7_copy_36 : decode cX7_copy 36 = .ok (.ifCond .eq 9, 3) := by decide +kernel
theorem dX7_copy_39 : decode cX7_copy 39 = .ok (.aload_n 0, 1) := by decide +kernel
theorem dX7_copy_40 : decode cX7_copy 40 = .ok (.iconst 1, 1) := by decide +kernel
theorem dX7_copy_41 : decode cX7_copy 41 = .ok (.invokevirtual 71, 3) := by decide +kernel
theorem dX7_copy_44 : decode cX7_copy 44 = .ok (.ireturn, 1) := by decide +kernel
theorem dX7_copy_45 : decode cX7_copy 45 = .ok (.aload_n 0, 1) := by decide +kernel
theorem dX7_copy_46 : decode cX7_copy 46 = .ok (.getfield 10, 3) := by decide +kernel
theorem dX7_copy_49 : decode cX7_copy 49 = .ok (.iload_n 1, 1) := by decide +kernel
theorem dX7_copy_50 : decode cX7_copy 50 = .ok (.iload_n 3, 1) := by decide +kernel
theorem dX7_copy_51 : decode cX7_copy 51 = .ok (.invokevirtual 92, 3) := by decide +kernel
theorem dX7_copy_54 : decode cX7_copy 54 = .ok (.ifCond .ne 9, 3) := by decide +kernel
theorem dX7_copy_57 : decode cX7_copy 57 = .ok (.aload_n 0, 1) := by decide +kernel
theorem dX7_copy_58 : decode cX7_copy 58 = .ok (.iconst 5, 1) := by decide +kernel
theorem dX7_copy_59 : decode cX7_copy 59 = .ok (.invokevirtual 71, 3) := by decide +kernel
theorem dX7_copy_62 : decode cX7_copy 62 = .ok (.ireturn, 1) := by decide +kernel
theorem dX7_copy_63 : decode cX7_copy 63 = .ok (.aload_n 0, 1) := by decide +kernel
theorem dX7_copy_64 : decode cX7_copy 64 = .ok (.getfield 10, 3) := by decide +kernel
theorem dX7_copy_67 : decode cX7_copy 67 = .ok (.iload_n 1, 1) := by decide +kernel
theorem dX7_copy_68 : decode cX7_copy 68 = .ok (.iload_n 2, 1) := by decide +kernel
theorem dX7_copy_69 : decode cX7_copy 69 = .ok (.iload 5, 2) := by decide +kernel
theorem dX7_copy_71 : decode cX7_copy 71 = .ok (.invokevirtual 96, 3) := by decide +kernel
theorem dX7_copy_74 : decode cX7_copy 74 = .ok (.ifCond .eq 18, 3) := by decide +kernel
theorem dX7_copy_77 : decode cX7_copy 77 = .ok (.aload_n 0, 1) := by decide +kernel
theorem dX7_copy_78 : decode cX7_copy 78 = .ok (.getfield 10, 3) := by decide +kernel
theorem dX7_copy_81 : decode cX7_copy 81 = .ok (.iload_n 3, 1) := by decide +kernel
theorem dX7_copy_82 : decode cX7_copy 82 = .ok (.iload 4, 2) := by decide +kernel
theorem dX7_copy_84 : decode cX7_copy 84 = .ok (.iload 5, 2) := by decide +kernel
theorem dX7_copy_86 : decode cX7_copy 86 = .ok (.invokevirtual 96, 3) := by decide +kernel
theorem dX7_copy_89 : decode cX7_copy 89 = .ok (.ifCond .ne 9, 3) := by decide +kernel
theorem dX7_copy_92 : decode cX7_copy 92 = .ok (.aload_n 0, 1) := by decide +kernel
theorem dX7_copy_93 : decode cX7_copy 93 = .ok (.iconst 2, 1) := by decide +kernel
theorem dX7_copy_94 : decode cX7_copy 94 = .ok (.invokevirtual 71, 3) := by decide +kernel
theorem dX7_copy_97 : decode cX7_copy 97 = .ok (.ireturn, 1) := by decide +kernel
theorem dX7_copy_98 : decode cX7_copy 98 = .ok (.aload_n 0, 1) := by decide +kernel
theorem dX7_copy_99 : decode cX7_copy 99 = .ok (.getfield 10, 3) := by decide +kernel
theorem dX7_copy_102 : decode cX7_copy 102 = .ok (.iload_n 1, 1) := by decide +kernel
theorem dX7_copy_103 : decode cX7_copy 103 = .ok (.iload_n 2, 1) := by decide +kernel
theorem dX7_copy_104 : decode cX7_copy 104 = .ok (.iload_n 3, 1) := by decide +kernel
theorem dX7_copy_105 : decode cX7_copy 105 = .ok (.iload 4, 2) := by decide +kernel
theorem dX7_copy_107 : decode cX7_copy 107 = .ok (.iload 5, 2) := by decide +kernel
theorem dX7_copy_109 : decode cX7_copy 109 = .ok (.invokevirtual 99, 3) := by decide +kernel
theorem dX7_copy_112 : decode cX7_copy 112 = .ok (.aload_n 0, 1) := by decide +kernel
theorem dX7_copy_113 : decode cX7_copy 113 = .ok (.iload 5, 2) := by decide +kernel
theorem dX7_copy_115 : decode cX7_copy 115 = .ok (.invokevirtual 79, 3) := by decide +kernel
theorem dX7_copy_118 : decode cX7_copy 118 = .ok (.ireturn, 1) := by decide +kernel
set_option maxRecDepth 20000 in
theorem ggX7_drop_X5_isRow : GoodIn wsX7_drop wsX5_isRow := goodIn_r _ [6] (by decide +kernel) (by decide +kernel)
set_option maxRecDepth 20000 in
theorem gX7_drop_X5_isRow : GoodIn wsX7_drop (va_wsS RX7 62 yX5_isRow wsX5_isRow) := goodIn_app (goodIn_of _ (by decide +kernel)) ggX7_drop_X5_isRow
set_option maxRecDepth 20000 in
theorem ggX7_drop_X5_isMissing : GoodIn wsX7_drop wsX5_isMissing := goodIn_r _ [10, 11, 36, 37, 38] (by decide +kernel) (by decide +kernel)
set_option maxRecDepth 20000 in
theorem gX7_drop_X5_isMissing : GoodIn wsX7_drop (wsV RX7 89 RX5 yX5_isMissing wsX5_isMissing) := goodIn_app (goodIn_of _ (by decide +kernel)) ggX7_drop_X5_isMissing
set_option maxRecDepth 20000 in
theorem ggX7_drop_X7_found : GoodIn wsX7_drop wsX7_found := goodIn_r _ [16, 17, 18, 27, 28, 29, 30, 31, 32, 33, 34, 35] (by decide +kernel) (by decide +kernel)
set_option maxRecDepth 20000 in
theorem gX7_drop_X7_found : GoodIn wsX7_drop (wsV RX7 71 RX7 yX7_found wsX7_found) := goodIn_app (goodIn_of _ (by decide +kernel)) ggX7_drop_X7_found
set_option maxRecDepth 20000 in
theorem ggX7_drop_X5_takeAway : GoodIn wsX7_drop wsX5_takeAway := goodIn_r _ [22, 11, 36, 37, 38] (by decide +kernel) (by decide +kernel)
set_option maxRecDepth 20000 in
theorem gX7_drop_X5_takeAway : GoodIn wsX7_drop (wsV RX7 103 RX5 yX5_takeAway wsX5_takeAway) := goodIn_app (goodIn_of _ (by decide +kernel)) ggX7_drop_X5_takeAway
set_option maxRecDepth 20000 in
theorem ggX7_drop_X7_foundNothing : GoodIn wsX7_drop wsX7_foundNothing := goodIn_r _ [26, 17, 27, 28, 29, 30, 31, 32, 33, 34, 35] (by decide +kernel) (by decide +kernel)
set_option maxRecDepth 20000 in
theorem gX7_drop_X7_foundNothing : GoodIn wsX7_drop (wsV RX7 79 RX7 yX7_foundNothing wsX7_foundNothing) := goodIn_app (goodIn_of _ (by decide +kernel)) ggX7_drop_X7_foundNothing
theorem dX7_drop_0 : decode cX7_drop 0 = .ok (.iload_n 1, 1) := by decide +kernel
theorem dX7_drop_1 : decode cX7_drop 1 = .ok (.invokestatic 62, 3) := by decide +kernel
theorem dX7_drop_4 : decode cX7_drop 4 = .ok (.ifCond .ne 6, 3) := by decide +kernel
theorem dX7_drop_7 : decode cX7_drop 7 = .ok (.ldc 70, 2) := by decide +kernel
theorem dX7_drop_9 : decode cX7_drop 9 = .ok (.ireturn, 1) := by decide +kernel
theorem dX7_drop_10 : decode cX7_drop 10 = .ok (.aload_n 0, 1) := by decide +kernel
theorem dX7_drop_11 : decode cX7_drop 11 = .ok (.getfield 10, 3) := by decide +kernel
theorem dX7_drop_14 : decode cX7_drop 14 = .ok (.iload_n 1, 1) := by decide +kernel
theorem dX7_drop_15 : decode cX7_drop 15 = .ok (.invokevirtual 89, 3) := by decide +kernel
theorem dX7_drop_18 : decode cX7_drop 18 = .ok (.ifCond .eq 9, 3) := by decide +kernel
theorem dX7_drop_21 : decode cX7_drop 21 = .ok (.aload_n 0, 1) := by decide +kernel
theorem dX7_drop_22 : decode cX7_drop 22 = .ok (.iconst 1, 1) := by decide +kernel
theorem dX7_drop_23 : decode cX7_drop 23 = .ok (.invokevirtual 71, 3) := by decide +kernel
theorem dX7_drop_26 : decode cX7_drop 26 = .ok (.ireturn, 1) := by decide +kernel
theorem dX7_drop_27 : decode cX7_drop 27 = .ok (.aload_n 0, 1) := by decide +kernel
theorem dX7_drop_28 : decode cX7_drop 28 = .ok (.aload_n 0, 1) := by decide +kernel
theorem dX7_drop_29 : decode cX7_drop 29 = .ok (.getfield 10, 3) := by decide +kernel
theorem dX7_drop_32 : decode cX7_drop 32 = .ok (.iload_n 1, 1) := by decide +kernel
theorem dX7_drop_33 : decode cX7_drop 33 = .ok (.invokevirtual 103, 3) := by decide +kernel
theorem dX7_drop_36 : decode cX7_drop 36 = .ok (.invokevirtual 79, 3) := by decide +kernel
theorem dX7_drop_39 : decode cX7_drop 39 = .ok (.ireturn, 1) := by decide +kernel
set_option maxRecDepth 20000 in
theorem ggX7_feed_X7_isWithin : GoodIn wsX7_feed wsX7_isWithin := goodIn_r _ [7] (by decide +kernel) (by decide +kernel)
set_option maxRecDepth 20000 in
theorem gX7_feed_X7_isWithin : GoodIn wsX7_feed (va_wsS RX7 66 yX7_isWithin wsX7_isWithin) := goodIn_app (goodIn_of _ (by decide +kernel)) ggX7_feed_X7_isWithin
set_option maxRecDepth 20000 in
theorem ggX7_feed_X4_isFull : GoodIn wsX7_feed wsX4_isFull := goodIn_r _ [12, 13, 29, 30, 31, 32, 33, 34] (by decide +kernel) (by decide +kernel)
set_option maxRecDepth 20000 in
theorem gX7_feed_X4_isFull : GoodIn wsX7_feed (wsV RX7 106 RX4 yX4_isFull wsX4_isFull) := goodIn_app (goodIn_of _ (by decide +kernel)) ggX7_feed_X4_isFull
set_option maxRecDepth 20000 in
theorem ggX7_feed_X4_append : GoodIn wsX7_feed wsX4_append := goodIn_r _ [17, 18, 13, 19, 9, 10, 11, 12, 29, 30, 31, 32, 33, 34] (by decide +kernel) (by decide +kernel)
set_option maxRecDepth 20000 in
theorem gX7_feed_X4_append : GoodIn wsX7_feed (wsV RX7 111 RX4 yX4_append wsX4_append) := goodIn_app (goodIn_of _ (by decide +kernel)) ggX7_feed_X4_append
theorem dX7_feed_0 : decode cX7_feed 0 = .ok (.iload_n 1, 1) := by decide +kernel
theorem dX7_feed_1 : decode cX7_feed 1 = .ok (.iconst 0, 1) := by decide +kernel
theorem dX7_feed_2 : decode cX7_feed 2 = .ok (.sipush 255, 3) := by decide +kernel
theorem dX7_feed_5 : decode cX7_feed 5 = .ok (.invokestatic 66, 3) := by decide +kernel
theorem dX7_feed_8 : decode cX7_feed 8 = .ok (.ifCond .ne 6, 3) := by decide +kernel
theorem dX7_feed_11 : decode cX7_feed 11 = .ok (.ldc 70, 2) := by decide +kernel
theorem dX7_feed_13 : decode cX7_feed 13 = .ok (.ireturn, 1) := by decide +kernel
theorem dX7_feed_14 : decode cX7_feed 14 = .ok (.aload_n 0, 1) := by decide +kernel
theorem dX7_feed_15 : decode cX7_feed 15 = .ok (.getfield 19, 3) := by decide +kernel
theorem dX7_feed_18 : decode cX7_feed 18 = .ok (.invokevirtual 106, 3) := by decide +kernel
theorem dX7_feed_21 : decode cX7_feed 21 = .ok (.ifCond .eq 8, 3) := by decide +kernel
theorem dX7_feed_24 : decode cX7_feed 24 = .ok (.ldc 110, 2) := by decide +kernel
theorem dX7_feed_26 : decode cX7_feed 26 = .ok (.goto 11, 3) := by decide +kernel
theorem dX7_feed_29 : decode cX7_feed 29 = .ok (.aload_n 0, 1) := by decide +kernel
theorem dX7_feed_30 : decode cX7_feed 30 = .ok (.getfield 19, 3) := by decide +kernel
theorem dX7_feed_33 : decode cX7_feed 33 = .ok (.iload_n 1, 1) := by decide +kernel
theorem dX7_feed_34 : decode cX7_feed 34 = .ok (.invokevirtual 111, 3) := by decide +kernel
theorem dX7_feed_37 : decode cX7_feed 37 = .ok (.ireturn, 1) := by decide +kernel
set_option maxRecDepth 20000 in
theorem ggX7_city_X4_reads : GoodIn wsX7_city wsX4_reads := goodIn_r _ [12, 13, 14, 15, 16, 17, 18, 11, 19, 20, 21, 22, 23, 24, 25, 26, 27, 28, 29, 30, 31, 32, 33, 34, 35, 36, 37, 38, 39, 40, 41, 42, 43, 44, 45, 46, 47, 48, 49, 50, 51, 52, 53, 54, 55, 56, 57, 58, 59, 60, 61, 62, 63, 64, 65, 66, 67, 68, 69, 70, 71, 72, 73, 74, 75, 76, 77, 108, 109, 110, 111, 112, 113, 114, 115, 116, 117, 118, 119, 120, 121, 122, 123, 124, 125, 126] (by decide +kernel) (by decide +kernel)
set_option maxRecDepth 20000 in
theorem gX7_city_X4_reads : GoodIn wsX7_city (wsV RX7 114 RX4 yX4_reads wsX4_reads) := goodIn_app (goodIn_of _ (by decide +kernel)) ggX7_city_X4_reads
set_option maxRecDepth 20000 in
theorem ggX7_city_X2_become : GoodIn wsX7_city wsX2_become := goodIn_r _ [81, 51, 52, 53, 54, 55, 56, 82, 83, 84, 85, 86, 87, 88, 89, 90, 91, 92, 114, 115, 116, 117, 118, 119, 120, 121, 122, 123, 124, 125, 126] (by decide +kernel) (by decide +kernel)
set_option maxRecDepth 20000 in
theorem gX7_city_X2_become : GoodIn wsX7_city (wsV RX7 122 RX2 yX2_become wsX2_become) := goodIn_app (goodIn_of _ (by decide +kernel)) ggX7_city_X2_become
set_option maxRecDepth 20000 in
theorem ggX7_city_X0_forgetAll : GoodIn wsX7_city wsX0_forgetAll := goodIn_r _ [97, 98, 127, 128, 129, 130, 131] (by decide +kernel) (by decide +kernel)
set_option maxRecDepth 20000 in
theorem gX7_city_X0_forgetAll : GoodIn wsX7_city (wsV RX7 126 RX0 yX0_forgetAll wsX0_forgetAll) := goodIn_app (goodIn_of _ (by decide +kernel)) ggX7_city_X0_forgetAll
theorem dX7_city_0 : decode cX7_city 0 = .ok (.aload_n 0, 1) := by decide +kernel
theorem dX7_city_1 : decode cX7_city 1 = .ok (.getfield 19, 3) := by decide +kernel
theorem dX7_city_4 : decode cX7_city 4 = .ok (.aload_n 0, 1) := by decide +kernel
theorem dX7_city_5 : decode cX7_city 5 = .ok (.getfield 30, 3) := by decide +kernel
theorem dX7_city_8 : decode cX7_city 8 = .ok (.invokevirtual 114, 3) := by decide +kernel
theorem dX7_city_11 : decode cX7_city 11 = .ok (.ifCond .ne 14, 3) := by decide +kernel
theorem dX7_city_14 : decode cX7_city 14 = .ok (.ldc 118, 2) := by decide +kernel
theorem dX7_city_16 : decode cX7_city 16 = .ok (.aload_n 0, 1) := by decide +kernel
theorem dX7_city_17 : decode cX7_city 17 = .ok (.getfield 19, 3) := by decide +kernel
theorem dX7_city_20 : decode cX7_city 20 = .ok (.getfield 119, 3) := by decide +kernel
theorem dX7_city_23 : decode cX7_city 23 = .ok (.isub, 1) := by decide +kernel
theorem dX7_city_24 : decode cX7_city 24 = .ok (.ireturn, 1) := by decide +kernel
theorem dX7_city_25 : decode cX7_city 25 = .ok (.aload_n 0, 1) := by decide +kernel
theorem dX7_city_26 : decode cX7_city 26 = .ok (.getfield 26, 3) := by decide +kernel
theorem dX7_city_29 : decode cX7_city 29 = .ok (.aload_n 0, 1) := by decide +kernel
theorem dX7_city_30 : decode cX7_city 30 = .ok (.getfield 30, 3) := by decide +kernel
theorem dX7_city_33 : decode cX7_city 33 = .ok (.invokevirtual 122, 3) := by decide +kernel
theorem dX7_city_36 : decode cX7_city 36 = .ok (.aload_n 0, 1) := by decide +kernel
theorem dX7_city_37 : decode cX7_city 37 = .ok (.getfield 40, 3) := by decide +kernel
theorem dX7_city_40 : decode cX7_city 40 = .ok (.invokevirtual 126, 3) := by decide +kernel
theorem dX7_city_43 : decode cX7_city 43 = .ok (.aload_n 0, 1) := by decide +kernel
theorem dX7_city_44 : decode cX7_city 44 = .ok (.getfield 26, 3) := by decide +kernel
theorem dX7_city_47 : decode cX7_city 47 = .ok (.getfield 129, 3) := by decide +kernel
theorem dX7_city_50 : decode cX7_city 50 = .ok (.ireturn, 1) := by decide +kernel
theorem dX7_fault_0 : decode cX7_fault 0 = .ok (.aload_n 0, 1) := by decide +kernel
theorem dX7_fault_1 : decode cX7_fault 1 = .ok (.getfield 19, 3) := by decide +kernel
theorem dX7_fault_4 : decode cX7_fault 4 = .ok (.getfield 132, 3) := by decide +kernel
theorem dX7_fault_7 : decode cX7_fault 7 = .ok (.ireturn, 1) := by decide +kernel
set_option maxRecDepth 20000 in
theorem ggX7_make_X7_isGesture : GoodIn wsX7_make wsX7_isGesture := goodIn_r _ [13, 2, 14, 64, 65, 66, 67, 68, 69, 70, 71, 72, 73, 74, 75, 76, 77, 78, 79, 80, 81, 82, 83, 84, 85] (by decide +kernel) (by decide +kernel)
set_option maxRecDepth 20000 in
theorem gX7_make_X7_isGesture : GoodIn wsX7_make (wsV RX7 135 RX7 yX7_isGesture wsX7_isGesture) := goodIn_app (goodIn_of _ (by decide +kernel)) ggX7_make_X7_isGesture
set_option maxRecDepth 20000 in
theorem ggX7_make_X7_isStreet : GoodIn wsX7_make wsX7_isStreet := goodIn_r _ [18, 2, 19, 64, 65, 66, 67, 68, 69, 70, 71, 72, 73, 74, 75, 76, 77, 78, 79, 80, 81, 82, 83, 84, 85] (by decide +kernel) (by decide +kernel)
set_option maxRecDepth 20000 in
theorem gX7_make_X7_isStreet : GoodIn wsX7_make (wsV RX7 138 RX7 yX7_isStreet wsX7_isStreet) := goodIn_app (goodIn_of _ (by decide +kernel)) ggX7_make_X7_isStreet
set_option maxRecDepth 20000 in
theorem ggX7_make_X2_isSeen : GoodIn wsX7_make wsX2_isSeen := goodIn_r _ [24, 25, 26, 27, 73, 74, 75, 76, 77, 78, 79, 80, 81, 82, 83, 84, 85] (by decide +kernel) (by decide +kernel)
set_option maxRecDepth 20000 in
theorem gX7_make_X2_isSeen : GoodIn wsX7_make (wsV RX7 141 RX2 yX2_isSeen wsX2_isSeen) := goodIn_app (goodIn_of _ (by decide +kernel)) ggX7_make_X2_isSeen
set_option maxRecDepth 20000 in
theorem ggX7_make_X2_owes : GoodIn wsX7_make wsX2_owes := goodIn_r _ [31, 25, 26, 32, 33, 34, 23, 35, 36, 37, 38, 39, 40, 41, 42, 43, 44, 45, 46, 47, 48, 49, 50, 73, 74, 75, 76, 77, 78, 79, 80, 81, 82, 83, 84, 85] (by decide +kernel) (by decide +kernel)
set_option maxRecDepth 20000 in
theorem gX7_make_X2_owes : GoodIn wsX7_make (wsV RX7 145 RX2 yX2_owes wsX2_owes) := goodIn_app (goodIn_of _ (by decide +kernel)) ggX7_make_X2_owes
set_option maxRecDepth 20000 in
theorem ggX7_make_X0_keep : GoodIn wsX7_make wsX0_keep := goodIn_r _ [55, 56, 57, 58, 59, 60, 61, 62, 44, 63, 86, 87, 88, 89, 90] (by decide +kernel) (by decide +kernel)
set_option maxRecDepth 20000 in
theorem gX7_make_X0_keep : GoodIn wsX7_make (wsV RX7 157 RX0 yX0_keep wsX0_keep) := goodIn_app (goodIn_of _ (by decide +kernel)) ggX7_make_X0_keep
theorem dX7_make_0 : decode cX7_make 0 = .ok (.aload_n 0, 1) := by decide +kernel
theorem dX7_make_1 : decode cX7_make 1 = .ok (.iload_n 1, 1) := by decide +kernel
theorem dX7_make_2 : decode cX7_make 2 = .ok (.invokevirtual 135, 3) := by decide +kernel
theorem dX7_make_5 : decode cX7_make 5 = .ok (.ifCond .eq 11, 3) := by decide +kernel
theorem dX7_make_8 : decode cX7_make 8 = .ok (.aload_n 0, 1) := by decide +kernel
theorem dX7_make_9 : decode cX7_make 9 = .ok (.iload_n 2, 1) := by decide +kernel
theorem dX7_make_10 : decode cX7_make 10 = .ok (.invokevirtual 138, 3) := by decide +kernel
theorem dX7_make_13 : decode cX7_make 13 = .ok (.ifCond .ne 6, 3) := by decide +kernel
theorem dX7_make_16 : decode cX7_make 16 = .ok (.ldc 70, 2) := by decide +kernel
theorem dX7_make_18 : decode cX7_make 18 = .ok (.ireturn, 1) := by decide +kernel
theorem dX7_make_19 : decode cX7_make 19 = .ok (.aload_n 0, 1) := by decide +kernel
theorem dX7_make_20 : decode cX7_make 20 = .ok (.getfield 26, 3) := by decide +kernel
theorem dX7_make_23 : decode cX7_make 23 = .ok (.iload_n 1, 1) := by decide +kernel
theorem dX7_make_24 : decode cX7_make 24 = .ok (.iload_n 2, 1) := by decide +kernel
theorem dX7_make_25 : decode cX7_make 25 = .ok (.invokevirtual 141, 3) := by decide +kernel
theorem dX7_make_28 : decode cX7_make 28 = .ok (.ifCond .ne 6, 3) := by decide +kernel
theorem dX7_make_31 : decode cX7_make 31 = .ok (.ldc 144, 2) := by decide +kernel
theorem dX7_make_33 : decode cX7_make 33 = .ok (.ireturn, 1) := by decide +kernel
theorem dX7_make_34 : decode cX7_make 34 = .ok (.aload_n 0, 1) := by decide +kernel
theorem dX7_make_35 : decode cX7_make 35 = .ok (.getfield 26, 3) := by decide +kernel
theorem dX7_make_38 : decode cX7_make 38 = .ok (.iload_n 1, 1) := by decide +kernel
theorem dX7_make_39 : decode cX7_make 39 = .ok (.iload_n 2, 1) := by decide +kernel
theorem dX7_make_40 : decode cX7_make 40 = .ok (.invokevirtual 145, 3) := by decide +kernel
theorem dX7_make_43 : decode cX7_make 43 = .ok (.istore_n 3, 1) := by decide +kernel
theorem dX7_make_44 : decode cX7_make 44 = .ok (.aload_n 0, 1) := by decide +kernel
theorem dX7_make_45 : decode cX7_make 45 = .ok (.getfield 26, 3) := by decide +kernel
theorem dX7_make_48 : decode cX7_make 48 = .ok (.getfield 149, 3) := by decide +kernel
theorem dX7_make_51 : decode cX7_make 51 = .ok (.iload_n 3, 1) := by decide +kernel
theorem dX7_make_52 : decode cX7_make 52 = .ok (.iadd, 1) := by decide +kernel
theorem dX7_make_53 : decode cX7_make 53 = .ok (.ldc 152, 2) := by decide +kernel
theorem dX7_make_55 : decode cX7_make 55 = .ok (.if_icmp .le 6, 3) := by decide +kernel
theorem dX7_make_58 : decode cX7_make 58 = .ok (.ldc 110, 2) := by decide +kernel
theorem dX7_make_60 : decode cX7_make 60 = .ok (.ireturn, 1) := by decide +kernel
theorem dX7_make_61 : decode cX7_make 61 = .ok (.aload_n 0, 1) := by decide +kernel
theorem dX7_make_62 : decode cX7_make 62 = .ok (.getfield 26, 3) := by decide +kernel
theorem dX7_make_65 : decode cX7_make 65 = .ok (.getfield 153, 3) := by decide +kernel
theorem dX7_make_68 : decode cX7_make 68 = .ok (.iload_n 1, 1) := by decide +kernel
theorem dX7_make_69 : decode cX7_make 69 = .ok (.dup2, 1) := by decide +kernel
theorem dX7_make_70 : decode cX7_make 70 = .ok (.iaload, 1) := by decide +kernel
theorem dX7_make_71 : decode cX7_make 71 = .ok (.iconst 1, 1) := by decide +kernel
theorem dX7_make_72 : decode cX7_make 72 = .ok (.iadd, 1) := by decide +kernel
theorem dX7_make_73 : decode cX7_make 73 = .ok (.iastore, 1) := by decide +kernel
theorem dX7_make_74 : decode cX7_make 74 = .ok (.aload_n 0, 1) := by decide +kernel
theorem dX7_make_75 : decode cX7_make 75 = .ok (.getfield 26, 3) := by decide +kernel
theorem dX7_make_78 : decode cX7_make 78 = .ok (.dup, 1) := by decide +kernel
theorem dX7_make_79 : decode cX7_make 79 = .ok (.getfield 149, 3) := by decide +kernel
theorem dX7_make_82 : decode cX7_make 82 = .ok (.iload_n 3, 1) := by decide +kernel
theorem dX7_make_83 : decode cX7_make 83 = .ok (.iadd, 1) := by decide +kernel
theorem dX7_make_84 : decode cX7_make 84 = .ok (.putfield 149, 3) := by decide +kernel
theorem dX7_make_87 : decode cX7_make 87 = .ok (.aload_n 0, 1) := by decide +kernel
theorem dX7_make_88 : decode cX7_make 88 = .ok (.getfield 40, 3) := by decide +kernel
theorem dX7_make_91 : decode cX7_make 91 = .ok (.iconst 0, 1) := by decide +kernel
theorem dX7_make_92 : decode cX7_make 92 = .ok (.iload_n 1, 1) := by decide +kernel
theorem dX7_make_93 : decode cX7_make 93 = .ok (.iload_n 3, 1) := by decide +kernel
theorem dX7_make_94 : decode cX7_make 94 = .ok (.invokevirtual 157, 3) := by decide +kernel
theorem dX7_make_97 : decode cX7_make 97 = .ok (.aload_n 0, 1) := by decide +kernel
theorem dX7_make_98 : decode cX7_make 98 = .ok (.getfield 26, 3) := by decide +kernel
theorem dX7_make_101 : decode cX7_make 101 = .ok (.getfield 149, 3) := by decide +kernel
theorem dX7_make_104 : decode cX7_make 104 = .ok (.ireturn, 1) := by decide +kernel
set_option maxRecDepth 20000 in
theorem ggX7_dim_X7_isStreet : GoodIn wsX7_dim wsX7_isStreet := goodIn_r _ [9, 2, 10, 28, 29, 30, 31, 32, 33, 34, 35, 36, 37, 38, 39, 40, 41, 42, 43, 44, 45, 46, 47, 48, 49] (by decide +kernel) (by decide +kernel)
set_option maxRecDepth 20000 in
theorem gX7_dim_X7_isStreet : GoodIn wsX7_dim (wsV RX7 138 RX7 yX7_isStreet wsX7_isStreet) := goodIn_app (goodIn_of _ (by decide +kernel)) ggX7_dim_X7_isStreet
set_option maxRecDepth 20000 in
theorem ggX7_dim_X7_isWithin : GoodIn wsX7_dim wsX7_isWithin := goodIn_r _ [13] (by decide +kernel) (by decide +kernel)
set_option maxRecDepth 20000 in
theorem gX7_dim_X7_isWithin : GoodIn wsX7_dim (va_wsS RX7 66 yX7_isWithin wsX7_isWithin) := goodIn_app (goodIn_of _ (by decide +kernel)) ggX7_dim_X7_isWithin
set_option maxRecDepth 20000 in
theorem ggX7_dim_X0_keep : GoodIn wsX7_dim wsX0_keep := goodIn_r _ [18, 19, 20, 21, 22, 23, 24, 25, 26, 27, 50, 51, 52, 53, 54] (by decide +kernel) (by decide +kernel)
set_option maxRecDepth 20000 in
theorem gX7_dim_X0_keep : GoodIn wsX7_dim (wsV RX7 157 RX0 yX0_keep wsX0_keep) := goodIn_app (goodIn_of _ (by decide +kernel)) ggX7_dim_X0_keep
theorem dX7_dim_0 : decode cX7_dim 0 = .ok (.aload_n 0, 1) := by decide +kernel
theorem dX7_dim_1 : decode cX7_dim 1 = .ok (.iload_n 1, 1) := by decide +kernel
theorem dX7_dim_2 : decode cX7_dim 2 = .ok (.invokevirtual 138, 3) := by decide +kernel
theorem dX7_dim_5 : decode cX7_dim 5 = .ok (.ifCond .eq 13, 3) := by decide +kernel
theorem dX7_dim_8 : decode cX7_dim 8 = .ok (.iload_n 2, 1) := by decide +kernel
theorem dX7_dim_9 : decode cX7_dim 9 = .ok (.iconst 0, 1) := by decide +kernel
theorem dX7_dim_10 : decode cX7_dim 10 = .ok (.bipush 30, 2) := by decide +kernel
theorem dX7_dim_12 : decode cX7_dim 12 = .ok (.invokestatic 66, 3) := by decide +kernel
theorem dX7_dim_15 : decode cX7_dim 15 = .ok (.ifCond .ne 6, 3) := by decide +kernel
theorem dX7_dim_18 : decode cX7_dim 18 = .ok (.ldc 70, 2) := by decide +kernel
theorem dX7_dim_20 : decode cX7_dim 20 = .ok (.ireturn, 1) := by decide +kernel
theorem dX7_dim_21 : decode cX7_dim 21 = .ok (.aload_n 0, 1) := by decide +kernel
theorem dX7_dim_22 : decode cX7_dim 22 = .ok (.getfield 26, 3) := by decide +kernel
theorem dX7_dim_25 : decode cX7_dim 25 = .ok (.getfield 160, 3) := by decide +kernel
theorem dX7_dim_28 : decode cX7_dim 28 = .ok (.iload_n 1, 1) := by decide +kernel
theorem dX7_dim_29 : decode cX7_dim 29 = .ok (.iaload, 1) := by decide +kernel
theorem dX7_dim_30 : decode cX7_dim 30 = .ok (.istore_n 3, 1) := by decide +kernel
theorem dX7_dim_31 : decode cX7_dim 31 = .ok (.aload_n 0, 1) := by decide +kernel
theorem dX7_dim_32 : decode cX7_dim 32 = .ok (.getfield 26, 3) := by decide +kernel
theorem dX7_dim_35 : decode cX7_dim 35 = .ok (.getfield 160, 3) := by decide +kernel
theorem dX7_dim_38 : decode cX7_dim 38 = .ok (.iload_n 1, 1) := by decide +kernel
theorem dX7_dim_39 : decode cX7_dim 39 = .ok (.iload_n 2, 1) := by decide +kernel
theorem dX7_dim_40 : decode cX7_dim 40 = .ok (.iastore, 1) := by decide +kernel
theorem dX7_dim_41 : decode cX7_dim 41 = .ok (.aload_n 0, 1) := by decide +kernel
theorem dX7_dim_42 : decode cX7_dim 42 = .ok (.getfield 40, 3) := by decide +kernel
theorem dX7_dim_45 : decode cX7_dim 45 = .ok (.iconst 1, 1) := by decide +kernel
theorem dX7_dim_46 : decode cX7_dim 46 = .ok (.iload_n 1, 1) := by decide +kernel
theorem dX7_dim_47 : decode cX7_dim 47 = .ok (.iload_n 3, 1) := by decide +kernel
theorem dX7_dim_48 : decode cX7_dim 48 = .ok (.invokevirtual 157, 3) := by decide +kernel
theorem dX7_dim_51 : decode cX7_dim 51 = .ok (.iload_n 3, 1) := by decide +kernel
theorem dX7_dim_52 : decode cX7_dim 52 = .ok (.ireturn, 1) := by decide +kernel
set_option maxRecDepth 20000 in
theorem ggX7_train_X7_isGesture : GoodIn wsX7_train wsX7_isGesture := goodIn_r _ [10, 2, 11, 29, 30, 31, 32, 33, 34, 35, 36, 37, 38, 39, 40, 41, 42, 43, 44, 45, 46, 47, 48, 49, 50] (by decide +kernel) (by decide +kernel)
set_option maxRecDepth 20000 in
theorem gX7_train_X7_isGesture : GoodIn wsX7_train (wsV RX7 135 RX7 yX7_isGesture wsX7_isGesture) := goodIn_app (goodIn_of _ (by decide +kernel)) ggX7_train_X7_isGesture
set_option maxRecDepth 20000 in
theorem ggX7_train_X7_isWithin : GoodIn wsX7_train wsX7_isWithin := goodIn_r _ [14] (by decide +kernel) (by decide +kernel)
set_option maxRecDepth 20000 in
theorem gX7_train_X7_isWithin : GoodIn wsX7_train (va_wsS RX7 66 yX7_isWithin wsX7_isWithin) := goodIn_app (goodIn_of _ (by decide +kernel)) ggX7_train_X7_isWithin
set_option maxRecDepth 20000 in
theorem ggX7_train_X0_keep : GoodIn wsX7_train wsX0_keep := goodIn_r _ [19, 20, 21, 22, 23, 24, 25, 26, 27, 28, 51, 52, 53, 54, 55] (by decide +kernel) (by decide +kernel)
set_option maxRecDepth 20000 in
theorem gX7_train_X0_keep : GoodIn wsX7_train (wsV RX7 157 RX0 yX0_keep wsX0_keep) := goodIn_app (goodIn_of _ (by decide +kernel)) ggX7_train_X0_keep
theorem dX7_train_0 : decode cX7_train 0 = .ok (.aload_n 0, 1) := by decide +kernel
theorem dX7_train_1 : decode cX7_train 1 = .ok (.iload_n 1, 1) := by decide +kernel
theorem dX7_train_2 : decode cX7_train 2 = .ok (.invokevirtual 135, 3) := by decide +kernel
theorem dX7_train_5 : decode cX7_train 5 = .ok (.ifCond .eq 13, 3) := by decide +kernel
theorem dX7_train_8 : decode cX7_train 8 = .ok (.iload_n 2, 1) := by decide +kernel
theorem dX7_train_9 : decode cX7_train 9 = .ok (.iconst 1, 1) := by decide +kernel
theorem dX7_train_10 : decode cX7_train 10 = .ok (.bipush 29, 2) := by decide +kernel
theorem dX7_train_12 : decode cX7_train 12 = .ok (.invokestatic 66, 3) := by decide +kernel
theorem dX7_train_15 : decode cX7_train 15 = .ok (.ifCond .ne 6, 3) := by decide +kernel
theorem dX7_train_18 : decode cX7_train 18 = .ok (.ldc 70, 2) := by decide +kernel
theorem dX7_train_20 : decode cX7_train 20 = .ok (.ireturn, 1) := by decide +kernel
theorem dX7_train_21 : decode cX7_train 21 = .ok (.aload_n 0, 1) := by decide +kernel
theorem dX7_train_22 : decode cX7_train 22 = .ok (.getfield 26, 3) := by decide +kernel
theorem dX7_train_25 : decode cX7_train 25 = .ok (.getfield 163, 3) := by decide +kernel
theorem dX7_train_28 : decode cX7_train 28 = .ok (.iload_n 1, 1) := by decide +kernel
theorem dX7_train_29 : decode cX7_train 29 = .ok (.iaload, 1) := by decide +kernel
theorem dX7_train_30 : decode cX7_train 30 = .ok (.iload_n 2, 1) := by decide +kernel
theorem dX7_train_31 : decode cX7_train 31 = .ok (.isub, 1) := by decide +kernel
theorem dX7_train_32 : decode cX7_train 32 = .ok (.iconst 1, 1) := by decide +kernel
theorem dX7_train_33 : decode cX7_train 33 = .ok (.if_icmp .ge 6, 3) := by decide +kernel
theorem dX7_train_36 : decode cX7_train 36 = .ok (.ldc 144, 2) := by decide +kernel
theorem dX7_train_38 : decode cX7_train 38 = .ok (.ireturn, 1) := by decide +kernel
theorem dX7_train_39 : decode cX7_train 39 = .ok (.aload_n 0, 1) := by decide +kernel
theorem dX7_train_40 : decode cX7_train 40 = .ok (.getfield 26, 3) := by decide +kernel
theorem dX7_train_43 : decode cX7_train 43 = .ok (.getfield 163, 3) := by decide +kernel
theorem dX7_train_46 : decode cX7_train 46 = .ok (.iload_n 1, 1) := by decide +kernel
theorem dX7_train_47 : decode cX7_train 47 = .ok (.dup2, 1) := by decide +kernel
theorem dX7_train_48 : decode cX7_train 48 = .ok (.iaload, 1) := by decide +kernel
theorem dX7_train_49 : decode cX7_train 49 = .ok (.iload_n 2, 1) := by decide +kernel
theorem dX7_train_50 : decode cX7_train 50 = .ok (.isub, 1) := by decide +kernel
theorem dX7_train_51 : decode cX7_train 51 = .ok (.iastore, 1) := by decide +kernel
theorem dX7_train_52 : decode cX7_train 52 = .ok (.aload_n 0, 1) := by decide +kernel
theorem dX7_train_53 : decode cX7_train 53 = .ok (.getfield 40, 3) := by decide +kernel
theorem dX7_train_56 : decode cX7_train 56 = .ok (.iconst 2, 1) := by decide +kernel
theorem dX7_train_57 : decode cX7_train 57 = .ok (.iload_n 1, 1) := by decide +kernel
theorem dX7_train_58 : decode cX7_train 58 = .ok (.iload_n 2, 1) := by decide +kernel
theorem dX7_train_59 : decode cX7_train 59 = .ok (.invokevirtual 157, 3) := by decide +kernel
theorem dX7_train_62 : decode cX7_train 62 = .ok (.aload_n 0, 1) := by decide +kernel
theorem dX7_train_63 : decode cX7_train 63 = .ok (.getfield 26, 3) := by decide +kernel
theorem dX7_train_66 : decode cX7_train 66 = .ok (.getfield 163, 3) := by decide +kernel
theorem dX7_train_69 : decode cX7_train 69 = .ok (.iload_n 1, 1) := by decide +kernel
theorem dX7_train_70 : decode cX7_train 70 = .ok (.iaload, 1) := by decide +kernel
theorem dX7_train_71 : decode cX7_train 71 = .ok (.ireturn, 1) := by decide +kernel
set_option maxRecDepth 20000 in
theorem ggX7_know_X7_isStreet : GoodIn wsX7_know wsX7_isStreet := goodIn_r _ [10, 2, 11, 39, 40, 41, 42, 43, 44, 45, 46, 47, 48, 49, 50, 51, 52, 53, 54, 55, 56, 57, 58, 59, 60] (by decide +kernel) (by decide +kernel)
set_option maxRecDepth 20000 in
theorem gX7_know_X7_isStreet : GoodIn wsX7_know (wsV RX7 138 RX7 yX7_isStreet wsX7_isStreet) := goodIn_app (goodIn_of _ (by decide +kernel)) ggX7_know_X7_isStreet
set_option maxRecDepth 20000 in
theorem ggX7_know_X7_isWithin : GoodIn wsX7_know wsX7_isWithin := goodIn_r _ [14] (by decide +kernel) (by decide +kernel)
set_option maxRecDepth 20000 in
theorem gX7_know_X7_isWithin : GoodIn wsX7_know (va_wsS RX7 66 yX7_isWithin wsX7_isWithin) := goodIn_app (goodIn_of _ (by decide +kernel)) ggX7_know_X7_isWithin
set_option maxRecDepth 20000 in
theorem ggX7_know_X2_isKnown : GoodIn wsX7_know wsX2_isKnown := goodIn_r _ [19, 20, 48, 49, 50, 51, 52, 53, 54, 55, 56, 57, 58, 59, 60] (by decide +kernel) (by decide +kernel)
set_option maxRecDepth 20000 in
theorem gX7_know_X2_isKnown : GoodIn wsX7_know (wsV RX7 166 RX2 yX2_isKnown wsX2_isKnown) := goodIn_app (goodIn_of _ (by decide +kernel)) ggX7_know_X2_isKnown
set_option maxRecDepth 20000 in
theorem ggX7_know_X2_turnKnown : GoodIn wsX7_know wsX2_turnKnown := goodIn_r _ [24, 20, 48, 49, 50, 51, 52, 53, 54, 55, 56, 57, 58, 59, 60] (by decide +kernel) (by decide +kernel)
set_option maxRecDepth 20000 in
theorem gX7_know_X2_turnKnown : GoodIn wsX7_know (wsV RX7 169 RX2 yX2_turnKnown wsX2_turnKnown) := goodIn_app (goodIn_of _ (by decide +kernel)) ggX7_know_X2_turnKnown
set_option maxRecDepth 20000 in
theorem ggX7_know_X0_keep : GoodIn wsX7_know wsX0_keep := goodIn_r _ [29, 30, 31, 32, 33, 34, 35, 36, 37, 38, 61, 62, 63, 64, 65] (by decide +kernel) (by decide +kernel)
set_option maxRecDepth 20000 in
theorem gX7_know_X0_keep : GoodIn wsX7_know (wsV RX7 157 RX0 yX0_keep wsX0_keep) := goodIn_app (goodIn_of _ (by decide +kernel)) ggX7_know_X0_keep
theorem dX7_know_0 : decode cX7_know 0 = .ok (.aload_n 0, 1) := by decide +kernel
theorem dX7_know_1 : decode cX7_know 1 = .ok (.iload_n 1, 1) := by decide +kernel
theorem dX7_know_2 : decode cX7_know 2 = .ok (.invokevirtual 138, 3) := by decide +kernel
theorem dX7_know_5 : decode cX7_know 5 = .ok (.ifCond .eq 12, 3) := by decide +kernel
theorem dX7_know_8 : decode cX7_know 8 = .ok (.iload_n 2, 1) := by decide +kernel
theorem dX7_know_9 : decode cX7_know 9 = .ok (.iconst 0, 1) := by decide +kernel
theorem dX7_know_10 : decode cX7_know 10 = .ok (.iconst 1, 1) := by decide +kernel
theorem dX7_know_11 : decode cX7_know 11 = .ok (.invokestatic 66, 3) := by decide +kernel
theorem dX7_know_14 : decode cX7_know 14 = .ok (.ifCond .ne 6, 3) := by decide +kernel
theorem dX7_know_17 : decode cX7_know 17 = .ok (.ldc 70, 2) := by decide +kernel
theorem dX7_know_19 : decode cX7_know 19 = .ok (.ireturn, 1) := by decide +kernel
theorem dX7_know_20 : decode cX7_know 20 = .ok (.aload_n 0, 1) := by decide +kernel
theorem dX7_know_21 : decode cX7_know 21 = .ok (.getfield 26, 3) := by decide +kernel
theorem dX7_know_24 : decode cX7_know 24 = .ok (.iload_n 1, 1) := by decide +kernel
theorem dX7_know_25 : decode cX7_know 25 = .ok (.invokevirtual 166, 3) := by decide +kernel
theorem dX7_know_28 : decode cX7_know 28 = .ok (.iload_n 2, 1) := by decide +kernel
theorem dX7_know_29 : decode cX7_know 29 = .ok (.iconst 1, 1) := by decide +kernel
theorem dX7_know_30 : decode cX7_know 30 = .ok (.if_icmp .ne 7, 3) := by decide +kernel
theorem dX7_know_33 : decode cX7_know 33 = .ok (.iconst 1, 1) := by decide +kernel
theorem dX7_know_34 : decode cX7_know 34 = .ok (.goto 4, 3) := by decide +kernel
theorem dX7_know_37 : decode cX7_know 37 = .ok (.iconst 0, 1) := by decide +kernel
theorem dX7_know_38 : decode cX7_know 38 = .ok (.if_icmp .ne 6, 3) := by decide +kernel
theorem dX7_know_41 : decode cX7_know 41 = .ok (.ldc 144, 2) := by decide +kernel
theorem dX7_know_43 : decode cX7_know 43 = .ok (.ireturn, 1) := by decide +kernel
theorem dX7_know_44 : decode cX7_know 44 = .ok (.aload_n 0, 1) := by decide +kernel
theorem dX7_know_45 : decode cX7_know 45 = .ok (.getfield 26, 3) := by decide +kernel
theorem dX7_know_48 : decode cX7_know 48 = .ok (.iload_n 1, 1) := by decide +kernel
theorem dX7_know_49 : decode cX7_know 49 = .ok (.invokevirtual 169, 3) := by decide +kernel
theorem dX7_know_52 : decode cX7_know 52 = .ok (.aload_n 0, 1) := by decide +kernel
theorem dX7_know_53 : decode cX7_know 53 = .ok (.getfield 40, 3) := by decide +kernel
theorem dX7_know_56 : decode cX7_know 56 = .ok (.iconst 3, 1) := by decide +kernel
theorem dX7_know_57 : decode cX7_know 57 = .ok (.iload_n 1, 1) := by decide +kernel
theorem dX7_know_58 : decode cX7_know 58 = .ok (.iconst 0, 1) := by decide +kernel
theorem dX7_know_59 : decode cX7_know 59 = .ok (.invokevirtual 157, 3) := by decide +kernel
theorem dX7_know_62 : decode cX7_know 62 = .ok (.aload_n 0, 1) := by decide +kernel
theorem dX7_know_63 : decode cX7_know 63 = .ok (.getfield 26, 3) := by decide +kernel
theorem dX7_know_66 : decode cX7_know 66 = .ok (.getfield 173, 3) := by decide +kernel
theorem dX7_know_69 : decode cX7_know 69 = .ok (.ireturn, 1) := by decide +kernel
set_option maxRecDepth 20000 in
theorem ggX7_undo_X0_takeBack : GoodIn wsX7_undo wsX0_takeBack := goodIn_r _ [9, 10, 11, 12, 13, 14, 15, 16, 17, 18, 19, 20, 21, 22, 23, 24, 34, 35, 36, 37, 38, 39, 40, 41, 42, 43, 44, 45, 46, 47, 48, 49, 50, 51] (by decide +kernel) (by decide +kernel)
set_option maxRecDepth 20000 in
theorem gX7_undo_X0_takeBack : GoodIn wsX7_undo (wsV RX7 179 RX0 yX0_takeBack wsX0_takeBack) := goodIn_app (goodIn_of _ (by decide +kernel)) ggX7_undo_X0_takeBack
theorem dX7_undo_0 : decode cX7_undo 0 = .ok (.aload_n 0, 1) := by decide +kernel
theorem dX7_undo_1 : decode cX7_undo 1 = .ok (.getfield 40, 3) := by decide +kernel
theorem dX7_undo_4 : decode cX7_undo 4 = .ok (.getfield 176, 3) := by decide +kernel
theorem dX7_undo_7 : decode cX7_undo 7 = .ok (.ifCond .ne 6, 3) := by decide +kernel
theorem dX7_undo_10 : decode cX7_undo 10 = .ok (.ldc 144, 2) := by decide +kernel
theorem dX7_undo_12 : decode cX7_undo 12 = .ok (.ireturn, 1) := by decide +kernel
theorem dX7_undo_13 : decode cX7_undo 13 = .ok (.aload_n 0, 1) := by decide +kernel
theorem dX7_undo_14 : decode cX7_undo 14 = .ok (.getfield 40, 3) := by decide +kernel
theorem dX7_undo_17 : decode cX7_undo 17 = .ok (.aload_n 0, 1) := by decide +kernel
theorem dX7_undo_18 : decode cX7_undo 18 = .ok (.getfield 26, 3) := by decide +kernel
theorem dX7_undo_21 : decode cX7_undo 21 = .ok (.invokevirtual 179, 3) := by decide +kernel
theorem dX7_undo_24 : decode cX7_undo 24 = .ok (.aload_n 0, 1) := by decide +kernel
theorem dX7_undo_25 : decode cX7_undo 25 = .ok (.getfield 40, 3) := by decide +kernel
theorem dX7_undo_28 : decode cX7_undo 28 = .ok (.getfield 176, 3) := by decide +kernel
theorem dX7_undo_31 : decode cX7_undo 31 = .ok (.ireturn, 1) := by decide +kernel
set_option maxRecDepth 20000 in
theorem ggX7_gesture_X7_isGesture : GoodIn wsX7_gesture wsX7_isGesture := goodIn_r _ [11, 2, 12, 26, 27, 28, 29, 30, 31, 32, 33, 34, 35, 36, 37, 38, 39, 40, 41, 42, 43, 44, 45, 46, 47] (by decide +kernel) (by decide +kernel)
set_option maxRecDepth 20000 in
theorem gX7_gesture_X7_isGesture : GoodIn wsX7_gesture (wsV RX7 135 RX7 yX7_isGesture wsX7_isGesture) := goodIn_app (goodIn_of _ (by decide +kernel)) ggX7_gesture_X7_isGesture
set_option maxRecDepth 20000 in
theorem ggX7_gesture_X2_streetsThatSee : GoodIn wsX7_gesture wsX2_streetsThatSee := goodIn_r _ [17, 18, 19, 20, 21, 16, 22, 23, 24, 25, 35, 36, 37, 38, 39, 40, 41, 42, 43, 44, 45, 46, 47] (by decide +kernel) (by decide +kernel)
set_option maxRecDepth 20000 in
theorem gX7_gesture_X2_streetsThatSee : GoodIn wsX7_gesture (wsV RX7 188 RX2 yX2_streetsThatSee wsX2_streetsThatSee) := goodIn_app (goodIn_of _ (by decide +kernel)) ggX7_gesture_X2_streetsThatSee
theorem dX7_gesture_0 : decode cX7_gesture 0 = .ok (.aload_n 0, 1) := by decide +kernel
theorem dX7_gesture_1 : decode cX7_gesture 1 = .ok (.iload_n 1, 1) := by decide +kernel
theorem dX7_gesture_2 : decode cX7_gesture 2 = .ok (.invokevirtual 135, 3) := by decide +kernel
theorem dX7_gesture_5 : decode cX7_gesture 5 = .ok (.ifCond .ne 6, 3) := by decide +kernel
theorem dX7_gesture_8 : decode cX7_gesture 8 = .ok (.ldc 70, 2) := by decide +kernel
theorem dX7_gesture_10 : decode cX7_gesture 10 = .ok (.ireturn, 1) := by decide +kernel
theorem dX7_gesture_11 : decode cX7_gesture 11 = .ok (.iload_n 2, 1) := by decide +kernel
theorem dX7_gesture_12 : decode cX7_gesture 12 = .ok (.tableswitch 85 0 4 #[36, 46, 56, 66, 75], 36) := by decide +kernel
theorem dX7_gesture_48 : decode cX7_gesture 48 = .ok (.aload_n 0, 1) := by decide +kernel
theorem dX7_gesture_49 : decode cX7_gesture 49 = .ok (.getfield 26, 3) := by decide +kernel
theorem dX7_gesture_52 : decode cX7_gesture 52 = .ok (.getfield 163, 3) := by decide +kernel
theorem dX7_gesture_55 : decode cX7_gesture 55 = .ok (.iload_n 1, 1) := by decide +kernel
theorem dX7_gesture_56 : decode cX7_gesture 56 = .ok (.iaload, 1) := by decide +kernel
theorem dX7_gesture_57 : decode cX7_gesture 57 = .ok (.ireturn, 1) := by decide +kernel
theorem dX7_gesture_58 : decode cX7_gesture 58 = .ok (.aload_n 0, 1) := by decide +kernel
theorem dX7_gesture_59 : decode cX7_gesture 59 = .ok (.getfield 26, 3) := by decide +kernel
theorem dX7_gesture_62 : decode cX7_gesture 62 = .ok (.getfield 182, 3) := by decide +kernel
theorem dX7_gesture_65 : decode cX7_gesture 65 = .ok (.iload_n 1, 1) := by decide +kernel
theorem dX7_gesture_66 : decode cX7_gesture 66 = .ok (.iaload, 1) := by decide +kernel
theorem dX7_gesture_67 : decode cX7_gesture 67 = .ok (.ireturn, 1) := by decide +kernel
theorem dX7_gesture_68 : decode cX7_gesture 68 = .ok (.aload_n 0, 1) := by decide +kernel
theorem dX7_gesture_69 : decode cX7_gesture 69 = .ok (.getfield 26, 3) := by decide +kernel
theorem dX7_gesture_72 : decode cX7_gesture 72 = .ok (.getfield 185, 3) := by decide +kernel
theorem dX7_gesture_75 : decode cX7_gesture 75 = .ok (.iload_n 1, 1) := by decide +kernel
theorem dX7_gesture_76 : decode cX7_gesture 76 = .ok (.iaload, 1) := by decide +kernel
theorem dX7_gesture_77 : decode cX7_gesture 77 = .ok (.ireturn, 1) := by decide +kernel
theorem dX7_gesture_78 : decode cX7_gesture 78 = .ok (.aload_n 0, 1) := by decide +kernel
theorem dX7_gesture_79 : decode cX7_gesture 79 = .ok (.getfield 26, 3) := by decide +kernel
theorem dX7_gesture_82 : decode cX7_gesture 82 = .ok (.iload_n 1, 1) := by decide +kernel
theorem dX7_gesture_83 : decode cX7_gesture 83 = .ok (.invokevirtual 188, 3) := by decide +kernel
theorem dX7_gesture_86 : decode cX7_gesture 86 = .ok (.ireturn, 1) := by decide +kernel
theorem dX7_gesture_87 : decode cX7_gesture 87 = .ok (.aload_n 0, 1) := by decide +kernel
theorem dX7_gesture_88 : decode cX7_gesture 88 = .ok (.getfield 26, 3) := by decide +kernel
theorem dX7_gesture_91 : decode cX7_gesture 91 = .ok (.getfield 153, 3) := by decide +kernel
theorem dX7_gesture_94 : decode cX7_gesture 94 = .ok (.iload_n 1, 1) := by decide +kernel
theorem dX7_gesture_95 : decode cX7_gesture 95 = .ok (.iaload, 1) := by decide +kernel
theorem dX7_gesture_96 : decode cX7_gesture 96 = .ok (.ireturn, 1) := by decide +kernel
theorem dX7_gesture_97 : decode cX7_gesture 97 = .ok (.ldc 70, 2) := by decide +kernel
theorem dX7_gesture_99 : decode cX7_gesture 99 = .ok (.ireturn, 1) := by decide +kernel
set_option maxRecDepth 20000 in
theorem ggX7_street_X7_isStreet : GoodIn wsX7_street wsX7_isStreet := goodIn_r _ [9, 2, 10, 29, 30, 31, 32, 33, 34, 35, 36, 37, 38, 39, 40, 41, 42, 43, 44, 45, 46, 47, 48, 49, 50] (by decide +kernel) (by decide +kernel)
set_option maxRecDepth 20000 in
theorem gX7_street_X7_isStreet : GoodIn wsX7_street (wsV RX7 138 RX7 yX7_isStreet wsX7_isStreet) := goodIn_app (goodIn_of _ (by decide +kernel)) ggX7_street_X7_isStreet
set_option maxRecDepth 20000 in
theorem ggX7_street_X2_isKnown : GoodIn wsX7_street wsX2_isKnown := goodIn_r _ [15, 16, 38, 39, 40, 41, 42, 43, 44, 45, 46, 47, 48, 49, 50] (by decide +kernel) (by decide +kernel)
set_option maxRecDepth 20000 in
theorem gX7_street_X2_isKnown : GoodIn wsX7_street (wsV RX7 166 RX2 yX2_isKnown wsX2_isKnown) := goodIn_app (goodIn_of _ (by decide +kernel)) ggX7_street_X2_isKnown
set_option maxRecDepth 20000 in
theorem ggX7_street_X2_gesturesSeenIn : GoodIn wsX7_street wsX2_gesturesSeenIn := goodIn_r _ [20, 21, 22, 23, 24, 14, 25, 26, 27, 28, 38, 39, 40, 41, 42, 43, 44, 45, 46, 47, 48, 49, 50] (by decide +kernel) (by decide +kernel)
set_option maxRecDepth 20000 in
theorem gX7_street_X2_gesturesSeenIn : GoodIn wsX7_street (wsV RX7 194 RX2 yX2_gesturesSeenIn wsX2_gesturesSeenIn) := goodIn_app (goodIn_of _ (by decide +kernel)) ggX7_street_X2_gesturesSeenIn
theorem dX7_street_0 : decode cX7_street 0 = .ok (.aload_n 0, 1) := by decide +kernel
theorem dX7_street_1 : decode cX7_street 1 = .ok (.iload_n 1, 1) := by decide +kernel
theorem dX7_street_2 : decode cX7_street 2 = .ok (.invokevirtual 138, 3) := by decide +kernel
theorem dX7_street_5 : decode cX7_street 5 = .ok (.ifCond .ne 6, 3) := by decide +kernel
theorem dX7_street_8 : decode cX7_street 8 = .ok (.ldc 70, 2) := by decide +kernel
theorem dX7_street_10 : decode cX7_street 10 = .ok (.ireturn, 1) := by decide +kernel
theorem dX7_street_11 : decode cX7_street 11 = .ok (.iload_n 2, 1) := by decide +kernel
theorem dX7_street_12 : decode cX7_street 12 = .ok (.tableswitch 78 0 3 #[32, 42, 52, 69], 32) := by decide +kernel
theorem dX7_street_44 : decode cX7_street 44 = .ok (.aload_n 0, 1) := by decide +kernel
theorem dX7_street_45 : decode cX7_street 45 = .ok (.getfield 26, 3) := by decide +kernel
theorem dX7_street_48 : decode cX7_street 48 = .ok (.getfield 160, 3) := by decide +kernel
theorem dX7_street_51 : decode cX7_street 51 = .ok (.iload_n 1, 1) := by decide +kernel
theorem dX7_street_52 : decode cX7_street 52 = .ok (.iaload, 1) := by decide +kernel
theorem dX7_street_53 : decode cX7_street 53 = .ok (.ireturn, 1) := by decide +kernel
theorem dX7_street_54 : decode cX7_street 54 = .ok (.aload_n 0, 1) := by decide +kernel
theorem dX7_street_55 : decode cX7_street 55 = .ok (.getfield 26, 3) := by decide +kernel
theorem dX7_street_58 : decode cX7_street 58 = .ok (.getfield 191, 3) := by decide +kernel
theorem dX7_street_61 : decode cX7_street 61 = .ok (.iload_n 1, 1) := by decide +kernel
theorem dX7_street_62 : decode cX7_street 62 = .ok (.iaload, 1) := by decide +kernel
theorem dX7_street_63 : decode cX7_street 63 = .ok (.ireturn, 1) := by decide +kernel
theorem dX7_street_64 : decode cX7_street 64 = .ok (.aload_n 0, 1) := by decide +kernel
theorem dX7_street_65 : decode cX7_street 65 = .ok (.getfield 26, 3) := by decide +kernel
theorem dX7_street_68 : decode cX7_street 68 = .ok (.iload_n 1, 1) := by decide +kernel
theorem dX7_street_69 : decode cX7_street 69 = .ok (.invokevirtual 166, 3) := by decide +kernel
theorem dX7_street_72 : decode cX7_street 72 = .ok (.ifCond .eq 7, 3) := by decide +kernel
theorem dX7_street_75 : decode cX7_street 75 = .ok (.iconst 1, 1) := by decide +kernel
theorem dX7_street_76 : decode cX7_street 76 = .ok (.goto 4, 3) := by decide +kernel
theorem dX7_street_79 : decode cX7_street 79 = .ok (.iconst 0, 1) := by decide +kernel
theorem dX7_street_80 : decode cX7_street 80 = .ok (.ireturn, 1) := by decide +kernel
theorem dX7_street_81 : decode cX7_street 81 = .ok (.aload_n 0, 1) := by decide +kernel
theorem dX7_street_82 : decode cX7_street 82 = .ok (.getfield 26, 3) := by decide +kernel
theorem dX7_street_85 : decode cX7_street 85 = .ok (.iload_n 1, 1) := by decide +kernel
theorem dX7_street_86 : decode cX7_street 86 = .ok (.invokevirtual 194, 3) := by decide +kernel
theorem dX7_street_89 : decode cX7_street 89 = .ok (.ireturn, 1) := by decide +kernel
theorem dX7_street_90 : decode cX7_street 90 = .ok (.ldc 70, 2) := by decide +kernel
theorem dX7_street_92 : decode cX7_street 92 = .ok (.ireturn, 1) := by decide +kernel
set_option maxRecDepth 20000 in
theorem ggX7_duty_X7_isGesture : GoodIn wsX7_duty wsX7_isGesture := goodIn_r _ [7, 1, 8, 40, 41, 42, 43, 44, 45, 46, 47, 48, 49, 50, 51, 52, 53, 54, 55, 56, 57, 58, 59, 60, 61] (by decide +kernel) (by decide +kernel)
set_option maxRecDepth 20000 in
theorem gX7_duty_X7_isGesture : GoodIn wsX7_duty (wsV RX7 135 RX7 yX7_isGesture wsX7_isGesture) := goodIn_app (goodIn_of _ (by decide +kernel)) ggX7_duty_X7_isGesture
set_option maxRecDepth 20000 in
theorem ggX7_duty_X7_isStreet : GoodIn wsX7_duty wsX7_isStreet := goodIn_r _ [12, 1, 13, 40, 41, 42, 43, 44, 45, 46, 47, 48, 49, 50, 51, 52, 53, 54, 55, 56, 57, 58, 59, 60, 61] (by decide +kernel) (by decide +kernel)
set_option maxRecDepth 20000 in
theorem gX7_duty_X7_isStreet : GoodIn wsX7_duty (wsV RX7 138 RX7 yX7_isStreet wsX7_isStreet) := goodIn_app (goodIn_of _ (by decide +kernel)) ggX7_duty_X7_isStreet
set_option maxRecDepth 20000 in
theorem ggX7_duty_X2_owes : GoodIn wsX7_duty wsX2_owes := goodIn_r _ [18, 19, 20, 21, 22, 23, 17, 24, 25, 26, 27, 28, 29, 30, 31, 32, 33, 34, 35, 36, 37, 38, 39, 49, 50, 51, 52, 53, 54, 55, 56, 57, 58, 59, 60, 61] (by decide +kernel) (by decide +kernel)
set_option maxRecDepth 20000 in
theorem gX7_duty_X2_owes : GoodIn wsX7_duty (wsV RX7 145 RX2 yX2_owes wsX2_owes) := goodIn_app (goodIn_of _ (by decide +kernel)) ggX7_duty_X2_owes
theorem dX7_duty_0 : decode cX7_duty 0 = .ok (.aload_n 0, 1) := by decide +kernel
theorem dX7_duty_1 : decode cX7_duty 1 = .ok (.iload_n 1, 1) := by decide +kernel
theorem dX7_duty_2 : decode cX7_duty 2 = .ok (.invokevirtual 135, 3) := by decide +kernel
theorem dX7_duty_5 : decode cX7_duty 5 = .ok (.ifCond .eq 23, 3) := by decide +kernel
theorem dX7_duty_8 : decode cX7_duty 8 = .ok (.aload_n 0, 1) := by decide +kernel
theorem dX7_duty_9 : decode cX7_duty 9 = .ok (.iload_n 2, 1) := by decide +kernel
theorem dX7_duty_10 : decode cX7_duty 10 = .ok (.invokevirtual 138, 3) := by decide +kernel
theorem dX7_duty_13 : decode cX7_duty 13 = .ok (.ifCond .eq 15, 3) := by decide +kernel
theorem dX7_duty_16 : decode cX7_duty 16 = .ok (.aload_n 0, 1) := by decide +kernel
theorem dX7_duty_17 : decode cX7_duty 17 = .ok (.getfield 26, 3) := by decide +kernel
theorem dX7_duty_20 : decode cX7_duty 20 = .ok (.iload_n 1, 1) := by decide +kernel
theorem dX7_duty_21 : decode cX7_duty 21 = .ok (.iload_n 2, 1) := by decide +kernel
theorem dX7_duty_22 : decode cX7_duty 22 = .ok (.invokevirtual 145, 3) := by decide +kernel
theorem dX7_duty_25 : decode cX7_duty 25 = .ok (.goto 5, 3) := by decide +kernel
theorem dX7_duty_28 : decode cX7_duty 28 = .ok (.ldc 70, 2) := by decide +kernel
theorem dX7_duty_30 : decode cX7_duty 30 = .ok (.ireturn, 1) := by decide +kernel
set_option maxRecDepth 20000 in
theorem ggX7_tell_X7_isMeaning : GoodIn wsX7_tell wsX7_isMeaning := goodIn_r _ [7, 8, 9, 6, 10] (by decide +kernel) (by decide +kernel)
set_option maxRecDepth 20000 in
theorem gX7_tell_X7_isMeaning : GoodIn wsX7_tell (va_wsS RX7 197 yX7_isMeaning wsX7_isMeaning) := goodIn_app (goodIn_of _ (by decide +kernel)) ggX7_tell_X7_isMeaning
set_option maxRecDepth 20000 in
theorem ggX7_tell_X7_isStretch : GoodIn wsX7_tell wsX7_isStretch := goodIn_r _ [14, 15, 16, 17, 6, 18, 3, 19, 85, 86, 87, 88, 89, 90, 91, 92, 93, 94, 95, 96, 97, 98, 99, 100, 101, 102, 103, 104, 105, 106] (by decide +kernel) (by decide +kernel)
set_option maxRecDepth 20000 in
theorem gX7_tell_X7_isStretch : GoodIn wsX7_tell (wsV RX7 200 RX7 yX7_isStretch wsX7_isStretch) := goodIn_app (goodIn_of _ (by decide +kernel)) ggX7_tell_X7_isStretch
set_option maxRecDepth 20000 in
theorem ggX7_tell_X7_isWithin : GoodIn wsX7_tell wsX7_isWithin := goodIn_r _ [10] (by decide +kernel) (by decide +kernel)
set_option maxRecDepth 20000 in
theorem gX7_tell_X7_isWithin : GoodIn wsX7_tell (va_wsS RX7 66 yX7_isWithin wsX7_isWithin) := goodIn_app (goodIn_of _ (by decide +kernel)) ggX7_tell_X7_isWithin
set_option maxRecDepth 20000 in
theorem ggX7_tell_X6_leastDuty : GoodIn wsX7_tell wsX6_leastDuty := goodIn_r _ [24, 25, 26, 27, 28, 29, 30, 23, 31, 32, 33, 34, 35, 36, 37, 38, 39, 40, 41, 42, 43, 44, 45, 46, 47, 48, 49, 50, 51, 52, 53, 54, 55, 56, 57, 58, 59, 60, 61, 62, 63, 64, 65, 66, 67, 68, 69, 70, 71, 72, 73, 74, 75, 76, 107, 94, 95, 96, 97, 98, 99, 100, 101, 102, 103, 104, 105, 106] (by decide +kernel) (by decide +kernel)
set_option maxRecDepth 20000 in
theorem gX7_tell_X6_leastDuty : GoodIn wsX7_tell (wsV RX7 203 RX6 yX6_leastDuty wsX6_leastDuty) := goodIn_app (goodIn_of _ (by decide +kernel)) ggX7_tell_X6_leastDuty
set_option maxRecDepth 20000 in
theorem ggX7_tell_X6_gestureOfCheapest : GoodIn wsX7_tell wsX6_gestureOfCheapest := goodIn_r _ [80, 25, 26, 27, 33, 28, 29, 30, 23, 31, 32, 34, 35, 36, 37, 38, 39, 40, 41, 42, 43, 44, 45, 46, 47, 48, 49, 50, 51, 52, 53, 54, 55, 56, 57, 58, 59, 60, 61, 62, 63, 64, 65, 66, 67, 68, 69, 70, 71, 72, 73, 74, 75, 76, 81, 82, 83, 84, 107, 94, 95, 96, 97, 98, 99, 100, 101, 102, 103, 104, 105, 106] (by decide +kernel) (by decide +kernel)
set_option maxRecDepth 20000 in
theorem gX7_tell_X6_gestureOfCheapest : GoodIn wsX7_tell (wsV RX7 207 RX6 yX6_gestureOfCheapest wsX6_gestureOfCheapest) := goodIn_app (goodIn_of _ (by decide +kernel)) ggX7_tell_X6_gestureOfCheapest
theorem dX7_tell_0 : decode cX7_tell 0 = .ok (.iload_n 1, 1) := by decide +kernel
theorem dX7_tell_1 : decode cX7_tell 1 = .ok (.invokestatic 197, 3) := by decide +kernel
theorem dX7_tell_4 : decode cX7_tell 4 = .ok (.ifCond .eq 34, 3) := by decide +kernel
theorem dX7_tell_7 : decode cX7_tell 7 = .ok (.aload_n 0, 1) := by decide +kernel
theorem dX7_tell_8 : decode cX7_tell 8 = .ok (.iload_n 2, 1) := by decide +kernel
theorem dX7_tell_9 : decode cX7_tell 9 = .ok (.iload_n 3, 1) := by decide +kernel
theorem dX7_tell_10 : decode cX7_tell 10 = .ok (.invokevirtual 200, 3) := by decide +kernel
theorem dX7_tell_13 : decode cX7_tell 13 = .ok (.ifCond .eq 25, 3) := by decide +kernel
theorem dX7_tell_16 : decode cX7_tell 16 = .ok (.iload 4, 2) := by decide +kernel
theorem dX7_tell_18 : decode cX7_tell 18 = .ok (.iconst 0, 1) := by decide +kernel
theorem dX7_tell_19 : decode cX7_tell 19 = .ok (.bipush 99, 2) := by decide +kernel
theorem dX7_tell_21 : decode cX7_tell 21 = .ok (.invokestatic 66, 3) := by decide +kernel
theorem dX7_tell_24 : decode cX7_tell 24 = .ok (.ifCond .eq 14, 3) := by decide +kernel
theorem dX7_tell_27 : decode cX7_tell 27 = .ok (.iload 5, 2) := by decide +kernel
theorem dX7_tell_29 : decode cX7_tell 29 = .ok (.iconst (-1), 1) := by decide +kernel
theorem dX7_tell_30 : decode cX7_tell 30 = .ok (.bipush 6, 2) := by decide +kernel
theorem dX7_tell_32 : decode cX7_tell 32 = .ok (.invokestatic 66, 3) := by decide +kernel
theorem dX7_tell_35 : decode cX7_tell 35 = .ok (.ifCond .ne 6, 3) := by decide +kernel
theorem dX7_tell_38 : decode cX7_tell 38 = .ok (.ldc 70, 2) := by decide +kernel
theorem dX7_tell_40 : decode cX7_tell 40 = .ok (.ireturn, 1) := by decide +kernel
theorem dX7_tell_41 : decode cX7_tell 41 = .ok (.iload 5, 2) := by decide +kernel
theorem dX7_tell_43 : decode cX7_tell 43 = .ok (.ifCond .ge 22, 3) := by decide +kernel
theorem dX7_tell_46 : decode cX7_tell 46 = .ok (.aload_n 0, 1) := by decide +kernel
theorem dX7_tell_47 : decode cX7_tell 47 = .ok (.getfield 47, 3) := by decide +kernel
theorem dX7_tell_50 : decode cX7_tell 50 = .ok (.aload_n 0, 1) := by decide +kernel
theorem dX7_tell_51 : decode cX7_tell 51 = .ok (.getfield 26, 3) := by decide +kernel
theorem dX7_tell_54 : decode cX7_tell 54 = .ok (.iload_n 1, 1) := by decide +kernel
theorem dX7_tell_55 : decode cX7_tell 55 = .ok (.iload_n 2, 1) := by decide +kernel
theorem dX7_tell_56 : decode cX7_tell 56 = .ok (.iload_n 3, 1) := by decide +kernel
theorem dX7_tell_57 : decode cX7_tell 57 = .ok (.iload 4, 2) := by decide +kernel
theorem dX7_tell_59 : decode cX7_tell 59 = .ok (.invokevirtual 203, 3) := by decide +kernel
theorem dX7_tell_62 : decode cX7_tell 62 = .ok (.goto 21, 3) := by decide +kernel
theorem dX7_tell_65 : decode cX7_tell 65 = .ok (.aload_n 0, 1) := by decide +kernel
theorem dX7_tell_66 : decode cX7_tell 66 = .ok (.getfield 47, 3) := by decide +kernel
theorem dX7_tell_69 : decode cX7_tell 69 = .ok (.aload_n 0, 1) := by decide +kernel
theorem dX7_tell_70 : decode cX7_tell 70 = .ok (.getfield 26, 3) := by decide +kernel
theorem dX7_tell_73 : decode cX7_tell 73 = .ok (.iload_n 1, 1) := by decide +kernel
theorem dX7_tell_74 : decode cX7_tell 74 = .ok (.iload_n 2, 1) := by decide +kernel
theorem dX7_tell_75 : decode cX7_tell 75 = .ok (.iload_n 3, 1) := by decide +kernel
theorem dX7_tell_76 : decode cX7_tell 76 = .ok (.iload 4, 2) := by decide +kernel
theorem dX7_tell_78 : decode cX7_tell 78 = .ok (.iload 5, 2) := by decide +kernel
theorem dX7_tell_80 : decode cX7_tell 80 = .ok (.invokevirtual 207, 3) := by decide +kernel
theorem dX7_tell_83 : decode cX7_tell 83 = .ok (.ireturn, 1) := by decide +kernel
set_option maxRecDepth 20000 in
theorem ggX7_shut_X7_isMeaning : GoodIn wsX7_shut wsX7_isMeaning := goodIn_r _ [8, 9, 10, 7, 11] (by decide +kernel) (by decide +kernel)
set_option maxRecDepth 20000 in
theorem gX7_shut_X7_isMeaning : GoodIn wsX7_shut (va_wsS RX7 197 yX7_isMeaning wsX7_isMeaning) := goodIn_app (goodIn_of _ (by decide +kernel)) ggX7_shut_X7_isMeaning
set_option maxRecDepth 20000 in
theorem ggX7_shut_X2_streetsWithout : GoodIn wsX7_shut wsX2_streetsWithout := goodIn_r _ [16, 17, 18, 19, 20, 21, 15, 22, 23, 24, 25, 26, 27, 28, 29, 30, 31, 32, 33, 34, 35, 36, 46, 47, 48, 49, 50, 51, 52, 53, 54, 55, 56, 57, 58] (by decide +kernel) (by decide +kernel)
set_option maxRecDepth 20000 in
theorem gX7_shut_X2_streetsWithout : GoodIn wsX7_shut (wsV RX7 215 RX2 yX2_streetsWithout wsX2_streetsWithout) := goodIn_app (goodIn_of _ (by decide +kernel)) ggX7_shut_X2_streetsWithout
theorem dX7_shut_0 : decode cX7_shut 0 = .ok (.aload_n 0, 1) := by decide +kernel
theorem dX7_shut_1 : decode cX7_shut 1 = .ok (.getfield 26, 3) := by decide +kernel
theorem dX7_shut_4 : decode cX7_shut 4 = .ok (.getfield 211, 3) := by decide +kernel
theorem dX7_shut_7 : decode cX7_shut 7 = .ok (.ifCond .ne 6, 3) := by decide +kernel
theorem dX7_shut_10 : decode cX7_shut 10 = .ok (.ldc 144, 2) := by decide +kernel
theorem dX7_shut_12 : decode cX7_shut 12 = .ok (.ireturn, 1) := by decide +kernel
theorem dX7_shut_13 : decode cX7_shut 13 = .ok (.iload_n 1, 1) := by decide +kernel
theorem dX7_shut_14 : decode cX7_shut 14 = .ok (.invokestatic 197, 3) := by decide +kernel
theorem dX7_shut_17 : decode cX7_shut 17 = .ok (.ifCond .eq 14, 3) := by decide +kernel
theorem dX7_shut_20 : decode cX7_shut 20 = .ok (.aload_n 0, 1) := by decide +kernel
theorem dX7_shut_21 : decode cX7_shut 21 = .ok (.getfield 26, 3) := by decide +kernel
theorem dX7_shut_24 : decode cX7_shut 24 = .ok (.iload_n 1, 1) := by decide +kernel
theorem dX7_shut_25 : decode cX7_shut 25 = .ok (.invokevirtual 215, 3) := by decide +kernel
theorem dX7_shut_28 : decode cX7_shut 28 = .ok (.goto 5, 3) := by decide +kernel
theorem dX7_shut_31 : decode cX7_shut 31 = .ok (.ldc 70, 2) := by decide +kernel
theorem dX7_shut_33 : decode cX7_shut 33 = .ok (.ireturn, 1) := by decide +kernel
set_option maxRecDepth 20000 in
theorem ggX7_quick_X7_isMeaning : GoodIn wsX7_quick wsX7_isMeaning := goodIn_r _ [7, 8, 9, 6, 10] (by decide +kernel) (by decide +kernel)
set_option maxRecDepth 20000 in
theorem gX7_quick_X7_isMeaning : GoodIn wsX7_quick (va_wsS RX7 197 yX7_isMeaning wsX7_isMeaning) := goodIn_app (goodIn_of _ (by decide +kernel)) ggX7_quick_X7_isMeaning
set_option maxRecDepth 20000 in
theorem ggX7_quick_X7_isStretch : GoodIn wsX7_quick wsX7_isStretch := goodIn_r _ [14, 15, 16, 17, 6, 18, 2, 19, 40, 41, 42, 43, 44, 45, 46, 47, 48, 49, 50, 51, 52, 53, 54, 55, 56, 57, 58, 59, 60, 61] (by decide +kernel) (by decide +kernel)
set_option maxRecDepth 20000 in
theorem gX7_quick_X7_isStretch : GoodIn wsX7_quick (wsV RX7 200 RX7 yX7_isStretch wsX7_isStretch) := goodIn_app (goodIn_of _ (by decide +kernel)) ggX7_quick_X7_isStretch
set_option maxRecDepth 20000 in
theorem ggX7_quick_X2_leastTime : GoodIn wsX7_quick wsX2_leastTime := goodIn_r _ [24, 25, 26, 27, 28, 29, 30, 23, 31, 32, 33, 34, 35, 36, 37, 38, 39, 49, 50, 51, 52, 53, 54, 55, 56, 57, 58, 59, 60, 61] (by decide +kernel) (by decide +kernel)
set_option maxRecDepth 20000 in
theorem gX7_quick_X2_leastTime : GoodIn wsX7_quick (wsV RX7 218 RX2 yX2_leastTime wsX2_leastTime) := goodIn_app (goodIn_of _ (by decide +kernel)) ggX7_quick_X2_leastTime
theorem dX7_quick_0 : decode cX7_quick 0 = .ok (.iload_n 1, 1) := by decide +kernel
theorem dX7_quick_1 : decode cX7_quick 1 = .ok (.invokestatic 197, 3) := by decide +kernel
theorem dX7_quick_4 : decode cX7_quick 4 = .ok (.ifCond .eq 12, 3) := by decide +kernel
theorem dX7_quick_7 : decode cX7_quick 7 = .ok (.aload_n 0, 1) := by decide +kernel
theorem dX7_quick_8 : decode cX7_quick 8 = .ok (.iload_n 2, 1) := by decide +kernel
theorem dX7_quick_9 : decode cX7_quick 9 = .ok (.iload_n 3, 1) := by decide +kernel
theorem dX7_quick_10 : decode cX7_quick 10 = .ok (.invokevirtual 200, 3) := by decide +kernel
theorem dX7_quick_13 : decode cX7_quick 13 = .ok (.ifCond .ne 6, 3) := by decide +kernel
theorem dX7_quick_16 : decode cX7_quick 16 = .ok (.ldc 70, 2) := by decide +kernel
theorem dX7_quick_18 : decode cX7_quick 18 = .ok (.ireturn, 1) := by decide +kernel
theorem dX7_quick_19 : decode cX7_quick 19 = .ok (.iconst 0, 1) := by decide +kernel
theorem dX7_quick_20 : decode cX7_quick 20 = .ok (.istore 4, 2) := by decide +kernel
theorem dX7_quick_22 : decode cX7_quick 22 = .ok (.iload_n 2, 1) := by decide +kernel
theorem dX7_quick_23 : decode cX7_quick 23 = .ok (.istore 5, 2) := by decide +kernel
theorem dX7_quick_25 : decode cX7_quick 25 = .ok (.iload 5, 2) := by decide +kernel
theorem dX7_quick_27 : decode cX7_quick 27 = .ok (.iload_n 3, 1) := by decide +kernel
theorem dX7_quick_28 : decode cX7_quick 28 = .ok (.if_icmp .gt 38, 3) := by decide +kernel
theorem dX7_quick_31 : decode cX7_quick 31 = .ok (.aload_n 0, 1) := by decide +kernel
theorem dX7_quick_32 : decode cX7_quick 32 = .ok (.getfield 26, 3) := by decide +kernel
theorem dX7_quick_35 : decode cX7_quick 35 = .ok (.iload_n 1, 1) := by decide +kernel
theorem dX7_quick_36 : decode cX7_quick 36 = .ok (.iload 5, 2) := by decide +kernel
theorem dX7_quick_38 : decode cX7_quick 38 = .ok (.invokevirtual 218, 3) := by decide +kernel
theorem dX7_quick_41 : decode cX7_quick 41 = .ok (.istore 6, 2) := by decide +kernel
theorem dX7_quick_43 : decode cX7_quick 43 = .ok (.iload 6, 2) := by decide +kernel
theorem dX7_quick_45 : decode cX7_quick 45 = .ok (.ldc 221, 2) := by decide +kernel
theorem dX7_quick_47 : decode cX7_quick 47 = .ok (.if_icmp .ne 6, 3) := by decide +kernel
theorem dX7_quick_50 : decode cX7_quick 50 = .ok (.ldc 221, 2) := by decide +kernel
theorem dX7_quick_52 : decode cX7_quick 52 = .ok (.ireturn, 1) := by decide +kernel
theorem dX7_quick_53 : decode cX7_quick 53 = .ok (.iload 4, 2) := by decide +kernel
theorem dX7_quick_55 : decode cX7_quick 55 = .ok (.iload 6, 2) := by decide +kernel
theorem dX7_quick_57 : decode cX7_quick 57 = .ok (.iadd, 1) := by decide +kernel
theorem dX7_quick_58 : decode cX7_quick 58 = .ok (.istore 4, 2) := by decide +kernel
theorem dX7_quick_60 : decode cX7_quick 60 = .ok (.iinc 5 1, 3) := by decide +kernel
theorem dX7_quick_63 : decode cX7_quick 63 = .ok (.goto (-38), 3) := by decide +kernel
theorem dX7_quick_66 : decode cX7_quick 66 = .ok (.iload 4, 2) := by decide +kernel
theorem dX7_quick_68 : decode cX7_quick 68 = .ok (.ireturn, 1) := by decide +kernel
set_option maxRecDepth 20000 in
theorem ggX7_thread_X7_refusalOfThread : GoodIn wsX7_thread wsX7_refusalOfThread := goodIn_r _ [11, 12, 13, 14, 15, 16, 17, 18, 19, 10, 20, 21, 22, 23, 24, 25, 26, 27, 28, 29, 30, 31, 32, 33, 34, 35, 36, 37, 38, 39, 40, 41, 42, 43, 44, 45, 46, 47, 48, 1, 49, 89, 90, 91, 92, 93, 94, 95, 96, 97, 111, 112, 113, 98, 99, 100, 101, 102, 103, 104, 105, 106, 107, 108, 109, 110] (by decide +kernel) (by decide +kernel)
set_option maxRecDepth 20000 in
theorem gX7_thread_X7_refusalOfThread : GoodIn wsX7_thread (wsV RX7 222 RX7 yX7_refusalOfThread wsX7_refusalOfThread) := goodIn_app (goodIn_of _ (by decide +kernel)) ggX7_thread_X7_refusalOfThread
set_option maxRecDepth 20000 in
theorem ggX7_thread_X7_owesAlong : GoodIn wsX7_thread wsX7_owesAlong := goodIn_r _ [53, 13, 1, 40, 41, 42, 16, 43, 44, 45, 46, 47, 10, 48, 49, 54, 55, 56, 57, 58, 59, 60, 61, 62, 63, 64, 65, 66, 67, 68, 69, 70, 71, 72, 73, 89, 90, 91, 92, 93, 94, 95, 96, 97, 111, 112, 113, 98, 99, 100, 101, 102, 103, 104, 105, 106, 107, 108, 109, 110] (by decide +kernel) (by decide +kernel)
set_option maxRecDepth 20000 in
theorem gX7_thread_X7_owesAlong : GoodIn wsX7_thread (wsV RX7 228 RX7 yX7_owesAlong wsX7_owesAlong) := goodIn_app (goodIn_of _ (by decide +kernel)) ggX7_thread_X7_owesAlong
set_option maxRecDepth 20000 in
theorem ggX7_thread_X7_isSeenAlong : GoodIn wsX7_thread wsX7_isSeenAlong := goodIn_r _ [77, 13, 1, 40, 41, 42, 16, 43, 44, 45, 46, 47, 10, 48, 49, 78, 79, 80, 57, 81, 82, 83, 84, 89, 90, 91, 92, 93, 94, 95, 96, 97, 111, 112, 113, 98, 99, 100, 101, 102, 103, 104, 105, 106, 107, 108, 109, 110] (by decide +kernel) (by decide +kernel)
set_option maxRecDepth 20000 in
theorem gX7_thread_X7_isSeenAlong : GoodIn wsX7_thread (wsV RX7 232 RX7 yX7_isSeenAlong wsX7_isSeenAlong) := goodIn_app (goodIn_of _ (by decide +kernel)) ggX7_thread_X7_isSeenAlong
set_option maxRecDepth 20000 in
theorem ggX7_thread_X7_foundNothing : GoodIn wsX7_thread wsX7_foundNothing := goodIn_r _ [88, 38, 89, 90, 91, 92, 93, 94, 95, 96, 97] (by decide +kernel) (by decide +kernel)
set_option maxRecDepth 20000 in
theorem gX7_thread_X7_foundNothing : GoodIn wsX7_thread (wsV RX7 79 RX7 yX7_foundNothing wsX7_foundNothing) := goodIn_app (goodIn_of _ (by decide +kernel)) ggX7_thread_X7_foundNothing
theorem dX7_thread_0 : decode cX7_thread 0 = .ok (.aload_n 0, 1) := by decide +kernel
theorem dX7_thread_1 : decode cX7_thread 1 = .ok (.getfield 26, 3) := by decide +kernel
theorem dX7_thread_4 : decode cX7_thread 4 = .ok (.getfield 211, 3) := by decide +kernel
theorem dX7_thread_7 : decode cX7_thread 7 = .ok (.ifCond .ne 6, 3) := by decide +kernel
theorem dX7_thread_10 : decode cX7_thread 10 = .ok (.ldc 144, 2) := by decide +kernel
theorem dX7_thread_12 : decode cX7_thread 12 = .ok (.ireturn, 1) := by decide +kernel
theorem dX7_thread_13 : decode cX7_thread 13 = .ok (.aload_n 0, 1) := by decide +kernel
theorem dX7_thread_14 : decode cX7_thread 14 = .ok (.iload_n 1, 1) := by decide +kernel
theorem dX7_thread_15 : decode cX7_thread 15 = .ok (.iload_n 2, 1) := by decide +kernel
theorem dX7_thread_16 : decode cX7_thread 16 = .ok (.iload_n 3, 1) := by decide +kernel
theorem dX7_thread_17 : decode cX7_thread 17 = .ok (.invokevirtual 222, 3) := by decide +kernel
theorem dX7_thread_20 : decode cX7_thread 20 = .ok (.istore 4, 2) := by decide +kernel
theorem dX7_thread_22 : decode cX7_thread 22 = .ok (.iload 4, 2) := by decide +kernel
theorem dX7_thread_24 : decode cX7_thread 24 = .ok (.ifCond .eq 6, 3) := by decide +kernel
theorem dX7_thread_27 : decode cX7_thread 27 = .ok (.iload 4, 2) := by decide +kernel
theorem dX7_thread_29 : decode cX7_thread 29 = .ok (.ireturn, 1) := by decide +kernel
theorem dX7_thread_30 : decode cX7_thread 30 = .ok (.iconst 0, 1) := by decide +kernel
theorem dX7_thread_31 : decode cX7_thread 31 = .ok (.istore 5, 2) := by decide +kernel
theorem dX7_thread_33 : decode cX7_thread 33 = .ok (.iconst 0, 1) := by decide +kernel
theorem dX7_thread_34 : decode cX7_thread 34 = .ok (.istore 6, 2) := by decide +kernel
theorem dX7_thread_36 : decode cX7_thread 36 = .ok (.iload 6, 2) := by decide +kernel
theorem dX7_thread_38 : decode cX7_thread 38 = .ok (.aload_n 0, 1) := by decide +kernel
theorem dX7_thread_39 : decode cX7_thread 39 = .ok (.getfield 26, 3) := by decide +kernel
theorem dX7_thread_42 : decode cX7_thread 42 = .ok (.getfield 129, 3) := by decide +kernel
theorem dX7_thread_45 : decode cX7_thread 45 = .ok (.if_icmp .ge 64, 3) := by decide +kernel
theorem dX7_thread_48 : decode cX7_thread 48 = .ok (.aload_n 0, 1) := by decide +kernel
theorem dX7_thread_49 : decode cX7_thread 49 = .ok (.aload_n 0, 1) := by decide +kernel
theorem dX7_thread_50 : decode cX7_thread 50 = .ok (.getfield 26, 3) := by decide +kernel
theorem dX7_thread_53 : decode cX7_thread 53 = .ok (.getfield 225, 3) := by decide +kernel
theorem dX7_thread_56 : decode cX7_thread 56 = .ok (.iload 6, 2) := by decide +kernel
theorem dX7_thread_58 : decode cX7_thread 58 = .ok (.iaload, 1) := by decide +kernel
theorem dX7_thread_59 : decode cX7_thread 59 = .ok (.aload_n 0, 1) := by decide +kernel
theorem dX7_thread_60 : decode cX7_thread 60 = .ok (.getfield 26, 3) := by decide +kernel
theorem dX7_thread_63 : decode cX7_thread 63 = .ok (.getfield 163, 3) := by decide +kernel
theorem dX7_thread_66 : decode cX7_thread 66 = .ok (.iload 6, 2) := by decide +kernel
theorem dX7_thread_68 : decode cX7_thread 68 = .ok (.iaload, 1) := by decide +kernel
theorem dX7_thread_69 : decode cX7_thread 69 = .ok (.iload_n 1, 1) := by decide +kernel
theorem dX7_thread_70 : decode cX7_thread 70 = .ok (.iload_n 2, 1) := by decide +kernel
theorem dX7_thread_71 : decode cX7_thread 71 = .ok (.iload_n 3, 1) := by decide +kernel
theorem dX7_thread_72 : decode cX7_thread 72 = .ok (.invokevirtual 228, 3) := by decide +kernel
theorem dX7_thread_75 : decode cX7_thread 75 = .ok (.istore 7, 2) := by decide +kernel
theorem dX7_thread_77 : decode cX7_thread 77 = .ok (.iload 7, 2) := by decide +kernel
theorem dX7_thread_79 : decode cX7_thread 79 = .ok (.ifCond .eq 24, 3) := by decide +kernel
theorem dX7_thread_82 : decode cX7_thread 82 = .ok (.aload_n 0, 1) := by decide +kernel
theorem dX7_thread_83 : decode cX7_thread 83 = .ok (.iload 6, 2) := by decide +kernel
theorem dX7_thread_85 : decode cX7_thread 85 = .ok (.iload_n 1, 1) := by decide +kernel
theorem dX7_thread_86 : decode cX7_thread 86 = .ok (.iload_n 2, 1) := by decide +kernel
theorem dX7_thread_87 : decode cX7_thread 87 = .ok (.iload_n 3, 1) := by decide +kernel
theorem dX7_thread_88 : decode cX7_thread 88 = .ok (.invokevirtual 232, 3) := by decide +kernel
theorem dX7_thread_91 : decode cX7_thread 91 = .ok (.ifCond .eq 12, 3) := by decide +kernel
theorem dX7_thread_94 : decode cX7_thread 94 = .ok (.iload 5, 2) := by decide +kernel
theorem dX7_thread_96 : decode cX7_thread 96 = .ok (.iconst 1, 1) := by decide +kernel
theorem dX7_thread_97 : decode cX7_thread 97 = .ok (.iload 6, 2) := by decide +kernel
theorem dX7_thread_99 : decode cX7_thread 99 = .ok (.ishl, 1) := by decide +kernel
theorem dX7_thread_100 : decode cX7_thread 100 = .ok (.ior, 1) := by decide +kernel
theorem dX7_thread_101 : decode cX7_thread 101 = .ok (.istore 5, 2) := by decide +kernel
theorem dX7_thread_103 : decode cX7_thread 103 = .ok (.iinc 6 1, 3) := by decide +kernel
theorem dX7_thread_106 : decode cX7_thread 106 = .ok (.goto (-70), 3) := by decide +kernel
theorem dX7_thread_109 : decode cX7_thread 109 = .ok (.aload_n 0, 1) := by decide +kernel
theorem dX7_thread_110 : decode cX7_thread 110 = .ok (.iload 5, 2) := by decide +kernel
theorem dX7_thread_112 : decode cX7_thread 112 = .ok (.invokevirtual 79, 3) := by decide +kernel
theorem dX7_thread_115 : decode cX7_thread 115 = .ok (.ireturn, 1) := by decide +kernel
set_option maxRecDepth 20000 in
theorem ggX7_inches_X7_isGesture : GoodIn wsX7_inches wsX7_isGesture := goodIn_r _ [8, 2, 9, 79, 80, 81, 82, 83, 84, 85, 86, 87, 88, 89, 90, 91, 92, 93, 94, 95, 96, 97, 98, 99, 100] (by decide +kernel) (by decide +kernel)
set_option maxRecDepth 20000 in
theorem gX7_inches_X7_isGesture : GoodIn wsX7_inches (wsV RX7 135 RX7 yX7_isGesture wsX7_isGesture) := goodIn_app (goodIn_of _ (by decide +kernel)) ggX7_inches_X7_isGesture
set_option maxRecDepth 20000 in
theorem ggX7_inches_X7_refusalOfThread : GoodIn wsX7_inches wsX7_refusalOfThread := goodIn_r _ [13, 1, 14, 15, 16, 17, 18, 19, 20, 7, 21, 22, 23, 24, 25, 26, 27, 28, 29, 30, 31, 32, 33, 34, 35, 36, 37, 38, 39, 40, 41, 42, 43, 44, 45, 46, 47, 48, 49, 2, 50, 79, 80, 81, 82, 83, 84, 85, 86, 87, 101, 102, 103, 88, 89, 90, 91, 92, 93, 94, 95, 96, 97, 98, 99, 100] (by decide +kernel) (by decide +kernel)
set_option maxRecDepth 20000 in
theorem gX7_inches_X7_refusalOfThread : GoodIn wsX7_inches (wsV RX7 222 RX7 yX7_refusalOfThread wsX7_refusalOfThread) := goodIn_app (goodIn_of _ (by decide +kernel)) ggX7_inches_X7_refusalOfThread
set_option maxRecDepth 20000 in
theorem ggX7_inches_X7_owesAlong : GoodIn wsX7_inches wsX7_owesAlong := goodIn_r _ [54, 14, 2, 41, 42, 43, 17, 44, 45, 46, 47, 48, 7, 49, 50, 55, 56, 57, 58, 59, 60, 61, 62, 63, 64, 65, 66, 67, 68, 69, 70, 71, 72, 73, 74, 79, 80, 81, 82, 83, 84, 85, 86, 87, 101, 102, 103, 88, 89, 90, 91, 92, 93, 94, 95, 96, 97, 98, 99, 100] (by decide +kernel) (by decide +kernel)
set_option maxRecDepth 20000 in
theorem gX7_inches_X7_owesAlong : GoodIn wsX7_inches (wsV RX7 228 RX7 yX7_owesAlong wsX7_owesAlong) := goodIn_app (goodIn_of _ (by decide +kernel)) ggX7_inches_X7_owesAlong
set_option maxRecDepth 20000 in
theorem ggX7_inches_X7_foundNothing : GoodIn wsX7_inches wsX7_foundNothing := goodIn_r _ [78, 39, 79, 80, 81, 82, 83, 84, 85, 86, 87] (by decide +kernel) (by decide +kernel)
set_option maxRecDepth 20000 in
theorem gX7_inches_X7_foundNothing : GoodIn wsX7_inches (wsV RX7 79 RX7 yX7_foundNothing wsX7_foundNothing) := goodIn_app (goodIn_of _ (by decide +kernel)) ggX7_inches_X7_foundNothing
theorem dX7_inches_0 : decode cX7_inches 0 = .ok (.aload_n 0, 1) := by decide +kernel
theorem dX7_inches_1 : decode cX7_inches 1 = .ok (.iload_n 1, 1) := by decide +kernel
theorem dX7_inches_2 : decode cX7_inches 2 = .ok (.invokevirtual 135, 3) := by decide +kernel
theorem dX7_inches_5 : decode cX7_inches 5 = .ok (.ifCond .eq 14, 3) := by decide +kernel
theorem dX7_inches_8 : decode cX7_inches 8 = .ok (.aload_n 0, 1) := by decide +kernel
theorem dX7_inches_9 : decode cX7_inches 9 = .ok (.iload_n 2, 1) := by decide +kernel
theorem dX7_inches_10 : decode cX7_inches 10 = .ok (.iload_n 3, 1) := by decide +kernel
theorem dX7_inches_11 : decode cX7_inches 11 = .ok (.iload 4, 2) := by decide +kernel
theorem dX7_inches_13 : decode cX7_inches 13 = .ok (.invokevirtual 222, 3) := by decide +kernel
theorem dX7_inches_16 : decode cX7_inches 16 = .ok (.goto 5, 3) := by decide +kernel
theorem dX7_inches_19 : decode cX7_inches 19 = .ok (.ldc 70, 2) := by decide +kernel
theorem dX7_inches_21 : decode cX7_inches 21 = .ok (.istore 5, 2) := by decide +kernel
theorem dX7_inches_23 : decode cX7_inches 23 = .ok (.iload 5, 2) := by decide +kernel
theorem dX7_inches_25 : decode cX7_inches 25 = .ok (.ifCond .eq 6, 3) := by decide +kernel
theorem dX7_inches_28 : decode cX7_inches 28 = .ok (.iload 5, 2) := by decide +kernel
theorem dX7_inches_30 : decode cX7_inches 30 = .ok (.ireturn, 1) := by decide +kernel
theorem dX7_inches_31 : decode cX7_inches 31 = .ok (.iconst 0, 1) := by decide +kernel
theorem dX7_inches_32 : decode cX7_inches 32 = .ok (.istore 6, 2) := by decide +kernel
theorem dX7_inches_34 : decode cX7_inches 34 = .ok (.iconst 1, 1) := by decide +kernel
theorem dX7_inches_35 : decode cX7_inches 35 = .ok (.istore 7, 2) := by decide +kernel
theorem dX7_inches_37 : decode cX7_inches 37 = .ok (.iload 7, 2) := by decide +kernel
theorem dX7_inches_39 : decode cX7_inches 39 = .ok (.bipush 30, 2) := by decide +kernel
theorem dX7_inches_41 : decode cX7_inches 41 = .ok (.if_icmp .gt 42, 3) := by decide +kernel
theorem dX7_inches_44 : decode cX7_inches 44 = .ok (.aload_n 0, 1) := by decide +kernel
theorem dX7_inches_45 : decode cX7_inches 45 = .ok (.aload_n 0, 1) := by decide +kernel
theorem dX7_inches_46 : decode cX7_inches 46 = .ok (.getfield 26, 3) := by decide +kernel
theorem dX7_inches_49 : decode cX7_inches 49 = .ok (.getfield 225, 3) := by decide +kernel
theorem dX7_inches_52 : decode cX7_inches 52 = .ok (.iload_n 1, 1) := by decide +kernel
theorem dX7_inches_53 : decode cX7_inches 53 = .ok (.iaload, 1) := by decide +kernel
theorem dX7_inches_54 : decode cX7_inches 54 = .ok (.iload 7, 2) := by decide +kernel
theorem dX7_inches_56 : decode cX7_inches 56 = .ok (.iload_n 2, 1) := by decide +kernel
theorem dX7_inches_57 : decode cX7_inches 57 = .ok (.iload_n 3, 1) := by decide +kernel
theorem dX7_inches_58 : decode cX7_inches 58 = .ok (.iload 4, 2) := by decide +kernel
theorem dX7_inches_60 : decode cX7_inches 60 = .ok (.invokevirtual 228, 3) := by decide +kernel
theorem dX7_inches_63 : decode cX7_inches 63 = .ok (.ifCond .eq 14, 3) := by decide +kernel
theorem dX7_inches_66 : decode cX7_inches 66 = .ok (.iload 6, 2) := by decide +kernel
theorem dX7_inches_68 : decode cX7_inches 68 = .ok (.iconst 1, 1) := by decide +kernel
theorem dX7_inches_69 : decode cX7_inches 69 = .ok (.iload 7, 2) := by decide +kernel
theorem dX7_inches_71 : decode cX7_inches 71 = .ok (.iconst 1, 1) := by decide +kernel
theorem dX7_inches_72 : decode cX7_inches 72 = .ok (.isub, 1) := by decide +kernel
theorem dX7_inches_73 : decode cX7_inches 73 = .ok (.ishl, 1) := by decide +kernel
theorem dX7_inches_74 : decode cX7_inches 74 = .ok (.ior, 1) := by decide +kernel
theorem dX7_inches_75 : decode cX7_inches 75 = .ok (.istore 6, 2) := by decide +kernel
theorem dX7_inches_77 : decode cX7_inches 77 = .ok (.iinc 7 1, 3) := by decide +kernel
theorem dX7_inches_80 : decode cX7_inches 80 = .ok (.goto (-43), 3) := by decide +kernel
theorem dX7_inches_83 : decode cX7_inches 83 = .ok (.aload_n 0, 1) := by decide +kernel
theorem dX7_inches_84 : decode cX7_inches 84 = .ok (.iload 6, 2) := by decide +kernel
theorem dX7_inches_86 : decode cX7_inches 86 = .ok (.invokevirtual 79, 3) := by decide +kernel
theorem dX7_inches_89 : decode cX7_inches 89 = .ok (.ireturn, 1) := by decide +kernel
set_option maxRecDepth 20000 in
theorem ggX7_sorts_X7_isGesture : GoodIn wsX7_sorts wsX7_isGesture := goodIn_r _ [8, 2, 9, 79, 80, 81, 82, 83, 84, 85, 86, 87, 88, 89, 90, 91, 92, 93, 94, 95, 96, 97, 98, 99, 100] (by decide +kernel) (by decide +kernel)
set_option maxRecDepth 20000 in
theorem gX7_sorts_X7_isGesture : GoodIn wsX7_sorts (wsV RX7 135 RX7 yX7_isGesture wsX7_isGesture) := goodIn_app (goodIn_of _ (by decide +kernel)) ggX7_sorts_X7_isGesture
set_option maxRecDepth 20000 in
theorem ggX7_sorts_X7_refusalOfThread : GoodIn wsX7_sorts wsX7_refusalOfThread := goodIn_r _ [13, 1, 14, 15, 16, 17, 18, 19, 20, 7, 21, 22, 23, 24, 25, 26, 27, 28, 29, 30, 31, 32, 33, 34, 35, 36, 37, 38, 39, 40, 41, 42, 43, 44, 45, 46, 47, 48, 49, 2, 50, 79, 80, 81, 82, 83, 84, 85, 86, 87, 101, 102, 103, 88, 89, 90, 91, 92, 93, 94, 95, 96, 97, 98, 99, 100] (by decide +kernel) (by decide +kernel)
set_option maxRecDepth 20000 in
theorem gX7_sorts_X7_refusalOfThread : GoodIn wsX7_sorts (wsV RX7 222 RX7 yX7_refusalOfThread wsX7_refusalOfThread) := goodIn_app (goodIn_of _ (by decide +kernel)) ggX7_sorts_X7_refusalOfThread
set_option maxRecDepth 20000 in
theorem ggX7_sorts_X7_owesAlong : GoodIn wsX7_sorts wsX7_owesAlong := goodIn_r _ [54, 14, 2, 41, 42, 43, 17, 44, 45, 46, 47, 48, 7, 49, 50, 55, 56, 57, 58, 59, 60, 61, 62, 63, 64, 65, 66, 67, 68, 69, 70, 71, 72, 73, 74, 79, 80, 81, 82, 83, 84, 85, 86, 87, 101, 102, 103, 88, 89, 90, 91, 92, 93, 94, 95, 96, 97, 98, 99, 100] (by decide +kernel) (by decide +kernel)
set_option maxRecDepth 20000 in
theorem gX7_sorts_X7_owesAlong : GoodIn wsX7_sorts (wsV RX7 228 RX7 yX7_owesAlong wsX7_owesAlong) := goodIn_app (goodIn_of _ (by decide +kernel)) ggX7_sorts_X7_owesAlong
set_option maxRecDepth 20000 in
theorem ggX7_sorts_X7_foundNothing : GoodIn wsX7_sorts wsX7_foundNothing := goodIn_r _ [78, 39, 79, 80, 81, 82, 83, 84, 85, 86, 87] (by decide +kernel) (by decide +kernel)
set_option maxRecDepth 20000 in
theorem gX7_sorts_X7_foundNothing : GoodIn wsX7_sorts (wsV RX7 79 RX7 yX7_foundNothing wsX7_foundNothing) := goodIn_app (goodIn_of _ (by decide +kernel)) ggX7_sorts_X7_foundNothing
theorem dX7_sorts_0 : decode cX7_sorts 0 = .ok (.aload_n 0, 1) := by decide +kernel
theorem dX7_sorts_1 : decode cX7_sorts 1 = .ok (.iload_n 1, 1) := by decide +kernel
theorem dX7_sorts_2 : decode cX7_sorts 2 = .ok (.invokevirtual 135, 3) := by decide +kernel
theorem dX7_sorts_5 : decode cX7_sorts 5 = .ok (.ifCond .eq 14, 3) := by decide +kernel
theorem dX7_sorts_8 : decode cX7_sorts 8 = .ok (.aload_n 0, 1) := by decide +kernel
theorem dX7_sorts_9 : decode cX7_sorts 9 = .ok (.iload_n 2, 1) := by decide +kernel
theorem dX7_sorts_10 : decode cX7_sorts 10 = .ok (.iload_n 3, 1) := by decide +kernel
theorem dX7_sorts_11 : decode cX7_sorts 11 = .ok (.iload 4, 2) := by decide +kernel
theorem dX7_sorts_13 : decode cX7_sorts 13 = .ok (.invokevirtual 222, 3) := by decide +kernel
theorem dX7_sorts_16 : decode cX7_sorts 16 = .ok (.goto 5, 3) := by decide +kernel
theorem dX7_sorts_19 : decode cX7_sorts 19 = .ok (.ldc 70, 2) := by decide +kernel
theorem dX7_sorts_21 : decode cX7_sorts 21 = .ok (.istore 5, 2) := by decide +kernel
theorem dX7_sorts_23 : decode cX7_sorts 23 = .ok (.iload 5, 2) := by decide +kernel
theorem dX7_sorts_25 : decode cX7_sorts 25 = .ok (.ifCond .eq 6, 3) := by decide +kernel
theorem dX7_sorts_28 : decode cX7_sorts 28 = .ok (.iload 5, 2) := by decide +kernel
theorem dX7_sorts_30 : decode cX7_sorts 30 = .ok (.ireturn, 1) := by decide +kernel
theorem dX7_sorts_31 : decode cX7_sorts 31 = .ok (.iconst 0, 1) := by decide +kernel
theorem dX7_sorts_32 : decode cX7_sorts 32 = .ok (.istore 6, 2) := by decide +kernel
theorem dX7_sorts_34 : decode cX7_sorts 34 = .ok (.iconst 1, 1) := by decide +kernel
theorem dX7_sorts_35 : decode cX7_sorts 35 = .ok (.istore 7, 2) := by decide +kernel
theorem dX7_sorts_37 : decode cX7_sorts 37 = .ok (.iload 7, 2) := by decide +kernel
theorem dX7_sorts_39 : decode cX7_sorts 39 = .ok (.iconst 5, 1) := by decide +kernel
theorem dX7_sorts_40 : decode cX7_sorts 40 = .ok (.if_icmp .gt 40, 3) := by decide +kernel
theorem dX7_sorts_43 : decode cX7_sorts 43 = .ok (.aload_n 0, 1) := by decide +kernel
theorem dX7_sorts_44 : decode cX7_sorts 44 = .ok (.iload 7, 2) := by decide +kernel
theorem dX7_sorts_46 : decode cX7_sorts 46 = .ok (.aload_n 0, 1) := by decide +kernel
theorem dX7_sorts_47 : decode cX7_sorts 47 = .ok (.getfield 26, 3) := by decide +kernel
theorem dX7_sorts_50 : decode cX7_sorts 50 = .ok (.getfield 163, 3) := by decide +kernel
theorem dX7_sorts_53 : decode cX7_sorts 53 = .ok (.iload_n 1, 1) := by decide +kernel
theorem dX7_sorts_54 : decode cX7_sorts 54 = .ok (.iaload, 1) := by decide +kernel
theorem dX7_sorts_55 : decode cX7_sorts 55 = .ok (.iload_n 2, 1) := by decide +kernel
theorem dX7_sorts_56 : decode cX7_sorts 56 = .ok (.iload_n 3, 1) := by decide +kernel
theorem dX7_sorts_57 : decode cX7_sorts 57 = .ok (.iload 4, 2) := by decide +kernel
theorem dX7_sorts_59 : decode cX7_sorts 59 = .ok (.invokevirtual 228, 3) := by decide +kernel
theorem dX7_sorts_62 : decode cX7_sorts 62 = .ok (.ifCond .eq 12, 3) := by decide +kernel
theorem dX7_sorts_65 : decode cX7_sorts 65 = .ok (.iload 6, 2) := by decide +kernel
theorem dX7_sorts_67 : decode cX7_sorts 67 = .ok (.iconst 1, 1) := by decide +kernel
theorem dX7_sorts_68 : decode cX7_sorts 68 = .ok (.iload 7, 2) := by decide +kernel
theorem dX7_sorts_70 : decode cX7_sorts 70 = .ok (.ishl, 1) := by decide +kernel
theorem dX7_sorts_71 : decode cX7_sorts 71 = .ok (.ior, 1) := by decide +kernel
theorem dX7_sorts_72 : decode cX7_sorts 72 = .ok (.istore 6, 2) := by decide +kernel
theorem dX7_sorts_74 : decode cX7_sorts 74 = .ok (.iinc 7 1, 3) := by decide +kernel
theorem dX7_sorts_77 : decode cX7_sorts 77 = .ok (.goto (-40), 3) := by decide +kernel
theorem dX7_sorts_80 : decode cX7_sorts 80 = .ok (.aload_n 0, 1) := by decide +kernel
theorem dX7_sorts_81 : decode cX7_sorts 81 = .ok (.iload 6, 2) := by decide +kernel
theorem dX7_sorts_83 : decode cX7_sorts 83 = .ok (.invokevirtual 79, 3) := by decide +kernel
theorem dX7_sorts_86 : decode cX7_sorts 86 = .ok (.ireturn, 1) := by decide +kernel
set_option maxRecDepth 20000 in
theorem ggX7_saved_X7_isGesture : GoodIn wsX7_saved wsX7_isGesture := goodIn_r _ [8, 2, 9, 40, 41, 42, 43, 44, 45, 46, 47, 48, 49, 50, 51, 52, 53, 54, 55, 56, 57, 58, 59, 60, 61] (by decide +kernel) (by decide +kernel)
set_option maxRecDepth 20000 in
theorem gX7_saved_X7_isGesture : GoodIn wsX7_saved (wsV RX7 135 RX7 yX7_isGesture wsX7_isGesture) := goodIn_app (goodIn_of _ (by decide +kernel)) ggX7_saved_X7_isGesture
set_option maxRecDepth 20000 in
theorem ggX7_saved_X2_owes : GoodIn wsX7_saved wsX2_owes := goodIn_r _ [14, 15, 16, 17, 18, 19, 13, 20, 21, 22, 23, 24, 25, 26, 27, 28, 29, 30, 31, 32, 33, 34, 35, 49, 50, 51, 52, 53, 54, 55, 56, 57, 58, 59, 60, 61] (by decide +kernel) (by decide +kernel)
set_option maxRecDepth 20000 in
theorem gX7_saved_X2_owes : GoodIn wsX7_saved (wsV RX7 145 RX2 yX2_owes wsX2_owes) := goodIn_app (goodIn_of _ (by decide +kernel)) ggX7_saved_X2_owes
set_option maxRecDepth 20000 in
theorem ggX7_saved_X2_owesIfKnown : GoodIn wsX7_saved wsX2_owesIfKnown := goodIn_r _ [39, 15, 16, 21, 22, 23, 13, 24, 25, 26, 27, 28, 29, 30, 49, 50, 51, 52, 53, 54, 55, 56, 57, 58, 59, 60, 61] (by decide +kernel) (by decide +kernel)
set_option maxRecDepth 20000 in
theorem gX7_saved_X2_owesIfKnown : GoodIn wsX7_saved (wsV RX7 241 RX2 yX2_owesIfKnown wsX2_owesIfKnown) := goodIn_app (goodIn_of _ (by decide +kernel)) ggX7_saved_X2_owesIfKnown
theorem dX7_saved_0 : decode cX7_saved 0 = .ok (.aload_n 0, 1) := by decide +kernel
theorem dX7_saved_1 : decode cX7_saved 1 = .ok (.iload_n 1, 1) := by decide +kernel
theorem dX7_saved_2 : decode cX7_saved 2 = .ok (.invokevirtual 135, 3) := by decide +kernel
theorem dX7_saved_5 : decode cX7_saved 5 = .ok (.ifCond .ne 6, 3) := by decide +kernel
theorem dX7_saved_8 : decode cX7_saved 8 = .ok (.ldc 70, 2) := by decide +kernel
theorem dX7_saved_10 : decode cX7_saved 10 = .ok (.ireturn, 1) := by decide +kernel
theorem dX7_saved_11 : decode cX7_saved 11 = .ok (.iconst 0, 1) := by decide +kernel
theorem dX7_saved_12 : decode cX7_saved 12 = .ok (.istore_n 2, 1) := by decide +kernel
theorem dX7_saved_13 : decode cX7_saved 13 = .ok (.iconst 0, 1) := by decide +kernel
theorem dX7_saved_14 : decode cX7_saved 14 = .ok (.istore_n 3, 1) := by decide +kernel
theorem dX7_saved_15 : decode cX7_saved 15 = .ok (.iload_n 3, 1) := by decide +kernel
theorem dX7_saved_16 : decode cX7_saved 16 = .ok (.aload_n 0, 1) := by decide +kernel
theorem dX7_saved_17 : decode cX7_saved 17 = .ok (.getfield 26, 3) := by decide +kernel
theorem dX7_saved_20 : decode cX7_saved 20 = .ok (.getfield 238, 3) := by decide +kernel
theorem dX7_saved_23 : decode cX7_saved 23 = .ok (.if_icmp .ge 31, 3) := by decide +kernel
theorem dX7_saved_26 : decode cX7_saved 26 = .ok (.iload_n 2, 1) := by decide +kernel
theorem dX7_saved_27 : decode cX7_saved 27 = .ok (.aload_n 0, 1) := by decide +kernel
theorem dX7_saved_28 : decode cX7_saved 28 = .ok (.getfield 26, 3) := by decide +kernel
theorem dX7_saved_31 : decode cX7_saved 31 = .ok (.iload_n 1, 1) := by decide +kernel
theorem dX7_saved_32 : decode cX7_saved 32 = .ok (.iload_n 3, 1) := by decide +kernel
theorem dX7_saved_33 : decode cX7_saved 33 = .ok (.invokevirtual 145, 3) := by decide +kernel
theorem dX7_saved_36 : decode cX7_saved 36 = .ok (.aload_n 0, 1) := by decide +kernel
theorem dX7_saved_37 : decode cX7_saved 37 = .ok (.getfield 26, 3) := by decide +kernel
theorem dX7_saved_40 : decode cX7_saved 40 = .ok (.iload_n 1, 1) := by decide +kernel
theorem dX7_saved_41 : decode cX7_saved 41 = .ok (.iload_n 3, 1) := by decide +kernel
theorem dX7_saved_42 : decode cX7_saved 42 = .ok (.invokevirtual 241, 3) := by decide +kernel
theorem dX7_saved_45 : decode cX7_saved 45 = .ok (.isub, 1) := by decide +kernel
theorem dX7_saved_46 : decode cX7_saved 46 = .ok (.iadd, 1) := by decide +kernel
theorem dX7_saved_47 : decode cX7_saved 47 = .ok (.istore_n 2, 1) := by decide +kernel
theorem dX7_saved_48 : decode cX7_saved 48 = .ok (.iinc 3 1, 3) := by decide +kernel
theorem dX7_saved_51 : decode cX7_saved 51 = .ok (.goto (-36), 3) := by decide +kernel
theorem dX7_saved_54 : decode cX7_saved 54 = .ok (.iload_n 2, 1) := by decide +kernel
theorem dX7_saved_55 : decode cX7_saved 55 = .ok (.ireturn, 1) := by decide +kernel
set_option maxRecDepth 20000 in
theorem ggX7_worst_X7_isGesture : GoodIn wsX7_worst wsX7_isGesture := goodIn_r _ [9, 2, 10, 46, 47, 48, 49, 50, 51, 52, 53, 54, 55, 56, 57, 58, 59, 60, 61, 62, 63, 64, 65, 66, 67] (by decide +kernel) (by decide +kernel)
set_option maxRecDepth 20000 in
theorem gX7_worst_X7_isGesture : GoodIn wsX7_worst (wsV RX7 135 RX7 yX7_isGesture wsX7_isGesture) := goodIn_app (goodIn_of _ (by decide +kernel)) ggX7_worst_X7_isGesture
set_option maxRecDepth 20000 in
theorem ggX7_worst_X7_isWithin : GoodIn wsX7_worst wsX7_isWithin := goodIn_r _ [13] (by decide +kernel) (by decide +kernel)
set_option maxRecDepth 20000 in
theorem gX7_worst_X7_isWithin : GoodIn wsX7_worst (va_wsS RX7 66 yX7_isWithin wsX7_isWithin) := goodIn_app (goodIn_of _ (by decide +kernel)) ggX7_worst_X7_isWithin
set_option maxRecDepth 20000 in
theorem ggX7_worst_X2_dearestStreet : GoodIn wsX7_worst wsX2_dearestStreet := goodIn_r _ [18, 19, 20, 21, 22, 17, 23, 24, 25, 26, 27, 28, 29, 30, 31, 32, 33, 34, 35, 36, 37, 38, 39, 40, 41, 42, 43, 44, 55, 56, 57, 58, 59, 60, 61, 62, 63, 64, 65, 66, 67] (by decide +kernel) (by decide +kernel)
set_option maxRecDepth 20000 in
theorem gX7_worst_X2_dearestStreet : GoodIn wsX7_worst (wsV RX7 244 RX2 yX2_dearestStreet wsX2_dearestStreet) := goodIn_app (goodIn_of _ (by decide +kernel)) ggX7_worst_X2_dearestStreet
set_option maxRecDepth 20000 in
theorem ggX7_worst_X2_owes : GoodIn wsX7_worst wsX2_owes := goodIn_r _ [23, 24, 25, 26, 27, 28, 17, 29, 30, 31, 32, 33, 34, 35, 36, 37, 38, 39, 40, 41, 42, 43, 44, 55, 56, 57, 58, 59, 60, 61, 62, 63, 64, 65, 66, 67] (by decide +kernel) (by decide +kernel)
set_option maxRecDepth 20000 in
theorem gX7_worst_X2_owes : GoodIn wsX7_worst (wsV RX7 145 RX2 yX2_owes wsX2_owes) := goodIn_app (goodIn_of _ (by decide +kernel)) ggX7_worst_X2_owes
theorem dX7_worst_0 : decode cX7_worst 0 = .ok (.aload_n 0, 1) := by decide +kernel
theorem dX7_worst_1 : decode cX7_worst 1 = .ok (.iload_n 1, 1) := by decide +kernel
theorem dX7_worst_2 : decode cX7_worst 2 = .ok (.invokevirtual 135, 3) := by decide +kernel
theorem dX7_worst_5 : decode cX7_worst 5 = .ok (.ifCond .eq 12, 3) := by decide +kernel
theorem dX7_worst_8 : decode cX7_worst 8 = .ok (.iload_n 2, 1) := by decide +kernel
theorem dX7_worst_9 : decode cX7_worst 9 = .ok (.iconst 0, 1) := by decide +kernel
theorem dX7_worst_10 : decode cX7_worst 10 = .ok (.iconst 1, 1) := by decide +kernel
theorem dX7_worst_11 : decode cX7_worst 11 = .ok (.invokestatic 66, 3) := by decide +kernel
theorem dX7_worst_14 : decode cX7_worst 14 = .ok (.ifCond .ne 6, 3) := by decide +kernel
theorem dX7_worst_17 : decode cX7_worst 17 = .ok (.ldc 70, 2) := by decide +kernel
theorem dX7_worst_19 : decode cX7_worst 19 = .ok (.ireturn, 1) := by decide +kernel
theorem dX7_worst_20 : decode cX7_worst 20 = .ok (.aload_n 0, 1) := by decide +kernel
theorem dX7_worst_21 : decode cX7_worst 21 = .ok (.getfield 26, 3) := by decide +kernel
theorem dX7_worst_24 : decode cX7_worst 24 = .ok (.getfield 238, 3) := by decide +kernel
theorem dX7_worst_27 : decode cX7_worst 27 = .ok (.ifCond .ne 6, 3) := by decide +kernel
theorem dX7_worst_30 : decode cX7_worst 30 = .ok (.ldc 221, 2) := by decide +kernel
theorem dX7_worst_32 : decode cX7_worst 32 = .ok (.ireturn, 1) := by decide +kernel
theorem dX7_worst_33 : decode cX7_worst 33 = .ok (.aload_n 0, 1) := by decide +kernel
theorem dX7_worst_34 : decode cX7_worst 34 = .ok (.getfield 26, 3) := by decide +kernel
theorem dX7_worst_37 : decode cX7_worst 37 = .ok (.iload_n 1, 1) := by decide +kernel
theorem dX7_worst_38 : decode cX7_worst 38 = .ok (.invokevirtual 244, 3) := by decide +kernel
theorem dX7_worst_41 : decode cX7_worst 41 = .ok (.istore_n 3, 1) := by decide +kernel
theorem dX7_worst_42 : decode cX7_worst 42 = .ok (.iload_n 2, 1) := by decide +kernel
theorem dX7_worst_43 : decode cX7_worst 43 = .ok (.ifCond .ne 7, 3) := by decide +kernel
theorem dX7_worst_46 : decode cX7_worst 46 = .ok (.iload_n 3, 1) := by decide +kernel
theorem dX7_worst_47 : decode cX7_worst 47 = .ok (.goto 12, 3) := by decide +kernel
theorem dX7_worst_50 : decode cX7_worst 50 = .ok (.aload_n 0, 1) := by decide +kernel
theorem dX7_worst_51 : decode cX7_worst 51 = .ok (.getfield 26, 3) := by decide +kernel
theorem dX7_worst_54 : decode cX7_worst 54 = .ok (.iload_n 1, 1) := by decide +kernel
theorem dX7_worst_55 : decode cX7_worst 55 = .ok (.iload_n 3, 1) := by decide +kernel
theorem dX7_worst_56 : decode cX7_worst 56 = .ok (.invokevirtual 145, 3) := by decide +kernel
theorem dX7_worst_59 : decode cX7_worst 59 = .ok (.ireturn, 1) := by decide +kernel
set_option maxRecDepth 20000 in
theorem ggX7_tremble_X7_isGesture : GoodIn wsX7_tremble wsX7_isGesture := goodIn_r _ [11, 2, 12, 50, 51, 52, 53, 54, 55, 56, 57, 58, 59, 60, 61, 62, 63, 64, 65, 66, 67, 68, 69, 70, 71] (by decide +kernel) (by decide +kernel)
set_option maxRecDepth 20000 in
theorem gX7_tremble_X7_isGesture : GoodIn wsX7_tremble (wsV RX7 135 RX7 yX7_isGesture wsX7_isGesture) := goodIn_app (goodIn_of _ (by decide +kernel)) ggX7_tremble_X7_isGesture
set_option maxRecDepth 20000 in
theorem ggX7_tremble_X7_isStretch : GoodIn wsX7_tremble wsX7_isStretch := goodIn_r _ [16, 17, 18, 19, 10, 20, 2, 21, 50, 51, 52, 53, 54, 55, 56, 57, 58, 59, 60, 61, 62, 63, 64, 65, 66, 67, 68, 69, 70, 71] (by decide +kernel) (by decide +kernel)
set_option maxRecDepth 20000 in
theorem gX7_tremble_X7_isStretch : GoodIn wsX7_tremble (wsV RX7 200 RX7 yX7_isStretch wsX7_isStretch) := goodIn_app (goodIn_of _ (by decide +kernel)) ggX7_tremble_X7_isStretch
set_option maxRecDepth 20000 in
theorem ggX7_tremble_X7_isWithin : GoodIn wsX7_tremble wsX7_isWithin := goodIn_r _ [24] (by decide +kernel) (by decide +kernel)
set_option maxRecDepth 20000 in
theorem gX7_tremble_X7_isWithin : GoodIn wsX7_tremble (va_wsS RX7 66 yX7_isWithin wsX7_isWithin) := goodIn_app (goodIn_of _ (by decide +kernel)) ggX7_tremble_X7_isWithin
set_option maxRecDepth 20000 in
theorem ggX7_tremble_X7_tenthsWithin : GoodIn wsX7_tremble wsX7_tenthsWithin := goodIn_r _ [27, 28, 29, 30, 31, 32, 33, 34, 35, 36, 37, 38, 39, 40, 41, 4, 5, 6, 42, 43, 44, 45, 46, 25, 26, 10, 59, 60, 61, 62, 63, 64, 65, 66, 67, 68, 69, 70, 71] (by decide +kernel) (by decide +kernel)
set_option maxRecDepth 20000 in
theorem gX7_tremble_X7_tenthsWithin : GoodIn wsX7_tremble (va_wsS RX7 247 yX7_tenthsWithin wsX7_tenthsWithin) := goodIn_app (goodIn_of _ (by decide +kernel)) ggX7_tremble_X7_tenthsWithin
set_option maxRecDepth 20000 in
theorem ggX7_tremble_X7_commonDivisor : GoodIn wsX7_tremble wsX7_commonDivisor := goodIn_r _ [49] (by decide +kernel) (by decide +kernel)
set_option maxRecDepth 20000 in
theorem gX7_tremble_X7_commonDivisor : GoodIn wsX7_tremble (va_wsS RX7 250 yX7_commonDivisor wsX7_commonDivisor) := goodIn_app (goodIn_of _ (by decide +kernel)) ggX7_tremble_X7_commonDivisor
theorem dX7_tremble_0 : decode cX7_tremble 0 = .ok (.aload_n 0, 1) := by decide +kernel
theorem dX7_tremble_1 : decode cX7_tremble 1 = .ok (.iload_n 1, 1) := by decide +kernel
theorem dX7_tremble_2 : decode cX7_tremble 2 = .ok (.invokevirtual 135, 3) := by decide +kernel
theorem dX7_tremble_5 : decode cX7_tremble 5 = .ok (.ifCond .eq 24, 3) := by decide +kernel
theorem dX7_tremble_8 : decode cX7_tremble 8 = .ok (.aload_n 0, 1) := by decide +kernel
theorem dX7_tremble_9 : decode cX7_tremble 9 = .ok (.iload_n 2, 1) := by decide +kernel
theorem dX7_tremble_10 : decode cX7_tremble 10 = .ok (.iload_n 3, 1) := by decide +kernel
theorem dX7_tremble_11 : decode cX7_tremble 11 = .ok (.invokevirtual 200, 3) := by decide +kernel
theorem dX7_tremble_14 : decode cX7_tremble 14 = .ok (.ifCond .eq 15, 3) := by decide +kernel
theorem dX7_tremble_17 : decode cX7_tremble 17 = .ok (.iload 4, 2) := by decide +kernel
theorem dX7_tremble_19 : decode cX7_tremble 19 = .ok (.iconst 0, 1) := by decide +kernel
theorem dX7_tremble_20 : decode cX7_tremble 20 = .ok (.sipush 9999, 3) := by decide +kernel
theorem dX7_tremble_23 : decode cX7_tremble 23 = .ok (.invokestatic 66, 3) := by decide +kernel
theorem dX7_tremble_26 : decode cX7_tremble 26 = .ok (.ifCond .ne 6, 3) := by decide +kernel
theorem dX7_tremble_29 : decode cX7_tremble 29 = .ok (.ldc 70, 2) := by decide +kernel
theorem dX7_tremble_31 : decode cX7_tremble 31 = .ok (.ireturn, 1) := by decide +kernel
theorem dX7_tremble_32 : decode cX7_tremble 32 = .ok (.iload 5, 2) := by decide +kernel
theorem dX7_tremble_34 : decode cX7_tremble 34 = .ok (.iconst 0, 1) := by decide +kernel
theorem dX7_tremble_35 : decode cX7_tremble 35 = .ok (.bipush 10, 2) := by decide +kernel
theorem dX7_tremble_37 : decode cX7_tremble 37 = .ok (.invokestatic 66, 3) := by decide +kernel
theorem dX7_tremble_40 : decode cX7_tremble 40 = .ok (.ifCond .eq 13, 3) := by decide +kernel
theorem dX7_tremble_43 : decode cX7_tremble 43 = .ok (.iload 6, 2) := by decide +kernel
theorem dX7_tremble_45 : decode cX7_tremble 45 = .ok (.iconst 0, 1) := by decide +kernel
theorem dX7_tremble_46 : decode cX7_tremble 46 = .ok (.iconst 1, 1) := by decide +kernel
theorem dX7_tremble_47 : decode cX7_tremble 47 = .ok (.invokestatic 66, 3) := by decide +kernel
theorem dX7_tremble_50 : decode cX7_tremble 50 = .ok (.ifCond .ne 6, 3) := by decide +kernel
theorem dX7_tremble_53 : decode cX7_tremble 53 = .ok (.ldc 70, 2) := by decide +kernel
theorem dX7_tremble_55 : decode cX7_tremble 55 = .ok (.ireturn, 1) := by decide +kernel
theorem dX7_tremble_56 : decode cX7_tremble 56 = .ok (.aload_n 0, 1) := by decide +kernel
theorem dX7_tremble_57 : decode cX7_tremble 57 = .ok (.getfield 26, 3) := by decide +kernel
theorem dX7_tremble_60 : decode cX7_tremble 60 = .ok (.iload_n 1, 1) := by decide +kernel
theorem dX7_tremble_61 : decode cX7_tremble 61 = .ok (.iload_n 2, 1) := by decide +kernel
theorem dX7_tremble_62 : decode cX7_tremble 62 = .ok (.iload_n 3, 1) := by decide +kernel
theorem dX7_tremble_63 : decode cX7_tremble 63 = .ok (.iload 4, 2) := by decide +kernel
theorem dX7_tremble_65 : decode cX7_tremble 65 = .ok (.iload 5, 2) := by decide +kernel
theorem dX7_tremble_67 : decode cX7_tremble 67 = .ok (.invokestatic 247, 3) := by decide +kernel
theorem dX7_tremble_70 : decode cX7_tremble 70 = .ok (.istore 7, 2) := by decide +kernel
theorem dX7_tremble_72 : decode cX7_tremble 72 = .ok (.iconst 1, 1) := by decide +kernel
theorem dX7_tremble_73 : decode cX7_tremble 73 = .ok (.istore 8, 2) := by decide +kernel
theorem dX7_tremble_75 : decode cX7_tremble 75 = .ok (.iload_n 2, 1) := by decide +kernel
theorem dX7_tremble_76 : decode cX7_tremble 76 = .ok (.istore 9, 2) := by decide +kernel
theorem dX7_tremble_78 : decode cX7_tremble 78 = .ok (.iload 9, 2) := by decide +kernel
theorem dX7_tremble_80 : decode cX7_tremble 80 = .ok (.iload_n 3, 1) := by decide +kernel
theorem dX7_tremble_81 : decode cX7_tremble 81 = .ok (.if_icmp .gt 16, 3) := by decide +kernel
theorem dX7_tremble_84 : decode cX7_tremble 84 = .ok (.iload 8, 2) := by decide +kernel
theorem dX7_tremble_86 : decode cX7_tremble 86 = .ok (.bipush 10, 2) := by decide +kernel
theorem dX7_tremble_88 : decode cX7_tremble 88 = .ok (.imul, 1) := by decide +kernel
theorem dX7_tremble_89 : decode cX7_tremble 89 = .ok (.istore 8, 2) := by decide +kernel
theorem dX7_tremble_91 : decode cX7_tremble 91 = .ok (.iinc 9 1, 3) := by decide +kernel
theorem dX7_tremble_94 : decode cX7_tremble 94 = .ok (.goto (-16), 3) := by decide +kernel
theorem dX7_tremble_97 : decode cX7_tremble 97 = .ok (.iconst 1, 1) := by decide +kernel
theorem dX7_tremble_98 : decode cX7_tremble 98 = .ok (.iload 7, 2) := by decide +kernel
theorem dX7_tremble_100 : decode cX7_tremble 100 = .ok (.iload 8, 2) := by decide +kernel
theorem dX7_tremble_102 : decode cX7_tremble 102 = .ok (.invokestatic 250, 3) := by decide +kernel
theorem dX7_tremble_105 : decode cX7_tremble 105 = .ok (.invokestatic 253, 3) := by decide +kernel
theorem dX7_tremble_108 : decode cX7_tremble 108 = .ok (.istore 9, 2) := by decide +kernel
theorem dX7_tremble_110 : decode cX7_tremble 110 = .ok (.iload 6, 2) := by decide +kernel
theorem dX7_tremble_112 : decode cX7_tremble 112 = .ok (.ifCond .ne 8, 3) := by decide +kernel
theorem dX7_tremble_115 : decode cX7_tremble 115 = .ok (.iload 7, 2) := by decide +kernel
theorem dX7_tremble_117 : decode cX7_tremble 117 = .ok (.goto 5, 3) := by decide +kernel
theorem dX7_tremble_120 : decode cX7_tremble 120 = .ok (.iload 8, 2) := by decide +kernel
theorem dX7_tremble_122 : decode cX7_tremble 122 = .ok (.iload 9, 2) := by decide +kernel
theorem dX7_tremble_124 : decode cX7_tremble 124 = .ok (.idiv, 1) := by decide +kernel
theorem dX7_tremble_125 : decode cX7_tremble 125 = .ok (.ireturn, 1) := by decide +kernel
set_option maxRecDepth 20000 in
theorem ggX7_image_X7_isWithin : GoodIn wsX7_image wsX7_isWithin := goodIn_r _ [9] (by decide +kernel) (by decide +kernel)
set_option maxRecDepth 20000 in
theorem gX7_image_X7_isWithin : GoodIn wsX7_image (va_wsS RX7 66 yX7_isWithin wsX7_isWithin) := goodIn_app (goodIn_of _ (by decide +kernel)) ggX7_image_X7_isWithin
set_option maxRecDepth 20000 in
theorem ggX7_image_X2_become : GoodIn wsX7_image wsX2_become := goodIn_r _ [14, 15, 16, 17, 18, 19, 20, 21, 22, 23, 24, 25, 26, 27, 28, 29, 30, 31, 41, 42, 43, 44, 45, 46, 47, 48, 49, 50, 51, 52, 53] (by decide +kernel) (by decide +kernel)
set_option maxRecDepth 20000 in
theorem gX7_image_X2_become : GoodIn wsX7_image (wsV RX7 122 RX2 yX2_become wsX2_become) := goodIn_app (goodIn_of _ (by decide +kernel)) ggX7_image_X2_become
theorem dX7_image_0 : decode cX7_image 0 = .ok (.iload_n 1, 1) := by decide +kernel
theorem dX7_image_1 : decode cX7_image 1 = .ok (.iconst 0, 1) := by decide +kernel
theorem dX7_image_2 : decode cX7_image 2 = .ok (.iconst 1, 1) := by decide +kernel
theorem dX7_image_3 : decode cX7_image 3 = .ok (.invokestatic 66, 3) := by decide +kernel
theorem dX7_image_6 : decode cX7_image 6 = .ok (.ifCond .ne 6, 3) := by decide +kernel
theorem dX7_image_9 : decode cX7_image 9 = .ok (.ldc 70, 2) := by decide +kernel
theorem dX7_image_11 : decode cX7_image 11 = .ok (.ireturn, 1) := by decide +kernel
theorem dX7_image_12 : decode cX7_image 12 = .ok (.aload_n 0, 1) := by decide +kernel
theorem dX7_image_13 : decode cX7_image 13 = .ok (.getfield 26, 3) := by decide +kernel
theorem dX7_image_16 : decode cX7_image 16 = .ok (.getfield 211, 3) := by decide +kernel
theorem dX7_image_19 : decode cX7_image 19 = .ok (.ifCond .ne 6, 3) := by decide +kernel
theorem dX7_image_22 : decode cX7_image 22 = .ok (.ldc 144, 2) := by decide +kernel
theorem dX7_image_24 : decode cX7_image 24 = .ok (.ireturn, 1) := by decide +kernel
theorem dX7_image_25 : decode cX7_image 25 = .ok (.aload_n 0, 1) := by decide +kernel
theorem dX7_image_26 : decode cX7_image 26 = .ok (.getfield 33, 3) := by decide +kernel
theorem dX7_image_29 : decode cX7_image 29 = .ok (.iload_n 1, 1) := by decide +kernel
theorem dX7_image_30 : decode cX7_image 30 = .ok (.aaload, 1) := by decide +kernel
theorem dX7_image_31 : decode cX7_image 31 = .ok (.aload_n 0, 1) := by decide +kernel
theorem dX7_image_32 : decode cX7_image 32 = .ok (.getfield 26, 3) := by decide +kernel
theorem dX7_image_35 : decode cX7_image 35 = .ok (.invokevirtual 122, 3) := by decide +kernel
theorem dX7_image_38 : decode cX7_image 38 = .ok (.iconst 1, 1) := by decide +kernel
theorem dX7_image_39 : decode cX7_image 39 = .ok (.ireturn, 1) := by decide +kernel
set_option maxRecDepth 20000 in
theorem ggX7_restore_X7_isWithin : GoodIn wsX7_restore wsX7_isWithin := goodIn_r _ [10] (by decide +kernel) (by decide +kernel)
set_option maxRecDepth 20000 in
theorem gX7_restore_X7_isWithin : GoodIn wsX7_restore (va_wsS RX7 66 yX7_isWithin wsX7_isWithin) := goodIn_app (goodIn_of _ (by decide +kernel)) ggX7_restore_X7_isWithin
set_option maxRecDepth 20000 in
theorem ggX7_restore_X2_become : GoodIn wsX7_restore wsX2_become := goodIn_r _ [15, 16, 17, 18, 19, 20, 21, 22, 23, 24, 25, 26, 27, 28, 29, 30, 31, 32, 48, 49, 50, 51, 52, 53, 54, 55, 56, 57, 58, 59, 60] (by decide +kernel) (by decide +kernel)
set_option maxRecDepth 20000 in
theorem gX7_restore_X2_become : GoodIn wsX7_restore (wsV RX7 122 RX2 yX2_become wsX2_become) := goodIn_app (goodIn_of _ (by decide +kernel)) ggX7_restore_X2_become
set_option maxRecDepth 20000 in
theorem ggX7_restore_X0_forgetAll : GoodIn wsX7_restore wsX0_forgetAll := goodIn_r _ [37, 38, 61, 62, 63, 64, 65] (by decide +kernel) (by decide +kernel)
set_option maxRecDepth 20000 in
theorem gX7_restore_X0_forgetAll : GoodIn wsX7_restore (wsV RX7 126 RX0 yX0_forgetAll wsX0_forgetAll) := goodIn_app (goodIn_of _ (by decide +kernel)) ggX7_restore_X0_forgetAll
theorem dX7_restore_0 : decode cX7_restore 0 = .ok (.iload_n 1, 1) := by decide +kernel
theorem dX7_restore_1 : decode cX7_restore 1 = .ok (.iconst 0, 1) := by decide +kernel
theorem dX7_restore_2 : decode cX7_restore 2 = .ok (.iconst 1, 1) := by decide +kernel
theorem dX7_restore_3 : decode cX7_restore 3 = .ok (.invokestatic 66, 3) := by decide +kernel
theorem dX7_restore_6 : decode cX7_restore 6 = .ok (.ifCond .ne 6, 3) := by decide +kernel
theorem dX7_restore_9 : decode cX7_restore 9 = .ok (.ldc 70, 2) := by decide +kernel
theorem dX7_restore_11 : decode cX7_restore 11 = .ok (.ireturn, 1) := by decide +kernel
theorem dX7_restore_12 : decode cX7_restore 12 = .ok (.aload_n 0, 1) := by decide +kernel
theorem dX7_restore_13 : decode cX7_restore 13 = .ok (.getfield 33, 3) := by decide +kernel
theorem dX7_restore_16 : decode cX7_restore 16 = .ok (.iload_n 1, 1) := by decide +kernel
theorem dX7_restore_17 : decode cX7_restore 17 = .ok (.aaload, 1) := by decide +kernel
theorem dX7_restore_18 : decode cX7_restore 18 = .ok (.getfield 211, 3) := by decide +kernel
theorem dX7_restore_21 : decode cX7_restore 21 = .ok (.ifCond .ne 6, 3) := by decide +kernel
theorem dX7_restore_24 : decode cX7_restore 24 = .ok (.ldc 144, 2) := by decide +kernel
theorem dX7_restore_26 : decode cX7_restore 26 = .ok (.ireturn, 1) := by decide +kernel
theorem dX7_restore_27 : decode cX7_restore 27 = .ok (.aload_n 0, 1) := by decide +kernel
theorem dX7_restore_28 : decode cX7_restore 28 = .ok (.getfield 26, 3) := by decide +kernel
theorem dX7_restore_31 : decode cX7_restore 31 = .ok (.aload_n 0, 1) := by decide +kernel
theorem dX7_restore_32 : decode cX7_restore 32 = .ok (.getfield 33, 3) := by decide +kernel
theorem dX7_restore_35 : decode cX7_restore 35 = .ok (.iload_n 1, 1) := by decide +kernel
theorem dX7_restore_36 : decode cX7_restore 36 = .ok (.aaload, 1) := by decide +kernel
theorem dX7_restore_37 : decode cX7_restore 37 = .ok (.invokevirtual 122, 3) := by decide +kernel
theorem dX7_restore_40 : decode cX7_restore 40 = .ok (.aload_n 0, 1) := by decide +kernel
theorem dX7_restore_41 : decode cX7_restore 41 = .ok (.getfield 40, 3) := by decide +kernel
theorem dX7_restore_44 : decode cX7_restore 44 = .ok (.invokevirtual 126, 3) := by decide +kernel
theorem dX7_restore_47 : decode cX7_restore 47 = .ok (.iconst 1, 1) := by decide +kernel
theorem dX7_restore_48 : decode cX7_restore 48 = .ok (.ireturn, 1) := by decide +kernel
set_option maxRecDepth 20000 in
theorem ggX7_kind_X7_isGesture : GoodIn wsX7_kind wsX7_isGesture := goodIn_r _ [8, 1, 9, 10, 11, 12, 13, 14, 15, 16, 17, 18, 19, 20, 21, 22, 23, 24, 25, 26, 27, 28, 29, 30, 31] (by decide +kernel) (by decide +kernel)
set_option maxRecDepth 20000 in
theorem gX7_kind_X7_isGesture : GoodIn wsX7_kind (wsV RX7 135 RX7 yX7_isGesture wsX7_isGesture) := goodIn_app (goodIn_of _ (by decide +kernel)) ggX7_kind_X7_isGesture
theorem dX7_kind_0 : decode cX7_kind 0 = .ok (.aload_n 0, 1) := by decide +kernel
theorem dX7_kind_1 : decode cX7_kind 1 = .ok (.iload_n 1, 1) := by decide +kernel
theorem dX7_kind_2 : decode cX7_kind 2 = .ok (.invokevirtual 135, 3) := by decide +kernel
theorem dX7_kind_5 : decode cX7_kind 5 = .ok (.ifCond .eq 15, 3) := by decide +kernel
theorem dX7_kind_8 : decode cX7_kind 8 = .ok (.aload_n 0, 1) := by decide +kernel
theorem dX7_kind_9 : decode cX7_kind 9 = .ok (.getfield 26, 3) := by decide +kernel
theorem dX7_kind_12 : decode cX7_kind 12 = .ok (.getfield 225, 3) := by decide +kernel
theorem dX7_kind_15 : decode cX7_kind 15 = .ok (.iload_n 1, 1) := by decide +kernel
theorem dX7_kind_16 : decode cX7_kind 16 = .ok (.iaload, 1) := by decide +kernel
theorem dX7_kind_17 : decode cX7_kind 17 = .ok (.goto 5, 3) := by decide +kernel
theorem dX7_kind_20 : decode cX7_kind 20 = .ok (.ldc 70, 2) := by decide +kernel
theorem dX7_kind_22 : decode cX7_kind 22 = .ok (.ireturn, 1) := by decide +kernel
set_option maxRecDepth 20000 in
theorem ggX7_as_X7_isGesture : GoodIn wsX7_as wsX7_isGesture := goodIn_r _ [8, 2, 9, 31, 32, 33, 34, 35, 36, 37, 38, 39, 40, 41, 42, 43, 44, 45, 46, 47, 48, 49, 50, 51, 52] (by decide +kernel) (by decide +kernel)
set_option maxRecDepth 20000 in
theorem gX7_as_X7_isGesture : GoodIn wsX7_as (wsV RX7 135 RX7 yX7_isGesture wsX7_isGesture) := goodIn_app (goodIn_of _ (by decide +kernel)) ggX7_as_X7_isGesture
set_option maxRecDepth 20000 in
theorem ggX7_as_X7_isWithin : GoodIn wsX7_as wsX7_isWithin := goodIn_r _ [12] (by decide +kernel) (by decide +kernel)
set_option maxRecDepth 20000 in
theorem gX7_as_X7_isWithin : GoodIn wsX7_as (va_wsS RX7 66 yX7_isWithin wsX7_isWithin) := goodIn_app (goodIn_of _ (by decide +kernel)) ggX7_as_X7_isWithin
set_option maxRecDepth 20000 in
theorem ggX7_as_X3_isOneOf : GoodIn wsX7_as wsX3_isOneOf := goodIn_r _ [16, 17, 18, 19, 15, 20] (by decide +kernel) (by decide +kernel)
set_option maxRecDepth 20000 in
theorem gX7_as_X3_isOneOf : GoodIn wsX7_as (va_wsS RX7 258 yX3_isOneOf wsX3_isOneOf) := goodIn_app (goodIn_of _ (by decide +kernel)) ggX7_as_X3_isOneOf
set_option maxRecDepth 20000 in
theorem ggX7_as_X7_foundNothing : GoodIn wsX7_as wsX7_foundNothing := goodIn_r _ [24, 25, 31, 32, 33, 34, 35, 36, 37, 38, 39] (by decide +kernel) (by decide +kernel)
set_option maxRecDepth 20000 in
theorem gX7_as_X7_foundNothing : GoodIn wsX7_as (wsV RX7 79 RX7 yX7_foundNothing wsX7_foundNothing) := goodIn_app (goodIn_of _ (by decide +kernel)) ggX7_as_X7_foundNothing
set_option maxRecDepth 20000 in
theorem ggX7_as_X7_found : GoodIn wsX7_as wsX7_found := goodIn_r _ [29, 25, 30, 31, 32, 33, 34, 35, 36, 37, 38, 39] (by decide +kernel) (by decide +kernel)
set_option maxRecDepth 20000 in
theorem gX7_as_X7_found : GoodIn wsX7_as (wsV RX7 71 RX7 yX7_found wsX7_found) := goodIn_app (goodIn_of _ (by decide +kernel)) ggX7_as_X7_found
theorem dX7_as_0 : decode cX7_as 0 = .ok (.aload_n 0, 1) := by decide +kernel
theorem dX7_as_1 : decode cX7_as 1 = .ok (.iload_n 1, 1) := by decide +kernel
theorem dX7_as_2 : decode cX7_as 2 = .ok (.invokevirtual 135, 3) := by decide +kernel
theorem dX7_as_5 : decode cX7_as 5 = .ok (.ifCond .eq 12, 3) := by decide +kernel
theorem dX7_as_8 : decode cX7_as 8 = .ok (.iload_n 2, 1) := by decide +kernel
theorem dX7_as_9 : decode cX7_as 9 = .ok (.iconst 0, 1) := by decide +kernel
theorem dX7_as_10 : decode cX7_as 10 = .ok (.iconst 5, 1) := by decide +kernel
theorem dX7_as_11 : decode cX7_as 11 = .ok (.invokestatic 66, 3) := by decide +kernel
theorem dX7_as_14 : decode cX7_as 14 = .ok (.ifCond .ne 6, 3) := by decide +kernel
theorem dX7_as_17 : decode cX7_as 17 = .ok (.ldc 70, 2) := by decide +kernel
theorem dX7_as_19 : decode cX7_as 19 = .ok (.ireturn, 1) := by decide +kernel
theorem dX7_as_20 : decode cX7_as 20 = .ok (.aload_n 0, 1) := by decide +kernel
theorem dX7_as_21 : decode cX7_as 21 = .ok (.getfield 26, 3) := by decide +kernel
theorem dX7_as_24 : decode cX7_as 24 = .ok (.getfield 225, 3) := by decide +kernel
theorem dX7_as_27 : decode cX7_as 27 = .ok (.iload_n 1, 1) := by decide +kernel
theorem dX7_as_28 : decode cX7_as 28 = .ok (.iaload, 1) := by decide +kernel
theorem dX7_as_29 : decode cX7_as 29 = .ok (.iload_n 2, 1) := by decide +kernel
theorem dX7_as_30 : decode cX7_as 30 = .ok (.invokestatic 258, 3) := by decide +kernel
theorem dX7_as_33 : decode cX7_as 33 = .ok (.ifCond .eq 11, 3) := by decide +kernel
theorem dX7_as_36 : decode cX7_as 36 = .ok (.aload_n 0, 1) := by decide +kernel
theorem dX7_as_37 : decode cX7_as 37 = .ok (.iload_n 1, 1) := by decide +kernel
theorem dX7_as_38 : decode cX7_as 38 = .ok (.invokevirtual 79, 3) := by decide +kernel
theorem dX7_as_41 : decode cX7_as 41 = .ok (.goto 8, 3) := by decide +kernel
theorem dX7_as_44 : decode cX7_as 44 = .ok (.aload_n 0, 1) := by decide +kernel
theorem dX7_as_45 : decode cX7_as 45 = .ok (.iconst 3, 1) := by decide +kernel
theorem dX7_as_46 : decode cX7_as 46 = .ok (.invokevirtual 71, 3) := by decide +kernel
theorem dX7_as_49 : decode cX7_as 49 = .ok (.ireturn, 1) := by decide +kernel
set_option maxRecDepth 20000 in
theorem ggX7_ask_X7_isGesture : GoodIn wsX7_ask wsX7_isGesture := goodIn_r _ [8, 3, 9, 45, 46, 47, 48, 49, 50, 51, 52, 53, 54, 55, 56, 57, 58, 59, 60, 61, 62, 63, 64, 65, 66] (by decide +kernel) (by decide +kernel)
set_option maxRecDepth 20000 in
theorem gX7_ask_X7_isGesture : GoodIn wsX7_ask (wsV RX7 135 RX7 yX7_isGesture wsX7_isGesture) := goodIn_app (goodIn_of _ (by decide +kernel)) ggX7_ask_X7_isGesture
set_option maxRecDepth 20000 in
theorem ggX7_ask_X7_isWithin : GoodIn wsX7_ask wsX7_isWithin := goodIn_r _ [12] (by decide +kernel) (by decide +kernel)
set_option maxRecDepth 20000 in
theorem gX7_ask_X7_isWithin : GoodIn wsX7_ask (va_wsS RX7 66 yX7_isWithin wsX7_isWithin) := goodIn_app (goodIn_of _ (by decide +kernel)) ggX7_ask_X7_isWithin
set_option maxRecDepth 20000 in
theorem ggX7_ask_X1_answer : GoodIn wsX7_ask wsX1_answer := goodIn_r _ [17, 18, 19, 20, 21, 16, 22, 23, 24, 25, 26, 27, 28, 29, 30, 31, 32, 33, 34, 35, 36, 37, 38, 39, 40, 41, 42, 43, 44, 67, 68, 54, 55, 56, 57, 58, 59, 60, 61, 62, 63, 64, 65, 66] (by decide +kernel) (by decide +kernel)
set_option maxRecDepth 20000 in
theorem gX7_ask_X1_answer : GoodIn wsX7_ask (wsV RX7 261 RX1 yX1_answer wsX1_answer) := goodIn_app (goodIn_of _ (by decide +kernel)) ggX7_ask_X1_answer
theorem dX7_ask_0 : decode cX7_ask 0 = .ok (.aload_n 0, 1) := by decide +kernel
theorem dX7_ask_1 : decode cX7_ask 1 = .ok (.iload_n 1, 1) := by decide +kernel
theorem dX7_ask_2 : decode cX7_ask 2 = .ok (.invokevirtual 135, 3) := by decide +kernel
theorem dX7_ask_5 : decode cX7_ask 5 = .ok (.ifCond .eq 12, 3) := by decide +kernel
theorem dX7_ask_8 : decode cX7_ask 8 = .ok (.iload_n 2, 1) := by decide +kernel
theorem dX7_ask_9 : decode cX7_ask 9 = .ok (.iconst 0, 1) := by decide +kernel
theorem dX7_ask_10 : decode cX7_ask 10 = .ok (.iconst 1, 1) := by decide +kernel
theorem dX7_ask_11 : decode cX7_ask 11 = .ok (.invokestatic 66, 3) := by decide +kernel
theorem dX7_ask_14 : decode cX7_ask 14 = .ok (.ifCond .ne 6, 3) := by decide +kernel
theorem dX7_ask_17 : decode cX7_ask 17 = .ok (.ldc 70, 2) := by decide +kernel
theorem dX7_ask_19 : decode cX7_ask 19 = .ok (.ireturn, 1) := by decide +kernel
theorem dX7_ask_20 : decode cX7_ask 20 = .ok (.aload_n 0, 1) := by decide +kernel
theorem dX7_ask_21 : decode cX7_ask 21 = .ok (.getfield 54, 3) := by decide +kernel
theorem dX7_ask_24 : decode cX7_ask 24 = .ok (.aload_n 0, 1) := by decide +kernel
theorem dX7_ask_25 : decode cX7_ask 25 = .ok (.getfield 26, 3) := by decide +kernel
theorem dX7_ask_28 : decode cX7_ask 28 = .ok (.iload_n 1, 1) := by decide +kernel
theorem dX7_ask_29 : decode cX7_ask 29 = .ok (.iload_n 2, 1) := by decide +kernel
theorem dX7_ask_30 : decode cX7_ask 30 = .ok (.invokevirtual 261, 3) := by decide +kernel
theorem dX7_ask_33 : decode cX7_ask 33 = .ok (.ireturn, 1) := by decide +kernel
set_option maxRecDepth 20000 in
theorem ggX7_trace_X1_numberLeft : GoodIn wsX7_trace wsX1_numberLeft := goodIn_r _ [6, 7, 8, 9, 19, 20] (by decide +kernel) (by decide +kernel)
set_option maxRecDepth 20000 in
theorem gX7_trace_X1_numberLeft : GoodIn wsX7_trace (wsV RX7 265 RX1 yX1_numberLeft wsX1_numberLeft) := goodIn_app (goodIn_of _ (by decide +kernel)) ggX7_trace_X1_numberLeft
theorem dX7_trace_0 : decode cX7_trace 0 = .ok (.aload_n 0, 1) := by decide +kernel
theorem dX7_trace_1 : decode cX7_trace 1 = .ok (.getfield 54, 3) := by decide +kernel
theorem dX7_trace_4 : decode cX7_trace 4 = .ok (.iload_n 1, 1) := by decide +kernel
theorem dX7_trace_5 : decode cX7_trace 5 = .ok (.invokevirtual 265, 3) := by decide +kernel
theorem dX7_trace_8 : decode cX7_trace 8 = .ok (.ireturn, 1) := by decide +kernel
set_option maxRecDepth 20000 in
theorem ggX7_count_X5_howMany : GoodIn wsX7_count wsX5_howMany := goodIn_r _ [17, 18, 19, 20, 16, 21, 22, 63, 64, 65] (by decide +kernel) (by decide +kernel)
set_option maxRecDepth 20000 in
theorem gX7_count_X5_howMany : GoodIn wsX7_count (wsV RX7 268 RX5 yX5_howMany wsX5_howMany) := goodIn_app (goodIn_of _ (by decide +kernel)) ggX7_count_X5_howMany
set_option maxRecDepth 20000 in
theorem ggX7_count_J6_bitCount_0f7a4 : GoodIn wsX7_count wsJ6_bitCount_0f7a4 := goodIn_r _ [26, 27, 28, 29] (by decide +kernel) (by decide +kernel)
set_option maxRecDepth 20000 in
theorem gX7_count_J6_bitCount_0f7a4 : GoodIn wsX7_count (va_wsS RX7 275 yJ6_bitCount_0f7a4 wsJ6_bitCount_0f7a4) := goodIn_app (goodIn_of _ (by decide +kernel)) ggX7_count_J6_bitCount_0f7a4
theorem dX7_count_0 : decode cX7_count 0 = .ok (.iload_n 1, 1) := by decide +kernel
theorem dX7_count_1 : decode cX7_count 1 = .ok (.tableswitch 114 0 7 #[47, 55, 63, 71, 79, 87, 98, 106], 47) := by decide +kernel
theorem dX7_count_48 : decode cX7_count 48 = .ok (.aload_n 0, 1) := by decide +kernel
theorem dX7_count_49 : decode cX7_count 49 = .ok (.getfield 10, 3) := by decide +kernel
theorem dX7_count_52 : decode cX7_count 52 = .ok (.invokevirtual 268, 3) := by decide +kernel
theorem dX7_count_55 : decode cX7_count 55 = .ok (.ireturn, 1) := by decide +kernel
theorem dX7_count_56 : decode cX7_count 56 = .ok (.aload_n 0, 1) := by decide +kernel
theorem dX7_count_57 : decode cX7_count 57 = .ok (.getfield 26, 3) := by decide +kernel
theorem dX7_count_60 : decode cX7_count 60 = .ok (.getfield 238, 3) := by decide +kernel
theorem dX7_count_63 : decode cX7_count 63 = .ok (.ireturn, 1) := by decide +kernel
theorem dX7_count_64 : decode cX7_count 64 = .ok (.aload_n 0, 1) := by decide +kernel
theorem dX7_count_65 : decode cX7_count 65 = .ok (.getfield 26, 3) := by decide +kernel
theorem dX7_count_68 : decode cX7_count 68 = .ok (.getfield 129, 3) := by decide +kernel
theorem dX7_count_71 : decode cX7_count 71 = .ok (.ireturn, 1) := by decide +kernel
theorem dX7_count_72 : decode cX7_count 72 = .ok (.aload_n 0, 1) := by decide +kernel
theorem dX7_count_73 : decode cX7_count 73 = .ok (.getfield 26, 3) := by decide +kernel
theorem dX7_count_76 : decode cX7_count 76 = .ok (.getfield 149, 3) := by decide +kernel
theorem dX7_count_79 : decode cX7_count 79 = .ok (.ireturn, 1) := by decide +kernel
theorem dX7_count_80 : decode cX7_count 80 = .ok (.aload_n 0, 1) := by decide +kernel
theorem dX7_count_81 : decode cX7_count 81 = .ok (.getfield 26, 3) := by decide +kernel
theorem dX7_count_84 : decode cX7_count 84 = .ok (.getfield 272, 3) := by decide +kernel
theorem dX7_count_87 : decode cX7_count 87 = .ok (.ireturn, 1) := by decide +kernel
theorem dX7_count_88 : decode cX7_count 88 = .ok (.aload_n 0, 1) := by decide +kernel
theorem dX7_count_89 : decode cX7_count 89 = .ok (.getfield 26, 3) := by decide +kernel
theorem dX7_count_92 : decode cX7_count 92 = .ok (.getfield 173, 3) := by decide +kernel
theorem dX7_count_95 : decode cX7_count 95 = .ok (.invokestatic 275, 3) := by decide +kernel
theorem dX7_count_98 : decode cX7_count 98 = .ok (.ireturn, 1) := by decide +kernel
theorem dX7_count_99 : decode cX7_count 99 = .ok (.aload_n 0, 1) := by decide +kernel
theorem dX7_count_100 : decode cX7_count 100 = .ok (.getfield 40, 3) := by decide +kernel
theorem dX7_count_103 : decode cX7_count 103 = .ok (.getfield 176, 3) := by decide +kernel
theorem dX7_count_106 : decode cX7_count 106 = .ok (.ireturn, 1) := by decide +kernel
theorem dX7_count_107 : decode cX7_count 107 = .ok (.aload_n 0, 1) := by decide +kernel
theorem dX7_count_108 : decode cX7_count 108 = .ok (.getfield 19, 3) := by decide +kernel
theorem dX7_count_111 : decode cX7_count 111 = .ok (.getfield 280, 3) := by decide +kernel
theorem dX7_count_114 : decode cX7_count 114 = .ok (.ireturn, 1) := by decide +kernel
theorem dX7_count_115 : decode cX7_count 115 = .ok (.ldc 70, 2) := by decide +kernel
theorem dX7_count_117 : decode cX7_count 117 = .ok (.ireturn, 1) := by decide +kernel
theorem dX7_status_0 : decode cX7_status 0 = .ok (.aload_n 0, 1) := by decide +kernel
theorem dX7_status_1 : decode cX7_status 1 = .ok (.getfield 58, 3) := by decide +kernel
theorem dX7_status_4 : decode cX7_status 4 = .ok (.ireturn, 1) := by decide +kernel
theorem dX7_isWithin_0 : decode cX7_isWithin 0 = .ok (.iload_n 0, 1) := by decide +kernel
theorem dX7_isWithin_1 : decode cX7_isWithin 1 = .ok (.iload_n 1, 1) := by decide +kernel
theorem dX7_isWithin_2 : decode cX7_isWithin 2 = .ok (.if_icmp .lt 12, 3) := by decide +kernel
theorem dX7_isWithin_5 : decode cX7_isWithin 5 = .ok (.iload_n 0, 1) := by decide +kernel
theorem dX7_isWithin_6 : decode cX7_isWithin 6 = .ok (.iload_n 2, 1) := by decide +kernel
theorem dX7_isWithin_7 : decode cX7_isWithin 7 = .ok (.if_icmp .gt 7, 3) := by decide +kernel
theorem dX7_isWithin_10 : decode cX7_isWithin 10 = .ok (.iconst 1, 1) := by decide +kernel
theorem dX7_isWithin_11 : decode cX7_isWithin 11 = .ok (.goto 4, 3) := by decide +kernel
theorem dX7_isWithin_14 : decode cX7_isWithin 14 = .ok (.iconst 0, 1) := by decide +kernel
theorem dX7_isWithin_15 : decode cX7_isWithin 15 = .ok (.ireturn, 1) := by decide +kernel
set_option maxRecDepth 20000 in
theorem ggX7_isMeaning_X7_isWithin : GoodIn wsX7_isMeaning wsX7_isWithin := goodIn_r _ [4] (by decide +kernel) (by decide +kernel)
set_option maxRecDepth 20000 in
theorem gX7_isMeaning_X7_isWithin : GoodIn wsX7_isMeaning (va_wsS RX7 66 yX7_isWithin wsX7_isWithin) := goodIn_app (goodIn_of _ (by decide +kernel)) ggX7_isMeaning_X7_isWithin
theorem dX7_isMeaning_0 : decode cX7_isMeaning 0 = .ok (.iload_n 0, 1) := by decide +kernel
theorem dX7_isMeaning_1 : decode cX7_isMeaning 1 = .ok (.iconst 0, 1) := by decide +kernel
theorem dX7_isMeaning_2 : decode cX7_isMeaning 2 = .ok (.iconst 3, 1) := by decide +kernel
theorem dX7_isMeaning_3 : decode cX7_isMeaning 3 = .ok (.invokestatic 66, 3) := by decide +kernel
theorem dX7_isMeaning_6 : decode cX7_isMeaning 6 = .ok (.ireturn, 1) := by decide +kernel
theorem dX7_isGesture_0 : decode cX7_isGesture 0 = .ok (.iload_n 1, 1) := by decide +kernel
theorem dX7_isGesture_1 : decode cX7_isGesture 1 = .ok (.ifCond .lt 18, 3) := by decide +kernel
theorem dX7_isGesture_4 : decode cX7_isGesture 4 = .ok (.iload_n 1, 1) := by decide +kernel
theorem dX7_isGesture_5 : decode cX7_isGesture 5 = .ok (.aload_n 0, 1) := by decide +kernel
theorem dX7_isGesture_6 : decode cX7_isGesture 6 = .ok (.getfield 26, 3) := by decide +kernel
theorem dX7_isGesture_9 : decode cX7_isGesture 9 = .ok (.getfield 129, 3) := by decide +kernel
theorem dX7_isGesture_12 : decode cX7_isGesture 12 = .ok (.if_icmp .ge 7, 3) := by decide +kernel
theorem dX7_isGesture_15 : decode cX7_isGesture 15 = .ok (.iconst 1, 1) := by decide +kernel
theorem dX7_isGesture_16 : decode cX7_isGesture 16 = .ok (.goto 4, 3) := by decide +kernel
theorem dX7_isGesture_19 : decode cX7_isGesture 19 = .ok (.iconst 0, 1) := by decide +kernel
theorem dX7_isGesture_20 : decode cX7_isGesture 20 = .ok (.ireturn, 1) := by decide +kernel
theorem dX7_isStreet_0 : decode cX7_isStreet 0 = .ok (.iload_n 1, 1) := by decide +kernel
theorem dX7_isStreet_1 : decode cX7_isStreet 1 = .ok (.ifCond .lt 18, 3) := by decide +kernel
theorem dX7_isStreet_4 : decode cX7_isStreet 4 = .ok (.iload_n 1, 1) := by decide +kernel
theorem dX7_isStreet_5 : decode cX7_isStreet 5 = .ok (.aload_n 0, 1) := by decide +kernel
theorem dX7_isStreet_6 : decode cX7_isStreet 6 = .ok (.getfield 26, 3) := by decide +kernel
theorem dX7_isStreet_9 : decode cX7_isStreet 9 = .ok (.getfield 238, 3) := by decide +kernel
theorem dX7_isStreet_12 : decode cX7_isStreet 12 = .ok (.if_icmp .ge 7, 3) := by decide +kernel
theorem dX7_isStreet_15 : decode cX7_isStreet 15 = .ok (.iconst 1, 1) := by decide +kernel
theorem dX7_isStreet_16 : decode cX7_isStreet 16 = .ok (.goto 4, 3) := by decide +kernel
theorem dX7_isStreet_19 : decode cX7_isStreet 19 = .ok (.iconst 0, 1) := by decide +kernel
theorem dX7_isStreet_20 : decode cX7_isStreet 20 = .ok (.ireturn, 1) := by decide +kernel
set_option maxRecDepth 20000 in
theorem ggX7_isStretch_X7_isStreet : GoodIn wsX7_isStretch wsX7_isStreet := goodIn_r _ [5, 6, 7, 8, 9, 10, 11, 12, 13, 14, 15, 16, 17, 18, 19, 20, 21, 22, 23, 24, 25, 26, 27, 28, 29] (by decide +kernel) (by decide +kernel)
set_option maxRecDepth 20000 in
theorem gX7_isStretch_X7_isStreet : GoodIn wsX7_isStretch (wsV RX7 138 RX7 yX7_isStreet wsX7_isStreet) := goodIn_app (goodIn_of _ (by decide +kernel)) ggX7_isStretch_X7_isStreet
theorem dX7_isStretch_0 : decode cX7_isStretch 0 = .ok (.aload_n 0, 1) := by decide +kernel
theorem dX7_isStretch_1 : decode cX7_isStretch 1 = .ok (.iload_n 1, 1) := by decide +kernel
theorem dX7_isStretch_2 : decode cX7_isStretch 2 = .ok (.invokevirtual 138, 3) := by decide +kernel
theorem dX7_isStretch_5 : decode cX7_isStretch 5 = .ok (.ifCond .eq 20, 3) := by decide +kernel
theorem dX7_isStretch_8 : decode cX7_isStretch 8 = .ok (.aload_n 0, 1) := by decide +kernel
theorem dX7_isStretch_9 : decode cX7_isStretch 9 = .ok (.iload_n 2, 1) := by decide +kernel
theorem dX7_isStretch_10 : decode cX7_isStretch 10 = .ok (.invokevirtual 138, 3) := by decide +kernel
theorem dX7_isStretch_13 : decode cX7_isStretch 13 = .ok (.ifCond .eq 12, 3) := by decide +kernel
theorem dX7_isStretch_16 : decode cX7_isStretch 16 = .ok (.iload_n 1, 1) := by decide +kernel
theorem dX7_isStretch_17 : decode cX7_isStretch 17 = .ok (.iload_n 2, 1) := by decide +kernel
theorem dX7_isStretch_18 : decode cX7_isStretch 18 = .ok (.if_icmp .gt 7, 3) := by decide +kernel
theorem dX7_isStretch_21 : decode cX7_isStretch 21 = .ok (.iconst 1, 1) := by decide +kernel
theorem dX7_isStretch_22 : decode cX7_isStretch 22 = .ok (.goto 4, 3) := by decide +kernel
theorem dX7_isStretch_25 : decode cX7_isStretch 25 = .ok (.iconst 0, 1) := by decide +kernel
theorem dX7_isStretch_26 : decode cX7_isStretch 26 = .ok (.ireturn, 1) := by decide +kernel
theorem dX7_found_0 : decode cX7_found 0 = .ok (.aload_n 0, 1) := by decide +kernel
theorem dX7_found_1 : decode cX7_found 1 = .ok (.iload_n 1, 1) := by decide +kernel
theorem dX7_found_2 : decode cX7_found 2 = .ok (.putfield 58, 3) := by decide +kernel
theorem dX7_found_5 : decode cX7_found 5 = .ok (.ldc_w 283, 3) := by decide +kernel
theorem dX7_found_8 : decode cX7_found 8 = .ok (.iload_n 1, 1) := by decide +kernel
theorem dX7_found_9 : decode cX7_found 9 = .ok (.isub, 1) := by decide +kernel
theorem dX7_found_10 : decode cX7_found 10 = .ok (.ireturn, 1) := by decide +kernel
theorem dX7_foundNothing_0 : decode cX7_foundNothing 0 = .ok (.aload_n 0, 1) := by decide +kernel
theorem dX7_foundNothing_1 : decode cX7_foundNothing 1 = .ok (.iconst 0, 1) := by decide +kernel
theorem dX7_foundNothing_2 : decode cX7_foundNothing 2 = .ok (.putfield 58, 3) := by decide +kernel
theorem dX7_foundNothing_5 : decode cX7_foundNothing 5 = .ok (.iload_n 1, 1) := by decide +kernel
theorem dX7_foundNothing_6 : decode cX7_foundNothing 6 = .ok (.ireturn, 1) := by decide +kernel
set_option maxRecDepth 20000 in
theorem ggX7_refusalOfThread_X5_isRow : GoodIn wsX7_refusalOfThread wsX5_isRow := goodIn_r _ [6] (by decide +kernel) (by decide +kernel)
set_option maxRecDepth 20000 in
theorem gX7_refusalOfThread_X5_isRow : GoodIn wsX7_refusalOfThread (va_wsS RX7 62 yX5_isRow wsX5_isRow) := goodIn_app (goodIn_of _ (by decide +kernel)) ggX7_refusalOfThread_X5_isRow
set_option maxRecDepth 20000 in
theorem ggX7_refusalOfThread_X7_isWithin : GoodIn wsX7_refusalOfThread wsX7_isWithin := goodIn_r _ [10] (by decide +kernel) (by decide +kernel)
set_option maxRecDepth 20000 in
theorem gX7_refusalOfThread_X7_isWithin : GoodIn wsX7_refusalOfThread (va_wsS RX7 66 yX7_isWithin wsX7_isWithin) := goodIn_app (goodIn_of _ (by decide +kernel)) ggX7_refusalOfThread_X7_isWithin
set_option maxRecDepth 20000 in
theorem ggX7_refusalOfThread_X5_findingOf : GoodIn wsX7_refusalOfThread wsX5_findingOf := goodIn_r _ [14, 15, 16, 17, 5, 18, 19, 20, 21, 22, 23, 50, 51, 52] (by decide +kernel) (by decide +kernel)
set_option maxRecDepth 20000 in
theorem gX7_refusalOfThread_X5_findingOf : GoodIn wsX7_refusalOfThread (wsV RX7 82 RX5 yX5_findingOf wsX5_findingOf) := goodIn_app (goodIn_of _ (by decide +kernel)) ggX7_refusalOfThread_X5_findingOf
set_option maxRecDepth 20000 in
theorem ggX7_refusalOfThread_X7_found : GoodIn wsX7_refusalOfThread wsX7_found := goodIn_r _ [27, 28, 29, 41, 42, 43, 44, 45, 46, 47, 48, 49] (by decide +kernel) (by decide +kernel)
set_option maxRecDepth 20000 in
theorem gX7_refusalOfThread_X7_found : GoodIn wsX7_refusalOfThread (wsV RX7 71 RX7 yX7_found wsX7_found) := goodIn_app (goodIn_of _ (by decide +kernel)) ggX7_refusalOfThread_X7_found
set_option maxRecDepth 20000 in
theorem ggX7_refusalOfThread_X5_at : GoodIn wsX7_refusalOfThread wsX5_at := goodIn_r _ [33, 34, 50, 51, 52] (by decide +kernel) (by decide +kernel)
set_option maxRecDepth 20000 in
theorem gX7_refusalOfThread_X5_at : GoodIn wsX7_refusalOfThread (wsV RX7 284 RX5 yX5_at wsX5_at) := goodIn_app (goodIn_of _ (by decide +kernel)) ggX7_refusalOfThread_X5_at
set_option maxRecDepth 20000 in
theorem ggX7_refusalOfThread_X7_isStreet : GoodIn wsX7_refusalOfThread wsX7_isStreet := goodIn_r _ [38, 39, 40, 41, 42, 43, 44, 45, 46, 47, 48, 49, 53, 54, 55, 56, 57, 58, 59, 60, 61, 62, 63, 64, 65] (by decide +kernel) (by decide +kernel)
set_option maxRecDepth 20000 in
theorem gX7_refusalOfThread_X7_isStreet : GoodIn wsX7_refusalOfThread (wsV RX7 138 RX7 yX7_isStreet wsX7_isStreet) := goodIn_app (goodIn_of _ (by decide +kernel)) ggX7_refusalOfThread_X7_isStreet
theorem dX7_refusalOfThread_0 : decode cX7_refusalOfThread 0 = .ok (.iload_n 1, 1) := by decide +kernel
theorem dX7_refusalOfThread_1 : decode cX7_refusalOfThread 1 = .ok (.invokestatic 62, 3) := by decide +kernel
theorem dX7_refusalOfThread_4 : decode cX7_refusalOfThread 4 = .ok (.ifCond .eq 13, 3) := by decide +kernel
theorem dX7_refusalOfThread_7 : decode cX7_refusalOfThread 7 = .ok (.iload_n 3, 1) := by decide +kernel
theorem dX7_refusalOfThread_8 : decode cX7_refusalOfThread 8 = .ok (.iconst 1, 1) := by decide +kernel
theorem dX7_refusalOfThread_9 : decode cX7_refusalOfThread 9 = .ok (.bipush 12, 2) := by decide +kernel
theorem dX7_refusalOfThread_11 : decode cX7_refusalOfThread 11 = .ok (.invokestatic 66, 3) := by decide +kernel
theorem dX7_refusalOfThread_14 : decode cX7_refusalOfThread 14 = .ok (.ifCond .ne 6, 3) := by decide +kernel
theorem dX7_refusalOfThread_17 : decode cX7_refusalOfThread 17 = .ok (.ldc 70, 2) := by decide +kernel
theorem dX7_refusalOfThread_19 : decode cX7_refusalOfThread 19 = .ok (.ireturn, 1) := by decide +kernel
theorem dX7_refusalOfThread_20 : decode cX7_refusalOfThread 20 = .ok (.aload_n 0, 1) := by decide +kernel
theorem dX7_refusalOfThread_21 : decode cX7_refusalOfThread 21 = .ok (.getfield 10, 3) := by decide +kernel
theorem dX7_refusalOfThread_24 : decode cX7_refusalOfThread 24 = .ok (.iload_n 1, 1) := by decide +kernel
theorem dX7_refusalOfThread_25 : decode cX7_refusalOfThread 25 = .ok (.iload_n 2, 1) := by decide +kernel
theorem dX7_refusalOfThread_26 : decode cX7_refusalOfThread 26 = .ok (.iconst 2, 1) := by decide +kernel
theorem dX7_refusalOfThread_27 : decode cX7_refusalOfThread 27 = .ok (.iload_n 3, 1) := by decide +kernel
theorem dX7_refusalOfThread_28 : decode cX7_refusalOfThread 28 = .ok (.imul, 1) := by decide +kernel
theorem dX7_refusalOfThread_29 : decode cX7_refusalOfThread 29 = .ok (.invokevirtual 82, 3) := by decide +kernel
theorem dX7_refusalOfThread_32 : decode cX7_refusalOfThread 32 = .ok (.istore 4, 2) := by decide +kernel
theorem dX7_refusalOfThread_34 : decode cX7_refusalOfThread 34 = .ok (.iload 4, 2) := by decide +kernel
theorem dX7_refusalOfThread_36 : decode cX7_refusalOfThread 36 = .ok (.ifCond .eq 10, 3) := by decide +kernel
theorem dX7_refusalOfThread_39 : decode cX7_refusalOfThread 39 = .ok (.aload_n 0, 1) := by decide +kernel
theorem dX7_refusalOfThread_40 : decode cX7_refusalOfThread 40 = .ok (.iload 4, 2) := by decide +kernel
theorem dX7_refusalOfThread_42 : decode cX7_refusalOfThread 42 = .ok (.invokevirtual 71, 3) := by decide +kernel
theorem dX7_refusalOfThread_45 : decode cX7_refusalOfThread 45 = .ok (.ireturn, 1) := by decide +kernel
theorem dX7_refusalOfThread_46 : decode cX7_refusalOfThread 46 = .ok (.iconst 0, 1) := by decide +kernel
theorem dX7_refusalOfThread_47 : decode cX7_refusalOfThread 47 = .ok (.istore 5, 2) := by decide +kernel
theorem dX7_refusalOfThread_49 : decode cX7_refusalOfThread 49 = .ok (.iload 5, 2) := by decide +kernel
theorem dX7_refusalOfThread_51 : decode cX7_refusalOfThread 51 = .ok (.iload_n 3, 1) := by decide +kernel
theorem dX7_refusalOfThread_52 : decode cX7_refusalOfThread 52 = .ok (.if_icmp .ge 33, 3) := by decide +kernel
theorem dX7_refusalOfThread_55 : decode cX7_refusalOfThread 55 = .ok (.aload_n 0, 1) := by decide +kernel
theorem dX7_refusalOfThread_56 : decode cX7_refusalOfThread 56 = .ok (.aload_n 0, 1) := by decide +kernel
theorem dX7_refusalOfThread_57 : decode cX7_refusalOfThread 57 = .ok (.getfield 10, 3) := by decide +kernel
theorem dX7_refusalOfThread_60 : decode cX7_refusalOfThread 60 = .ok (.iload_n 1, 1) := by decide +kernel
theorem dX7_refusalOfThread_61 : decode cX7_refusalOfThread 61 = .ok (.iload_n 2, 1) := by decide +kernel
theorem dX7_refusalOfThread_62 : decode cX7_refusalOfThread 62 = .ok (.iconst 2, 1) := by decide +kernel
theorem dX7_refusalOfThread_63 : decode cX7_refusalOfThread 63 = .ok (.iload 5, 2) := by decide +kernel
theorem dX7_refusalOfThread_65 : decode cX7_refusalOfThread 65 = .ok (.imul, 1) := by decide +kernel
theorem dX7_refusalOfThread_66 : decode cX7_refusalOfThread 66 = .ok (.iadd, 1) := by decide +kernel
theorem dX7_refusalOfThread_67 : decode cX7_refusalOfThread 67 = .ok (.invokevirtual 284, 3) := by decide +kernel
theorem dX7_refusalOfThread_70 : decode cX7_refusalOfThread 70 = .ok (.invokevirtual 138, 3) := by decide +kernel
theorem dX7_refusalOfThread_73 : decode cX7_refusalOfThread 73 = .ok (.ifCond .ne 6, 3) := by decide +kernel
theorem dX7_refusalOfThread_76 : decode cX7_refusalOfThread 76 = .ok (.ldc 70, 2) := by decide +kernel
theorem dX7_refusalOfThread_78 : decode cX7_refusalOfThread 78 = .ok (.ireturn, 1) := by decide +kernel
theorem dX7_refusalOfThread_79 : decode cX7_refusalOfThread 79 = .ok (.iinc 5 1, 3) := by decide +kernel
theorem dX7_refusalOfThread_82 : decode cX7_refusalOfThread 82 = .ok (.goto (-33), 3) := by decide +kernel
theorem dX7_refusalOfThread_85 : decode cX7_refusalOfThread 85 = .ok (.iconst 0, 1) := by decide +kernel
theorem dX7_refusalOfThread_86 : decode cX7_refusalOfThread 86 = .ok (.ireturn, 1) := by decide +kernel
set_option maxRecDepth 20000 in
theorem ggX7_owesAlong_X5_at : GoodIn wsX7_owesAlong wsX5_at := goodIn_r _ [7, 8, 44, 45, 46] (by decide +kernel) (by decide +kernel)
set_option maxRecDepth 20000 in
theorem gX7_owesAlong_X5_at : GoodIn wsX7_owesAlong (wsV RX7 284 RX5 yX5_at wsX5_at) := goodIn_app (goodIn_of _ (by decide +kernel)) ggX7_owesAlong_X5_at
set_option maxRecDepth 20000 in
theorem ggX7_owesAlong_X7_isStreet : GoodIn wsX7_owesAlong wsX7_isStreet := goodIn_r _ [13, 2, 14, 35, 36, 37, 38, 39, 40, 41, 42, 43, 47, 48, 49, 50, 51, 52, 53, 54, 55, 56, 57, 58, 59] (by decide +kernel) (by decide +kernel)
set_option maxRecDepth 20000 in
theorem gX7_owesAlong_X7_isStreet : GoodIn wsX7_owesAlong (wsV RX7 138 RX7 yX7_isStreet wsX7_isStreet) := goodIn_app (goodIn_of _ (by decide +kernel)) ggX7_owesAlong_X7_isStreet
set_option maxRecDepth 20000 in
theorem ggX7_owesAlong_X2_owesSuch : GoodIn wsX7_owesAlong wsX2_owesSuch := goodIn_r _ [19, 20, 21, 22, 18, 23, 24, 25, 26, 27, 28, 29, 30, 31, 32, 33, 34, 47, 48, 49, 50, 51, 52, 53, 54, 55, 56, 57, 58, 59] (by decide +kernel) (by decide +kernel)
set_option maxRecDepth 20000 in
theorem gX7_owesAlong_X2_owesSuch : GoodIn wsX7_owesAlong (wsV RX7 287 RX2 yX2_owesSuch wsX2_owesSuch) := goodIn_app (goodIn_of _ (by decide +kernel)) ggX7_owesAlong_X2_owesSuch
theorem dX7_owesAlong_0 : decode cX7_owesAlong 0 = .ok (.iconst 0, 1) := by decide +kernel
theorem dX7_owesAlong_1 : decode cX7_owesAlong 1 = .ok (.istore 6, 2) := by decide +kernel
theorem dX7_owesAlong_3 : decode cX7_owesAlong 3 = .ok (.iload 6, 2) := by decide +kernel
theorem dX7_owesAlong_5 : decode cX7_owesAlong 5 = .ok (.iload 5, 2) := by decide +kernel
theorem dX7_owesAlong_7 : decode cX7_owesAlong 7 = .ok (.if_icmp .ge 72, 3) := by decide +kernel
theorem dX7_owesAlong_10 : decode cX7_owesAlong 10 = .ok (.aload_n 0, 1) := by decide +kernel
theorem dX7_owesAlong_11 : decode cX7_owesAlong 11 = .ok (.getfield 10, 3) := by decide +kernel
theorem dX7_owesAlong_14 : decode cX7_owesAlong 14 = .ok (.iload_n 3, 1) := by decide +kernel
theorem dX7_owesAlong_15 : decode cX7_owesAlong 15 = .ok (.iload 4, 2) := by decide +kernel
theorem dX7_owesAlong_17 : decode cX7_owesAlong 17 = .ok (.iconst 2, 1) := by decide +kernel
theorem dX7_owesAlong_18 : decode cX7_owesAlong 18 = .ok (.iload 6, 2) := by decide +kernel
theorem dX7_owesAlong_20 : decode cX7_owesAlong 20 = .ok (.imul, 1) := by decide +kernel
theorem dX7_owesAlong_21 : decode cX7_owesAlong 21 = .ok (.iadd, 1) := by decide +kernel
theorem dX7_owesAlong_22 : decode cX7_owesAlong 22 = .ok (.invokevirtual 284, 3) := by decide +kernel
theorem dX7_owesAlong_25 : decode cX7_owesAlong 25 = .ok (.istore 7, 2) := by decide +kernel
theorem dX7_owesAlong_27 : decode cX7_owesAlong 27 = .ok (.aload_n 0, 1) := by decide +kernel
theorem dX7_owesAlong_28 : decode cX7_owesAlong 28 = .ok (.getfield 10, 3) := by decide +kernel
theorem dX7_owesAlong_31 : decode cX7_owesAlong 31 = .ok (.iload_n 3, 1) := by decide +kernel
theorem dX7_owesAlong_32 : decode cX7_owesAlong 32 = .ok (.iload 4, 2) := by decide +kernel
theorem dX7_owesAlong_34 : decode cX7_owesAlong 34 = .ok (.iconst 2, 1) := by decide +kernel
theorem dX7_owesAlong_35 : decode cX7_owesAlong 35 = .ok (.iload 6, 2) := by decide +kernel
theorem dX7_owesAlong_37 : decode cX7_owesAlong 37 = .ok (.imul, 1) := by decide +kernel
theorem dX7_owesAlong_38 : decode cX7_owesAlong 38 = .ok (.iadd, 1) := by decide +kernel
theorem dX7_owesAlong_39 : decode cX7_owesAlong 39 = .ok (.iconst 1, 1) := by decide +kernel
theorem dX7_owesAlong_40 : decode cX7_owesAlong 40 = .ok (.iadd, 1) := by decide +kernel
theorem dX7_owesAlong_41 : decode cX7_owesAlong 41 = .ok (.invokevirtual 284, 3) := by decide +kernel
theorem dX7_owesAlong_44 : decode cX7_owesAlong 44 = .ok (.istore 8, 2) := by decide +kernel
theorem dX7_owesAlong_46 : decode cX7_owesAlong 46 = .ok (.aload_n 0, 1) := by decide +kernel
theorem dX7_owesAlong_47 : decode cX7_owesAlong 47 = .ok (.iload 7, 2) := by decide +kernel
theorem dX7_owesAlong_49 : decode cX7_owesAlong 49 = .ok (.invokevirtual 138, 3) := by decide +kernel
theorem dX7_owesAlong_52 : decode cX7_owesAlong 52 = .ok (.ifCond .eq 19, 3) := by decide +kernel
theorem dX7_owesAlong_55 : decode cX7_owesAlong 55 = .ok (.aload_n 0, 1) := by decide +kernel
theorem dX7_owesAlong_56 : decode cX7_owesAlong 56 = .ok (.getfield 26, 3) := by decide +kernel
theorem dX7_owesAlong_59 : decode cX7_owesAlong 59 = .ok (.iload_n 1, 1) := by decide +kernel
theorem dX7_owesAlong_60 : decode cX7_owesAlong 60 = .ok (.iload_n 2, 1) := by decide +kernel
theorem dX7_owesAlong_61 : decode cX7_owesAlong 61 = .ok (.iload 7, 2) := by decide +kernel
theorem dX7_owesAlong_63 : decode cX7_owesAlong 63 = .ok (.invokevirtual 287, 3) := by decide +kernel
theorem dX7_owesAlong_66 : decode cX7_owesAlong 66 = .ok (.iload 8, 2) := by decide +kernel
theorem dX7_owesAlong_68 : decode cX7_owesAlong 68 = .ok (.if_icmp .eq 5, 3) := by decide +kernel
theorem dX7_owesAlong_71 : decode cX7_owesAlong 71 = .ok (.iconst 0, 1) := by decide +kernel
theorem dX7_owesAlong_72 : decode cX7_owesAlong 72 = .ok (.ireturn, 1) := by decide +kernel
theorem dX7_owesAlong_73 : decode cX7_owesAlong 73 = .ok (.iinc 6 1, 3) := by decide +kernel
theorem dX7_owesAlong_76 : decode cX7_owesAlong 76 = .ok (.goto (-73), 3) := by decide +kernel
theorem dX7_owesAlong_79 : decode cX7_owesAlong 79 = .ok (.iconst 1, 1) := by decide +kernel
theorem dX7_owesAlong_80 : decode cX7_owesAlong 80 = .ok (.ireturn, 1) := by decide +kernel
set_option maxRecDepth 20000 in
theorem ggX7_isSeenAlong_X5_at : GoodIn wsX7_isSeenAlong wsX5_at := goodIn_r _ [7, 8, 32, 33, 34] (by decide +kernel) (by decide +kernel)
set_option maxRecDepth 20000 in
theorem gX7_isSeenAlong_X5_at : GoodIn wsX7_isSeenAlong (wsV RX7 284 RX5 yX5_at wsX5_at) := goodIn_app (goodIn_of _ (by decide +kernel)) ggX7_isSeenAlong_X5_at
set_option maxRecDepth 20000 in
theorem ggX7_isSeenAlong_X7_isStreet : GoodIn wsX7_isSeenAlong wsX7_isStreet := goodIn_r _ [13, 2, 14, 23, 24, 25, 26, 27, 28, 29, 30, 31, 35, 36, 37, 38, 39, 40, 41, 42, 43, 44, 45, 46, 47] (by decide +kernel) (by decide +kernel)
set_option maxRecDepth 20000 in
theorem gX7_isSeenAlong_X7_isStreet : GoodIn wsX7_isSeenAlong (wsV RX7 138 RX7 yX7_isStreet wsX7_isStreet) := goodIn_app (goodIn_of _ (by decide +kernel)) ggX7_isSeenAlong_X7_isStreet
set_option maxRecDepth 20000 in
theorem ggX7_isSeenAlong_X2_isSeen : GoodIn wsX7_isSeenAlong wsX2_isSeen := goodIn_r _ [19, 20, 21, 22, 35, 36, 37, 38, 39, 40, 41, 42, 43, 44, 45, 46, 47] (by decide +kernel) (by decide +kernel)
set_option maxRecDepth 20000 in
theorem gX7_isSeenAlong_X2_isSeen : GoodIn wsX7_isSeenAlong (wsV RX7 141 RX2 yX2_isSeen wsX2_isSeen) := goodIn_app (goodIn_of _ (by decide +kernel)) ggX7_isSeenAlong_X2_isSeen
theorem dX7_isSeenAlong_0 : decode cX7_isSeenAlong 0 = .ok (.iconst 0, 1) := by decide +kernel
theorem dX7_isSeenAlong_1 : decode cX7_isSeenAlong 1 = .ok (.istore 5, 2) := by decide +kernel
theorem dX7_isSeenAlong_3 : decode cX7_isSeenAlong 3 = .ok (.iload 5, 2) := by decide +kernel
theorem dX7_isSeenAlong_5 : decode cX7_isSeenAlong 5 = .ok (.iload 4, 2) := by decide +kernel
theorem dX7_isSeenAlong_7 : decode cX7_isSeenAlong 7 = .ok (.if_icmp .ge 49, 3) := by decide +kernel
theorem dX7_isSeenAlong_10 : decode cX7_isSeenAlong 10 = .ok (.aload_n 0, 1) := by decide +kernel
theorem dX7_isSeenAlong_11 : decode cX7_isSeenAlong 11 = .ok (.getfield 10, 3) := by decide +kernel
theorem dX7_isSeenAlong_14 : decode cX7_isSeenAlong 14 = .ok (.iload_n 2, 1) := by decide +kernel
theorem dX7_isSeenAlong_15 : decode cX7_isSeenAlong 15 = .ok (.iload_n 3, 1) := by decide +kernel
theorem dX7_isSeenAlong_16 : decode cX7_isSeenAlong 16 = .ok (.iconst 2, 1) := by decide +kernel
theorem dX7_isSeenAlong_17 : decode cX7_isSeenAlong 17 = .ok (.iload 5, 2) := by decide +kernel
theorem dX7_isSeenAlong_19 : decode cX7_isSeenAlong 19 = .ok (.imul, 1) := by decide +kernel
theorem dX7_isSeenAlong_20 : decode cX7_isSeenAlong 20 = .ok (.iadd, 1) := by decide +kernel
theorem dX7_isSeenAlong_21 : decode cX7_isSeenAlong 21 = .ok (.invokevirtual 284, 3) := by decide +kernel
theorem dX7_isSeenAlong_24 : decode cX7_isSeenAlong 24 = .ok (.istore 6, 2) := by decide +kernel
theorem dX7_isSeenAlong_26 : decode cX7_isSeenAlong 26 = .ok (.aload_n 0, 1) := by decide +kernel
theorem dX7_isSeenAlong_27 : decode cX7_isSeenAlong 27 = .ok (.iload 6, 2) := by decide +kernel
theorem dX7_isSeenAlong_29 : decode cX7_isSeenAlong 29 = .ok (.invokevirtual 138, 3) := by decide +kernel
theorem dX7_isSeenAlong_32 : decode cX7_isSeenAlong 32 = .ok (.ifCond .eq 16, 3) := by decide +kernel
theorem dX7_isSeenAlong_35 : decode cX7_isSeenAlong 35 = .ok (.aload_n 0, 1) := by decide +kernel
theorem dX7_isSeenAlong_36 : decode cX7_isSeenAlong 36 = .ok (.getfield 26, 3) := by decide +kernel
theorem dX7_isSeenAlong_39 : decode cX7_isSeenAlong 39 = .ok (.iload_n 1, 1) := by decide +kernel
theorem dX7_isSeenAlong_40 : decode cX7_isSeenAlong 40 = .ok (.iload 6, 2) := by decide +kernel
theorem dX7_isSeenAlong_42 : decode cX7_isSeenAlong 42 = .ok (.invokevirtual 141, 3) := by decide +kernel
theorem dX7_isSeenAlong_45 : decode cX7_isSeenAlong 45 = .ok (.ifCond .ne 5, 3) := by decide +kernel
theorem dX7_isSeenAlong_48 : decode cX7_isSeenAlong 48 = .ok (.iconst 0, 1) := by decide +kernel
theorem dX7_isSeenAlong_49 : decode cX7_isSeenAlong 49 = .ok (.ireturn, 1) := by decide +kernel
theorem dX7_isSeenAlong_50 : decode cX7_isSeenAlong 50 = .ok (.iinc 5 1, 3) := by decide +kernel
theorem dX7_isSeenAlong_53 : decode cX7_isSeenAlong 53 = .ok (.goto (-50), 3) := by decide +kernel
theorem dX7_isSeenAlong_56 : decode cX7_isSeenAlong 56 = .ok (.iconst 1, 1) := by decide +kernel
theorem dX7_isSeenAlong_57 : decode cX7_isSeenAlong 57 = .ok (.ireturn, 1) := by decide +kernel
set_option maxRecDepth 20000 in
theorem ggX7_tenthsWithin_X2_owesSuch : GoodIn wsX7_tenthsWithin wsX2_owesSuch := goodIn_r _ [7, 8, 9, 10, 6, 11, 12, 13, 14, 15, 16, 17, 18, 19, 20, 21, 22, 26, 27, 28, 29, 30, 31, 32, 33, 34, 35, 36, 37, 38] (by decide +kernel) (by decide +kernel)
set_option maxRecDepth 20000 in
theorem gX7_tenthsWithin_X2_owesSuch : GoodIn wsX7_tenthsWithin (wsV RX7 287 RX2 yX2_owesSuch wsX2_owesSuch) := goodIn_app (goodIn_of _ (by decide +kernel)) ggX7_tenthsWithin_X2_owesSuch
set_option maxRecDepth 20000 in
theorem ggX7_tenthsWithin_X7_tenthsWithin : GoodIn wsX7_tenthsWithin wsX7_tenthsWithin := goodIn_r _ [0, 1, 2, 3, 4, 5, 6, 7, 8, 9, 10, 11, 12, 13, 14, 15, 16, 17, 18, 19, 20, 21, 22, 23, 24, 25, 26, 27, 28, 29, 30, 31, 32, 33, 34, 35, 36, 37, 38] (by decide +kernel) (by decide +kernel)
set_option maxRecDepth 20000 in
theorem gX7_tenthsWithin_X7_tenthsWithin : GoodIn wsX7_tenthsWithin (va_wsS RX7 247 yX7_tenthsWithin wsX7_tenthsWithin) := goodIn_app (goodIn_of _ (by decide +kernel)) ggX7_tenthsWithin_X7_tenthsWithin
theorem dX7_tenthsWithin_0 : decode cX7_tenthsWithin 0 = .ok (.iload 4, 2) := by decide +kernel
theorem dX7_tenthsWithin_2 : decode cX7_tenthsWithin 2 = .ok (.ifCond .ge 5, 3) := by decide +kernel
theorem dX7_tenthsWithin_5 : decode cX7_tenthsWithin 5 = .ok (.iconst 0, 1) := by decide +kernel
theorem dX7_tenthsWithin_6 : decode cX7_tenthsWithin 6 = .ok (.ireturn, 1) := by decide +kernel
theorem dX7_tenthsWithin_7 : decode cX7_tenthsWithin 7 = .ok (.iload_n 2, 1) := by decide +kernel
theorem dX7_tenthsWithin_8 : decode cX7_tenthsWithin 8 = .ok (.iload_n 3, 1) := by decide +kernel
theorem dX7_tenthsWithin_9 : decode cX7_tenthsWithin 9 = .ok (.if_icmp .gt 13, 3) := by decide +kernel
theorem dX7_tenthsWithin_12 : decode cX7_tenthsWithin 12 = .ok (.iload_n 2, 1) := by decide +kernel
theorem dX7_tenthsWithin_13 : decode cX7_tenthsWithin 13 = .ok (.ifCond .lt 9, 3) := by decide +kernel
theorem dX7_tenthsWithin_16 : decode cX7_tenthsWithin 16 = .ok (.iload_n 2, 1) := by decide +kernel
theorem dX7_tenthsWithin_17 : decode cX7_tenthsWithin 17 = .ok (.bipush 7, 2) := by decide +kernel
theorem dX7_tenthsWithin_19 : decode cX7_tenthsWithin 19 = .ok (.if_icmp .lt 5, 3) := by decide +kernel
theorem dX7_tenthsWithin_22 : decode cX7_tenthsWithin 22 = .ok (.iconst 1, 1) := by decide +kernel
theorem dX7_tenthsWithin_23 : decode cX7_tenthsWithin 23 = .ok (.ireturn, 1) := by decide +kernel
theorem dX7_tenthsWithin_24 : decode cX7_tenthsWithin 24 = .ok (.aload_n 0, 1) := by decide +kernel
theorem dX7_tenthsWithin_25 : decode cX7_tenthsWithin 25 = .ok (.getfield 225, 3) := by decide +kernel
theorem dX7_tenthsWithin_28 : decode cX7_tenthsWithin 28 = .ok (.iload_n 1, 1) := by decide +kernel
theorem dX7_tenthsWithin_29 : decode cX7_tenthsWithin 29 = .ok (.iaload, 1) := by decide +kernel
theorem dX7_tenthsWithin_30 : decode cX7_tenthsWithin 30 = .ok (.istore 6, 2) := by decide +kernel
theorem dX7_tenthsWithin_32 : decode cX7_tenthsWithin 32 = .ok (.aload_n 0, 1) := by decide +kernel
theorem dX7_tenthsWithin_33 : decode cX7_tenthsWithin 33 = .ok (.getfield 163, 3) := by decide +kernel
theorem dX7_tenthsWithin_36 : decode cX7_tenthsWithin 36 = .ok (.iload_n 1, 1) := by decide +kernel
theorem dX7_tenthsWithin_37 : decode cX7_tenthsWithin 37 = .ok (.iaload, 1) := by decide +kernel
theorem dX7_tenthsWithin_38 : decode cX7_tenthsWithin 38 = .ok (.istore 7, 2) := by decide +kernel
theorem dX7_tenthsWithin_40 : decode cX7_tenthsWithin 40 = .ok (.iload 4, 2) := by decide +kernel
theorem dX7_tenthsWithin_42 : decode cX7_tenthsWithin 42 = .ok (.aload_n 0, 1) := by decide +kernel
theorem dX7_tenthsWithin_43 : decode cX7_tenthsWithin 43 = .ok (.iload 6, 2) := by decide +kernel
theorem dX7_tenthsWithin_45 : decode cX7_tenthsWithin 45 = .ok (.iload 7, 2) := by decide +kernel
theorem dX7_tenthsWithin_47 : decode cX7_tenthsWithin 47 = .ok (.iload_n 2, 1) := by decide +kernel
theorem dX7_tenthsWithin_48 : decode cX7_tenthsWithin 48 = .ok (.invokevirtual 287, 3) := by decide +kernel
theorem dX7_tenthsWithin_51 : decode cX7_tenthsWithin 51 = .ok (.isub, 1) := by decide +kernel
theorem dX7_tenthsWithin_52 : decode cX7_tenthsWithin 52 = .ok (.istore 8, 2) := by decide +kernel
theorem dX7_tenthsWithin_54 : decode cX7_tenthsWithin 54 = .ok (.iload 4, 2) := by decide +kernel
theorem dX7_tenthsWithin_56 : decode cX7_tenthsWithin 56 = .ok (.aload_n 0, 1) := by decide +kernel
theorem dX7_tenthsWithin_57 : decode cX7_tenthsWithin 57 = .ok (.iload 6, 2) := by decide +kernel
theorem dX7_tenthsWithin_59 : decode cX7_tenthsWithin 59 = .ok (.iload 7, 2) := by decide +kernel
theorem dX7_tenthsWithin_61 : decode cX7_tenthsWithin 61 = .ok (.iconst 1, 1) := by decide +kernel
theorem dX7_tenthsWithin_62 : decode cX7_tenthsWithin 62 = .ok (.iadd, 1) := by decide +kernel
theorem dX7_tenthsWithin_63 : decode cX7_tenthsWithin 63 = .ok (.iload_n 2, 1) := by decide +kernel
theorem dX7_tenthsWithin_64 : decode cX7_tenthsWithin 64 = .ok (.invokevirtual 287, 3) := by decide +kernel
theorem dX7_tenthsWithin_67 : decode cX7_tenthsWithin 67 = .ok (.isub, 1) := by decide +kernel
theorem dX7_tenthsWithin_68 : decode cX7_tenthsWithin 68 = .ok (.istore 9, 2) := by decide +kernel
theorem dX7_tenthsWithin_70 : decode cX7_tenthsWithin 70 = .ok (.bipush 10, 2) := by decide +kernel
theorem dX7_tenthsWithin_72 : decode cX7_tenthsWithin 72 = .ok (.iload 5, 2) := by decide +kernel
theorem dX7_tenthsWithin_74 : decode cX7_tenthsWithin 74 = .ok (.isub, 1) := by decide +kernel
theorem dX7_tenthsWithin_75 : decode cX7_tenthsWithin 75 = .ok (.aload_n 0, 1) := by decide +kernel
theorem dX7_tenthsWithin_76 : decode cX7_tenthsWithin 76 = .ok (.iload_n 1, 1) := by decide +kernel
theorem dX7_tenthsWithin_77 : decode cX7_tenthsWithin 77 = .ok (.iload_n 2, 1) := by decide +kernel
theorem dX7_tenthsWithin_78 : decode cX7_tenthsWithin 78 = .ok (.iconst 1, 1) := by decide +kernel
theorem dX7_tenthsWithin_79 : decode cX7_tenthsWithin 79 = .ok (.iadd, 1) := by decide +kernel
theorem dX7_tenthsWithin_80 : decode cX7_tenthsWithin 80 = .ok (.iload_n 3, 1) := by decide +kernel
theorem dX7_tenthsWithin_81 : decode cX7_tenthsWithin 81 = .ok (.iload 8, 2) := by decide +kernel
theorem dX7_tenthsWithin_83 : decode cX7_tenthsWithin 83 = .ok (.iload 5, 2) := by decide +kernel
theorem dX7_tenthsWithin_85 : decode cX7_tenthsWithin 85 = .ok (.invokestatic 247, 3) := by decide +kernel
theorem dX7_tenthsWithin_88 : decode cX7_tenthsWithin 88 = .ok (.imul, 1) := by decide +kernel
theorem dX7_tenthsWithin_89 : decode cX7_tenthsWithin 89 = .ok (.iload 5, 2) := by decide +kernel
theorem dX7_tenthsWithin_91 : decode cX7_tenthsWithin 91 = .ok (.aload_n 0, 1) := by decide +kernel
theorem dX7_tenthsWithin_92 : decode cX7_tenthsWithin 92 = .ok (.iload_n 1, 1) := by decide +kernel
theorem dX7_tenthsWithin_93 : decode cX7_tenthsWithin 93 = .ok (.iload_n 2, 1) := by decide +kernel
theorem dX7_tenthsWithin_94 : decode cX7_tenthsWithin 94 = .ok (.iconst 1, 1) := by decide +kernel
theorem dX7_tenthsWithin_95 : decode cX7_tenthsWithin 95 = .ok (.iadd, 1) := by decide +kernel
theorem dX7_tenthsWithin_96 : decode cX7_tenthsWithin 96 = .ok (.iload_n 3, 1) := by decide +kernel
theorem dX7_tenthsWithin_97 : decode cX7_tenthsWithin 97 = .ok (.iload 9, 2) := by decide +kernel
theorem dX7_tenthsWithin_99 : decode cX7_tenthsWithin 99 = .ok (.iload 5, 2) := by decide +kernel
theorem dX7_tenthsWithin_101 : decode cX7_tenthsWithin 101 = .ok (.invokestatic 247, 3) := by decide +kernel
theorem dX7_tenthsWithin_104 : decode cX7_tenthsWithin 104 = .ok (.imul, 1) := by decide +kernel
theorem dX7_tenthsWithin_105 : decode cX7_tenthsWithin 105 = .ok (.iadd, 1) := by decide +kernel
theorem dX7_tenthsWithin_106 : decode cX7_tenthsWithin 106 = .ok (.ireturn, 1) := by decide +kernel
theorem dX7_commonDivisor_0 : decode cX7_commonDivisor 0 = .ok (.iload_n 0, 1) := by decide +kernel
theorem dX7_commonDivisor_1 : decode cX7_commonDivisor 1 = .ok (.istore_n 2, 1) := by decide +kernel
theorem dX7_commonDivisor_2 : decode cX7_commonDivisor 2 = .ok (.iload_n 1, 1) := by decide +kernel
theorem dX7_commonDivisor_3 : decode cX7_commonDivisor 3 = .ok (.istore_n 3, 1) := by decide +kernel
theorem dX7_commonDivisor_4 : decode cX7_commonDivisor 4 = .ok (.iconst 0, 1) := by decide +kernel
theorem dX7_commonDivisor_5 : decode cX7_commonDivisor 5 = .ok (.istore 4, 2) := by decide +kernel
theorem dX7_commonDivisor_7 : decode cX7_commonDivisor 7 = .ok (.iload 4, 2) := by decide +kernel
theorem dX7_commonDivisor_9 : decode cX7_commonDivisor 9 = .ok (.bipush 100, 2) := by decide +kernel
theorem dX7_commonDivisor_11 : decode cX7_commonDivisor 11 = .ok (.if_icmp .ge 23, 3) := by decide +kernel
theorem dX7_commonDivisor_14 : decode cX7_commonDivisor 14 = .ok (.iload_n 3, 1) := by decide +kernel
theorem dX7_commonDivisor_15 : decode cX7_commonDivisor 15 = .ok (.ifCond .eq 19, 3) := by decide +kernel
theorem dX7_commonDivisor_18 : decode cX7_commonDivisor 18 = .ok (.iload_n 2, 1) := by decide +kernel
theorem dX7_commonDivisor_19 : decode cX7_commonDivisor 19 = .ok (.iload_n 3, 1) := by decide +kernel
theorem dX7_commonDivisor_20 : decode cX7_commonDivisor 20 = .ok (.irem, 1) := by decide +kernel
theorem dX7_commonDivisor_21 : decode cX7_commonDivisor 21 = .ok (.istore 5, 2) := by decide +kernel
theorem dX7_commonDivisor_23 : decode cX7_commonDivisor 23 = .ok (.iload_n 3, 1) := by decide +kernel
theorem dX7_commonDivisor_24 : decode cX7_commonDivisor 24 = .ok (.istore_n 2, 1) := by decide +kernel
theorem dX7_commonDivisor_25 : decode cX7_commonDivisor 25 = .ok (.iload 5, 2) := by decide +kernel
theorem dX7_commonDivisor_27 : decode cX7_commonDivisor 27 = .ok (.istore_n 3, 1) := by decide +kernel
theorem dX7_commonDivisor_28 : decode cX7_commonDivisor 28 = .ok (.iinc 4 1, 3) := by decide +kernel
theorem dX7_commonDivisor_31 : decode cX7_commonDivisor 31 = .ok (.goto (-24), 3) := by decide +kernel
theorem dX7_commonDivisor_34 : decode cX7_commonDivisor 34 = .ok (.iload_n 2, 1) := by decide +kernel
theorem dX7_commonDivisor_35 : decode cX7_commonDivisor 35 = .ok (.ireturn, 1) := by decide +kernel
end
section
theorem dX8_init_0 : decode cX8_init 0 = .ok (.aload_n 0, 1) := by decide +kernel
theorem dX8_init_1 : decode cX8_init 1 = .ok (.invokespecial 1, 3) := by decide +kernel
theorem dX8_init_4 : decode cX8_init 4 = .ok (.aload_n 0, 1) := by decide +kernel
theorem dX8_init_5 : decode cX8_init 5 = .ok (.sipush 1372, 3) := by decide +kernel
theorem dX8_init_8 : decode cX8_init 8 = .ok (.newarray .int, 2) := by decide +kernel
theorem dX8_init_10 : decode cX8_init 10 = .ok (.putfield 7, 3) := by decide +kernel
theorem dX8_init_13 : decode cX8_init 13 = .ok (.aload_n 0, 1) := by decide +kernel
theorem dX8_init_14 : decode cX8_init 14 = .ok (.iconst 2, 1) := by decide +kernel
theorem dX8_init_15 : decode cX8_init 15 = .ok (.newarray .boolean, 2) := by decide +kernel
theorem dX8_init_17 : decode cX8_init 17 = .ok (.putfield 13, 3) := by decide +kernel
theorem dX8_init_20 : decode cX8_init 20 = .ok (.aload_n 0, 1) := by decide +kernel
theorem dX8_init_21 : decode cX8_init 21 = .ok (.bipush 8, 2) := by decide +kernel
theorem dX8_init_23 : decode cX8_init 23 = .ok (.newarray .int, 2) := by decide +kernel
theorem dX8_init_25 : decode cX8_init 25 = .ok (.putfield 17, 3) := by decide +kernel
theorem dX8_init_28 : decode cX8_init 28 = .ok (.aload_n 0, 1) := by decide +kernel
theorem dX8_init_29 : decode cX8_init 29 = .ok (.bipush 8, 2) := by decide +kernel
theorem dX8_init_31 : decode cX8_init 31 = .ok (.newarray .int, 2) := by decide +kernel
theorem dX8_init_33 : decode cX8_init 33 = .ok (.dup, 1) := by decide +kernel
theorem dX8_init_34 : decode cX8_init 34 = .ok (.iconst 0, 1) := by decide +kernel
theorem dX8_init_35 : decode cX8_init 35 = .ok (.iconst (-1), 1) := by decide +kernel
theorem dX8_init_36 : decode cX8_init 36 = .ok (.iastore, 1) := by decide +kernel
theorem dX8_init_37 : decode cX8_init 37 = .ok (.dup, 1) := by decide +kernel
theorem dX8_init_38 : decode cX8_init 38 = .ok (.iconst 1, 1) := by decide +kernel
theorem dX8_init_39 : decode cX8_init 39 = .ok (.iconst (-1), 1) := by decide +kernel
theorem dX8_init_40 : decode cX8_init 40 = .ok (.iastore, 1) := by decide +kernel
theorem dX8_init_41 : decode cX8_init 41 = .ok (.dup, 1) := by decide +kernel
theorem dX8_init_42 : decode cX8_init 42 = .ok (.iconst 2, 1) := by decide +kernel
theorem dX8_init_43 : decode cX8_init 43 = .ok (.iconst (-1), 1) := by decide +kernel
theorem dX8_init_44 : decode cX8_init 44 = .ok (.iastore, 1) := by decide +kernel
theorem dX8_init_45 : decode cX8_init 45 = .ok (.dup, 1) := by decide +kernel
theorem dX8_init_46 : decode cX8_init 46 = .ok (.iconst 3, 1) := by decide +kernel
theorem dX8_init_47 : decode cX8_init 47 = .ok (.iconst (-1), 1) := by decide +kernel
theorem dX8_init_48 : decode cX8_init 48 = .ok (.iastore, 1) := by decide +kernel
theorem dX8_init_49 : decode cX8_init 49 = .ok (.dup, 1) := by decide +kernel
theorem dX8_init_50 : decode cX8_init 50 = .ok (.iconst 4, 1) := by decide +kernel
theorem dX8_init_51 : decode cX8_init 51 = .ok (.iconst (-1), 1) := by decide +kernel
theorem dX8_init_52 : decode cX8_init 52 = .ok (.iastore, 1) := by decide +kernel
theorem dX8_init_53 : decode cX8_init 53 = .ok (.dup, 1) := by decide +kernel
theorem dX8_init_54 : decode cX8_init 54 = .ok (.iconst 5, 1) := by decide +kernel
theorem dX8_init_55 : decode cX8_init 55 = .ok (.iconst (-1), 1) := by decide +kernel
theorem dX8_init_56 : decode cX8_init 56 = .ok (.iastore, 1) := by decide +kernel
theorem dX8_init_57 : decode cX8_init 57 = .ok (.dup, 1) := by decide +kernel
theorem dX8_init_58 : decode cX8_init 58 = .ok (.bipush 6, 2) := by decide +kernel
theorem dX8_init_60 : decode cX8_init 60 = .ok (.iconst (-1), 1) := by decide +kernel
theorem dX8_init_61 : decode cX8_init 61 = .ok (.iastore, 1) := by decide +kernel
theorem dX8_init_62 : decode cX8_init 62 = .ok (.dup, 1) := by decide +kernel
theorem dX8_init_63 : decode cX8_init 63 = .ok (.bipush 7, 2) := by decide +kernel
theorem dX8_init_65 : decode cX8_init 65 = .ok (.iconst (-1), 1) := by decide +kernel
theorem dX8_init_66 : decode cX8_init 66 = .ok (.iastore, 1) := by decide +kernel
theorem dX8_init_67 : decode cX8_init 67 = .ok (.putfield 20, 3) := by decide +kernel
theorem dX8_init_70 : decode cX8_init 70 = .ok (.aload_n 0, 1) := by decide +kernel
theorem dX8_init_71 : decode cX8_init 71 = .ok (.sipush 320, 3) := by decide +kernel
theorem dX8_init_74 : decode cX8_init 74 = .ok (.newarray .int, 2) := by decide +kernel
theorem dX8_init_76 : decode cX8_init 76 = .ok (.putfield 23, 3) := by decide +kernel
theorem dX8_init_79 : decode cX8_init 79 = .ok (.aload_n 0, 1) := by decide +kernel
theorem dX8_init_80 : decode cX8_init 80 = .ok (.bipush 120, 2) := by decide +kernel
theorem dX8_init_82 : decode cX8_init 82 = .ok (.newarray .int, 2) := by decide +kernel
theorem dX8_init_84 : decode cX8_init 84 = .ok (.putfield 26, 3) := by decide +kernel
theorem dX8_init_87 : decode cX8_init 87 = .ok (.aload_n 0, 1) := by decide +kernel
theorem dX8_init_88 : decode cX8_init 88 = .ok (.bipush 16, 2) := by decide +kernel
theorem dX8_init_90 : decode cX8_init 90 = .ok (.newarray .int, 2) := by decide +kernel
theorem dX8_init_92 : decode cX8_init 92 = .ok (.putfield 29, 3) := by decide +kernel
theorem dX8_init_95 : decode cX8_init 95 = .ok (.aload_n 0, 1) := by decide +kernel
theorem dX8_init_96 : decode cX8_init 96 = .ok (.sipush 800, 3) := by decide +kernel
theorem dX8_init_99 : decode cX8_init 99 = .ok (.newarray .int, 2) := by decide +kernel
theorem dX8_init_101 : decode cX8_init 101 = .ok (.putfield 32, 3) := by decide +kernel
theorem dX8_init_104 : decode cX8_init 104 = .ok (.return_, 1) := by decide +kernel
theorem dX8_in_0 : decode cX8_in 0 = .ok (.lload_n 0, 1) := by decide +kernel
theorem dX8_in_1 : decode cX8_in 1 = .ok (.lload_n 2, 1) := by decide +kernel
theorem dX8_in_2 : decode cX8_in 2 = .ok (.lcmp, 1) := by decide +kernel
theorem dX8_in_3 : decode cX8_in 3 = .ok (.ifCond .lt 14, 3) := by decide +kernel
theorem dX8_in_6 : decode cX8_in 6 = .ok (.lload_n 0, 1) := by decide +kernel
theorem dX8_in_7 : decode cX8_in 7 = .ok (.lload 4, 2) := by decide +kernel
theorem dX8_in_9 : decode cX8_in 9 = .ok (.lcmp, 1) := by decide +kernel
theorem dX8_in_10 : decode cX8_in 10 = .ok (.ifCond .gt 7, 3) := by decide +kernel
theorem dX8_in_13 : decode cX8_in 13 = .ok (.iconst 1, 1) := by decide +kernel
theorem dX8_in_14 : decode cX8_in 14 = .ok (.goto 4, 3) := by decide +kernel
theorem dX8_in_17 : decode cX8_in 17 = .ok (.iconst 0, 1) := by decide +kernel
theorem dX8_in_18 : decode cX8_in 18 = .ok (.ireturn, 1) := by decide +kernel
theorem dX8_has_0 : decode cX8_has 0 = .ok (.iload_n 0, 1) := by decide +kernel
theorem dX8_has_1 : decode cX8_has 1 = .ok (.iload_n 1, 1) := by decide +kernel
theorem dX8_has_2 : decode cX8_has 2 = .ok (.ishr, 1) := by decide +kernel
theorem dX8_has_3 : decode cX8_has 3 = .ok (.iconst 1, 1) := by decide +kernel
theorem dX8_has_4 : decode cX8_has 4 = .ok (.iand, 1) := by decide +kernel
theorem dX8_has_5 : decode cX8_has 5 = .ok (.iconst 1, 1) := by decide +kernel
theorem dX8_has_6 : decode cX8_has 6 = .ok (.if_icmp .ne 7, 3) := by decide +kernel
theorem dX8_has_9 : decode cX8_has 9 = .ok (.iconst 1, 1) := by decide +kernel
theorem dX8_has_10 : decode cX8_has 10 = .ok (.goto 4, 3) := by decide +kernel
theorem dX8_has_13 : decode cX8_has 13 = .ok (.iconst 0, 1) := by decide +kernel
theorem dX8_has_14 : decode cX8_has 14 = .ok (.ireturn, 1) := by decide +kernel
theorem dX8_bits_0 : decode cX8_bits 0 = .ok (.iconst 0, 1) := by decide +kernel
theorem dX8_bits_1 : decode cX8_bits 1 = .ok (.istore_n 1, 1) := by decide +kernel
theorem dX8_bits_2 : decode cX8_bits 2 = .ok (.iconst 0, 1) := by decide +kernel
theorem dX8_bits_3 : decode cX8_bits 3 = .ok (.istore_n 2, 1) := by decide +kernel
theorem dX8_bits_4 : decode cX8_bits 4 = .ok (.iload_n 2, 1) := by decide +kernel
theorem dX8_bits_5 : decode cX8_bits 5 = .ok (.bipush 7, 2) := by decide +kernel
theorem dX8_bits_7 : decode cX8_bits 7 = .ok (.if_icmp .ge 17, 3) := by decide +kernel
theorem dX8_bits_10 : decode cX8_bits 10 = .ok (.iload_n 1, 1) := by decide +kernel
theorem dX8_bits_11 : decode cX8_bits 11 = .ok (.iload_n 0, 1) := by decide +kernel
theorem dX8_bits_12 : decode cX8_bits 12 = .ok (.iload_n 2, 1) := by decide +kernel
theorem dX8_bits_13 : decode cX8_bits 13 = .ok (.ishr, 1) := by decide +kernel
theorem dX8_bits_14 : decode cX8_bits 14 = .ok (.iconst 1, 1) := by decide +kernel
theorem dX8_bits_15 : decode cX8_bits 15 = .ok (.iand, 1) := by decide +kernel
theorem dX8_bits_16 : decode cX8_bits 16 = .ok (.iadd, 1) := by decide +kernel
theorem dX8_bits_17 : decode cX8_bits 17 = .ok (.istore_n 1, 1) := by decide +kernel
theorem dX8_bits_18 : decode cX8_bits 18 = .ok (.iinc 2 1, 3) := by decide +kernel
theorem dX8_bits_21 : decode cX8_bits 21 = .ok (.goto (-17), 3) := by decide +kernel
theorem dX8_bits_24 : decode cX8_bits 24 = .ok (.iload_n 1, 1) := by decide +kernel
theorem dX8_bits_25 : decode cX8_bits 25 = .ok (.ireturn, 1) := by decide +kernel
theorem dX8_find_0 : decode cX8_find 0 = .ok (.aload_n 0, 1) := by decide +kernel
theorem dX8_find_1 : decode cX8_find 1 = .ok (.iload_n 1, 1) := by decide +kernel
theorem dX8_find_2 : decode cX8_find 2 = .ok (.putfield 35, 3) := by decide +kernel
theorem dX8_find_5 : decode cX8_find 5 = .ok (.ldc 39, 2) := by decide +kernel
theorem dX8_find_7 : decode cX8_find 7 = .ok (.iload_n 1, 1) := by decide +kernel
theorem dX8_find_8 : decode cX8_find 8 = .ok (.isub, 1) := by decide +kernel
theorem dX8_find_9 : decode cX8_find 9 = .ok (.ireturn, 1) := by decide +kernel
theorem dX8_well_0 : decode cX8_well 0 = .ok (.aload_n 0, 1) := by decide +kernel
theorem dX8_well_1 : decode cX8_well 1 = .ok (.iconst 0, 1) := by decide +kernel
theorem dX8_well_2 : decode cX8_well 2 = .ok (.putfield 35, 3) := by decide +kernel
theorem dX8_well_5 : decode cX8_well 5 = .ok (.iload_n 1, 1) := by decide +kernel
theorem dX8_well_6 : decode cX8_well 6 = .ok (.ireturn, 1) := by decide +kernel
set_option maxRecDepth 20000 in
theorem ggX8_isRow_X8_in : GoodIn wsX8_isRow wsX8_in := goodIn_r _ [5] (by decide +kernel) (by decide +kernel)
set_option maxRecDepth 20000 in
theorem gX8_isRow_X8_in : GoodIn wsX8_isRow (va_wsS RX8 42 yX8_in wsX8_in) := goodIn_app (goodIn_of _ (by decide +kernel)) ggX8_isRow_X8_in
theorem dX8_isRow_0 : decode cX8_isRow 0 = .ok (.iload_n 0, 1) := by decide +kernel
theorem dX8_isRow_1 : decode cX8_isRow 1 = .ok (.i2l, 1) := by decide +kernel
theorem dX8_isRow_2 : decode cX8_isRow 2 = .ok (.lconst 0, 1) := by decide +kernel
theorem dX8_isRow_3 : decode cX8_isRow 3 = .ok (.ldc2_w 40, 3) := by decide +kernel
theorem dX8_isRow_6 : decode cX8_isRow 6 = .ok (.invokestatic 42, 3) := by decide +kernel
theorem dX8_isRow_9 : decode cX8_isRow 9 = .ok (.ireturn, 1) := by decide +kernel
set_option maxRecDepth 20000 in
theorem ggX8_row_X8_isRow : GoodIn wsX8_row wsX8_isRow := goodIn_r _ [9, 10, 11, 12, 8, 13] (by decide +kernel) (by decide +kernel)
set_option maxRecDepth 20000 in
theorem gX8_row_X8_isRow : GoodIn wsX8_row (va_wsS RX8 46 yX8_isRow wsX8_isRow) := goodIn_app (goodIn_of _ (by decide +kernel)) ggX8_row_X8_isRow
set_option maxRecDepth 20000 in
theorem ggX8_row_X8_in : GoodIn wsX8_row wsX8_in := goodIn_r _ [13] (by decide +kernel) (by decide +kernel)
set_option maxRecDepth 20000 in
theorem gX8_row_X8_in : GoodIn wsX8_row (va_wsS RX8 42 yX8_in wsX8_in) := goodIn_app (goodIn_of _ (by decide +kernel)) ggX8_row_X8_in
set_option maxRecDepth 20000 in
theorem ggX8_row_X8_find : GoodIn wsX8_row wsX8_find := goodIn_r _ [17, 18, 19, 24, 25, 26, 27, 28, 29, 30, 31, 32, 33, 34, 35, 36, 37, 38, 39, 40] (by decide +kernel) (by decide +kernel)
set_option maxRecDepth 20000 in
theorem gX8_row_X8_find : GoodIn wsX8_row (wsV RX8 53 RX8 yX8_find wsX8_find) := goodIn_app (goodIn_of _ (by decide +kernel)) ggX8_row_X8_find
set_option maxRecDepth 20000 in
theorem ggX8_row_X8_well : GoodIn wsX8_row wsX8_well := goodIn_r _ [23, 18, 24, 25, 26, 27, 28, 29, 30, 31, 32, 33, 34, 35, 36, 37, 38, 39, 40] (by decide +kernel) (by decide +kernel)
set_option maxRecDepth 20000 in
theorem gX8_row_X8_well : GoodIn wsX8_row (wsV RX8 57 RX8 yX8_well wsX8_well) := goodIn_app (goodIn_of _ (by decide +kernel)) ggX8_row_X8_well
theorem dX8_row_0 : decode cX8_row 0 = .ok (.iload_n 1, 1) := by decide +kernel
theorem dX8_row_1 : decode cX8_row 1 = .ok (.invokestatic 46, 3) := by decide +kernel
theorem dX8_row_4 : decode cX8_row 4 = .ok (.ifCond .eq 21, 3) := by decide +kernel
theorem dX8_row_7 : decode cX8_row 7 = .ok (.iload_n 2, 1) := by decide +kernel
theorem dX8_row_8 : decode cX8_row 8 = .ok (.i2l, 1) := by decide +kernel
theorem dX8_row_9 : decode cX8_row 9 = .ok (.lconst 0, 1) := by decide +kernel
theorem dX8_row_10 : decode cX8_row 10 = .ok (.ldc2_w 50, 3) := by decide +kernel
theorem dX8_row_13 : decode cX8_row 13 = .ok (.invokestatic 42, 3) := by decide +kernel
theorem dX8_row_16 : decode cX8_row 16 = .ok (.ifCond .eq 9, 3) := by decide +kernel
theorem dX8_row_19 : decode cX8_row 19 = .ok (.iload_n 3, 1) := by decide +kernel
theorem dX8_row_20 : decode cX8_row 20 = .ok (.bipush 40, 2) := by decide +kernel
theorem dX8_row_22 : decode cX8_row 22 = .ok (.if_icmp .le 6, 3) := by decide +kernel
theorem dX8_row_25 : decode cX8_row 25 = .ok (.ldc 52, 2) := by decide +kernel
theorem dX8_row_27 : decode cX8_row 27 = .ok (.ireturn, 1) := by decide +kernel
theorem dX8_row_28 : decode cX8_row 28 = .ok (.iload_n 3, 1) := by decide +kernel
theorem dX8_row_29 : decode cX8_row 29 = .ok (.ifCond .ge 9, 3) := by decide +kernel
theorem dX8_row_32 : decode cX8_row 32 = .ok (.aload_n 0, 1) := by decide +kernel
theorem dX8_row_33 : decode cX8_row 33 = .ok (.iconst 4, 1) := by decide +kernel
theorem dX8_row_34 : decode cX8_row 34 = .ok (.invokevirtual 53, 3) := by decide +kernel
theorem dX8_row_37 : decode cX8_row 37 = .ok (.ireturn, 1) := by decide +kernel
theorem dX8_row_38 : decode cX8_row 38 = .ok (.aload_n 0, 1) := by decide +kernel
theorem dX8_row_39 : decode cX8_row 39 = .ok (.getfield 17, 3) := by decide +kernel
theorem dX8_row_42 : decode cX8_row 42 = .ok (.iload_n 1, 1) := by decide +kernel
theorem dX8_row_43 : decode cX8_row 43 = .ok (.iload_n 2, 1) := by decide +kernel
theorem dX8_row_44 : decode cX8_row 44 = .ok (.iastore, 1) := by decide +kernel
theorem dX8_row_45 : decode cX8_row 45 = .ok (.aload_n 0, 1) := by decide +kernel
theorem dX8_row_46 : decode cX8_row 46 = .ok (.getfield 20, 3) := by decide +kernel
theorem dX8_row_49 : decode cX8_row 49 = .ok (.iload_n 1, 1) := by decide +kernel
theorem dX8_row_50 : decode cX8_row 50 = .ok (.iload_n 3, 1) := by decide +kernel
theorem dX8_row_51 : decode cX8_row 51 = .ok (.iastore, 1) := by decide +kernel
theorem dX8_row_52 : decode cX8_row 52 = .ok (.iconst 0, 1) := by decide +kernel
theorem dX8_row_53 : decode cX8_row 53 = .ok (.istore 4, 2) := by decide +kernel
theorem dX8_row_55 : decode cX8_row 55 = .ok (.iload 4, 2) := by decide +kernel
theorem dX8_row_57 : decode cX8_row 57 = .ok (.bipush 40, 2) := by decide +kernel
theorem dX8_row_59 : decode cX8_row 59 = .ok (.if_icmp .ge 22, 3) := by decide +kernel
theorem dX8_row_62 : decode cX8_row 62 = .ok (.aload_n 0, 1) := by decide +kernel
theorem dX8_row_63 : decode cX8_row 63 = .ok (.getfield 23, 3) := by decide +kernel
theorem dX8_row_66 : decode cX8_row 66 = .ok (.bipush 40, 2) := by decide +kernel
theorem dX8_row_68 : decode cX8_row 68 = .ok (.iload_n 1, 1) := by decide +kernel
theorem dX8_row_69 : decode cX8_row 69 = .ok (.imul, 1) := by decide +kernel
theorem dX8_row_70 : decode cX8_row 70 = .ok (.iload 4, 2) := by decide +kernel
theorem dX8_row_72 : decode cX8_row 72 = .ok (.iadd, 1) := by decide +kernel
theorem dX8_row_73 : decode cX8_row 73 = .ok (.iconst 0, 1) := by decide +kernel
theorem dX8_row_74 : decode cX8_row 74 = .ok (.iastore, 1) := by decide +kernel
theorem dX8_row_75 : decode cX8_row 75 = .ok (.iinc 4 1, 3) := by decide +kernel
theorem dX8_row_78 : decode cX8_row 78 = .ok (.goto (-23), 3) := by decide +kernel
theorem dX8_row_81 : decode cX8_row 81 = .ok (.aload_n 0, 1) := by decide +kernel
theorem dX8_row_82 : decode cX8_row 82 = .ok (.iload_n 3, 1) := by decide +kernel
theorem dX8_row_83 : decode cX8_row 83 = .ok (.invokevirtual 57, 3) := by decide +kernel
theorem dX8_row_86 : decode cX8_row 86 = .ok (.ireturn, 1) := by decide +kernel
theorem dX8_narrow_0 : decode cX8_narrow 0 = .ok (.iload_n 1, 1) := by decide +kernel
theorem dX8_narrow_1 : decode cX8_narrow 1 = .ok (.ifCond .ne 8, 3) := by decide +kernel
theorem dX8_narrow_4 : decode cX8_narrow 4 = .ok (.iload_n 0, 1) := by decide +kernel
theorem dX8_narrow_5 : decode cX8_narrow 5 = .ok (.i2b, 1) := by decide +kernel
theorem dX8_narrow_6 : decode cX8_narrow 6 = .ok (.goto 14, 3) := by decide +kernel
theorem dX8_narrow_9 : decode cX8_narrow 9 = .ok (.iload_n 1, 1) := by decide +kernel
theorem dX8_narrow_10 : decode cX8_narrow 10 = .ok (.iconst 1, 1) := by decide +kernel
theorem dX8_narrow_11 : decode cX8_narrow 11 = .ok (.if_icmp .ne 8, 3) := by decide +kernel
theorem dX8_narrow_14 : decode cX8_narrow 14 = .ok (.iload_n 0, 1) := by decide +kernel
theorem dX8_narrow_15 : decode cX8_narrow 15 = .ok (.i2s, 1) := by decide +kernel
theorem dX8_narrow_16 : decode cX8_narrow 16 = .ok (.goto 4, 3) := by decide +kernel
theorem dX8_narrow_19 : decode cX8_narrow 19 = .ok (.iload_n 0, 1) := by decide +kernel
theorem dX8_narrow_20 : decode cX8_narrow 20 = .ok (.ireturn, 1) := by decide +kernel
set_option maxRecDepth 20000 in
theorem ggX8_set_X8_isRow : GoodIn wsX8_set wsX8_isRow := goodIn_r _ [8, 9, 10, 11, 7, 12] (by decide +kernel) (by decide +kernel)
set_option maxRecDepth 20000 in
theorem gX8_set_X8_isRow : GoodIn wsX8_set (va_wsS RX8 46 yX8_isRow wsX8_isRow) := goodIn_app (goodIn_of _ (by decide +kernel)) ggX8_set_X8_isRow
set_option maxRecDepth 20000 in
theorem ggX8_set_X8_find : GoodIn wsX8_set wsX8_find := goodIn_r _ [16, 17, 18, 26, 27, 28, 29, 30, 31, 32, 33, 34, 35, 36, 37, 38, 39, 40, 41, 42] (by decide +kernel) (by decide +kernel)
set_option maxRecDepth 20000 in
theorem gX8_set_X8_find : GoodIn wsX8_set (wsV RX8 53 RX8 yX8_find wsX8_find) := goodIn_app (goodIn_of _ (by decide +kernel)) ggX8_set_X8_find
set_option maxRecDepth 20000 in
theorem ggX8_set_X8_in : GoodIn wsX8_set wsX8_in := goodIn_r _ [12] (by decide +kernel) (by decide +kernel)
set_option maxRecDepth 20000 in
theorem gX8_set_X8_in : GoodIn wsX8_set (va_wsS RX8 42 yX8_in wsX8_in) := goodIn_app (goodIn_of _ (by decide +kernel)) ggX8_set_X8_in
set_option maxRecDepth 20000 in
theorem ggX8_set_X8_narrow : GoodIn wsX8_set wsX8_narrow := goodIn_r _ [21] (by decide +kernel) (by decide +kernel)
set_option maxRecDepth 20000 in
theorem gX8_set_X8_narrow : GoodIn wsX8_set (va_wsS RX8 60 yX8_narrow wsX8_narrow) := goodIn_app (goodIn_of _ (by decide +kernel)) ggX8_set_X8_narrow
set_option maxRecDepth 20000 in
theorem ggX8_set_X8_well : GoodIn wsX8_set wsX8_well := goodIn_r _ [25, 17, 26, 27, 28, 29, 30, 31, 32, 33, 34, 35, 36, 37, 38, 39, 40, 41, 42] (by decide +kernel) (by decide +kernel)
set_option maxRecDepth 20000 in
theorem gX8_set_X8_well : GoodIn wsX8_set (wsV RX8 57 RX8 yX8_well wsX8_well) := goodIn_app (goodIn_of _ (by decide +kernel)) ggX8_set_X8_well
theorem dX8_set_0 : decode cX8_set 0 = .ok (.iload_n 1, 1) := by decide +kernel
theorem dX8_set_1 : decode cX8_set 1 = .ok (.invokestatic 46, 3) := by decide +kernel
theorem dX8_set_4 : decode cX8_set 4 = .ok (.ifCond .ne 6, 3) := by decide +kernel
theorem dX8_set_7 : decode cX8_set 7 = .ok (.ldc 52, 2) := by decide +kernel
theorem dX8_set_9 : decode cX8_set 9 = .ok (.ireturn, 1) := by decide +kernel
theorem dX8_set_10 : decode cX8_set 10 = .ok (.aload_n 0, 1) := by decide +kernel
theorem dX8_set_11 : decode cX8_set 11 = .ok (.getfield 20, 3) := by decide +kernel
theorem dX8_set_14 : decode cX8_set 14 = .ok (.iload_n 1, 1) := by decide +kernel
theorem dX8_set_15 : decode cX8_set 15 = .ok (.iaload, 1) := by decide +kernel
theorem dX8_set_16 : decode cX8_set 16 = .ok (.ifCond .ge 9, 3) := by decide +kernel
theorem dX8_set_19 : decode cX8_set 19 = .ok (.aload_n 0, 1) := by decide +kernel
theorem dX8_set_20 : decode cX8_set 20 = .ok (.iconst 1, 1) := by decide +kernel
theorem dX8_set_21 : decode cX8_set 21 = .ok (.invokevirtual 53, 3) := by decide +kernel
theorem dX8_set_24 : decode cX8_set 24 = .ok (.ireturn, 1) := by decide +kernel
theorem dX8_set_25 : decode cX8_set 25 = .ok (.iload_n 2, 1) := by decide +kernel
theorem dX8_set_26 : decode cX8_set 26 = .ok (.i2l, 1) := by decide +kernel
theorem dX8_set_27 : decode cX8_set 27 = .ok (.lconst 0, 1) := by decide +kernel
theorem dX8_set_28 : decode cX8_set 28 = .ok (.aload_n 0, 1) := by decide +kernel
theorem dX8_set_29 : decode cX8_set 29 = .ok (.getfield 20, 3) := by decide +kernel
theorem dX8_set_32 : decode cX8_set 32 = .ok (.iload_n 1, 1) := by decide +kernel
theorem dX8_set_33 : decode cX8_set 33 = .ok (.iaload, 1) := by decide +kernel
theorem dX8_set_34 : decode cX8_set 34 = .ok (.iconst 1, 1) := by decide +kernel
theorem dX8_set_35 : decode cX8_set 35 = .ok (.isub, 1) := by decide +kernel
theorem dX8_set_36 : decode cX8_set 36 = .ok (.i2l, 1) := by decide +kernel
theorem dX8_set_37 : decode cX8_set 37 = .ok (.invokestatic 42, 3) := by decide +kernel
theorem dX8_set_40 : decode cX8_set 40 = .ok (.ifCond .ne 9, 3) := by decide +kernel
theorem dX8_set_43 : decode cX8_set 43 = .ok (.aload_n 0, 1) := by decide +kernel
theorem dX8_set_44 : decode cX8_set 44 = .ok (.iconst 2, 1) := by decide +kernel
theorem dX8_set_45 : decode cX8_set 45 = .ok (.invokevirtual 53, 3) := by decide +kernel
theorem dX8_set_48 : decode cX8_set 48 = .ok (.ireturn, 1) := by decide +kernel
theorem dX8_set_49 : decode cX8_set 49 = .ok (.aload_n 0, 1) := by decide +kernel
theorem dX8_set_50 : decode cX8_set 50 = .ok (.getfield 23, 3) := by decide +kernel
theorem dX8_set_53 : decode cX8_set 53 = .ok (.bipush 40, 2) := by decide +kernel
theorem dX8_set_55 : decode cX8_set 55 = .ok (.iload_n 1, 1) := by decide +kernel
theorem dX8_set_56 : decode cX8_set 56 = .ok (.imul, 1) := by decide +kernel
theorem dX8_set_57 : decode cX8_set 57 = .ok (.iload_n 2, 1) := by decide +kernel
theorem dX8_set_58 : decode cX8_set 58 = .ok (.iadd, 1) := by decide +kernel
theorem dX8_set_59 : decode cX8_set 59 = .ok (.iload_n 3, 1) := by decide +kernel
theorem dX8_set_60 : decode cX8_set 60 = .ok (.aload_n 0, 1) := by decide +kernel
theorem dX8_set_61 : decode cX8_set 61 = .ok (.getfield 17, 3) := by decide +kernel
theorem dX8_set_64 : decode cX8_set 64 = .ok (.iload_n 1, 1) := by decide +kernel
theorem dX8_set_65 : decode cX8_set 65 = .ok (.iaload, 1) := by decide +kernel
theorem dX8_set_66 : decode cX8_set 66 = .ok (.invokestatic 60, 3) := by decide +kernel
theorem dX8_set_69 : decode cX8_set 69 = .ok (.iastore, 1) := by decide +kernel
theorem dX8_set_70 : decode cX8_set 70 = .ok (.aload_n 0, 1) := by decide +kernel
theorem dX8_set_71 : decode cX8_set 71 = .ok (.aload_n 0, 1) := by decide +kernel
theorem dX8_set_72 : decode cX8_set 72 = .ok (.getfield 23, 3) := by decide +kernel
theorem dX8_set_75 : decode cX8_set 75 = .ok (.bipush 40, 2) := by decide +kernel
theorem dX8_set_77 : decode cX8_set 77 = .ok (.iload_n 1, 1) := by decide +kernel
theorem dX8_set_78 : decode cX8_set 78 = .ok (.imul, 1) := by decide +kernel
theorem dX8_set_79 : decode cX8_set 79 = .ok (.iload_n 2, 1) := by decide +kernel
theorem dX8_set_80 : decode cX8_set 80 = .ok (.iadd, 1) := by decide +kernel
theorem dX8_set_81 : decode cX8_set 81 = .ok (.iaload, 1) := by decide +kernel
theorem dX8_set_82 : decode cX8_set 82 = .ok (.invokevirtual 57, 3) := by decide +kernel
theorem dX8_set_85 : decode cX8_set 85 = .ok (.ireturn, 1) := by decide +kernel
theorem dX8_isSpan_0 : decode cX8_isSpan 0 = .ok (.iload_n 2, 1) := by decide +kernel
theorem dX8_isSpan_1 : decode cX8_isSpan 1 = .ok (.ifCond .lt 27, 3) := by decide +kernel
theorem dX8_isSpan_4 : decode cX8_isSpan 4 = .ok (.iload_n 3, 1) := by decide +kernel
theorem dX8_isSpan_5 : decode cX8_isSpan 5 = .ok (.ifCond .lt 23, 3) := by decide +kernel
theorem dX8_isSpan_8 : decode cX8_isSpan 8 = .ok (.iload_n 2, 1) := by decide +kernel
theorem dX8_isSpan_9 : decode cX8_isSpan 9 = .ok (.i2l, 1) := by decide +kernel
theorem dX8_isSpan_10 : decode cX8_isSpan 10 = .ok (.iload_n 3, 1) := by decide +kernel
theorem dX8_isSpan_11 : decode cX8_isSpan 11 = .ok (.i2l, 1) := by decide +kernel
theorem dX8_isSpan_12 : decode cX8_isSpan 12 = .ok (.ladd, 1) := by decide +kernel
theorem dX8_isSpan_13 : decode cX8_isSpan 13 = .ok (.aload_n 0, 1) := by decide +kernel
theorem dX8_isSpan_14 : decode cX8_isSpan 14 = .ok (.getfield 20, 3) := by decide +kernel
theorem dX8_isSpan_17 : decode cX8_isSpan 17 = .ok (.iload_n 1, 1) := by decide +kernel
theorem dX8_isSpan_18 : decode cX8_isSpan 18 = .ok (.iaload, 1) := by decide +kernel
theorem dX8_isSpan_19 : decode cX8_isSpan 19 = .ok (.i2l, 1) := by decide +kernel
theorem dX8_isSpan_20 : decode cX8_isSpan 20 = .ok (.lcmp, 1) := by decide +kernel
theorem dX8_isSpan_21 : decode cX8_isSpan 21 = .ok (.ifCond .gt 7, 3) := by decide +kernel
theorem dX8_isSpan_24 : decode cX8_isSpan 24 = .ok (.iconst 1, 1) := by decide +kernel
theorem dX8_isSpan_25 : decode cX8_isSpan 25 = .ok (.goto 4, 3) := by decide +kernel
theorem dX8_isSpan_28 : decode cX8_isSpan 28 = .ok (.iconst 0, 1) := by decide +kernel
theorem dX8_isSpan_29 : decode cX8_isSpan 29 = .ok (.ireturn, 1) := by decide +kernel
set_option maxRecDepth 20000 in
theorem ggX8_copy_X8_isRow : GoodIn wsX8_copy wsX8_isRow := goodIn_r _ [8, 9, 10, 11, 7, 12] (by decide +kernel) (by decide +kernel)
set_option maxRecDepth 20000 in
theorem gX8_copy_X8_isRow : GoodIn wsX8_copy (va_wsS RX8 46 yX8_isRow wsX8_isRow) := goodIn_app (goodIn_of _ (by decide +kernel)) ggX8_copy_X8_isRow
set_option maxRecDepth 20000 in
theorem ggX8_copy_X8_find : GoodIn wsX8_copy wsX8_find := goodIn_r _ [16, 17, 18, 27, 28, 29, 30, 31, 32, 33, 34, 35, 36, 37, 38, 39, 40, 41, 42, 43] (by decide +kernel) (by decide +kernel)
set_option maxRecDepth 20000 in
theorem gX8_copy_X8_find : GoodIn wsX8_copy (wsV RX8 53 RX8 yX8_find wsX8_find) := goodIn_app (goodIn_of _ (by decide +kernel)) ggX8_copy_X8_find
set_option maxRecDepth 20000 in
theorem ggX8_copy_X8_isSpan : GoodIn wsX8_copy wsX8_isSpan := goodIn_r _ [22, 2, 27, 28, 29, 30, 31, 32, 33, 34, 35, 36, 37, 38, 39, 40, 41, 42, 43] (by decide +kernel) (by decide +kernel)
set_option maxRecDepth 20000 in
theorem gX8_copy_X8_isSpan : GoodIn wsX8_copy (wsV RX8 64 RX8 yX8_isSpan wsX8_isSpan) := goodIn_app (goodIn_of _ (by decide +kernel)) ggX8_copy_X8_isSpan
set_option maxRecDepth 20000 in
theorem ggX8_copy_X8_well : GoodIn wsX8_copy wsX8_well := goodIn_r _ [26, 17, 27, 28, 29, 30, 31, 32, 33, 34, 35, 36, 37, 38, 39, 40, 41, 42, 43] (by decide +kernel) (by decide +kernel)
set_option maxRecDepth 20000 in
theorem gX8_copy_X8_well : GoodIn wsX8_copy (wsV RX8 57 RX8 yX8_well wsX8_well) := goodIn_app (goodIn_of _ (by decide +kernel)) ggX8_copy_X8_well
theorem dX8_copy_0 : decode cX8_copy 0 = .ok (.iload_n 1, 1) := by decide +kernel
theorem dX8_copy_1 : decode cX8_copy 1 = .ok (.invokestatic 46, 3) := by decide +kernel
theorem dX8_copy_4 : decode cX8_copy 4 = .ok (.ifCond .eq 10, 3) := by decide +kernel
theorem dX8_copy_7 : decode cX8_copy 7 = .ok (.iload_n 3, 1) := by decide +kernel
theorem dX8_copy_8 : decode cX8_copy 8 = .ok (.invokestatic 46, 3) := by decide +kernel
theorem dX8_copy_11 : decode cX8_copy 11 = .ok (.ifCond .ne 6, 3) := by decide +kernel
theorem dX8_copy_14 : decode cX8_copy 14 = .ok (.ldc 52, 2) := by decide +kernel
theorem dX8_copy_16 : decode cX8_copy 16 = .ok (.ireturn, 1) := by decide +kernel
theorem dX8_copy_17 : decode cX8_copy 17 = .ok (.aload_n 0, 1) := by decide +kernel
theorem dX8_copy_18 : decode cX8_copy 18 = .ok (.getfield 20, 3) := by decide +kernel
theorem dX8_copy_21 : decode cX8_copy 21 = .ok (.iload_n 1, 1) := by decide +kernel
theorem dX8_copy_22 : decode cX8_copy 22 = .ok (.iaload, 1) := by decide +kernel
theorem dX8_copy_23 : decode cX8_copy 23 = .ok (.ifCond .lt 12, 3) := by decide +kernel
theorem dX8_copy_26 : decode cX8_copy 26 = .ok (.aload_n 0, 1) := by decide +kernel
theorem dX8_copy_27 : decode cX8_copy 27 = .ok (.getfield 20, 3) := by decide +kernel
theorem dX8_copy_30 : decode cX8_copy 30 = .ok (.iload_n 3, 1) := by decide +kernel
theorem dX8_copy_31 : decode cX8_copy 31 = .ok (.iaload, 1) := by decide +kernel
theorem dX8_copy_32 : decode cX8_copy 32 = .ok (.ifCond .ge 9, 3) := by decide +kernel
theorem dX8_copy_35 : decode cX8_copy 35 = .ok (.aload_n 0, 1) := by decide +kernel
theorem dX8_copy_36 : decode cX8_copy 36 = .ok (.iconst 1, 1) := by decide +kernel
theorem dX8_copy_37 : decode cX8_copy 37 = .ok (.invokevirtual 53, 3) := by decide +kernel
theorem dX8_copy_40 : decode cX8_copy 40 = .ok (.ireturn, 1) := by decide +kernel
theorem dX8_copy_41 : decode cX8_copy 41 = .ok (.aload_n 0, 1) := by decide +kernel
theorem dX8_copy_42 : decode cX8_copy 42 = .ok (.getfield 17, 3) := by decide +kernel
theorem dX8_copy_45 : decode cX8_copy 45 = .ok (.iload_n 1, 1) := by decide +kernel
theorem dX8_copy_46 : decode cX8_copy 46 = .ok (.iaload, 1) := by decide +kernel
theorem dX8_copy_47 : decode cX8_copy 47 = .ok (.aload_n 0, 1) := by decide +kernel
theorem dX8_copy_48 : decode cX8_copy 48 = .ok (.getfield 17, 3) := by decide +kernel
theorem dX8_copy_51 : decode cX8_copy 51 = .ok (.iload_n 3, 1) := by decide +kernel
theorem dX8_copy_52 : decode cX8_copy 52 = .ok (.iaload, 1) := by decide +kernel
theorem dX8_copy_53 : decode cX8_copy 53 = .ok (.if_icmp .eq 9, 3) := by decide +kernel
theorem dX8_copy_56 : decode cX8_copy 56 = .ok (.aload_n 0, 1) := by decide +kernel
theorem dX8_copy_57 : decode cX8_copy 57 = .ok (.iconst 5, 1) := by decide +kernel
theorem dX8_copy_58 : decode cX8_copy 58 = .ok (.invokevirtual 53, 3) := by decide +kernel
theorem dX8_copy_61 : decode cX8_copy 61 = .ok (.ireturn, 1) := by decide +kernel
theorem dX8_copy_62 : decode cX8_copy 62 = .ok (.aload_n 0, 1) := by decide +kernel
theorem dX8_copy_63 : decode cX8_copy 63 = .ok (.iload_n 1, 1) := by decide +kernel
theorem dX8_copy_64 : decode cX8_copy 64 = .ok (.iload_n 2, 1) := by decide +kernel
theorem dX8_copy_65 : decode cX8_copy 65 = .ok (.iload 5, 2) := by decide +kernel
theorem dX8_copy_67 : decode cX8_copy 67 = .ok (.invokevirtual 64, 3) := by decide +kernel
theorem dX8_copy_70 : decode cX8_copy 70 = .ok (.ifCond .eq 15, 3) := by decide +kernel
theorem dX8_copy_73 : decode cX8_copy 73 = .ok (.aload_n 0, 1) := by decide +kernel
theorem dX8_copy_74 : decode cX8_copy 74 = .ok (.iload_n 3, 1) := by decide +kernel
theorem dX8_copy_75 : decode cX8_copy 75 = .ok (.iload 4, 2) := by decide +kernel
theorem dX8_copy_77 : decode cX8_copy 77 = .ok (.iload 5, 2) := by decide +kernel
theorem dX8_copy_79 : decode cX8_copy 79 = .ok (.invokevirtual 64, 3) := by decide +kernel
theorem dX8_copy_82 : decode cX8_copy 82 = .ok (.ifCond .ne 9, 3) := by decide +kernel
theorem dX8_copy_85 : decode cX8_copy 85 = .ok (.aload_n 0, 1) := by decide +kernel
theorem dX8_copy_86 : decode cX8_copy 86 = .ok (.iconst 2, 1) := by decide +kernel
theorem dX8_copy_87 : decode cX8_copy 87 = .ok (.invokevirtual 53, 3) := by decide +kernel
theorem dX8_copy_90 : decode cX8_copy 90 = .ok (.ireturn, 1) := by decide +kernel
theorem dX8_copy_91 : decode cX8_copy 91 = .ok (.iload_n 2, 1) := by decide +kernel
theorem dX8_copy_92 : decode cX8_copy 92 = .ok (.iload 4, 2) := by decide +kernel
theorem dX8_copy_94 : decode cX8_copy 94 = .ok (.if_icmp .ge 7, 3) := by decide +kernel
theorem dX8_copy_97 : decode cX8_copy 97 = .ok (.iconst 1, 1) := by decide +kernel
theorem dX8_copy_98 : decode cX8_copy 98 = .ok (.goto 4, 3) := by decide +kernel
theorem dX8_copy_101 : decode cX8_copy 101 = .ok (.iconst 0, 1) := by decide +kernel
theorem dX8_copy_102 : decode cX8_copy 102 = .ok (.istore 6, 2) := by decide +kernel
theorem dX8_copy_104 : decode cX8_copy 104 = .ok (.iconst 0, 1) := by decide +kernel
theorem dX8_copy_105 : decode cX8_copy 105 = .ok (.istore 7, 2) := by decide +kernel
theorem dX8_copy_107 : decode cX8_copy 107 = .ok (.iload 7, 2) := by decide +kernel
theorem dX8_copy_109 : decode cX8_copy 109 = .ok (.iload 5, 2) := by decide +kernel
theorem dX8_copy_111 : decode cX8_copy 111 = .ok (.if_icmp .ge 57, 3) := by decide +kernel
theorem dX8_copy_114 : decode cX8_copy 114 = .ok (.iload 6, 2) := by decide +kernel
theorem dX8_copy_116 : decode cX8_copy 116 = .ok (.ifCond .eq 13, 3) := by decide +kernel
theorem dX8_copy_119 : decode cX8_copy 119 = .ok (.iload 5, 2) := by decide +kernel
theorem dX8_copy_121 : decode cX8_copy 121 = .ok (.iconst 1, 1) := by decide +kernel
theorem dX8_copy_122 : decode cX8_copy 122 = .ok (.isub, 1) := by decide +kernel
theorem dX8_copy_123 : decode cX8_copy 123 = .ok (.iload 7, 2) := by decide +kernel
theorem dX8_copy_125 : decode cX8_copy 125 = .ok (.isub, 1) := by decide +kernel
theorem dX8_copy_126 : decode cX8_copy 126 = .ok (.goto 5, 3) := by decide +kernel
theorem dX8_copy_129 : decode cX8_copy 129 = .ok (.iload 7, 2) := by decide +kernel
theorem dX8_copy_131 : decode cX8_copy 131 = .ok (.istore 8, 2) := by decide +kernel
theorem dX8_copy_133 : decode cX8_copy 133 = .ok (.aload_n 0, 1) := by decide +kernel
theorem dX8_copy_134 : decode cX8_copy 134 = .ok (.getfield 23, 3) := by decide +kernel
theorem dX8_copy_137 : decode cX8_copy 137 = .ok (.bipush 40, 2) := by decide +kernel
theorem dX8_copy_139 : decode cX8_copy 139 = .ok (.iload_n 3, 1) := by decide +kernel
theorem dX8_copy_140 : decode cX8_copy 140 = .ok (.imul, 1) := by decide +kernel
theorem dX8_copy_141 : decode cX8_copy 141 = .ok (.iload 4, 2) := by decide +kernel
theorem dX8_copy_143 : decode cX8_copy 143 = .ok (.iadd, 1) := by decide +kernel
theorem dX8_copy_144 : decode cX8_copy 144 = .ok (.iload 8, 2) := by decide +kernel
theorem dX8_copy_146 : decode cX8_copy 146 = .ok (.iadd, 1) := by decide +kernel
theorem dX8_copy_147 : decode cX8_copy 147 = .ok (.aload_n 0, 1) := by decide +kernel
theorem dX8_copy_148 : decode cX8_copy 148 = .ok (.getfield 23, 3) := by decide +kernel
theorem dX8_copy_151 : decode cX8_copy 151 = .ok (.bipush 40, 2) := by decide +kernel
theorem dX8_copy_153 : decode cX8_copy 153 = .ok (.iload_n 1, 1) := by decide +kernel
theorem dX8_copy_154 : decode cX8_copy 154 = .ok (.imul, 1) := by decide +kernel
theorem dX8_copy_155 : decode cX8_copy 155 = .ok (.iload_n 2, 1) := by decide +kernel
theorem dX8_copy_156 : decode cX8_copy 156 = .ok (.iadd, 1) := by decide +kernel
theorem dX8_copy_157 : decode cX8_copy 157 = .ok (.iload 8, 2) := by decide +kernel
theorem dX8_copy_159 : decode cX8_copy 159 = .ok (.iadd, 1) := by decide +kernel
theorem dX8_copy_160 : decode cX8_copy 160 = .ok (.iaload, 1) := by decide +kernel
theorem dX8_copy_161 : decode cX8_copy 161 = .ok (.iastore, 1) := by decide +kernel
theorem dX8_copy_162 : decode cX8_copy 162 = .ok (.iinc 7 1, 3) := by decide +kernel
theorem dX8_copy_165 : decode cX8_copy 165 = .ok (.goto (-58), 3) := by decide +kernel
theorem dX8_copy_168 : decode cX8_copy 168 = .ok (.aload_n 0, 1) := by decide +kernel
theorem dX8_copy_169 : decode cX8_copy 169 = .ok (.iload 5, 2) := by decide +kernel
theorem dX8_copy_171 : decode cX8_copy 171 = .ok (.invokevirtual 57, 3) := by decide +kernel
theorem dX8_copy_174 : decode cX8_copy 174 = .ok (.ireturn, 1) := by decide +kernel
set_option maxRecDepth 20000 in
theorem ggX8_drop_X8_isRow : GoodIn wsX8_drop wsX8_isRow := goodIn_r _ [6, 7, 8, 9, 5, 10] (by decide +kernel) (by decide +kernel)
set_option maxRecDepth 20000 in
theorem gX8_drop_X8_isRow : GoodIn wsX8_drop (va_wsS RX8 46 yX8_isRow wsX8_isRow) := goodIn_app (goodIn_of _ (by decide +kernel)) ggX8_drop_X8_isRow
set_option maxRecDepth 20000 in
theorem ggX8_drop_X8_find : GoodIn wsX8_drop wsX8_find := goodIn_r _ [14, 15, 16, 21, 22, 23, 24, 25, 26, 27, 28, 29, 30, 31, 32, 33, 34, 35, 36, 37] (by decide +kernel) (by decide +kernel)
set_option maxRecDepth 20000 in
theorem gX8_drop_X8_find : GoodIn wsX8_drop (wsV RX8 53 RX8 yX8_find wsX8_find) := goodIn_app (goodIn_of _ (by decide +kernel)) ggX8_drop_X8_find
set_option maxRecDepth 20000 in
theorem ggX8_drop_X8_well : GoodIn wsX8_drop wsX8_well := goodIn_r _ [20, 15, 21, 22, 23, 24, 25, 26, 27, 28, 29, 30, 31, 32, 33, 34, 35, 36, 37] (by decide +kernel) (by decide +kernel)
set_option maxRecDepth 20000 in
theorem gX8_drop_X8_well : GoodIn wsX8_drop (wsV RX8 57 RX8 yX8_well wsX8_well) := goodIn_app (goodIn_of _ (by decide +kernel)) ggX8_drop_X8_well
theorem dX8_drop_0 : decode cX8_drop 0 = .ok (.iload_n 1, 1) := by decide +kernel
theorem dX8_drop_1 : decode cX8_drop 1 = .ok (.invokestatic 46, 3) := by decide +kernel
theorem dX8_drop_4 : decode cX8_drop 4 = .ok (.ifCond .ne 6, 3) := by decide +kernel
theorem dX8_drop_7 : decode cX8_drop 7 = .ok (.ldc 52, 2) := by decide +kernel
theorem dX8_drop_9 : decode cX8_drop 9 = .ok (.ireturn, 1) := by decide +kernel
theorem dX8_drop_10 : decode cX8_drop 10 = .ok (.aload_n 0, 1) := by decide +kernel
theorem dX8_drop_11 : decode cX8_drop 11 = .ok (.getfield 20, 3) := by decide +kernel
theorem dX8_drop_14 : decode cX8_drop 14 = .ok (.iload_n 1, 1) := by decide +kernel
theorem dX8_drop_15 : decode cX8_drop 15 = .ok (.iaload, 1) := by decide +kernel
theorem dX8_drop_16 : decode cX8_drop 16 = .ok (.ifCond .ge 9, 3) := by decide +kernel
theorem dX8_drop_19 : decode cX8_drop 19 = .ok (.aload_n 0, 1) := by decide +kernel
theorem dX8_drop_20 : decode cX8_drop 20 = .ok (.iconst 1, 1) := by decide +kernel
theorem dX8_drop_21 : decode cX8_drop 21 = .ok (.invokevirtual 53, 3) := by decide +kernel
theorem dX8_drop_24 : decode cX8_drop 24 = .ok (.ireturn, 1) := by decide +kernel
theorem dX8_drop_25 : decode cX8_drop 25 = .ok (.aload_n 0, 1) := by decide +kernel
theorem dX8_drop_26 : decode cX8_drop 26 = .ok (.getfield 20, 3) := by decide +kernel
theorem dX8_drop_29 : decode cX8_drop 29 = .ok (.iload_n 1, 1) := by decide +kernel
theorem dX8_drop_30 : decode cX8_drop 30 = .ok (.iaload, 1) := by decide +kernel
theorem dX8_drop_31 : decode cX8_drop 31 = .ok (.istore_n 2, 1) := by decide +kernel
theorem dX8_drop_32 : decode cX8_drop 32 = .ok (.aload_n 0, 1) := by decide +kernel
theorem dX8_drop_33 : decode cX8_drop 33 = .ok (.getfield 20, 3) := by decide +kernel
theorem dX8_drop_36 : decode cX8_drop 36 = .ok (.iload_n 1, 1) := by decide +kernel
theorem dX8_drop_37 : decode cX8_drop 37 = .ok (.iconst (-1), 1) := by decide +kernel
theorem dX8_drop_38 : decode cX8_drop 38 = .ok (.iastore, 1) := by decide +kernel
theorem dX8_drop_39 : decode cX8_drop 39 = .ok (.aload_n 0, 1) := by decide +kernel
theorem dX8_drop_40 : decode cX8_drop 40 = .ok (.iload_n 2, 1) := by decide +kernel
theorem dX8_drop_41 : decode cX8_drop 41 = .ok (.invokevirtual 57, 3) := by decide +kernel
theorem dX8_drop_44 : decode cX8_drop 44 = .ok (.ireturn, 1) := by decide +kernel
set_option maxRecDepth 20000 in
theorem ggX8_feed_X8_in : GoodIn wsX8_feed wsX8_in := goodIn_r _ [9] (by decide +kernel) (by decide +kernel)
set_option maxRecDepth 20000 in
theorem gX8_feed_X8_in : GoodIn wsX8_feed (va_wsS RX8 42 yX8_in wsX8_in) := goodIn_app (goodIn_of _ (by decide +kernel)) ggX8_feed_X8_in
theorem dX8_feed_0 : decode cX8_feed 0 = .ok (.iload_n 1, 1) := by decide +kernel
theorem dX8_feed_1 : decode cX8_feed 1 = .ok (.i2l, 1) := by decide +kernel
theorem dX8_feed_2 : decode cX8_feed 2 = .ok (.lconst 0, 1) := by decide +kernel
theorem dX8_feed_3 : decode cX8_feed 3 = .ok (.ldc2_w 68, 3) := by decide +kernel
theorem dX8_feed_6 : decode cX8_feed 6 = .ok (.invokestatic 42, 3) := by decide +kernel
theorem dX8_feed_9 : decode cX8_feed 9 = .ok (.ifCond .ne 6, 3) := by decide +kernel
theorem dX8_feed_12 : decode cX8_feed 12 = .ok (.ldc 52, 2) := by decide +kernel
theorem dX8_feed_14 : decode cX8_feed 14 = .ok (.ireturn, 1) := by decide +kernel
theorem dX8_feed_15 : decode cX8_feed 15 = .ok (.aload_n 0, 1) := by decide +kernel
theorem dX8_feed_16 : decode cX8_feed 16 = .ok (.getfield 70, 3) := by decide +kernel
theorem dX8_feed_19 : decode cX8_feed 19 = .ok (.bipush 120, 2) := by decide +kernel
theorem dX8_feed_21 : decode cX8_feed 21 = .ok (.if_icmp .ne 6, 3) := by decide +kernel
theorem dX8_feed_24 : decode cX8_feed 24 = .ok (.ldc 73, 2) := by decide +kernel
theorem dX8_feed_26 : decode cX8_feed 26 = .ok (.ireturn, 1) := by decide +kernel
theorem dX8_feed_27 : decode cX8_feed 27 = .ok (.aload_n 0, 1) := by decide +kernel
theorem dX8_feed_28 : decode cX8_feed 28 = .ok (.getfield 26, 3) := by decide +kernel
theorem dX8_feed_31 : decode cX8_feed 31 = .ok (.aload_n 0, 1) := by decide +kernel
theorem dX8_feed_32 : decode cX8_feed 32 = .ok (.getfield 70, 3) := by decide +kernel
theorem dX8_feed_35 : decode cX8_feed 35 = .ok (.iload_n 1, 1) := by decide +kernel
theorem dX8_feed_36 : decode cX8_feed 36 = .ok (.iastore, 1) := by decide +kernel
theorem dX8_feed_37 : decode cX8_feed 37 = .ok (.aload_n 0, 1) := by decide +kernel
theorem dX8_feed_38 : decode cX8_feed 38 = .ok (.dup, 1) := by decide +kernel
theorem dX8_feed_39 : decode cX8_feed 39 = .ok (.getfield 70, 3) := by decide +kernel
theorem dX8_feed_42 : decode cX8_feed 42 = .ok (.iconst 1, 1) := by decide +kernel
theorem dX8_feed_43 : decode cX8_feed 43 = .ok (.iadd, 1) := by decide +kernel
theorem dX8_feed_44 : decode cX8_feed 44 = .ok (.putfield 70, 3) := by decide +kernel
theorem dX8_feed_47 : decode cX8_feed 47 = .ok (.aload_n 0, 1) := by decide +kernel
theorem dX8_feed_48 : decode cX8_feed 48 = .ok (.getfield 70, 3) := by decide +kernel
theorem dX8_feed_51 : decode cX8_feed 51 = .ok (.ireturn, 1) := by decide +kernel
theorem dX8_isLetter_0 : decode cX8_isLetter 0 = .ok (.aload_n 0, 1) := by decide +kernel
theorem dX8_isLetter_1 : decode cX8_isLetter 1 = .ok (.getfield 74, 3) := by decide +kernel
theorem dX8_isLetter_4 : decode cX8_isLetter 4 = .ok (.aload_n 0, 1) := by decide +kernel
theorem dX8_isLetter_5 : decode cX8_isLetter 5 = .ok (.getfield 70, 3) := by decide +kernel
theorem dX8_isLetter_8 : decode cX8_isLetter 8 = .ok (.if_icmp .ge 20, 3) := by decide +kernel
theorem dX8_isLetter_11 : decode cX8_isLetter 11 = .ok (.aload_n 0, 1) := by decide +kernel
theorem dX8_isLetter_12 : decode cX8_isLetter 12 = .ok (.getfield 26, 3) := by decide +kernel
theorem dX8_isLetter_15 : decode cX8_isLetter 15 = .ok (.aload_n 0, 1) := by decide +kernel
theorem dX8_isLetter_16 : decode cX8_isLetter 16 = .ok (.getfield 74, 3) := by decide +kernel
theorem dX8_isLetter_19 : decode cX8_isLetter 19 = .ok (.iaload, 1) := by decide +kernel
theorem dX8_isLetter_20 : decode cX8_isLetter 20 = .ok (.iload_n 1, 1) := by decide +kernel
theorem dX8_isLetter_21 : decode cX8_isLetter 21 = .ok (.if_icmp .ne 7, 3) := by decide +kernel
theorem dX8_isLetter_24 : decode cX8_isLetter 24 = .ok (.iconst 1, 1) := by decide +kernel
theorem dX8_isLetter_25 : decode cX8_isLetter 25 = .ok (.goto 4, 3) := by decide +kernel
theorem dX8_isLetter_28 : decode cX8_isLetter 28 = .ok (.iconst 0, 1) := by decide +kernel
theorem dX8_isLetter_29 : decode cX8_isLetter 29 = .ok (.ireturn, 1) := by decide +kernel
set_option maxRecDepth 20000 in
theorem ggX8_isFigure_X8_in : GoodIn wsX8_isFigure wsX8_in := goodIn_r _ [8] (by decide +kernel) (by decide +kernel)
set_option maxRecDepth 20000 in
theorem gX8_isFigure_X8_in : GoodIn wsX8_isFigure (va_wsS RX8 42 yX8_in wsX8_in) := goodIn_app (goodIn_of _ (by decide +kernel)) ggX8_isFigure_X8_in
theorem dX8_isFigure_0 : decode cX8_isFigure 0 = .ok (.iload_n 1, 1) := by decide +kernel
theorem dX8_isFigure_1 : decode cX8_isFigure 1 = .ok (.aload_n 0, 1) := by decide +kernel
theorem dX8_isFigure_2 : decode cX8_isFigure 2 = .ok (.getfield 70, 3) := by decide +kernel
theorem dX8_isFigure_5 : decode cX8_isFigure 5 = .ok (.if_icmp .ge 26, 3) := by decide +kernel
theorem dX8_isFigure_8 : decode cX8_isFigure 8 = .ok (.aload_n 0, 1) := by decide +kernel
theorem dX8_isFigure_9 : decode cX8_isFigure 9 = .ok (.getfield 26, 3) := by decide +kernel
theorem dX8_isFigure_12 : decode cX8_isFigure 12 = .ok (.iload_n 1, 1) := by decide +kernel
theorem dX8_isFigure_13 : decode cX8_isFigure 13 = .ok (.iaload, 1) := by decide +kernel
theorem dX8_isFigure_14 : decode cX8_isFigure 14 = .ok (.i2l, 1) := by decide +kernel
theorem dX8_isFigure_15 : decode cX8_isFigure 15 = .ok (.ldc2_w 77, 3) := by decide +kernel
theorem dX8_isFigure_18 : decode cX8_isFigure 18 = .ok (.ldc2_w 79, 3) := by decide +kernel
theorem dX8_isFigure_21 : decode cX8_isFigure 21 = .ok (.invokestatic 42, 3) := by decide +kernel
theorem dX8_isFigure_24 : decode cX8_isFigure 24 = .ok (.ifCond .eq 7, 3) := by decide +kernel
theorem dX8_isFigure_27 : decode cX8_isFigure 27 = .ok (.iconst 1, 1) := by decide +kernel
theorem dX8_isFigure_28 : decode cX8_isFigure 28 = .ok (.goto 4, 3) := by decide +kernel
theorem dX8_isFigure_31 : decode cX8_isFigure 31 = .ok (.iconst 0, 1) := by decide +kernel
theorem dX8_isFigure_32 : decode cX8_isFigure 32 = .ok (.ireturn, 1) := by decide +kernel
theorem dX8_refuse_0 : decode cX8_refuse 0 = .ok (.aload_n 0, 1) := by decide +kernel
theorem dX8_refuse_1 : decode cX8_refuse 1 = .ok (.iload_n 1, 1) := by decide +kernel
theorem dX8_refuse_2 : decode cX8_refuse 2 = .ok (.putfield 81, 3) := by decide +kernel
theorem dX8_refuse_5 : decode cX8_refuse 5 = .ok (.iconst 0, 1) := by decide +kernel
theorem dX8_refuse_6 : decode cX8_refuse 6 = .ok (.ireturn, 1) := by decide +kernel
set_option maxRecDepth 20000 in
theorem ggX8_sign_X8_isLetter : GoodIn wsX8_sign wsX8_isLetter := goodIn_r _ [6, 1, 7, 8, 14, 15, 16, 17, 18, 19, 20, 21, 22, 23, 24, 25, 26, 27, 28, 29, 30] (by decide +kernel) (by decide +kernel)
set_option maxRecDepth 20000 in
theorem gX8_sign_X8_isLetter : GoodIn wsX8_sign (wsV RX8 84 RX8 yX8_isLetter wsX8_isLetter) := goodIn_app (goodIn_of _ (by decide +kernel)) ggX8_sign_X8_isLetter
set_option maxRecDepth 20000 in
theorem ggX8_sign_X8_refuse : GoodIn wsX8_sign wsX8_refuse := goodIn_r _ [12, 13, 14, 15, 16, 17, 18, 19, 20, 21, 22, 23, 24, 25, 26, 27, 28, 29, 30] (by decide +kernel) (by decide +kernel)
set_option maxRecDepth 20000 in
theorem gX8_sign_X8_refuse : GoodIn wsX8_sign (wsV RX8 87 RX8 yX8_refuse wsX8_refuse) := goodIn_app (goodIn_of _ (by decide +kernel)) ggX8_sign_X8_refuse
theorem dX8_sign_0 : decode cX8_sign 0 = .ok (.aload_n 0, 1) := by decide +kernel
theorem dX8_sign_1 : decode cX8_sign 1 = .ok (.iload_n 1, 1) := by decide +kernel
theorem dX8_sign_2 : decode cX8_sign 2 = .ok (.invokevirtual 84, 3) := by decide +kernel
theorem dX8_sign_5 : decode cX8_sign 5 = .ok (.ifCond .ne 9, 3) := by decide +kernel
theorem dX8_sign_8 : decode cX8_sign 8 = .ok (.aload_n 0, 1) := by decide +kernel
theorem dX8_sign_9 : decode cX8_sign 9 = .ok (.iconst 1, 1) := by decide +kernel
theorem dX8_sign_10 : decode cX8_sign 10 = .ok (.invokevirtual 87, 3) := by decide +kernel
theorem dX8_sign_13 : decode cX8_sign 13 = .ok (.ireturn, 1) := by decide +kernel
theorem dX8_sign_14 : decode cX8_sign 14 = .ok (.aload_n 0, 1) := by decide +kernel
theorem dX8_sign_15 : decode cX8_sign 15 = .ok (.dup, 1) := by decide +kernel
theorem dX8_sign_16 : decode cX8_sign 16 = .ok (.getfield 74, 3) := by decide +kernel
theorem dX8_sign_19 : decode cX8_sign 19 = .ok (.iconst 1, 1) := by decide +kernel
theorem dX8_sign_20 : decode cX8_sign 20 = .ok (.iadd, 1) := by decide +kernel
theorem dX8_sign_21 : decode cX8_sign 21 = .ok (.putfield 74, 3) := by decide +kernel
theorem dX8_sign_24 : decode cX8_sign 24 = .ok (.iconst 1, 1) := by decide +kernel
theorem dX8_sign_25 : decode cX8_sign 25 = .ok (.ireturn, 1) := by decide +kernel
set_option maxRecDepth 20000 in
theorem ggX8_readsNumber_X8_isFigure : GoodIn wsX8_readsNumber wsX8_isFigure := goodIn_r _ [8, 9, 2, 10, 11, 12, 13, 7, 14, 20, 21, 22, 23, 24, 25, 26, 27, 28, 29, 30, 31, 32, 33, 34, 35, 36] (by decide +kernel) (by decide +kernel)
set_option maxRecDepth 20000 in
theorem gX8_readsNumber_X8_isFigure : GoodIn wsX8_readsNumber (wsV RX8 90 RX8 yX8_isFigure wsX8_isFigure) := goodIn_app (goodIn_of _ (by decide +kernel)) ggX8_readsNumber_X8_isFigure
set_option maxRecDepth 20000 in
theorem ggX8_readsNumber_X8_refuse : GoodIn wsX8_readsNumber wsX8_refuse := goodIn_r _ [18, 19, 20, 21, 22, 23, 24, 25, 26, 27, 28, 29, 30, 31, 32, 33, 34, 35, 36] (by decide +kernel) (by decide +kernel)
set_option maxRecDepth 20000 in
theorem gX8_readsNumber_X8_refuse : GoodIn wsX8_readsNumber (wsV RX8 87 RX8 yX8_refuse wsX8_refuse) := goodIn_app (goodIn_of _ (by decide +kernel)) ggX8_readsNumber_X8_refuse
set_option maxRecDepth 20000 in
theorem ggX8_readsNumber_X8_in : GoodIn wsX8_readsNumber wsX8_in := goodIn_r _ [14] (by decide +kernel) (by decide +kernel)
set_option maxRecDepth 20000 in
theorem gX8_readsNumber_X8_in : GoodIn wsX8_readsNumber (va_wsS RX8 42 yX8_in wsX8_in) := goodIn_app (goodIn_of _ (by decide +kernel)) ggX8_readsNumber_X8_in
theorem dX8_readsNumber_0 : decode cX8_readsNumber 0 = .ok (.aload_n 0, 1) := by decide +kernel
theorem dX8_readsNumber_1 : decode cX8_readsNumber 1 = .ok (.aload_n 0, 1) := by decide +kernel
theorem dX8_readsNumber_2 : decode cX8_readsNumber 2 = .ok (.getfield 74, 3) := by decide +kernel
theorem dX8_readsNumber_5 : decode cX8_readsNumber 5 = .ok (.invokevirtual 90, 3) := by decide +kernel
theorem dX8_readsNumber_8 : decode cX8_readsNumber 8 = .ok (.ifCond .eq 29, 3) := by decide +kernel
theorem dX8_readsNumber_11 : decode cX8_readsNumber 11 = .ok (.aload_n 0, 1) := by decide +kernel
theorem dX8_readsNumber_12 : decode cX8_readsNumber 12 = .ok (.aload_n 0, 1) := by decide +kernel
theorem dX8_readsNumber_13 : decode cX8_readsNumber 13 = .ok (.getfield 74, 3) := by decide +kernel
theorem dX8_readsNumber_16 : decode cX8_readsNumber 16 = .ok (.iconst 1, 1) := by decide +kernel
theorem dX8_readsNumber_17 : decode cX8_readsNumber 17 = .ok (.iadd, 1) := by decide +kernel
theorem dX8_readsNumber_18 : decode cX8_readsNumber 18 = .ok (.invokevirtual 90, 3) := by decide +kernel
theorem dX8_readsNumber_21 : decode cX8_readsNumber 21 = .ok (.ifCond .eq 22, 3) := by decide +kernel
theorem dX8_readsNumber_24 : decode cX8_readsNumber 24 = .ok (.aload_n 0, 1) := by decide +kernel
theorem dX8_readsNumber_25 : decode cX8_readsNumber 25 = .ok (.aload_n 0, 1) := by decide +kernel
theorem dX8_readsNumber_26 : decode cX8_readsNumber 26 = .ok (.getfield 74, 3) := by decide +kernel
theorem dX8_readsNumber_29 : decode cX8_readsNumber 29 = .ok (.iconst 2, 1) := by decide +kernel
theorem dX8_readsNumber_30 : decode cX8_readsNumber 30 = .ok (.iadd, 1) := by decide +kernel
theorem dX8_readsNumber_31 : decode cX8_readsNumber 31 = .ok (.invokevirtual 90, 3) := by decide +kernel
theorem dX8_readsNumber_34 : decode cX8_readsNumber 34 = .ok (.ifCond .eq 9, 3) := by decide +kernel
theorem dX8_readsNumber_37 : decode cX8_readsNumber 37 = .ok (.aload_n 0, 1) := by decide +kernel
theorem dX8_readsNumber_38 : decode cX8_readsNumber 38 = .ok (.iconst 1, 1) := by decide +kernel
theorem dX8_readsNumber_39 : decode cX8_readsNumber 39 = .ok (.invokevirtual 87, 3) := by decide +kernel
theorem dX8_readsNumber_42 : decode cX8_readsNumber 42 = .ok (.ireturn, 1) := by decide +kernel
theorem dX8_readsNumber_43 : decode cX8_readsNumber 43 = .ok (.aload_n 0, 1) := by decide +kernel
theorem dX8_readsNumber_44 : decode cX8_readsNumber 44 = .ok (.aload_n 0, 1) := by decide +kernel
theorem dX8_readsNumber_45 : decode cX8_readsNumber 45 = .ok (.getfield 26, 3) := by decide +kernel
theorem dX8_readsNumber_48 : decode cX8_readsNumber 48 = .ok (.aload_n 0, 1) := by decide +kernel
theorem dX8_readsNumber_49 : decode cX8_readsNumber 49 = .ok (.getfield 74, 3) := by decide +kernel
theorem dX8_readsNumber_52 : decode cX8_readsNumber 52 = .ok (.iaload, 1) := by decide +kernel
theorem dX8_readsNumber_53 : decode cX8_readsNumber 53 = .ok (.bipush 48, 2) := by decide +kernel
theorem dX8_readsNumber_55 : decode cX8_readsNumber 55 = .ok (.isub, 1) := by decide +kernel
theorem dX8_readsNumber_56 : decode cX8_readsNumber 56 = .ok (.putfield 93, 3) := by decide +kernel
theorem dX8_readsNumber_59 : decode cX8_readsNumber 59 = .ok (.aload_n 0, 1) := by decide +kernel
theorem dX8_readsNumber_60 : decode cX8_readsNumber 60 = .ok (.aload_n 0, 1) := by decide +kernel
theorem dX8_readsNumber_61 : decode cX8_readsNumber 61 = .ok (.getfield 74, 3) := by decide +kernel
theorem dX8_readsNumber_64 : decode cX8_readsNumber 64 = .ok (.iconst 1, 1) := by decide +kernel
theorem dX8_readsNumber_65 : decode cX8_readsNumber 65 = .ok (.iadd, 1) := by decide +kernel
theorem dX8_readsNumber_66 : decode cX8_readsNumber 66 = .ok (.invokevirtual 90, 3) := by decide +kernel
theorem dX8_readsNumber_69 : decode cX8_readsNumber 69 = .ok (.ifCond .eq 7, 3) := by decide +kernel
theorem dX8_readsNumber_72 : decode cX8_readsNumber 72 = .ok (.iconst 2, 1) := by decide +kernel
theorem dX8_readsNumber_73 : decode cX8_readsNumber 73 = .ok (.goto 4, 3) := by decide +kernel
theorem dX8_readsNumber_76 : decode cX8_readsNumber 76 = .ok (.iconst 1, 1) := by decide +kernel
theorem dX8_readsNumber_77 : decode cX8_readsNumber 77 = .ok (.istore_n 3, 1) := by decide +kernel
theorem dX8_readsNumber_78 : decode cX8_readsNumber 78 = .ok (.aload_n 0, 1) := by decide +kernel
theorem dX8_readsNumber_79 : decode cX8_readsNumber 79 = .ok (.iload_n 3, 1) := by decide +kernel
theorem dX8_readsNumber_80 : decode cX8_readsNumber 80 = .ok (.iconst 2, 1) := by decide +kernel
theorem dX8_readsNumber_81 : decode cX8_readsNumber 81 = .ok (.if_icmp .ne 28, 3) := by decide +kernel
theorem dX8_readsNumber_84 : decode cX8_readsNumber 84 = .ok (.bipush 10, 2) := by decide +kernel
theorem dX8_readsNumber_86 : decode cX8_readsNumber 86 = .ok (.aload_n 0, 1) := by decide +kernel
theorem dX8_readsNumber_87 : decode cX8_readsNumber 87 = .ok (.getfield 93, 3) := by decide +kernel
theorem dX8_readsNumber_90 : decode cX8_readsNumber 90 = .ok (.imul, 1) := by decide +kernel
theorem dX8_readsNumber_91 : decode cX8_readsNumber 91 = .ok (.aload_n 0, 1) := by decide +kernel
theorem dX8_readsNumber_92 : decode cX8_readsNumber 92 = .ok (.getfield 26, 3) := by decide +kernel
theorem dX8_readsNumber_95 : decode cX8_readsNumber 95 = .ok (.aload_n 0, 1) := by decide +kernel
theorem dX8_readsNumber_96 : decode cX8_readsNumber 96 = .ok (.getfield 74, 3) := by decide +kernel
theorem dX8_readsNumber_99 : decode cX8_readsNumber 99 = .ok (.iconst 1, 1) := by decide +kernel
theorem dX8_readsNumber_100 : decode cX8_readsNumber 100 = .ok (.iadd, 1) := by decide +kernel
theorem dX8_readsNumber_101 : decode cX8_readsNumber 101 = .ok (.iaload, 1) := by decide +kernel
theorem dX8_readsNumber_102 : decode cX8_readsNumber 102 = .ok (.iadd, 1) := by decide +kernel
theorem dX8_readsNumber_103 : decode cX8_readsNumber 103 = .ok (.bipush 48, 2) := by decide +kernel
theorem dX8_readsNumber_105 : decode cX8_readsNumber 105 = .ok (.isub, 1) := by decide +kernel
theorem dX8_readsNumber_106 : decode cX8_readsNumber 106 = .ok (.goto 7, 3) := by decide +kernel
theorem dX8_readsNumber_109 : decode cX8_readsNumber 109 = .ok (.aload_n 0, 1) := by decide +kernel
theorem dX8_readsNumber_110 : decode cX8_readsNumber 110 = .ok (.getfield 93, 3) := by decide +kernel
theorem dX8_readsNumber_113 : decode cX8_readsNumber 113 = .ok (.putfield 93, 3) := by decide +kernel
theorem dX8_readsNumber_116 : decode cX8_readsNumber 116 = .ok (.aload_n 0, 1) := by decide +kernel
theorem dX8_readsNumber_117 : decode cX8_readsNumber 117 = .ok (.getfield 93, 3) := by decide +kernel
theorem dX8_readsNumber_120 : decode cX8_readsNumber 120 = .ok (.i2l, 1) := by decide +kernel
theorem dX8_readsNumber_121 : decode cX8_readsNumber 121 = .ok (.iload_n 1, 1) := by decide +kernel
theorem dX8_readsNumber_122 : decode cX8_readsNumber 122 = .ok (.i2l, 1) := by decide +kernel
theorem dX8_readsNumber_123 : decode cX8_readsNumber 123 = .ok (.iload_n 2, 1) := by decide +kernel
theorem dX8_readsNumber_124 : decode cX8_readsNumber 124 = .ok (.i2l, 1) := by decide +kernel
theorem dX8_readsNumber_125 : decode cX8_readsNumber 125 = .ok (.invokestatic 42, 3) := by decide +kernel
theorem dX8_readsNumber_128 : decode cX8_readsNumber 128 = .ok (.ifCond .ne 9, 3) := by decide +kernel
theorem dX8_readsNumber_131 : decode cX8_readsNumber 131 = .ok (.aload_n 0, 1) := by decide +kernel
theorem dX8_readsNumber_132 : decode cX8_readsNumber 132 = .ok (.iconst 2, 1) := by decide +kernel
theorem dX8_readsNumber_133 : decode cX8_readsNumber 133 = .ok (.invokevirtual 87, 3) := by decide +kernel
theorem dX8_readsNumber_136 : decode cX8_readsNumber 136 = .ok (.ireturn, 1) := by decide +kernel
theorem dX8_readsNumber_137 : decode cX8_readsNumber 137 = .ok (.aload_n 0, 1) := by decide +kernel
theorem dX8_readsNumber_138 : decode cX8_readsNumber 138 = .ok (.dup, 1) := by decide +kernel
theorem dX8_readsNumber_139 : decode cX8_readsNumber 139 = .ok (.getfield 74, 3) := by decide +kernel
theorem dX8_readsNumber_142 : decode cX8_readsNumber 142 = .ok (.iload_n 3, 1) := by decide +kernel
theorem dX8_readsNumber_143 : decode cX8_readsNumber 143 = .ok (.iadd, 1) := by decide +kernel
theorem dX8_readsNumber_144 : decode cX8_readsNumber 144 = .ok (.putfield 74, 3) := by decide +kernel
theorem dX8_readsNumber_147 : decode cX8_readsNumber 147 = .ok (.iconst 1, 1) := by decide +kernel
theorem dX8_readsNumber_148 : decode cX8_readsNumber 148 = .ok (.ireturn, 1) := by decide +kernel
set_option maxRecDepth 20000 in
theorem ggX8_readsLaw_X8_sign : GoodIn wsX8_readsLaw wsX8_sign := goodIn_r _ [7, 8, 9, 10, 11, 6, 12, 13, 14, 15, 16, 17, 18, 19, 33, 34, 35, 36, 37, 38, 39, 40, 41, 42, 43, 44, 45, 46, 47, 48, 49] (by decide +kernel) (by decide +kernel)
set_option maxRecDepth 20000 in
theorem gX8_readsLaw_X8_sign : GoodIn wsX8_readsLaw (wsV RX8 96 RX8 yX8_sign wsX8_sign) := goodIn_app (goodIn_of _ (by decide +kernel)) ggX8_readsLaw_X8_sign
set_option maxRecDepth 20000 in
theorem ggX8_readsLaw_X8_readsNumber : GoodIn wsX8_readsLaw wsX8_readsNumber := goodIn_r _ [23, 8, 14, 2, 24, 25, 26, 6, 27, 13, 28, 29, 30, 31, 32, 15, 16, 17, 18, 19, 33, 34, 35, 36, 37, 38, 39, 40, 41, 42, 43, 44, 45, 46, 47, 48, 49] (by decide +kernel) (by decide +kernel)
set_option maxRecDepth 20000 in
theorem gX8_readsLaw_X8_readsNumber : GoodIn wsX8_readsLaw (wsV RX8 99 RX8 yX8_readsNumber wsX8_readsNumber) := goodIn_app (goodIn_of _ (by decide +kernel)) ggX8_readsLaw_X8_readsNumber
theorem dX8_readsLaw_0 : decode cX8_readsLaw 0 = .ok (.aload_n 0, 1) := by decide +kernel
theorem dX8_readsLaw_1 : decode cX8_readsLaw 1 = .ok (.bipush 100, 2) := by decide +kernel
theorem dX8_readsLaw_3 : decode cX8_readsLaw 3 = .ok (.invokevirtual 96, 3) := by decide +kernel
theorem dX8_readsLaw_6 : decode cX8_readsLaw 6 = .ok (.ifCond .eq 13, 3) := by decide +kernel
theorem dX8_readsLaw_9 : decode cX8_readsLaw 9 = .ok (.aload_n 0, 1) := by decide +kernel
theorem dX8_readsLaw_10 : decode cX8_readsLaw 10 = .ok (.iconst 1, 1) := by decide +kernel
theorem dX8_readsLaw_11 : decode cX8_readsLaw 11 = .ok (.bipush 9, 2) := by decide +kernel
theorem dX8_readsLaw_13 : decode cX8_readsLaw 13 = .ok (.invokevirtual 99, 3) := by decide +kernel
theorem dX8_readsLaw_16 : decode cX8_readsLaw 16 = .ok (.ifCond .ne 5, 3) := by decide +kernel
theorem dX8_readsLaw_19 : decode cX8_readsLaw 19 = .ok (.iconst 0, 1) := by decide +kernel
theorem dX8_readsLaw_20 : decode cX8_readsLaw 20 = .ok (.ireturn, 1) := by decide +kernel
theorem dX8_readsLaw_21 : decode cX8_readsLaw 21 = .ok (.aload_n 0, 1) := by decide +kernel
theorem dX8_readsLaw_22 : decode cX8_readsLaw 22 = .ok (.getfield 7, 3) := by decide +kernel
theorem dX8_readsLaw_25 : decode cX8_readsLaw 25 = .ok (.sipush 1323, 3) := by decide +kernel
theorem dX8_readsLaw_28 : decode cX8_readsLaw 28 = .ok (.aload_n 0, 1) := by decide +kernel
theorem dX8_readsLaw_29 : decode cX8_readsLaw 29 = .ok (.getfield 93, 3) := by decide +kernel
theorem dX8_readsLaw_32 : decode cX8_readsLaw 32 = .ok (.iastore, 1) := by decide +kernel
theorem dX8_readsLaw_33 : decode cX8_readsLaw 33 = .ok (.aload_n 0, 1) := by decide +kernel
theorem dX8_readsLaw_34 : decode cX8_readsLaw 34 = .ok (.bipush 59, 2) := by decide +kernel
theorem dX8_readsLaw_36 : decode cX8_readsLaw 36 = .ok (.invokevirtual 96, 3) := by decide +kernel
theorem dX8_readsLaw_39 : decode cX8_readsLaw 39 = .ok (.ireturn, 1) := by decide +kernel
set_option maxRecDepth 20000 in
theorem ggX8_readsStreet_X8_refuse : GoodIn wsX8_readsStreet wsX8_refuse := goodIn_r _ [8, 9, 33, 34, 35, 36, 37, 38, 39, 40, 41, 42, 43, 44, 45, 46, 47, 48, 49] (by decide +kernel) (by decide +kernel)
set_option maxRecDepth 20000 in
theorem gX8_readsStreet_X8_refuse : GoodIn wsX8_readsStreet (wsV RX8 87 RX8 yX8_refuse wsX8_refuse) := goodIn_app (goodIn_of _ (by decide +kernel)) ggX8_readsStreet_X8_refuse
set_option maxRecDepth 20000 in
theorem ggX8_readsStreet_X8_readsNumber : GoodIn wsX8_readsStreet wsX8_readsNumber := goodIn_r _ [13, 2, 14, 3, 15, 16, 17, 7, 18, 19, 20, 21, 22, 23, 24, 4, 5, 6, 8, 9, 33, 34, 35, 36, 37, 38, 39, 40, 41, 42, 43, 44, 45, 46, 47, 48, 49] (by decide +kernel) (by decide +kernel)
set_option maxRecDepth 20000 in
theorem gX8_readsStreet_X8_readsNumber : GoodIn wsX8_readsStreet (wsV RX8 99 RX8 yX8_readsNumber wsX8_readsNumber) := goodIn_app (goodIn_of _ (by decide +kernel)) ggX8_readsStreet_X8_readsNumber
set_option maxRecDepth 20000 in
theorem ggX8_readsStreet_X8_sign : GoodIn wsX8_readsStreet wsX8_sign := goodIn_r _ [28, 2, 29, 30, 31, 7, 32, 19, 14, 4, 5, 6, 8, 9, 33, 34, 35, 36, 37, 38, 39, 40, 41, 42, 43, 44, 45, 46, 47, 48, 49] (by decide +kernel) (by decide +kernel)
set_option maxRecDepth 20000 in
theorem gX8_readsStreet_X8_sign : GoodIn wsX8_readsStreet (wsV RX8 96 RX8 yX8_sign wsX8_sign) := goodIn_app (goodIn_of _ (by decide +kernel)) ggX8_readsStreet_X8_sign
theorem dX8_readsStreet_0 : decode cX8_readsStreet 0 = .ok (.aload_n 0, 1) := by decide +kernel
theorem dX8_readsStreet_1 : decode cX8_readsStreet 1 = .ok (.getfield 7, 3) := by decide +kernel
theorem dX8_readsStreet_4 : decode cX8_readsStreet 4 = .ok (.sipush 1324, 3) := by decide +kernel
theorem dX8_readsStreet_7 : decode cX8_readsStreet 7 = .ok (.iaload, 1) := by decide +kernel
theorem dX8_readsStreet_8 : decode cX8_readsStreet 8 = .ok (.istore_n 1, 1) := by decide +kernel
theorem dX8_readsStreet_9 : decode cX8_readsStreet 9 = .ok (.iload_n 1, 1) := by decide +kernel
theorem dX8_readsStreet_10 : decode cX8_readsStreet 10 = .ok (.bipush 7, 2) := by decide +kernel
theorem dX8_readsStreet_12 : decode cX8_readsStreet 12 = .ok (.if_icmp .ne 9, 3) := by decide +kernel
theorem dX8_readsStreet_15 : decode cX8_readsStreet 15 = .ok (.aload_n 0, 1) := by decide +kernel
theorem dX8_readsStreet_16 : decode cX8_readsStreet 16 = .ok (.iconst 3, 1) := by decide +kernel
theorem dX8_readsStreet_17 : decode cX8_readsStreet 17 = .ok (.invokevirtual 87, 3) := by decide +kernel
theorem dX8_readsStreet_20 : decode cX8_readsStreet 20 = .ok (.ireturn, 1) := by decide +kernel
theorem dX8_readsStreet_21 : decode cX8_readsStreet 21 = .ok (.aload_n 0, 1) := by decide +kernel
theorem dX8_readsStreet_22 : decode cX8_readsStreet 22 = .ok (.dup, 1) := by decide +kernel
theorem dX8_readsStreet_23 : decode cX8_readsStreet 23 = .ok (.getfield 74, 3) := by decide +kernel
theorem dX8_readsStreet_26 : decode cX8_readsStreet 26 = .ok (.iconst 1, 1) := by decide +kernel
theorem dX8_readsStreet_27 : decode cX8_readsStreet 27 = .ok (.iadd, 1) := by decide +kernel
theorem dX8_readsStreet_28 : decode cX8_readsStreet 28 = .ok (.putfield 74, 3) := by decide +kernel
theorem dX8_readsStreet_31 : decode cX8_readsStreet 31 = .ok (.aload_n 0, 1) := by decide +kernel
theorem dX8_readsStreet_32 : decode cX8_readsStreet 32 = .ok (.iconst 0, 1) := by decide +kernel
theorem dX8_readsStreet_33 : decode cX8_readsStreet 33 = .ok (.bipush 30, 2) := by decide +kernel
theorem dX8_readsStreet_35 : decode cX8_readsStreet 35 = .ok (.invokevirtual 99, 3) := by decide +kernel
theorem dX8_readsStreet_38 : decode cX8_readsStreet 38 = .ok (.ifCond .ne 5, 3) := by decide +kernel
theorem dX8_readsStreet_41 : decode cX8_readsStreet 41 = .ok (.iconst 0, 1) := by decide +kernel
theorem dX8_readsStreet_42 : decode cX8_readsStreet 42 = .ok (.ireturn, 1) := by decide +kernel
theorem dX8_readsStreet_43 : decode cX8_readsStreet 43 = .ok (.aload_n 0, 1) := by decide +kernel
theorem dX8_readsStreet_44 : decode cX8_readsStreet 44 = .ok (.getfield 7, 3) := by decide +kernel
theorem dX8_readsStreet_47 : decode cX8_readsStreet 47 = .ok (.sipush 1328, 3) := by decide +kernel
theorem dX8_readsStreet_50 : decode cX8_readsStreet 50 = .ok (.iload_n 1, 1) := by decide +kernel
theorem dX8_readsStreet_51 : decode cX8_readsStreet 51 = .ok (.iadd, 1) := by decide +kernel
theorem dX8_readsStreet_52 : decode cX8_readsStreet 52 = .ok (.aload_n 0, 1) := by decide +kernel
theorem dX8_readsStreet_53 : decode cX8_readsStreet 53 = .ok (.getfield 93, 3) := by decide +kernel
theorem dX8_readsStreet_56 : decode cX8_readsStreet 56 = .ok (.iastore, 1) := by decide +kernel
theorem dX8_readsStreet_57 : decode cX8_readsStreet 57 = .ok (.aload_n 0, 1) := by decide +kernel
theorem dX8_readsStreet_58 : decode cX8_readsStreet 58 = .ok (.bipush 44, 2) := by decide +kernel
theorem dX8_readsStreet_60 : decode cX8_readsStreet 60 = .ok (.invokevirtual 96, 3) := by decide +kernel
theorem dX8_readsStreet_63 : decode cX8_readsStreet 63 = .ok (.ifCond .eq 13, 3) := by decide +kernel
theorem dX8_readsStreet_66 : decode cX8_readsStreet 66 = .ok (.aload_n 0, 1) := by decide +kernel
theorem dX8_readsStreet_67 : decode cX8_readsStreet 67 = .ok (.iconst 0, 1) := by decide +kernel
theorem dX8_readsStreet_68 : decode cX8_readsStreet 68 = .ok (.bipush 9, 2) := by decide +kernel
theorem dX8_readsStreet_70 : decode cX8_readsStreet 70 = .ok (.invokevirtual 99, 3) := by decide +kernel
theorem dX8_readsStreet_73 : decode cX8_readsStreet 73 = .ok (.ifCond .ne 5, 3) := by decide +kernel
theorem dX8_readsStreet_76 : decode cX8_readsStreet 76 = .ok (.iconst 0, 1) := by decide +kernel
theorem dX8_readsStreet_77 : decode cX8_readsStreet 77 = .ok (.ireturn, 1) := by decide +kernel
theorem dX8_readsStreet_78 : decode cX8_readsStreet 78 = .ok (.aload_n 0, 1) := by decide +kernel
theorem dX8_readsStreet_79 : decode cX8_readsStreet 79 = .ok (.getfield 7, 3) := by decide +kernel
theorem dX8_readsStreet_82 : decode cX8_readsStreet 82 = .ok (.sipush 1335, 3) := by decide +kernel
theorem dX8_readsStreet_85 : decode cX8_readsStreet 85 = .ok (.iload_n 1, 1) := by decide +kernel
theorem dX8_readsStreet_86 : decode cX8_readsStreet 86 = .ok (.iadd, 1) := by decide +kernel
theorem dX8_readsStreet_87 : decode cX8_readsStreet 87 = .ok (.aload_n 0, 1) := by decide +kernel
theorem dX8_readsStreet_88 : decode cX8_readsStreet 88 = .ok (.getfield 93, 3) := by decide +kernel
theorem dX8_readsStreet_91 : decode cX8_readsStreet 91 = .ok (.iastore, 1) := by decide +kernel
theorem dX8_readsStreet_92 : decode cX8_readsStreet 92 = .ok (.aload_n 0, 1) := by decide +kernel
theorem dX8_readsStreet_93 : decode cX8_readsStreet 93 = .ok (.getfield 7, 3) := by decide +kernel
theorem dX8_readsStreet_96 : decode cX8_readsStreet 96 = .ok (.sipush 1324, 3) := by decide +kernel
theorem dX8_readsStreet_99 : decode cX8_readsStreet 99 = .ok (.dup2, 1) := by decide +kernel
theorem dX8_readsStreet_100 : decode cX8_readsStreet 100 = .ok (.iaload, 1) := by decide +kernel
theorem dX8_readsStreet_101 : decode cX8_readsStreet 101 = .ok (.iconst 1, 1) := by decide +kernel
theorem dX8_readsStreet_102 : decode cX8_readsStreet 102 = .ok (.iadd, 1) := by decide +kernel
theorem dX8_readsStreet_103 : decode cX8_readsStreet 103 = .ok (.iastore, 1) := by decide +kernel
theorem dX8_readsStreet_104 : decode cX8_readsStreet 104 = .ok (.aload_n 0, 1) := by decide +kernel
theorem dX8_readsStreet_105 : decode cX8_readsStreet 105 = .ok (.bipush 59, 2) := by decide +kernel
theorem dX8_readsStreet_107 : decode cX8_readsStreet 107 = .ok (.invokevirtual 96, 3) := by decide +kernel
theorem dX8_readsStreet_110 : decode cX8_readsStreet 110 = .ok (.ireturn, 1) := by decide +kernel
theorem dX8_kindOfLetter_0 : decode cX8_kindOfLetter 0 = .ok (.iload_n 0, 1) := by decide +kernel
theorem dX8_kindOfLetter_1 : decode cX8_kindOfLetter 1 = .ok (.bipush 119, 2) := by decide +kernel
theorem dX8_kindOfLetter_3 : decode cX8_kindOfLetter 3 = .ok (.if_icmp .ne 7, 3) := by decide +kernel
theorem dX8_kindOfLetter_6 : decode cX8_kindOfLetter 6 = .ok (.iconst 1, 1) := by decide +kernel
theorem dX8_kindOfLetter_7 : decode cX8_kindOfLetter 7 = .ok (.goto 44, 3) := by decide +kernel
theorem dX8_kindOfLetter_10 : decode cX8_kindOfLetter 10 = .ok (.iload_n 0, 1) := by decide +kernel
theorem dX8_kindOfLetter_11 : decode cX8_kindOfLetter 11 = .ok (.bipush 110, 2) := by decide +kernel
theorem dX8_kindOfLetter_13 : decode cX8_kindOfLetter 13 = .ok (.if_icmp .ne 7, 3) := by decide +kernel
theorem dX8_kindOfLetter_16 : decode cX8_kindOfLetter 16 = .ok (.iconst 2, 1) := by decide +kernel
theorem dX8_kindOfLetter_17 : decode cX8_kindOfLetter 17 = .ok (.goto 34, 3) := by decide +kernel
theorem dX8_kindOfLetter_20 : decode cX8_kindOfLetter 20 = .ok (.iload_n 0, 1) := by decide +kernel
theorem dX8_kindOfLetter_21 : decode cX8_kindOfLetter 21 = .ok (.bipush 98, 2) := by decide +kernel
theorem dX8_kindOfLetter_23 : decode cX8_kindOfLetter 23 = .ok (.if_icmp .ne 7, 3) := by decide +kernel
theorem dX8_kindOfLetter_26 : decode cX8_kindOfLetter 26 = .ok (.iconst 3, 1) := by decide +kernel
theorem dX8_kindOfLetter_27 : decode cX8_kindOfLetter 27 = .ok (.goto 24, 3) := by decide +kernel
theorem dX8_kindOfLetter_30 : decode cX8_kindOfLetter 30 = .ok (.iload_n 0, 1) := by decide +kernel
theorem dX8_kindOfLetter_31 : decode cX8_kindOfLetter 31 = .ok (.bipush 107, 2) := by decide +kernel
theorem dX8_kindOfLetter_33 : decode cX8_kindOfLetter 33 = .ok (.if_icmp .ne 7, 3) := by decide +kernel
theorem dX8_kindOfLetter_36 : decode cX8_kindOfLetter 36 = .ok (.iconst 4, 1) := by decide +kernel
theorem dX8_kindOfLetter_37 : decode cX8_kindOfLetter 37 = .ok (.goto 14, 3) := by decide +kernel
theorem dX8_kindOfLetter_40 : decode cX8_kindOfLetter 40 = .ok (.iload_n 0, 1) := by decide +kernel
theorem dX8_kindOfLetter_41 : decode cX8_kindOfLetter 41 = .ok (.bipush 115, 2) := by decide +kernel
theorem dX8_kindOfLetter_43 : decode cX8_kindOfLetter 43 = .ok (.if_icmp .ne 7, 3) := by decide +kernel
theorem dX8_kindOfLetter_46 : decode cX8_kindOfLetter 46 = .ok (.iconst 5, 1) := by decide +kernel
theorem dX8_kindOfLetter_47 : decode cX8_kindOfLetter 47 = .ok (.goto 4, 3) := by decide +kernel
theorem dX8_kindOfLetter_50 : decode cX8_kindOfLetter 50 = .ok (.iconst 0, 1) := by decide +kernel
theorem dX8_kindOfLetter_51 : decode cX8_kindOfLetter 51 = .ok (.ireturn, 1) := by decide +kernel
set_option maxRecDepth 20000 in
theorem ggX8_readsGesture_X8_refuse : GoodIn wsX8_readsGesture wsX8_refuse := goodIn_r _ [9, 10, 36, 37, 38, 39, 40, 41, 42, 43, 44, 45, 46, 47, 48, 49, 50, 51, 52] (by decide +kernel) (by decide +kernel)
set_option maxRecDepth 20000 in
theorem gX8_readsGesture_X8_refuse : GoodIn wsX8_readsGesture (wsV RX8 87 RX8 yX8_refuse wsX8_refuse) := goodIn_app (goodIn_of _ (by decide +kernel)) ggX8_readsGesture_X8_refuse
set_option maxRecDepth 20000 in
theorem ggX8_readsGesture_X8_kindOfLetter : GoodIn wsX8_readsGesture wsX8_kindOfLetter := goodIn_r _ [13] (by decide +kernel) (by decide +kernel)
set_option maxRecDepth 20000 in
theorem gX8_readsGesture_X8_kindOfLetter : GoodIn wsX8_readsGesture (va_wsS RX8 103 yX8_kindOfLetter wsX8_kindOfLetter) := goodIn_app (goodIn_of _ (by decide +kernel)) ggX8_readsGesture_X8_kindOfLetter
set_option maxRecDepth 20000 in
theorem ggX8_readsGesture_X8_readsNumber : GoodIn wsX8_readsGesture wsX8_readsNumber := goodIn_r _ [17, 3, 2, 4, 18, 19, 20, 8, 21, 22, 23, 24, 25, 26, 27, 5, 6, 7, 9, 10, 36, 37, 38, 39, 40, 41, 42, 43, 44, 45, 46, 47, 48, 49, 50, 51, 52] (by decide +kernel) (by decide +kernel)
set_option maxRecDepth 20000 in
theorem gX8_readsGesture_X8_readsNumber : GoodIn wsX8_readsGesture (wsV RX8 99 RX8 yX8_readsNumber wsX8_readsNumber) := goodIn_app (goodIn_of _ (by decide +kernel)) ggX8_readsGesture_X8_readsNumber
set_option maxRecDepth 20000 in
theorem ggX8_readsGesture_X8_sign : GoodIn wsX8_readsGesture wsX8_sign := goodIn_r _ [31, 3, 32, 33, 34, 8, 35, 22, 2, 5, 6, 7, 9, 10, 36, 37, 38, 39, 40, 41, 42, 43, 44, 45, 46, 47, 48, 49, 50, 51, 52] (by decide +kernel) (by decide +kernel)
set_option maxRecDepth 20000 in
theorem gX8_readsGesture_X8_sign : GoodIn wsX8_readsGesture (wsV RX8 96 RX8 yX8_sign wsX8_sign) := goodIn_app (goodIn_of _ (by decide +kernel)) ggX8_readsGesture_X8_sign
theorem dX8_readsGesture_0 : decode cX8_readsGesture 0 = .ok (.aload_n 0, 1) := by decide +kernel
theorem dX8_readsGesture_1 : decode cX8_readsGesture 1 = .ok (.getfield 7, 3) := by decide +kernel
theorem dX8_readsGesture_4 : decode cX8_readsGesture 4 = .ok (.sipush 1325, 3) := by decide +kernel
theorem dX8_readsGesture_7 : decode cX8_readsGesture 7 = .ok (.iaload, 1) := by decide +kernel
theorem dX8_readsGesture_8 : decode cX8_readsGesture 8 = .ok (.istore_n 1, 1) := by decide +kernel
theorem dX8_readsGesture_9 : decode cX8_readsGesture 9 = .ok (.iload_n 1, 1) := by decide +kernel
theorem dX8_readsGesture_10 : decode cX8_readsGesture 10 = .ok (.bipush 6, 2) := by decide +kernel
theorem dX8_readsGesture_12 : decode cX8_readsGesture 12 = .ok (.if_icmp .ne 9, 3) := by decide +kernel
theorem dX8_readsGesture_15 : decode cX8_readsGesture 15 = .ok (.aload_n 0, 1) := by decide +kernel
theorem dX8_readsGesture_16 : decode cX8_readsGesture 16 = .ok (.iconst 3, 1) := by decide +kernel
theorem dX8_readsGesture_17 : decode cX8_readsGesture 17 = .ok (.invokevirtual 87, 3) := by decide +kernel
theorem dX8_readsGesture_20 : decode cX8_readsGesture 20 = .ok (.ireturn, 1) := by decide +kernel
theorem dX8_readsGesture_21 : decode cX8_readsGesture 21 = .ok (.aload_n 0, 1) := by decide +kernel
theorem dX8_readsGesture_22 : decode cX8_readsGesture 22 = .ok (.getfield 7, 3) := by decide +kernel
theorem dX8_readsGesture_25 : decode cX8_readsGesture 25 = .ok (.sipush 1342, 3) := by decide +kernel
theorem dX8_readsGesture_28 : decode cX8_readsGesture 28 = .ok (.iload_n 1, 1) := by decide +kernel
theorem dX8_readsGesture_29 : decode cX8_readsGesture 29 = .ok (.iadd, 1) := by decide +kernel
theorem dX8_readsGesture_30 : decode cX8_readsGesture 30 = .ok (.aload_n 0, 1) := by decide +kernel
theorem dX8_readsGesture_31 : decode cX8_readsGesture 31 = .ok (.getfield 26, 3) := by decide +kernel
theorem dX8_readsGesture_34 : decode cX8_readsGesture 34 = .ok (.aload_n 0, 1) := by decide +kernel
theorem dX8_readsGesture_35 : decode cX8_readsGesture 35 = .ok (.getfield 74, 3) := by decide +kernel
theorem dX8_readsGesture_38 : decode cX8_readsGesture 38 = .ok (.iaload, 1) := by decide +kernel
theorem dX8_readsGesture_39 : decode cX8_readsGesture 39 = .ok (.invokestatic 103, 3) := by decide +kernel
theorem dX8_readsGesture_42 : decode cX8_readsGesture 42 = .ok (.iastore, 1) := by decide +kernel
theorem dX8_readsGesture_43 : decode cX8_readsGesture 43 = .ok (.aload_n 0, 1) := by decide +kernel
theorem dX8_readsGesture_44 : decode cX8_readsGesture 44 = .ok (.dup, 1) := by decide +kernel
theorem dX8_readsGesture_45 : decode cX8_readsGesture 45 = .ok (.getfield 74, 3) := by decide +kernel
theorem dX8_readsGesture_48 : decode cX8_readsGesture 48 = .ok (.iconst 1, 1) := by decide +kernel
theorem dX8_readsGesture_49 : decode cX8_readsGesture 49 = .ok (.iadd, 1) := by decide +kernel
theorem dX8_readsGesture_50 : decode cX8_readsGesture 50 = .ok (.putfield 74, 3) := by decide +kernel
theorem dX8_readsGesture_53 : decode cX8_readsGesture 53 = .ok (.aload_n 0, 1) := by decide +kernel
theorem dX8_readsGesture_54 : decode cX8_readsGesture 54 = .ok (.iconst 1, 1) := by decide +kernel
theorem dX8_readsGesture_55 : decode cX8_readsGesture 55 = .ok (.bipush 30, 2) := by decide +kernel
theorem dX8_readsGesture_57 : decode cX8_readsGesture 57 = .ok (.invokevirtual 99, 3) := by decide +kernel
theorem dX8_readsGesture_60 : decode cX8_readsGesture 60 = .ok (.ifCond .ne 5, 3) := by decide +kernel
theorem dX8_readsGesture_63 : decode cX8_readsGesture 63 = .ok (.iconst 0, 1) := by decide +kernel
theorem dX8_readsGesture_64 : decode cX8_readsGesture 64 = .ok (.ireturn, 1) := by decide +kernel
theorem dX8_readsGesture_65 : decode cX8_readsGesture 65 = .ok (.aload_n 0, 1) := by decide +kernel
theorem dX8_readsGesture_66 : decode cX8_readsGesture 66 = .ok (.getfield 7, 3) := by decide +kernel
theorem dX8_readsGesture_69 : decode cX8_readsGesture 69 = .ok (.sipush 1348, 3) := by decide +kernel
theorem dX8_readsGesture_72 : decode cX8_readsGesture 72 = .ok (.iload_n 1, 1) := by decide +kernel
theorem dX8_readsGesture_73 : decode cX8_readsGesture 73 = .ok (.iadd, 1) := by decide +kernel
theorem dX8_readsGesture_74 : decode cX8_readsGesture 74 = .ok (.aload_n 0, 1) := by decide +kernel
theorem dX8_readsGesture_75 : decode cX8_readsGesture 75 = .ok (.getfield 93, 3) := by decide +kernel
theorem dX8_readsGesture_78 : decode cX8_readsGesture 78 = .ok (.iastore, 1) := by decide +kernel
theorem dX8_readsGesture_79 : decode cX8_readsGesture 79 = .ok (.aload_n 0, 1) := by decide +kernel
theorem dX8_readsGesture_80 : decode cX8_readsGesture 80 = .ok (.bipush 44, 2) := by decide +kernel
theorem dX8_readsGesture_82 : decode cX8_readsGesture 82 = .ok (.invokevirtual 96, 3) := by decide +kernel
theorem dX8_readsGesture_85 : decode cX8_readsGesture 85 = .ok (.ifCond .eq 12, 3) := by decide +kernel
theorem dX8_readsGesture_88 : decode cX8_readsGesture 88 = .ok (.aload_n 0, 1) := by decide +kernel
theorem dX8_readsGesture_89 : decode cX8_readsGesture 89 = .ok (.iconst 0, 1) := by decide +kernel
theorem dX8_readsGesture_90 : decode cX8_readsGesture 90 = .ok (.iconst 3, 1) := by decide +kernel
theorem dX8_readsGesture_91 : decode cX8_readsGesture 91 = .ok (.invokevirtual 99, 3) := by decide +kernel
theorem dX8_readsGesture_94 : decode cX8_readsGesture 94 = .ok (.ifCond .ne 5, 3) := by decide +kernel
theorem dX8_readsGesture_97 : decode cX8_readsGesture 97 = .ok (.iconst 0, 1) := by decide +kernel
theorem dX8_readsGesture_98 : decode cX8_readsGesture 98 = .ok (.ireturn, 1) := by decide +kernel
theorem dX8_readsGesture_99 : decode cX8_readsGesture 99 = .ok (.aload_n 0, 1) := by decide +kernel
theorem dX8_readsGesture_100 : decode cX8_readsGesture 100 = .ok (.getfield 7, 3) := by decide +kernel
theorem dX8_readsGesture_103 : decode cX8_readsGesture 103 = .ok (.sipush 1354, 3) := by decide +kernel
theorem dX8_readsGesture_106 : decode cX8_readsGesture 106 = .ok (.iload_n 1, 1) := by decide +kernel
theorem dX8_readsGesture_107 : decode cX8_readsGesture 107 = .ok (.iadd, 1) := by decide +kernel
theorem dX8_readsGesture_108 : decode cX8_readsGesture 108 = .ok (.aload_n 0, 1) := by decide +kernel
theorem dX8_readsGesture_109 : decode cX8_readsGesture 109 = .ok (.getfield 93, 3) := by decide +kernel
theorem dX8_readsGesture_112 : decode cX8_readsGesture 112 = .ok (.iastore, 1) := by decide +kernel
theorem dX8_readsGesture_113 : decode cX8_readsGesture 113 = .ok (.aload_n 0, 1) := by decide +kernel
theorem dX8_readsGesture_114 : decode cX8_readsGesture 114 = .ok (.bipush 44, 2) := by decide +kernel
theorem dX8_readsGesture_116 : decode cX8_readsGesture 116 = .ok (.invokevirtual 96, 3) := by decide +kernel
theorem dX8_readsGesture_119 : decode cX8_readsGesture 119 = .ok (.ifCond .eq 13, 3) := by decide +kernel
theorem dX8_readsGesture_122 : decode cX8_readsGesture 122 = .ok (.aload_n 0, 1) := by decide +kernel
theorem dX8_readsGesture_123 : decode cX8_readsGesture 123 = .ok (.iconst 1, 1) := by decide +kernel
theorem dX8_readsGesture_124 : decode cX8_readsGesture 124 = .ok (.bipush 9, 2) := by decide +kernel
theorem dX8_readsGesture_126 : decode cX8_readsGesture 126 = .ok (.invokevirtual 99, 3) := by decide +kernel
theorem dX8_readsGesture_129 : decode cX8_readsGesture 129 = .ok (.ifCond .ne 5, 3) := by decide +kernel
theorem dX8_readsGesture_132 : decode cX8_readsGesture 132 = .ok (.iconst 0, 1) := by decide +kernel
theorem dX8_readsGesture_133 : decode cX8_readsGesture 133 = .ok (.ireturn, 1) := by decide +kernel
theorem dX8_readsGesture_134 : decode cX8_readsGesture 134 = .ok (.aload_n 0, 1) := by decide +kernel
theorem dX8_readsGesture_135 : decode cX8_readsGesture 135 = .ok (.getfield 7, 3) := by decide +kernel
theorem dX8_readsGesture_138 : decode cX8_readsGesture 138 = .ok (.sipush 1360, 3) := by decide +kernel
theorem dX8_readsGesture_141 : decode cX8_readsGesture 141 = .ok (.iload_n 1, 1) := by decide +kernel
theorem dX8_readsGesture_142 : decode cX8_readsGesture 142 = .ok (.iadd, 1) := by decide +kernel
theorem dX8_readsGesture_143 : decode cX8_readsGesture 143 = .ok (.aload_n 0, 1) := by decide +kernel
theorem dX8_readsGesture_144 : decode cX8_readsGesture 144 = .ok (.getfield 93, 3) := by decide +kernel
theorem dX8_readsGesture_147 : decode cX8_readsGesture 147 = .ok (.iastore, 1) := by decide +kernel
theorem dX8_readsGesture_148 : decode cX8_readsGesture 148 = .ok (.aload_n 0, 1) := by decide +kernel
theorem dX8_readsGesture_149 : decode cX8_readsGesture 149 = .ok (.getfield 7, 3) := by decide +kernel
theorem dX8_readsGesture_152 : decode cX8_readsGesture 152 = .ok (.sipush 1325, 3) := by decide +kernel
theorem dX8_readsGesture_155 : decode cX8_readsGesture 155 = .ok (.dup2, 1) := by decide +kernel
theorem dX8_readsGesture_156 : decode cX8_readsGesture 156 = .ok (.iaload, 1) := by decide +kernel
theorem dX8_readsGesture_157 : decode cX8_readsGesture 157 = .ok (.iconst 1, 1) := by decide +kernel
theorem dX8_readsGesture_158 : decode cX8_readsGesture 158 = .ok (.iadd, 1) := by decide +kernel
theorem dX8_readsGesture_159 : decode cX8_readsGesture 159 = .ok (.iastore, 1) := by decide +kernel
theorem dX8_readsGesture_160 : decode cX8_readsGesture 160 = .ok (.aload_n 0, 1) := by decide +kernel
theorem dX8_readsGesture_161 : decode cX8_readsGesture 161 = .ok (.bipush 59, 2) := by decide +kernel
theorem dX8_readsGesture_163 : decode cX8_readsGesture 163 = .ok (.invokevirtual 96, 3) := by decide +kernel
theorem dX8_readsGesture_166 : decode cX8_readsGesture 166 = .ok (.ireturn, 1) := by decide +kernel
set_option maxRecDepth 20000 in
theorem ggX8_reads_X8_readsLaw : GoodIn wsX8_reads wsX8_readsLaw := goodIn_r _ [9, 1, 10, 11, 12, 13, 8, 14, 2, 15, 16, 17, 18, 3, 4, 19, 20, 21, 22, 23, 24, 25, 26, 27, 28, 29, 30, 31, 32, 33, 34, 35, 36, 48, 49, 50, 51, 52, 53, 54, 55, 56, 57, 58, 59, 60, 61, 62, 63, 64] (by decide +kernel) (by decide +kernel)
set_option maxRecDepth 20000 in
theorem gX8_reads_X8_readsLaw : GoodIn wsX8_reads (wsV RX8 106 RX8 yX8_readsLaw wsX8_readsLaw) := goodIn_app (goodIn_of _ (by decide +kernel)) ggX8_reads_X8_readsLaw
set_option maxRecDepth 20000 in
theorem ggX8_reads_X8_isLetter : GoodIn wsX8_reads wsX8_isLetter := goodIn_r _ [18, 2, 3, 4, 48, 49, 50, 51, 52, 53, 54, 55, 56, 57, 58, 59, 60, 61, 62, 63, 64] (by decide +kernel) (by decide +kernel)
set_option maxRecDepth 20000 in
theorem gX8_reads_X8_isLetter : GoodIn wsX8_reads (wsV RX8 84 RX8 yX8_isLetter wsX8_isLetter) := goodIn_app (goodIn_of _ (by decide +kernel)) ggX8_reads_X8_isLetter
set_option maxRecDepth 20000 in
theorem ggX8_reads_X8_readsStreet : GoodIn wsX8_reads wsX8_readsStreet := goodIn_r _ [40, 1, 2, 10, 19, 20, 21, 8, 22, 23, 24, 25, 26, 27, 4, 28, 29, 30, 31, 3, 32, 33, 34, 35, 36, 11, 12, 13, 14, 15, 16, 17, 18, 48, 49, 50, 51, 52, 53, 54, 55, 56, 57, 58, 59, 60, 61, 62, 63, 64] (by decide +kernel) (by decide +kernel)
set_option maxRecDepth 20000 in
theorem gX8_reads_X8_readsStreet : GoodIn wsX8_reads (wsV RX8 110 RX8 yX8_readsStreet wsX8_readsStreet) := goodIn_app (goodIn_of _ (by decide +kernel)) ggX8_reads_X8_readsStreet
set_option maxRecDepth 20000 in
theorem ggX8_reads_X8_kindOfLetter : GoodIn wsX8_reads wsX8_kindOfLetter := goodIn_r _ [43] (by decide +kernel) (by decide +kernel)
set_option maxRecDepth 20000 in
theorem gX8_reads_X8_kindOfLetter : GoodIn wsX8_reads (va_wsS RX8 103 yX8_kindOfLetter wsX8_kindOfLetter) := goodIn_app (goodIn_of _ (by decide +kernel)) ggX8_reads_X8_kindOfLetter
set_option maxRecDepth 20000 in
theorem ggX8_reads_X8_readsGesture : GoodIn wsX8_reads wsX8_readsGesture := goodIn_r _ [47, 1, 4, 2, 10, 19, 20, 21, 8, 22, 23, 41, 42, 43, 24, 25, 26, 27, 28, 29, 30, 31, 3, 32, 33, 34, 35, 36, 11, 12, 13, 14, 15, 16, 17, 18, 48, 49, 50, 51, 52, 53, 54, 55, 56, 57, 58, 59, 60, 61, 62, 63, 64] (by decide +kernel) (by decide +kernel)
set_option maxRecDepth 20000 in
theorem gX8_reads_X8_readsGesture : GoodIn wsX8_reads (wsV RX8 113 RX8 yX8_readsGesture wsX8_readsGesture) := goodIn_app (goodIn_of _ (by decide +kernel)) ggX8_reads_X8_readsGesture
set_option maxRecDepth 20000 in
theorem ggX8_reads_X8_refuse : GoodIn wsX8_reads wsX8_refuse := goodIn_r _ [22, 23, 48, 49, 50, 51, 52, 53, 54, 55, 56, 57, 58, 59, 60, 61, 62, 63, 64] (by decide +kernel) (by decide +kernel)
set_option maxRecDepth 20000 in
theorem gX8_reads_X8_refuse : GoodIn wsX8_reads (wsV RX8 87 RX8 yX8_refuse wsX8_refuse) := goodIn_app (goodIn_of _ (by decide +kernel)) ggX8_reads_X8_refuse
theorem dX8_reads_0 : decode cX8_reads 0 = .ok (.iconst 0, 1) := by decide +kernel
theorem dX8_reads_1 : decode cX8_reads 1 = .ok (.istore_n 1, 1) := by decide +kernel
theorem dX8_reads_2 : decode cX8_reads 2 = .ok (.iload_n 1, 1) := by decide +kernel
theorem dX8_reads_3 : decode cX8_reads 3 = .ok (.bipush 49, 2) := by decide +kernel
theorem dX8_reads_5 : decode cX8_reads 5 = .ok (.if_icmp .ge 20, 3) := by decide +kernel
theorem dX8_reads_8 : decode cX8_reads 8 = .ok (.aload_n 0, 1) := by decide +kernel
theorem dX8_reads_9 : decode cX8_reads 9 = .ok (.getfield 7, 3) := by decide +kernel
theorem dX8_reads_12 : decode cX8_reads 12 = .ok (.sipush 1323, 3) := by decide +kernel
theorem dX8_reads_15 : decode cX8_reads 15 = .ok (.iload_n 1, 1) := by decide +kernel
theorem dX8_reads_16 : decode cX8_reads 16 = .ok (.iadd, 1) := by decide +kernel
theorem dX8_reads_17 : decode cX8_reads 17 = .ok (.iconst 0, 1) := by decide +kernel
theorem dX8_reads_18 : decode cX8_reads 18 = .ok (.iastore, 1) := by decide +kernel
theorem dX8_reads_19 : decode cX8_reads 19 = .ok (.iinc 1 1, 3) := by decide +kernel
theorem dX8_reads_22 : decode cX8_reads 22 = .ok (.goto (-20), 3) := by decide +kernel
theorem dX8_reads_25 : decode cX8_reads 25 = .ok (.aload_n 0, 1) := by decide +kernel
theorem dX8_reads_26 : decode cX8_reads 26 = .ok (.iconst 0, 1) := by decide +kernel
theorem dX8_reads_27 : decode cX8_reads 27 = .ok (.putfield 74, 3) := by decide +kernel
theorem dX8_reads_30 : decode cX8_reads 30 = .ok (.aload_n 0, 1) := by decide +kernel
theorem dX8_reads_31 : decode cX8_reads 31 = .ok (.invokevirtual 106, 3) := by decide +kernel
theorem dX8_reads_34 : decode cX8_reads 34 = .ok (.istore_n 1, 1) := by decide +kernel
theorem dX8_reads_35 : decode cX8_reads 35 = .ok (.iload_n 1, 1) := by decide +kernel
theorem dX8_reads_36 : decode cX8_reads 36 = .ok (.ifCond .eq 20, 3) := by decide +kernel
theorem dX8_reads_39 : decode cX8_reads 39 = .ok (.aload_n 0, 1) := by decide +kernel
theorem dX8_reads_40 : decode cX8_reads 40 = .ok (.bipush 114, 2) := by decide +kernel
theorem dX8_reads_42 : decode cX8_reads 42 = .ok (.invokevirtual 84, 3) := by decide +kernel
theorem dX8_reads_45 : decode cX8_reads 45 = .ok (.ifCond .eq 11, 3) := by decide +kernel
theorem dX8_reads_48 : decode cX8_reads 48 = .ok (.aload_n 0, 1) := by decide +kernel
theorem dX8_reads_49 : decode cX8_reads 49 = .ok (.invokevirtual 110, 3) := by decide +kernel
theorem dX8_reads_52 : decode cX8_reads 52 = .ok (.istore_n 1, 1) := by decide +kernel
theorem dX8_reads_53 : decode cX8_reads 53 = .ok (.goto (-18), 3) := by decide +kernel
theorem dX8_reads_56 : decode cX8_reads 56 = .ok (.iload_n 1, 1) := by decide +kernel
theorem dX8_reads_57 : decode cX8_reads 57 = .ok (.ifCond .eq 37, 3) := by decide +kernel
theorem dX8_reads_60 : decode cX8_reads 60 = .ok (.aload_n 0, 1) := by decide +kernel
theorem dX8_reads_61 : decode cX8_reads 61 = .ok (.getfield 74, 3) := by decide +kernel
theorem dX8_reads_64 : decode cX8_reads 64 = .ok (.aload_n 0, 1) := by decide +kernel
theorem dX8_reads_65 : decode cX8_reads 65 = .ok (.getfield 70, 3) := by decide +kernel
theorem dX8_reads_68 : decode cX8_reads 68 = .ok (.if_icmp .ge 26, 3) := by decide +kernel
theorem dX8_reads_71 : decode cX8_reads 71 = .ok (.aload_n 0, 1) := by decide +kernel
theorem dX8_reads_72 : decode cX8_reads 72 = .ok (.getfield 26, 3) := by decide +kernel
theorem dX8_reads_75 : decode cX8_reads 75 = .ok (.aload_n 0, 1) := by decide +kernel
theorem dX8_reads_76 : decode cX8_reads 76 = .ok (.getfield 74, 3) := by decide +kernel
theorem dX8_reads_79 : decode cX8_reads 79 = .ok (.iaload, 1) := by decide +kernel
theorem dX8_reads_80 : decode cX8_reads 80 = .ok (.invokestatic 103, 3) := by decide +kernel
theorem dX8_reads_83 : decode cX8_reads 83 = .ok (.ifCond .le 11, 3) := by decide +kernel
theorem dX8_reads_86 : decode cX8_reads 86 = .ok (.aload_n 0, 1) := by decide +kernel
theorem dX8_reads_87 : decode cX8_reads 87 = .ok (.invokevirtual 113, 3) := by decide +kernel
theorem dX8_reads_90 : decode cX8_reads 90 = .ok (.istore_n 1, 1) := by decide +kernel
theorem dX8_reads_91 : decode cX8_reads 91 = .ok (.goto (-35), 3) := by decide +kernel
theorem dX8_reads_94 : decode cX8_reads 94 = .ok (.iload_n 1, 1) := by decide +kernel
theorem dX8_reads_95 : decode cX8_reads 95 = .ok (.ifCond .eq 26, 3) := by decide +kernel
theorem dX8_reads_98 : decode cX8_reads 98 = .ok (.aload_n 0, 1) := by decide +kernel
theorem dX8_reads_99 : decode cX8_reads 99 = .ok (.getfield 74, 3) := by decide +kernel
theorem dX8_reads_102 : decode cX8_reads 102 = .ok (.aload_n 0, 1) := by decide +kernel
theorem dX8_reads_103 : decode cX8_reads 103 = .ok (.getfield 70, 3) := by decide +kernel
theorem dX8_reads_106 : decode cX8_reads 106 = .ok (.if_icmp .eq 11, 3) := by decide +kernel
theorem dX8_reads_109 : decode cX8_reads 109 = .ok (.aload_n 0, 1) := by decide +kernel
theorem dX8_reads_110 : decode cX8_reads 110 = .ok (.iconst 1, 1) := by decide +kernel
theorem dX8_reads_111 : decode cX8_reads 111 = .ok (.invokevirtual 87, 3) := by decide +kernel
theorem dX8_reads_114 : decode cX8_reads 114 = .ok (.ifCond .eq 7, 3) := by decide +kernel
theorem dX8_reads_117 : decode cX8_reads 117 = .ok (.iconst 1, 1) := by decide +kernel
theorem dX8_reads_118 : decode cX8_reads 118 = .ok (.goto 4, 3) := by decide +kernel
theorem dX8_reads_121 : decode cX8_reads 121 = .ok (.iconst 0, 1) := by decide +kernel
theorem dX8_reads_122 : decode cX8_reads 122 = .ok (.ireturn, 1) := by decide +kernel
set_option maxRecDepth 20000 in
theorem ggX8_city_X8_reads : GoodIn wsX8_city wsX8_reads := goodIn_r _ [13, 8, 5, 1, 14, 15, 16, 17, 12, 18, 19, 20, 21, 22, 23, 24, 25, 26, 27, 28, 29, 30, 31, 2, 32, 33, 34, 35, 36, 37, 38, 39, 40, 41, 42, 43, 44, 45, 46, 47, 48, 49, 50, 51, 52, 53, 54, 55, 60, 61, 62, 63, 64, 65, 66, 67, 68, 69, 70, 71, 72, 73, 74, 75, 76] (by decide +kernel) (by decide +kernel)
set_option maxRecDepth 20000 in
theorem gX8_city_X8_reads : GoodIn wsX8_city (wsV RX8 116 RX8 yX8_reads wsX8_reads) := goodIn_app (goodIn_of _ (by decide +kernel)) ggX8_city_X8_reads
set_option maxRecDepth 20000 in
theorem ggX8_city_X8_copyTown : GoodIn wsX8_city wsX8_copyTown := goodIn_r _ [59, 8, 60, 61, 62, 63, 64, 65, 66, 67, 68, 69, 70, 71, 72, 73, 74, 75, 76] (by decide +kernel) (by decide +kernel)
set_option maxRecDepth 20000 in
theorem gX8_city_X8_copyTown : GoodIn wsX8_city (wsV RX8 123 RX8 yX8_copyTown wsX8_copyTown) := goodIn_app (goodIn_of _ (by decide +kernel)) ggX8_city_X8_copyTown
theorem dX8_city_0 : decode cX8_city 0 = .ok (.aload_n 0, 1) := by decide +kernel
theorem dX8_city_1 : decode cX8_city 1 = .ok (.invokevirtual 116, 3) := by decide +kernel
theorem dX8_city_4 : decode cX8_city 4 = .ok (.istore_n 1, 1) := by decide +kernel
theorem dX8_city_5 : decode cX8_city 5 = .ok (.aload_n 0, 1) := by decide +kernel
theorem dX8_city_6 : decode cX8_city 6 = .ok (.iconst 0, 1) := by decide +kernel
theorem dX8_city_7 : decode cX8_city 7 = .ok (.putfield 70, 3) := by decide +kernel
theorem dX8_city_10 : decode cX8_city 10 = .ok (.iload_n 1, 1) := by decide +kernel
theorem dX8_city_11 : decode cX8_city 11 = .ok (.ifCond .ne 19, 3) := by decide +kernel
theorem dX8_city_14 : decode cX8_city 14 = .ok (.aload_n 0, 1) := by decide +kernel
theorem dX8_city_15 : decode cX8_city 15 = .ok (.aload_n 0, 1) := by decide +kernel
theorem dX8_city_16 : decode cX8_city 16 = .ok (.getfield 81, 3) := by decide +kernel
theorem dX8_city_19 : decode cX8_city 19 = .ok (.putfield 119, 3) := by decide +kernel
theorem dX8_city_22 : decode cX8_city 22 = .ok (.ldc 122, 2) := by decide +kernel
theorem dX8_city_24 : decode cX8_city 24 = .ok (.aload_n 0, 1) := by decide +kernel
theorem dX8_city_25 : decode cX8_city 25 = .ok (.getfield 74, 3) := by decide +kernel
theorem dX8_city_28 : decode cX8_city 28 = .ok (.isub, 1) := by decide +kernel
theorem dX8_city_29 : decode cX8_city 29 = .ok (.ireturn, 1) := by decide +kernel
theorem dX8_city_30 : decode cX8_city 30 = .ok (.aload_n 0, 1) := by decide +kernel
theorem dX8_city_31 : decode cX8_city 31 = .ok (.sipush 1323, 3) := by decide +kernel
theorem dX8_city_34 : decode cX8_city 34 = .ok (.iconst 0, 1) := by decide +kernel
theorem dX8_city_35 : decode cX8_city 35 = .ok (.invokevirtual 123, 3) := by decide +kernel
theorem dX8_city_38 : decode cX8_city 38 = .ok (.aload_n 0, 1) := by decide +kernel
theorem dX8_city_39 : decode cX8_city 39 = .ok (.iconst 1, 1) := by decide +kernel
theorem dX8_city_40 : decode cX8_city 40 = .ok (.putfield 127, 3) := by decide +kernel
theorem dX8_city_43 : decode cX8_city 43 = .ok (.aload_n 0, 1) := by decide +kernel
theorem dX8_city_44 : decode cX8_city 44 = .ok (.iconst 0, 1) := by decide +kernel
theorem dX8_city_45 : decode cX8_city 45 = .ok (.putfield 131, 3) := by decide +kernel
theorem dX8_city_48 : decode cX8_city 48 = .ok (.aload_n 0, 1) := by decide +kernel
theorem dX8_city_49 : decode cX8_city 49 = .ok (.getfield 7, 3) := by decide +kernel
theorem dX8_city_52 : decode cX8_city 52 = .ok (.iconst 2, 1) := by decide +kernel
theorem dX8_city_53 : decode cX8_city 53 = .ok (.iaload, 1) := by decide +kernel
theorem dX8_city_54 : decode cX8_city 54 = .ok (.ireturn, 1) := by decide +kernel
theorem dX8_fault_0 : decode cX8_fault 0 = .ok (.aload_n 0, 1) := by decide +kernel
theorem dX8_fault_1 : decode cX8_fault 1 = .ok (.getfield 119, 3) := by decide +kernel
theorem dX8_fault_4 : decode cX8_fault 4 = .ok (.ireturn, 1) := by decide +kernel
theorem dX8_copyTown_0 : decode cX8_copyTown 0 = .ok (.iconst 0, 1) := by decide +kernel
theorem dX8_copyTown_1 : decode cX8_copyTown 1 = .ok (.istore_n 3, 1) := by decide +kernel
theorem dX8_copyTown_2 : decode cX8_copyTown 2 = .ok (.iload_n 3, 1) := by decide +kernel
theorem dX8_copyTown_3 : decode cX8_copyTown 3 = .ok (.bipush 49, 2) := by decide +kernel
theorem dX8_copyTown_5 : decode cX8_copyTown 5 = .ok (.if_icmp .ge 25, 3) := by decide +kernel
theorem dX8_copyTown_8 : decode cX8_copyTown 8 = .ok (.aload_n 0, 1) := by decide +kernel
theorem dX8_copyTown_9 : decode cX8_copyTown 9 = .ok (.getfield 7, 3) := by decide +kernel
theorem dX8_copyTown_12 : decode cX8_copyTown 12 = .ok (.iload_n 2, 1) := by decide +kernel
theorem dX8_copyTown_13 : decode cX8_copyTown 13 = .ok (.iload_n 3, 1) := by decide +kernel
theorem dX8_copyTown_14 : decode cX8_copyTown 14 = .ok (.iadd, 1) := by decide +kernel
theorem dX8_copyTown_15 : decode cX8_copyTown 15 = .ok (.aload_n 0, 1) := by decide +kernel
theorem dX8_copyTown_16 : decode cX8_copyTown 16 = .ok (.getfield 7, 3) := by decide +kernel
theorem dX8_copyTown_19 : decode cX8_copyTown 19 = .ok (.iload_n 1, 1) := by decide +kernel
theorem dX8_copyTown_20 : decode cX8_copyTown 20 = .ok (.iload_n 3, 1) := by decide +kernel
theorem dX8_copyTown_21 : decode cX8_copyTown 21 = .ok (.iadd, 1) := by decide +kernel
theorem dX8_copyTown_22 : decode cX8_copyTown 22 = .ok (.iaload, 1) := by decide +kernel
theorem dX8_copyTown_23 : decode cX8_copyTown 23 = .ok (.iastore, 1) := by decide +kernel
theorem dX8_copyTown_24 : decode cX8_copyTown 24 = .ok (.iinc 3 1, 3) := by decide +kernel
theorem dX8_copyTown_27 : decode cX8_copyTown 27 = .ok (.goto (-25), 3) := by decide +kernel
theorem dX8_copyTown_30 : decode cX8_copyTown 30 = .ok (.return_, 1) := by decide +kernel
set_option maxRecDepth 20000 in
theorem ggX8_keepPast_X8_copyTown : GoodIn wsX8_keepPast wsX8_copyTown := goodIn_r _ [7, 2, 8, 9, 10, 11, 12, 13, 14, 15, 16, 17, 18, 19, 20, 21, 22, 23, 24] (by decide +kernel) (by decide +kernel)
set_option maxRecDepth 20000 in
theorem gX8_keepPast_X8_copyTown : GoodIn wsX8_keepPast (wsV RX8 123 RX8 yX8_copyTown wsX8_copyTown) := goodIn_app (goodIn_of _ (by decide +kernel)) ggX8_keepPast_X8_copyTown
theorem dX8_keepPast_0 : decode cX8_keepPast 0 = .ok (.iconst 0, 1) := by decide +kernel
theorem dX8_keepPast_1 : decode cX8_keepPast 1 = .ok (.istore_n 1, 1) := by decide +kernel
theorem dX8_keepPast_2 : decode cX8_keepPast 2 = .ok (.iload_n 1, 1) := by decide +kernel
theorem dX8_keepPast_3 : decode cX8_keepPast 3 = .ok (.sipush 1127, 3) := by decide +kernel
theorem dX8_keepPast_6 : decode cX8_keepPast 6 = .ok (.if_icmp .ge 36, 3) := by decide +kernel
theorem dX8_keepPast_9 : decode cX8_keepPast 9 = .ok (.aload_n 0, 1) := by decide +kernel
theorem dX8_keepPast_10 : decode cX8_keepPast 10 = .ok (.getfield 131, 3) := by decide +kernel
theorem dX8_keepPast_13 : decode cX8_keepPast 13 = .ok (.bipush 24, 2) := by decide +kernel
theorem dX8_keepPast_15 : decode cX8_keepPast 15 = .ok (.if_icmp .ne 27, 3) := by decide +kernel
theorem dX8_keepPast_18 : decode cX8_keepPast 18 = .ok (.aload_n 0, 1) := by decide +kernel
theorem dX8_keepPast_19 : decode cX8_keepPast 19 = .ok (.getfield 7, 3) := by decide +kernel
theorem dX8_keepPast_22 : decode cX8_keepPast 22 = .ok (.bipush 49, 2) := by decide +kernel
theorem dX8_keepPast_24 : decode cX8_keepPast 24 = .ok (.iload_n 1, 1) := by decide +kernel
theorem dX8_keepPast_25 : decode cX8_keepPast 25 = .ok (.iadd, 1) := by decide +kernel
theorem dX8_keepPast_26 : decode cX8_keepPast 26 = .ok (.aload_n 0, 1) := by decide +kernel
theorem dX8_keepPast_27 : decode cX8_keepPast 27 = .ok (.getfield 7, 3) := by decide +kernel
theorem dX8_keepPast_30 : decode cX8_keepPast 30 = .ok (.bipush 98, 2) := by decide +kernel
theorem dX8_keepPast_32 : decode cX8_keepPast 32 = .ok (.iload_n 1, 1) := by decide +kernel
theorem dX8_keepPast_33 : decode cX8_keepPast 33 = .ok (.iadd, 1) := by decide +kernel
theorem dX8_keepPast_34 : decode cX8_keepPast 34 = .ok (.iaload, 1) := by decide +kernel
theorem dX8_keepPast_35 : decode cX8_keepPast 35 = .ok (.iastore, 1) := by decide +kernel
theorem dX8_keepPast_36 : decode cX8_keepPast 36 = .ok (.iinc 1 1, 3) := by decide +kernel
theorem dX8_keepPast_39 : decode cX8_keepPast 39 = .ok (.goto (-37), 3) := by decide +kernel
theorem dX8_keepPast_42 : decode cX8_keepPast 42 = .ok (.aload_n 0, 1) := by decide +kernel
theorem dX8_keepPast_43 : decode cX8_keepPast 43 = .ok (.dup, 1) := by decide +kernel
theorem dX8_keepPast_44 : decode cX8_keepPast 44 = .ok (.getfield 131, 3) := by decide +kernel
theorem dX8_keepPast_47 : decode cX8_keepPast 47 = .ok (.aload_n 0, 1) := by decide +kernel
theorem dX8_keepPast_48 : decode cX8_keepPast 48 = .ok (.getfield 131, 3) := by decide +kernel
theorem dX8_keepPast_51 : decode cX8_keepPast 51 = .ok (.bipush 24, 2) := by decide +kernel
theorem dX8_keepPast_53 : decode cX8_keepPast 53 = .ok (.if_icmp .ne 7, 3) := by decide +kernel
theorem dX8_keepPast_56 : decode cX8_keepPast 56 = .ok (.iconst 1, 1) := by decide +kernel
theorem dX8_keepPast_57 : decode cX8_keepPast 57 = .ok (.goto 4, 3) := by decide +kernel
theorem dX8_keepPast_60 : decode cX8_keepPast 60 = .ok (.iconst 0, 1) := by decide +kernel
theorem dX8_keepPast_61 : decode cX8_keepPast 61 = .ok (.isub, 1) := by decide +kernel
theorem dX8_keepPast_62 : decode cX8_keepPast 62 = .ok (.putfield 131, 3) := by decide +kernel
theorem dX8_keepPast_65 : decode cX8_keepPast 65 = .ok (.aload_n 0, 1) := by decide +kernel
theorem dX8_keepPast_66 : decode cX8_keepPast 66 = .ok (.iconst 0, 1) := by decide +kernel
theorem dX8_keepPast_67 : decode cX8_keepPast 67 = .ok (.bipush 49, 2) := by decide +kernel
theorem dX8_keepPast_69 : decode cX8_keepPast 69 = .ok (.bipush 49, 2) := by decide +kernel
theorem dX8_keepPast_71 : decode cX8_keepPast 71 = .ok (.aload_n 0, 1) := by decide +kernel
theorem dX8_keepPast_72 : decode cX8_keepPast 72 = .ok (.getfield 131, 3) := by decide +kernel
theorem dX8_keepPast_75 : decode cX8_keepPast 75 = .ok (.imul, 1) := by decide +kernel
theorem dX8_keepPast_76 : decode cX8_keepPast 76 = .ok (.iadd, 1) := by decide +kernel
theorem dX8_keepPast_77 : decode cX8_keepPast 77 = .ok (.invokevirtual 123, 3) := by decide +kernel
theorem dX8_keepPast_80 : decode cX8_keepPast 80 = .ok (.aload_n 0, 1) := by decide +kernel
theorem dX8_keepPast_81 : decode cX8_keepPast 81 = .ok (.dup, 1) := by decide +kernel
theorem dX8_keepPast_82 : decode cX8_keepPast 82 = .ok (.getfield 131, 3) := by decide +kernel
theorem dX8_keepPast_85 : decode cX8_keepPast 85 = .ok (.iconst 1, 1) := by decide +kernel
theorem dX8_keepPast_86 : decode cX8_keepPast 86 = .ok (.iadd, 1) := by decide +kernel
theorem dX8_keepPast_87 : decode cX8_keepPast 87 = .ok (.putfield 131, 3) := by decide +kernel
theorem dX8_keepPast_90 : decode cX8_keepPast 90 = .ok (.return_, 1) := by decide +kernel
set_option maxRecDepth 20000 in
theorem ggX8_undo_X8_copyTown : GoodIn wsX8_undo wsX8_copyTown := goodIn_r _ [7, 8, 9, 10, 11, 12, 13, 14, 15, 16, 17, 18, 19, 20, 21, 22, 23, 24, 25] (by decide +kernel) (by decide +kernel)
set_option maxRecDepth 20000 in
theorem gX8_undo_X8_copyTown : GoodIn wsX8_undo (wsV RX8 123 RX8 yX8_copyTown wsX8_copyTown) := goodIn_app (goodIn_of _ (by decide +kernel)) ggX8_undo_X8_copyTown
theorem dX8_undo_0 : decode cX8_undo 0 = .ok (.aload_n 0, 1) := by decide +kernel
theorem dX8_undo_1 : decode cX8_undo 1 = .ok (.getfield 131, 3) := by decide +kernel
theorem dX8_undo_4 : decode cX8_undo 4 = .ok (.ifCond .ne 6, 3) := by decide +kernel
theorem dX8_undo_7 : decode cX8_undo 7 = .ok (.ldc 134, 2) := by decide +kernel
theorem dX8_undo_9 : decode cX8_undo 9 = .ok (.ireturn, 1) := by decide +kernel
theorem dX8_undo_10 : decode cX8_undo 10 = .ok (.aload_n 0, 1) := by decide +kernel
theorem dX8_undo_11 : decode cX8_undo 11 = .ok (.dup, 1) := by decide +kernel
theorem dX8_undo_12 : decode cX8_undo 12 = .ok (.getfield 131, 3) := by decide +kernel
theorem dX8_undo_15 : decode cX8_undo 15 = .ok (.iconst 1, 1) := by decide +kernel
theorem dX8_undo_16 : decode cX8_undo 16 = .ok (.isub, 1) := by decide +kernel
theorem dX8_undo_17 : decode cX8_undo 17 = .ok (.putfield 131, 3) := by decide +kernel
theorem dX8_undo_20 : decode cX8_undo 20 = .ok (.aload_n 0, 1) := by decide +kernel
theorem dX8_undo_21 : decode cX8_undo 21 = .ok (.bipush 49, 2) := by decide +kernel
theorem dX8_undo_23 : decode cX8_undo 23 = .ok (.bipush 49, 2) := by decide +kernel
theorem dX8_undo_25 : decode cX8_undo 25 = .ok (.aload_n 0, 1) := by decide +kernel
theorem dX8_undo_26 : decode cX8_undo 26 = .ok (.getfield 131, 3) := by decide +kernel
theorem dX8_undo_29 : decode cX8_undo 29 = .ok (.imul, 1) := by decide +kernel
theorem dX8_undo_30 : decode cX8_undo 30 = .ok (.iadd, 1) := by decide +kernel
theorem dX8_undo_31 : decode cX8_undo 31 = .ok (.iconst 0, 1) := by decide +kernel
theorem dX8_undo_32 : decode cX8_undo 32 = .ok (.invokevirtual 123, 3) := by decide +kernel
theorem dX8_undo_35 : decode cX8_undo 35 = .ok (.aload_n 0, 1) := by decide +kernel
theorem dX8_undo_36 : decode cX8_undo 36 = .ok (.getfield 131, 3) := by decide +kernel
theorem dX8_undo_39 : decode cX8_undo 39 = .ok (.ireturn, 1) := by decide +kernel
set_option maxRecDepth 20000 in
theorem ggX8_isGesture_X8_in : GoodIn wsX8_isGesture wsX8_in := goodIn_r _ [5] (by decide +kernel) (by decide +kernel)
set_option maxRecDepth 20000 in
theorem gX8_isGesture_X8_in : GoodIn wsX8_isGesture (va_wsS RX8 42 yX8_in wsX8_in) := goodIn_app (goodIn_of _ (by decide +kernel)) ggX8_isGesture_X8_in
theorem dX8_isGesture_0 : decode cX8_isGesture 0 = .ok (.iload_n 1, 1) := by decide +kernel
theorem dX8_isGesture_1 : decode cX8_isGesture 1 = .ok (.i2l, 1) := by decide +kernel
theorem dX8_isGesture_2 : decode cX8_isGesture 2 = .ok (.lconst 0, 1) := by decide +kernel
theorem dX8_isGesture_3 : decode cX8_isGesture 3 = .ok (.aload_n 0, 1) := by decide +kernel
theorem dX8_isGesture_4 : decode cX8_isGesture 4 = .ok (.getfield 7, 3) := by decide +kernel
theorem dX8_isGesture_7 : decode cX8_isGesture 7 = .ok (.iconst 2, 1) := by decide +kernel
theorem dX8_isGesture_8 : decode cX8_isGesture 8 = .ok (.iaload, 1) := by decide +kernel
theorem dX8_isGesture_9 : decode cX8_isGesture 9 = .ok (.iconst 1, 1) := by decide +kernel
theorem dX8_isGesture_10 : decode cX8_isGesture 10 = .ok (.isub, 1) := by decide +kernel
theorem dX8_isGesture_11 : decode cX8_isGesture 11 = .ok (.i2l, 1) := by decide +kernel
theorem dX8_isGesture_12 : decode cX8_isGesture 12 = .ok (.invokestatic 42, 3) := by decide +kernel
theorem dX8_isGesture_15 : decode cX8_isGesture 15 = .ok (.ireturn, 1) := by decide +kernel
set_option maxRecDepth 20000 in
theorem ggX8_isStreet_X8_in : GoodIn wsX8_isStreet wsX8_in := goodIn_r _ [5] (by decide +kernel) (by decide +kernel)
set_option maxRecDepth 20000 in
theorem gX8_isStreet_X8_in : GoodIn wsX8_isStreet (va_wsS RX8 42 yX8_in wsX8_in) := goodIn_app (goodIn_of _ (by decide +kernel)) ggX8_isStreet_X8_in
theorem dX8_isStreet_0 : decode cX8_isStreet 0 = .ok (.iload_n 1, 1) := by decide +kernel
end
section
theorem dX8_isStreet_1 : decode cX8_isStreet 1 = .ok (.i2l, 1) := by decide +kernel
theorem dX8_isStreet_2 : decode cX8_isStreet 2 = .ok (.lconst 0, 1) := by decide +kernel
theorem dX8_isStreet_3 : decode cX8_isStreet 3 = .ok (.aload_n 0, 1) := by decide +kernel
theorem dX8_isStreet_4 : decode cX8_isStreet 4 = .ok (.getfield 7, 3) := by decide +kernel
theorem dX8_isStreet_7 : decode cX8_isStreet 7 = .ok (.iconst 1, 1) := by decide +kernel
theorem dX8_isStreet_8 : decode cX8_isStreet 8 = .ok (.iaload, 1) := by decide +kernel
theorem dX8_isStreet_9 : decode cX8_isStreet 9 = .ok (.iconst 1, 1) := by decide +kernel
theorem dX8_isStreet_10 : decode cX8_isStreet 10 = .ok (.isub, 1) := by decide +kernel
theorem dX8_isStreet_11 : decode cX8_isStreet 11 = .ok (.i2l, 1) := by decide +kernel
theorem dX8_isStreet_12 : decode cX8_isStreet 12 = .ok (.invokestatic 42, 3) := by decide +kernel
theorem dX8_isStreet_15 : decode cX8_isStreet 15 = .ok (.ireturn, 1) := by decide +kernel
theorem dX8_wave_0 : decode cX8_wave 0 = .ok (.iload_n 1, 1) := by decide +kernel
theorem dX8_wave_1 : decode cX8_wave 1 = .ok (.aload_n 0, 1) := by decide +kernel
theorem dX8_wave_2 : decode cX8_wave 2 = .ok (.getfield 7, 3) := by decide +kernel
theorem dX8_wave_5 : decode cX8_wave 5 = .ok (.iconst 0, 1) := by decide +kernel
theorem dX8_wave_6 : decode cX8_wave 6 = .ok (.iaload, 1) := by decide +kernel
theorem dX8_wave_7 : decode cX8_wave 7 = .ok (.imul, 1) := by decide +kernel
theorem dX8_wave_8 : decode cX8_wave 8 = .ok (.iload_n 1, 1) := by decide +kernel
theorem dX8_wave_9 : decode cX8_wave 9 = .ok (.aload_n 0, 1) := by decide +kernel
theorem dX8_wave_10 : decode cX8_wave 10 = .ok (.getfield 7, 3) := by decide +kernel
theorem dX8_wave_13 : decode cX8_wave 13 = .ok (.bipush 12, 2) := by decide +kernel
theorem dX8_wave_15 : decode cX8_wave 15 = .ok (.iload_n 2, 1) := by decide +kernel
theorem dX8_wave_16 : decode cX8_wave 16 = .ok (.iadd, 1) := by decide +kernel
theorem dX8_wave_17 : decode cX8_wave 17 = .ok (.iaload, 1) := by decide +kernel
theorem dX8_wave_18 : decode cX8_wave 18 = .ok (.imul, 1) := by decide +kernel
theorem dX8_wave_19 : decode cX8_wave 19 = .ok (.bipush 10, 2) := by decide +kernel
theorem dX8_wave_21 : decode cX8_wave 21 = .ok (.idiv, 1) := by decide +kernel
theorem dX8_wave_22 : decode cX8_wave 22 = .ok (.iadd, 1) := by decide +kernel
theorem dX8_wave_23 : decode cX8_wave 23 = .ok (.ireturn, 1) := by decide +kernel
set_option maxRecDepth 20000 in
theorem ggX8_plainDuty_X8_wave : GoodIn wsX8_plainDuty wsX8_wave := goodIn_r _ [6, 1, 7, 8, 9, 10, 11, 12, 13, 14, 15, 16, 17, 18, 19, 20, 21, 22, 23] (by decide +kernel) (by decide +kernel)
set_option maxRecDepth 20000 in
theorem gX8_plainDuty_X8_wave : GoodIn wsX8_plainDuty (wsV RX8 135 RX8 yX8_wave wsX8_wave) := goodIn_app (goodIn_of _ (by decide +kernel)) ggX8_plainDuty_X8_wave
theorem dX8_plainDuty_0 : decode cX8_plainDuty 0 = .ok (.iload_n 1, 1) := by decide +kernel
theorem dX8_plainDuty_1 : decode cX8_plainDuty 1 = .ok (.tableswitch 95 2 5 #[31, 40, 69, 71], 31) := by decide +kernel
theorem dX8_plainDuty_32 : decode cX8_plainDuty 32 = .ok (.aload_n 0, 1) := by decide +kernel
theorem dX8_plainDuty_33 : decode cX8_plainDuty 33 = .ok (.iload_n 2, 1) := by decide +kernel
theorem dX8_plainDuty_34 : decode cX8_plainDuty 34 = .ok (.iload_n 3, 1) := by decide +kernel
theorem dX8_plainDuty_35 : decode cX8_plainDuty 35 = .ok (.invokevirtual 135, 3) := by decide +kernel
theorem dX8_plainDuty_38 : decode cX8_plainDuty 38 = .ok (.iconst 2, 1) := by decide +kernel
theorem dX8_plainDuty_39 : decode cX8_plainDuty 39 = .ok (.idiv, 1) := by decide +kernel
theorem dX8_plainDuty_40 : decode cX8_plainDuty 40 = .ok (.ireturn, 1) := by decide +kernel
theorem dX8_plainDuty_41 : decode cX8_plainDuty 41 = .ok (.aload_n 0, 1) := by decide +kernel
theorem dX8_plainDuty_42 : decode cX8_plainDuty 42 = .ok (.iload_n 2, 1) := by decide +kernel
theorem dX8_plainDuty_43 : decode cX8_plainDuty 43 = .ok (.iload_n 3, 1) := by decide +kernel
theorem dX8_plainDuty_44 : decode cX8_plainDuty 44 = .ok (.invokevirtual 135, 3) := by decide +kernel
theorem dX8_plainDuty_47 : decode cX8_plainDuty 47 = .ok (.iload_n 2, 1) := by decide +kernel
theorem dX8_plainDuty_48 : decode cX8_plainDuty 48 = .ok (.bipush 10, 2) := by decide +kernel
theorem dX8_plainDuty_50 : decode cX8_plainDuty 50 = .ok (.if_icmp .le 17, 3) := by decide +kernel
theorem dX8_plainDuty_53 : decode cX8_plainDuty 53 = .ok (.aload_n 0, 1) := by decide +kernel
theorem dX8_plainDuty_54 : decode cX8_plainDuty 54 = .ok (.getfield 7, 3) := by decide +kernel
theorem dX8_plainDuty_57 : decode cX8_plainDuty 57 = .ok (.iconst 0, 1) := by decide +kernel
theorem dX8_plainDuty_58 : decode cX8_plainDuty 58 = .ok (.iaload, 1) := by decide +kernel
theorem dX8_plainDuty_59 : decode cX8_plainDuty 59 = .ok (.iload_n 2, 1) := by decide +kernel
theorem dX8_plainDuty_60 : decode cX8_plainDuty 60 = .ok (.bipush 10, 2) := by decide +kernel
theorem dX8_plainDuty_62 : decode cX8_plainDuty 62 = .ok (.isub, 1) := by decide +kernel
theorem dX8_plainDuty_63 : decode cX8_plainDuty 63 = .ok (.imul, 1) := by decide +kernel
theorem dX8_plainDuty_64 : decode cX8_plainDuty 64 = .ok (.goto 4, 3) := by decide +kernel
theorem dX8_plainDuty_67 : decode cX8_plainDuty 67 = .ok (.iconst 0, 1) := by decide +kernel
theorem dX8_plainDuty_68 : decode cX8_plainDuty 68 = .ok (.iadd, 1) := by decide +kernel
theorem dX8_plainDuty_69 : decode cX8_plainDuty 69 = .ok (.ireturn, 1) := by decide +kernel
theorem dX8_plainDuty_70 : decode cX8_plainDuty 70 = .ok (.iconst 1, 1) := by decide +kernel
theorem dX8_plainDuty_71 : decode cX8_plainDuty 71 = .ok (.ireturn, 1) := by decide +kernel
theorem dX8_plainDuty_72 : decode cX8_plainDuty 72 = .ok (.aload_n 0, 1) := by decide +kernel
theorem dX8_plainDuty_73 : decode cX8_plainDuty 73 = .ok (.getfield 7, 3) := by decide +kernel
theorem dX8_plainDuty_76 : decode cX8_plainDuty 76 = .ok (.bipush 12, 2) := by decide +kernel
theorem dX8_plainDuty_78 : decode cX8_plainDuty 78 = .ok (.iload_n 3, 1) := by decide +kernel
theorem dX8_plainDuty_79 : decode cX8_plainDuty 79 = .ok (.iadd, 1) := by decide +kernel
theorem dX8_plainDuty_80 : decode cX8_plainDuty 80 = .ok (.iaload, 1) := by decide +kernel
theorem dX8_plainDuty_81 : decode cX8_plainDuty 81 = .ok (.iconst 5, 1) := by decide +kernel
theorem dX8_plainDuty_82 : decode cX8_plainDuty 82 = .ok (.if_icmp .ge 7, 3) := by decide +kernel
theorem dX8_plainDuty_85 : decode cX8_plainDuty 85 = .ok (.iconst 1, 1) := by decide +kernel
theorem dX8_plainDuty_86 : decode cX8_plainDuty 86 = .ok (.goto 9, 3) := by decide +kernel
theorem dX8_plainDuty_89 : decode cX8_plainDuty 89 = .ok (.aload_n 0, 1) := by decide +kernel
theorem dX8_plainDuty_90 : decode cX8_plainDuty 90 = .ok (.iload_n 2, 1) := by decide +kernel
theorem dX8_plainDuty_91 : decode cX8_plainDuty 91 = .ok (.iload_n 3, 1) := by decide +kernel
theorem dX8_plainDuty_92 : decode cX8_plainDuty 92 = .ok (.invokevirtual 135, 3) := by decide +kernel
theorem dX8_plainDuty_95 : decode cX8_plainDuty 95 = .ok (.ireturn, 1) := by decide +kernel
theorem dX8_plainDuty_96 : decode cX8_plainDuty 96 = .ok (.aload_n 0, 1) := by decide +kernel
theorem dX8_plainDuty_97 : decode cX8_plainDuty 97 = .ok (.iload_n 2, 1) := by decide +kernel
theorem dX8_plainDuty_98 : decode cX8_plainDuty 98 = .ok (.iload_n 3, 1) := by decide +kernel
theorem dX8_plainDuty_99 : decode cX8_plainDuty 99 = .ok (.invokevirtual 135, 3) := by decide +kernel
theorem dX8_plainDuty_102 : decode cX8_plainDuty 102 = .ok (.ireturn, 1) := by decide +kernel
set_option maxRecDepth 20000 in
theorem ggX8_owes_X8_plainDuty : GoodIn wsX8_owes wsX8_plainDuty := goodIn_r _ [6, 1, 7, 8, 9, 5, 10, 14, 15, 16, 17, 18, 19, 20, 21, 22, 23, 24, 25, 26, 27, 28, 29, 30] (by decide +kernel) (by decide +kernel)
set_option maxRecDepth 20000 in
theorem gX8_owes_X8_plainDuty : GoodIn wsX8_owes (wsV RX8 138 RX8 yX8_plainDuty wsX8_plainDuty) := goodIn_app (goodIn_of _ (by decide +kernel)) ggX8_owes_X8_plainDuty
set_option maxRecDepth 20000 in
theorem ggX8_owes_X8_has : GoodIn wsX8_owes wsX8_has := goodIn_r _ [13] (by decide +kernel) (by decide +kernel)
set_option maxRecDepth 20000 in
theorem gX8_owes_X8_has : GoodIn wsX8_owes (va_wsS RX8 142 yX8_has wsX8_has) := goodIn_app (goodIn_of _ (by decide +kernel)) ggX8_owes_X8_has
theorem dX8_owes_0 : decode cX8_owes 0 = .ok (.aload_n 0, 1) := by decide +kernel
theorem dX8_owes_1 : decode cX8_owes 1 = .ok (.iload_n 1, 1) := by decide +kernel
theorem dX8_owes_2 : decode cX8_owes 2 = .ok (.iload_n 2, 1) := by decide +kernel
theorem dX8_owes_3 : decode cX8_owes 3 = .ok (.iload_n 3, 1) := by decide +kernel
theorem dX8_owes_4 : decode cX8_owes 4 = .ok (.invokevirtual 138, 3) := by decide +kernel
theorem dX8_owes_7 : decode cX8_owes 7 = .ok (.istore 4, 2) := by decide +kernel
theorem dX8_owes_9 : decode cX8_owes 9 = .ok (.aload_n 0, 1) := by decide +kernel
theorem dX8_owes_10 : decode cX8_owes 10 = .ok (.getfield 7, 3) := by decide +kernel
theorem dX8_owes_13 : decode cX8_owes 13 = .ok (.iconst 4, 1) := by decide +kernel
theorem dX8_owes_14 : decode cX8_owes 14 = .ok (.iaload, 1) := by decide +kernel
theorem dX8_owes_15 : decode cX8_owes 15 = .ok (.iload_n 3, 1) := by decide +kernel
theorem dX8_owes_16 : decode cX8_owes 16 = .ok (.invokestatic 142, 3) := by decide +kernel
theorem dX8_owes_19 : decode cX8_owes 19 = .ok (.ifCond .eq 10, 3) := by decide +kernel
theorem dX8_owes_22 : decode cX8_owes 22 = .ok (.iload 4, 2) := by decide +kernel
theorem dX8_owes_24 : decode cX8_owes 24 = .ok (.iconst 2, 1) := by decide +kernel
theorem dX8_owes_25 : decode cX8_owes 25 = .ok (.idiv, 1) := by decide +kernel
theorem dX8_owes_26 : decode cX8_owes 26 = .ok (.goto 5, 3) := by decide +kernel
theorem dX8_owes_29 : decode cX8_owes 29 = .ok (.iload 4, 2) := by decide +kernel
theorem dX8_owes_31 : decode cX8_owes 31 = .ok (.ireturn, 1) := by decide +kernel
set_option maxRecDepth 20000 in
theorem ggX8_dutyOf_X8_owes : GoodIn wsX8_dutyOf wsX8_owes := goodIn_r _ [6, 1, 7, 8, 9, 5, 10, 11, 12, 13, 14, 15, 16, 17, 18, 19, 20, 21, 22, 23, 24, 25, 26, 27, 28, 29, 30, 31, 32, 33, 34] (by decide +kernel) (by decide +kernel)
set_option maxRecDepth 20000 in
theorem gX8_dutyOf_X8_owes : GoodIn wsX8_dutyOf (wsV RX8 145 RX8 yX8_owes wsX8_owes) := goodIn_app (goodIn_of _ (by decide +kernel)) ggX8_dutyOf_X8_owes
theorem dX8_dutyOf_0 : decode cX8_dutyOf 0 = .ok (.aload_n 0, 1) := by decide +kernel
theorem dX8_dutyOf_1 : decode cX8_dutyOf 1 = .ok (.aload_n 0, 1) := by decide +kernel
theorem dX8_dutyOf_2 : decode cX8_dutyOf 2 = .ok (.getfield 7, 3) := by decide +kernel
theorem dX8_dutyOf_5 : decode cX8_dutyOf 5 = .ok (.bipush 19, 2) := by decide +kernel
theorem dX8_dutyOf_7 : decode cX8_dutyOf 7 = .ok (.iload_n 1, 1) := by decide +kernel
theorem dX8_dutyOf_8 : decode cX8_dutyOf 8 = .ok (.iadd, 1) := by decide +kernel
theorem dX8_dutyOf_9 : decode cX8_dutyOf 9 = .ok (.iaload, 1) := by decide +kernel
theorem dX8_dutyOf_10 : decode cX8_dutyOf 10 = .ok (.aload_n 0, 1) := by decide +kernel
theorem dX8_dutyOf_11 : decode cX8_dutyOf 11 = .ok (.getfield 7, 3) := by decide +kernel
theorem dX8_dutyOf_14 : decode cX8_dutyOf 14 = .ok (.bipush 25, 2) := by decide +kernel
theorem dX8_dutyOf_16 : decode cX8_dutyOf 16 = .ok (.iload_n 1, 1) := by decide +kernel
theorem dX8_dutyOf_17 : decode cX8_dutyOf 17 = .ok (.iadd, 1) := by decide +kernel
theorem dX8_dutyOf_18 : decode cX8_dutyOf 18 = .ok (.iaload, 1) := by decide +kernel
theorem dX8_dutyOf_19 : decode cX8_dutyOf 19 = .ok (.iload_n 2, 1) := by decide +kernel
theorem dX8_dutyOf_20 : decode cX8_dutyOf 20 = .ok (.invokevirtual 145, 3) := by decide +kernel
theorem dX8_dutyOf_23 : decode cX8_dutyOf 23 = .ok (.ireturn, 1) := by decide +kernel
theorem dX8_isSeen_0 : decode cX8_isSeen 0 = .ok (.aload_n 0, 1) := by decide +kernel
theorem dX8_isSeen_1 : decode cX8_isSeen 1 = .ok (.getfield 7, 3) := by decide +kernel
theorem dX8_isSeen_4 : decode cX8_isSeen 4 = .ok (.bipush 19, 2) := by decide +kernel
theorem dX8_isSeen_6 : decode cX8_isSeen 6 = .ok (.iload_n 1, 1) := by decide +kernel
theorem dX8_isSeen_7 : decode cX8_isSeen 7 = .ok (.iadd, 1) := by decide +kernel
theorem dX8_isSeen_8 : decode cX8_isSeen 8 = .ok (.iaload, 1) := by decide +kernel
theorem dX8_isSeen_9 : decode cX8_isSeen 9 = .ok (.iconst 3, 1) := by decide +kernel
theorem dX8_isSeen_10 : decode cX8_isSeen 10 = .ok (.if_icmp .le 7, 3) := by decide +kernel
theorem dX8_isSeen_13 : decode cX8_isSeen 13 = .ok (.iconst 5, 1) := by decide +kernel
theorem dX8_isSeen_14 : decode cX8_isSeen 14 = .ok (.goto 4, 3) := by decide +kernel
theorem dX8_isSeen_17 : decode cX8_isSeen 17 = .ok (.iconst 0, 1) := by decide +kernel
theorem dX8_isSeen_18 : decode cX8_isSeen 18 = .ok (.istore_n 3, 1) := by decide +kernel
theorem dX8_isSeen_19 : decode cX8_isSeen 19 = .ok (.aload_n 0, 1) := by decide +kernel
theorem dX8_isSeen_20 : decode cX8_isSeen 20 = .ok (.getfield 7, 3) := by decide +kernel
theorem dX8_isSeen_23 : decode cX8_isSeen 23 = .ok (.bipush 25, 2) := by decide +kernel
theorem dX8_isSeen_25 : decode cX8_isSeen 25 = .ok (.iload_n 1, 1) := by decide +kernel
theorem dX8_isSeen_26 : decode cX8_isSeen 26 = .ok (.iadd, 1) := by decide +kernel
theorem dX8_isSeen_27 : decode cX8_isSeen 27 = .ok (.iaload, 1) := by decide +kernel
theorem dX8_isSeen_28 : decode cX8_isSeen 28 = .ok (.iload_n 3, 1) := by decide +kernel
theorem dX8_isSeen_29 : decode cX8_isSeen 29 = .ok (.iadd, 1) := by decide +kernel
theorem dX8_isSeen_30 : decode cX8_isSeen 30 = .ok (.aload_n 0, 1) := by decide +kernel
theorem dX8_isSeen_31 : decode cX8_isSeen 31 = .ok (.getfield 7, 3) := by decide +kernel
theorem dX8_isSeen_34 : decode cX8_isSeen 34 = .ok (.iconst 5, 1) := by decide +kernel
theorem dX8_isSeen_35 : decode cX8_isSeen 35 = .ok (.iload_n 2, 1) := by decide +kernel
theorem dX8_isSeen_36 : decode cX8_isSeen 36 = .ok (.iadd, 1) := by decide +kernel
theorem dX8_isSeen_37 : decode cX8_isSeen 37 = .ok (.iaload, 1) := by decide +kernel
theorem dX8_isSeen_38 : decode cX8_isSeen 38 = .ok (.if_icmp .lt 7, 3) := by decide +kernel
theorem dX8_isSeen_41 : decode cX8_isSeen 41 = .ok (.iconst 1, 1) := by decide +kernel
theorem dX8_isSeen_42 : decode cX8_isSeen 42 = .ok (.goto 4, 3) := by decide +kernel
theorem dX8_isSeen_45 : decode cX8_isSeen 45 = .ok (.iconst 0, 1) := by decide +kernel
theorem dX8_isSeen_46 : decode cX8_isSeen 46 = .ok (.ireturn, 1) := by decide +kernel
set_option maxRecDepth 20000 in
theorem ggX8_make_X8_isGesture : GoodIn wsX8_make wsX8_isGesture := goodIn_r _ [10, 3, 11, 12, 9, 13, 50, 51, 52, 53, 54, 55, 56, 57, 58, 59, 60, 61, 62, 63, 64, 65, 66] (by decide +kernel) (by decide +kernel)
set_option maxRecDepth 20000 in
theorem gX8_make_X8_isGesture : GoodIn wsX8_make (wsV RX8 148 RX8 yX8_isGesture wsX8_isGesture) := goodIn_app (goodIn_of _ (by decide +kernel)) ggX8_make_X8_isGesture
set_option maxRecDepth 20000 in
theorem ggX8_make_X8_isStreet : GoodIn wsX8_make wsX8_isStreet := goodIn_r _ [17, 3, 11, 12, 9, 13, 50, 51, 52, 53, 54, 55, 56, 57, 58, 59, 60, 61, 62, 63, 64, 65, 66] (by decide +kernel) (by decide +kernel)
set_option maxRecDepth 20000 in
theorem gX8_make_X8_isStreet : GoodIn wsX8_make (wsV RX8 151 RX8 yX8_isStreet wsX8_isStreet) := goodIn_app (goodIn_of _ (by decide +kernel)) ggX8_make_X8_isStreet
set_option maxRecDepth 20000 in
theorem ggX8_make_X8_isSeen : GoodIn wsX8_make wsX8_isSeen := goodIn_r _ [21, 3, 50, 51, 52, 53, 54, 55, 56, 57, 58, 59, 60, 61, 62, 63, 64, 65, 66] (by decide +kernel) (by decide +kernel)
set_option maxRecDepth 20000 in
theorem gX8_make_X8_isSeen : GoodIn wsX8_make (wsV RX8 154 RX8 yX8_isSeen wsX8_isSeen) := goodIn_app (goodIn_of _ (by decide +kernel)) ggX8_make_X8_isSeen
set_option maxRecDepth 20000 in
theorem ggX8_make_X8_dutyOf : GoodIn wsX8_make wsX8_dutyOf := goodIn_r _ [25, 3, 26, 27, 28, 9, 29, 30, 31, 32, 33, 34, 35, 36, 37, 38, 39, 40, 50, 51, 52, 53, 54, 55, 56, 57, 58, 59, 60, 61, 62, 63, 64, 65, 66] (by decide +kernel) (by decide +kernel)
set_option maxRecDepth 20000 in
theorem gX8_make_X8_dutyOf : GoodIn wsX8_make (wsV RX8 157 RX8 yX8_dutyOf wsX8_dutyOf) := goodIn_app (goodIn_of _ (by decide +kernel)) ggX8_make_X8_dutyOf
set_option maxRecDepth 20000 in
theorem ggX8_make_X8_keepPast : GoodIn wsX8_make wsX8_keepPast := goodIn_r _ [44, 45, 3, 46, 47, 48, 9, 49, 50, 51, 52, 53, 54, 55, 56, 57, 58, 59, 60, 61, 62, 63, 64, 65, 66] (by decide +kernel) (by decide +kernel)
set_option maxRecDepth 20000 in
theorem gX8_make_X8_keepPast : GoodIn wsX8_make (wsV RX8 161 RX8 yX8_keepPast wsX8_keepPast) := goodIn_app (goodIn_of _ (by decide +kernel)) ggX8_make_X8_keepPast
theorem dX8_make_0 : decode cX8_make 0 = .ok (.aload_n 0, 1) := by decide +kernel
theorem dX8_make_1 : decode cX8_make 1 = .ok (.iload_n 1, 1) := by decide +kernel
theorem dX8_make_2 : decode cX8_make 2 = .ok (.invokevirtual 148, 3) := by decide +kernel
theorem dX8_make_5 : decode cX8_make 5 = .ok (.ifCond .eq 11, 3) := by decide +kernel
theorem dX8_make_8 : decode cX8_make 8 = .ok (.aload_n 0, 1) := by decide +kernel
theorem dX8_make_9 : decode cX8_make 9 = .ok (.iload_n 2, 1) := by decide +kernel
theorem dX8_make_10 : decode cX8_make 10 = .ok (.invokevirtual 151, 3) := by decide +kernel
theorem dX8_make_13 : decode cX8_make 13 = .ok (.ifCond .ne 6, 3) := by decide +kernel
theorem dX8_make_16 : decode cX8_make 16 = .ok (.ldc 52, 2) := by decide +kernel
theorem dX8_make_18 : decode cX8_make 18 = .ok (.ireturn, 1) := by decide +kernel
theorem dX8_make_19 : decode cX8_make 19 = .ok (.aload_n 0, 1) := by decide +kernel
theorem dX8_make_20 : decode cX8_make 20 = .ok (.iload_n 1, 1) := by decide +kernel
theorem dX8_make_21 : decode cX8_make 21 = .ok (.iload_n 2, 1) := by decide +kernel
theorem dX8_make_22 : decode cX8_make 22 = .ok (.invokevirtual 154, 3) := by decide +kernel
theorem dX8_make_25 : decode cX8_make 25 = .ok (.ifCond .ne 6, 3) := by decide +kernel
theorem dX8_make_28 : decode cX8_make 28 = .ok (.ldc 134, 2) := by decide +kernel
theorem dX8_make_30 : decode cX8_make 30 = .ok (.ireturn, 1) := by decide +kernel
theorem dX8_make_31 : decode cX8_make 31 = .ok (.aload_n 0, 1) := by decide +kernel
theorem dX8_make_32 : decode cX8_make 32 = .ok (.getfield 7, 3) := by decide +kernel
theorem dX8_make_35 : decode cX8_make 35 = .ok (.iconst 3, 1) := by decide +kernel
theorem dX8_make_36 : decode cX8_make 36 = .ok (.iaload, 1) := by decide +kernel
theorem dX8_make_37 : decode cX8_make 37 = .ok (.aload_n 0, 1) := by decide +kernel
theorem dX8_make_38 : decode cX8_make 38 = .ok (.iload_n 1, 1) := by decide +kernel
theorem dX8_make_39 : decode cX8_make 39 = .ok (.iload_n 2, 1) := by decide +kernel
theorem dX8_make_40 : decode cX8_make 40 = .ok (.invokevirtual 157, 3) := by decide +kernel
theorem dX8_make_43 : decode cX8_make 43 = .ok (.iadd, 1) := by decide +kernel
theorem dX8_make_44 : decode cX8_make 44 = .ok (.istore_n 3, 1) := by decide +kernel
theorem dX8_make_45 : decode cX8_make 45 = .ok (.iload_n 3, 1) := by decide +kernel
theorem dX8_make_46 : decode cX8_make 46 = .ok (.ldc 160, 2) := by decide +kernel
theorem dX8_make_48 : decode cX8_make 48 = .ok (.if_icmp .le 6, 3) := by decide +kernel
theorem dX8_make_51 : decode cX8_make 51 = .ok (.ldc 73, 2) := by decide +kernel
theorem dX8_make_53 : decode cX8_make 53 = .ok (.ireturn, 1) := by decide +kernel
theorem dX8_make_54 : decode cX8_make 54 = .ok (.aload_n 0, 1) := by decide +kernel
theorem dX8_make_55 : decode cX8_make 55 = .ok (.invokevirtual 161, 3) := by decide +kernel
theorem dX8_make_58 : decode cX8_make 58 = .ok (.aload_n 0, 1) := by decide +kernel
theorem dX8_make_59 : decode cX8_make 59 = .ok (.getfield 7, 3) := by decide +kernel
theorem dX8_make_62 : decode cX8_make 62 = .ok (.iconst 3, 1) := by decide +kernel
theorem dX8_make_63 : decode cX8_make 63 = .ok (.iload_n 3, 1) := by decide +kernel
theorem dX8_make_64 : decode cX8_make 64 = .ok (.iastore, 1) := by decide +kernel
theorem dX8_make_65 : decode cX8_make 65 = .ok (.aload_n 0, 1) := by decide +kernel
theorem dX8_make_66 : decode cX8_make 66 = .ok (.getfield 7, 3) := by decide +kernel
theorem dX8_make_69 : decode cX8_make 69 = .ok (.bipush 43, 2) := by decide +kernel
theorem dX8_make_71 : decode cX8_make 71 = .ok (.iload_n 1, 1) := by decide +kernel
theorem dX8_make_72 : decode cX8_make 72 = .ok (.iadd, 1) := by decide +kernel
theorem dX8_make_73 : decode cX8_make 73 = .ok (.dup2, 1) := by decide +kernel
theorem dX8_make_74 : decode cX8_make 74 = .ok (.iaload, 1) := by decide +kernel
theorem dX8_make_75 : decode cX8_make 75 = .ok (.iconst 1, 1) := by decide +kernel
theorem dX8_make_76 : decode cX8_make 76 = .ok (.iadd, 1) := by decide +kernel
theorem dX8_make_77 : decode cX8_make 77 = .ok (.iastore, 1) := by decide +kernel
theorem dX8_make_78 : decode cX8_make 78 = .ok (.iload_n 3, 1) := by decide +kernel
theorem dX8_make_79 : decode cX8_make 79 = .ok (.ireturn, 1) := by decide +kernel
set_option maxRecDepth 20000 in
theorem ggX8_dim_X8_isStreet : GoodIn wsX8_dim wsX8_isStreet := goodIn_r _ [8, 3, 9, 10, 7, 11, 21, 22, 23, 24, 25, 26, 27, 28, 29, 30, 31, 32, 33, 34, 35, 36, 37] (by decide +kernel) (by decide +kernel)
set_option maxRecDepth 20000 in
theorem gX8_dim_X8_isStreet : GoodIn wsX8_dim (wsV RX8 151 RX8 yX8_isStreet wsX8_isStreet) := goodIn_app (goodIn_of _ (by decide +kernel)) ggX8_dim_X8_isStreet
set_option maxRecDepth 20000 in
theorem ggX8_dim_X8_in : GoodIn wsX8_dim wsX8_in := goodIn_r _ [11] (by decide +kernel) (by decide +kernel)
set_option maxRecDepth 20000 in
theorem gX8_dim_X8_in : GoodIn wsX8_dim (va_wsS RX8 42 yX8_in wsX8_in) := goodIn_app (goodIn_of _ (by decide +kernel)) ggX8_dim_X8_in
set_option maxRecDepth 20000 in
theorem ggX8_dim_X8_keepPast : GoodIn wsX8_dim wsX8_keepPast := goodIn_r _ [15, 16, 3, 17, 18, 19, 7, 20, 21, 22, 23, 24, 25, 26, 27, 28, 29, 30, 31, 32, 33, 34, 35, 36, 37] (by decide +kernel) (by decide +kernel)
set_option maxRecDepth 20000 in
theorem gX8_dim_X8_keepPast : GoodIn wsX8_dim (wsV RX8 161 RX8 yX8_keepPast wsX8_keepPast) := goodIn_app (goodIn_of _ (by decide +kernel)) ggX8_dim_X8_keepPast
theorem dX8_dim_0 : decode cX8_dim 0 = .ok (.aload_n 0, 1) := by decide +kernel
theorem dX8_dim_1 : decode cX8_dim 1 = .ok (.iload_n 1, 1) := by decide +kernel
theorem dX8_dim_2 : decode cX8_dim 2 = .ok (.invokevirtual 151, 3) := by decide +kernel
theorem dX8_dim_5 : decode cX8_dim 5 = .ok (.ifCond .eq 15, 3) := by decide +kernel
theorem dX8_dim_8 : decode cX8_dim 8 = .ok (.iload_n 2, 1) := by decide +kernel
theorem dX8_dim_9 : decode cX8_dim 9 = .ok (.i2l, 1) := by decide +kernel
theorem dX8_dim_10 : decode cX8_dim 10 = .ok (.lconst 0, 1) := by decide +kernel
theorem dX8_dim_11 : decode cX8_dim 11 = .ok (.ldc2_w 164, 3) := by decide +kernel
theorem dX8_dim_14 : decode cX8_dim 14 = .ok (.invokestatic 42, 3) := by decide +kernel
theorem dX8_dim_17 : decode cX8_dim 17 = .ok (.ifCond .ne 6, 3) := by decide +kernel
theorem dX8_dim_20 : decode cX8_dim 20 = .ok (.ldc 52, 2) := by decide +kernel
theorem dX8_dim_22 : decode cX8_dim 22 = .ok (.ireturn, 1) := by decide +kernel
theorem dX8_dim_23 : decode cX8_dim 23 = .ok (.aload_n 0, 1) := by decide +kernel
theorem dX8_dim_24 : decode cX8_dim 24 = .ok (.invokevirtual 161, 3) := by decide +kernel
theorem dX8_dim_27 : decode cX8_dim 27 = .ok (.aload_n 0, 1) := by decide +kernel
theorem dX8_dim_28 : decode cX8_dim 28 = .ok (.getfield 7, 3) := by decide +kernel
theorem dX8_dim_31 : decode cX8_dim 31 = .ok (.iconst 5, 1) := by decide +kernel
theorem dX8_dim_32 : decode cX8_dim 32 = .ok (.iload_n 1, 1) := by decide +kernel
theorem dX8_dim_33 : decode cX8_dim 33 = .ok (.iadd, 1) := by decide +kernel
theorem dX8_dim_34 : decode cX8_dim 34 = .ok (.iaload, 1) := by decide +kernel
theorem dX8_dim_35 : decode cX8_dim 35 = .ok (.istore_n 3, 1) := by decide +kernel
theorem dX8_dim_36 : decode cX8_dim 36 = .ok (.aload_n 0, 1) := by decide +kernel
theorem dX8_dim_37 : decode cX8_dim 37 = .ok (.getfield 7, 3) := by decide +kernel
theorem dX8_dim_40 : decode cX8_dim 40 = .ok (.iconst 5, 1) := by decide +kernel
theorem dX8_dim_41 : decode cX8_dim 41 = .ok (.iload_n 1, 1) := by decide +kernel
theorem dX8_dim_42 : decode cX8_dim 42 = .ok (.iadd, 1) := by decide +kernel
theorem dX8_dim_43 : decode cX8_dim 43 = .ok (.iload_n 2, 1) := by decide +kernel
theorem dX8_dim_44 : decode cX8_dim 44 = .ok (.iastore, 1) := by decide +kernel
theorem dX8_dim_45 : decode cX8_dim 45 = .ok (.iload_n 3, 1) := by decide +kernel
theorem dX8_dim_46 : decode cX8_dim 46 = .ok (.ireturn, 1) := by decide +kernel
set_option maxRecDepth 20000 in
theorem ggX8_train_X8_isGesture : GoodIn wsX8_train wsX8_isGesture := goodIn_r _ [9, 3, 10, 11, 8, 12, 22, 23, 24, 25, 26, 27, 28, 29, 30, 31, 32, 33, 34, 35, 36, 37, 38] (by decide +kernel) (by decide +kernel)
set_option maxRecDepth 20000 in
theorem gX8_train_X8_isGesture : GoodIn wsX8_train (wsV RX8 148 RX8 yX8_isGesture wsX8_isGesture) := goodIn_app (goodIn_of _ (by decide +kernel)) ggX8_train_X8_isGesture
set_option maxRecDepth 20000 in
theorem ggX8_train_X8_in : GoodIn wsX8_train wsX8_in := goodIn_r _ [12] (by decide +kernel) (by decide +kernel)
set_option maxRecDepth 20000 in
theorem gX8_train_X8_in : GoodIn wsX8_train (va_wsS RX8 42 yX8_in wsX8_in) := goodIn_app (goodIn_of _ (by decide +kernel)) ggX8_train_X8_in
set_option maxRecDepth 20000 in
theorem ggX8_train_X8_keepPast : GoodIn wsX8_train wsX8_keepPast := goodIn_r _ [16, 17, 3, 18, 19, 20, 8, 21, 22, 23, 24, 25, 26, 27, 28, 29, 30, 31, 32, 33, 34, 35, 36, 37, 38] (by decide +kernel) (by decide +kernel)
set_option maxRecDepth 20000 in
theorem gX8_train_X8_keepPast : GoodIn wsX8_train (wsV RX8 161 RX8 yX8_keepPast wsX8_keepPast) := goodIn_app (goodIn_of _ (by decide +kernel)) ggX8_train_X8_keepPast
theorem dX8_train_0 : decode cX8_train 0 = .ok (.aload_n 0, 1) := by decide +kernel
theorem dX8_train_1 : decode cX8_train 1 = .ok (.iload_n 1, 1) := by decide +kernel
theorem dX8_train_2 : decode cX8_train 2 = .ok (.invokevirtual 148, 3) := by decide +kernel
theorem dX8_train_5 : decode cX8_train 5 = .ok (.ifCond .eq 15, 3) := by decide +kernel
theorem dX8_train_8 : decode cX8_train 8 = .ok (.iload_n 2, 1) := by decide +kernel
theorem dX8_train_9 : decode cX8_train 9 = .ok (.i2l, 1) := by decide +kernel
theorem dX8_train_10 : decode cX8_train 10 = .ok (.lconst 1, 1) := by decide +kernel
theorem dX8_train_11 : decode cX8_train 11 = .ok (.ldc2_w 166, 3) := by decide +kernel
theorem dX8_train_14 : decode cX8_train 14 = .ok (.invokestatic 42, 3) := by decide +kernel
theorem dX8_train_17 : decode cX8_train 17 = .ok (.ifCond .ne 6, 3) := by decide +kernel
theorem dX8_train_20 : decode cX8_train 20 = .ok (.ldc 52, 2) := by decide +kernel
theorem dX8_train_22 : decode cX8_train 22 = .ok (.ireturn, 1) := by decide +kernel
theorem dX8_train_23 : decode cX8_train 23 = .ok (.aload_n 0, 1) := by decide +kernel
theorem dX8_train_24 : decode cX8_train 24 = .ok (.getfield 7, 3) := by decide +kernel
theorem dX8_train_27 : decode cX8_train 27 = .ok (.bipush 25, 2) := by decide +kernel
theorem dX8_train_29 : decode cX8_train 29 = .ok (.iload_n 1, 1) := by decide +kernel
theorem dX8_train_30 : decode cX8_train 30 = .ok (.iadd, 1) := by decide +kernel
theorem dX8_train_31 : decode cX8_train 31 = .ok (.iaload, 1) := by decide +kernel
theorem dX8_train_32 : decode cX8_train 32 = .ok (.iload_n 2, 1) := by decide +kernel
theorem dX8_train_33 : decode cX8_train 33 = .ok (.isub, 1) := by decide +kernel
theorem dX8_train_34 : decode cX8_train 34 = .ok (.iconst 1, 1) := by decide +kernel
theorem dX8_train_35 : decode cX8_train 35 = .ok (.if_icmp .ge 6, 3) := by decide +kernel
theorem dX8_train_38 : decode cX8_train 38 = .ok (.ldc 134, 2) := by decide +kernel
theorem dX8_train_40 : decode cX8_train 40 = .ok (.ireturn, 1) := by decide +kernel
theorem dX8_train_41 : decode cX8_train 41 = .ok (.aload_n 0, 1) := by decide +kernel
theorem dX8_train_42 : decode cX8_train 42 = .ok (.invokevirtual 161, 3) := by decide +kernel
theorem dX8_train_45 : decode cX8_train 45 = .ok (.aload_n 0, 1) := by decide +kernel
theorem dX8_train_46 : decode cX8_train 46 = .ok (.getfield 7, 3) := by decide +kernel
theorem dX8_train_49 : decode cX8_train 49 = .ok (.bipush 25, 2) := by decide +kernel
theorem dX8_train_51 : decode cX8_train 51 = .ok (.iload_n 1, 1) := by decide +kernel
theorem dX8_train_52 : decode cX8_train 52 = .ok (.iadd, 1) := by decide +kernel
theorem dX8_train_53 : decode cX8_train 53 = .ok (.dup2, 1) := by decide +kernel
theorem dX8_train_54 : decode cX8_train 54 = .ok (.iaload, 1) := by decide +kernel
theorem dX8_train_55 : decode cX8_train 55 = .ok (.iload_n 2, 1) := by decide +kernel
theorem dX8_train_56 : decode cX8_train 56 = .ok (.isub, 1) := by decide +kernel
theorem dX8_train_57 : decode cX8_train 57 = .ok (.iastore, 1) := by decide +kernel
theorem dX8_train_58 : decode cX8_train 58 = .ok (.aload_n 0, 1) := by decide +kernel
theorem dX8_train_59 : decode cX8_train 59 = .ok (.getfield 7, 3) := by decide +kernel
theorem dX8_train_62 : decode cX8_train 62 = .ok (.bipush 25, 2) := by decide +kernel
theorem dX8_train_64 : decode cX8_train 64 = .ok (.iload_n 1, 1) := by decide +kernel
theorem dX8_train_65 : decode cX8_train 65 = .ok (.iadd, 1) := by decide +kernel
theorem dX8_train_66 : decode cX8_train 66 = .ok (.iaload, 1) := by decide +kernel
theorem dX8_train_67 : decode cX8_train 67 = .ok (.ireturn, 1) := by decide +kernel
set_option maxRecDepth 20000 in
theorem ggX8_know_X8_isStreet : GoodIn wsX8_know wsX8_isStreet := goodIn_r _ [8, 2, 9, 10, 7, 11, 24, 25, 26, 27, 28, 29, 30, 31, 32, 33, 34, 35, 36, 37, 38, 39, 40] (by decide +kernel) (by decide +kernel)
set_option maxRecDepth 20000 in
theorem gX8_know_X8_isStreet : GoodIn wsX8_know (wsV RX8 151 RX8 yX8_isStreet wsX8_isStreet) := goodIn_app (goodIn_of _ (by decide +kernel)) ggX8_know_X8_isStreet
set_option maxRecDepth 20000 in
theorem ggX8_know_X8_in : GoodIn wsX8_know wsX8_in := goodIn_r _ [11] (by decide +kernel) (by decide +kernel)
set_option maxRecDepth 20000 in
theorem gX8_know_X8_in : GoodIn wsX8_know (va_wsS RX8 42 yX8_in wsX8_in) := goodIn_app (goodIn_of _ (by decide +kernel)) ggX8_know_X8_in
set_option maxRecDepth 20000 in
theorem ggX8_know_X8_has : GoodIn wsX8_know wsX8_has := goodIn_r _ [14] (by decide +kernel) (by decide +kernel)
set_option maxRecDepth 20000 in
theorem gX8_know_X8_has : GoodIn wsX8_know (va_wsS RX8 142 yX8_has wsX8_has) := goodIn_app (goodIn_of _ (by decide +kernel)) ggX8_know_X8_has
set_option maxRecDepth 20000 in
theorem ggX8_know_X8_keepPast : GoodIn wsX8_know wsX8_keepPast := goodIn_r _ [18, 19, 2, 20, 21, 22, 7, 23, 24, 25, 26, 27, 28, 29, 30, 31, 32, 33, 34, 35, 36, 37, 38, 39, 40] (by decide +kernel) (by decide +kernel)
set_option maxRecDepth 20000 in
theorem gX8_know_X8_keepPast : GoodIn wsX8_know (wsV RX8 161 RX8 yX8_keepPast wsX8_keepPast) := goodIn_app (goodIn_of _ (by decide +kernel)) ggX8_know_X8_keepPast
theorem dX8_know_0 : decode cX8_know 0 = .ok (.aload_n 0, 1) := by decide +kernel
theorem dX8_know_1 : decode cX8_know 1 = .ok (.iload_n 1, 1) := by decide +kernel
theorem dX8_know_2 : decode cX8_know 2 = .ok (.invokevirtual 151, 3) := by decide +kernel
theorem dX8_know_5 : decode cX8_know 5 = .ok (.ifCond .eq 13, 3) := by decide +kernel
theorem dX8_know_8 : decode cX8_know 8 = .ok (.iload_n 2, 1) := by decide +kernel
theorem dX8_know_9 : decode cX8_know 9 = .ok (.i2l, 1) := by decide +kernel
theorem dX8_know_10 : decode cX8_know 10 = .ok (.lconst 0, 1) := by decide +kernel
theorem dX8_know_11 : decode cX8_know 11 = .ok (.lconst 1, 1) := by decide +kernel
theorem dX8_know_12 : decode cX8_know 12 = .ok (.invokestatic 42, 3) := by decide +kernel
theorem dX8_know_15 : decode cX8_know 15 = .ok (.ifCond .ne 6, 3) := by decide +kernel
theorem dX8_know_18 : decode cX8_know 18 = .ok (.ldc 52, 2) := by decide +kernel
theorem dX8_know_20 : decode cX8_know 20 = .ok (.ireturn, 1) := by decide +kernel
theorem dX8_know_21 : decode cX8_know 21 = .ok (.aload_n 0, 1) := by decide +kernel
theorem dX8_know_22 : decode cX8_know 22 = .ok (.getfield 7, 3) := by decide +kernel
theorem dX8_know_25 : decode cX8_know 25 = .ok (.iconst 4, 1) := by decide +kernel
theorem dX8_know_26 : decode cX8_know 26 = .ok (.iaload, 1) := by decide +kernel
theorem dX8_know_27 : decode cX8_know 27 = .ok (.iload_n 1, 1) := by decide +kernel
theorem dX8_know_28 : decode cX8_know 28 = .ok (.invokestatic 142, 3) := by decide +kernel
theorem dX8_know_31 : decode cX8_know 31 = .ok (.iload_n 2, 1) := by decide +kernel
theorem dX8_know_32 : decode cX8_know 32 = .ok (.iconst 1, 1) := by decide +kernel
theorem dX8_know_33 : decode cX8_know 33 = .ok (.if_icmp .ne 7, 3) := by decide +kernel
theorem dX8_know_36 : decode cX8_know 36 = .ok (.iconst 1, 1) := by decide +kernel
theorem dX8_know_37 : decode cX8_know 37 = .ok (.goto 4, 3) := by decide +kernel
theorem dX8_know_40 : decode cX8_know 40 = .ok (.iconst 0, 1) := by decide +kernel
theorem dX8_know_41 : decode cX8_know 41 = .ok (.if_icmp .ne 6, 3) := by decide +kernel
theorem dX8_know_44 : decode cX8_know 44 = .ok (.ldc 134, 2) := by decide +kernel
theorem dX8_know_46 : decode cX8_know 46 = .ok (.ireturn, 1) := by decide +kernel
theorem dX8_know_47 : decode cX8_know 47 = .ok (.aload_n 0, 1) := by decide +kernel
theorem dX8_know_48 : decode cX8_know 48 = .ok (.invokevirtual 161, 3) := by decide +kernel
theorem dX8_know_51 : decode cX8_know 51 = .ok (.aload_n 0, 1) := by decide +kernel
theorem dX8_know_52 : decode cX8_know 52 = .ok (.getfield 7, 3) := by decide +kernel
theorem dX8_know_55 : decode cX8_know 55 = .ok (.iconst 4, 1) := by decide +kernel
theorem dX8_know_56 : decode cX8_know 56 = .ok (.dup2, 1) := by decide +kernel
theorem dX8_know_57 : decode cX8_know 57 = .ok (.iaload, 1) := by decide +kernel
theorem dX8_know_58 : decode cX8_know 58 = .ok (.iconst 1, 1) := by decide +kernel
theorem dX8_know_59 : decode cX8_know 59 = .ok (.iload_n 1, 1) := by decide +kernel
theorem dX8_know_60 : decode cX8_know 60 = .ok (.ishl, 1) := by decide +kernel
theorem dX8_know_61 : decode cX8_know 61 = .ok (.ixor, 1) := by decide +kernel
theorem dX8_know_62 : decode cX8_know 62 = .ok (.iastore, 1) := by decide +kernel
theorem dX8_know_63 : decode cX8_know 63 = .ok (.aload_n 0, 1) := by decide +kernel
theorem dX8_know_64 : decode cX8_know 64 = .ok (.getfield 7, 3) := by decide +kernel
theorem dX8_know_67 : decode cX8_know 67 = .ok (.iconst 4, 1) := by decide +kernel
theorem dX8_know_68 : decode cX8_know 68 = .ok (.iaload, 1) := by decide +kernel
theorem dX8_know_69 : decode cX8_know 69 = .ok (.ireturn, 1) := by decide +kernel
set_option maxRecDepth 20000 in
theorem ggX8_seenStreets_X8_isSeen : GoodIn wsX8_seenStreets wsX8_isSeen := goodIn_r _ [6, 1, 7, 8, 9, 10, 11, 12, 13, 14, 15, 16, 17, 18, 19, 20, 21, 22, 23] (by decide +kernel) (by decide +kernel)
set_option maxRecDepth 20000 in
theorem gX8_seenStreets_X8_isSeen : GoodIn wsX8_seenStreets (wsV RX8 154 RX8 yX8_isSeen wsX8_isSeen) := goodIn_app (goodIn_of _ (by decide +kernel)) ggX8_seenStreets_X8_isSeen
theorem dX8_seenStreets_0 : decode cX8_seenStreets 0 = .ok (.iconst 0, 1) := by decide +kernel
theorem dX8_seenStreets_1 : decode cX8_seenStreets 1 = .ok (.istore_n 2, 1) := by decide +kernel
theorem dX8_seenStreets_2 : decode cX8_seenStreets 2 = .ok (.iconst 0, 1) := by decide +kernel
theorem dX8_seenStreets_3 : decode cX8_seenStreets 3 = .ok (.istore_n 3, 1) := by decide +kernel
theorem dX8_seenStreets_4 : decode cX8_seenStreets 4 = .ok (.iload_n 3, 1) := by decide +kernel
theorem dX8_seenStreets_5 : decode cX8_seenStreets 5 = .ok (.aload_n 0, 1) := by decide +kernel
theorem dX8_seenStreets_6 : decode cX8_seenStreets 6 = .ok (.getfield 7, 3) := by decide +kernel
theorem dX8_seenStreets_9 : decode cX8_seenStreets 9 = .ok (.iconst 1, 1) := by decide +kernel
theorem dX8_seenStreets_10 : decode cX8_seenStreets 10 = .ok (.iaload, 1) := by decide +kernel
theorem dX8_seenStreets_11 : decode cX8_seenStreets 11 = .ok (.if_icmp .ge 28, 3) := by decide +kernel
theorem dX8_seenStreets_14 : decode cX8_seenStreets 14 = .ok (.iload_n 2, 1) := by decide +kernel
theorem dX8_seenStreets_15 : decode cX8_seenStreets 15 = .ok (.aload_n 0, 1) := by decide +kernel
theorem dX8_seenStreets_16 : decode cX8_seenStreets 16 = .ok (.iload_n 1, 1) := by decide +kernel
theorem dX8_seenStreets_17 : decode cX8_seenStreets 17 = .ok (.iload_n 3, 1) := by decide +kernel
theorem dX8_seenStreets_18 : decode cX8_seenStreets 18 = .ok (.invokevirtual 154, 3) := by decide +kernel
theorem dX8_seenStreets_21 : decode cX8_seenStreets 21 = .ok (.ifCond .eq 9, 3) := by decide +kernel
theorem dX8_seenStreets_24 : decode cX8_seenStreets 24 = .ok (.iconst 1, 1) := by decide +kernel
theorem dX8_seenStreets_25 : decode cX8_seenStreets 25 = .ok (.iload_n 3, 1) := by decide +kernel
theorem dX8_seenStreets_26 : decode cX8_seenStreets 26 = .ok (.ishl, 1) := by decide +kernel
theorem dX8_seenStreets_27 : decode cX8_seenStreets 27 = .ok (.goto 4, 3) := by decide +kernel
theorem dX8_seenStreets_30 : decode cX8_seenStreets 30 = .ok (.iconst 0, 1) := by decide +kernel
theorem dX8_seenStreets_31 : decode cX8_seenStreets 31 = .ok (.ior, 1) := by decide +kernel
theorem dX8_seenStreets_32 : decode cX8_seenStreets 32 = .ok (.istore_n 2, 1) := by decide +kernel
theorem dX8_seenStreets_33 : decode cX8_seenStreets 33 = .ok (.iinc 3 1, 3) := by decide +kernel
theorem dX8_seenStreets_36 : decode cX8_seenStreets 36 = .ok (.goto (-32), 3) := by decide +kernel
theorem dX8_seenStreets_39 : decode cX8_seenStreets 39 = .ok (.iload_n 2, 1) := by decide +kernel
theorem dX8_seenStreets_40 : decode cX8_seenStreets 40 = .ok (.ireturn, 1) := by decide +kernel
set_option maxRecDepth 20000 in
theorem ggX8_seenGestures_X8_isSeen : GoodIn wsX8_seenGestures wsX8_isSeen := goodIn_r _ [6, 1, 7, 8, 9, 10, 11, 12, 13, 14, 15, 16, 17, 18, 19, 20, 21, 22, 23] (by decide +kernel) (by decide +kernel)
set_option maxRecDepth 20000 in
theorem gX8_seenGestures_X8_isSeen : GoodIn wsX8_seenGestures (wsV RX8 154 RX8 yX8_isSeen wsX8_isSeen) := goodIn_app (goodIn_of _ (by decide +kernel)) ggX8_seenGestures_X8_isSeen
theorem dX8_seenGestures_0 : decode cX8_seenGestures 0 = .ok (.iconst 0, 1) := by decide +kernel
theorem dX8_seenGestures_1 : decode cX8_seenGestures 1 = .ok (.istore_n 2, 1) := by decide +kernel
theorem dX8_seenGestures_2 : decode cX8_seenGestures 2 = .ok (.iconst 0, 1) := by decide +kernel
theorem dX8_seenGestures_3 : decode cX8_seenGestures 3 = .ok (.istore_n 3, 1) := by decide +kernel
theorem dX8_seenGestures_4 : decode cX8_seenGestures 4 = .ok (.iload_n 3, 1) := by decide +kernel
theorem dX8_seenGestures_5 : decode cX8_seenGestures 5 = .ok (.aload_n 0, 1) := by decide +kernel
theorem dX8_seenGestures_6 : decode cX8_seenGestures 6 = .ok (.getfield 7, 3) := by decide +kernel
theorem dX8_seenGestures_9 : decode cX8_seenGestures 9 = .ok (.iconst 2, 1) := by decide +kernel
theorem dX8_seenGestures_10 : decode cX8_seenGestures 10 = .ok (.iaload, 1) := by decide +kernel
theorem dX8_seenGestures_11 : decode cX8_seenGestures 11 = .ok (.if_icmp .ge 28, 3) := by decide +kernel
theorem dX8_seenGestures_14 : decode cX8_seenGestures 14 = .ok (.iload_n 2, 1) := by decide +kernel
theorem dX8_seenGestures_15 : decode cX8_seenGestures 15 = .ok (.aload_n 0, 1) := by decide +kernel
theorem dX8_seenGestures_16 : decode cX8_seenGestures 16 = .ok (.iload_n 3, 1) := by decide +kernel
theorem dX8_seenGestures_17 : decode cX8_seenGestures 17 = .ok (.iload_n 1, 1) := by decide +kernel
theorem dX8_seenGestures_18 : decode cX8_seenGestures 18 = .ok (.invokevirtual 154, 3) := by decide +kernel
theorem dX8_seenGestures_21 : decode cX8_seenGestures 21 = .ok (.ifCond .eq 9, 3) := by decide +kernel
theorem dX8_seenGestures_24 : decode cX8_seenGestures 24 = .ok (.iconst 1, 1) := by decide +kernel
theorem dX8_seenGestures_25 : decode cX8_seenGestures 25 = .ok (.iload_n 3, 1) := by decide +kernel
theorem dX8_seenGestures_26 : decode cX8_seenGestures 26 = .ok (.ishl, 1) := by decide +kernel
theorem dX8_seenGestures_27 : decode cX8_seenGestures 27 = .ok (.goto 4, 3) := by decide +kernel
theorem dX8_seenGestures_30 : decode cX8_seenGestures 30 = .ok (.iconst 0, 1) := by decide +kernel
theorem dX8_seenGestures_31 : decode cX8_seenGestures 31 = .ok (.ior, 1) := by decide +kernel
theorem dX8_seenGestures_32 : decode cX8_seenGestures 32 = .ok (.istore_n 2, 1) := by decide +kernel
theorem dX8_seenGestures_33 : decode cX8_seenGestures 33 = .ok (.iinc 3 1, 3) := by decide +kernel
theorem dX8_seenGestures_36 : decode cX8_seenGestures 36 = .ok (.goto (-32), 3) := by decide +kernel
theorem dX8_seenGestures_39 : decode cX8_seenGestures 39 = .ok (.iload_n 2, 1) := by decide +kernel
theorem dX8_seenGestures_40 : decode cX8_seenGestures 40 = .ok (.ireturn, 1) := by decide +kernel
set_option maxRecDepth 20000 in
theorem ggX8_gesture_X8_isGesture : GoodIn wsX8_gesture wsX8_isGesture := goodIn_r _ [7, 2, 8, 9, 6, 10, 19, 20, 21, 22, 23, 24, 25, 26, 27, 28, 29, 30, 31, 32, 33, 34, 35] (by decide +kernel) (by decide +kernel)
set_option maxRecDepth 20000 in
theorem gX8_gesture_X8_isGesture : GoodIn wsX8_gesture (wsV RX8 148 RX8 yX8_isGesture wsX8_isGesture) := goodIn_app (goodIn_of _ (by decide +kernel)) ggX8_gesture_X8_isGesture
set_option maxRecDepth 20000 in
theorem ggX8_gesture_X8_seenStreets : GoodIn wsX8_gesture wsX8_seenStreets := goodIn_r _ [14, 2, 15, 16, 17, 6, 18, 19, 20, 21, 22, 23, 24, 25, 26, 27, 28, 29, 30, 31, 32, 33, 34, 35] (by decide +kernel) (by decide +kernel)
set_option maxRecDepth 20000 in
theorem gX8_gesture_X8_seenStreets : GoodIn wsX8_gesture (wsV RX8 168 RX8 yX8_seenStreets wsX8_seenStreets) := goodIn_app (goodIn_of _ (by decide +kernel)) ggX8_gesture_X8_seenStreets
theorem dX8_gesture_0 : decode cX8_gesture 0 = .ok (.aload_n 0, 1) := by decide +kernel
theorem dX8_gesture_1 : decode cX8_gesture 1 = .ok (.iload_n 1, 1) := by decide +kernel
theorem dX8_gesture_2 : decode cX8_gesture 2 = .ok (.invokevirtual 148, 3) := by decide +kernel
theorem dX8_gesture_5 : decode cX8_gesture 5 = .ok (.ifCond .ne 6, 3) := by decide +kernel
theorem dX8_gesture_8 : decode cX8_gesture 8 = .ok (.ldc 52, 2) := by decide +kernel
theorem dX8_gesture_10 : decode cX8_gesture 10 = .ok (.ireturn, 1) := by decide +kernel
theorem dX8_gesture_11 : decode cX8_gesture 11 = .ok (.iload_n 2, 1) := by decide +kernel
theorem dX8_gesture_12 : decode cX8_gesture 12 = .ok (.tableswitch 82 0 4 #[36, 46, 56, 66, 72], 36) := by decide +kernel
theorem dX8_gesture_48 : decode cX8_gesture 48 = .ok (.aload_n 0, 1) := by decide +kernel
theorem dX8_gesture_49 : decode cX8_gesture 49 = .ok (.getfield 7, 3) := by decide +kernel
theorem dX8_gesture_52 : decode cX8_gesture 52 = .ok (.bipush 25, 2) := by decide +kernel
theorem dX8_gesture_54 : decode cX8_gesture 54 = .ok (.iload_n 1, 1) := by decide +kernel
theorem dX8_gesture_55 : decode cX8_gesture 55 = .ok (.iadd, 1) := by decide +kernel
theorem dX8_gesture_56 : decode cX8_gesture 56 = .ok (.iaload, 1) := by decide +kernel
theorem dX8_gesture_57 : decode cX8_gesture 57 = .ok (.ireturn, 1) := by decide +kernel
theorem dX8_gesture_58 : decode cX8_gesture 58 = .ok (.aload_n 0, 1) := by decide +kernel
theorem dX8_gesture_59 : decode cX8_gesture 59 = .ok (.getfield 7, 3) := by decide +kernel
theorem dX8_gesture_62 : decode cX8_gesture 62 = .ok (.bipush 31, 2) := by decide +kernel
theorem dX8_gesture_64 : decode cX8_gesture 64 = .ok (.iload_n 1, 1) := by decide +kernel
theorem dX8_gesture_65 : decode cX8_gesture 65 = .ok (.iadd, 1) := by decide +kernel
theorem dX8_gesture_66 : decode cX8_gesture 66 = .ok (.iaload, 1) := by decide +kernel
theorem dX8_gesture_67 : decode cX8_gesture 67 = .ok (.ireturn, 1) := by decide +kernel
theorem dX8_gesture_68 : decode cX8_gesture 68 = .ok (.aload_n 0, 1) := by decide +kernel
theorem dX8_gesture_69 : decode cX8_gesture 69 = .ok (.getfield 7, 3) := by decide +kernel
theorem dX8_gesture_72 : decode cX8_gesture 72 = .ok (.bipush 37, 2) := by decide +kernel
theorem dX8_gesture_74 : decode cX8_gesture 74 = .ok (.iload_n 1, 1) := by decide +kernel
theorem dX8_gesture_75 : decode cX8_gesture 75 = .ok (.iadd, 1) := by decide +kernel
theorem dX8_gesture_76 : decode cX8_gesture 76 = .ok (.iaload, 1) := by decide +kernel
theorem dX8_gesture_77 : decode cX8_gesture 77 = .ok (.ireturn, 1) := by decide +kernel
theorem dX8_gesture_78 : decode cX8_gesture 78 = .ok (.aload_n 0, 1) := by decide +kernel
theorem dX8_gesture_79 : decode cX8_gesture 79 = .ok (.iload_n 1, 1) := by decide +kernel
theorem dX8_gesture_80 : decode cX8_gesture 80 = .ok (.invokevirtual 168, 3) := by decide +kernel
theorem dX8_gesture_83 : decode cX8_gesture 83 = .ok (.ireturn, 1) := by decide +kernel
theorem dX8_gesture_84 : decode cX8_gesture 84 = .ok (.aload_n 0, 1) := by decide +kernel
theorem dX8_gesture_85 : decode cX8_gesture 85 = .ok (.getfield 7, 3) := by decide +kernel
theorem dX8_gesture_88 : decode cX8_gesture 88 = .ok (.bipush 43, 2) := by decide +kernel
theorem dX8_gesture_90 : decode cX8_gesture 90 = .ok (.iload_n 1, 1) := by decide +kernel
theorem dX8_gesture_91 : decode cX8_gesture 91 = .ok (.iadd, 1) := by decide +kernel
theorem dX8_gesture_92 : decode cX8_gesture 92 = .ok (.iaload, 1) := by decide +kernel
theorem dX8_gesture_93 : decode cX8_gesture 93 = .ok (.ireturn, 1) := by decide +kernel
theorem dX8_gesture_94 : decode cX8_gesture 94 = .ok (.ldc 52, 2) := by decide +kernel
theorem dX8_gesture_96 : decode cX8_gesture 96 = .ok (.ireturn, 1) := by decide +kernel
set_option maxRecDepth 20000 in
theorem ggX8_street_X8_isStreet : GoodIn wsX8_street wsX8_isStreet := goodIn_r _ [7, 2, 8, 9, 6, 10, 19, 20, 21, 22, 23, 24, 25, 26, 27, 28, 29, 30, 31, 32, 33, 34, 35] (by decide +kernel) (by decide +kernel)
set_option maxRecDepth 20000 in
theorem gX8_street_X8_isStreet : GoodIn wsX8_street (wsV RX8 151 RX8 yX8_isStreet wsX8_isStreet) := goodIn_app (goodIn_of _ (by decide +kernel)) ggX8_street_X8_isStreet
set_option maxRecDepth 20000 in
theorem ggX8_street_X8_seenGestures : GoodIn wsX8_street wsX8_seenGestures := goodIn_r _ [14, 2, 15, 16, 17, 6, 18, 19, 20, 21, 22, 23, 24, 25, 26, 27, 28, 29, 30, 31, 32, 33, 34, 35] (by decide +kernel) (by decide +kernel)
set_option maxRecDepth 20000 in
theorem gX8_street_X8_seenGestures : GoodIn wsX8_street (wsV RX8 171 RX8 yX8_seenGestures wsX8_seenGestures) := goodIn_app (goodIn_of _ (by decide +kernel)) ggX8_street_X8_seenGestures
theorem dX8_street_0 : decode cX8_street 0 = .ok (.aload_n 0, 1) := by decide +kernel
theorem dX8_street_1 : decode cX8_street 1 = .ok (.iload_n 1, 1) := by decide +kernel
theorem dX8_street_2 : decode cX8_street 2 = .ok (.invokevirtual 151, 3) := by decide +kernel
theorem dX8_street_5 : decode cX8_street 5 = .ok (.ifCond .ne 6, 3) := by decide +kernel
theorem dX8_street_8 : decode cX8_street 8 = .ok (.ldc 52, 2) := by decide +kernel
theorem dX8_street_10 : decode cX8_street 10 = .ok (.ireturn, 1) := by decide +kernel
theorem dX8_street_11 : decode cX8_street 11 = .ok (.iload_n 2, 1) := by decide +kernel
theorem dX8_street_12 : decode cX8_street 12 = .ok (.tableswitch 68 0 3 #[32, 41, 51, 62], 32) := by decide +kernel
theorem dX8_street_44 : decode cX8_street 44 = .ok (.aload_n 0, 1) := by decide +kernel
theorem dX8_street_45 : decode cX8_street 45 = .ok (.getfield 7, 3) := by decide +kernel
theorem dX8_street_48 : decode cX8_street 48 = .ok (.iconst 5, 1) := by decide +kernel
theorem dX8_street_49 : decode cX8_street 49 = .ok (.iload_n 1, 1) := by decide +kernel
theorem dX8_street_50 : decode cX8_street 50 = .ok (.iadd, 1) := by decide +kernel
theorem dX8_street_51 : decode cX8_street 51 = .ok (.iaload, 1) := by decide +kernel
theorem dX8_street_52 : decode cX8_street 52 = .ok (.ireturn, 1) := by decide +kernel
theorem dX8_street_53 : decode cX8_street 53 = .ok (.aload_n 0, 1) := by decide +kernel
theorem dX8_street_54 : decode cX8_street 54 = .ok (.getfield 7, 3) := by decide +kernel
theorem dX8_street_57 : decode cX8_street 57 = .ok (.bipush 12, 2) := by decide +kernel
theorem dX8_street_59 : decode cX8_street 59 = .ok (.iload_n 1, 1) := by decide +kernel
theorem dX8_street_60 : decode cX8_street 60 = .ok (.iadd, 1) := by decide +kernel
theorem dX8_street_61 : decode cX8_street 61 = .ok (.iaload, 1) := by decide +kernel
theorem dX8_street_62 : decode cX8_street 62 = .ok (.ireturn, 1) := by decide +kernel
theorem dX8_street_63 : decode cX8_street 63 = .ok (.aload_n 0, 1) := by decide +kernel
theorem dX8_street_64 : decode cX8_street 64 = .ok (.getfield 7, 3) := by decide +kernel
theorem dX8_street_67 : decode cX8_street 67 = .ok (.iconst 4, 1) := by decide +kernel
theorem dX8_street_68 : decode cX8_street 68 = .ok (.iaload, 1) := by decide +kernel
theorem dX8_street_69 : decode cX8_street 69 = .ok (.iload_n 1, 1) := by decide +kernel
theorem dX8_street_70 : decode cX8_street 70 = .ok (.ishr, 1) := by decide +kernel
theorem dX8_street_71 : decode cX8_street 71 = .ok (.iconst 1, 1) := by decide +kernel
theorem dX8_street_72 : decode cX8_street 72 = .ok (.iand, 1) := by decide +kernel
theorem dX8_street_73 : decode cX8_street 73 = .ok (.ireturn, 1) := by decide +kernel
theorem dX8_street_74 : decode cX8_street 74 = .ok (.aload_n 0, 1) := by decide +kernel
theorem dX8_street_75 : decode cX8_street 75 = .ok (.iload_n 1, 1) := by decide +kernel
theorem dX8_street_76 : decode cX8_street 76 = .ok (.invokevirtual 171, 3) := by decide +kernel
theorem dX8_street_79 : decode cX8_street 79 = .ok (.ireturn, 1) := by decide +kernel
theorem dX8_street_80 : decode cX8_street 80 = .ok (.ldc 52, 2) := by decide +kernel
theorem dX8_street_82 : decode cX8_street 82 = .ok (.ireturn, 1) := by decide +kernel
set_option maxRecDepth 20000 in
theorem ggX8_duty_X8_isGesture : GoodIn wsX8_duty wsX8_isGesture := goodIn_r _ [6, 7, 8, 9, 5, 10, 34, 35, 36, 37, 38, 39, 40, 41, 42, 43, 44, 45, 46, 47, 48, 49, 50] (by decide +kernel) (by decide +kernel)
set_option maxRecDepth 20000 in
theorem gX8_duty_X8_isGesture : GoodIn wsX8_duty (wsV RX8 148 RX8 yX8_isGesture wsX8_isGesture) := goodIn_app (goodIn_of _ (by decide +kernel)) ggX8_duty_X8_isGesture
set_option maxRecDepth 20000 in
theorem ggX8_duty_X8_isStreet : GoodIn wsX8_duty wsX8_isStreet := goodIn_r _ [14, 7, 8, 9, 5, 10, 34, 35, 36, 37, 38, 39, 40, 41, 42, 43, 44, 45, 46, 47, 48, 49, 50] (by decide +kernel) (by decide +kernel)
set_option maxRecDepth 20000 in
theorem gX8_duty_X8_isStreet : GoodIn wsX8_duty (wsV RX8 151 RX8 yX8_isStreet wsX8_isStreet) := goodIn_app (goodIn_of _ (by decide +kernel)) ggX8_duty_X8_isStreet
set_option maxRecDepth 20000 in
theorem ggX8_duty_X8_dutyOf : GoodIn wsX8_duty wsX8_dutyOf := goodIn_r _ [18, 7, 19, 20, 21, 5, 22, 23, 24, 25, 26, 27, 28, 29, 30, 31, 32, 33, 34, 35, 36, 37, 38, 39, 40, 41, 42, 43, 44, 45, 46, 47, 48, 49, 50] (by decide +kernel) (by decide +kernel)
set_option maxRecDepth 20000 in
theorem gX8_duty_X8_dutyOf : GoodIn wsX8_duty (wsV RX8 157 RX8 yX8_dutyOf wsX8_dutyOf) := goodIn_app (goodIn_of _ (by decide +kernel)) ggX8_duty_X8_dutyOf
theorem dX8_duty_0 : decode cX8_duty 0 = .ok (.aload_n 0, 1) := by decide +kernel
theorem dX8_duty_1 : decode cX8_duty 1 = .ok (.iload_n 1, 1) := by decide +kernel
theorem dX8_duty_2 : decode cX8_duty 2 = .ok (.invokevirtual 148, 3) := by decide +kernel
theorem dX8_duty_5 : decode cX8_duty 5 = .ok (.ifCond .eq 20, 3) := by decide +kernel
theorem dX8_duty_8 : decode cX8_duty 8 = .ok (.aload_n 0, 1) := by decide +kernel
theorem dX8_duty_9 : decode cX8_duty 9 = .ok (.iload_n 2, 1) := by decide +kernel
theorem dX8_duty_10 : decode cX8_duty 10 = .ok (.invokevirtual 151, 3) := by decide +kernel
theorem dX8_duty_13 : decode cX8_duty 13 = .ok (.ifCond .eq 12, 3) := by decide +kernel
theorem dX8_duty_16 : decode cX8_duty 16 = .ok (.aload_n 0, 1) := by decide +kernel
theorem dX8_duty_17 : decode cX8_duty 17 = .ok (.iload_n 1, 1) := by decide +kernel
theorem dX8_duty_18 : decode cX8_duty 18 = .ok (.iload_n 2, 1) := by decide +kernel
theorem dX8_duty_19 : decode cX8_duty 19 = .ok (.invokevirtual 157, 3) := by decide +kernel
theorem dX8_duty_22 : decode cX8_duty 22 = .ok (.goto 5, 3) := by decide +kernel
theorem dX8_duty_25 : decode cX8_duty 25 = .ok (.ldc 52, 2) := by decide +kernel
theorem dX8_duty_27 : decode cX8_duty 27 = .ok (.ireturn, 1) := by decide +kernel
set_option maxRecDepth 20000 in
theorem ggX8_tells_X8_isSeen : GoodIn wsX8_tells wsX8_isSeen := goodIn_r _ [6, 1, 7, 8, 9, 10, 11, 12, 13, 14, 15, 16, 17, 18, 19, 20, 21, 22, 23] (by decide +kernel) (by decide +kernel)
set_option maxRecDepth 20000 in
theorem gX8_tells_X8_isSeen : GoodIn wsX8_tells (wsV RX8 154 RX8 yX8_isSeen wsX8_isSeen) := goodIn_app (goodIn_of _ (by decide +kernel)) ggX8_tells_X8_isSeen
theorem dX8_tells_0 : decode cX8_tells 0 = .ok (.aload_n 0, 1) := by decide +kernel
theorem dX8_tells_1 : decode cX8_tells 1 = .ok (.getfield 7, 3) := by decide +kernel
theorem dX8_tells_4 : decode cX8_tells 4 = .ok (.bipush 31, 2) := by decide +kernel
theorem dX8_tells_6 : decode cX8_tells 6 = .ok (.iload_n 1, 1) := by decide +kernel
theorem dX8_tells_7 : decode cX8_tells 7 = .ok (.iadd, 1) := by decide +kernel
theorem dX8_tells_8 : decode cX8_tells 8 = .ok (.iaload, 1) := by decide +kernel
theorem dX8_tells_9 : decode cX8_tells 9 = .ok (.iload_n 2, 1) := by decide +kernel
theorem dX8_tells_10 : decode cX8_tells 10 = .ok (.if_icmp .ne 16, 3) := by decide +kernel
theorem dX8_tells_13 : decode cX8_tells 13 = .ok (.aload_n 0, 1) := by decide +kernel
theorem dX8_tells_14 : decode cX8_tells 14 = .ok (.iload_n 1, 1) := by decide +kernel
theorem dX8_tells_15 : decode cX8_tells 15 = .ok (.iload_n 3, 1) := by decide +kernel
theorem dX8_tells_16 : decode cX8_tells 16 = .ok (.invokevirtual 154, 3) := by decide +kernel
theorem dX8_tells_19 : decode cX8_tells 19 = .ok (.ifCond .eq 7, 3) := by decide +kernel
theorem dX8_tells_22 : decode cX8_tells 22 = .ok (.iconst 1, 1) := by decide +kernel
theorem dX8_tells_23 : decode cX8_tells 23 = .ok (.goto 4, 3) := by decide +kernel
theorem dX8_tells_26 : decode cX8_tells 26 = .ok (.iconst 0, 1) := by decide +kernel
theorem dX8_tells_27 : decode cX8_tells 27 = .ok (.ireturn, 1) := by decide +kernel
set_option maxRecDepth 20000 in
theorem ggX8_onBy_X8_tells : GoodIn wsX8_onBy wsX8_tells := goodIn_r _ [8, 1, 9, 10, 11, 7, 12, 32, 33, 34, 35, 36, 37, 38, 39, 40, 41, 42, 43, 44, 45, 46, 47, 48] (by decide +kernel) (by decide +kernel)
set_option maxRecDepth 20000 in
theorem gX8_onBy_X8_tells : GoodIn wsX8_onBy (wsV RX8 174 RX8 yX8_tells wsX8_tells) := goodIn_app (goodIn_of _ (by decide +kernel)) ggX8_onBy_X8_tells
set_option maxRecDepth 20000 in
theorem ggX8_onBy_X8_dutyOf : GoodIn wsX8_onBy wsX8_dutyOf := goodIn_r _ [16, 1, 17, 18, 19, 7, 20, 21, 22, 23, 24, 25, 26, 27, 28, 29, 30, 31, 32, 33, 34, 35, 36, 37, 38, 39, 40, 41, 42, 43, 44, 45, 46, 47, 48] (by decide +kernel) (by decide +kernel)
set_option maxRecDepth 20000 in
theorem gX8_onBy_X8_dutyOf : GoodIn wsX8_onBy (wsV RX8 157 RX8 yX8_dutyOf wsX8_dutyOf) := goodIn_app (goodIn_of _ (by decide +kernel)) ggX8_onBy_X8_dutyOf
theorem dX8_onBy_0 : decode cX8_onBy 0 = .ok (.aload_n 0, 1) := by decide +kernel
theorem dX8_onBy_1 : decode cX8_onBy 1 = .ok (.iload_n 1, 1) := by decide +kernel
theorem dX8_onBy_2 : decode cX8_onBy 2 = .ok (.iload_n 2, 1) := by decide +kernel
theorem dX8_onBy_3 : decode cX8_onBy 3 = .ok (.iload_n 3, 1) := by decide +kernel
theorem dX8_onBy_4 : decode cX8_onBy 4 = .ok (.invokevirtual 174, 3) := by decide +kernel
theorem dX8_onBy_7 : decode cX8_onBy 7 = .ok (.ifCond .eq 21, 3) := by decide +kernel
theorem dX8_onBy_10 : decode cX8_onBy 10 = .ok (.aload_n 0, 1) := by decide +kernel
theorem dX8_onBy_11 : decode cX8_onBy 11 = .ok (.getfield 7, 3) := by decide +kernel
theorem dX8_onBy_14 : decode cX8_onBy 14 = .ok (.bipush 37, 2) := by decide +kernel
theorem dX8_onBy_16 : decode cX8_onBy 16 = .ok (.iload_n 1, 1) := by decide +kernel
theorem dX8_onBy_17 : decode cX8_onBy 17 = .ok (.iadd, 1) := by decide +kernel
theorem dX8_onBy_18 : decode cX8_onBy 18 = .ok (.iaload, 1) := by decide +kernel
theorem dX8_onBy_19 : decode cX8_onBy 19 = .ok (.iload 4, 2) := by decide +kernel
theorem dX8_onBy_21 : decode cX8_onBy 21 = .ok (.if_icmp .gt 7, 3) := by decide +kernel
theorem dX8_onBy_24 : decode cX8_onBy 24 = .ok (.iconst 1, 1) := by decide +kernel
theorem dX8_onBy_25 : decode cX8_onBy 25 = .ok (.goto 4, 3) := by decide +kernel
theorem dX8_onBy_28 : decode cX8_onBy 28 = .ok (.iconst 0, 1) := by decide +kernel
theorem dX8_onBy_29 : decode cX8_onBy 29 = .ok (.istore 5, 2) := by decide +kernel
theorem dX8_onBy_31 : decode cX8_onBy 31 = .ok (.iload 5, 2) := by decide +kernel
theorem dX8_onBy_33 : decode cX8_onBy 33 = .ok (.ifCond .eq 37, 3) := by decide +kernel
theorem dX8_onBy_36 : decode cX8_onBy 36 = .ok (.aload_n 0, 1) := by decide +kernel
theorem dX8_onBy_37 : decode cX8_onBy 37 = .ok (.iload_n 1, 1) := by decide +kernel
theorem dX8_onBy_38 : decode cX8_onBy 38 = .ok (.iload_n 3, 1) := by decide +kernel
theorem dX8_onBy_39 : decode cX8_onBy 39 = .ok (.invokevirtual 157, 3) := by decide +kernel
theorem dX8_onBy_42 : decode cX8_onBy 42 = .ok (.aload_n 0, 1) := by decide +kernel
theorem dX8_onBy_43 : decode cX8_onBy 43 = .ok (.getfield 32, 3) := by decide +kernel
theorem dX8_onBy_46 : decode cX8_onBy 46 = .ok (.bipush 100, 2) := by decide +kernel
theorem dX8_onBy_48 : decode cX8_onBy 48 = .ok (.iload_n 3, 1) := by decide +kernel
theorem dX8_onBy_49 : decode cX8_onBy 49 = .ok (.iconst 1, 1) := by decide +kernel
theorem dX8_onBy_50 : decode cX8_onBy 50 = .ok (.iadd, 1) := by decide +kernel
theorem dX8_onBy_51 : decode cX8_onBy 51 = .ok (.imul, 1) := by decide +kernel
theorem dX8_onBy_52 : decode cX8_onBy 52 = .ok (.iload 4, 2) := by decide +kernel
theorem dX8_onBy_54 : decode cX8_onBy 54 = .ok (.iadd, 1) := by decide +kernel
theorem dX8_onBy_55 : decode cX8_onBy 55 = .ok (.aload_n 0, 1) := by decide +kernel
theorem dX8_onBy_56 : decode cX8_onBy 56 = .ok (.getfield 7, 3) := by decide +kernel
theorem dX8_onBy_59 : decode cX8_onBy 59 = .ok (.bipush 37, 2) := by decide +kernel
theorem dX8_onBy_61 : decode cX8_onBy 61 = .ok (.iload_n 1, 1) := by decide +kernel
theorem dX8_onBy_62 : decode cX8_onBy 62 = .ok (.iadd, 1) := by decide +kernel
theorem dX8_onBy_63 : decode cX8_onBy 63 = .ok (.iaload, 1) := by decide +kernel
theorem dX8_onBy_64 : decode cX8_onBy 64 = .ok (.isub, 1) := by decide +kernel
theorem dX8_onBy_65 : decode cX8_onBy 65 = .ok (.iaload, 1) := by decide +kernel
theorem dX8_onBy_66 : decode cX8_onBy 66 = .ok (.iadd, 1) := by decide +kernel
theorem dX8_onBy_67 : decode cX8_onBy 67 = .ok (.goto 5, 3) := by decide +kernel
theorem dX8_onBy_70 : decode cX8_onBy 70 = .ok (.ldc 177, 2) := by decide +kernel
theorem dX8_onBy_72 : decode cX8_onBy 72 = .ok (.ireturn, 1) := by decide +kernel
set_option maxRecDepth 20000 in
theorem ggX8_layCosts_X8_onBy : GoodIn wsX8_layCosts wsX8_onBy := goodIn_r _ [8, 3, 1, 2, 9, 10, 11, 7, 12, 13, 14, 15, 16, 17, 18, 19, 20, 21, 22, 23, 24, 25, 26, 27, 28, 29, 30, 31, 32, 33, 34, 35, 36, 37, 38, 39, 40, 41, 42, 43, 44, 45, 46, 47, 48, 49, 50, 51, 52] (by decide +kernel) (by decide +kernel)
set_option maxRecDepth 20000 in
theorem gX8_layCosts_X8_onBy : GoodIn wsX8_layCosts (wsV RX8 178 RX8 yX8_onBy wsX8_onBy) := goodIn_app (goodIn_of _ (by decide +kernel)) ggX8_layCosts_X8_onBy
theorem dX8_layCosts_0 : decode cX8_layCosts 0 = .ok (.iconst 0, 1) := by decide +kernel
theorem dX8_layCosts_1 : decode cX8_layCosts 1 = .ok (.istore 4, 2) := by decide +kernel
theorem dX8_layCosts_3 : decode cX8_layCosts 3 = .ok (.iload 4, 2) := by decide +kernel
theorem dX8_layCosts_5 : decode cX8_layCosts 5 = .ok (.bipush 100, 2) := by decide +kernel
theorem dX8_layCosts_7 : decode cX8_layCosts 7 = .ok (.if_icmp .ge 24, 3) := by decide +kernel
theorem dX8_layCosts_10 : decode cX8_layCosts 10 = .ok (.aload_n 0, 1) := by decide +kernel
theorem dX8_layCosts_11 : decode cX8_layCosts 11 = .ok (.getfield 32, 3) := by decide +kernel
theorem dX8_layCosts_14 : decode cX8_layCosts 14 = .ok (.bipush 100, 2) := by decide +kernel
theorem dX8_layCosts_16 : decode cX8_layCosts 16 = .ok (.iload_n 3, 1) := by decide +kernel
theorem dX8_layCosts_17 : decode cX8_layCosts 17 = .ok (.iconst 1, 1) := by decide +kernel
theorem dX8_layCosts_18 : decode cX8_layCosts 18 = .ok (.iadd, 1) := by decide +kernel
theorem dX8_layCosts_19 : decode cX8_layCosts 19 = .ok (.imul, 1) := by decide +kernel
theorem dX8_layCosts_20 : decode cX8_layCosts 20 = .ok (.iload 4, 2) := by decide +kernel
theorem dX8_layCosts_22 : decode cX8_layCosts 22 = .ok (.iadd, 1) := by decide +kernel
theorem dX8_layCosts_23 : decode cX8_layCosts 23 = .ok (.iconst 0, 1) := by decide +kernel
theorem dX8_layCosts_24 : decode cX8_layCosts 24 = .ok (.iastore, 1) := by decide +kernel
theorem dX8_layCosts_25 : decode cX8_layCosts 25 = .ok (.iinc 4 1, 3) := by decide +kernel
theorem dX8_layCosts_28 : decode cX8_layCosts 28 = .ok (.goto (-25), 3) := by decide +kernel
theorem dX8_layCosts_31 : decode cX8_layCosts 31 = .ok (.iload_n 3, 1) := by decide +kernel
theorem dX8_layCosts_32 : decode cX8_layCosts 32 = .ok (.istore 4, 2) := by decide +kernel
theorem dX8_layCosts_34 : decode cX8_layCosts 34 = .ok (.iload 4, 2) := by decide +kernel
theorem dX8_layCosts_36 : decode cX8_layCosts 36 = .ok (.iload_n 2, 1) := by decide +kernel
theorem dX8_layCosts_37 : decode cX8_layCosts 37 = .ok (.if_icmp .lt 122, 3) := by decide +kernel
theorem dX8_layCosts_40 : decode cX8_layCosts 40 = .ok (.iconst 0, 1) := by decide +kernel
theorem dX8_layCosts_41 : decode cX8_layCosts 41 = .ok (.istore 5, 2) := by decide +kernel
theorem dX8_layCosts_43 : decode cX8_layCosts 43 = .ok (.iload 5, 2) := by decide +kernel
theorem dX8_layCosts_45 : decode cX8_layCosts 45 = .ok (.bipush 100, 2) := by decide +kernel
theorem dX8_layCosts_47 : decode cX8_layCosts 47 = .ok (.if_icmp .ge 106, 3) := by decide +kernel
theorem dX8_layCosts_50 : decode cX8_layCosts 50 = .ok (.aload_n 0, 1) := by decide +kernel
theorem dX8_layCosts_51 : decode cX8_layCosts 51 = .ok (.getfield 32, 3) := by decide +kernel
theorem dX8_layCosts_54 : decode cX8_layCosts 54 = .ok (.bipush 100, 2) := by decide +kernel
theorem dX8_layCosts_56 : decode cX8_layCosts 56 = .ok (.iload 4, 2) := by decide +kernel
theorem dX8_layCosts_58 : decode cX8_layCosts 58 = .ok (.imul, 1) := by decide +kernel
theorem dX8_layCosts_59 : decode cX8_layCosts 59 = .ok (.iload 5, 2) := by decide +kernel
theorem dX8_layCosts_61 : decode cX8_layCosts 61 = .ok (.iadd, 1) := by decide +kernel
theorem dX8_layCosts_62 : decode cX8_layCosts 62 = .ok (.ldc 177, 2) := by decide +kernel
theorem dX8_layCosts_64 : decode cX8_layCosts 64 = .ok (.iastore, 1) := by decide +kernel
theorem dX8_layCosts_65 : decode cX8_layCosts 65 = .ok (.iconst 0, 1) := by decide +kernel
theorem dX8_layCosts_66 : decode cX8_layCosts 66 = .ok (.istore 6, 2) := by decide +kernel
theorem dX8_layCosts_68 : decode cX8_layCosts 68 = .ok (.iload 6, 2) := by decide +kernel
theorem dX8_layCosts_70 : decode cX8_layCosts 70 = .ok (.aload_n 0, 1) := by decide +kernel
theorem dX8_layCosts_71 : decode cX8_layCosts 71 = .ok (.getfield 7, 3) := by decide +kernel
theorem dX8_layCosts_74 : decode cX8_layCosts 74 = .ok (.iconst 2, 1) := by decide +kernel
theorem dX8_layCosts_75 : decode cX8_layCosts 75 = .ok (.iaload, 1) := by decide +kernel
theorem dX8_layCosts_76 : decode cX8_layCosts 76 = .ok (.if_icmp .ge 71, 3) := by decide +kernel
theorem dX8_layCosts_79 : decode cX8_layCosts 79 = .ok (.aload_n 0, 1) := by decide +kernel
theorem dX8_layCosts_80 : decode cX8_layCosts 80 = .ok (.iload 6, 2) := by decide +kernel
theorem dX8_layCosts_82 : decode cX8_layCosts 82 = .ok (.iload_n 1, 1) := by decide +kernel
theorem dX8_layCosts_83 : decode cX8_layCosts 83 = .ok (.iload 4, 2) := by decide +kernel
theorem dX8_layCosts_85 : decode cX8_layCosts 85 = .ok (.iload 5, 2) := by decide +kernel
theorem dX8_layCosts_87 : decode cX8_layCosts 87 = .ok (.invokevirtual 178, 3) := by decide +kernel
theorem dX8_layCosts_90 : decode cX8_layCosts 90 = .ok (.istore 7, 2) := by decide +kernel
theorem dX8_layCosts_92 : decode cX8_layCosts 92 = .ok (.aload_n 0, 1) := by decide +kernel
theorem dX8_layCosts_93 : decode cX8_layCosts 93 = .ok (.getfield 32, 3) := by decide +kernel
theorem dX8_layCosts_96 : decode cX8_layCosts 96 = .ok (.bipush 100, 2) := by decide +kernel
theorem dX8_layCosts_98 : decode cX8_layCosts 98 = .ok (.iload 4, 2) := by decide +kernel
theorem dX8_layCosts_100 : decode cX8_layCosts 100 = .ok (.imul, 1) := by decide +kernel
theorem dX8_layCosts_101 : decode cX8_layCosts 101 = .ok (.iload 5, 2) := by decide +kernel
theorem dX8_layCosts_103 : decode cX8_layCosts 103 = .ok (.iadd, 1) := by decide +kernel
theorem dX8_layCosts_104 : decode cX8_layCosts 104 = .ok (.iload 7, 2) := by decide +kernel
theorem dX8_layCosts_106 : decode cX8_layCosts 106 = .ok (.aload_n 0, 1) := by decide +kernel
theorem dX8_layCosts_107 : decode cX8_layCosts 107 = .ok (.getfield 32, 3) := by decide +kernel
theorem dX8_layCosts_110 : decode cX8_layCosts 110 = .ok (.bipush 100, 2) := by decide +kernel
theorem dX8_layCosts_112 : decode cX8_layCosts 112 = .ok (.iload 4, 2) := by decide +kernel
theorem dX8_layCosts_114 : decode cX8_layCosts 114 = .ok (.imul, 1) := by decide +kernel
theorem dX8_layCosts_115 : decode cX8_layCosts 115 = .ok (.iload 5, 2) := by decide +kernel
theorem dX8_layCosts_117 : decode cX8_layCosts 117 = .ok (.iadd, 1) := by decide +kernel
theorem dX8_layCosts_118 : decode cX8_layCosts 118 = .ok (.iaload, 1) := by decide +kernel
theorem dX8_layCosts_119 : decode cX8_layCosts 119 = .ok (.if_icmp .ge 8, 3) := by decide +kernel
theorem dX8_layCosts_122 : decode cX8_layCosts 122 = .ok (.iload 7, 2) := by decide +kernel
theorem dX8_layCosts_124 : decode cX8_layCosts 124 = .ok (.goto 16, 3) := by decide +kernel
theorem dX8_layCosts_127 : decode cX8_layCosts 127 = .ok (.aload_n 0, 1) := by decide +kernel
theorem dX8_layCosts_128 : decode cX8_layCosts 128 = .ok (.getfield 32, 3) := by decide +kernel
theorem dX8_layCosts_131 : decode cX8_layCosts 131 = .ok (.bipush 100, 2) := by decide +kernel
theorem dX8_layCosts_133 : decode cX8_layCosts 133 = .ok (.iload 4, 2) := by decide +kernel
theorem dX8_layCosts_135 : decode cX8_layCosts 135 = .ok (.imul, 1) := by decide +kernel
theorem dX8_layCosts_136 : decode cX8_layCosts 136 = .ok (.iload 5, 2) := by decide +kernel
theorem dX8_layCosts_138 : decode cX8_layCosts 138 = .ok (.iadd, 1) := by decide +kernel
theorem dX8_layCosts_139 : decode cX8_layCosts 139 = .ok (.iaload, 1) := by decide +kernel
theorem dX8_layCosts_140 : decode cX8_layCosts 140 = .ok (.iastore, 1) := by decide +kernel
theorem dX8_layCosts_141 : decode cX8_layCosts 141 = .ok (.iinc 6 1, 3) := by decide +kernel
theorem dX8_layCosts_144 : decode cX8_layCosts 144 = .ok (.goto (-76), 3) := by decide +kernel
theorem dX8_layCosts_147 : decode cX8_layCosts 147 = .ok (.iinc 5 1, 3) := by decide +kernel
theorem dX8_layCosts_150 : decode cX8_layCosts 150 = .ok (.goto (-107), 3) := by decide +kernel
theorem dX8_layCosts_153 : decode cX8_layCosts 153 = .ok (.iinc 4 (-1), 3) := by decide +kernel
theorem dX8_layCosts_156 : decode cX8_layCosts 156 = .ok (.goto (-122), 3) := by decide +kernel
theorem dX8_layCosts_159 : decode cX8_layCosts 159 = .ok (.return_, 1) := by decide +kernel
set_option maxRecDepth 20000 in
theorem ggX8_isMeans_X8_in : GoodIn wsX8_isMeans wsX8_in := goodIn_r _ [5] (by decide +kernel) (by decide +kernel)
set_option maxRecDepth 20000 in
theorem gX8_isMeans_X8_in : GoodIn wsX8_isMeans (va_wsS RX8 42 yX8_in wsX8_in) := goodIn_app (goodIn_of _ (by decide +kernel)) ggX8_isMeans_X8_in
theorem dX8_isMeans_0 : decode cX8_isMeans 0 = .ok (.iload_n 0, 1) := by decide +kernel
theorem dX8_isMeans_1 : decode cX8_isMeans 1 = .ok (.i2l, 1) := by decide +kernel
theorem dX8_isMeans_2 : decode cX8_isMeans 2 = .ok (.lconst 0, 1) := by decide +kernel
theorem dX8_isMeans_3 : decode cX8_isMeans 3 = .ok (.ldc2_w 182, 3) := by decide +kernel
theorem dX8_isMeans_6 : decode cX8_isMeans 6 = .ok (.invokestatic 42, 3) := by decide +kernel
theorem dX8_isMeans_9 : decode cX8_isMeans 9 = .ok (.ireturn, 1) := by decide +kernel
set_option maxRecDepth 20000 in
theorem ggX8_areStreets_X8_isStreet : GoodIn wsX8_areStreets wsX8_isStreet := goodIn_r _ [5, 6, 7, 8, 4, 9, 10, 11, 12, 13, 14, 15, 16, 17, 18, 19, 20, 21, 22, 23, 24, 25, 26] (by decide +kernel) (by decide +kernel)
set_option maxRecDepth 20000 in
theorem gX8_areStreets_X8_isStreet : GoodIn wsX8_areStreets (wsV RX8 151 RX8 yX8_isStreet wsX8_isStreet) := goodIn_app (goodIn_of _ (by decide +kernel)) ggX8_areStreets_X8_isStreet
theorem dX8_areStreets_0 : decode cX8_areStreets 0 = .ok (.aload_n 0, 1) := by decide +kernel
theorem dX8_areStreets_1 : decode cX8_areStreets 1 = .ok (.iload_n 1, 1) := by decide +kernel
theorem dX8_areStreets_2 : decode cX8_areStreets 2 = .ok (.invokevirtual 151, 3) := by decide +kernel
theorem dX8_areStreets_5 : decode cX8_areStreets 5 = .ok (.ifCond .eq 20, 3) := by decide +kernel
theorem dX8_areStreets_8 : decode cX8_areStreets 8 = .ok (.aload_n 0, 1) := by decide +kernel
theorem dX8_areStreets_9 : decode cX8_areStreets 9 = .ok (.iload_n 2, 1) := by decide +kernel
theorem dX8_areStreets_10 : decode cX8_areStreets 10 = .ok (.invokevirtual 151, 3) := by decide +kernel
theorem dX8_areStreets_13 : decode cX8_areStreets 13 = .ok (.ifCond .eq 12, 3) := by decide +kernel
theorem dX8_areStreets_16 : decode cX8_areStreets 16 = .ok (.iload_n 1, 1) := by decide +kernel
theorem dX8_areStreets_17 : decode cX8_areStreets 17 = .ok (.iload_n 2, 1) := by decide +kernel
theorem dX8_areStreets_18 : decode cX8_areStreets 18 = .ok (.if_icmp .gt 7, 3) := by decide +kernel
theorem dX8_areStreets_21 : decode cX8_areStreets 21 = .ok (.iconst 1, 1) := by decide +kernel
theorem dX8_areStreets_22 : decode cX8_areStreets 22 = .ok (.goto 4, 3) := by decide +kernel
theorem dX8_areStreets_25 : decode cX8_areStreets 25 = .ok (.iconst 0, 1) := by decide +kernel
theorem dX8_areStreets_26 : decode cX8_areStreets 26 = .ok (.ireturn, 1) := by decide +kernel
set_option maxRecDepth 20000 in
theorem ggX8_tell_X8_isMeans : GoodIn wsX8_tell wsX8_isMeans := goodIn_r _ [12, 13, 14, 15, 11, 16] (by decide +kernel) (by decide +kernel)
set_option maxRecDepth 20000 in
theorem gX8_tell_X8_isMeans : GoodIn wsX8_tell (va_wsS RX8 184 yX8_isMeans wsX8_isMeans) := goodIn_app (goodIn_of _ (by decide +kernel)) ggX8_tell_X8_isMeans
set_option maxRecDepth 20000 in
theorem ggX8_tell_X8_areStreets : GoodIn wsX8_tell wsX8_areStreets := goodIn_r _ [20, 21, 22, 23, 11, 24, 8, 14, 15, 16, 60, 61, 62, 63, 64, 65, 66, 67, 68, 69, 70, 71, 72, 73, 74, 75, 76] (by decide +kernel) (by decide +kernel)
set_option maxRecDepth 20000 in
theorem gX8_tell_X8_areStreets : GoodIn wsX8_tell (wsV RX8 187 RX8 yX8_areStreets wsX8_areStreets) := goodIn_app (goodIn_of _ (by decide +kernel)) ggX8_tell_X8_areStreets
set_option maxRecDepth 20000 in
theorem ggX8_tell_X8_in : GoodIn wsX8_tell wsX8_in := goodIn_r _ [16] (by decide +kernel) (by decide +kernel)
set_option maxRecDepth 20000 in
theorem gX8_tell_X8_in : GoodIn wsX8_tell (va_wsS RX8 42 yX8_in wsX8_in) := goodIn_app (goodIn_of _ (by decide +kernel)) ggX8_tell_X8_in
set_option maxRecDepth 20000 in
theorem ggX8_tell_X8_layCosts : GoodIn wsX8_tell wsX8_layCosts := goodIn_r _ [28, 5, 6, 8, 29, 30, 31, 11, 32, 33, 34, 35, 36, 37, 38, 39, 40, 41, 42, 43, 44, 45, 46, 47, 48, 49, 50, 51, 52, 53, 54, 55, 56, 57, 58, 59, 60, 61, 62, 63, 64, 65, 66, 67, 68, 69, 70, 71, 72, 73, 74, 75, 76] (by decide +kernel) (by decide +kernel)
set_option maxRecDepth 20000 in
theorem gX8_tell_X8_layCosts : GoodIn wsX8_tell (wsV RX8 196 RX8 yX8_layCosts wsX8_layCosts) := goodIn_app (goodIn_of _ (by decide +kernel)) ggX8_tell_X8_layCosts
set_option maxRecDepth 20000 in
theorem ggX8_tell_X8_onBy : GoodIn wsX8_tell wsX8_onBy := goodIn_r _ [32, 8, 5, 6, 33, 34, 35, 11, 36, 37, 38, 39, 40, 41, 42, 43, 44, 45, 46, 47, 48, 49, 50, 51, 52, 53, 54, 55, 56, 57, 58, 59, 60, 61, 62, 63, 64, 65, 66, 67, 68, 69, 70, 71, 72, 73, 74, 75, 76] (by decide +kernel) (by decide +kernel)
set_option maxRecDepth 20000 in
theorem gX8_tell_X8_onBy : GoodIn wsX8_tell (wsV RX8 178 RX8 yX8_onBy wsX8_onBy) := goodIn_app (goodIn_of _ (by decide +kernel)) ggX8_tell_X8_onBy
theorem dX8_tell_0 : decode cX8_tell 0 = .ok (.iload_n 1, 1) := by decide +kernel
theorem dX8_tell_1 : decode cX8_tell 1 = .ok (.invokestatic 184, 3) := by decide +kernel
theorem dX8_tell_4 : decode cX8_tell 4 = .ok (.ifCond .eq 40, 3) := by decide +kernel
theorem dX8_tell_7 : decode cX8_tell 7 = .ok (.aload_n 0, 1) := by decide +kernel
theorem dX8_tell_8 : decode cX8_tell 8 = .ok (.iload_n 2, 1) := by decide +kernel
theorem dX8_tell_9 : decode cX8_tell 9 = .ok (.iload_n 3, 1) := by decide +kernel
theorem dX8_tell_10 : decode cX8_tell 10 = .ok (.invokevirtual 187, 3) := by decide +kernel
theorem dX8_tell_13 : decode cX8_tell 13 = .ok (.ifCond .eq 31, 3) := by decide +kernel
theorem dX8_tell_16 : decode cX8_tell 16 = .ok (.iload 4, 2) := by decide +kernel
theorem dX8_tell_18 : decode cX8_tell 18 = .ok (.i2l, 1) := by decide +kernel
theorem dX8_tell_19 : decode cX8_tell 19 = .ok (.lconst 0, 1) := by decide +kernel
theorem dX8_tell_20 : decode cX8_tell 20 = .ok (.ldc2_w 190, 3) := by decide +kernel
theorem dX8_tell_23 : decode cX8_tell 23 = .ok (.invokestatic 42, 3) := by decide +kernel
theorem dX8_tell_26 : decode cX8_tell 26 = .ok (.ifCond .eq 18, 3) := by decide +kernel
theorem dX8_tell_29 : decode cX8_tell 29 = .ok (.iload 5, 2) := by decide +kernel
theorem dX8_tell_31 : decode cX8_tell 31 = .ok (.i2l, 1) := by decide +kernel
theorem dX8_tell_32 : decode cX8_tell 32 = .ok (.ldc2_w 192, 3) := by decide +kernel
theorem dX8_tell_35 : decode cX8_tell 35 = .ok (.ldc2_w 194, 3) := by decide +kernel
theorem dX8_tell_38 : decode cX8_tell 38 = .ok (.invokestatic 42, 3) := by decide +kernel
theorem dX8_tell_41 : decode cX8_tell 41 = .ok (.ifCond .ne 6, 3) := by decide +kernel
theorem dX8_tell_44 : decode cX8_tell 44 = .ok (.ldc 52, 2) := by decide +kernel
theorem dX8_tell_46 : decode cX8_tell 46 = .ok (.ireturn, 1) := by decide +kernel
theorem dX8_tell_47 : decode cX8_tell 47 = .ok (.aload_n 0, 1) := by decide +kernel
theorem dX8_tell_48 : decode cX8_tell 48 = .ok (.iload_n 1, 1) := by decide +kernel
theorem dX8_tell_49 : decode cX8_tell 49 = .ok (.iload_n 2, 1) := by decide +kernel
theorem dX8_tell_50 : decode cX8_tell 50 = .ok (.iload_n 3, 1) := by decide +kernel
theorem dX8_tell_51 : decode cX8_tell 51 = .ok (.invokevirtual 196, 3) := by decide +kernel
theorem dX8_tell_54 : decode cX8_tell 54 = .ok (.aload_n 0, 1) := by decide +kernel
theorem dX8_tell_55 : decode cX8_tell 55 = .ok (.getfield 32, 3) := by decide +kernel
theorem dX8_tell_58 : decode cX8_tell 58 = .ok (.bipush 100, 2) := by decide +kernel
theorem dX8_tell_60 : decode cX8_tell 60 = .ok (.iload_n 2, 1) := by decide +kernel
theorem dX8_tell_61 : decode cX8_tell 61 = .ok (.imul, 1) := by decide +kernel
theorem dX8_tell_62 : decode cX8_tell 62 = .ok (.iload 4, 2) := by decide +kernel
theorem dX8_tell_64 : decode cX8_tell 64 = .ok (.iadd, 1) := by decide +kernel
theorem dX8_tell_65 : decode cX8_tell 65 = .ok (.iaload, 1) := by decide +kernel
theorem dX8_tell_66 : decode cX8_tell 66 = .ok (.istore 6, 2) := by decide +kernel
theorem dX8_tell_68 : decode cX8_tell 68 = .ok (.iload 6, 2) := by decide +kernel
theorem dX8_tell_70 : decode cX8_tell 70 = .ok (.ldc 177, 2) := by decide +kernel
theorem dX8_tell_72 : decode cX8_tell 72 = .ok (.if_icmp .ge 11, 3) := by decide +kernel
theorem dX8_tell_75 : decode cX8_tell 75 = .ok (.iload 5, 2) := by decide +kernel
theorem dX8_tell_77 : decode cX8_tell 77 = .ok (.iload_n 3, 1) := by decide +kernel
theorem dX8_tell_78 : decode cX8_tell 78 = .ok (.iload_n 2, 1) := by decide +kernel
theorem dX8_tell_79 : decode cX8_tell 79 = .ok (.isub, 1) := by decide +kernel
theorem dX8_tell_80 : decode cX8_tell 80 = .ok (.if_icmp .le 6, 3) := by decide +kernel
theorem dX8_tell_83 : decode cX8_tell 83 = .ok (.ldc 200, 2) := by decide +kernel
theorem dX8_tell_85 : decode cX8_tell 85 = .ok (.ireturn, 1) := by decide +kernel
theorem dX8_tell_86 : decode cX8_tell 86 = .ok (.iload 4, 2) := by decide +kernel
theorem dX8_tell_88 : decode cX8_tell 88 = .ok (.istore 7, 2) := by decide +kernel
theorem dX8_tell_90 : decode cX8_tell 90 = .ok (.ldc 200, 2) := by decide +kernel
theorem dX8_tell_92 : decode cX8_tell 92 = .ok (.istore 8, 2) := by decide +kernel
theorem dX8_tell_94 : decode cX8_tell 94 = .ok (.iload_n 2, 1) := by decide +kernel
theorem dX8_tell_95 : decode cX8_tell 95 = .ok (.istore 9, 2) := by decide +kernel
theorem dX8_tell_97 : decode cX8_tell 97 = .ok (.iload 9, 2) := by decide +kernel
theorem dX8_tell_99 : decode cX8_tell 99 = .ok (.iload_n 2, 1) := by decide +kernel
theorem dX8_tell_100 : decode cX8_tell 100 = .ok (.iload 5, 2) := by decide +kernel
theorem dX8_tell_102 : decode cX8_tell 102 = .ok (.iadd, 1) := by decide +kernel
theorem dX8_tell_103 : decode cX8_tell 103 = .ok (.if_icmp .gt 60, 3) := by decide +kernel
theorem dX8_tell_106 : decode cX8_tell 106 = .ok (.iconst 0, 1) := by decide +kernel
theorem dX8_tell_107 : decode cX8_tell 107 = .ok (.istore 8, 2) := by decide +kernel
theorem dX8_tell_109 : decode cX8_tell 109 = .ok (.aload_n 0, 1) := by decide +kernel
theorem dX8_tell_110 : decode cX8_tell 110 = .ok (.iload 8, 2) := by decide +kernel
theorem dX8_tell_112 : decode cX8_tell 112 = .ok (.iload_n 1, 1) := by decide +kernel
theorem dX8_tell_113 : decode cX8_tell 113 = .ok (.iload 9, 2) := by decide +kernel
theorem dX8_tell_115 : decode cX8_tell 115 = .ok (.iload 7, 2) := by decide +kernel
theorem dX8_tell_117 : decode cX8_tell 117 = .ok (.invokevirtual 178, 3) := by decide +kernel
theorem dX8_tell_120 : decode cX8_tell 120 = .ok (.aload_n 0, 1) := by decide +kernel
theorem dX8_tell_121 : decode cX8_tell 121 = .ok (.getfield 32, 3) := by decide +kernel
theorem dX8_tell_124 : decode cX8_tell 124 = .ok (.bipush 100, 2) := by decide +kernel
theorem dX8_tell_126 : decode cX8_tell 126 = .ok (.iload 9, 2) := by decide +kernel
theorem dX8_tell_128 : decode cX8_tell 128 = .ok (.imul, 1) := by decide +kernel
theorem dX8_tell_129 : decode cX8_tell 129 = .ok (.iload 7, 2) := by decide +kernel
theorem dX8_tell_131 : decode cX8_tell 131 = .ok (.iadd, 1) := by decide +kernel
theorem dX8_tell_132 : decode cX8_tell 132 = .ok (.iaload, 1) := by decide +kernel
theorem dX8_tell_133 : decode cX8_tell 133 = .ok (.if_icmp .eq 9, 3) := by decide +kernel
theorem dX8_tell_136 : decode cX8_tell 136 = .ok (.iinc 8 1, 3) := by decide +kernel
theorem dX8_tell_139 : decode cX8_tell 139 = .ok (.goto (-30), 3) := by decide +kernel
theorem dX8_tell_142 : decode cX8_tell 142 = .ok (.iload 7, 2) := by decide +kernel
theorem dX8_tell_144 : decode cX8_tell 144 = .ok (.aload_n 0, 1) := by decide +kernel
theorem dX8_tell_145 : decode cX8_tell 145 = .ok (.getfield 7, 3) := by decide +kernel
theorem dX8_tell_148 : decode cX8_tell 148 = .ok (.bipush 37, 2) := by decide +kernel
theorem dX8_tell_150 : decode cX8_tell 150 = .ok (.iload 8, 2) := by decide +kernel
theorem dX8_tell_152 : decode cX8_tell 152 = .ok (.iadd, 1) := by decide +kernel
theorem dX8_tell_153 : decode cX8_tell 153 = .ok (.iaload, 1) := by decide +kernel
theorem dX8_tell_154 : decode cX8_tell 154 = .ok (.isub, 1) := by decide +kernel
theorem dX8_tell_155 : decode cX8_tell 155 = .ok (.istore 7, 2) := by decide +kernel
theorem dX8_tell_157 : decode cX8_tell 157 = .ok (.iinc 9 1, 3) := by decide +kernel
theorem dX8_tell_160 : decode cX8_tell 160 = .ok (.goto (-63), 3) := by decide +kernel
theorem dX8_tell_163 : decode cX8_tell 163 = .ok (.iload 5, 2) := by decide +kernel
theorem dX8_tell_165 : decode cX8_tell 165 = .ok (.ifCond .ge 8, 3) := by decide +kernel
theorem dX8_tell_168 : decode cX8_tell 168 = .ok (.iload 6, 2) := by decide +kernel
theorem dX8_tell_170 : decode cX8_tell 170 = .ok (.goto 5, 3) := by decide +kernel
theorem dX8_tell_173 : decode cX8_tell 173 = .ok (.iload 8, 2) := by decide +kernel
theorem dX8_tell_175 : decode cX8_tell 175 = .ok (.ireturn, 1) := by decide +kernel
set_option maxRecDepth 20000 in
theorem ggX8_soonest_X8_tells : GoodIn wsX8_soonest wsX8_tells := goodIn_r _ [7, 2, 8, 9, 10, 6, 11, 12, 13, 14, 15, 16, 17, 18, 19, 20, 21, 22, 23, 24, 25, 26, 27, 28] (by decide +kernel) (by decide +kernel)
set_option maxRecDepth 20000 in
theorem gX8_soonest_X8_tells : GoodIn wsX8_soonest (wsV RX8 174 RX8 yX8_tells wsX8_tells) := goodIn_app (goodIn_of _ (by decide +kernel)) ggX8_soonest_X8_tells
theorem dX8_soonest_0 : decode cX8_soonest 0 = .ok (.ldc 200, 2) := by decide +kernel
theorem dX8_soonest_2 : decode cX8_soonest 2 = .ok (.istore_n 3, 1) := by decide +kernel
theorem dX8_soonest_3 : decode cX8_soonest 3 = .ok (.iconst 0, 1) := by decide +kernel
theorem dX8_soonest_4 : decode cX8_soonest 4 = .ok (.istore 4, 2) := by decide +kernel
theorem dX8_soonest_6 : decode cX8_soonest 6 = .ok (.iload 4, 2) := by decide +kernel
theorem dX8_soonest_8 : decode cX8_soonest 8 = .ok (.aload_n 0, 1) := by decide +kernel
theorem dX8_soonest_9 : decode cX8_soonest 9 = .ok (.getfield 7, 3) := by decide +kernel
theorem dX8_soonest_12 : decode cX8_soonest 12 = .ok (.iconst 2, 1) := by decide +kernel
theorem dX8_soonest_13 : decode cX8_soonest 13 = .ok (.iaload, 1) := by decide +kernel
theorem dX8_soonest_14 : decode cX8_soonest 14 = .ok (.if_icmp .ge 67, 3) := by decide +kernel
theorem dX8_soonest_17 : decode cX8_soonest 17 = .ok (.aload_n 0, 1) := by decide +kernel
theorem dX8_soonest_18 : decode cX8_soonest 18 = .ok (.iload 4, 2) := by decide +kernel
theorem dX8_soonest_20 : decode cX8_soonest 20 = .ok (.iload_n 1, 1) := by decide +kernel
theorem dX8_soonest_21 : decode cX8_soonest 21 = .ok (.iload_n 2, 1) := by decide +kernel
theorem dX8_soonest_22 : decode cX8_soonest 22 = .ok (.invokevirtual 174, 3) := by decide +kernel
theorem dX8_soonest_25 : decode cX8_soonest 25 = .ok (.ifCond .eq 27, 3) := by decide +kernel
theorem dX8_soonest_28 : decode cX8_soonest 28 = .ok (.iload_n 3, 1) := by decide +kernel
theorem dX8_soonest_29 : decode cX8_soonest 29 = .ok (.ldc 200, 2) := by decide +kernel
theorem dX8_soonest_31 : decode cX8_soonest 31 = .ok (.if_icmp .eq 17, 3) := by decide +kernel
theorem dX8_soonest_34 : decode cX8_soonest 34 = .ok (.aload_n 0, 1) := by decide +kernel
theorem dX8_soonest_35 : decode cX8_soonest 35 = .ok (.getfield 7, 3) := by decide +kernel
theorem dX8_soonest_38 : decode cX8_soonest 38 = .ok (.bipush 37, 2) := by decide +kernel
theorem dX8_soonest_40 : decode cX8_soonest 40 = .ok (.iload 4, 2) := by decide +kernel
theorem dX8_soonest_42 : decode cX8_soonest 42 = .ok (.iadd, 1) := by decide +kernel
theorem dX8_soonest_43 : decode cX8_soonest 43 = .ok (.iaload, 1) := by decide +kernel
theorem dX8_soonest_44 : decode cX8_soonest 44 = .ok (.iload_n 3, 1) := by decide +kernel
theorem dX8_soonest_45 : decode cX8_soonest 45 = .ok (.if_icmp .ge 7, 3) := by decide +kernel
theorem dX8_soonest_48 : decode cX8_soonest 48 = .ok (.iconst 1, 1) := by decide +kernel
theorem dX8_soonest_49 : decode cX8_soonest 49 = .ok (.goto 4, 3) := by decide +kernel
theorem dX8_soonest_52 : decode cX8_soonest 52 = .ok (.iconst 0, 1) := by decide +kernel
theorem dX8_soonest_53 : decode cX8_soonest 53 = .ok (.istore 5, 2) := by decide +kernel
theorem dX8_soonest_55 : decode cX8_soonest 55 = .ok (.iload 5, 2) := by decide +kernel
theorem dX8_soonest_57 : decode cX8_soonest 57 = .ok (.ifCond .eq 16, 3) := by decide +kernel
theorem dX8_soonest_60 : decode cX8_soonest 60 = .ok (.aload_n 0, 1) := by decide +kernel
theorem dX8_soonest_61 : decode cX8_soonest 61 = .ok (.getfield 7, 3) := by decide +kernel
theorem dX8_soonest_64 : decode cX8_soonest 64 = .ok (.bipush 37, 2) := by decide +kernel
theorem dX8_soonest_66 : decode cX8_soonest 66 = .ok (.iload 4, 2) := by decide +kernel
theorem dX8_soonest_68 : decode cX8_soonest 68 = .ok (.iadd, 1) := by decide +kernel
theorem dX8_soonest_69 : decode cX8_soonest 69 = .ok (.iaload, 1) := by decide +kernel
theorem dX8_soonest_70 : decode cX8_soonest 70 = .ok (.goto 4, 3) := by decide +kernel
theorem dX8_soonest_73 : decode cX8_soonest 73 = .ok (.iload_n 3, 1) := by decide +kernel
theorem dX8_soonest_74 : decode cX8_soonest 74 = .ok (.istore_n 3, 1) := by decide +kernel
theorem dX8_soonest_75 : decode cX8_soonest 75 = .ok (.iinc 4 1, 3) := by decide +kernel
theorem dX8_soonest_78 : decode cX8_soonest 78 = .ok (.goto (-72), 3) := by decide +kernel
theorem dX8_soonest_81 : decode cX8_soonest 81 = .ok (.iload_n 3, 1) := by decide +kernel
theorem dX8_soonest_82 : decode cX8_soonest 82 = .ok (.ireturn, 1) := by decide +kernel
set_option maxRecDepth 20000 in
theorem ggX8_shut_X8_isMeans : GoodIn wsX8_shut wsX8_isMeans := goodIn_r _ [9, 10, 11, 12, 8, 13] (by decide +kernel) (by decide +kernel)
set_option maxRecDepth 20000 in
theorem gX8_shut_X8_isMeans : GoodIn wsX8_shut (va_wsS RX8 184 yX8_isMeans wsX8_isMeans) := goodIn_app (goodIn_of _ (by decide +kernel)) ggX8_shut_X8_isMeans
set_option maxRecDepth 20000 in
theorem ggX8_shut_X8_soonest : GoodIn wsX8_shut wsX8_soonest := goodIn_r _ [17, 5, 4, 18, 19, 20, 8, 21, 22, 23, 24, 25, 26, 27, 28, 29, 30, 31, 32, 33, 34, 35, 36, 37, 38, 39, 40, 41, 42] (by decide +kernel) (by decide +kernel)
set_option maxRecDepth 20000 in
theorem gX8_shut_X8_soonest : GoodIn wsX8_shut (wsV RX8 201 RX8 yX8_soonest wsX8_soonest) := goodIn_app (goodIn_of _ (by decide +kernel)) ggX8_shut_X8_soonest
theorem dX8_shut_0 : decode cX8_shut 0 = .ok (.aload_n 0, 1) := by decide +kernel
theorem dX8_shut_1 : decode cX8_shut 1 = .ok (.getfield 127, 3) := by decide +kernel
theorem dX8_shut_4 : decode cX8_shut 4 = .ok (.ifCond .ne 6, 3) := by decide +kernel
theorem dX8_shut_7 : decode cX8_shut 7 = .ok (.ldc 134, 2) := by decide +kernel
theorem dX8_shut_9 : decode cX8_shut 9 = .ok (.ireturn, 1) := by decide +kernel
theorem dX8_shut_10 : decode cX8_shut 10 = .ok (.iload_n 1, 1) := by decide +kernel
theorem dX8_shut_11 : decode cX8_shut 11 = .ok (.invokestatic 184, 3) := by decide +kernel
theorem dX8_shut_14 : decode cX8_shut 14 = .ok (.ifCond .ne 6, 3) := by decide +kernel
theorem dX8_shut_17 : decode cX8_shut 17 = .ok (.ldc 52, 2) := by decide +kernel
theorem dX8_shut_19 : decode cX8_shut 19 = .ok (.ireturn, 1) := by decide +kernel
theorem dX8_shut_20 : decode cX8_shut 20 = .ok (.iconst 0, 1) := by decide +kernel
theorem dX8_shut_21 : decode cX8_shut 21 = .ok (.istore_n 2, 1) := by decide +kernel
theorem dX8_shut_22 : decode cX8_shut 22 = .ok (.iconst 0, 1) := by decide +kernel
theorem dX8_shut_23 : decode cX8_shut 23 = .ok (.istore_n 3, 1) := by decide +kernel
theorem dX8_shut_24 : decode cX8_shut 24 = .ok (.iload_n 3, 1) := by decide +kernel
theorem dX8_shut_25 : decode cX8_shut 25 = .ok (.aload_n 0, 1) := by decide +kernel
theorem dX8_shut_26 : decode cX8_shut 26 = .ok (.getfield 7, 3) := by decide +kernel
theorem dX8_shut_29 : decode cX8_shut 29 = .ok (.iconst 1, 1) := by decide +kernel
theorem dX8_shut_30 : decode cX8_shut 30 = .ok (.iaload, 1) := by decide +kernel
theorem dX8_shut_31 : decode cX8_shut 31 = .ok (.if_icmp .ge 30, 3) := by decide +kernel
theorem dX8_shut_34 : decode cX8_shut 34 = .ok (.iload_n 2, 1) := by decide +kernel
theorem dX8_shut_35 : decode cX8_shut 35 = .ok (.aload_n 0, 1) := by decide +kernel
theorem dX8_shut_36 : decode cX8_shut 36 = .ok (.iload_n 1, 1) := by decide +kernel
theorem dX8_shut_37 : decode cX8_shut 37 = .ok (.iload_n 3, 1) := by decide +kernel
theorem dX8_shut_38 : decode cX8_shut 38 = .ok (.invokevirtual 201, 3) := by decide +kernel
theorem dX8_shut_41 : decode cX8_shut 41 = .ok (.ldc 200, 2) := by decide +kernel
theorem dX8_shut_43 : decode cX8_shut 43 = .ok (.if_icmp .ne 9, 3) := by decide +kernel
theorem dX8_shut_46 : decode cX8_shut 46 = .ok (.iconst 1, 1) := by decide +kernel
theorem dX8_shut_47 : decode cX8_shut 47 = .ok (.iload_n 3, 1) := by decide +kernel
theorem dX8_shut_48 : decode cX8_shut 48 = .ok (.ishl, 1) := by decide +kernel
theorem dX8_shut_49 : decode cX8_shut 49 = .ok (.goto 4, 3) := by decide +kernel
theorem dX8_shut_52 : decode cX8_shut 52 = .ok (.iconst 0, 1) := by decide +kernel
theorem dX8_shut_53 : decode cX8_shut 53 = .ok (.ior, 1) := by decide +kernel
theorem dX8_shut_54 : decode cX8_shut 54 = .ok (.istore_n 2, 1) := by decide +kernel
theorem dX8_shut_55 : decode cX8_shut 55 = .ok (.iinc 3 1, 3) := by decide +kernel
theorem dX8_shut_58 : decode cX8_shut 58 = .ok (.goto (-34), 3) := by decide +kernel
theorem dX8_shut_61 : decode cX8_shut 61 = .ok (.iload_n 2, 1) := by decide +kernel
theorem dX8_shut_62 : decode cX8_shut 62 = .ok (.ireturn, 1) := by decide +kernel
set_option maxRecDepth 20000 in
theorem ggX8_quick_X8_isMeans : GoodIn wsX8_quick wsX8_isMeans := goodIn_r _ [6, 7, 8, 9, 5, 10] (by decide +kernel) (by decide +kernel)
set_option maxRecDepth 20000 in
theorem gX8_quick_X8_isMeans : GoodIn wsX8_quick (va_wsS RX8 184 yX8_isMeans wsX8_isMeans) := goodIn_app (goodIn_of _ (by decide +kernel)) ggX8_quick_X8_isMeans
set_option maxRecDepth 20000 in
theorem ggX8_quick_X8_areStreets : GoodIn wsX8_quick wsX8_areStreets := goodIn_r _ [14, 15, 16, 17, 5, 18, 19, 8, 9, 10, 32, 33, 34, 35, 36, 37, 38, 39, 40, 41, 42, 43, 44, 45, 46, 47, 48] (by decide +kernel) (by decide +kernel)
set_option maxRecDepth 20000 in
theorem gX8_quick_X8_areStreets : GoodIn wsX8_quick (wsV RX8 187 RX8 yX8_areStreets wsX8_areStreets) := goodIn_app (goodIn_of _ (by decide +kernel)) ggX8_quick_X8_areStreets
set_option maxRecDepth 20000 in
theorem ggX8_quick_X8_soonest : GoodIn wsX8_quick wsX8_soonest := goodIn_r _ [23, 2, 19, 24, 25, 26, 5, 27, 28, 29, 30, 31, 32, 33, 34, 35, 36, 37, 38, 39, 40, 41, 42, 43, 44, 45, 46, 47, 48] (by decide +kernel) (by decide +kernel)
set_option maxRecDepth 20000 in
theorem gX8_quick_X8_soonest : GoodIn wsX8_quick (wsV RX8 201 RX8 yX8_soonest wsX8_soonest) := goodIn_app (goodIn_of _ (by decide +kernel)) ggX8_quick_X8_soonest
theorem dX8_quick_0 : decode cX8_quick 0 = .ok (.iload_n 1, 1) := by decide +kernel
theorem dX8_quick_1 : decode cX8_quick 1 = .ok (.invokestatic 184, 3) := by decide +kernel
theorem dX8_quick_4 : decode cX8_quick 4 = .ok (.ifCond .eq 12, 3) := by decide +kernel
theorem dX8_quick_7 : decode cX8_quick 7 = .ok (.aload_n 0, 1) := by decide +kernel
theorem dX8_quick_8 : decode cX8_quick 8 = .ok (.iload_n 2, 1) := by decide +kernel
theorem dX8_quick_9 : decode cX8_quick 9 = .ok (.iload_n 3, 1) := by decide +kernel
theorem dX8_quick_10 : decode cX8_quick 10 = .ok (.invokevirtual 187, 3) := by decide +kernel
theorem dX8_quick_13 : decode cX8_quick 13 = .ok (.ifCond .ne 6, 3) := by decide +kernel
theorem dX8_quick_16 : decode cX8_quick 16 = .ok (.ldc 52, 2) := by decide +kernel
theorem dX8_quick_18 : decode cX8_quick 18 = .ok (.ireturn, 1) := by decide +kernel
theorem dX8_quick_19 : decode cX8_quick 19 = .ok (.iconst 0, 1) := by decide +kernel
theorem dX8_quick_20 : decode cX8_quick 20 = .ok (.istore 4, 2) := by decide +kernel
theorem dX8_quick_22 : decode cX8_quick 22 = .ok (.iload_n 2, 1) := by decide +kernel
theorem dX8_quick_23 : decode cX8_quick 23 = .ok (.istore 5, 2) := by decide +kernel
theorem dX8_quick_25 : decode cX8_quick 25 = .ok (.iload 5, 2) := by decide +kernel
theorem dX8_quick_27 : decode cX8_quick 27 = .ok (.iload_n 3, 1) := by decide +kernel
theorem dX8_quick_28 : decode cX8_quick 28 = .ok (.if_icmp .gt 36, 3) := by decide +kernel
theorem dX8_quick_31 : decode cX8_quick 31 = .ok (.aload_n 0, 1) := by decide +kernel
theorem dX8_quick_32 : decode cX8_quick 32 = .ok (.iload_n 1, 1) := by decide +kernel
theorem dX8_quick_33 : decode cX8_quick 33 = .ok (.iload 5, 2) := by decide +kernel
theorem dX8_quick_35 : decode cX8_quick 35 = .ok (.invokevirtual 201, 3) := by decide +kernel
theorem dX8_quick_38 : decode cX8_quick 38 = .ok (.ldc 200, 2) := by decide +kernel
theorem dX8_quick_40 : decode cX8_quick 40 = .ok (.if_icmp .ne 6, 3) := by decide +kernel
theorem dX8_quick_43 : decode cX8_quick 43 = .ok (.ldc 200, 2) := by decide +kernel
theorem dX8_quick_45 : decode cX8_quick 45 = .ok (.ireturn, 1) := by decide +kernel
theorem dX8_quick_46 : decode cX8_quick 46 = .ok (.iload 4, 2) := by decide +kernel
theorem dX8_quick_48 : decode cX8_quick 48 = .ok (.aload_n 0, 1) := by decide +kernel
theorem dX8_quick_49 : decode cX8_quick 49 = .ok (.iload_n 1, 1) := by decide +kernel
theorem dX8_quick_50 : decode cX8_quick 50 = .ok (.iload 5, 2) := by decide +kernel
theorem dX8_quick_52 : decode cX8_quick 52 = .ok (.invokevirtual 201, 3) := by decide +kernel
theorem dX8_quick_55 : decode cX8_quick 55 = .ok (.iadd, 1) := by decide +kernel
theorem dX8_quick_56 : decode cX8_quick 56 = .ok (.istore 4, 2) := by decide +kernel
theorem dX8_quick_58 : decode cX8_quick 58 = .ok (.iinc 5 1, 3) := by decide +kernel
theorem dX8_quick_61 : decode cX8_quick 61 = .ok (.goto (-36), 3) := by decide +kernel
theorem dX8_quick_64 : decode cX8_quick 64 = .ok (.iload 4, 2) := by decide +kernel
theorem dX8_quick_66 : decode cX8_quick 66 = .ok (.ireturn, 1) := by decide +kernel
set_option maxRecDepth 20000 in
theorem ggX8_noPairs_X8_find : GoodIn wsX8_noPairs wsX8_find := goodIn_r _ [8, 9, 10, 23, 24, 25, 26, 27, 28, 29, 30, 31, 32, 33, 34, 35, 36, 37, 38, 39] (by decide +kernel) (by decide +kernel)
set_option maxRecDepth 20000 in
theorem gX8_noPairs_X8_find : GoodIn wsX8_noPairs (wsV RX8 53 RX8 yX8_find wsX8_find) := goodIn_app (goodIn_of _ (by decide +kernel)) ggX8_noPairs_X8_find
set_option maxRecDepth 20000 in
theorem ggX8_noPairs_X8_isSpan : GoodIn wsX8_noPairs wsX8_isSpan := goodIn_r _ [14, 1, 23, 24, 25, 26, 27, 28, 29, 30, 31, 32, 33, 34, 35, 36, 37, 38, 39] (by decide +kernel) (by decide +kernel)
set_option maxRecDepth 20000 in
theorem gX8_noPairs_X8_isSpan : GoodIn wsX8_noPairs (wsV RX8 64 RX8 yX8_isSpan wsX8_isSpan) := goodIn_app (goodIn_of _ (by decide +kernel)) ggX8_noPairs_X8_isSpan
set_option maxRecDepth 20000 in
theorem ggX8_noPairs_X8_isStreet : GoodIn wsX8_noPairs wsX8_isStreet := goodIn_r _ [18, 19, 20, 21, 7, 22, 23, 24, 25, 26, 27, 28, 29, 30, 31, 32, 33, 34, 35, 36, 37, 38, 39] (by decide +kernel) (by decide +kernel)
set_option maxRecDepth 20000 in
theorem gX8_noPairs_X8_isStreet : GoodIn wsX8_noPairs (wsV RX8 151 RX8 yX8_isStreet wsX8_isStreet) := goodIn_app (goodIn_of _ (by decide +kernel)) ggX8_noPairs_X8_isStreet
theorem dX8_noPairs_0 : decode cX8_noPairs 0 = .ok (.aload_n 0, 1) := by decide +kernel
theorem dX8_noPairs_1 : decode cX8_noPairs 1 = .ok (.getfield 20, 3) := by decide +kernel
theorem dX8_noPairs_4 : decode cX8_noPairs 4 = .ok (.iload_n 1, 1) := by decide +kernel
theorem dX8_noPairs_5 : decode cX8_noPairs 5 = .ok (.iaload, 1) := by decide +kernel
theorem dX8_noPairs_6 : decode cX8_noPairs 6 = .ok (.ifCond .ge 9, 3) := by decide +kernel
theorem dX8_noPairs_9 : decode cX8_noPairs 9 = .ok (.aload_n 0, 1) := by decide +kernel
theorem dX8_noPairs_10 : decode cX8_noPairs 10 = .ok (.iconst 1, 1) := by decide +kernel
theorem dX8_noPairs_11 : decode cX8_noPairs 11 = .ok (.invokevirtual 53, 3) := by decide +kernel
theorem dX8_noPairs_14 : decode cX8_noPairs 14 = .ok (.ireturn, 1) := by decide +kernel
theorem dX8_noPairs_15 : decode cX8_noPairs 15 = .ok (.aload_n 0, 1) := by decide +kernel
theorem dX8_noPairs_16 : decode cX8_noPairs 16 = .ok (.iload_n 1, 1) := by decide +kernel
theorem dX8_noPairs_17 : decode cX8_noPairs 17 = .ok (.iload_n 2, 1) := by decide +kernel
theorem dX8_noPairs_18 : decode cX8_noPairs 18 = .ok (.iconst 2, 1) := by decide +kernel
theorem dX8_noPairs_19 : decode cX8_noPairs 19 = .ok (.iload_n 3, 1) := by decide +kernel
theorem dX8_noPairs_20 : decode cX8_noPairs 20 = .ok (.imul, 1) := by decide +kernel
theorem dX8_noPairs_21 : decode cX8_noPairs 21 = .ok (.invokevirtual 64, 3) := by decide +kernel
theorem dX8_noPairs_24 : decode cX8_noPairs 24 = .ok (.ifCond .ne 9, 3) := by decide +kernel
theorem dX8_noPairs_27 : decode cX8_noPairs 27 = .ok (.aload_n 0, 1) := by decide +kernel
theorem dX8_noPairs_28 : decode cX8_noPairs 28 = .ok (.iconst 2, 1) := by decide +kernel
theorem dX8_noPairs_29 : decode cX8_noPairs 29 = .ok (.invokevirtual 53, 3) := by decide +kernel
theorem dX8_noPairs_32 : decode cX8_noPairs 32 = .ok (.ireturn, 1) := by decide +kernel
theorem dX8_noPairs_33 : decode cX8_noPairs 33 = .ok (.iconst 1, 1) := by decide +kernel
theorem dX8_noPairs_34 : decode cX8_noPairs 34 = .ok (.istore 4, 2) := by decide +kernel
theorem dX8_noPairs_36 : decode cX8_noPairs 36 = .ok (.iconst 0, 1) := by decide +kernel
theorem dX8_noPairs_37 : decode cX8_noPairs 37 = .ok (.istore 5, 2) := by decide +kernel
theorem dX8_noPairs_39 : decode cX8_noPairs 39 = .ok (.iload 5, 2) := by decide +kernel
theorem dX8_noPairs_41 : decode cX8_noPairs 41 = .ok (.iload_n 3, 1) := by decide +kernel
theorem dX8_noPairs_42 : decode cX8_noPairs 42 = .ok (.if_icmp .ge 44, 3) := by decide +kernel
theorem dX8_noPairs_45 : decode cX8_noPairs 45 = .ok (.iload 4, 2) := by decide +kernel
theorem dX8_noPairs_47 : decode cX8_noPairs 47 = .ok (.ifCond .eq 30, 3) := by decide +kernel
theorem dX8_noPairs_50 : decode cX8_noPairs 50 = .ok (.aload_n 0, 1) := by decide +kernel
theorem dX8_noPairs_51 : decode cX8_noPairs 51 = .ok (.aload_n 0, 1) := by decide +kernel
theorem dX8_noPairs_52 : decode cX8_noPairs 52 = .ok (.getfield 23, 3) := by decide +kernel
theorem dX8_noPairs_55 : decode cX8_noPairs 55 = .ok (.bipush 40, 2) := by decide +kernel
theorem dX8_noPairs_57 : decode cX8_noPairs 57 = .ok (.iload_n 1, 1) := by decide +kernel
theorem dX8_noPairs_58 : decode cX8_noPairs 58 = .ok (.imul, 1) := by decide +kernel
theorem dX8_noPairs_59 : decode cX8_noPairs 59 = .ok (.iload_n 2, 1) := by decide +kernel
theorem dX8_noPairs_60 : decode cX8_noPairs 60 = .ok (.iadd, 1) := by decide +kernel
theorem dX8_noPairs_61 : decode cX8_noPairs 61 = .ok (.iconst 2, 1) := by decide +kernel
theorem dX8_noPairs_62 : decode cX8_noPairs 62 = .ok (.iload 5, 2) := by decide +kernel
theorem dX8_noPairs_64 : decode cX8_noPairs 64 = .ok (.imul, 1) := by decide +kernel
theorem dX8_noPairs_65 : decode cX8_noPairs 65 = .ok (.iadd, 1) := by decide +kernel
theorem dX8_noPairs_66 : decode cX8_noPairs 66 = .ok (.iaload, 1) := by decide +kernel
theorem dX8_noPairs_67 : decode cX8_noPairs 67 = .ok (.invokevirtual 151, 3) := by decide +kernel
theorem dX8_noPairs_70 : decode cX8_noPairs 70 = .ok (.ifCond .eq 7, 3) := by decide +kernel
theorem dX8_noPairs_73 : decode cX8_noPairs 73 = .ok (.iconst 1, 1) := by decide +kernel
theorem dX8_noPairs_74 : decode cX8_noPairs 74 = .ok (.goto 4, 3) := by decide +kernel
theorem dX8_noPairs_77 : decode cX8_noPairs 77 = .ok (.iconst 0, 1) := by decide +kernel
theorem dX8_noPairs_78 : decode cX8_noPairs 78 = .ok (.istore 4, 2) := by decide +kernel
theorem dX8_noPairs_80 : decode cX8_noPairs 80 = .ok (.iinc 5 1, 3) := by decide +kernel
theorem dX8_noPairs_83 : decode cX8_noPairs 83 = .ok (.goto (-44), 3) := by decide +kernel
theorem dX8_noPairs_86 : decode cX8_noPairs 86 = .ok (.iload 4, 2) := by decide +kernel
theorem dX8_noPairs_88 : decode cX8_noPairs 88 = .ok (.ifCond .eq 7, 3) := by decide +kernel
theorem dX8_noPairs_91 : decode cX8_noPairs 91 = .ok (.iconst 0, 1) := by decide +kernel
theorem dX8_noPairs_92 : decode cX8_noPairs 92 = .ok (.goto 5, 3) := by decide +kernel
theorem dX8_noPairs_95 : decode cX8_noPairs 95 = .ok (.ldc 52, 2) := by decide +kernel
theorem dX8_noPairs_97 : decode cX8_noPairs 97 = .ok (.ireturn, 1) := by decide +kernel
set_option maxRecDepth 20000 in
theorem ggX8_owesSo_X8_owes : GoodIn wsX8_owesSo wsX8_owes := goodIn_r _ [6, 7, 8, 9, 10, 5, 11, 12, 13, 14, 15, 16, 17, 18, 19, 20, 21, 22, 23, 24, 25, 26, 27, 28, 29, 30, 31, 32, 33, 34, 35] (by decide +kernel) (by decide +kernel)
set_option maxRecDepth 20000 in
theorem gX8_owesSo_X8_owes : GoodIn wsX8_owesSo (wsV RX8 145 RX8 yX8_owes wsX8_owes) := goodIn_app (goodIn_of _ (by decide +kernel)) ggX8_owesSo_X8_owes
theorem dX8_owesSo_0 : decode cX8_owesSo 0 = .ok (.iconst 1, 1) := by decide +kernel
theorem dX8_owesSo_1 : decode cX8_owesSo 1 = .ok (.istore 6, 2) := by decide +kernel
theorem dX8_owesSo_3 : decode cX8_owesSo 3 = .ok (.bipush 40, 2) := by decide +kernel
end
section
theorem dX8_owesSo_5 : decode cX8_owesSo 5 = .ok (.iload_n 3, 1) := by decide +kernel
theorem dX8_owesSo_6 : decode cX8_owesSo 6 = .ok (.imul, 1) := by decide +kernel
theorem dX8_owesSo_7 : decode cX8_owesSo 7 = .ok (.iload 4, 2) := by decide +kernel
theorem dX8_owesSo_9 : decode cX8_owesSo 9 = .ok (.iadd, 1) := by decide +kernel
theorem dX8_owesSo_10 : decode cX8_owesSo 10 = .ok (.istore 7, 2) := by decide +kernel
theorem dX8_owesSo_12 : decode cX8_owesSo 12 = .ok (.iload 7, 2) := by decide +kernel
theorem dX8_owesSo_14 : decode cX8_owesSo 14 = .ok (.bipush 40, 2) := by decide +kernel
theorem dX8_owesSo_16 : decode cX8_owesSo 16 = .ok (.iload_n 3, 1) := by decide +kernel
theorem dX8_owesSo_17 : decode cX8_owesSo 17 = .ok (.imul, 1) := by decide +kernel
theorem dX8_owesSo_18 : decode cX8_owesSo 18 = .ok (.iload 4, 2) := by decide +kernel
theorem dX8_owesSo_20 : decode cX8_owesSo 20 = .ok (.iadd, 1) := by decide +kernel
theorem dX8_owesSo_21 : decode cX8_owesSo 21 = .ok (.iconst 2, 1) := by decide +kernel
theorem dX8_owesSo_22 : decode cX8_owesSo 22 = .ok (.iload 5, 2) := by decide +kernel
theorem dX8_owesSo_24 : decode cX8_owesSo 24 = .ok (.imul, 1) := by decide +kernel
theorem dX8_owesSo_25 : decode cX8_owesSo 25 = .ok (.iadd, 1) := by decide +kernel
theorem dX8_owesSo_26 : decode cX8_owesSo 26 = .ok (.if_icmp .ge 46, 3) := by decide +kernel
theorem dX8_owesSo_29 : decode cX8_owesSo 29 = .ok (.iload 6, 2) := by decide +kernel
theorem dX8_owesSo_31 : decode cX8_owesSo 31 = .ok (.ifCond .eq 32, 3) := by decide +kernel
theorem dX8_owesSo_34 : decode cX8_owesSo 34 = .ok (.aload_n 0, 1) := by decide +kernel
theorem dX8_owesSo_35 : decode cX8_owesSo 35 = .ok (.iload_n 1, 1) := by decide +kernel
theorem dX8_owesSo_36 : decode cX8_owesSo 36 = .ok (.iload_n 2, 1) := by decide +kernel
theorem dX8_owesSo_37 : decode cX8_owesSo 37 = .ok (.aload_n 0, 1) := by decide +kernel
theorem dX8_owesSo_38 : decode cX8_owesSo 38 = .ok (.getfield 23, 3) := by decide +kernel
theorem dX8_owesSo_41 : decode cX8_owesSo 41 = .ok (.iload 7, 2) := by decide +kernel
theorem dX8_owesSo_43 : decode cX8_owesSo 43 = .ok (.iaload, 1) := by decide +kernel
theorem dX8_owesSo_44 : decode cX8_owesSo 44 = .ok (.invokevirtual 145, 3) := by decide +kernel
theorem dX8_owesSo_47 : decode cX8_owesSo 47 = .ok (.aload_n 0, 1) := by decide +kernel
theorem dX8_owesSo_48 : decode cX8_owesSo 48 = .ok (.getfield 23, 3) := by decide +kernel
theorem dX8_owesSo_51 : decode cX8_owesSo 51 = .ok (.iload 7, 2) := by decide +kernel
theorem dX8_owesSo_53 : decode cX8_owesSo 53 = .ok (.iconst 1, 1) := by decide +kernel
theorem dX8_owesSo_54 : decode cX8_owesSo 54 = .ok (.iadd, 1) := by decide +kernel
theorem dX8_owesSo_55 : decode cX8_owesSo 55 = .ok (.iaload, 1) := by decide +kernel
theorem dX8_owesSo_56 : decode cX8_owesSo 56 = .ok (.if_icmp .ne 7, 3) := by decide +kernel
theorem dX8_owesSo_59 : decode cX8_owesSo 59 = .ok (.iconst 1, 1) := by decide +kernel
theorem dX8_owesSo_60 : decode cX8_owesSo 60 = .ok (.goto 4, 3) := by decide +kernel
theorem dX8_owesSo_63 : decode cX8_owesSo 63 = .ok (.iconst 0, 1) := by decide +kernel
theorem dX8_owesSo_64 : decode cX8_owesSo 64 = .ok (.istore 6, 2) := by decide +kernel
theorem dX8_owesSo_66 : decode cX8_owesSo 66 = .ok (.iinc 7 2, 3) := by decide +kernel
theorem dX8_owesSo_69 : decode cX8_owesSo 69 = .ok (.goto (-57), 3) := by decide +kernel
theorem dX8_owesSo_72 : decode cX8_owesSo 72 = .ok (.iload 6, 2) := by decide +kernel
theorem dX8_owesSo_74 : decode cX8_owesSo 74 = .ok (.ireturn, 1) := by decide +kernel
set_option maxRecDepth 20000 in
theorem ggX8_isSeenSo_X8_isSeen : GoodIn wsX8_isSeenSo wsX8_isSeen := goodIn_r _ [6, 7, 8, 9, 10, 11, 12, 13, 14, 15, 16, 17, 18, 19, 20, 21, 22, 23, 24] (by decide +kernel) (by decide +kernel)
set_option maxRecDepth 20000 in
theorem gX8_isSeenSo_X8_isSeen : GoodIn wsX8_isSeenSo (wsV RX8 154 RX8 yX8_isSeen wsX8_isSeen) := goodIn_app (goodIn_of _ (by decide +kernel)) ggX8_isSeenSo_X8_isSeen
theorem dX8_isSeenSo_0 : decode cX8_isSeenSo 0 = .ok (.iconst 1, 1) := by decide +kernel
theorem dX8_isSeenSo_1 : decode cX8_isSeenSo 1 = .ok (.istore 5, 2) := by decide +kernel
theorem dX8_isSeenSo_3 : decode cX8_isSeenSo 3 = .ok (.bipush 40, 2) := by decide +kernel
theorem dX8_isSeenSo_5 : decode cX8_isSeenSo 5 = .ok (.iload_n 2, 1) := by decide +kernel
theorem dX8_isSeenSo_6 : decode cX8_isSeenSo 6 = .ok (.imul, 1) := by decide +kernel
theorem dX8_isSeenSo_7 : decode cX8_isSeenSo 7 = .ok (.iload_n 3, 1) := by decide +kernel
theorem dX8_isSeenSo_8 : decode cX8_isSeenSo 8 = .ok (.iadd, 1) := by decide +kernel
theorem dX8_isSeenSo_9 : decode cX8_isSeenSo 9 = .ok (.istore 6, 2) := by decide +kernel
theorem dX8_isSeenSo_11 : decode cX8_isSeenSo 11 = .ok (.iload 6, 2) := by decide +kernel
theorem dX8_isSeenSo_13 : decode cX8_isSeenSo 13 = .ok (.bipush 40, 2) := by decide +kernel
theorem dX8_isSeenSo_15 : decode cX8_isSeenSo 15 = .ok (.iload_n 2, 1) := by decide +kernel
theorem dX8_isSeenSo_16 : decode cX8_isSeenSo 16 = .ok (.imul, 1) := by decide +kernel
theorem dX8_isSeenSo_17 : decode cX8_isSeenSo 17 = .ok (.iload_n 3, 1) := by decide +kernel
theorem dX8_isSeenSo_18 : decode cX8_isSeenSo 18 = .ok (.iadd, 1) := by decide +kernel
theorem dX8_isSeenSo_19 : decode cX8_isSeenSo 19 = .ok (.iconst 2, 1) := by decide +kernel
theorem dX8_isSeenSo_20 : decode cX8_isSeenSo 20 = .ok (.iload 4, 2) := by decide +kernel
theorem dX8_isSeenSo_22 : decode cX8_isSeenSo 22 = .ok (.imul, 1) := by decide +kernel
theorem dX8_isSeenSo_23 : decode cX8_isSeenSo 23 = .ok (.iadd, 1) := by decide +kernel
theorem dX8_isSeenSo_24 : decode cX8_isSeenSo 24 = .ok (.if_icmp .ge 36, 3) := by decide +kernel
theorem dX8_isSeenSo_27 : decode cX8_isSeenSo 27 = .ok (.iload 5, 2) := by decide +kernel
theorem dX8_isSeenSo_29 : decode cX8_isSeenSo 29 = .ok (.ifCond .eq 22, 3) := by decide +kernel
theorem dX8_isSeenSo_32 : decode cX8_isSeenSo 32 = .ok (.aload_n 0, 1) := by decide +kernel
theorem dX8_isSeenSo_33 : decode cX8_isSeenSo 33 = .ok (.iload_n 1, 1) := by decide +kernel
theorem dX8_isSeenSo_34 : decode cX8_isSeenSo 34 = .ok (.aload_n 0, 1) := by decide +kernel
theorem dX8_isSeenSo_35 : decode cX8_isSeenSo 35 = .ok (.getfield 23, 3) := by decide +kernel
theorem dX8_isSeenSo_38 : decode cX8_isSeenSo 38 = .ok (.iload 6, 2) := by decide +kernel
theorem dX8_isSeenSo_40 : decode cX8_isSeenSo 40 = .ok (.iaload, 1) := by decide +kernel
theorem dX8_isSeenSo_41 : decode cX8_isSeenSo 41 = .ok (.invokevirtual 154, 3) := by decide +kernel
theorem dX8_isSeenSo_44 : decode cX8_isSeenSo 44 = .ok (.ifCond .eq 7, 3) := by decide +kernel
theorem dX8_isSeenSo_47 : decode cX8_isSeenSo 47 = .ok (.iconst 1, 1) := by decide +kernel
theorem dX8_isSeenSo_48 : decode cX8_isSeenSo 48 = .ok (.goto 4, 3) := by decide +kernel
theorem dX8_isSeenSo_51 : decode cX8_isSeenSo 51 = .ok (.iconst 0, 1) := by decide +kernel
theorem dX8_isSeenSo_52 : decode cX8_isSeenSo 52 = .ok (.istore 5, 2) := by decide +kernel
theorem dX8_isSeenSo_54 : decode cX8_isSeenSo 54 = .ok (.iinc 6 2, 3) := by decide +kernel
theorem dX8_isSeenSo_57 : decode cX8_isSeenSo 57 = .ok (.goto (-46), 3) := by decide +kernel
theorem dX8_isSeenSo_60 : decode cX8_isSeenSo 60 = .ok (.iload 5, 2) := by decide +kernel
theorem dX8_isSeenSo_62 : decode cX8_isSeenSo 62 = .ok (.ireturn, 1) := by decide +kernel
set_option maxRecDepth 20000 in
theorem ggX8_thread_X8_isRow : GoodIn wsX8_thread wsX8_isRow := goodIn_r _ [9, 10, 11, 12, 8, 13] (by decide +kernel) (by decide +kernel)
set_option maxRecDepth 20000 in
theorem gX8_thread_X8_isRow : GoodIn wsX8_thread (va_wsS RX8 46 yX8_isRow wsX8_isRow) := goodIn_app (goodIn_of _ (by decide +kernel)) ggX8_thread_X8_isRow
set_option maxRecDepth 20000 in
theorem ggX8_thread_X8_in : GoodIn wsX8_thread wsX8_in := goodIn_r _ [13] (by decide +kernel) (by decide +kernel)
set_option maxRecDepth 20000 in
theorem gX8_thread_X8_in : GoodIn wsX8_thread (va_wsS RX8 42 yX8_in wsX8_in) := goodIn_app (goodIn_of _ (by decide +kernel)) ggX8_thread_X8_in
set_option maxRecDepth 20000 in
theorem ggX8_thread_X8_noPairs : GoodIn wsX8_thread wsX8_noPairs := goodIn_r _ [17, 18, 19, 4, 20, 21, 22, 8, 23, 24, 25, 26, 27, 28, 29, 30, 31, 32, 33, 5, 11, 12, 13, 65, 66, 67, 68, 69, 70, 71, 72, 73, 74, 75, 76, 77, 78, 79, 80, 81] (by decide +kernel) (by decide +kernel)
set_option maxRecDepth 20000 in
theorem gX8_thread_X8_noPairs : GoodIn wsX8_thread (wsV RX8 206 RX8 yX8_noPairs wsX8_noPairs) := goodIn_app (goodIn_of _ (by decide +kernel)) ggX8_thread_X8_noPairs
set_option maxRecDepth 20000 in
theorem ggX8_thread_X8_isSeenSo : GoodIn wsX8_thread wsX8_isSeenSo := goodIn_r _ [37, 19, 38, 39, 40, 8, 41, 5, 65, 66, 67, 68, 69, 70, 71, 72, 73, 74, 75, 76, 77, 78, 79, 80, 81] (by decide +kernel) (by decide +kernel)
set_option maxRecDepth 20000 in
theorem gX8_thread_X8_isSeenSo : GoodIn wsX8_thread (wsV RX8 209 RX8 yX8_isSeenSo wsX8_isSeenSo) := goodIn_app (goodIn_of _ (by decide +kernel)) ggX8_thread_X8_isSeenSo
set_option maxRecDepth 20000 in
theorem ggX8_thread_X8_owesSo : GoodIn wsX8_thread wsX8_owesSo := goodIn_r _ [45, 19, 46, 47, 48, 8, 49, 5, 50, 51, 52, 53, 54, 55, 56, 57, 58, 59, 60, 65, 66, 67, 68, 69, 70, 71, 72, 73, 74, 75, 76, 77, 78, 79, 80, 81] (by decide +kernel) (by decide +kernel)
set_option maxRecDepth 20000 in
theorem gX8_thread_X8_owesSo : GoodIn wsX8_thread (wsV RX8 213 RX8 yX8_owesSo wsX8_owesSo) := goodIn_app (goodIn_of _ (by decide +kernel)) ggX8_thread_X8_owesSo
set_option maxRecDepth 20000 in
theorem ggX8_thread_X8_well : GoodIn wsX8_thread wsX8_well := goodIn_r _ [64, 24, 65, 66, 67, 68, 69, 70, 71, 72, 73, 74, 75, 76, 77, 78, 79, 80, 81] (by decide +kernel) (by decide +kernel)
set_option maxRecDepth 20000 in
theorem gX8_thread_X8_well : GoodIn wsX8_thread (wsV RX8 57 RX8 yX8_well wsX8_well) := goodIn_app (goodIn_of _ (by decide +kernel)) ggX8_thread_X8_well
theorem dX8_thread_0 : decode cX8_thread 0 = .ok (.aload_n 0, 1) := by decide +kernel
theorem dX8_thread_1 : decode cX8_thread 1 = .ok (.getfield 127, 3) := by decide +kernel
theorem dX8_thread_4 : decode cX8_thread 4 = .ok (.ifCond .ne 6, 3) := by decide +kernel
theorem dX8_thread_7 : decode cX8_thread 7 = .ok (.ldc 134, 2) := by decide +kernel
theorem dX8_thread_9 : decode cX8_thread 9 = .ok (.ireturn, 1) := by decide +kernel
theorem dX8_thread_10 : decode cX8_thread 10 = .ok (.iload_n 1, 1) := by decide +kernel
theorem dX8_thread_11 : decode cX8_thread 11 = .ok (.invokestatic 46, 3) := by decide +kernel
theorem dX8_thread_14 : decode cX8_thread 14 = .ok (.ifCond .eq 15, 3) := by decide +kernel
theorem dX8_thread_17 : decode cX8_thread 17 = .ok (.iload_n 3, 1) := by decide +kernel
theorem dX8_thread_18 : decode cX8_thread 18 = .ok (.i2l, 1) := by decide +kernel
theorem dX8_thread_19 : decode cX8_thread 19 = .ok (.lconst 1, 1) := by decide +kernel
theorem dX8_thread_20 : decode cX8_thread 20 = .ok (.ldc2_w 204, 3) := by decide +kernel
theorem dX8_thread_23 : decode cX8_thread 23 = .ok (.invokestatic 42, 3) := by decide +kernel
theorem dX8_thread_26 : decode cX8_thread 26 = .ok (.ifCond .ne 6, 3) := by decide +kernel
theorem dX8_thread_29 : decode cX8_thread 29 = .ok (.ldc 52, 2) := by decide +kernel
theorem dX8_thread_31 : decode cX8_thread 31 = .ok (.ireturn, 1) := by decide +kernel
theorem dX8_thread_32 : decode cX8_thread 32 = .ok (.aload_n 0, 1) := by decide +kernel
theorem dX8_thread_33 : decode cX8_thread 33 = .ok (.iload_n 1, 1) := by decide +kernel
theorem dX8_thread_34 : decode cX8_thread 34 = .ok (.iload_n 2, 1) := by decide +kernel
theorem dX8_thread_35 : decode cX8_thread 35 = .ok (.iload_n 3, 1) := by decide +kernel
theorem dX8_thread_36 : decode cX8_thread 36 = .ok (.invokevirtual 206, 3) := by decide +kernel
theorem dX8_thread_39 : decode cX8_thread 39 = .ok (.istore 4, 2) := by decide +kernel
theorem dX8_thread_41 : decode cX8_thread 41 = .ok (.iload 4, 2) := by decide +kernel
theorem dX8_thread_43 : decode cX8_thread 43 = .ok (.ifCond .eq 6, 3) := by decide +kernel
theorem dX8_thread_46 : decode cX8_thread 46 = .ok (.iload 4, 2) := by decide +kernel
theorem dX8_thread_48 : decode cX8_thread 48 = .ok (.ireturn, 1) := by decide +kernel
theorem dX8_thread_49 : decode cX8_thread 49 = .ok (.iconst 0, 1) := by decide +kernel
theorem dX8_thread_50 : decode cX8_thread 50 = .ok (.istore 5, 2) := by decide +kernel
theorem dX8_thread_52 : decode cX8_thread 52 = .ok (.iconst 0, 1) := by decide +kernel
theorem dX8_thread_53 : decode cX8_thread 53 = .ok (.istore 6, 2) := by decide +kernel
theorem dX8_thread_55 : decode cX8_thread 55 = .ok (.iload 6, 2) := by decide +kernel
theorem dX8_thread_57 : decode cX8_thread 57 = .ok (.aload_n 0, 1) := by decide +kernel
theorem dX8_thread_58 : decode cX8_thread 58 = .ok (.getfield 7, 3) := by decide +kernel
theorem dX8_thread_61 : decode cX8_thread 61 = .ok (.iconst 2, 1) := by decide +kernel
theorem dX8_thread_62 : decode cX8_thread 62 = .ok (.iaload, 1) := by decide +kernel
theorem dX8_thread_63 : decode cX8_thread 63 = .ok (.if_icmp .ge 64, 3) := by decide +kernel
theorem dX8_thread_66 : decode cX8_thread 66 = .ok (.iload 5, 2) := by decide +kernel
theorem dX8_thread_68 : decode cX8_thread 68 = .ok (.aload_n 0, 1) := by decide +kernel
theorem dX8_thread_69 : decode cX8_thread 69 = .ok (.iload 6, 2) := by decide +kernel
theorem dX8_thread_71 : decode cX8_thread 71 = .ok (.iload_n 1, 1) := by decide +kernel
theorem dX8_thread_72 : decode cX8_thread 72 = .ok (.iload_n 2, 1) := by decide +kernel
theorem dX8_thread_73 : decode cX8_thread 73 = .ok (.iload_n 3, 1) := by decide +kernel
theorem dX8_thread_74 : decode cX8_thread 74 = .ok (.invokevirtual 209, 3) := by decide +kernel
theorem dX8_thread_77 : decode cX8_thread 77 = .ok (.ifCond .eq 40, 3) := by decide +kernel
theorem dX8_thread_80 : decode cX8_thread 80 = .ok (.aload_n 0, 1) := by decide +kernel
theorem dX8_thread_81 : decode cX8_thread 81 = .ok (.aload_n 0, 1) := by decide +kernel
theorem dX8_thread_82 : decode cX8_thread 82 = .ok (.getfield 7, 3) := by decide +kernel
theorem dX8_thread_85 : decode cX8_thread 85 = .ok (.bipush 19, 2) := by decide +kernel
theorem dX8_thread_87 : decode cX8_thread 87 = .ok (.iload 6, 2) := by decide +kernel
theorem dX8_thread_89 : decode cX8_thread 89 = .ok (.iadd, 1) := by decide +kernel
theorem dX8_thread_90 : decode cX8_thread 90 = .ok (.iaload, 1) := by decide +kernel
theorem dX8_thread_91 : decode cX8_thread 91 = .ok (.aload_n 0, 1) := by decide +kernel
theorem dX8_thread_92 : decode cX8_thread 92 = .ok (.getfield 7, 3) := by decide +kernel
theorem dX8_thread_95 : decode cX8_thread 95 = .ok (.bipush 25, 2) := by decide +kernel
theorem dX8_thread_97 : decode cX8_thread 97 = .ok (.iload 6, 2) := by decide +kernel
theorem dX8_thread_99 : decode cX8_thread 99 = .ok (.iadd, 1) := by decide +kernel
theorem dX8_thread_100 : decode cX8_thread 100 = .ok (.iaload, 1) := by decide +kernel
theorem dX8_thread_101 : decode cX8_thread 101 = .ok (.iload_n 1, 1) := by decide +kernel
theorem dX8_thread_102 : decode cX8_thread 102 = .ok (.iload_n 2, 1) := by decide +kernel
theorem dX8_thread_103 : decode cX8_thread 103 = .ok (.iload_n 3, 1) := by decide +kernel
theorem dX8_thread_104 : decode cX8_thread 104 = .ok (.invokevirtual 213, 3) := by decide +kernel
theorem dX8_thread_107 : decode cX8_thread 107 = .ok (.ifCond .eq 10, 3) := by decide +kernel
theorem dX8_thread_110 : decode cX8_thread 110 = .ok (.iconst 1, 1) := by decide +kernel
theorem dX8_thread_111 : decode cX8_thread 111 = .ok (.iload 6, 2) := by decide +kernel
theorem dX8_thread_113 : decode cX8_thread 113 = .ok (.ishl, 1) := by decide +kernel
theorem dX8_thread_114 : decode cX8_thread 114 = .ok (.goto 4, 3) := by decide +kernel
theorem dX8_thread_117 : decode cX8_thread 117 = .ok (.iconst 0, 1) := by decide +kernel
theorem dX8_thread_118 : decode cX8_thread 118 = .ok (.ior, 1) := by decide +kernel
theorem dX8_thread_119 : decode cX8_thread 119 = .ok (.istore 5, 2) := by decide +kernel
theorem dX8_thread_121 : decode cX8_thread 121 = .ok (.iinc 6 1, 3) := by decide +kernel
theorem dX8_thread_124 : decode cX8_thread 124 = .ok (.goto (-69), 3) := by decide +kernel
theorem dX8_thread_127 : decode cX8_thread 127 = .ok (.aload_n 0, 1) := by decide +kernel
theorem dX8_thread_128 : decode cX8_thread 128 = .ok (.iload 5, 2) := by decide +kernel
theorem dX8_thread_130 : decode cX8_thread 130 = .ok (.invokevirtual 57, 3) := by decide +kernel
theorem dX8_thread_133 : decode cX8_thread 133 = .ok (.ireturn, 1) := by decide +kernel
set_option maxRecDepth 20000 in
theorem ggX8_inches_X8_isGesture : GoodIn wsX8_inches wsX8_isGesture := goodIn_r _ [8, 3, 9, 10, 7, 11, 59, 60, 61, 62, 63, 64, 65, 66, 67, 68, 69, 70, 71, 72, 73, 74, 75] (by decide +kernel) (by decide +kernel)
set_option maxRecDepth 20000 in
theorem gX8_inches_X8_isGesture : GoodIn wsX8_inches (wsV RX8 148 RX8 yX8_isGesture wsX8_isGesture) := goodIn_app (goodIn_of _ (by decide +kernel)) ggX8_inches_X8_isGesture
set_option maxRecDepth 20000 in
theorem ggX8_inches_X8_isRow : GoodIn wsX8_inches wsX8_isRow := goodIn_r _ [14, 15, 9, 10, 7, 11] (by decide +kernel) (by decide +kernel)
set_option maxRecDepth 20000 in
theorem gX8_inches_X8_isRow : GoodIn wsX8_inches (va_wsS RX8 46 yX8_isRow wsX8_isRow) := goodIn_app (goodIn_of _ (by decide +kernel)) ggX8_inches_X8_isRow
set_option maxRecDepth 20000 in
theorem ggX8_inches_X8_in : GoodIn wsX8_inches wsX8_in := goodIn_r _ [11] (by decide +kernel) (by decide +kernel)
set_option maxRecDepth 20000 in
theorem gX8_inches_X8_in : GoodIn wsX8_inches (va_wsS RX8 42 yX8_in wsX8_in) := goodIn_app (goodIn_of _ (by decide +kernel)) ggX8_inches_X8_in
set_option maxRecDepth 20000 in
theorem ggX8_inches_X8_noPairs : GoodIn wsX8_inches wsX8_noPairs := goodIn_r _ [19, 20, 21, 2, 22, 23, 24, 7, 25, 26, 27, 28, 29, 30, 31, 32, 33, 34, 35, 3, 9, 10, 11, 59, 60, 61, 62, 63, 64, 65, 66, 67, 68, 69, 70, 71, 72, 73, 74, 75] (by decide +kernel) (by decide +kernel)
set_option maxRecDepth 20000 in
theorem gX8_inches_X8_noPairs : GoodIn wsX8_inches (wsV RX8 206 RX8 yX8_noPairs wsX8_noPairs) := goodIn_app (goodIn_of _ (by decide +kernel)) ggX8_inches_X8_noPairs
set_option maxRecDepth 20000 in
theorem ggX8_inches_X8_owesSo : GoodIn wsX8_inches wsX8_owesSo := goodIn_r _ [39, 21, 40, 41, 42, 7, 43, 3, 44, 45, 46, 47, 48, 49, 50, 51, 52, 53, 54, 59, 60, 61, 62, 63, 64, 65, 66, 67, 68, 69, 70, 71, 72, 73, 74, 75] (by decide +kernel) (by decide +kernel)
set_option maxRecDepth 20000 in
theorem gX8_inches_X8_owesSo : GoodIn wsX8_inches (wsV RX8 213 RX8 yX8_owesSo wsX8_owesSo) := goodIn_app (goodIn_of _ (by decide +kernel)) ggX8_inches_X8_owesSo
set_option maxRecDepth 20000 in
theorem ggX8_inches_X8_well : GoodIn wsX8_inches wsX8_well := goodIn_r _ [58, 26, 59, 60, 61, 62, 63, 64, 65, 66, 67, 68, 69, 70, 71, 72, 73, 74, 75] (by decide +kernel) (by decide +kernel)
set_option maxRecDepth 20000 in
theorem gX8_inches_X8_well : GoodIn wsX8_inches (wsV RX8 57 RX8 yX8_well wsX8_well) := goodIn_app (goodIn_of _ (by decide +kernel)) ggX8_inches_X8_well
theorem dX8_inches_0 : decode cX8_inches 0 = .ok (.aload_n 0, 1) := by decide +kernel
theorem dX8_inches_1 : decode cX8_inches 1 = .ok (.iload_n 1, 1) := by decide +kernel
theorem dX8_inches_2 : decode cX8_inches 2 = .ok (.invokevirtual 148, 3) := by decide +kernel
theorem dX8_inches_5 : decode cX8_inches 5 = .ok (.ifCond .eq 23, 3) := by decide +kernel
theorem dX8_inches_8 : decode cX8_inches 8 = .ok (.iload_n 2, 1) := by decide +kernel
theorem dX8_inches_9 : decode cX8_inches 9 = .ok (.invokestatic 46, 3) := by decide +kernel
theorem dX8_inches_12 : decode cX8_inches 12 = .ok (.ifCond .eq 16, 3) := by decide +kernel
theorem dX8_inches_15 : decode cX8_inches 15 = .ok (.iload 4, 2) := by decide +kernel
theorem dX8_inches_17 : decode cX8_inches 17 = .ok (.i2l, 1) := by decide +kernel
theorem dX8_inches_18 : decode cX8_inches 18 = .ok (.lconst 1, 1) := by decide +kernel
theorem dX8_inches_19 : decode cX8_inches 19 = .ok (.ldc2_w 204, 3) := by decide +kernel
theorem dX8_inches_22 : decode cX8_inches 22 = .ok (.invokestatic 42, 3) := by decide +kernel
theorem dX8_inches_25 : decode cX8_inches 25 = .ok (.ifCond .ne 6, 3) := by decide +kernel
theorem dX8_inches_28 : decode cX8_inches 28 = .ok (.ldc 52, 2) := by decide +kernel
theorem dX8_inches_30 : decode cX8_inches 30 = .ok (.ireturn, 1) := by decide +kernel
theorem dX8_inches_31 : decode cX8_inches 31 = .ok (.aload_n 0, 1) := by decide +kernel
theorem dX8_inches_32 : decode cX8_inches 32 = .ok (.iload_n 2, 1) := by decide +kernel
theorem dX8_inches_33 : decode cX8_inches 33 = .ok (.iload_n 3, 1) := by decide +kernel
theorem dX8_inches_34 : decode cX8_inches 34 = .ok (.iload 4, 2) := by decide +kernel
theorem dX8_inches_36 : decode cX8_inches 36 = .ok (.invokevirtual 206, 3) := by decide +kernel
theorem dX8_inches_39 : decode cX8_inches 39 = .ok (.istore 5, 2) := by decide +kernel
theorem dX8_inches_41 : decode cX8_inches 41 = .ok (.iload 5, 2) := by decide +kernel
theorem dX8_inches_43 : decode cX8_inches 43 = .ok (.ifCond .eq 6, 3) := by decide +kernel
theorem dX8_inches_46 : decode cX8_inches 46 = .ok (.iload 5, 2) := by decide +kernel
theorem dX8_inches_48 : decode cX8_inches 48 = .ok (.ireturn, 1) := by decide +kernel
theorem dX8_inches_49 : decode cX8_inches 49 = .ok (.iconst 0, 1) := by decide +kernel
theorem dX8_inches_50 : decode cX8_inches 50 = .ok (.istore 6, 2) := by decide +kernel
theorem dX8_inches_52 : decode cX8_inches 52 = .ok (.iconst 0, 1) := by decide +kernel
theorem dX8_inches_53 : decode cX8_inches 53 = .ok (.istore 7, 2) := by decide +kernel
theorem dX8_inches_55 : decode cX8_inches 55 = .ok (.iload 7, 2) := by decide +kernel
theorem dX8_inches_57 : decode cX8_inches 57 = .ok (.bipush 30, 2) := by decide +kernel
theorem dX8_inches_59 : decode cX8_inches 59 = .ok (.if_icmp .ge 46, 3) := by decide +kernel
theorem dX8_inches_62 : decode cX8_inches 62 = .ok (.iload 6, 2) := by decide +kernel
theorem dX8_inches_64 : decode cX8_inches 64 = .ok (.aload_n 0, 1) := by decide +kernel
theorem dX8_inches_65 : decode cX8_inches 65 = .ok (.aload_n 0, 1) := by decide +kernel
theorem dX8_inches_66 : decode cX8_inches 66 = .ok (.getfield 7, 3) := by decide +kernel
theorem dX8_inches_69 : decode cX8_inches 69 = .ok (.bipush 19, 2) := by decide +kernel
theorem dX8_inches_71 : decode cX8_inches 71 = .ok (.iload_n 1, 1) := by decide +kernel
theorem dX8_inches_72 : decode cX8_inches 72 = .ok (.iadd, 1) := by decide +kernel
theorem dX8_inches_73 : decode cX8_inches 73 = .ok (.iaload, 1) := by decide +kernel
theorem dX8_inches_74 : decode cX8_inches 74 = .ok (.iload 7, 2) := by decide +kernel
theorem dX8_inches_76 : decode cX8_inches 76 = .ok (.iconst 1, 1) := by decide +kernel
theorem dX8_inches_77 : decode cX8_inches 77 = .ok (.iadd, 1) := by decide +kernel
theorem dX8_inches_78 : decode cX8_inches 78 = .ok (.iload_n 2, 1) := by decide +kernel
theorem dX8_inches_79 : decode cX8_inches 79 = .ok (.iload_n 3, 1) := by decide +kernel
theorem dX8_inches_80 : decode cX8_inches 80 = .ok (.iload 4, 2) := by decide +kernel
theorem dX8_inches_82 : decode cX8_inches 82 = .ok (.invokevirtual 213, 3) := by decide +kernel
theorem dX8_inches_85 : decode cX8_inches 85 = .ok (.ifCond .eq 10, 3) := by decide +kernel
theorem dX8_inches_88 : decode cX8_inches 88 = .ok (.iconst 1, 1) := by decide +kernel
theorem dX8_inches_89 : decode cX8_inches 89 = .ok (.iload 7, 2) := by decide +kernel
theorem dX8_inches_91 : decode cX8_inches 91 = .ok (.ishl, 1) := by decide +kernel
theorem dX8_inches_92 : decode cX8_inches 92 = .ok (.goto 4, 3) := by decide +kernel
theorem dX8_inches_95 : decode cX8_inches 95 = .ok (.iconst 0, 1) := by decide +kernel
theorem dX8_inches_96 : decode cX8_inches 96 = .ok (.ior, 1) := by decide +kernel
theorem dX8_inches_97 : decode cX8_inches 97 = .ok (.istore 6, 2) := by decide +kernel
theorem dX8_inches_99 : decode cX8_inches 99 = .ok (.iinc 7 1, 3) := by decide +kernel
theorem dX8_inches_102 : decode cX8_inches 102 = .ok (.goto (-47), 3) := by decide +kernel
theorem dX8_inches_105 : decode cX8_inches 105 = .ok (.aload_n 0, 1) := by decide +kernel
theorem dX8_inches_106 : decode cX8_inches 106 = .ok (.iload 6, 2) := by decide +kernel
theorem dX8_inches_108 : decode cX8_inches 108 = .ok (.invokevirtual 57, 3) := by decide +kernel
theorem dX8_inches_111 : decode cX8_inches 111 = .ok (.ireturn, 1) := by decide +kernel
set_option maxRecDepth 20000 in
theorem ggX8_sorts_X8_isGesture : GoodIn wsX8_sorts wsX8_isGesture := goodIn_r _ [8, 3, 9, 10, 7, 11, 59, 60, 61, 62, 63, 64, 65, 66, 67, 68, 69, 70, 71, 72, 73, 74, 75] (by decide +kernel) (by decide +kernel)
set_option maxRecDepth 20000 in
theorem gX8_sorts_X8_isGesture : GoodIn wsX8_sorts (wsV RX8 148 RX8 yX8_isGesture wsX8_isGesture) := goodIn_app (goodIn_of _ (by decide +kernel)) ggX8_sorts_X8_isGesture
set_option maxRecDepth 20000 in
theorem ggX8_sorts_X8_isRow : GoodIn wsX8_sorts wsX8_isRow := goodIn_r _ [14, 15, 9, 10, 7, 11] (by decide +kernel) (by decide +kernel)
set_option maxRecDepth 20000 in
theorem gX8_sorts_X8_isRow : GoodIn wsX8_sorts (va_wsS RX8 46 yX8_isRow wsX8_isRow) := goodIn_app (goodIn_of _ (by decide +kernel)) ggX8_sorts_X8_isRow
set_option maxRecDepth 20000 in
theorem ggX8_sorts_X8_in : GoodIn wsX8_sorts wsX8_in := goodIn_r _ [11] (by decide +kernel) (by decide +kernel)
set_option maxRecDepth 20000 in
theorem gX8_sorts_X8_in : GoodIn wsX8_sorts (va_wsS RX8 42 yX8_in wsX8_in) := goodIn_app (goodIn_of _ (by decide +kernel)) ggX8_sorts_X8_in
set_option maxRecDepth 20000 in
theorem ggX8_sorts_X8_noPairs : GoodIn wsX8_sorts wsX8_noPairs := goodIn_r _ [19, 20, 21, 2, 22, 23, 24, 7, 25, 26, 27, 28, 29, 30, 31, 32, 33, 34, 35, 3, 9, 10, 11, 59, 60, 61, 62, 63, 64, 65, 66, 67, 68, 69, 70, 71, 72, 73, 74, 75] (by decide +kernel) (by decide +kernel)
set_option maxRecDepth 20000 in
theorem gX8_sorts_X8_noPairs : GoodIn wsX8_sorts (wsV RX8 206 RX8 yX8_noPairs wsX8_noPairs) := goodIn_app (goodIn_of _ (by decide +kernel)) ggX8_sorts_X8_noPairs
set_option maxRecDepth 20000 in
theorem ggX8_sorts_X8_owesSo : GoodIn wsX8_sorts wsX8_owesSo := goodIn_r _ [39, 21, 40, 41, 42, 7, 43, 3, 44, 45, 46, 47, 48, 49, 50, 51, 52, 53, 54, 59, 60, 61, 62, 63, 64, 65, 66, 67, 68, 69, 70, 71, 72, 73, 74, 75] (by decide +kernel) (by decide +kernel)
set_option maxRecDepth 20000 in
theorem gX8_sorts_X8_owesSo : GoodIn wsX8_sorts (wsV RX8 213 RX8 yX8_owesSo wsX8_owesSo) := goodIn_app (goodIn_of _ (by decide +kernel)) ggX8_sorts_X8_owesSo
set_option maxRecDepth 20000 in
theorem ggX8_sorts_X8_well : GoodIn wsX8_sorts wsX8_well := goodIn_r _ [58, 26, 59, 60, 61, 62, 63, 64, 65, 66, 67, 68, 69, 70, 71, 72, 73, 74, 75] (by decide +kernel) (by decide +kernel)
set_option maxRecDepth 20000 in
theorem gX8_sorts_X8_well : GoodIn wsX8_sorts (wsV RX8 57 RX8 yX8_well wsX8_well) := goodIn_app (goodIn_of _ (by decide +kernel)) ggX8_sorts_X8_well
theorem dX8_sorts_0 : decode cX8_sorts 0 = .ok (.aload_n 0, 1) := by decide +kernel
theorem dX8_sorts_1 : decode cX8_sorts 1 = .ok (.iload_n 1, 1) := by decide +kernel
theorem dX8_sorts_2 : decode cX8_sorts 2 = .ok (.invokevirtual 148, 3) := by decide +kernel
theorem dX8_sorts_5 : decode cX8_sorts 5 = .ok (.ifCond .eq 23, 3) := by decide +kernel
theorem dX8_sorts_8 : decode cX8_sorts 8 = .ok (.iload_n 2, 1) := by decide +kernel
theorem dX8_sorts_9 : decode cX8_sorts 9 = .ok (.invokestatic 46, 3) := by decide +kernel
theorem dX8_sorts_12 : decode cX8_sorts 12 = .ok (.ifCond .eq 16, 3) := by decide +kernel
theorem dX8_sorts_15 : decode cX8_sorts 15 = .ok (.iload 4, 2) := by decide +kernel
theorem dX8_sorts_17 : decode cX8_sorts 17 = .ok (.i2l, 1) := by decide +kernel
theorem dX8_sorts_18 : decode cX8_sorts 18 = .ok (.lconst 1, 1) := by decide +kernel
theorem dX8_sorts_19 : decode cX8_sorts 19 = .ok (.ldc2_w 204, 3) := by decide +kernel
theorem dX8_sorts_22 : decode cX8_sorts 22 = .ok (.invokestatic 42, 3) := by decide +kernel
theorem dX8_sorts_25 : decode cX8_sorts 25 = .ok (.ifCond .ne 6, 3) := by decide +kernel
theorem dX8_sorts_28 : decode cX8_sorts 28 = .ok (.ldc 52, 2) := by decide +kernel
theorem dX8_sorts_30 : decode cX8_sorts 30 = .ok (.ireturn, 1) := by decide +kernel
theorem dX8_sorts_31 : decode cX8_sorts 31 = .ok (.aload_n 0, 1) := by decide +kernel
theorem dX8_sorts_32 : decode cX8_sorts 32 = .ok (.iload_n 2, 1) := by decide +kernel
theorem dX8_sorts_33 : decode cX8_sorts 33 = .ok (.iload_n 3, 1) := by decide +kernel
theorem dX8_sorts_34 : decode cX8_sorts 34 = .ok (.iload 4, 2) := by decide +kernel
theorem dX8_sorts_36 : decode cX8_sorts 36 = .ok (.invokevirtual 206, 3) := by decide +kernel
theorem dX8_sorts_39 : decode cX8_sorts 39 = .ok (.istore 5, 2) := by decide +kernel
theorem dX8_sorts_41 : decode cX8_sorts 41 = .ok (.iload 5, 2) := by decide +kernel
theorem dX8_sorts_43 : decode cX8_sorts 43 = .ok (.ifCond .eq 6, 3) := by decide +kernel
theorem dX8_sorts_46 : decode cX8_sorts 46 = .ok (.iload 5, 2) := by decide +kernel
theorem dX8_sorts_48 : decode cX8_sorts 48 = .ok (.ireturn, 1) := by decide +kernel
theorem dX8_sorts_49 : decode cX8_sorts 49 = .ok (.iconst 0, 1) := by decide +kernel
theorem dX8_sorts_50 : decode cX8_sorts 50 = .ok (.istore 6, 2) := by decide +kernel
theorem dX8_sorts_52 : decode cX8_sorts 52 = .ok (.iconst 1, 1) := by decide +kernel
theorem dX8_sorts_53 : decode cX8_sorts 53 = .ok (.istore 7, 2) := by decide +kernel
theorem dX8_sorts_55 : decode cX8_sorts 55 = .ok (.iload 7, 2) := by decide +kernel
theorem dX8_sorts_57 : decode cX8_sorts 57 = .ok (.bipush 6, 2) := by decide +kernel
theorem dX8_sorts_59 : decode cX8_sorts 59 = .ok (.if_icmp .ge 44, 3) := by decide +kernel
theorem dX8_sorts_62 : decode cX8_sorts 62 = .ok (.iload 6, 2) := by decide +kernel
theorem dX8_sorts_64 : decode cX8_sorts 64 = .ok (.aload_n 0, 1) := by decide +kernel
theorem dX8_sorts_65 : decode cX8_sorts 65 = .ok (.iload 7, 2) := by decide +kernel
theorem dX8_sorts_67 : decode cX8_sorts 67 = .ok (.aload_n 0, 1) := by decide +kernel
theorem dX8_sorts_68 : decode cX8_sorts 68 = .ok (.getfield 7, 3) := by decide +kernel
theorem dX8_sorts_71 : decode cX8_sorts 71 = .ok (.bipush 25, 2) := by decide +kernel
theorem dX8_sorts_73 : decode cX8_sorts 73 = .ok (.iload_n 1, 1) := by decide +kernel
theorem dX8_sorts_74 : decode cX8_sorts 74 = .ok (.iadd, 1) := by decide +kernel
theorem dX8_sorts_75 : decode cX8_sorts 75 = .ok (.iaload, 1) := by decide +kernel
theorem dX8_sorts_76 : decode cX8_sorts 76 = .ok (.iload_n 2, 1) := by decide +kernel
theorem dX8_sorts_77 : decode cX8_sorts 77 = .ok (.iload_n 3, 1) := by decide +kernel
theorem dX8_sorts_78 : decode cX8_sorts 78 = .ok (.iload 4, 2) := by decide +kernel
theorem dX8_sorts_80 : decode cX8_sorts 80 = .ok (.invokevirtual 213, 3) := by decide +kernel
theorem dX8_sorts_83 : decode cX8_sorts 83 = .ok (.ifCond .eq 10, 3) := by decide +kernel
theorem dX8_sorts_86 : decode cX8_sorts 86 = .ok (.iconst 1, 1) := by decide +kernel
theorem dX8_sorts_87 : decode cX8_sorts 87 = .ok (.iload 7, 2) := by decide +kernel
theorem dX8_sorts_89 : decode cX8_sorts 89 = .ok (.ishl, 1) := by decide +kernel
theorem dX8_sorts_90 : decode cX8_sorts 90 = .ok (.goto 4, 3) := by decide +kernel
theorem dX8_sorts_93 : decode cX8_sorts 93 = .ok (.iconst 0, 1) := by decide +kernel
theorem dX8_sorts_94 : decode cX8_sorts 94 = .ok (.ior, 1) := by decide +kernel
theorem dX8_sorts_95 : decode cX8_sorts 95 = .ok (.istore 6, 2) := by decide +kernel
theorem dX8_sorts_97 : decode cX8_sorts 97 = .ok (.iinc 7 1, 3) := by decide +kernel
theorem dX8_sorts_100 : decode cX8_sorts 100 = .ok (.goto (-45), 3) := by decide +kernel
theorem dX8_sorts_103 : decode cX8_sorts 103 = .ok (.aload_n 0, 1) := by decide +kernel
theorem dX8_sorts_104 : decode cX8_sorts 104 = .ok (.iload 6, 2) := by decide +kernel
theorem dX8_sorts_106 : decode cX8_sorts 106 = .ok (.invokevirtual 57, 3) := by decide +kernel
theorem dX8_sorts_109 : decode cX8_sorts 109 = .ok (.ireturn, 1) := by decide +kernel
set_option maxRecDepth 20000 in
theorem ggX8_saved_X8_isGesture : GoodIn wsX8_saved wsX8_isGesture := goodIn_r _ [7, 2, 8, 9, 6, 10, 30, 31, 32, 33, 34, 35, 36, 37, 38, 39, 40, 41, 42, 43, 44, 45, 46] (by decide +kernel) (by decide +kernel)
set_option maxRecDepth 20000 in
theorem gX8_saved_X8_isGesture : GoodIn wsX8_saved (wsV RX8 148 RX8 yX8_isGesture wsX8_isGesture) := goodIn_app (goodIn_of _ (by decide +kernel)) ggX8_saved_X8_isGesture
set_option maxRecDepth 20000 in
theorem ggX8_saved_X8_dutyOf : GoodIn wsX8_saved wsX8_dutyOf := goodIn_r _ [14, 2, 15, 16, 17, 6, 18, 19, 20, 21, 22, 23, 24, 25, 26, 27, 28, 29, 30, 31, 32, 33, 34, 35, 36, 37, 38, 39, 40, 41, 42, 43, 44, 45, 46] (by decide +kernel) (by decide +kernel)
set_option maxRecDepth 20000 in
theorem gX8_saved_X8_dutyOf : GoodIn wsX8_saved (wsV RX8 157 RX8 yX8_dutyOf wsX8_dutyOf) := goodIn_app (goodIn_of _ (by decide +kernel)) ggX8_saved_X8_dutyOf
set_option maxRecDepth 20000 in
theorem ggX8_saved_X8_plainDuty : GoodIn wsX8_saved wsX8_plainDuty := goodIn_r _ [22, 2, 23, 24, 25, 6, 26, 30, 31, 32, 33, 34, 35, 36, 37, 38, 39, 40, 41, 42, 43, 44, 45, 46] (by decide +kernel) (by decide +kernel)
set_option maxRecDepth 20000 in
theorem gX8_saved_X8_plainDuty : GoodIn wsX8_saved (wsV RX8 138 RX8 yX8_plainDuty wsX8_plainDuty) := goodIn_app (goodIn_of _ (by decide +kernel)) ggX8_saved_X8_plainDuty
theorem dX8_saved_0 : decode cX8_saved 0 = .ok (.aload_n 0, 1) := by decide +kernel
theorem dX8_saved_1 : decode cX8_saved 1 = .ok (.iload_n 1, 1) := by decide +kernel
theorem dX8_saved_2 : decode cX8_saved 2 = .ok (.invokevirtual 148, 3) := by decide +kernel
theorem dX8_saved_5 : decode cX8_saved 5 = .ok (.ifCond .ne 6, 3) := by decide +kernel
theorem dX8_saved_8 : decode cX8_saved 8 = .ok (.ldc 52, 2) := by decide +kernel
theorem dX8_saved_10 : decode cX8_saved 10 = .ok (.ireturn, 1) := by decide +kernel
theorem dX8_saved_11 : decode cX8_saved 11 = .ok (.iconst 0, 1) := by decide +kernel
theorem dX8_saved_12 : decode cX8_saved 12 = .ok (.istore_n 2, 1) := by decide +kernel
theorem dX8_saved_13 : decode cX8_saved 13 = .ok (.iconst 0, 1) := by decide +kernel
theorem dX8_saved_14 : decode cX8_saved 14 = .ok (.istore_n 3, 1) := by decide +kernel
theorem dX8_saved_15 : decode cX8_saved 15 = .ok (.iload_n 3, 1) := by decide +kernel
theorem dX8_saved_16 : decode cX8_saved 16 = .ok (.aload_n 0, 1) := by decide +kernel
theorem dX8_saved_17 : decode cX8_saved 17 = .ok (.getfield 7, 3) := by decide +kernel
theorem dX8_saved_20 : decode cX8_saved 20 = .ok (.iconst 1, 1) := by decide +kernel
theorem dX8_saved_21 : decode cX8_saved 21 = .ok (.iaload, 1) := by decide +kernel
theorem dX8_saved_22 : decode cX8_saved 22 = .ok (.if_icmp .ge 44, 3) := by decide +kernel
theorem dX8_saved_25 : decode cX8_saved 25 = .ok (.iload_n 2, 1) := by decide +kernel
theorem dX8_saved_26 : decode cX8_saved 26 = .ok (.aload_n 0, 1) := by decide +kernel
theorem dX8_saved_27 : decode cX8_saved 27 = .ok (.iload_n 1, 1) := by decide +kernel
theorem dX8_saved_28 : decode cX8_saved 28 = .ok (.iload_n 3, 1) := by decide +kernel
theorem dX8_saved_29 : decode cX8_saved 29 = .ok (.invokevirtual 157, 3) := by decide +kernel
theorem dX8_saved_32 : decode cX8_saved 32 = .ok (.aload_n 0, 1) := by decide +kernel
theorem dX8_saved_33 : decode cX8_saved 33 = .ok (.aload_n 0, 1) := by decide +kernel
theorem dX8_saved_34 : decode cX8_saved 34 = .ok (.getfield 7, 3) := by decide +kernel
theorem dX8_saved_37 : decode cX8_saved 37 = .ok (.bipush 19, 2) := by decide +kernel
theorem dX8_saved_39 : decode cX8_saved 39 = .ok (.iload_n 1, 1) := by decide +kernel
theorem dX8_saved_40 : decode cX8_saved 40 = .ok (.iadd, 1) := by decide +kernel
theorem dX8_saved_41 : decode cX8_saved 41 = .ok (.iaload, 1) := by decide +kernel
theorem dX8_saved_42 : decode cX8_saved 42 = .ok (.aload_n 0, 1) := by decide +kernel
theorem dX8_saved_43 : decode cX8_saved 43 = .ok (.getfield 7, 3) := by decide +kernel
theorem dX8_saved_46 : decode cX8_saved 46 = .ok (.bipush 25, 2) := by decide +kernel
theorem dX8_saved_48 : decode cX8_saved 48 = .ok (.iload_n 1, 1) := by decide +kernel
theorem dX8_saved_49 : decode cX8_saved 49 = .ok (.iadd, 1) := by decide +kernel
theorem dX8_saved_50 : decode cX8_saved 50 = .ok (.iaload, 1) := by decide +kernel
theorem dX8_saved_51 : decode cX8_saved 51 = .ok (.iload_n 3, 1) := by decide +kernel
theorem dX8_saved_52 : decode cX8_saved 52 = .ok (.invokevirtual 138, 3) := by decide +kernel
theorem dX8_saved_55 : decode cX8_saved 55 = .ok (.iconst 2, 1) := by decide +kernel
theorem dX8_saved_56 : decode cX8_saved 56 = .ok (.idiv, 1) := by decide +kernel
theorem dX8_saved_57 : decode cX8_saved 57 = .ok (.isub, 1) := by decide +kernel
theorem dX8_saved_58 : decode cX8_saved 58 = .ok (.iadd, 1) := by decide +kernel
theorem dX8_saved_59 : decode cX8_saved 59 = .ok (.istore_n 2, 1) := by decide +kernel
theorem dX8_saved_60 : decode cX8_saved 60 = .ok (.iinc 3 1, 3) := by decide +kernel
theorem dX8_saved_63 : decode cX8_saved 63 = .ok (.goto (-48), 3) := by decide +kernel
theorem dX8_saved_66 : decode cX8_saved 66 = .ok (.iload_n 2, 1) := by decide +kernel
theorem dX8_saved_67 : decode cX8_saved 67 = .ok (.ireturn, 1) := by decide +kernel
set_option maxRecDepth 20000 in
theorem ggX8_worst_X8_isGesture : GoodIn wsX8_worst wsX8_isGesture := goodIn_r _ [8, 3, 9, 10, 7, 11, 31, 32, 33, 34, 35, 36, 37, 38, 39, 40, 41, 42, 43, 44, 45, 46, 47] (by decide +kernel) (by decide +kernel)
set_option maxRecDepth 20000 in
theorem gX8_worst_X8_isGesture : GoodIn wsX8_worst (wsV RX8 148 RX8 yX8_isGesture wsX8_isGesture) := goodIn_app (goodIn_of _ (by decide +kernel)) ggX8_worst_X8_isGesture
set_option maxRecDepth 20000 in
theorem ggX8_worst_X8_in : GoodIn wsX8_worst wsX8_in := goodIn_r _ [11] (by decide +kernel) (by decide +kernel)
set_option maxRecDepth 20000 in
theorem gX8_worst_X8_in : GoodIn wsX8_worst (va_wsS RX8 42 yX8_in wsX8_in) := goodIn_app (goodIn_of _ (by decide +kernel)) ggX8_worst_X8_in
set_option maxRecDepth 20000 in
theorem ggX8_worst_X8_dutyOf : GoodIn wsX8_worst wsX8_dutyOf := goodIn_r _ [15, 3, 16, 17, 18, 7, 19, 20, 21, 22, 23, 24, 25, 26, 27, 28, 29, 30, 31, 32, 33, 34, 35, 36, 37, 38, 39, 40, 41, 42, 43, 44, 45, 46, 47] (by decide +kernel) (by decide +kernel)
set_option maxRecDepth 20000 in
theorem gX8_worst_X8_dutyOf : GoodIn wsX8_worst (wsV RX8 157 RX8 yX8_dutyOf wsX8_dutyOf) := goodIn_app (goodIn_of _ (by decide +kernel)) ggX8_worst_X8_dutyOf
theorem dX8_worst_0 : decode cX8_worst 0 = .ok (.aload_n 0, 1) := by decide +kernel
theorem dX8_worst_1 : decode cX8_worst 1 = .ok (.iload_n 1, 1) := by decide +kernel
theorem dX8_worst_2 : decode cX8_worst 2 = .ok (.invokevirtual 148, 3) := by decide +kernel
theorem dX8_worst_5 : decode cX8_worst 5 = .ok (.ifCond .eq 13, 3) := by decide +kernel
theorem dX8_worst_8 : decode cX8_worst 8 = .ok (.iload_n 2, 1) := by decide +kernel
theorem dX8_worst_9 : decode cX8_worst 9 = .ok (.i2l, 1) := by decide +kernel
theorem dX8_worst_10 : decode cX8_worst 10 = .ok (.lconst 0, 1) := by decide +kernel
theorem dX8_worst_11 : decode cX8_worst 11 = .ok (.lconst 1, 1) := by decide +kernel
theorem dX8_worst_12 : decode cX8_worst 12 = .ok (.invokestatic 42, 3) := by decide +kernel
theorem dX8_worst_15 : decode cX8_worst 15 = .ok (.ifCond .ne 6, 3) := by decide +kernel
theorem dX8_worst_18 : decode cX8_worst 18 = .ok (.ldc 52, 2) := by decide +kernel
theorem dX8_worst_20 : decode cX8_worst 20 = .ok (.ireturn, 1) := by decide +kernel
theorem dX8_worst_21 : decode cX8_worst 21 = .ok (.ldc 200, 2) := by decide +kernel
theorem dX8_worst_23 : decode cX8_worst 23 = .ok (.istore_n 3, 1) := by decide +kernel
theorem dX8_worst_24 : decode cX8_worst 24 = .ok (.ldc 200, 2) := by decide +kernel
theorem dX8_worst_26 : decode cX8_worst 26 = .ok (.istore 4, 2) := by decide +kernel
theorem dX8_worst_28 : decode cX8_worst 28 = .ok (.iconst 0, 1) := by decide +kernel
theorem dX8_worst_29 : decode cX8_worst 29 = .ok (.istore 5, 2) := by decide +kernel
theorem dX8_worst_31 : decode cX8_worst 31 = .ok (.iload 5, 2) := by decide +kernel
theorem dX8_worst_33 : decode cX8_worst 33 = .ok (.aload_n 0, 1) := by decide +kernel
theorem dX8_worst_34 : decode cX8_worst 34 = .ok (.getfield 7, 3) := by decide +kernel
theorem dX8_worst_37 : decode cX8_worst 37 = .ok (.iconst 1, 1) := by decide +kernel
theorem dX8_worst_38 : decode cX8_worst 38 = .ok (.iaload, 1) := by decide +kernel
theorem dX8_worst_39 : decode cX8_worst 39 = .ok (.if_icmp .ge 48, 3) := by decide +kernel
theorem dX8_worst_42 : decode cX8_worst 42 = .ok (.aload_n 0, 1) := by decide +kernel
theorem dX8_worst_43 : decode cX8_worst 43 = .ok (.iload_n 1, 1) := by decide +kernel
theorem dX8_worst_44 : decode cX8_worst 44 = .ok (.iload 5, 2) := by decide +kernel
theorem dX8_worst_46 : decode cX8_worst 46 = .ok (.invokevirtual 157, 3) := by decide +kernel
theorem dX8_worst_49 : decode cX8_worst 49 = .ok (.istore 6, 2) := by decide +kernel
theorem dX8_worst_51 : decode cX8_worst 51 = .ok (.iload 6, 2) := by decide +kernel
theorem dX8_worst_53 : decode cX8_worst 53 = .ok (.iload 4, 2) := by decide +kernel
theorem dX8_worst_55 : decode cX8_worst 55 = .ok (.if_icmp .le 8, 3) := by decide +kernel
theorem dX8_worst_58 : decode cX8_worst 58 = .ok (.iload 5, 2) := by decide +kernel
theorem dX8_worst_60 : decode cX8_worst 60 = .ok (.goto 4, 3) := by decide +kernel
theorem dX8_worst_63 : decode cX8_worst 63 = .ok (.iload_n 3, 1) := by decide +kernel
theorem dX8_worst_64 : decode cX8_worst 64 = .ok (.istore_n 3, 1) := by decide +kernel
theorem dX8_worst_65 : decode cX8_worst 65 = .ok (.iload 6, 2) := by decide +kernel
theorem dX8_worst_67 : decode cX8_worst 67 = .ok (.iload 4, 2) := by decide +kernel
theorem dX8_worst_69 : decode cX8_worst 69 = .ok (.if_icmp .le 8, 3) := by decide +kernel
theorem dX8_worst_72 : decode cX8_worst 72 = .ok (.iload 6, 2) := by decide +kernel
theorem dX8_worst_74 : decode cX8_worst 74 = .ok (.goto 5, 3) := by decide +kernel
theorem dX8_worst_77 : decode cX8_worst 77 = .ok (.iload 4, 2) := by decide +kernel
theorem dX8_worst_79 : decode cX8_worst 79 = .ok (.istore 4, 2) := by decide +kernel
theorem dX8_worst_81 : decode cX8_worst 81 = .ok (.iinc 5 1, 3) := by decide +kernel
theorem dX8_worst_84 : decode cX8_worst 84 = .ok (.goto (-53), 3) := by decide +kernel
theorem dX8_worst_87 : decode cX8_worst 87 = .ok (.iload_n 2, 1) := by decide +kernel
theorem dX8_worst_88 : decode cX8_worst 88 = .ok (.ifCond .ne 7, 3) := by decide +kernel
theorem dX8_worst_91 : decode cX8_worst 91 = .ok (.iload_n 3, 1) := by decide +kernel
theorem dX8_worst_92 : decode cX8_worst 92 = .ok (.goto 5, 3) := by decide +kernel
theorem dX8_worst_95 : decode cX8_worst 95 = .ok (.iload 4, 2) := by decide +kernel
theorem dX8_worst_97 : decode cX8_worst 97 = .ok (.ireturn, 1) := by decide +kernel
set_option maxRecDepth 20000 in
theorem ggX8_tremble_X8_isGesture : GoodIn wsX8_tremble wsX8_isGesture := goodIn_r _ [9, 4, 10, 11, 8, 12, 36, 37, 38, 39, 40, 41, 42, 43, 44, 45, 46, 47, 48, 49, 50, 51, 52] (by decide +kernel) (by decide +kernel)
set_option maxRecDepth 20000 in
theorem gX8_tremble_X8_isGesture : GoodIn wsX8_tremble (wsV RX8 148 RX8 yX8_isGesture wsX8_isGesture) := goodIn_app (goodIn_of _ (by decide +kernel)) ggX8_tremble_X8_isGesture
set_option maxRecDepth 20000 in
theorem ggX8_tremble_X8_areStreets : GoodIn wsX8_tremble wsX8_areStreets := goodIn_r _ [16, 17, 18, 19, 8, 20, 4, 10, 11, 12, 36, 37, 38, 39, 40, 41, 42, 43, 44, 45, 46, 47, 48, 49, 50, 51, 52] (by decide +kernel) (by decide +kernel)
set_option maxRecDepth 20000 in
theorem gX8_tremble_X8_areStreets : GoodIn wsX8_tremble (wsV RX8 187 RX8 yX8_areStreets wsX8_areStreets) := goodIn_app (goodIn_of _ (by decide +kernel)) ggX8_tremble_X8_areStreets
set_option maxRecDepth 20000 in
theorem ggX8_tremble_X8_in : GoodIn wsX8_tremble wsX8_in := goodIn_r _ [12] (by decide +kernel) (by decide +kernel)
set_option maxRecDepth 20000 in
theorem gX8_tremble_X8_in : GoodIn wsX8_tremble (va_wsS RX8 42 yX8_in wsX8_in) := goodIn_app (goodIn_of _ (by decide +kernel)) ggX8_tremble_X8_in
set_option maxRecDepth 20000 in
theorem ggX8_tremble_X8_has : GoodIn wsX8_tremble wsX8_has := goodIn_r _ [23] (by decide +kernel) (by decide +kernel)
set_option maxRecDepth 20000 in
theorem gX8_tremble_X8_has : GoodIn wsX8_tremble (va_wsS RX8 142 yX8_has wsX8_has) := goodIn_app (goodIn_of _ (by decide +kernel)) ggX8_tremble_X8_has
set_option maxRecDepth 20000 in
theorem ggX8_tremble_X8_owes : GoodIn wsX8_tremble wsX8_owes := goodIn_r _ [27, 4, 28, 29, 30, 8, 31, 32, 33, 34, 35, 21, 22, 23, 36, 37, 38, 39, 40, 41, 42, 43, 44, 45, 46, 47, 48, 49, 50, 51, 52] (by decide +kernel) (by decide +kernel)
set_option maxRecDepth 20000 in
theorem gX8_tremble_X8_owes : GoodIn wsX8_tremble (wsV RX8 145 RX8 yX8_owes wsX8_owes) := goodIn_app (goodIn_of _ (by decide +kernel)) ggX8_tremble_X8_owes
theorem dX8_tremble_0 : decode cX8_tremble 0 = .ok (.aload_n 0, 1) := by decide +kernel
theorem dX8_tremble_1 : decode cX8_tremble 1 = .ok (.iload_n 1, 1) := by decide +kernel
theorem dX8_tremble_2 : decode cX8_tremble 2 = .ok (.invokevirtual 148, 3) := by decide +kernel
theorem dX8_tremble_5 : decode cX8_tremble 5 = .ok (.ifCond .eq 49, 3) := by decide +kernel
theorem dX8_tremble_8 : decode cX8_tremble 8 = .ok (.aload_n 0, 1) := by decide +kernel
theorem dX8_tremble_9 : decode cX8_tremble 9 = .ok (.iload_n 2, 1) := by decide +kernel
theorem dX8_tremble_10 : decode cX8_tremble 10 = .ok (.iload_n 3, 1) := by decide +kernel
theorem dX8_tremble_11 : decode cX8_tremble 11 = .ok (.invokevirtual 187, 3) := by decide +kernel
theorem dX8_tremble_14 : decode cX8_tremble 14 = .ok (.ifCond .eq 40, 3) := by decide +kernel
theorem dX8_tremble_17 : decode cX8_tremble 17 = .ok (.iload 4, 2) := by decide +kernel
theorem dX8_tremble_19 : decode cX8_tremble 19 = .ok (.i2l, 1) := by decide +kernel
theorem dX8_tremble_20 : decode cX8_tremble 20 = .ok (.lconst 0, 1) := by decide +kernel
theorem dX8_tremble_21 : decode cX8_tremble 21 = .ok (.ldc2_w 217, 3) := by decide +kernel
theorem dX8_tremble_24 : decode cX8_tremble 24 = .ok (.invokestatic 42, 3) := by decide +kernel
theorem dX8_tremble_27 : decode cX8_tremble 27 = .ok (.ifCond .eq 27, 3) := by decide +kernel
theorem dX8_tremble_30 : decode cX8_tremble 30 = .ok (.iload 5, 2) := by decide +kernel
theorem dX8_tremble_32 : decode cX8_tremble 32 = .ok (.i2l, 1) := by decide +kernel
theorem dX8_tremble_33 : decode cX8_tremble 33 = .ok (.lconst 0, 1) := by decide +kernel
theorem dX8_tremble_34 : decode cX8_tremble 34 = .ok (.ldc2_w 219, 3) := by decide +kernel
theorem dX8_tremble_37 : decode cX8_tremble 37 = .ok (.invokestatic 42, 3) := by decide +kernel
theorem dX8_tremble_40 : decode cX8_tremble 40 = .ok (.ifCond .eq 14, 3) := by decide +kernel
theorem dX8_tremble_43 : decode cX8_tremble 43 = .ok (.iload 6, 2) := by decide +kernel
theorem dX8_tremble_45 : decode cX8_tremble 45 = .ok (.i2l, 1) := by decide +kernel
theorem dX8_tremble_46 : decode cX8_tremble 46 = .ok (.lconst 0, 1) := by decide +kernel
theorem dX8_tremble_47 : decode cX8_tremble 47 = .ok (.lconst 1, 1) := by decide +kernel
theorem dX8_tremble_48 : decode cX8_tremble 48 = .ok (.invokestatic 42, 3) := by decide +kernel
theorem dX8_tremble_51 : decode cX8_tremble 51 = .ok (.ifCond .ne 6, 3) := by decide +kernel
theorem dX8_tremble_54 : decode cX8_tremble 54 = .ok (.ldc 52, 2) := by decide +kernel
theorem dX8_tremble_56 : decode cX8_tremble 56 = .ok (.ireturn, 1) := by decide +kernel
theorem dX8_tremble_57 : decode cX8_tremble 57 = .ok (.iload_n 3, 1) := by decide +kernel
theorem dX8_tremble_58 : decode cX8_tremble 58 = .ok (.iload_n 2, 1) := by decide +kernel
theorem dX8_tremble_59 : decode cX8_tremble 59 = .ok (.isub, 1) := by decide +kernel
theorem dX8_tremble_60 : decode cX8_tremble 60 = .ok (.iconst 1, 1) := by decide +kernel
theorem dX8_tremble_61 : decode cX8_tremble 61 = .ok (.iadd, 1) := by decide +kernel
theorem dX8_tremble_62 : decode cX8_tremble 62 = .ok (.istore 7, 2) := by decide +kernel
theorem dX8_tremble_64 : decode cX8_tremble 64 = .ok (.iconst 0, 1) := by decide +kernel
theorem dX8_tremble_65 : decode cX8_tremble 65 = .ok (.istore 8, 2) := by decide +kernel
theorem dX8_tremble_67 : decode cX8_tremble 67 = .ok (.iconst 0, 1) := by decide +kernel
theorem dX8_tremble_68 : decode cX8_tremble 68 = .ok (.istore 9, 2) := by decide +kernel
theorem dX8_tremble_70 : decode cX8_tremble 70 = .ok (.iconst 0, 1) := by decide +kernel
theorem dX8_tremble_71 : decode cX8_tremble 71 = .ok (.istore 10, 2) := by decide +kernel
theorem dX8_tremble_73 : decode cX8_tremble 73 = .ok (.iload 10, 2) := by decide +kernel
theorem dX8_tremble_75 : decode cX8_tremble 75 = .ok (.iconst 1, 1) := by decide +kernel
theorem dX8_tremble_76 : decode cX8_tremble 76 = .ok (.iload 7, 2) := by decide +kernel
theorem dX8_tremble_78 : decode cX8_tremble 78 = .ok (.ishl, 1) := by decide +kernel
theorem dX8_tremble_79 : decode cX8_tremble 79 = .ok (.if_icmp .ge 127, 3) := by decide +kernel
theorem dX8_tremble_82 : decode cX8_tremble 82 = .ok (.iconst 1, 1) := by decide +kernel
theorem dX8_tremble_83 : decode cX8_tremble 83 = .ok (.istore 11, 2) := by decide +kernel
theorem dX8_tremble_85 : decode cX8_tremble 85 = .ok (.iconst 0, 1) := by decide +kernel
theorem dX8_tremble_86 : decode cX8_tremble 86 = .ok (.istore 12, 2) := by decide +kernel
theorem dX8_tremble_88 : decode cX8_tremble 88 = .ok (.iconst 0, 1) := by decide +kernel
theorem dX8_tremble_89 : decode cX8_tremble 89 = .ok (.istore 13, 2) := by decide +kernel
theorem dX8_tremble_91 : decode cX8_tremble 91 = .ok (.iload 13, 2) := by decide +kernel
theorem dX8_tremble_93 : decode cX8_tremble 93 = .ok (.iload 7, 2) := by decide +kernel
theorem dX8_tremble_95 : decode cX8_tremble 95 = .ok (.if_icmp .ge 80, 3) := by decide +kernel
theorem dX8_tremble_98 : decode cX8_tremble 98 = .ok (.iload 10, 2) := by decide +kernel
theorem dX8_tremble_100 : decode cX8_tremble 100 = .ok (.iload 13, 2) := by decide +kernel
theorem dX8_tremble_102 : decode cX8_tremble 102 = .ok (.invokestatic 142, 3) := by decide +kernel
theorem dX8_tremble_105 : decode cX8_tremble 105 = .ok (.istore 14, 2) := by decide +kernel
theorem dX8_tremble_107 : decode cX8_tremble 107 = .ok (.iload 11, 2) := by decide +kernel
theorem dX8_tremble_109 : decode cX8_tremble 109 = .ok (.iload 14, 2) := by decide +kernel
theorem dX8_tremble_111 : decode cX8_tremble 111 = .ok (.ifCond .eq 8, 3) := by decide +kernel
theorem dX8_tremble_114 : decode cX8_tremble 114 = .ok (.iload 5, 2) := by decide +kernel
theorem dX8_tremble_116 : decode cX8_tremble 116 = .ok (.goto 8, 3) := by decide +kernel
theorem dX8_tremble_119 : decode cX8_tremble 119 = .ok (.bipush 10, 2) := by decide +kernel
theorem dX8_tremble_121 : decode cX8_tremble 121 = .ok (.iload 5, 2) := by decide +kernel
theorem dX8_tremble_123 : decode cX8_tremble 123 = .ok (.isub, 1) := by decide +kernel
theorem dX8_tremble_124 : decode cX8_tremble 124 = .ok (.imul, 1) := by decide +kernel
theorem dX8_tremble_125 : decode cX8_tremble 125 = .ok (.istore 11, 2) := by decide +kernel
theorem dX8_tremble_127 : decode cX8_tremble 127 = .ok (.iload 12, 2) := by decide +kernel
theorem dX8_tremble_129 : decode cX8_tremble 129 = .ok (.aload_n 0, 1) := by decide +kernel
theorem dX8_tremble_130 : decode cX8_tremble 130 = .ok (.aload_n 0, 1) := by decide +kernel
theorem dX8_tremble_131 : decode cX8_tremble 131 = .ok (.getfield 7, 3) := by decide +kernel
theorem dX8_tremble_134 : decode cX8_tremble 134 = .ok (.bipush 19, 2) := by decide +kernel
theorem dX8_tremble_136 : decode cX8_tremble 136 = .ok (.iload_n 1, 1) := by decide +kernel
theorem dX8_tremble_137 : decode cX8_tremble 137 = .ok (.iadd, 1) := by decide +kernel
theorem dX8_tremble_138 : decode cX8_tremble 138 = .ok (.iaload, 1) := by decide +kernel
theorem dX8_tremble_139 : decode cX8_tremble 139 = .ok (.aload_n 0, 1) := by decide +kernel
theorem dX8_tremble_140 : decode cX8_tremble 140 = .ok (.getfield 7, 3) := by decide +kernel
theorem dX8_tremble_143 : decode cX8_tremble 143 = .ok (.bipush 25, 2) := by decide +kernel
theorem dX8_tremble_145 : decode cX8_tremble 145 = .ok (.iload_n 1, 1) := by decide +kernel
theorem dX8_tremble_146 : decode cX8_tremble 146 = .ok (.iadd, 1) := by decide +kernel
theorem dX8_tremble_147 : decode cX8_tremble 147 = .ok (.iaload, 1) := by decide +kernel
theorem dX8_tremble_148 : decode cX8_tremble 148 = .ok (.iload 14, 2) := by decide +kernel
theorem dX8_tremble_150 : decode cX8_tremble 150 = .ok (.ifCond .eq 7, 3) := by decide +kernel
theorem dX8_tremble_153 : decode cX8_tremble 153 = .ok (.iconst 1, 1) := by decide +kernel
theorem dX8_tremble_154 : decode cX8_tremble 154 = .ok (.goto 4, 3) := by decide +kernel
theorem dX8_tremble_157 : decode cX8_tremble 157 = .ok (.iconst 0, 1) := by decide +kernel
theorem dX8_tremble_158 : decode cX8_tremble 158 = .ok (.iadd, 1) := by decide +kernel
theorem dX8_tremble_159 : decode cX8_tremble 159 = .ok (.iload_n 2, 1) := by decide +kernel
theorem dX8_tremble_160 : decode cX8_tremble 160 = .ok (.iload 13, 2) := by decide +kernel
theorem dX8_tremble_162 : decode cX8_tremble 162 = .ok (.iadd, 1) := by decide +kernel
theorem dX8_tremble_163 : decode cX8_tremble 163 = .ok (.invokevirtual 145, 3) := by decide +kernel
theorem dX8_tremble_166 : decode cX8_tremble 166 = .ok (.iadd, 1) := by decide +kernel
theorem dX8_tremble_167 : decode cX8_tremble 167 = .ok (.istore 12, 2) := by decide +kernel
theorem dX8_tremble_169 : decode cX8_tremble 169 = .ok (.iinc 13 1, 3) := by decide +kernel
theorem dX8_tremble_172 : decode cX8_tremble 172 = .ok (.goto (-81), 3) := by decide +kernel
theorem dX8_tremble_175 : decode cX8_tremble 175 = .ok (.iload 8, 2) := by decide +kernel
theorem dX8_tremble_177 : decode cX8_tremble 177 = .ok (.iload 12, 2) := by decide +kernel
theorem dX8_tremble_179 : decode cX8_tremble 179 = .ok (.iload 4, 2) := by decide +kernel
theorem dX8_tremble_181 : decode cX8_tremble 181 = .ok (.if_icmp .gt 8, 3) := by decide +kernel
theorem dX8_tremble_184 : decode cX8_tremble 184 = .ok (.iload 11, 2) := by decide +kernel
theorem dX8_tremble_186 : decode cX8_tremble 186 = .ok (.goto 4, 3) := by decide +kernel
theorem dX8_tremble_189 : decode cX8_tremble 189 = .ok (.iconst 0, 1) := by decide +kernel
theorem dX8_tremble_190 : decode cX8_tremble 190 = .ok (.iadd, 1) := by decide +kernel
theorem dX8_tremble_191 : decode cX8_tremble 191 = .ok (.istore 8, 2) := by decide +kernel
theorem dX8_tremble_193 : decode cX8_tremble 193 = .ok (.iload 9, 2) := by decide +kernel
theorem dX8_tremble_195 : decode cX8_tremble 195 = .ok (.iload 11, 2) := by decide +kernel
theorem dX8_tremble_197 : decode cX8_tremble 197 = .ok (.iadd, 1) := by decide +kernel
theorem dX8_tremble_198 : decode cX8_tremble 198 = .ok (.istore 9, 2) := by decide +kernel
theorem dX8_tremble_200 : decode cX8_tremble 200 = .ok (.iinc 10 1, 3) := by decide +kernel
theorem dX8_tremble_203 : decode cX8_tremble 203 = .ok (.goto (-130), 3) := by decide +kernel
theorem dX8_tremble_206 : decode cX8_tremble 206 = .ok (.iload 8, 2) := by decide +kernel
theorem dX8_tremble_208 : decode cX8_tremble 208 = .ok (.istore 10, 2) := by decide +kernel
theorem dX8_tremble_210 : decode cX8_tremble 210 = .ok (.iload 9, 2) := by decide +kernel
theorem dX8_tremble_212 : decode cX8_tremble 212 = .ok (.istore 11, 2) := by decide +kernel
theorem dX8_tremble_214 : decode cX8_tremble 214 = .ok (.iload 11, 2) := by decide +kernel
theorem dX8_tremble_216 : decode cX8_tremble 216 = .ok (.ifCond .eq 21, 3) := by decide +kernel
theorem dX8_tremble_219 : decode cX8_tremble 219 = .ok (.iload 10, 2) := by decide +kernel
theorem dX8_tremble_221 : decode cX8_tremble 221 = .ok (.iload 11, 2) := by decide +kernel
theorem dX8_tremble_223 : decode cX8_tremble 223 = .ok (.irem, 1) := by decide +kernel
theorem dX8_tremble_224 : decode cX8_tremble 224 = .ok (.istore 12, 2) := by decide +kernel
theorem dX8_tremble_226 : decode cX8_tremble 226 = .ok (.iload 11, 2) := by decide +kernel
theorem dX8_tremble_228 : decode cX8_tremble 228 = .ok (.istore 10, 2) := by decide +kernel
theorem dX8_tremble_230 : decode cX8_tremble 230 = .ok (.iload 12, 2) := by decide +kernel
theorem dX8_tremble_232 : decode cX8_tremble 232 = .ok (.istore 11, 2) := by decide +kernel
theorem dX8_tremble_234 : decode cX8_tremble 234 = .ok (.goto (-20), 3) := by decide +kernel
theorem dX8_tremble_237 : decode cX8_tremble 237 = .ok (.iload 6, 2) := by decide +kernel
theorem dX8_tremble_239 : decode cX8_tremble 239 = .ok (.ifCond .ne 11, 3) := by decide +kernel
theorem dX8_tremble_242 : decode cX8_tremble 242 = .ok (.iload 8, 2) := by decide +kernel
theorem dX8_tremble_244 : decode cX8_tremble 244 = .ok (.iload 10, 2) := by decide +kernel
theorem dX8_tremble_246 : decode cX8_tremble 246 = .ok (.idiv, 1) := by decide +kernel
theorem dX8_tremble_247 : decode cX8_tremble 247 = .ok (.goto 8, 3) := by decide +kernel
theorem dX8_tremble_250 : decode cX8_tremble 250 = .ok (.iload 9, 2) := by decide +kernel
theorem dX8_tremble_252 : decode cX8_tremble 252 = .ok (.iload 10, 2) := by decide +kernel
theorem dX8_tremble_254 : decode cX8_tremble 254 = .ok (.idiv, 1) := by decide +kernel
theorem dX8_tremble_255 : decode cX8_tremble 255 = .ok (.ireturn, 1) := by decide +kernel
set_option maxRecDepth 20000 in
theorem ggX8_image_X8_in : GoodIn wsX8_image wsX8_in := goodIn_r _ [8] (by decide +kernel) (by decide +kernel)
set_option maxRecDepth 20000 in
theorem gX8_image_X8_in : GoodIn wsX8_image (va_wsS RX8 42 yX8_in wsX8_in) := goodIn_app (goodIn_of _ (by decide +kernel)) ggX8_image_X8_in
set_option maxRecDepth 20000 in
theorem ggX8_image_X8_copyTown : GoodIn wsX8_image wsX8_copyTown := goodIn_r _ [12, 13, 14, 15, 16, 17, 18, 19, 20, 21, 22, 23, 24, 25, 26, 27, 28, 29, 30] (by decide +kernel) (by decide +kernel)
set_option maxRecDepth 20000 in
theorem gX8_image_X8_copyTown : GoodIn wsX8_image (wsV RX8 123 RX8 yX8_copyTown wsX8_copyTown) := goodIn_app (goodIn_of _ (by decide +kernel)) ggX8_image_X8_copyTown
theorem dX8_image_0 : decode cX8_image 0 = .ok (.iload_n 1, 1) := by decide +kernel
theorem dX8_image_1 : decode cX8_image 1 = .ok (.i2l, 1) := by decide +kernel
theorem dX8_image_2 : decode cX8_image 2 = .ok (.lconst 0, 1) := by decide +kernel
theorem dX8_image_3 : decode cX8_image 3 = .ok (.lconst 1, 1) := by decide +kernel
theorem dX8_image_4 : decode cX8_image 4 = .ok (.invokestatic 42, 3) := by decide +kernel
theorem dX8_image_7 : decode cX8_image 7 = .ok (.ifCond .ne 6, 3) := by decide +kernel
theorem dX8_image_10 : decode cX8_image 10 = .ok (.ldc 52, 2) := by decide +kernel
theorem dX8_image_12 : decode cX8_image 12 = .ok (.ireturn, 1) := by decide +kernel
theorem dX8_image_13 : decode cX8_image 13 = .ok (.aload_n 0, 1) := by decide +kernel
theorem dX8_image_14 : decode cX8_image 14 = .ok (.getfield 127, 3) := by decide +kernel
theorem dX8_image_17 : decode cX8_image 17 = .ok (.ifCond .ne 6, 3) := by decide +kernel
theorem dX8_image_20 : decode cX8_image 20 = .ok (.ldc 134, 2) := by decide +kernel
theorem dX8_image_22 : decode cX8_image 22 = .ok (.ireturn, 1) := by decide +kernel
theorem dX8_image_23 : decode cX8_image 23 = .ok (.aload_n 0, 1) := by decide +kernel
theorem dX8_image_24 : decode cX8_image 24 = .ok (.iconst 0, 1) := by decide +kernel
theorem dX8_image_25 : decode cX8_image 25 = .ok (.sipush 1225, 3) := by decide +kernel
theorem dX8_image_28 : decode cX8_image 28 = .ok (.bipush 49, 2) := by decide +kernel
theorem dX8_image_30 : decode cX8_image 30 = .ok (.iload_n 1, 1) := by decide +kernel
theorem dX8_image_31 : decode cX8_image 31 = .ok (.imul, 1) := by decide +kernel
theorem dX8_image_32 : decode cX8_image 32 = .ok (.iadd, 1) := by decide +kernel
theorem dX8_image_33 : decode cX8_image 33 = .ok (.invokevirtual 123, 3) := by decide +kernel
theorem dX8_image_36 : decode cX8_image 36 = .ok (.aload_n 0, 1) := by decide +kernel
theorem dX8_image_37 : decode cX8_image 37 = .ok (.getfield 13, 3) := by decide +kernel
theorem dX8_image_40 : decode cX8_image 40 = .ok (.iload_n 1, 1) := by decide +kernel
theorem dX8_image_41 : decode cX8_image 41 = .ok (.iconst 1, 1) := by decide +kernel
theorem dX8_image_42 : decode cX8_image 42 = .ok (.bastore, 1) := by decide +kernel
theorem dX8_image_43 : decode cX8_image 43 = .ok (.iconst 1, 1) := by decide +kernel
theorem dX8_image_44 : decode cX8_image 44 = .ok (.ireturn, 1) := by decide +kernel
set_option maxRecDepth 20000 in
theorem ggX8_restore_X8_in : GoodIn wsX8_restore wsX8_in := goodIn_r _ [8] (by decide +kernel) (by decide +kernel)
set_option maxRecDepth 20000 in
theorem gX8_restore_X8_in : GoodIn wsX8_restore (va_wsS RX8 42 yX8_in wsX8_in) := goodIn_app (goodIn_of _ (by decide +kernel)) ggX8_restore_X8_in
set_option maxRecDepth 20000 in
theorem ggX8_restore_X8_copyTown : GoodIn wsX8_restore wsX8_copyTown := goodIn_r _ [12, 13, 14, 15, 16, 17, 18, 19, 20, 21, 22, 23, 24, 25, 26, 27, 28, 29, 30] (by decide +kernel) (by decide +kernel)
set_option maxRecDepth 20000 in
theorem gX8_restore_X8_copyTown : GoodIn wsX8_restore (wsV RX8 123 RX8 yX8_copyTown wsX8_copyTown) := goodIn_app (goodIn_of _ (by decide +kernel)) ggX8_restore_X8_copyTown
theorem dX8_restore_0 : decode cX8_restore 0 = .ok (.iload_n 1, 1) := by decide +kernel
theorem dX8_restore_1 : decode cX8_restore 1 = .ok (.i2l, 1) := by decide +kernel
theorem dX8_restore_2 : decode cX8_restore 2 = .ok (.lconst 0, 1) := by decide +kernel
theorem dX8_restore_3 : decode cX8_restore 3 = .ok (.lconst 1, 1) := by decide +kernel
theorem dX8_restore_4 : decode cX8_restore 4 = .ok (.invokestatic 42, 3) := by decide +kernel
theorem dX8_restore_7 : decode cX8_restore 7 = .ok (.ifCond .ne 6, 3) := by decide +kernel
theorem dX8_restore_10 : decode cX8_restore 10 = .ok (.ldc 52, 2) := by decide +kernel
theorem dX8_restore_12 : decode cX8_restore 12 = .ok (.ireturn, 1) := by decide +kernel
theorem dX8_restore_13 : decode cX8_restore 13 = .ok (.aload_n 0, 1) := by decide +kernel
theorem dX8_restore_14 : decode cX8_restore 14 = .ok (.getfield 13, 3) := by decide +kernel
theorem dX8_restore_17 : decode cX8_restore 17 = .ok (.iload_n 1, 1) := by decide +kernel
theorem dX8_restore_18 : decode cX8_restore 18 = .ok (.baload, 1) := by decide +kernel
theorem dX8_restore_19 : decode cX8_restore 19 = .ok (.ifCond .ne 6, 3) := by decide +kernel
theorem dX8_restore_22 : decode cX8_restore 22 = .ok (.ldc 134, 2) := by decide +kernel
theorem dX8_restore_24 : decode cX8_restore 24 = .ok (.ireturn, 1) := by decide +kernel
theorem dX8_restore_25 : decode cX8_restore 25 = .ok (.aload_n 0, 1) := by decide +kernel
theorem dX8_restore_26 : decode cX8_restore 26 = .ok (.sipush 1225, 3) := by decide +kernel
theorem dX8_restore_29 : decode cX8_restore 29 = .ok (.bipush 49, 2) := by decide +kernel
theorem dX8_restore_31 : decode cX8_restore 31 = .ok (.iload_n 1, 1) := by decide +kernel
theorem dX8_restore_32 : decode cX8_restore 32 = .ok (.imul, 1) := by decide +kernel
theorem dX8_restore_33 : decode cX8_restore 33 = .ok (.iadd, 1) := by decide +kernel
theorem dX8_restore_34 : decode cX8_restore 34 = .ok (.iconst 0, 1) := by decide +kernel
theorem dX8_restore_35 : decode cX8_restore 35 = .ok (.invokevirtual 123, 3) := by decide +kernel
theorem dX8_restore_38 : decode cX8_restore 38 = .ok (.aload_n 0, 1) := by decide +kernel
theorem dX8_restore_39 : decode cX8_restore 39 = .ok (.iconst 0, 1) := by decide +kernel
theorem dX8_restore_40 : decode cX8_restore 40 = .ok (.putfield 131, 3) := by decide +kernel
theorem dX8_restore_43 : decode cX8_restore 43 = .ok (.iconst 1, 1) := by decide +kernel
theorem dX8_restore_44 : decode cX8_restore 44 = .ok (.ireturn, 1) := by decide +kernel
set_option maxRecDepth 20000 in
theorem ggX8_kind_X8_isGesture : GoodIn wsX8_kind wsX8_isGesture := goodIn_r _ [7, 1, 8, 9, 6, 10, 11, 12, 13, 14, 15, 16, 17, 18, 19, 20, 21, 22, 23, 24, 25, 26, 27] (by decide +kernel) (by decide +kernel)
set_option maxRecDepth 20000 in
theorem gX8_kind_X8_isGesture : GoodIn wsX8_kind (wsV RX8 148 RX8 yX8_isGesture wsX8_isGesture) := goodIn_app (goodIn_of _ (by decide +kernel)) ggX8_kind_X8_isGesture
theorem dX8_kind_0 : decode cX8_kind 0 = .ok (.aload_n 0, 1) := by decide +kernel
theorem dX8_kind_1 : decode cX8_kind 1 = .ok (.iload_n 1, 1) := by decide +kernel
theorem dX8_kind_2 : decode cX8_kind 2 = .ok (.invokevirtual 148, 3) := by decide +kernel
theorem dX8_kind_5 : decode cX8_kind 5 = .ok (.ifCond .eq 15, 3) := by decide +kernel
theorem dX8_kind_8 : decode cX8_kind 8 = .ok (.aload_n 0, 1) := by decide +kernel
theorem dX8_kind_9 : decode cX8_kind 9 = .ok (.getfield 7, 3) := by decide +kernel
theorem dX8_kind_12 : decode cX8_kind 12 = .ok (.bipush 19, 2) := by decide +kernel
theorem dX8_kind_14 : decode cX8_kind 14 = .ok (.iload_n 1, 1) := by decide +kernel
theorem dX8_kind_15 : decode cX8_kind 15 = .ok (.iadd, 1) := by decide +kernel
theorem dX8_kind_16 : decode cX8_kind 16 = .ok (.iaload, 1) := by decide +kernel
theorem dX8_kind_17 : decode cX8_kind 17 = .ok (.goto 5, 3) := by decide +kernel
theorem dX8_kind_20 : decode cX8_kind 20 = .ok (.ldc 52, 2) := by decide +kernel
theorem dX8_kind_22 : decode cX8_kind 22 = .ok (.ireturn, 1) := by decide +kernel
theorem dX8_isOf_0 : decode cX8_isOf 0 = .ok (.aload_n 0, 1) := by decide +kernel
theorem dX8_isOf_1 : decode cX8_isOf 1 = .ok (.getfield 7, 3) := by decide +kernel
theorem dX8_isOf_4 : decode cX8_isOf 4 = .ok (.bipush 19, 2) := by decide +kernel
theorem dX8_isOf_6 : decode cX8_isOf 6 = .ok (.iload_n 1, 1) := by decide +kernel
theorem dX8_isOf_7 : decode cX8_isOf 7 = .ok (.iadd, 1) := by decide +kernel
theorem dX8_isOf_8 : decode cX8_isOf 8 = .ok (.iaload, 1) := by decide +kernel
theorem dX8_isOf_9 : decode cX8_isOf 9 = .ok (.istore_n 3, 1) := by decide +kernel
theorem dX8_isOf_10 : decode cX8_isOf 10 = .ok (.iload_n 2, 1) := by decide +kernel
theorem dX8_isOf_11 : decode cX8_isOf 11 = .ok (.ifCond .eq 33, 3) := by decide +kernel
theorem dX8_isOf_14 : decode cX8_isOf 14 = .ok (.iload_n 2, 1) := by decide +kernel
theorem dX8_isOf_15 : decode cX8_isOf 15 = .ok (.iload_n 3, 1) := by decide +kernel
theorem dX8_isOf_16 : decode cX8_isOf 16 = .ok (.if_icmp .eq 28, 3) := by decide +kernel
theorem dX8_isOf_19 : decode cX8_isOf 19 = .ok (.iload_n 2, 1) := by decide +kernel
theorem dX8_isOf_20 : decode cX8_isOf 20 = .ok (.iconst 1, 1) := by decide +kernel
theorem dX8_isOf_21 : decode cX8_isOf 21 = .ok (.if_icmp .ne 13, 3) := by decide +kernel
theorem dX8_isOf_24 : decode cX8_isOf 24 = .ok (.iload_n 3, 1) := by decide +kernel
theorem dX8_isOf_25 : decode cX8_isOf 25 = .ok (.iconst 2, 1) := by decide +kernel
theorem dX8_isOf_26 : decode cX8_isOf 26 = .ok (.if_icmp .eq 18, 3) := by decide +kernel
theorem dX8_isOf_29 : decode cX8_isOf 29 = .ok (.iload_n 3, 1) := by decide +kernel
theorem dX8_isOf_30 : decode cX8_isOf 30 = .ok (.iconst 3, 1) := by decide +kernel
theorem dX8_isOf_31 : decode cX8_isOf 31 = .ok (.if_icmp .eq 13, 3) := by decide +kernel
theorem dX8_isOf_34 : decode cX8_isOf 34 = .ok (.iload_n 2, 1) := by decide +kernel
theorem dX8_isOf_35 : decode cX8_isOf 35 = .ok (.iconst 4, 1) := by decide +kernel
theorem dX8_isOf_36 : decode cX8_isOf 36 = .ok (.if_icmp .ne 12, 3) := by decide +kernel
theorem dX8_isOf_39 : decode cX8_isOf 39 = .ok (.iload_n 3, 1) := by decide +kernel
theorem dX8_isOf_40 : decode cX8_isOf 40 = .ok (.iconst 5, 1) := by decide +kernel
theorem dX8_isOf_41 : decode cX8_isOf 41 = .ok (.if_icmp .ne 7, 3) := by decide +kernel
theorem dX8_isOf_44 : decode cX8_isOf 44 = .ok (.iconst 1, 1) := by decide +kernel
theorem dX8_isOf_45 : decode cX8_isOf 45 = .ok (.goto 4, 3) := by decide +kernel
theorem dX8_isOf_48 : decode cX8_isOf 48 = .ok (.iconst 0, 1) := by decide +kernel
theorem dX8_isOf_49 : decode cX8_isOf 49 = .ok (.ireturn, 1) := by decide +kernel
set_option maxRecDepth 20000 in
theorem ggX8_as_X8_isGesture : GoodIn wsX8_as wsX8_isGesture := goodIn_r _ [7, 8, 9, 10, 6, 11, 26, 27, 28, 29, 30, 31, 32, 33, 34, 35, 36, 37, 38, 39, 40, 41, 42] (by decide +kernel) (by decide +kernel)
set_option maxRecDepth 20000 in
theorem gX8_as_X8_isGesture : GoodIn wsX8_as (wsV RX8 148 RX8 yX8_isGesture wsX8_isGesture) := goodIn_app (goodIn_of _ (by decide +kernel)) ggX8_as_X8_isGesture
set_option maxRecDepth 20000 in
theorem ggX8_as_X8_in : GoodIn wsX8_as wsX8_in := goodIn_r _ [11] (by decide +kernel) (by decide +kernel)
set_option maxRecDepth 20000 in
theorem gX8_as_X8_in : GoodIn wsX8_as (va_wsS RX8 42 yX8_in wsX8_in) := goodIn_app (goodIn_of _ (by decide +kernel)) ggX8_as_X8_in
set_option maxRecDepth 20000 in
theorem ggX8_as_X8_isOf : GoodIn wsX8_as wsX8_isOf := goodIn_r _ [15, 8, 26, 27, 28, 29, 30, 31, 32, 33, 34, 35, 36, 37, 38, 39, 40, 41, 42] (by decide +kernel) (by decide +kernel)
set_option maxRecDepth 20000 in
theorem gX8_as_X8_isOf : GoodIn wsX8_as (wsV RX8 223 RX8 yX8_isOf wsX8_isOf) := goodIn_app (goodIn_of _ (by decide +kernel)) ggX8_as_X8_isOf
set_option maxRecDepth 20000 in
theorem ggX8_as_X8_well : GoodIn wsX8_as wsX8_well := goodIn_r _ [19, 20, 26, 27, 28, 29, 30, 31, 32, 33, 34, 35, 36, 37, 38, 39, 40, 41, 42] (by decide +kernel) (by decide +kernel)
set_option maxRecDepth 20000 in
theorem gX8_as_X8_well : GoodIn wsX8_as (wsV RX8 57 RX8 yX8_well wsX8_well) := goodIn_app (goodIn_of _ (by decide +kernel)) ggX8_as_X8_well
set_option maxRecDepth 20000 in
theorem ggX8_as_X8_find : GoodIn wsX8_as wsX8_find := goodIn_r _ [24, 20, 25, 26, 27, 28, 29, 30, 31, 32, 33, 34, 35, 36, 37, 38, 39, 40, 41, 42] (by decide +kernel) (by decide +kernel)
set_option maxRecDepth 20000 in
theorem gX8_as_X8_find : GoodIn wsX8_as (wsV RX8 53 RX8 yX8_find wsX8_find) := goodIn_app (goodIn_of _ (by decide +kernel)) ggX8_as_X8_find
theorem dX8_as_0 : decode cX8_as 0 = .ok (.aload_n 0, 1) := by decide +kernel
theorem dX8_as_1 : decode cX8_as 1 = .ok (.iload_n 1, 1) := by decide +kernel
theorem dX8_as_2 : decode cX8_as 2 = .ok (.invokevirtual 148, 3) := by decide +kernel
theorem dX8_as_5 : decode cX8_as 5 = .ok (.ifCond .eq 15, 3) := by decide +kernel
theorem dX8_as_8 : decode cX8_as 8 = .ok (.iload_n 2, 1) := by decide +kernel
theorem dX8_as_9 : decode cX8_as 9 = .ok (.i2l, 1) := by decide +kernel
theorem dX8_as_10 : decode cX8_as 10 = .ok (.lconst 0, 1) := by decide +kernel
theorem dX8_as_11 : decode cX8_as 11 = .ok (.ldc2_w 221, 3) := by decide +kernel
theorem dX8_as_14 : decode cX8_as 14 = .ok (.invokestatic 42, 3) := by decide +kernel
theorem dX8_as_17 : decode cX8_as 17 = .ok (.ifCond .ne 6, 3) := by decide +kernel
theorem dX8_as_20 : decode cX8_as 20 = .ok (.ldc 52, 2) := by decide +kernel
theorem dX8_as_22 : decode cX8_as 22 = .ok (.ireturn, 1) := by decide +kernel
theorem dX8_as_23 : decode cX8_as 23 = .ok (.aload_n 0, 1) := by decide +kernel
theorem dX8_as_24 : decode cX8_as 24 = .ok (.iload_n 1, 1) := by decide +kernel
theorem dX8_as_25 : decode cX8_as 25 = .ok (.iload_n 2, 1) := by decide +kernel
theorem dX8_as_26 : decode cX8_as 26 = .ok (.invokevirtual 223, 3) := by decide +kernel
theorem dX8_as_29 : decode cX8_as 29 = .ok (.ifCond .eq 11, 3) := by decide +kernel
theorem dX8_as_32 : decode cX8_as 32 = .ok (.aload_n 0, 1) := by decide +kernel
theorem dX8_as_33 : decode cX8_as 33 = .ok (.iload_n 1, 1) := by decide +kernel
theorem dX8_as_34 : decode cX8_as 34 = .ok (.invokevirtual 57, 3) := by decide +kernel
theorem dX8_as_37 : decode cX8_as 37 = .ok (.goto 8, 3) := by decide +kernel
theorem dX8_as_40 : decode cX8_as 40 = .ok (.aload_n 0, 1) := by decide +kernel
theorem dX8_as_41 : decode cX8_as 41 = .ok (.iconst 3, 1) := by decide +kernel
theorem dX8_as_42 : decode cX8_as 42 = .ok (.invokevirtual 53, 3) := by decide +kernel
theorem dX8_as_45 : decode cX8_as 45 = .ok (.ireturn, 1) := by decide +kernel
theorem dX8_begin_0 : decode cX8_begin 0 = .ok (.aload_n 0, 1) := by decide +kernel
theorem dX8_begin_1 : decode cX8_begin 1 = .ok (.getfield 226, 3) := by decide +kernel
theorem dX8_begin_4 : decode cX8_begin 4 = .ok (.bipush 16, 2) := by decide +kernel
theorem dX8_begin_6 : decode cX8_begin 6 = .ok (.if_icmp .ge 23, 3) := by decide +kernel
theorem dX8_begin_9 : decode cX8_begin 9 = .ok (.aload_n 0, 1) := by decide +kernel
theorem dX8_begin_10 : decode cX8_begin 10 = .ok (.getfield 29, 3) := by decide +kernel
theorem dX8_begin_13 : decode cX8_begin 13 = .ok (.aload_n 0, 1) := by decide +kernel
theorem dX8_begin_14 : decode cX8_begin 14 = .ok (.getfield 226, 3) := by decide +kernel
theorem dX8_begin_17 : decode cX8_begin 17 = .ok (.iload_n 1, 1) := by decide +kernel
theorem dX8_begin_18 : decode cX8_begin 18 = .ok (.iastore, 1) := by decide +kernel
theorem dX8_begin_19 : decode cX8_begin 19 = .ok (.aload_n 0, 1) := by decide +kernel
theorem dX8_begin_20 : decode cX8_begin 20 = .ok (.dup, 1) := by decide +kernel
theorem dX8_begin_21 : decode cX8_begin 21 = .ok (.getfield 226, 3) := by decide +kernel
theorem dX8_begin_24 : decode cX8_begin 24 = .ok (.iconst 1, 1) := by decide +kernel
theorem dX8_begin_25 : decode cX8_begin 25 = .ok (.iadd, 1) := by decide +kernel
theorem dX8_begin_26 : decode cX8_begin 26 = .ok (.putfield 226, 3) := by decide +kernel
theorem dX8_begin_29 : decode cX8_begin 29 = .ok (.return_, 1) := by decide +kernel
set_option maxRecDepth 20000 in
theorem ggX8_lentSize_X8_begin : GoodIn wsX8_lentSize wsX8_begin := goodIn_r _ [6, 7, 8, 9, 10, 11, 12, 13, 14, 15, 16, 17, 18, 19, 20, 21, 22, 23, 24, 25] (by decide +kernel) (by decide +kernel)
set_option maxRecDepth 20000 in
theorem gX8_lentSize_X8_begin : GoodIn wsX8_lentSize (wsV RX8 229 RX8 yX8_begin wsX8_begin) := goodIn_app (goodIn_of _ (by decide +kernel)) ggX8_lentSize_X8_begin
theorem dX8_lentSize_0 : decode cX8_lentSize 0 = .ok (.aload_n 0, 1) := by decide +kernel
theorem dX8_lentSize_1 : decode cX8_lentSize 1 = .ok (.bipush 10, 2) := by decide +kernel
theorem dX8_lentSize_3 : decode cX8_lentSize 3 = .ok (.invokevirtual 229, 3) := by decide +kernel
theorem dX8_lentSize_6 : decode cX8_lentSize 6 = .ok (.aload_n 0, 1) := by decide +kernel
theorem dX8_lentSize_7 : decode cX8_lentSize 7 = .ok (.getfield 7, 3) := by decide +kernel
theorem dX8_lentSize_10 : decode cX8_lentSize 10 = .ok (.bipush 37, 2) := by decide +kernel
theorem dX8_lentSize_12 : decode cX8_lentSize 12 = .ok (.iload_n 1, 1) := by decide +kernel
theorem dX8_lentSize_13 : decode cX8_lentSize 13 = .ok (.iadd, 1) := by decide +kernel
theorem dX8_lentSize_14 : decode cX8_lentSize 14 = .ok (.iaload, 1) := by decide +kernel
theorem dX8_lentSize_15 : decode cX8_lentSize 15 = .ok (.ireturn, 1) := by decide +kernel
set_option maxRecDepth 20000 in
theorem ggX8_wavesSize_X8_begin : GoodIn wsX8_wavesSize wsX8_begin := goodIn_r _ [5, 6, 7, 25, 26, 27, 28, 29, 30, 31, 32, 33, 34, 35, 36, 37, 38, 39, 40, 41] (by decide +kernel) (by decide +kernel)
set_option maxRecDepth 20000 in
theorem gX8_wavesSize_X8_begin : GoodIn wsX8_wavesSize (wsV RX8 229 RX8 yX8_begin wsX8_begin) := goodIn_app (goodIn_of _ (by decide +kernel)) ggX8_wavesSize_X8_begin
set_option maxRecDepth 20000 in
theorem ggX8_wavesSize_X8_lentSize : GoodIn wsX8_wavesSize wsX8_lentSize := goodIn_r _ [11, 12, 1, 2, 3, 4, 5, 6, 7, 25, 26, 27, 28, 29, 30, 31, 32, 33, 34, 35, 36, 37, 38, 39, 40, 41] (by decide +kernel) (by decide +kernel)
set_option maxRecDepth 20000 in
theorem gX8_wavesSize_X8_lentSize : GoodIn wsX8_wavesSize (wsV RX8 233 RX8 yX8_lentSize wsX8_lentSize) := goodIn_app (goodIn_of _ (by decide +kernel)) ggX8_wavesSize_X8_lentSize
set_option maxRecDepth 20000 in
theorem ggX8_wavesSize_X8_mark : GoodIn wsX8_wavesSize wsX8_mark := goodIn_r _ [16, 12, 1, 2, 3, 4, 5, 6, 7, 17, 18, 19, 20, 21, 22, 23, 24, 25, 26, 27, 28, 29, 30, 31, 32, 33, 34, 35, 36, 37, 38, 39, 40, 41] (by decide +kernel) (by decide +kernel)
set_option maxRecDepth 20000 in
theorem gX8_wavesSize_X8_mark : GoodIn wsX8_wavesSize (wsV RX8 236 RX8 yX8_mark wsX8_mark) := goodIn_app (goodIn_of _ (by decide +kernel)) ggX8_wavesSize_X8_mark
theorem dX8_wavesSize_0 : decode cX8_wavesSize 0 = .ok (.aload_n 0, 1) := by decide +kernel
theorem dX8_wavesSize_1 : decode cX8_wavesSize 1 = .ok (.bipush 11, 2) := by decide +kernel
theorem dX8_wavesSize_3 : decode cX8_wavesSize 3 = .ok (.invokevirtual 229, 3) := by decide +kernel
theorem dX8_wavesSize_6 : decode cX8_wavesSize 6 = .ok (.aload_n 0, 1) := by decide +kernel
theorem dX8_wavesSize_7 : decode cX8_wavesSize 7 = .ok (.iload_n 1, 1) := by decide +kernel
theorem dX8_wavesSize_8 : decode cX8_wavesSize 8 = .ok (.invokevirtual 233, 3) := by decide +kernel
theorem dX8_wavesSize_11 : decode cX8_wavesSize 11 = .ok (.istore_n 2, 1) := by decide +kernel
theorem dX8_wavesSize_12 : decode cX8_wavesSize 12 = .ok (.iload_n 2, 1) := by decide +kernel
theorem dX8_wavesSize_13 : decode cX8_wavesSize 13 = .ok (.aload_n 0, 1) := by decide +kernel
theorem dX8_wavesSize_14 : decode cX8_wavesSize 14 = .ok (.iload_n 1, 1) := by decide +kernel
theorem dX8_wavesSize_15 : decode cX8_wavesSize 15 = .ok (.invokevirtual 236, 3) := by decide +kernel
theorem dX8_wavesSize_18 : decode cX8_wavesSize 18 = .ok (.iadd, 1) := by decide +kernel
theorem dX8_wavesSize_19 : decode cX8_wavesSize 19 = .ok (.ireturn, 1) := by decide +kernel
set_option maxRecDepth 20000 in
theorem ggX8_winksSize_X8_begin : GoodIn wsX8_winksSize wsX8_begin := goodIn_r _ [5, 6, 7, 13, 14, 15, 16, 17, 18, 19, 20, 21, 22, 23, 24, 25, 26, 27, 28, 29] (by decide +kernel) (by decide +kernel)
set_option maxRecDepth 20000 in
theorem gX8_winksSize_X8_begin : GoodIn wsX8_winksSize (wsV RX8 229 RX8 yX8_begin wsX8_begin) := goodIn_app (goodIn_of _ (by decide +kernel)) ggX8_winksSize_X8_begin
set_option maxRecDepth 20000 in
theorem ggX8_winksSize_X8_lentSize : GoodIn wsX8_winksSize wsX8_lentSize := goodIn_r _ [11, 12, 1, 2, 3, 4, 5, 6, 7, 13, 14, 15, 16, 17, 18, 19, 20, 21, 22, 23, 24, 25, 26, 27, 28, 29] (by decide +kernel) (by decide +kernel)
set_option maxRecDepth 20000 in
theorem gX8_winksSize_X8_lentSize : GoodIn wsX8_winksSize (wsV RX8 233 RX8 yX8_lentSize wsX8_lentSize) := goodIn_app (goodIn_of _ (by decide +kernel)) ggX8_winksSize_X8_lentSize
theorem dX8_winksSize_0 : decode cX8_winksSize 0 = .ok (.aload_n 0, 1) := by decide +kernel
theorem dX8_winksSize_1 : decode cX8_winksSize 1 = .ok (.bipush 13, 2) := by decide +kernel
theorem dX8_winksSize_3 : decode cX8_winksSize 3 = .ok (.invokevirtual 229, 3) := by decide +kernel
theorem dX8_winksSize_6 : decode cX8_winksSize 6 = .ok (.aload_n 0, 1) := by decide +kernel
theorem dX8_winksSize_7 : decode cX8_winksSize 7 = .ok (.iload_n 1, 1) := by decide +kernel
theorem dX8_winksSize_8 : decode cX8_winksSize 8 = .ok (.invokevirtual 233, 3) := by decide +kernel
theorem dX8_winksSize_11 : decode cX8_winksSize 11 = .ok (.bipush 100, 2) := by decide +kernel
theorem dX8_winksSize_13 : decode cX8_winksSize 13 = .ok (.isub, 1) := by decide +kernel
theorem dX8_winksSize_14 : decode cX8_winksSize 14 = .ok (.ireturn, 1) := by decide +kernel
set_option maxRecDepth 20000 in
theorem ggX8_sizeOf_X8_begin : GoodIn wsX8_sizeOf wsX8_begin := goodIn_r _ [6, 7, 8, 33, 34, 35, 36, 37, 38, 39, 40, 41, 42, 43, 44, 45, 46, 47, 48, 49] (by decide +kernel) (by decide +kernel)
set_option maxRecDepth 20000 in
theorem gX8_sizeOf_X8_begin : GoodIn wsX8_sizeOf (wsV RX8 229 RX8 yX8_begin wsX8_begin) := goodIn_app (goodIn_of _ (by decide +kernel)) ggX8_sizeOf_X8_begin
set_option maxRecDepth 20000 in
theorem ggX8_sizeOf_X8_wavesSize : GoodIn wsX8_sizeOf wsX8_wavesSize := goodIn_r _ [12, 2, 3, 4, 5, 6, 7, 8, 13, 14, 15, 16, 1, 17, 18, 19, 20, 21, 22, 23, 24, 25, 26, 27, 28, 33, 34, 35, 36, 37, 38, 39, 40, 41, 42, 43, 44, 45, 46, 47, 48, 49] (by decide +kernel) (by decide +kernel)
set_option maxRecDepth 20000 in
theorem gX8_sizeOf_X8_wavesSize : GoodIn wsX8_sizeOf (wsV RX8 239 RX8 yX8_wavesSize wsX8_wavesSize) := goodIn_app (goodIn_of _ (by decide +kernel)) ggX8_sizeOf_X8_wavesSize
set_option maxRecDepth 20000 in
theorem ggX8_sizeOf_X8_winksSize : GoodIn wsX8_sizeOf wsX8_winksSize := goodIn_r _ [32, 2, 3, 4, 5, 6, 7, 8, 13, 14, 15, 16, 1, 33, 34, 35, 36, 37, 38, 39, 40, 41, 42, 43, 44, 45, 46, 47, 48, 49] (by decide +kernel) (by decide +kernel)
set_option maxRecDepth 20000 in
theorem gX8_sizeOf_X8_winksSize : GoodIn wsX8_sizeOf (wsV RX8 242 RX8 yX8_winksSize wsX8_winksSize) := goodIn_app (goodIn_of _ (by decide +kernel)) ggX8_sizeOf_X8_winksSize
theorem dX8_sizeOf_0 : decode cX8_sizeOf 0 = .ok (.aload_n 0, 1) := by decide +kernel
theorem dX8_sizeOf_1 : decode cX8_sizeOf 1 = .ok (.getfield 7, 3) := by decide +kernel
theorem dX8_sizeOf_4 : decode cX8_sizeOf 4 = .ok (.bipush 19, 2) := by decide +kernel
theorem dX8_sizeOf_6 : decode cX8_sizeOf 6 = .ok (.iload_n 1, 1) := by decide +kernel
theorem dX8_sizeOf_7 : decode cX8_sizeOf 7 = .ok (.iadd, 1) := by decide +kernel
theorem dX8_sizeOf_8 : decode cX8_sizeOf 8 = .ok (.iaload, 1) := by decide +kernel
theorem dX8_sizeOf_9 : decode cX8_sizeOf 9 = .ok (.tableswitch 64 2 5 #[31, 64, 44, 50], 31) := by decide +kernel
theorem dX8_sizeOf_40 : decode cX8_sizeOf 40 = .ok (.aload_n 0, 1) := by decide +kernel
theorem dX8_sizeOf_41 : decode cX8_sizeOf 41 = .ok (.bipush 12, 2) := by decide +kernel
theorem dX8_sizeOf_43 : decode cX8_sizeOf 43 = .ok (.invokevirtual 229, 3) := by decide +kernel
theorem dX8_sizeOf_46 : decode cX8_sizeOf 46 = .ok (.aload_n 0, 1) := by decide +kernel
theorem dX8_sizeOf_47 : decode cX8_sizeOf 47 = .ok (.iload_n 1, 1) := by decide +kernel
theorem dX8_sizeOf_48 : decode cX8_sizeOf 48 = .ok (.invokevirtual 239, 3) := by decide +kernel
theorem dX8_sizeOf_51 : decode cX8_sizeOf 51 = .ok (.ineg, 1) := by decide +kernel
theorem dX8_sizeOf_52 : decode cX8_sizeOf 52 = .ok (.ireturn, 1) := by decide +kernel
theorem dX8_sizeOf_53 : decode cX8_sizeOf 53 = .ok (.aload_n 0, 1) := by decide +kernel
theorem dX8_sizeOf_54 : decode cX8_sizeOf 54 = .ok (.iload_n 1, 1) := by decide +kernel
theorem dX8_sizeOf_55 : decode cX8_sizeOf 55 = .ok (.invokevirtual 242, 3) := by decide +kernel
theorem dX8_sizeOf_58 : decode cX8_sizeOf 58 = .ok (.ireturn, 1) := by decide +kernel
theorem dX8_sizeOf_59 : decode cX8_sizeOf 59 = .ok (.aload_n 0, 1) := by decide +kernel
theorem dX8_sizeOf_60 : decode cX8_sizeOf 60 = .ok (.bipush 14, 2) := by decide +kernel
theorem dX8_sizeOf_62 : decode cX8_sizeOf 62 = .ok (.invokevirtual 229, 3) := by decide +kernel
theorem dX8_sizeOf_65 : decode cX8_sizeOf 65 = .ok (.iconst 2, 1) := by decide +kernel
theorem dX8_sizeOf_66 : decode cX8_sizeOf 66 = .ok (.aload_n 0, 1) := by decide +kernel
theorem dX8_sizeOf_67 : decode cX8_sizeOf 67 = .ok (.iload_n 1, 1) := by decide +kernel
theorem dX8_sizeOf_68 : decode cX8_sizeOf 68 = .ok (.invokevirtual 242, 3) := by decide +kernel
theorem dX8_sizeOf_71 : decode cX8_sizeOf 71 = .ok (.imul, 1) := by decide +kernel
theorem dX8_sizeOf_72 : decode cX8_sizeOf 72 = .ok (.ireturn, 1) := by decide +kernel
theorem dX8_sizeOf_73 : decode cX8_sizeOf 73 = .ok (.aload_n 0, 1) := by decide +kernel
theorem dX8_sizeOf_74 : decode cX8_sizeOf 74 = .ok (.iload_n 1, 1) := by decide +kernel
theorem dX8_sizeOf_75 : decode cX8_sizeOf 75 = .ok (.invokevirtual 239, 3) := by decide +kernel
theorem dX8_sizeOf_78 : decode cX8_sizeOf 78 = .ok (.ireturn, 1) := by decide +kernel
set_option maxRecDepth 20000 in
theorem ggX8_lentMark_X8_begin : GoodIn wsX8_lentMark wsX8_begin := goodIn_r _ [5, 6, 7, 8, 9, 10, 11, 12, 13, 14, 15, 16, 17, 18, 19, 20, 21, 22, 23, 24] (by decide +kernel) (by decide +kernel)
set_option maxRecDepth 20000 in
theorem gX8_lentMark_X8_begin : GoodIn wsX8_lentMark (wsV RX8 229 RX8 yX8_begin wsX8_begin) := goodIn_app (goodIn_of _ (by decide +kernel)) ggX8_lentMark_X8_begin
theorem dX8_lentMark_0 : decode cX8_lentMark 0 = .ok (.aload_n 0, 1) := by decide +kernel
theorem dX8_lentMark_1 : decode cX8_lentMark 1 = .ok (.bipush 20, 2) := by decide +kernel
theorem dX8_lentMark_3 : decode cX8_lentMark 3 = .ok (.invokevirtual 229, 3) := by decide +kernel
theorem dX8_lentMark_6 : decode cX8_lentMark 6 = .ok (.iload_n 1, 1) := by decide +kernel
theorem dX8_lentMark_7 : decode cX8_lentMark 7 = .ok (.ireturn, 1) := by decide +kernel
set_option maxRecDepth 20000 in
theorem ggX8_wavesMark_X8_begin : GoodIn wsX8_wavesMark wsX8_begin := goodIn_r _ [6, 7, 8, 13, 14, 15, 16, 17, 18, 19, 20, 21, 22, 23, 24, 25, 26, 27, 28, 29] (by decide +kernel) (by decide +kernel)
set_option maxRecDepth 20000 in
theorem gX8_wavesMark_X8_begin : GoodIn wsX8_wavesMark (wsV RX8 229 RX8 yX8_begin wsX8_begin) := goodIn_app (goodIn_of _ (by decide +kernel)) ggX8_wavesMark_X8_begin
set_option maxRecDepth 20000 in
theorem ggX8_wavesMark_X8_lentMark : GoodIn wsX8_wavesMark wsX8_lentMark := goodIn_r _ [12, 2, 3, 4, 5, 6, 7, 8, 13, 14, 15, 16, 17, 18, 19, 20, 21, 22, 23, 24, 25, 26, 27, 28, 29] (by decide +kernel) (by decide +kernel)
set_option maxRecDepth 20000 in
theorem gX8_wavesMark_X8_lentMark : GoodIn wsX8_wavesMark (wsV RX8 245 RX8 yX8_lentMark wsX8_lentMark) := goodIn_app (goodIn_of _ (by decide +kernel)) ggX8_wavesMark_X8_lentMark
theorem dX8_wavesMark_0 : decode cX8_wavesMark 0 = .ok (.aload_n 0, 1) := by decide +kernel
theorem dX8_wavesMark_1 : decode cX8_wavesMark 1 = .ok (.bipush 21, 2) := by decide +kernel
theorem dX8_wavesMark_3 : decode cX8_wavesMark 3 = .ok (.invokevirtual 229, 3) := by decide +kernel
theorem dX8_wavesMark_6 : decode cX8_wavesMark 6 = .ok (.aload_n 0, 1) := by decide +kernel
theorem dX8_wavesMark_7 : decode cX8_wavesMark 7 = .ok (.iload_n 1, 1) := by decide +kernel
theorem dX8_wavesMark_8 : decode cX8_wavesMark 8 = .ok (.invokevirtual 245, 3) := by decide +kernel
theorem dX8_wavesMark_11 : decode cX8_wavesMark 11 = .ok (.aload_n 0, 1) := by decide +kernel
theorem dX8_wavesMark_12 : decode cX8_wavesMark 12 = .ok (.getfield 7, 3) := by decide +kernel
theorem dX8_wavesMark_15 : decode cX8_wavesMark 15 = .ok (.bipush 25, 2) := by decide +kernel
theorem dX8_wavesMark_17 : decode cX8_wavesMark 17 = .ok (.iload_n 1, 1) := by decide +kernel
theorem dX8_wavesMark_18 : decode cX8_wavesMark 18 = .ok (.iadd, 1) := by decide +kernel
theorem dX8_wavesMark_19 : decode cX8_wavesMark 19 = .ok (.iaload, 1) := by decide +kernel
theorem dX8_wavesMark_20 : decode cX8_wavesMark 20 = .ok (.iadd, 1) := by decide +kernel
theorem dX8_wavesMark_21 : decode cX8_wavesMark 21 = .ok (.ireturn, 1) := by decide +kernel
set_option maxRecDepth 20000 in
theorem ggX8_mark_X8_begin : GoodIn wsX8_mark wsX8_begin := goodIn_r _ [6, 7, 8, 17, 18, 19, 20, 21, 22, 23, 24, 25, 26, 27, 28, 29, 30, 31, 32, 33] (by decide +kernel) (by decide +kernel)
set_option maxRecDepth 20000 in
theorem gX8_mark_X8_begin : GoodIn wsX8_mark (wsV RX8 229 RX8 yX8_begin wsX8_begin) := goodIn_app (goodIn_of _ (by decide +kernel)) ggX8_mark_X8_begin
set_option maxRecDepth 20000 in
theorem ggX8_mark_X8_wavesMark : GoodIn wsX8_mark wsX8_wavesMark := goodIn_r _ [12, 1, 2, 3, 4, 5, 6, 7, 8, 13, 14, 15, 16, 17, 18, 19, 20, 21, 22, 23, 24, 25, 26, 27, 28, 29, 30, 31, 32, 33] (by decide +kernel) (by decide +kernel)
set_option maxRecDepth 20000 in
theorem gX8_mark_X8_wavesMark : GoodIn wsX8_mark (wsV RX8 248 RX8 yX8_wavesMark wsX8_wavesMark) := goodIn_app (goodIn_of _ (by decide +kernel)) ggX8_mark_X8_wavesMark
theorem dX8_mark_0 : decode cX8_mark 0 = .ok (.aload_n 0, 1) := by decide +kernel
theorem dX8_mark_1 : decode cX8_mark 1 = .ok (.getfield 7, 3) := by decide +kernel
theorem dX8_mark_4 : decode cX8_mark 4 = .ok (.bipush 19, 2) := by decide +kernel
theorem dX8_mark_6 : decode cX8_mark 6 = .ok (.iload_n 1, 1) := by decide +kernel
theorem dX8_mark_7 : decode cX8_mark 7 = .ok (.iadd, 1) := by decide +kernel
theorem dX8_mark_8 : decode cX8_mark 8 = .ok (.iaload, 1) := by decide +kernel
theorem dX8_mark_9 : decode cX8_mark 9 = .ok (.lookupswitch 57 #[(2, 43), (3, 27)], 27) := by decide +kernel
theorem dX8_mark_36 : decode cX8_mark 36 = .ok (.aload_n 0, 1) := by decide +kernel
theorem dX8_mark_37 : decode cX8_mark 37 = .ok (.bipush 22, 2) := by decide +kernel
theorem dX8_mark_39 : decode cX8_mark 39 = .ok (.invokevirtual 229, 3) := by decide +kernel
theorem dX8_mark_42 : decode cX8_mark 42 = .ok (.aload_n 0, 1) := by decide +kernel
theorem dX8_mark_43 : decode cX8_mark 43 = .ok (.iload_n 1, 1) := by decide +kernel
theorem dX8_mark_44 : decode cX8_mark 44 = .ok (.invokevirtual 248, 3) := by decide +kernel
theorem dX8_mark_47 : decode cX8_mark 47 = .ok (.sipush 1000, 3) := by decide +kernel
theorem dX8_mark_50 : decode cX8_mark 50 = .ok (.isub, 1) := by decide +kernel
theorem dX8_mark_51 : decode cX8_mark 51 = .ok (.ireturn, 1) := by decide +kernel
theorem dX8_mark_52 : decode cX8_mark 52 = .ok (.aload_n 0, 1) := by decide +kernel
theorem dX8_mark_53 : decode cX8_mark 53 = .ok (.bipush 24, 2) := by decide +kernel
theorem dX8_mark_55 : decode cX8_mark 55 = .ok (.invokevirtual 229, 3) := by decide +kernel
theorem dX8_mark_58 : decode cX8_mark 58 = .ok (.iconst 2, 1) := by decide +kernel
theorem dX8_mark_59 : decode cX8_mark 59 = .ok (.aload_n 0, 1) := by decide +kernel
theorem dX8_mark_60 : decode cX8_mark 60 = .ok (.iload_n 1, 1) := by decide +kernel
theorem dX8_mark_61 : decode cX8_mark 61 = .ok (.invokevirtual 248, 3) := by decide +kernel
theorem dX8_mark_64 : decode cX8_mark 64 = .ok (.imul, 1) := by decide +kernel
theorem dX8_mark_65 : decode cX8_mark 65 = .ok (.ireturn, 1) := by decide +kernel
theorem dX8_mark_66 : decode cX8_mark 66 = .ok (.aload_n 0, 1) := by decide +kernel
theorem dX8_mark_67 : decode cX8_mark 67 = .ok (.iload_n 1, 1) := by decide +kernel
theorem dX8_mark_68 : decode cX8_mark 68 = .ok (.invokevirtual 248, 3) := by decide +kernel
theorem dX8_mark_71 : decode cX8_mark 71 = .ok (.ireturn, 1) := by decide +kernel
set_option maxRecDepth 20000 in
theorem ggX8_winksMark_X8_begin : GoodIn wsX8_winksMark wsX8_begin := goodIn_r _ [5, 6, 7, 37, 38, 39, 40, 41, 42, 43, 44, 45, 46, 47, 48, 49, 50, 51, 52, 53] (by decide +kernel) (by decide +kernel)
set_option maxRecDepth 20000 in
theorem gX8_winksMark_X8_begin : GoodIn wsX8_winksMark (wsV RX8 229 RX8 yX8_begin wsX8_begin) := goodIn_app (goodIn_of _ (by decide +kernel)) ggX8_winksMark_X8_begin
set_option maxRecDepth 20000 in
theorem ggX8_winksMark_X8_lentMark : GoodIn wsX8_winksMark wsX8_lentMark := goodIn_r _ [11, 1, 2, 3, 4, 5, 6, 7, 37, 38, 39, 40, 41, 42, 43, 44, 45, 46, 47, 48, 49, 50, 51, 52, 53] (by decide +kernel) (by decide +kernel)
set_option maxRecDepth 20000 in
theorem gX8_winksMark_X8_lentMark : GoodIn wsX8_winksMark (wsV RX8 245 RX8 yX8_lentMark wsX8_lentMark) := goodIn_app (goodIn_of _ (by decide +kernel)) ggX8_winksMark_X8_lentMark
set_option maxRecDepth 20000 in
theorem ggX8_winksMark_X8_sizeOf : GoodIn wsX8_winksMark wsX8_sizeOf := goodIn_r _ [15, 16, 1, 2, 3, 4, 5, 6, 7, 17, 18, 19, 20, 21, 22, 23, 24, 25, 26, 27, 28, 29, 30, 31, 32, 8, 9, 10, 11, 33, 34, 35, 36, 37, 38, 39, 40, 41, 42, 43, 44, 45, 46, 47, 48, 49, 50, 51, 52, 53] (by decide +kernel) (by decide +kernel)
set_option maxRecDepth 20000 in
theorem gX8_winksMark_X8_sizeOf : GoodIn wsX8_winksMark (wsV RX8 251 RX8 yX8_sizeOf wsX8_sizeOf) := goodIn_app (goodIn_of _ (by decide +kernel)) ggX8_winksMark_X8_sizeOf
theorem dX8_winksMark_0 : decode cX8_winksMark 0 = .ok (.aload_n 0, 1) := by decide +kernel
theorem dX8_winksMark_1 : decode cX8_winksMark 1 = .ok (.bipush 23, 2) := by decide +kernel
theorem dX8_winksMark_3 : decode cX8_winksMark 3 = .ok (.invokevirtual 229, 3) := by decide +kernel
theorem dX8_winksMark_6 : decode cX8_winksMark 6 = .ok (.aload_n 0, 1) := by decide +kernel
theorem dX8_winksMark_7 : decode cX8_winksMark 7 = .ok (.iload_n 1, 1) := by decide +kernel
theorem dX8_winksMark_8 : decode cX8_winksMark 8 = .ok (.invokevirtual 245, 3) := by decide +kernel
theorem dX8_winksMark_11 : decode cX8_winksMark 11 = .ok (.istore_n 2, 1) := by decide +kernel
theorem dX8_winksMark_12 : decode cX8_winksMark 12 = .ok (.iload_n 2, 1) := by decide +kernel
theorem dX8_winksMark_13 : decode cX8_winksMark 13 = .ok (.aload_n 0, 1) := by decide +kernel
theorem dX8_winksMark_14 : decode cX8_winksMark 14 = .ok (.iload_n 1, 1) := by decide +kernel
theorem dX8_winksMark_15 : decode cX8_winksMark 15 = .ok (.invokevirtual 251, 3) := by decide +kernel
theorem dX8_winksMark_18 : decode cX8_winksMark 18 = .ok (.isub, 1) := by decide +kernel
theorem dX8_winksMark_19 : decode cX8_winksMark 19 = .ok (.ireturn, 1) := by decide +kernel
set_option maxRecDepth 20000 in
theorem ggX8_ask_X8_isGesture : GoodIn wsX8_ask wsX8_isGesture := goodIn_r _ [7, 8, 9, 10, 6, 11, 53, 54, 55, 56, 57, 58, 59, 60, 61, 62, 63, 64, 65, 66, 67, 68, 69] (by decide +kernel) (by decide +kernel)
set_option maxRecDepth 20000 in
theorem gX8_ask_X8_isGesture : GoodIn wsX8_ask (wsV RX8 148 RX8 yX8_isGesture wsX8_isGesture) := goodIn_app (goodIn_of _ (by decide +kernel)) ggX8_ask_X8_isGesture
set_option maxRecDepth 20000 in
theorem ggX8_ask_X8_in : GoodIn wsX8_ask wsX8_in := goodIn_r _ [11] (by decide +kernel) (by decide +kernel)
set_option maxRecDepth 20000 in
theorem gX8_ask_X8_in : GoodIn wsX8_ask (va_wsS RX8 42 yX8_in wsX8_in) := goodIn_app (goodIn_of _ (by decide +kernel)) ggX8_ask_X8_in
set_option maxRecDepth 20000 in
theorem ggX8_ask_X8_sizeOf : GoodIn wsX8_ask wsX8_sizeOf := goodIn_r _ [15, 8, 16, 17, 18, 6, 19, 2, 20, 21, 22, 23, 24, 25, 26, 27, 28, 29, 30, 31, 32, 33, 34, 35, 36, 37, 38, 39, 40, 41, 42, 43, 44, 53, 54, 55, 56, 57, 58, 59, 60, 61, 62, 63, 64, 65, 66, 67, 68, 69] (by decide +kernel) (by decide +kernel)
set_option maxRecDepth 20000 in
theorem gX8_ask_X8_sizeOf : GoodIn wsX8_ask (wsV RX8 251 RX8 yX8_sizeOf wsX8_sizeOf) := goodIn_app (goodIn_of _ (by decide +kernel)) ggX8_ask_X8_sizeOf
set_option maxRecDepth 20000 in
theorem ggX8_ask_X8_isOf : GoodIn wsX8_ask wsX8_isOf := goodIn_r _ [48, 8, 53, 54, 55, 56, 57, 58, 59, 60, 61, 62, 63, 64, 65, 66, 67, 68, 69] (by decide +kernel) (by decide +kernel)
set_option maxRecDepth 20000 in
theorem gX8_ask_X8_isOf : GoodIn wsX8_ask (wsV RX8 223 RX8 yX8_isOf wsX8_isOf) := goodIn_app (goodIn_of _ (by decide +kernel)) ggX8_ask_X8_isOf
set_option maxRecDepth 20000 in
theorem ggX8_ask_X8_winksMark : GoodIn wsX8_ask wsX8_winksMark := goodIn_r _ [52, 16, 17, 18, 6, 19, 2, 20, 37, 38, 39, 40, 12, 13, 14, 15, 8, 21, 22, 23, 24, 25, 26, 27, 28, 29, 30, 31, 32, 33, 34, 35, 36, 41, 42, 43, 44, 53, 54, 55, 56, 57, 58, 59, 60, 61, 62, 63, 64, 65, 66, 67, 68, 69] (by decide +kernel) (by decide +kernel)
set_option maxRecDepth 20000 in
theorem gX8_ask_X8_winksMark : GoodIn wsX8_ask (wsV RX8 254 RX8 yX8_winksMark wsX8_winksMark) := goodIn_app (goodIn_of _ (by decide +kernel)) ggX8_ask_X8_winksMark
set_option maxRecDepth 20000 in
theorem ggX8_ask_X8_mark : GoodIn wsX8_ask wsX8_mark := goodIn_r _ [32, 8, 16, 17, 18, 6, 19, 2, 20, 33, 34, 35, 36, 37, 38, 39, 40, 53, 54, 55, 56, 57, 58, 59, 60, 61, 62, 63, 64, 65, 66, 67, 68, 69] (by decide +kernel) (by decide +kernel)
set_option maxRecDepth 20000 in
theorem gX8_ask_X8_mark : GoodIn wsX8_ask (wsV RX8 236 RX8 yX8_mark wsX8_mark) := goodIn_app (goodIn_of _ (by decide +kernel)) ggX8_ask_X8_mark
theorem dX8_ask_0 : decode cX8_ask 0 = .ok (.aload_n 0, 1) := by decide +kernel
theorem dX8_ask_1 : decode cX8_ask 1 = .ok (.iload_n 1, 1) := by decide +kernel
theorem dX8_ask_2 : decode cX8_ask 2 = .ok (.invokevirtual 148, 3) := by decide +kernel
theorem dX8_ask_5 : decode cX8_ask 5 = .ok (.ifCond .eq 13, 3) := by decide +kernel
theorem dX8_ask_8 : decode cX8_ask 8 = .ok (.iload_n 2, 1) := by decide +kernel
theorem dX8_ask_9 : decode cX8_ask 9 = .ok (.i2l, 1) := by decide +kernel
theorem dX8_ask_10 : decode cX8_ask 10 = .ok (.lconst 0, 1) := by decide +kernel
theorem dX8_ask_11 : decode cX8_ask 11 = .ok (.lconst 1, 1) := by decide +kernel
theorem dX8_ask_12 : decode cX8_ask 12 = .ok (.invokestatic 42, 3) := by decide +kernel
theorem dX8_ask_15 : decode cX8_ask 15 = .ok (.ifCond .ne 6, 3) := by decide +kernel
theorem dX8_ask_18 : decode cX8_ask 18 = .ok (.ldc 52, 2) := by decide +kernel
theorem dX8_ask_20 : decode cX8_ask 20 = .ok (.ireturn, 1) := by decide +kernel
theorem dX8_ask_21 : decode cX8_ask 21 = .ok (.aload_n 0, 1) := by decide +kernel
theorem dX8_ask_22 : decode cX8_ask 22 = .ok (.iconst 0, 1) := by decide +kernel
theorem dX8_ask_23 : decode cX8_ask 23 = .ok (.putfield 226, 3) := by decide +kernel
theorem dX8_ask_26 : decode cX8_ask 26 = .ok (.iload_n 2, 1) := by decide +kernel
theorem dX8_ask_27 : decode cX8_ask 27 = .ok (.ifCond .ne 11, 3) := by decide +kernel
theorem dX8_ask_30 : decode cX8_ask 30 = .ok (.aload_n 0, 1) := by decide +kernel
theorem dX8_ask_31 : decode cX8_ask 31 = .ok (.iload_n 1, 1) := by decide +kernel
theorem dX8_ask_32 : decode cX8_ask 32 = .ok (.invokevirtual 251, 3) := by decide +kernel
theorem dX8_ask_35 : decode cX8_ask 35 = .ok (.goto 25, 3) := by decide +kernel
theorem dX8_ask_38 : decode cX8_ask 38 = .ok (.aload_n 0, 1) := by decide +kernel
theorem dX8_ask_39 : decode cX8_ask 39 = .ok (.iload_n 1, 1) := by decide +kernel
theorem dX8_ask_40 : decode cX8_ask 40 = .ok (.iconst 4, 1) := by decide +kernel
theorem dX8_ask_41 : decode cX8_ask 41 = .ok (.invokevirtual 223, 3) := by decide +kernel
theorem dX8_ask_44 : decode cX8_ask 44 = .ok (.ifCond .eq 11, 3) := by decide +kernel
theorem dX8_ask_47 : decode cX8_ask 47 = .ok (.aload_n 0, 1) := by decide +kernel
theorem dX8_ask_48 : decode cX8_ask 48 = .ok (.iload_n 1, 1) := by decide +kernel
theorem dX8_ask_49 : decode cX8_ask 49 = .ok (.invokevirtual 254, 3) := by decide +kernel
theorem dX8_ask_52 : decode cX8_ask 52 = .ok (.goto 8, 3) := by decide +kernel
theorem dX8_ask_55 : decode cX8_ask 55 = .ok (.aload_n 0, 1) := by decide +kernel
theorem dX8_ask_56 : decode cX8_ask 56 = .ok (.iload_n 1, 1) := by decide +kernel
theorem dX8_ask_57 : decode cX8_ask 57 = .ok (.invokevirtual 236, 3) := by decide +kernel
theorem dX8_ask_60 : decode cX8_ask 60 = .ok (.ireturn, 1) := by decide +kernel
set_option maxRecDepth 20000 in
theorem ggX8_trace_X8_in : GoodIn wsX8_trace wsX8_in := goodIn_r _ [7] (by decide +kernel) (by decide +kernel)
set_option maxRecDepth 20000 in
theorem gX8_trace_X8_in : GoodIn wsX8_trace (va_wsS RX8 42 yX8_in wsX8_in) := goodIn_app (goodIn_of _ (by decide +kernel)) ggX8_trace_X8_in
theorem dX8_trace_0 : decode cX8_trace 0 = .ok (.iload_n 1, 1) := by decide +kernel
theorem dX8_trace_1 : decode cX8_trace 1 = .ok (.i2l, 1) := by decide +kernel
theorem dX8_trace_2 : decode cX8_trace 2 = .ok (.lconst 0, 1) := by decide +kernel
theorem dX8_trace_3 : decode cX8_trace 3 = .ok (.aload_n 0, 1) := by decide +kernel
theorem dX8_trace_4 : decode cX8_trace 4 = .ok (.getfield 226, 3) := by decide +kernel
theorem dX8_trace_7 : decode cX8_trace 7 = .ok (.iconst 1, 1) := by decide +kernel
theorem dX8_trace_8 : decode cX8_trace 8 = .ok (.isub, 1) := by decide +kernel
theorem dX8_trace_9 : decode cX8_trace 9 = .ok (.i2l, 1) := by decide +kernel
theorem dX8_trace_10 : decode cX8_trace 10 = .ok (.invokestatic 42, 3) := by decide +kernel
theorem dX8_trace_13 : decode cX8_trace 13 = .ok (.ifCond .eq 12, 3) := by decide +kernel
theorem dX8_trace_16 : decode cX8_trace 16 = .ok (.aload_n 0, 1) := by decide +kernel
theorem dX8_trace_17 : decode cX8_trace 17 = .ok (.getfield 29, 3) := by decide +kernel
theorem dX8_trace_20 : decode cX8_trace 20 = .ok (.iload_n 1, 1) := by decide +kernel
theorem dX8_trace_21 : decode cX8_trace 21 = .ok (.iaload, 1) := by decide +kernel
theorem dX8_trace_22 : decode cX8_trace 22 = .ok (.goto 5, 3) := by decide +kernel
theorem dX8_trace_25 : decode cX8_trace 25 = .ok (.ldc 200, 2) := by decide +kernel
theorem dX8_trace_27 : decode cX8_trace 27 = .ok (.ireturn, 1) := by decide +kernel
set_option maxRecDepth 20000 in
theorem ggX8_count_X8_bits : GoodIn wsX8_count wsX8_bits := goodIn_r _ [9] (by decide +kernel) (by decide +kernel)
set_option maxRecDepth 20000 in
theorem gX8_count_X8_bits : GoodIn wsX8_count (va_wsS RX8 257 yX8_bits wsX8_bits) := goodIn_app (goodIn_of _ (by decide +kernel)) ggX8_count_X8_bits
theorem dX8_count_0 : decode cX8_count 0 = .ok (.iconst 0, 1) := by decide +kernel
theorem dX8_count_1 : decode cX8_count 1 = .ok (.istore_n 2, 1) := by decide +kernel
theorem dX8_count_2 : decode cX8_count 2 = .ok (.iload_n 1, 1) := by decide +kernel
theorem dX8_count_3 : decode cX8_count 3 = .ok (.tableswitch 126 0 7 #[45, 78, 85, 92, 99, 106, 116, 121], 45) := by decide +kernel
theorem dX8_count_48 : decode cX8_count 48 = .ok (.iconst 0, 1) := by decide +kernel
theorem dX8_count_49 : decode cX8_count 49 = .ok (.istore_n 3, 1) := by decide +kernel
theorem dX8_count_50 : decode cX8_count 50 = .ok (.iload_n 3, 1) := by decide +kernel
theorem dX8_count_51 : decode cX8_count 51 = .ok (.bipush 8, 2) := by decide +kernel
theorem dX8_count_53 : decode cX8_count 53 = .ok (.if_icmp .ge 26, 3) := by decide +kernel
theorem dX8_count_56 : decode cX8_count 56 = .ok (.iload_n 2, 1) := by decide +kernel
theorem dX8_count_57 : decode cX8_count 57 = .ok (.aload_n 0, 1) := by decide +kernel
theorem dX8_count_58 : decode cX8_count 58 = .ok (.getfield 20, 3) := by decide +kernel
theorem dX8_count_61 : decode cX8_count 61 = .ok (.iload_n 3, 1) := by decide +kernel
theorem dX8_count_62 : decode cX8_count 62 = .ok (.iaload, 1) := by decide +kernel
theorem dX8_count_63 : decode cX8_count 63 = .ok (.ifCond .ge 7, 3) := by decide +kernel
theorem dX8_count_66 : decode cX8_count 66 = .ok (.iconst 0, 1) := by decide +kernel
theorem dX8_count_67 : decode cX8_count 67 = .ok (.goto 4, 3) := by decide +kernel
theorem dX8_count_70 : decode cX8_count 70 = .ok (.iconst 1, 1) := by decide +kernel
theorem dX8_count_71 : decode cX8_count 71 = .ok (.iadd, 1) := by decide +kernel
theorem dX8_count_72 : decode cX8_count 72 = .ok (.istore_n 2, 1) := by decide +kernel
theorem dX8_count_73 : decode cX8_count 73 = .ok (.iinc 3 1, 3) := by decide +kernel
theorem dX8_count_76 : decode cX8_count 76 = .ok (.goto (-26), 3) := by decide +kernel
theorem dX8_count_79 : decode cX8_count 79 = .ok (.iload_n 2, 1) := by decide +kernel
theorem dX8_count_80 : decode cX8_count 80 = .ok (.ireturn, 1) := by decide +kernel
theorem dX8_count_81 : decode cX8_count 81 = .ok (.aload_n 0, 1) := by decide +kernel
theorem dX8_count_82 : decode cX8_count 82 = .ok (.getfield 7, 3) := by decide +kernel
theorem dX8_count_85 : decode cX8_count 85 = .ok (.iconst 1, 1) := by decide +kernel
theorem dX8_count_86 : decode cX8_count 86 = .ok (.iaload, 1) := by decide +kernel
theorem dX8_count_87 : decode cX8_count 87 = .ok (.ireturn, 1) := by decide +kernel
theorem dX8_count_88 : decode cX8_count 88 = .ok (.aload_n 0, 1) := by decide +kernel
theorem dX8_count_89 : decode cX8_count 89 = .ok (.getfield 7, 3) := by decide +kernel
theorem dX8_count_92 : decode cX8_count 92 = .ok (.iconst 2, 1) := by decide +kernel
theorem dX8_count_93 : decode cX8_count 93 = .ok (.iaload, 1) := by decide +kernel
theorem dX8_count_94 : decode cX8_count 94 = .ok (.ireturn, 1) := by decide +kernel
theorem dX8_count_95 : decode cX8_count 95 = .ok (.aload_n 0, 1) := by decide +kernel
theorem dX8_count_96 : decode cX8_count 96 = .ok (.getfield 7, 3) := by decide +kernel
theorem dX8_count_99 : decode cX8_count 99 = .ok (.iconst 3, 1) := by decide +kernel
theorem dX8_count_100 : decode cX8_count 100 = .ok (.iaload, 1) := by decide +kernel
theorem dX8_count_101 : decode cX8_count 101 = .ok (.ireturn, 1) := by decide +kernel
theorem dX8_count_102 : decode cX8_count 102 = .ok (.aload_n 0, 1) := by decide +kernel
theorem dX8_count_103 : decode cX8_count 103 = .ok (.getfield 7, 3) := by decide +kernel
theorem dX8_count_106 : decode cX8_count 106 = .ok (.iconst 0, 1) := by decide +kernel
theorem dX8_count_107 : decode cX8_count 107 = .ok (.iaload, 1) := by decide +kernel
theorem dX8_count_108 : decode cX8_count 108 = .ok (.ireturn, 1) := by decide +kernel
theorem dX8_count_109 : decode cX8_count 109 = .ok (.aload_n 0, 1) := by decide +kernel
theorem dX8_count_110 : decode cX8_count 110 = .ok (.getfield 7, 3) := by decide +kernel
theorem dX8_count_113 : decode cX8_count 113 = .ok (.iconst 4, 1) := by decide +kernel
theorem dX8_count_114 : decode cX8_count 114 = .ok (.iaload, 1) := by decide +kernel
theorem dX8_count_115 : decode cX8_count 115 = .ok (.invokestatic 257, 3) := by decide +kernel
theorem dX8_count_118 : decode cX8_count 118 = .ok (.ireturn, 1) := by decide +kernel
theorem dX8_count_119 : decode cX8_count 119 = .ok (.aload_n 0, 1) := by decide +kernel
theorem dX8_count_120 : decode cX8_count 120 = .ok (.getfield 131, 3) := by decide +kernel
theorem dX8_count_123 : decode cX8_count 123 = .ok (.ireturn, 1) := by decide +kernel
theorem dX8_count_124 : decode cX8_count 124 = .ok (.aload_n 0, 1) := by decide +kernel
theorem dX8_count_125 : decode cX8_count 125 = .ok (.getfield 70, 3) := by decide +kernel
theorem dX8_count_128 : decode cX8_count 128 = .ok (.ireturn, 1) := by decide +kernel
theorem dX8_count_129 : decode cX8_count 129 = .ok (.ldc 52, 2) := by decide +kernel
theorem dX8_count_131 : decode cX8_count 131 = .ok (.ireturn, 1) := by decide +kernel
theorem dX8_status_0 : decode cX8_status 0 = .ok (.aload_n 0, 1) := by decide +kernel
theorem dX8_status_1 : decode cX8_status 1 = .ok (.getfield 35, 3) := by decide +kernel
theorem dX8_status_4 : decode cX8_status 4 = .ok (.ireturn, 1) := by decide +kernel
theorem dJ6_bitCount_0f7a4_0 : decode cJ6_bitCount_0f7a4 0 = .ok (.iload_n 0, 1) := by decide +kernel
theorem dJ6_bitCount_0f7a4_1 : decode cJ6_bitCount_0f7a4 1 = .ok (.iload_n 0, 1) := by decide +kernel
theorem dJ6_bitCount_0f7a4_2 : decode cJ6_bitCount_0f7a4 2 = .ok (.iconst 1, 1) := by decide +kernel
theorem dJ6_bitCount_0f7a4_3 : decode cJ6_bitCount_0f7a4 3 = .ok (.iushr, 1) := by decide +kernel
theorem dJ6_bitCount_0f7a4_4 : decode cJ6_bitCount_0f7a4 4 = .ok (.ldc_w 265, 3) := by decide +kernel
theorem dJ6_bitCount_0f7a4_7 : decode cJ6_bitCount_0f7a4 7 = .ok (.iand, 1) := by decide +kernel
theorem dJ6_bitCount_0f7a4_8 : decode cJ6_bitCount_0f7a4 8 = .ok (.isub, 1) := by decide +kernel
theorem dJ6_bitCount_0f7a4_9 : decode cJ6_bitCount_0f7a4 9 = .ok (.istore_n 0, 1) := by decide +kernel
theorem dJ6_bitCount_0f7a4_10 : decode cJ6_bitCount_0f7a4 10 = .ok (.iload_n 0, 1) := by decide +kernel
theorem dJ6_bitCount_0f7a4_11 : decode cJ6_bitCount_0f7a4 11 = .ok (.ldc_w 266, 3) := by decide +kernel
theorem dJ6_bitCount_0f7a4_14 : decode cJ6_bitCount_0f7a4 14 = .ok (.iand, 1) := by decide +kernel
theorem dJ6_bitCount_0f7a4_15 : decode cJ6_bitCount_0f7a4 15 = .ok (.iload_n 0, 1) := by decide +kernel
theorem dJ6_bitCount_0f7a4_16 : decode cJ6_bitCount_0f7a4 16 = .ok (.iconst 2, 1) := by decide +kernel
theorem dJ6_bitCount_0f7a4_17 : decode cJ6_bitCount_0f7a4 17 = .ok (.iushr, 1) := by decide +kernel
theorem dJ6_bitCount_0f7a4_18 : decode cJ6_bitCount_0f7a4 18 = .ok (.ldc_w 266, 3) := by decide +kernel
theorem dJ6_bitCount_0f7a4_21 : decode cJ6_bitCount_0f7a4 21 = .ok (.iand, 1) := by decide +kernel
theorem dJ6_bitCount_0f7a4_22 : decode cJ6_bitCount_0f7a4 22 = .ok (.iadd, 1) := by decide +kernel
theorem dJ6_bitCount_0f7a4_23 : decode cJ6_bitCount_0f7a4 23 = .ok (.istore_n 0, 1) := by decide +kernel
theorem dJ6_bitCount_0f7a4_24 : decode cJ6_bitCount_0f7a4 24 = .ok (.iload_n 0, 1) := by decide +kernel
theorem dJ6_bitCount_0f7a4_25 : decode cJ6_bitCount_0f7a4 25 = .ok (.iload_n 0, 1) := by decide +kernel
theorem dJ6_bitCount_0f7a4_26 : decode cJ6_bitCount_0f7a4 26 = .ok (.iconst 4, 1) := by decide +kernel
theorem dJ6_bitCount_0f7a4_27 : decode cJ6_bitCount_0f7a4 27 = .ok (.iushr, 1) := by decide +kernel
theorem dJ6_bitCount_0f7a4_28 : decode cJ6_bitCount_0f7a4 28 = .ok (.iadd, 1) := by decide +kernel
theorem dJ6_bitCount_0f7a4_29 : decode cJ6_bitCount_0f7a4 29 = .ok (.ldc_w 267, 3) := by decide +kernel
theorem dJ6_bitCount_0f7a4_32 : decode cJ6_bitCount_0f7a4 32 = .ok (.iand, 1) := by decide +kernel
theorem dJ6_bitCount_0f7a4_33 : decode cJ6_bitCount_0f7a4 33 = .ok (.istore_n 0, 1) := by decide +kernel
theorem dJ6_bitCount_0f7a4_34 : decode cJ6_bitCount_0f7a4 34 = .ok (.iload_n 0, 1) := by decide +kernel
theorem dJ6_bitCount_0f7a4_35 : decode cJ6_bitCount_0f7a4 35 = .ok (.iload_n 0, 1) := by decide +kernel
theorem dJ6_bitCount_0f7a4_36 : decode cJ6_bitCount_0f7a4 36 = .ok (.bipush 8, 2) := by decide +kernel
theorem dJ6_bitCount_0f7a4_38 : decode cJ6_bitCount_0f7a4 38 = .ok (.iushr, 1) := by decide +kernel
theorem dJ6_bitCount_0f7a4_39 : decode cJ6_bitCount_0f7a4 39 = .ok (.iadd, 1) := by decide +kernel
theorem dJ6_bitCount_0f7a4_40 : decode cJ6_bitCount_0f7a4 40 = .ok (.istore_n 0, 1) := by decide +kernel
theorem dJ6_bitCount_0f7a4_41 : decode cJ6_bitCount_0f7a4 41 = .ok (.iload_n 0, 1) := by decide +kernel
theorem dJ6_bitCount_0f7a4_42 : decode cJ6_bitCount_0f7a4 42 = .ok (.iload_n 0, 1) := by decide +kernel
theorem dJ6_bitCount_0f7a4_43 : decode cJ6_bitCount_0f7a4 43 = .ok (.bipush 16, 2) := by decide +kernel
theorem dJ6_bitCount_0f7a4_45 : decode cJ6_bitCount_0f7a4 45 = .ok (.iushr, 1) := by decide +kernel
theorem dJ6_bitCount_0f7a4_46 : decode cJ6_bitCount_0f7a4 46 = .ok (.iadd, 1) := by decide +kernel
theorem dJ6_bitCount_0f7a4_47 : decode cJ6_bitCount_0f7a4 47 = .ok (.istore_n 0, 1) := by decide +kernel
theorem dJ6_bitCount_0f7a4_48 : decode cJ6_bitCount_0f7a4 48 = .ok (.iload_n 0, 1) := by decide +kernel
theorem dJ6_bitCount_0f7a4_49 : decode cJ6_bitCount_0f7a4 49 = .ok (.bipush 63, 2) := by decide +kernel
theorem dJ6_bitCount_0f7a4_51 : decode cJ6_bitCount_0f7a4 51 = .ok (.iand, 1) := by decide +kernel
theorem dJ6_bitCount_0f7a4_52 : decode cJ6_bitCount_0f7a4 52 = .ok (.ireturn, 1) := by decide +kernel
theorem dJ9_max_7cf53_0 : decode cJ9_max_7cf53 0 = .ok (.iload_n 0, 1) := by decide +kernel
theorem dJ9_max_7cf53_1 : decode cJ9_max_7cf53 1 = .ok (.iload_n 1, 1) := by decide +kernel
theorem dJ9_max_7cf53_2 : decode cJ9_max_7cf53 2 = .ok (.if_icmp .lt 7, 3) := by decide +kernel
theorem dJ9_max_7cf53_5 : decode cJ9_max_7cf53 5 = .ok (.iload_n 0, 1) := by decide +kernel
theorem dJ9_max_7cf53_6 : decode cJ9_max_7cf53 6 = .ok (.goto 4, 3) := by decide +kernel
theorem dJ9_max_7cf53_9 : decode cJ9_max_7cf53 9 = .ok (.iload_n 1, 1) := by decide +kernel
theorem dJ9_max_7cf53_10 : decode cJ9_max_7cf53 10 = .ok (.ireturn, 1) := by decide +kernel
theorem dJ9_min_7cf53_0 : decode cJ9_min_7cf53 0 = .ok (.iload_n 0, 1) := by decide +kernel
theorem dJ9_min_7cf53_1 : decode cJ9_min_7cf53 1 = .ok (.iload_n 1, 1) := by decide +kernel
theorem dJ9_min_7cf53_2 : decode cJ9_min_7cf53 2 = .ok (.if_icmp .gt 7, 3) := by decide +kernel
theorem dJ9_min_7cf53_5 : decode cJ9_min_7cf53 5 = .ok (.iload_n 0, 1) := by decide +kernel
theorem dJ9_min_7cf53_6 : decode cJ9_min_7cf53 6 = .ok (.goto 4, 3) := by decide +kernel
theorem dJ9_min_7cf53_9 : decode cJ9_min_7cf53 9 = .ok (.iload_n 1, 1) := by decide +kernel
theorem dJ9_min_7cf53_10 : decode cJ9_min_7cf53 10 = .ok (.ireturn, 1) := by decide +kernel
set_option maxRecDepth 20000 in
theorem ggL_law_X7_init : GoodIn wsL_law wsX7_init := goodIn_r _ [8, 9, 10, 11, 12, 13, 14, 15, 16, 17, 18, 19, 20, 21, 22, 23, 24, 25, 26, 27, 28, 29, 30, 31, 32, 33, 34, 35, 36, 37, 38, 39, 40, 41, 42, 43, 44, 45, 46, 47, 48, 49, 50, 51, 52, 53, 54, 55, 56, 57, 58, 59, 60, 61, 62, 63, 64, 65, 66, 67, 68, 69, 70, 71, 72, 73, 74, 75, 76, 77, 78, 79, 80, 81, 82, 83, 84, 85, 86, 87, 88, 89, 943, 944, 945, 917, 918, 919, 920, 921, 922, 923, 924, 925, 946, 947, 948, 949, 950, 951, 952, 953, 954, 955, 956, 957, 958, 959, 960, 961, 962, 963, 964, 965, 966, 967, 968, 969, 970, 971, 972] (by decide +kernel) (by decide +kernel)
set_option maxRecDepth 20000 in
theorem gL_law_X7_init : GoodIn wsL_law (wsX7_init) := ggL_law_X7_init
set_option maxRecDepth 20000 in
theorem ggL_law_X8_init : GoodIn wsL_law wsX8_init := goodIn_r _ [92, 93, 10, 11, 43, 94, 95, 96, 97, 98, 99, 100, 101, 102, 926, 927, 928, 929, 930, 931, 932, 933, 934, 935, 936, 937, 938, 939, 940, 941, 942] (by decide +kernel) (by decide +kernel)
set_option maxRecDepth 20000 in
theorem gL_law_X8_init : GoodIn wsL_law (wsX8_init) := ggL_law_X8_init
set_option maxRecDepth 20000 in
theorem ggL_law_X7_row : GoodIn wsL_law wsX7_row := goodIn_r _ [106, 107, 15, 108, 109, 14, 110, 111, 112, 2, 113, 114, 115, 116, 117, 38, 118, 119, 120, 121, 122, 45, 46, 44, 123, 124, 125, 126, 917, 918, 919, 920, 921, 922, 923, 924, 925, 943, 944, 945] (by decide +kernel) (by decide +kernel)
set_option maxRecDepth 20000 in
theorem gL_law_X7_row : GoodIn wsL_law (wsV RL 13 RX7 yX7_row wsX7_row) := goodIn_app (goodIn_of _ (by decide +kernel)) ggL_law_X7_row
set_option maxRecDepth 20000 in
theorem ggL_law_X8_row : GoodIn wsL_law wsX8_row := goodIn_r _ [130, 131, 132, 97, 98, 99, 133, 134, 5, 135, 136, 137, 138, 139, 140, 141, 142, 143, 144, 145, 146, 147, 148, 149, 926, 927, 928, 929, 930, 931, 932, 933, 934, 935, 936, 937, 938, 939, 940, 941, 942] (by decide +kernel) (by decide +kernel)
set_option maxRecDepth 20000 in
theorem gL_law_X8_row : GoodIn wsL_law (wsV RL 17 RX8 yX8_row wsX8_row) := goodIn_app (goodIn_of _ (by decide +kernel)) ggL_law_X8_row
set_option maxRecDepth 20000 in
theorem ggL_law_X7_set : GoodIn wsL_law wsX7_set := goodIn_r _ [153, 107, 15, 108, 109, 14, 110, 154, 155, 156, 157, 158, 159, 160, 161, 45, 162, 163, 164, 165, 114, 115, 116, 2, 117, 38, 118, 166, 167, 168, 169, 44, 46, 170, 171, 172, 123, 124, 125, 126, 917, 918, 919, 920, 921, 922, 923, 924, 925, 943, 944, 945] (by decide +kernel) (by decide +kernel)
set_option maxRecDepth 20000 in
theorem gL_law_X7_set : GoodIn wsL_law (wsV RL 18 RX7 yX7_set wsX7_set) := goodIn_app (goodIn_of _ (by decide +kernel)) ggL_law_X7_set
set_option maxRecDepth 20000 in
theorem ggL_law_X8_set : GoodIn wsL_law wsX8_set := goodIn_r _ [176, 132, 98, 99, 97, 133, 134, 5, 135, 136, 137, 138, 139, 140, 141, 142, 143, 144, 145, 177, 178, 179, 146, 147, 148, 149, 926, 927, 928, 929, 930, 931, 932, 933, 934, 935, 936, 937, 938, 939, 940, 941, 942] (by decide +kernel) (by decide +kernel)
set_option maxRecDepth 20000 in
theorem gL_law_X8_set : GoodIn wsL_law (wsV RL 21 RX8 yX8_set wsX8_set) := goodIn_app (goodIn_of _ (by decide +kernel)) ggL_law_X8_set
set_option maxRecDepth 20000 in
theorem ggL_law_X7_copy : GoodIn wsL_law wsX7_copy := goodIn_r _ [183, 107, 15, 108, 109, 14, 110, 184, 159, 160, 161, 45, 114, 115, 116, 2, 117, 38, 118, 185, 186, 187, 188, 46, 189, 163, 164, 165, 190, 191, 192, 193, 44, 194, 195, 196, 197, 123, 124, 125, 126, 917, 918, 919, 920, 921, 922, 923, 924, 925, 943, 944, 945] (by decide +kernel) (by decide +kernel)
set_option maxRecDepth 20000 in
theorem gL_law_X7_copy : GoodIn wsL_law (wsV RL 22 RX7 yX7_copy wsX7_copy) := goodIn_app (goodIn_of _ (by decide +kernel)) ggL_law_X7_copy
set_option maxRecDepth 20000 in
theorem ggL_law_X8_copy : GoodIn wsL_law wsX8_copy := goodIn_r _ [201, 132, 98, 97, 99, 133, 134, 5, 135, 136, 137, 138, 139, 140, 141, 142, 143, 144, 145, 202, 203, 204, 205, 146, 147, 148, 149, 926, 927, 928, 929, 930, 931, 932, 933, 934, 935, 936, 937, 938, 939, 940, 941, 942] (by decide +kernel) (by decide +kernel)
set_option maxRecDepth 20000 in
theorem gL_law_X8_copy : GoodIn wsL_law (wsV RL 26 RX8 yX8_copy wsX8_copy) := goodIn_app (goodIn_of _ (by decide +kernel)) ggL_law_X8_copy
set_option maxRecDepth 20000 in
theorem ggL_law_X7_drop : GoodIn wsL_law wsX7_drop := goodIn_r _ [209, 107, 15, 108, 109, 14, 110, 184, 159, 160, 161, 45, 114, 115, 116, 2, 117, 38, 118, 210, 211, 212, 213, 123, 124, 125, 126, 917, 918, 919, 920, 921, 922, 923, 924, 925, 943, 944, 945] (by decide +kernel) (by decide +kernel)
set_option maxRecDepth 20000 in
theorem gL_law_X7_drop : GoodIn wsL_law (wsV RL 27 RX7 yX7_drop wsX7_drop) := goodIn_app (goodIn_of _ (by decide +kernel)) ggL_law_X7_drop
set_option maxRecDepth 20000 in
theorem ggL_law_X8_drop : GoodIn wsL_law wsX8_drop := goodIn_r _ [217, 132, 98, 133, 134, 5, 135, 136, 137, 138, 139, 140, 141, 142, 143, 144, 145, 146, 147, 148, 149, 926, 927, 928, 929, 930, 931, 932, 933, 934, 935, 936, 937, 938, 939, 940, 941, 942] (by decide +kernel) (by decide +kernel)
set_option maxRecDepth 20000 in
theorem gL_law_X8_drop : GoodIn wsL_law (wsV RL 31 RX8 yX8_drop wsX8_drop) := goodIn_app (goodIn_of _ (by decide +kernel)) ggL_law_X8_drop
set_option maxRecDepth 20000 in
theorem ggL_law_X7_feed : GoodIn wsL_law wsX7_feed := goodIn_r _ [221, 107, 19, 222, 111, 112, 2, 113, 223, 224, 225, 18, 226, 51, 227, 228, 229, 230, 50, 231, 917, 918, 919, 920, 921, 922, 923, 924, 925, 946, 947, 948, 949, 950, 951] (by decide +kernel) (by decide +kernel)
set_option maxRecDepth 20000 in
theorem gL_law_X7_feed : GoodIn wsL_law (wsV RL 32 RX7 yX7_feed wsX7_feed) := goodIn_app (goodIn_of _ (by decide +kernel)) ggL_law_X7_feed
set_option maxRecDepth 20000 in
theorem ggL_law_X8_feed : GoodIn wsL_law wsX8_feed := goodIn_r _ [235, 236, 132, 237, 238, 100, 137, 138, 5, 139, 926, 927, 928, 929, 930, 931, 932, 933, 934, 935, 936, 937, 938, 939, 940, 941, 942] (by decide +kernel) (by decide +kernel)
set_option maxRecDepth 20000 in
theorem gL_law_X8_feed : GoodIn wsL_law (wsV RL 35 RX8 yX8_feed wsX8_feed) := goodIn_app (goodIn_of _ (by decide +kernel)) ggL_law_X8_feed
set_option maxRecDepth 20000 in
theorem ggL_law_X7_city : GoodIn wsL_law wsX7_city := goodIn_r _ [242, 19, 24, 243, 244, 23, 29, 245, 246, 247, 248, 18, 249, 54, 55, 51, 250, 251, 252, 253, 254, 255, 256, 257, 258, 259, 260, 261, 50, 262, 263, 264, 265, 266, 267, 268, 269, 52, 53, 270, 271, 272, 273, 112, 2, 113, 274, 275, 276, 22, 277, 59, 60, 61, 62, 63, 64, 278, 279, 280, 281, 282, 283, 284, 285, 286, 287, 288, 289, 290, 291, 292, 293, 294, 295, 296, 297, 298, 299, 300, 301, 302, 65, 303, 195, 196, 197, 66, 67, 68, 69, 70, 71, 304, 305, 306, 28, 307, 79, 917, 918, 919, 920, 921, 922, 923, 924, 925, 946, 947, 948, 949, 950, 951, 952, 953, 954, 955, 956, 957, 958, 959, 960, 961, 962, 963, 964, 965, 966, 967, 968, 969] (by decide +kernel) (by decide +kernel)
set_option maxRecDepth 20000 in
theorem gL_law_X7_city : GoodIn wsL_law (wsV RL 36 RX7 yX7_city wsX7_city) := goodIn_app (goodIn_of _ (by decide +kernel)) ggL_law_X7_city
set_option maxRecDepth 20000 in
theorem ggL_law_X8_city : GoodIn wsL_law wsX8_city := goodIn_r _ [311, 237, 312, 313, 314, 315, 316, 317, 94, 318, 319, 320, 5, 321, 100, 322, 323, 324, 325, 326, 327, 328, 329, 330, 331, 332, 333, 334, 335, 336, 337, 338, 339, 340, 341, 342, 343, 344, 345, 346, 347, 348, 137, 138, 139, 349, 350, 351, 352, 353, 354, 355, 356, 357, 358, 359, 360, 361, 362, 363, 926, 927, 928, 929, 930, 931, 932, 933, 934, 935, 936, 937, 938, 939, 940, 941, 942] (by decide +kernel) (by decide +kernel)
set_option maxRecDepth 20000 in
theorem gL_law_X8_city : GoodIn wsL_law (wsV RL 40 RX8 yX8_city wsX8_city) := goodIn_app (goodIn_of _ (by decide +kernel)) ggL_law_X8_city
set_option maxRecDepth 20000 in
theorem ggL_law_X7_fault : GoodIn wsL_law wsX7_fault := goodIn_r _ [367, 19, 368, 917, 918, 919, 920, 921, 922, 923, 924, 925, 946, 947, 948, 949, 950, 951] (by decide +kernel) (by decide +kernel)
set_option maxRecDepth 20000 in
theorem gL_law_X7_fault : GoodIn wsL_law (wsV RL 41 RX7 yX7_fault wsX7_fault) := goodIn_app (goodIn_of _ (by decide +kernel)) ggL_law_X7_fault
set_option maxRecDepth 20000 in
theorem ggL_law_X8_fault : GoodIn wsL_law wsX8_fault := goodIn_r _ [372, 313, 926, 927, 928, 929, 930, 931, 932, 933, 934, 935, 936, 937, 938, 939, 940, 941, 942] (by decide +kernel) (by decide +kernel)
set_option maxRecDepth 20000 in
theorem gL_law_X8_fault : GoodIn wsL_law (wsV RL 44 RX8 yX8_fault wsX8_fault) := goodIn_app (goodIn_of _ (by decide +kernel)) ggL_law_X8_fault
set_option maxRecDepth 20000 in
theorem ggL_law_X7_make : GoodIn wsL_law wsX7_make := goodIn_r _ [376, 107, 23, 377, 378, 379, 222, 380, 29, 381, 382, 383, 2, 384, 245, 385, 386, 387, 388, 389, 390, 391, 392, 22, 393, 67, 68, 65, 394, 395, 396, 397, 398, 399, 400, 401, 402, 403, 404, 405, 60, 66, 406, 407, 408, 409, 410, 411, 412, 413, 63, 414, 415, 416, 28, 417, 75, 78, 76, 77, 79, 418, 419, 420, 917, 918, 919, 920, 921, 922, 923, 924, 925, 952, 953, 954, 955, 956, 957, 958, 959, 960, 961, 962, 963, 964, 965, 966, 967, 968, 969] (by decide +kernel) (by decide +kernel)
set_option maxRecDepth 20000 in
theorem gL_law_X7_make : GoodIn wsL_law (wsV RL 45 RX7 yX7_make wsX7_make) := goodIn_app (goodIn_of _ (by decide +kernel)) ggL_law_X7_make
set_option maxRecDepth 20000 in
theorem ggL_law_X8_make : GoodIn wsL_law wsX8_make := goodIn_r _ [424, 132, 425, 94, 426, 238, 427, 428, 429, 5, 430, 137, 138, 139, 431, 432, 433, 434, 435, 436, 437, 438, 439, 440, 441, 442, 443, 444, 445, 446, 447, 448, 449, 450, 451, 452, 453, 454, 455, 456, 457, 458, 459, 460, 461, 317, 360, 361, 362, 363, 926, 927, 928, 929, 930, 931, 932, 933, 934, 935, 936, 937, 938, 939, 940, 941, 942] (by decide +kernel) (by decide +kernel)
set_option maxRecDepth 20000 in
theorem gL_law_X8_make : GoodIn wsL_law (wsV RL 49 RX8 yX8_make wsX8_make) := goodIn_app (goodIn_of _ (by decide +kernel)) ggL_law_X8_make
set_option maxRecDepth 20000 in
theorem ggL_law_X7_dim : GoodIn wsL_law wsX7_dim := goodIn_r _ [465, 107, 23, 466, 29, 385, 386, 387, 2, 388, 389, 111, 112, 113, 414, 415, 416, 28, 417, 75, 78, 76, 77, 79, 418, 419, 408, 420, 917, 918, 919, 920, 921, 922, 923, 924, 925, 952, 953, 954, 955, 956, 957, 958, 959, 960, 961, 962, 963, 964, 965, 966, 967, 968, 969] (by decide +kernel) (by decide +kernel)
set_option maxRecDepth 20000 in
theorem gL_law_X7_dim : GoodIn wsL_law (wsV RL 50 RX7 yX7_dim wsX7_dim) := goodIn_app (goodIn_of _ (by decide +kernel)) ggL_law_X7_dim
set_option maxRecDepth 20000 in
theorem ggL_law_X8_dim : GoodIn wsL_law wsX8_dim := goodIn_r _ [470, 471, 132, 94, 431, 432, 433, 5, 434, 137, 138, 139, 458, 459, 460, 461, 317, 360, 361, 362, 363, 926, 927, 928, 929, 930, 931, 932, 933, 934, 935, 936, 937, 938, 939, 940, 941, 942] (by decide +kernel) (by decide +kernel)
set_option maxRecDepth 20000 in
theorem gL_law_X8_dim : GoodIn wsL_law (wsV RL 53 RX8 yX8_dim wsX8_dim) := goodIn_app (goodIn_of _ (by decide +kernel)) ggL_law_X8_dim
set_option maxRecDepth 20000 in
theorem ggL_law_X7_train : GoodIn wsL_law wsX7_train := goodIn_r _ [475, 107, 23, 476, 377, 29, 381, 382, 383, 2, 384, 245, 111, 112, 113, 414, 415, 416, 28, 417, 75, 78, 76, 77, 79, 418, 419, 408, 420, 917, 918, 919, 920, 921, 922, 923, 924, 925, 952, 953, 954, 955, 956, 957, 958, 959, 960, 961, 962, 963, 964, 965, 966, 967, 968, 969] (by decide +kernel) (by decide +kernel)
set_option maxRecDepth 20000 in
theorem gL_law_X7_train : GoodIn wsL_law (wsV RL 54 RX7 yX7_train wsX7_train) := goodIn_app (goodIn_of _ (by decide +kernel)) ggL_law_X7_train
set_option maxRecDepth 20000 in
theorem ggL_law_X8_train : GoodIn wsL_law wsX8_train := goodIn_r _ [480, 481, 132, 94, 425, 427, 428, 429, 5, 430, 137, 138, 139, 458, 459, 460, 461, 317, 360, 361, 362, 363, 926, 927, 928, 929, 930, 931, 932, 933, 934, 935, 936, 937, 938, 939, 940, 941, 942] (by decide +kernel) (by decide +kernel)
set_option maxRecDepth 20000 in
theorem gL_law_X8_train : GoodIn wsL_law (wsV RL 57 RX8 yX8_train wsX8_train) := goodIn_app (goodIn_of _ (by decide +kernel)) ggL_law_X8_train
set_option maxRecDepth 20000 in
theorem ggL_law_X7_know : GoodIn wsL_law wsX7_know := goodIn_r _ [485, 107, 23, 377, 29, 486, 385, 386, 387, 2, 388, 389, 111, 112, 113, 487, 411, 412, 22, 413, 63, 488, 489, 490, 491, 414, 415, 416, 28, 417, 75, 78, 76, 77, 79, 418, 419, 408, 420, 917, 918, 919, 920, 921, 922, 923, 924, 925, 952, 953, 954, 955, 956, 957, 958, 959, 960, 961, 962, 963, 964, 965, 966, 967, 968, 969] (by decide +kernel) (by decide +kernel)
set_option maxRecDepth 20000 in
theorem gL_law_X7_know : GoodIn wsL_law (wsV RL 58 RX7 yX7_know wsX7_know) := goodIn_app (goodIn_of _ (by decide +kernel)) ggL_law_X7_know
set_option maxRecDepth 20000 in
theorem ggL_law_X8_know : GoodIn wsL_law wsX8_know := goodIn_r _ [495, 132, 94, 425, 431, 432, 433, 5, 434, 137, 138, 139, 455, 456, 457, 458, 459, 460, 461, 317, 360, 361, 362, 363, 926, 927, 928, 929, 930, 931, 932, 933, 934, 935, 936, 937, 938, 939, 940, 941, 942] (by decide +kernel) (by decide +kernel)
set_option maxRecDepth 20000 in
theorem gL_law_X8_know : GoodIn wsL_law (wsV RL 61 RX8 yX8_know wsX8_know) := goodIn_app (goodIn_of _ (by decide +kernel)) ggL_law_X8_know
set_option maxRecDepth 20000 in
theorem ggL_law_X7_undo : GoodIn wsL_law wsX7_undo := goodIn_r _ [499, 29, 500, 377, 23, 501, 502, 503, 28, 504, 78, 79, 76, 77, 75, 505, 506, 507, 508, 509, 489, 490, 22, 491, 63, 917, 918, 919, 920, 921, 922, 923, 924, 925, 965, 966, 967, 968, 969, 952, 953, 954, 955, 956, 957, 958, 959, 960, 961, 962, 963, 964] (by decide +kernel) (by decide +kernel)
set_option maxRecDepth 20000 in
theorem gL_law_X7_undo : GoodIn wsL_law (wsV RL 62 RX7 yX7_undo wsX7_undo) := goodIn_app (goodIn_of _ (by decide +kernel)) ggL_law_X7_undo
set_option maxRecDepth 20000 in
theorem ggL_law_X8_undo : GoodIn wsL_law wsX8_undo := goodIn_r _ [513, 317, 425, 360, 361, 362, 5, 363, 94, 926, 927, 928, 929, 930, 931, 932, 933, 934, 935, 936, 937, 938, 939, 940, 941, 942] (by decide +kernel) (by decide +kernel)
set_option maxRecDepth 20000 in
theorem gL_law_X8_undo : GoodIn wsL_law (wsV RL 65 RX8 yX8_undo wsX8_undo) := goodIn_app (goodIn_of _ (by decide +kernel)) ggL_law_X8_undo
set_option maxRecDepth 20000 in
theorem ggL_law_X7_gesture : GoodIn wsL_law wsX7_gesture := goodIn_r _ [517, 107, 23, 476, 518, 519, 380, 381, 382, 383, 2, 384, 245, 520, 521, 522, 22, 523, 62, 524, 391, 392, 393, 67, 68, 65, 917, 918, 919, 920, 921, 922, 923, 924, 925, 952, 953, 954, 955, 956, 957, 958, 959, 960, 961, 962, 963, 964] (by decide +kernel) (by decide +kernel)
set_option maxRecDepth 20000 in
theorem gL_law_X7_gesture : GoodIn wsL_law (wsV RL 66 RX7 yX7_gesture wsX7_gesture) := goodIn_app (goodIn_of _ (by decide +kernel)) ggL_law_X7_gesture
set_option maxRecDepth 20000 in
theorem ggL_law_X8_gesture : GoodIn wsL_law wsX8_gesture := goodIn_r _ [528, 132, 94, 427, 428, 429, 5, 430, 137, 138, 139, 529, 530, 531, 532, 435, 436, 437, 438, 926, 927, 928, 929, 930, 931, 932, 933, 934, 935, 936, 937, 938, 939, 940, 941, 942] (by decide +kernel) (by decide +kernel)
set_option maxRecDepth 20000 in
theorem gL_law_X8_gesture : GoodIn wsL_law (wsV RL 69 RX8 yX8_gesture wsX8_gesture) := goodIn_app (goodIn_of _ (by decide +kernel)) ggL_law_X8_gesture
set_option maxRecDepth 20000 in
theorem ggL_law_X7_street : GoodIn wsL_law wsX7_street := goodIn_r _ [536, 107, 23, 466, 537, 385, 386, 387, 2, 388, 389, 487, 411, 412, 22, 413, 63, 538, 539, 540, 541, 64, 524, 391, 392, 393, 67, 68, 65, 917, 918, 919, 920, 921, 922, 923, 924, 925, 952, 953, 954, 955, 956, 957, 958, 959, 960, 961, 962, 963, 964] (by decide +kernel) (by decide +kernel)
set_option maxRecDepth 20000 in
theorem gL_law_X7_street : GoodIn wsL_law (wsV RL 70 RX7 yX7_street wsX7_street) := goodIn_app (goodIn_of _ (by decide +kernel)) ggL_law_X7_street
set_option maxRecDepth 20000 in
theorem ggL_law_X8_street : GoodIn wsL_law wsX8_street := goodIn_r _ [545, 132, 94, 431, 432, 433, 5, 434, 137, 138, 139, 546, 547, 548, 549, 435, 436, 437, 438, 926, 927, 928, 929, 930, 931, 932, 933, 934, 935, 936, 937, 938, 939, 940, 941, 942] (by decide +kernel) (by decide +kernel)
set_option maxRecDepth 20000 in
theorem gL_law_X8_street : GoodIn wsL_law (wsV RL 73 RX8 yX8_street wsX8_street) := goodIn_app (goodIn_of _ (by decide +kernel)) ggL_law_X8_street
set_option maxRecDepth 20000 in
theorem ggL_law_X7_duty : GoodIn wsL_law wsX7_duty := goodIn_r _ [553, 23, 107, 381, 382, 383, 2, 384, 245, 385, 386, 387, 388, 389, 394, 395, 396, 22, 397, 67, 68, 398, 399, 400, 401, 402, 403, 404, 405, 60, 66, 406, 407, 408, 409, 410, 411, 412, 413, 63, 917, 918, 919, 920, 921, 922, 923, 924, 925, 952, 953, 954, 955, 956, 957, 958, 959, 960, 961, 962, 963, 964] (by decide +kernel) (by decide +kernel)
set_option maxRecDepth 20000 in
theorem gL_law_X7_duty : GoodIn wsL_law (wsV RL 74 RX7 yX7_duty wsX7_duty) := goodIn_app (goodIn_of _ (by decide +kernel)) ggL_law_X7_duty
set_option maxRecDepth 20000 in
theorem ggL_law_X8_duty : GoodIn wsL_law wsX8_duty := goodIn_r _ [557, 132, 427, 428, 429, 5, 430, 94, 137, 138, 139, 431, 432, 433, 434, 439, 440, 441, 442, 443, 444, 445, 446, 447, 448, 449, 450, 451, 452, 453, 454, 455, 456, 457, 926, 927, 928, 929, 930, 931, 932, 933, 934, 935, 936, 937, 938, 939, 940, 941, 942] (by decide +kernel) (by decide +kernel)
set_option maxRecDepth 20000 in
theorem gL_law_X8_duty : GoodIn wsL_law (wsV RL 77 RX8 yX8_duty wsX8_duty) := goodIn_app (goodIn_of _ (by decide +kernel)) ggL_law_X8_duty
set_option maxRecDepth 20000 in
theorem ggL_law_X7_tell : GoodIn wsL_law wsX7_tell := goodIn_r _ [561, 107, 33, 23, 562, 563, 2, 564, 111, 112, 113, 565, 566, 567, 568, 385, 386, 387, 388, 389, 569, 570, 571, 32, 572, 84, 573, 574, 575, 576, 577, 578, 579, 580, 581, 582, 583, 22, 584, 69, 524, 391, 392, 393, 67, 68, 65, 585, 395, 396, 397, 398, 399, 400, 401, 402, 403, 404, 405, 60, 66, 406, 407, 408, 409, 410, 411, 412, 413, 63, 586, 587, 588, 589, 590, 419, 420, 591, 592, 593, 594, 595, 596, 597, 598, 917, 918, 919, 920, 921, 922, 923, 924, 925, 952, 953, 954, 955, 956, 957, 958, 959, 960, 961, 962, 963, 964, 970] (by decide +kernel) (by decide +kernel)
set_option maxRecDepth 20000 in
theorem gL_law_X7_tell : GoodIn wsL_law (wsV RL 78 RX7 yX7_tell wsX7_tell) := goodIn_app (goodIn_of _ (by decide +kernel)) ggL_law_X7_tell
set_option maxRecDepth 20000 in
theorem ggL_law_X8_tell : GoodIn wsL_law wsX8_tell := goodIn_r _ [602, 603, 604, 605, 132, 102, 606, 607, 94, 608, 609, 5, 610, 611, 137, 138, 139, 612, 613, 614, 615, 431, 432, 433, 434, 616, 617, 618, 619, 620, 621, 622, 623, 624, 625, 626, 627, 435, 436, 437, 438, 439, 440, 441, 442, 443, 444, 445, 446, 447, 448, 449, 450, 451, 452, 453, 454, 455, 456, 457, 926, 927, 928, 929, 930, 931, 932, 933, 934, 935, 936, 937, 938, 939, 940, 941, 942] (by decide +kernel) (by decide +kernel)
set_option maxRecDepth 20000 in
theorem gL_law_X8_tell : GoodIn wsL_law (wsV RL 81 RX8 yX8_tell wsX8_tell) := goodIn_app (goodIn_of _ (by decide +kernel)) ggL_law_X8_tell
set_option maxRecDepth 20000 in
theorem ggL_law_X7_shut : GoodIn wsL_law wsX7_shut := goodIn_r _ [631, 23, 632, 377, 107, 562, 563, 2, 564, 111, 112, 113, 633, 634, 635, 22, 636, 62, 637, 638, 639, 640, 641, 64, 70, 642, 582, 583, 584, 69, 524, 391, 392, 393, 67, 68, 65, 917, 918, 919, 920, 921, 922, 923, 924, 925, 952, 953, 954, 955, 956, 957, 958, 959, 960, 961, 962, 963, 964] (by decide +kernel) (by decide +kernel)
set_option maxRecDepth 20000 in
theorem gL_law_X7_shut : GoodIn wsL_law (wsV RL 82 RX7 yX7_shut wsX7_shut) := goodIn_app (goodIn_of _ (by decide +kernel)) ggL_law_X7_shut
set_option maxRecDepth 20000 in
theorem ggL_law_X8_shut : GoodIn wsL_law wsX8_shut := goodIn_r _ [646, 316, 425, 132, 94, 607, 608, 609, 5, 610, 611, 137, 138, 139, 647, 648, 649, 650, 624, 625, 626, 627, 435, 436, 437, 438, 926, 927, 928, 929, 930, 931, 932, 933, 934, 935, 936, 937, 938, 939, 940, 941, 942] (by decide +kernel) (by decide +kernel)
set_option maxRecDepth 20000 in
theorem gL_law_X8_shut : GoodIn wsL_law (wsV RL 85 RX8 yX8_shut wsX8_shut) := goodIn_app (goodIn_of _ (by decide +kernel)) ggL_law_X8_shut
set_option maxRecDepth 20000 in
theorem ggL_law_X7_quick : GoodIn wsL_law wsX7_quick := goodIn_r _ [654, 107, 23, 655, 562, 563, 2, 564, 111, 112, 113, 565, 566, 567, 568, 385, 386, 387, 388, 389, 656, 639, 640, 22, 641, 637, 64, 70, 642, 582, 583, 584, 69, 524, 391, 392, 393, 67, 68, 65, 917, 918, 919, 920, 921, 922, 923, 924, 925, 952, 953, 954, 955, 956, 957, 958, 959, 960, 961, 962, 963, 964] (by decide +kernel) (by decide +kernel)
set_option maxRecDepth 20000 in
theorem gL_law_X7_quick : GoodIn wsL_law (wsV RL 86 RX7 yX7_quick wsX7_quick) := goodIn_app (goodIn_of _ (by decide +kernel)) ggL_law_X7_quick
set_option maxRecDepth 20000 in
theorem ggL_law_X8_quick : GoodIn wsL_law wsX8_quick := goodIn_r _ [660, 132, 607, 608, 609, 5, 610, 611, 137, 138, 139, 612, 613, 614, 615, 431, 432, 433, 434, 94, 647, 648, 649, 650, 624, 625, 626, 627, 435, 436, 437, 438, 926, 927, 928, 929, 930, 931, 932, 933, 934, 935, 936, 937, 938, 939, 940, 941, 942] (by decide +kernel) (by decide +kernel)
set_option maxRecDepth 20000 in
theorem gL_law_X8_quick : GoodIn wsL_law (wsV RL 89 RX8 yX8_quick wsX8_quick) := goodIn_app (goodIn_of _ (by decide +kernel)) ggL_law_X8_quick
set_option maxRecDepth 20000 in
theorem ggL_law_X7_thread : GoodIn wsL_law wsX7_thread := goodIn_r _ [664, 23, 632, 377, 245, 665, 476, 666, 667, 668, 2, 669, 107, 15, 108, 109, 14, 110, 111, 112, 113, 154, 155, 156, 157, 158, 159, 160, 161, 45, 162, 163, 164, 165, 114, 115, 116, 117, 38, 118, 670, 671, 672, 673, 44, 385, 386, 387, 388, 389, 674, 675, 676, 677, 678, 399, 400, 22, 401, 402, 403, 404, 405, 60, 66, 406, 407, 408, 409, 410, 411, 412, 413, 63, 679, 680, 681, 682, 390, 391, 392, 393, 67, 68, 65, 123, 124, 125, 126, 917, 918, 919, 920, 921, 922, 923, 924, 925, 952, 953, 954, 955, 956, 957, 958, 959, 960, 961, 962, 963, 964, 943, 944, 945] (by decide +kernel) (by decide +kernel)
set_option maxRecDepth 20000 in
theorem gL_law_X7_thread : GoodIn wsL_law (wsV RL 90 RX7 yX7_thread wsX7_thread) := goodIn_app (goodIn_of _ (by decide +kernel)) ggL_law_X7_thread
set_option maxRecDepth 20000 in
theorem ggL_law_X8_thread : GoodIn wsL_law wsX8_thread := goodIn_r _ [686, 316, 425, 687, 132, 94, 133, 134, 5, 135, 136, 137, 138, 139, 688, 689, 690, 691, 98, 99, 140, 141, 142, 143, 144, 145, 202, 203, 204, 205, 431, 432, 433, 434, 692, 693, 694, 695, 435, 436, 437, 438, 696, 697, 698, 699, 443, 444, 445, 446, 447, 448, 449, 450, 451, 452, 453, 454, 455, 456, 457, 146, 147, 148, 149, 926, 927, 928, 929, 930, 931, 932, 933, 934, 935, 936, 937, 938, 939, 940, 941, 942] (by decide +kernel) (by decide +kernel)
set_option maxRecDepth 20000 in
theorem gL_law_X8_thread : GoodIn wsL_law (wsV RL 93 RX8 yX8_thread wsX8_thread) := goodIn_app (goodIn_of _ (by decide +kernel)) ggL_law_X8_thread
set_option maxRecDepth 20000 in
theorem ggL_law_X7_inches : GoodIn wsL_law wsX7_inches := goodIn_r _ [703, 107, 23, 665, 381, 382, 383, 2, 384, 245, 666, 667, 668, 669, 15, 108, 109, 14, 110, 111, 112, 113, 154, 155, 156, 157, 158, 159, 160, 161, 45, 162, 163, 164, 165, 114, 115, 116, 117, 38, 118, 670, 671, 672, 673, 44, 385, 386, 387, 388, 389, 674, 675, 676, 677, 678, 399, 400, 22, 401, 402, 403, 404, 405, 60, 66, 406, 407, 408, 409, 410, 411, 412, 413, 63, 123, 124, 125, 126, 917, 918, 919, 920, 921, 922, 923, 924, 925, 952, 953, 954, 955, 956, 957, 958, 959, 960, 961, 962, 963, 964, 943, 944, 945] (by decide +kernel) (by decide +kernel)
set_option maxRecDepth 20000 in
theorem gL_law_X7_inches : GoodIn wsL_law (wsV RL 94 RX7 yX7_inches wsX7_inches) := goodIn_app (goodIn_of _ (by decide +kernel)) ggL_law_X7_inches
set_option maxRecDepth 20000 in
theorem ggL_law_X8_inches : GoodIn wsL_law wsX8_inches := goodIn_r _ [707, 687, 132, 94, 427, 428, 429, 5, 430, 137, 138, 139, 133, 134, 135, 136, 688, 689, 690, 691, 98, 99, 140, 141, 142, 143, 144, 145, 202, 203, 204, 205, 431, 432, 433, 434, 696, 697, 698, 699, 443, 444, 445, 446, 447, 448, 449, 450, 451, 452, 453, 454, 455, 456, 457, 146, 147, 148, 149, 926, 927, 928, 929, 930, 931, 932, 933, 934, 935, 936, 937, 938, 939, 940, 941, 942] (by decide +kernel) (by decide +kernel)
set_option maxRecDepth 20000 in
theorem gL_law_X8_inches : GoodIn wsL_law (wsV RL 98 RX8 yX8_inches wsX8_inches) := goodIn_app (goodIn_of _ (by decide +kernel)) ggL_law_X8_inches
set_option maxRecDepth 20000 in
theorem ggL_law_X7_sorts : GoodIn wsL_law wsX7_sorts := goodIn_r _ [711, 107, 23, 476, 381, 382, 383, 2, 384, 245, 666, 667, 668, 669, 15, 108, 109, 14, 110, 111, 112, 113, 154, 155, 156, 157, 158, 159, 160, 161, 45, 162, 163, 164, 165, 114, 115, 116, 117, 38, 118, 670, 671, 672, 673, 44, 385, 386, 387, 388, 389, 674, 675, 676, 677, 678, 399, 400, 22, 401, 402, 403, 404, 405, 60, 66, 406, 407, 408, 409, 410, 411, 412, 413, 63, 123, 124, 125, 126, 917, 918, 919, 920, 921, 922, 923, 924, 925, 952, 953, 954, 955, 956, 957, 958, 959, 960, 961, 962, 963, 964, 943, 944, 945] (by decide +kernel) (by decide +kernel)
set_option maxRecDepth 20000 in
theorem gL_law_X7_sorts : GoodIn wsL_law (wsV RL 99 RX7 yX7_sorts wsX7_sorts) := goodIn_app (goodIn_of _ (by decide +kernel)) ggL_law_X7_sorts
set_option maxRecDepth 20000 in
theorem ggL_law_X8_sorts : GoodIn wsL_law wsX8_sorts := goodIn_r _ [715, 687, 132, 94, 427, 428, 429, 5, 430, 137, 138, 139, 133, 134, 135, 136, 688, 689, 690, 691, 98, 99, 140, 141, 142, 143, 144, 145, 202, 203, 204, 205, 431, 432, 433, 434, 696, 697, 698, 699, 443, 444, 445, 446, 447, 448, 449, 450, 451, 452, 453, 454, 455, 456, 457, 146, 147, 148, 149, 926, 927, 928, 929, 930, 931, 932, 933, 934, 935, 936, 937, 938, 939, 940, 941, 942] (by decide +kernel) (by decide +kernel)
set_option maxRecDepth 20000 in
theorem gL_law_X8_sorts : GoodIn wsL_law (wsV RL 102 RX8 yX8_sorts wsX8_sorts) := goodIn_app (goodIn_of _ (by decide +kernel)) ggL_law_X8_sorts
set_option maxRecDepth 20000 in
theorem ggL_law_X7_saved : GoodIn wsL_law wsX7_saved := goodIn_r _ [719, 107, 23, 389, 381, 382, 383, 2, 384, 245, 394, 395, 396, 22, 397, 67, 68, 398, 399, 400, 401, 402, 403, 404, 405, 60, 66, 406, 407, 408, 409, 410, 411, 412, 413, 63, 720, 721, 722, 723, 917, 918, 919, 920, 921, 922, 923, 924, 925, 952, 953, 954, 955, 956, 957, 958, 959, 960, 961, 962, 963, 964] (by decide +kernel) (by decide +kernel)
set_option maxRecDepth 20000 in
theorem gL_law_X7_saved : GoodIn wsL_law (wsV RL 103 RX7 yX7_saved wsX7_saved) := goodIn_app (goodIn_of _ (by decide +kernel)) ggL_law_X7_saved
set_option maxRecDepth 20000 in
theorem ggL_law_X8_saved : GoodIn wsL_law wsX8_saved := goodIn_r _ [727, 132, 94, 427, 428, 429, 5, 430, 137, 138, 139, 439, 440, 441, 442, 443, 444, 445, 446, 447, 448, 449, 450, 451, 452, 453, 454, 455, 456, 457, 926, 927, 928, 929, 930, 931, 932, 933, 934, 935, 936, 937, 938, 939, 940, 941, 942] (by decide +kernel) (by decide +kernel)
set_option maxRecDepth 20000 in
theorem gL_law_X8_saved : GoodIn wsL_law (wsV RL 106 RX8 yX8_saved wsX8_saved) := goodIn_app (goodIn_of _ (by decide +kernel)) ggL_law_X8_saved
set_option maxRecDepth 20000 in
theorem ggL_law_X7_worst : GoodIn wsL_law wsX7_worst := goodIn_r _ [731, 107, 23, 389, 655, 381, 382, 383, 2, 384, 245, 111, 112, 113, 732, 733, 734, 22, 735, 62, 736, 395, 396, 397, 67, 68, 398, 399, 400, 401, 402, 403, 404, 405, 60, 66, 406, 407, 408, 409, 410, 411, 412, 413, 63, 394, 917, 918, 919, 920, 921, 922, 923, 924, 925, 952, 953, 954, 955, 956, 957, 958, 959, 960, 961, 962, 963, 964] (by decide +kernel) (by decide +kernel)
set_option maxRecDepth 20000 in
theorem gL_law_X7_worst : GoodIn wsL_law (wsV RL 107 RX7 yX7_worst wsX7_worst) := goodIn_app (goodIn_of _ (by decide +kernel)) ggL_law_X7_worst
set_option maxRecDepth 20000 in
theorem ggL_law_X8_worst : GoodIn wsL_law wsX8_worst := goodIn_r _ [740, 132, 607, 94, 427, 428, 429, 5, 430, 137, 138, 139, 439, 440, 441, 442, 443, 444, 445, 446, 447, 448, 449, 450, 451, 452, 453, 454, 455, 456, 457, 926, 927, 928, 929, 930, 931, 932, 933, 934, 935, 936, 937, 938, 939, 940, 941, 942] (by decide +kernel) (by decide +kernel)
set_option maxRecDepth 20000 in
theorem gL_law_X8_worst : GoodIn wsL_law (wsV RL 110 RX8 yX8_worst wsX8_worst) := goodIn_app (goodIn_of _ (by decide +kernel)) ggL_law_X8_worst
set_option maxRecDepth 20000 in
theorem ggL_law_X7_tremble : GoodIn wsL_law wsX7_tremble := goodIn_r _ [744, 107, 23, 745, 407, 408, 409, 381, 382, 383, 2, 384, 245, 565, 566, 567, 568, 385, 386, 387, 388, 389, 111, 112, 113, 746, 747, 748, 665, 476, 678, 399, 400, 22, 401, 402, 403, 404, 405, 60, 66, 406, 410, 411, 412, 413, 63, 749, 750, 751, 917, 918, 919, 920, 921, 922, 923, 924, 925, 952, 953, 954, 955, 956, 957, 958, 959, 960, 961, 962, 963, 964] (by decide +kernel) (by decide +kernel)
set_option maxRecDepth 20000 in
theorem gL_law_X7_tremble : GoodIn wsL_law (wsV RL 111 RX7 yX7_tremble wsX7_tremble) := goodIn_app (goodIn_of _ (by decide +kernel)) ggL_law_X7_tremble
set_option maxRecDepth 20000 in
theorem ggL_law_X8_tremble : GoodIn wsL_law wsX8_tremble := goodIn_r _ [755, 756, 757, 132, 94, 427, 428, 429, 5, 430, 137, 138, 139, 612, 613, 614, 615, 431, 432, 433, 434, 455, 456, 457, 443, 444, 445, 446, 447, 448, 449, 450, 451, 452, 453, 454, 926, 927, 928, 929, 930, 931, 932, 933, 934, 935, 936, 937, 938, 939, 940, 941, 942] (by decide +kernel) (by decide +kernel)
set_option maxRecDepth 20000 in
theorem gL_law_X8_tremble : GoodIn wsL_law (wsV RL 115 RX8 yX8_tremble wsX8_tremble) := goodIn_app (goodIn_of _ (by decide +kernel)) ggL_law_X8_tremble
set_option maxRecDepth 20000 in
theorem ggL_law_X7_image : GoodIn wsL_law wsX7_image := goodIn_r _ [761, 107, 23, 632, 377, 25, 111, 112, 2, 113, 299, 300, 301, 22, 302, 59, 60, 61, 62, 63, 64, 65, 303, 195, 196, 197, 66, 67, 68, 69, 70, 71, 917, 918, 919, 920, 921, 922, 923, 924, 925, 952, 953, 954, 955, 956, 957, 958, 959, 960, 961, 962, 963, 964] (by decide +kernel) (by decide +kernel)
set_option maxRecDepth 20000 in
theorem gL_law_X7_image : GoodIn wsL_law (wsV RL 116 RX7 yX7_image wsX7_image) := goodIn_app (goodIn_of _ (by decide +kernel)) ggL_law_X7_image
set_option maxRecDepth 20000 in
theorem ggL_law_X8_image : GoodIn wsL_law wsX8_image := goodIn_r _ [765, 132, 316, 425, 96, 137, 138, 5, 139, 360, 361, 362, 363, 94, 926, 927, 928, 929, 930, 931, 932, 933, 934, 935, 936, 937, 938, 939, 940, 941, 942] (by decide +kernel) (by decide +kernel)
set_option maxRecDepth 20000 in
theorem gL_law_X8_image : GoodIn wsL_law (wsV RL 119 RX8 yX8_image wsX8_image) := goodIn_app (goodIn_of _ (by decide +kernel)) ggL_law_X8_image
set_option maxRecDepth 20000 in
theorem ggL_law_X7_restore : GoodIn wsL_law wsX7_restore := goodIn_r _ [769, 107, 25, 632, 377, 23, 29, 111, 112, 2, 113, 299, 300, 301, 22, 302, 59, 60, 61, 62, 63, 64, 65, 303, 195, 196, 197, 66, 67, 68, 69, 70, 71, 304, 305, 306, 28, 307, 79, 917, 918, 919, 920, 921, 922, 923, 924, 925, 952, 953, 954, 955, 956, 957, 958, 959, 960, 961, 962, 963, 964, 965, 966, 967, 968, 969] (by decide +kernel) (by decide +kernel)
set_option maxRecDepth 20000 in
theorem gL_law_X7_restore : GoodIn wsL_law (wsV RL 120 RX7 yX7_restore wsX7_restore) := goodIn_app (goodIn_of _ (by decide +kernel)) ggL_law_X7_restore
set_option maxRecDepth 20000 in
theorem ggL_law_X8_restore : GoodIn wsL_law wsX8_restore := goodIn_r _ [773, 132, 96, 425, 317, 137, 138, 5, 139, 360, 361, 362, 363, 94, 926, 927, 928, 929, 930, 931, 932, 933, 934, 935, 936, 937, 938, 939, 940, 941, 942] (by decide +kernel) (by decide +kernel)
set_option maxRecDepth 20000 in
theorem gL_law_X8_restore : GoodIn wsL_law (wsV RL 123 RX8 yX8_restore wsX8_restore) := goodIn_app (goodIn_of _ (by decide +kernel)) ggL_law_X8_restore
set_option maxRecDepth 20000 in
theorem ggL_law_X7_kind : GoodIn wsL_law wsX7_kind := goodIn_r _ [777, 23, 665, 107, 381, 382, 383, 2, 384, 245, 917, 918, 919, 920, 921, 922, 923, 924, 925, 952, 953, 954, 955, 956, 957, 958, 959, 960, 961, 962, 963, 964] (by decide +kernel) (by decide +kernel)
set_option maxRecDepth 20000 in
theorem gL_law_X7_kind : GoodIn wsL_law (wsV RL 124 RX7 yX7_kind wsX7_kind) := goodIn_app (goodIn_of _ (by decide +kernel)) ggL_law_X7_kind
set_option maxRecDepth 20000 in
theorem ggL_law_X8_kind : GoodIn wsL_law wsX8_kind := goodIn_r _ [781, 94, 132, 427, 428, 429, 5, 430, 137, 138, 139, 926, 927, 928, 929, 930, 931, 932, 933, 934, 935, 936, 937, 938, 939, 940, 941, 942] (by decide +kernel) (by decide +kernel)
set_option maxRecDepth 20000 in
theorem gL_law_X8_kind : GoodIn wsL_law (wsV RL 127 RX8 yX8_kind wsX8_kind) := goodIn_app (goodIn_of _ (by decide +kernel)) ggL_law_X8_kind
set_option maxRecDepth 20000 in
theorem ggL_law_X7_as : GoodIn wsL_law wsX7_as := goodIn_r _ [785, 107, 23, 665, 381, 382, 383, 2, 384, 245, 111, 112, 113, 786, 787, 287, 788, 789, 790, 791, 792, 123, 124, 125, 126, 38, 114, 115, 116, 117, 118, 917, 918, 919, 920, 921, 922, 923, 924, 925, 952, 953, 954, 955, 956, 957, 958, 959, 960, 961, 962, 963, 964] (by decide +kernel) (by decide +kernel)
set_option maxRecDepth 20000 in
theorem gL_law_X7_as : GoodIn wsL_law (wsV RL 128 RX7 yX7_as wsX7_as) := goodIn_app (goodIn_of _ (by decide +kernel)) ggL_law_X7_as
set_option maxRecDepth 20000 in
theorem ggL_law_X8_as : GoodIn wsL_law wsX8_as := goodIn_r _ [796, 797, 132, 427, 428, 429, 5, 430, 94, 137, 138, 139, 798, 799, 800, 801, 146, 147, 148, 149, 144, 140, 141, 142, 143, 145, 926, 927, 928, 929, 930, 931, 932, 933, 934, 935, 936, 937, 938, 939, 940, 941, 942] (by decide +kernel) (by decide +kernel)
set_option maxRecDepth 20000 in
theorem gL_law_X8_as : GoodIn wsL_law (wsV RL 131 RX8 yX8_as wsX8_as) := goodIn_app (goodIn_of _ (by decide +kernel)) ggL_law_X8_as
set_option maxRecDepth 20000 in
theorem ggL_law_X7_ask : GoodIn wsL_law wsX7_ask := goodIn_r _ [805, 107, 37, 23, 381, 382, 383, 2, 384, 245, 111, 112, 113, 806, 807, 808, 36, 809, 89, 810, 811, 812, 813, 814, 815, 816, 817, 818, 819, 820, 791, 287, 792, 789, 821, 822, 823, 824, 825, 826, 827, 828, 829, 830, 88, 917, 918, 919, 920, 921, 922, 923, 924, 925, 952, 953, 954, 955, 956, 957, 958, 959, 960, 961, 962, 963, 964, 971, 972] (by decide +kernel) (by decide +kernel)
set_option maxRecDepth 20000 in
theorem gL_law_X7_ask : GoodIn wsL_law (wsV RL 132 RX7 yX7_ask wsX7_ask) := goodIn_app (goodIn_of _ (by decide +kernel)) ggL_law_X7_ask
set_option maxRecDepth 20000 in
theorem ggL_law_X8_ask : GoodIn wsL_law wsX8_ask := goodIn_r _ [834, 132, 835, 427, 428, 429, 5, 430, 94, 137, 138, 139, 836, 837, 838, 839, 840, 841, 842, 843, 101, 844, 845, 846, 847, 848, 849, 850, 851, 852, 853, 854, 855, 856, 857, 858, 859, 860, 861, 862, 863, 864, 865, 866, 867, 798, 799, 800, 801, 868, 869, 870, 871, 926, 927, 928, 929, 930, 931, 932, 933, 934, 935, 936, 937, 938, 939, 940, 941, 942] (by decide +kernel) (by decide +kernel)
set_option maxRecDepth 20000 in
theorem gL_law_X8_ask : GoodIn wsL_law (wsV RL 135 RX8 yX8_ask wsX8_ask) := goodIn_app (goodIn_of _ (by decide +kernel)) ggL_law_X8_ask
set_option maxRecDepth 20000 in
theorem ggL_law_X7_trace : GoodIn wsL_law wsX7_trace := goodIn_r _ [875, 37, 876, 877, 878, 36, 879, 89, 88, 880, 917, 918, 919, 920, 921, 922, 923, 924, 925, 971, 972] (by decide +kernel) (by decide +kernel)
set_option maxRecDepth 20000 in
theorem gL_law_X7_trace : GoodIn wsL_law (wsV RL 136 RX7 yX7_trace wsX7_trace) := goodIn_app (goodIn_of _ (by decide +kernel)) ggL_law_X7_trace
set_option maxRecDepth 20000 in
theorem ggL_law_X8_trace : GoodIn wsL_law wsX8_trace := goodIn_r _ [884, 835, 101, 607, 137, 138, 5, 139, 926, 927, 928, 929, 930, 931, 932, 933, 934, 935, 936, 937, 938, 939, 940, 941, 942] (by decide +kernel) (by decide +kernel)
set_option maxRecDepth 20000 in
theorem gL_law_X8_trace : GoodIn wsL_law (wsV RL 139 RX8 yX8_trace wsX8_trace) := goodIn_app (goodIn_of _ (by decide +kernel)) ggL_law_X8_trace
set_option maxRecDepth 20000 in
theorem ggL_law_X7_count : GoodIn wsL_law wsX7_count := goodIn_r _ [888, 15, 23, 389, 245, 378, 889, 486, 29, 500, 19, 890, 107, 891, 892, 893, 14, 894, 158, 159, 160, 161, 45, 895, 896, 897, 898, 899, 900, 901, 917, 918, 919, 920, 921, 922, 923, 924, 925, 952, 953, 954, 955, 956, 957, 958, 959, 960, 961, 962, 963, 964, 965, 966, 967, 968, 969, 946, 947, 948, 949, 950, 951, 943, 944, 945] (by decide +kernel) (by decide +kernel)
set_option maxRecDepth 20000 in
theorem gL_law_X7_count : GoodIn wsL_law (wsV RL 140 RX7 yX7_count wsX7_count) := goodIn_app (goodIn_of _ (by decide +kernel)) ggL_law_X7_count
set_option maxRecDepth 20000 in
theorem ggL_law_X8_count : GoodIn wsL_law wsX8_count := goodIn_r _ [905, 98, 94, 317, 237, 132, 906, 907, 5, 908, 926, 927, 928, 929, 930, 931, 932, 933, 934, 935, 936, 937, 938, 939, 940, 941, 942] (by decide +kernel) (by decide +kernel)
set_option maxRecDepth 20000 in
theorem gL_law_X8_count : GoodIn wsL_law (wsV RL 143 RX8 yX8_count wsX8_count) := goodIn_app (goodIn_of _ (by decide +kernel)) ggL_law_X8_count
set_option maxRecDepth 20000 in
theorem ggL_law_X7_status : GoodIn wsL_law wsX7_status := goodIn_r _ [912, 38, 917, 918, 919, 920, 921, 922, 923, 924, 925] (by decide +kernel) (by decide +kernel)
set_option maxRecDepth 20000 in
theorem gL_law_X7_status : GoodIn wsL_law (wsV RL 144 RX7 yX7_status wsX7_status) := goodIn_app (goodIn_of _ (by decide +kernel)) ggL_law_X7_status
set_option maxRecDepth 20000 in
theorem ggL_law_X8_status : GoodIn wsL_law wsX8_status := goodIn_r _ [916, 144, 926, 927, 928, 929, 930, 931, 932, 933, 934, 935, 936, 937, 938, 939, 940, 941, 942] (by decide +kernel) (by decide +kernel)
set_option maxRecDepth 20000 in
theorem gL_law_X8_status : GoodIn wsL_law (wsV RL 147 RX8 yX8_status wsX8_status) := goodIn_app (goodIn_of _ (by decide +kernel)) ggL_law_X8_status
end
section
theorem zz_look : lw_tbl = lw_tbl := rfl
end
