section
-- ===== PART A: goes FIRST, ahead of the names: the tables' words, and 'selects' of the private methods out of them =====
/-- a private method of a class that the tables say can be made, by its rows of tables_1 -/
def lw_okq (q : MethodName × Nat) : Prop := (q.1.cls ≠ "java/lang/invoke/MethodHandle" ∧ q.1.cls ≠ "java/lang/invoke/VarHandle") ∧ Cond.instantiable q.1.cls q.2 ∈ tables_1 ∧ Cond.privateMethod q.1 ∈ tables_1 ∧ Cond.instanceMethod q.1 ∈ tables_1
theorem lw_p0 : lw_okq (⟨"SignDuty", "found", "(I)I"⟩, 9) := ⟨⟨by decide +kernel, by decide +kernel⟩, List.mem_of_getElem? (i := 14) (by decide +kernel), List.mem_of_getElem? (i := 233) (by decide +kernel), List.mem_of_getElem? (i := 234) (by decide +kernel)⟩
theorem lw_p1 : lw_okq (⟨"SignDuty", "foundNothing", "(I)I"⟩, 9) := ⟨⟨by decide +kernel, by decide +kernel⟩, List.mem_of_getElem? (i := 14) (by decide +kernel), List.mem_of_getElem? (i := 242) (by decide +kernel), List.mem_of_getElem? (i := 243) (by decide +kernel)⟩
theorem lw_p2 : lw_okq (⟨"SignDuty$Reader", "readLaw", "(LSignDuty$City;)V"⟩, 6) := ⟨⟨by decide +kernel, by decide +kernel⟩, List.mem_of_getElem? (i := 41) (by decide +kernel), List.mem_of_getElem? (i := 316) (by decide +kernel), List.mem_of_getElem? (i := 317) (by decide +kernel)⟩
theorem lw_p3 : lw_okq (⟨"SignDuty$Reader", "readSign", "(I)V"⟩, 6) := ⟨⟨by decide +kernel, by decide +kernel⟩, List.mem_of_getElem? (i := 41) (by decide +kernel), List.mem_of_getElem? (i := 320) (by decide +kernel), List.mem_of_getElem? (i := 321) (by decide +kernel)⟩
theorem lw_p4 : lw_okq (⟨"SignDuty$Reader", "next", "()I"⟩, 6) := ⟨⟨by decide +kernel, by decide +kernel⟩, List.mem_of_getElem? (i := 41) (by decide +kernel), List.mem_of_getElem? (i := 324) (by decide +kernel), List.mem_of_getElem? (i := 325) (by decide +kernel)⟩
theorem lw_p5 : lw_okq (⟨"SignDuty$Reader", "fail", "(I)V"⟩, 6) := ⟨⟨by decide +kernel, by decide +kernel⟩, List.mem_of_getElem? (i := 41) (by decide +kernel), List.mem_of_getElem? (i := 328) (by decide +kernel), List.mem_of_getElem? (i := 329) (by decide +kernel)⟩
theorem lw_p6 : lw_okq (⟨"SignDuty$Reader", "failAt", "(II)V"⟩, 6) := ⟨⟨by decide +kernel, by decide +kernel⟩, List.mem_of_getElem? (i := 41) (by decide +kernel), List.mem_of_getElem? (i := 332) (by decide +kernel), List.mem_of_getElem? (i := 333) (by decide +kernel)⟩
theorem lw_p7 : lw_okq (⟨"SignDuty$Reader", "readNumber", "(II)I"⟩, 6) := ⟨⟨by decide +kernel, by decide +kernel⟩, List.mem_of_getElem? (i := 41) (by decide +kernel), List.mem_of_getElem? (i := 336) (by decide +kernel), List.mem_of_getElem? (i := 337) (by decide +kernel)⟩
theorem lw_p8 : lw_okq (⟨"SignDuty$Reader", "readStreet", "(LSignDuty$City;)V"⟩, 6) := ⟨⟨by decide +kernel, by decide +kernel⟩, List.mem_of_getElem? (i := 41) (by decide +kernel), List.mem_of_getElem? (i := 345) (by decide +kernel), List.mem_of_getElem? (i := 346) (by decide +kernel)⟩
theorem lw_p9 : lw_okq (⟨"SignDuty$Reader", "readGesture", "(LSignDuty$City;)V"⟩, 6) := ⟨⟨by decide +kernel, by decide +kernel⟩, List.mem_of_getElem? (i := 41) (by decide +kernel), List.mem_of_getElem? (i := 352) (by decide +kernel), List.mem_of_getElem? (i := 353) (by decide +kernel)⟩
theorem lw_p10 : lw_okq (⟨"SignDuty", "isGesture", "(I)Z"⟩, 9) := ⟨⟨by decide +kernel, by decide +kernel⟩, List.mem_of_getElem? (i := 14) (by decide +kernel), List.mem_of_getElem? (i := 374) (by decide +kernel), List.mem_of_getElem? (i := 375) (by decide +kernel)⟩
theorem lw_p11 : lw_okq (⟨"SignDuty", "isStreet", "(I)Z"⟩, 9) := ⟨⟨by decide +kernel, by decide +kernel⟩, List.mem_of_getElem? (i := 14) (by decide +kernel), List.mem_of_getElem? (i := 378) (by decide +kernel), List.mem_of_getElem? (i := 379) (by decide +kernel)⟩
theorem lw_p12 : lw_okq (⟨"SignDuty$City", "owesUnknown", "(III)I"⟩, 13) := ⟨⟨by decide +kernel, by decide +kernel⟩, List.mem_of_getElem? (i := 69) (by decide +kernel), List.mem_of_getElem? (i := 395) (by decide +kernel), List.mem_of_getElem? (i := 396) (by decide +kernel)⟩
theorem lw_p13 : lw_okq (⟨"SignDuty", "isStretch", "(II)Z"⟩, 9) := ⟨⟨by decide +kernel, by decide +kernel⟩, List.mem_of_getElem? (i := 14) (by decide +kernel), List.mem_of_getElem? (i := 468) (by decide +kernel), List.mem_of_getElem? (i := 469) (by decide +kernel)⟩
theorem lw_p14 : lw_okq (⟨"SignDuty$Teller", "fill", "(LSignDuty$City;IIII)V"⟩, 1) := ⟨⟨by decide +kernel, by decide +kernel⟩, List.mem_of_getElem? (i := 170) (by decide +kernel), List.mem_of_getElem? (i := 476) (by decide +kernel), List.mem_of_getElem? (i := 477) (by decide +kernel)⟩
theorem lw_p15 : lw_okq (⟨"SignDuty$Teller", "offer", "(IIII)V"⟩, 1) := ⟨⟨by decide +kernel, by decide +kernel⟩, List.mem_of_getElem? (i := 170) (by decide +kernel), List.mem_of_getElem? (i := 486) (by decide +kernel), List.mem_of_getElem? (i := 487) (by decide +kernel)⟩
def lw_privs_1 : List (MethodName × Nat) := [(⟨"SignDuty", "found", "(I)I"⟩, 9), (⟨"SignDuty", "foundNothing", "(I)I"⟩, 9), (⟨"SignDuty$Reader", "readLaw", "(LSignDuty$City;)V"⟩, 6), (⟨"SignDuty$Reader", "readSign", "(I)V"⟩, 6), (⟨"SignDuty$Reader", "next", "()I"⟩, 6), (⟨"SignDuty$Reader", "fail", "(I)V"⟩, 6), (⟨"SignDuty$Reader", "failAt", "(II)V"⟩, 6), (⟨"SignDuty$Reader", "readNumber", "(II)I"⟩, 6), (⟨"SignDuty$Reader", "readStreet", "(LSignDuty$City;)V"⟩, 6), (⟨"SignDuty$Reader", "readGesture", "(LSignDuty$City;)V"⟩, 6), (⟨"SignDuty", "isGesture", "(I)Z"⟩, 9), (⟨"SignDuty", "isStreet", "(I)Z"⟩, 9), (⟨"SignDuty$City", "owesUnknown", "(III)I"⟩, 13), (⟨"SignDuty", "isStretch", "(II)Z"⟩, 9), (⟨"SignDuty$Teller", "fill", "(LSignDuty$City;IIII)V"⟩, 1), (⟨"SignDuty$Teller", "offer", "(IIII)V"⟩, 1)]
theorem lw_r1 : ∀ q ∈ lw_privs_1, lw_okq q := List.forall_mem_cons.mpr ⟨lw_p0, List.forall_mem_cons.mpr ⟨lw_p1, List.forall_mem_cons.mpr ⟨lw_p2, List.forall_mem_cons.mpr ⟨lw_p3, List.forall_mem_cons.mpr ⟨lw_p4, List.forall_mem_cons.mpr ⟨lw_p5, List.forall_mem_cons.mpr ⟨lw_p6, List.forall_mem_cons.mpr ⟨lw_p7, List.forall_mem_cons.mpr ⟨lw_p8, List.forall_mem_cons.mpr ⟨lw_p9, List.forall_mem_cons.mpr ⟨lw_p10, List.forall_mem_cons.mpr ⟨lw_p11, List.forall_mem_cons.mpr ⟨lw_p12, List.forall_mem_cons.mpr ⟨lw_p13, List.forall_mem_cons.mpr ⟨lw_p14, List.forall_mem_cons.mpr ⟨lw_p15, fun _ h => absurd h List.not_mem_nil⟩⟩⟩⟩⟩⟩⟩⟩⟩⟩⟩⟩⟩⟩⟩⟩
theorem lw_p16 : lw_okq (⟨"SignDuty$Teller", "firstOfCheapest", "(LSignDuty$City;III)I"⟩, 1) := ⟨⟨by decide +kernel, by decide +kernel⟩, List.mem_of_getElem? (i := 170) (by decide +kernel), List.mem_of_getElem? (i := 496) (by decide +kernel), List.mem_of_getElem? (i := 497) (by decide +kernel)⟩
theorem lw_p17 : lw_okq (⟨"SignDuty", "refusalOfThread", "(III)I"⟩, 9) := ⟨⟨by decide +kernel, by decide +kernel⟩, List.mem_of_getElem? (i := 14) (by decide +kernel), List.mem_of_getElem? (i := 524) (by decide +kernel), List.mem_of_getElem? (i := 525) (by decide +kernel)⟩
theorem lw_p18 : lw_okq (⟨"SignDuty", "owesAlong", "(IIIII)Z"⟩, 9) := ⟨⟨by decide +kernel, by decide +kernel⟩, List.mem_of_getElem? (i := 14) (by decide +kernel), List.mem_of_getElem? (i := 532) (by decide +kernel), List.mem_of_getElem? (i := 533) (by decide +kernel)⟩
theorem lw_p19 : lw_okq (⟨"SignDuty", "isSeenAlong", "(IIII)Z"⟩, 9) := ⟨⟨by decide +kernel, by decide +kernel⟩, List.mem_of_getElem? (i := 14) (by decide +kernel), List.mem_of_getElem? (i := 537) (by decide +kernel), List.mem_of_getElem? (i := 538) (by decide +kernel)⟩
theorem lw_p20 : lw_okq (⟨"SignDuty$Asks", "asked", "(LSignDuty$City;III)I"⟩, 2) := ⟨⟨by decide +kernel, by decide +kernel⟩, List.mem_of_getElem? (i := 181) (by decide +kernel), List.mem_of_getElem? (i := 609) (by decide +kernel), List.mem_of_getElem? (i := 610) (by decide +kernel)⟩
theorem lw_p21 : lw_okq (⟨"SignDuty$Asks", "given", "(ILSignDuty$City;II)I"⟩, 2) := ⟨⟨by decide +kernel, by decide +kernel⟩, List.mem_of_getElem? (i := 181) (by decide +kernel), List.mem_of_getElem? (i := 621) (by decide +kernel), List.mem_of_getElem? (i := 622) (by decide +kernel)⟩
theorem lw_p22 : lw_okq (⟨"SignDuty$Asks", "leave", "(I)V"⟩, 2) := ⟨⟨by decide +kernel, by decide +kernel⟩, List.mem_of_getElem? (i := 181) (by decide +kernel), List.mem_of_getElem? (i := 625) (by decide +kernel), List.mem_of_getElem? (i := 626) (by decide +kernel)⟩
theorem lw_p23 : lw_okq (⟨"SignDutyModel", "find", "(I)I"⟩, 17) := ⟨⟨by decide +kernel, by decide +kernel⟩, List.mem_of_getElem? (i := 656) (by decide +kernel), List.mem_of_getElem? (i := 728) (by decide +kernel), List.mem_of_getElem? (i := 729) (by decide +kernel)⟩
theorem lw_p24 : lw_okq (⟨"SignDutyModel", "well", "(I)I"⟩, 17) := ⟨⟨by decide +kernel, by decide +kernel⟩, List.mem_of_getElem? (i := 656) (by decide +kernel), List.mem_of_getElem? (i := 733) (by decide +kernel), List.mem_of_getElem? (i := 734) (by decide +kernel)⟩
theorem lw_p25 : lw_okq (⟨"SignDutyModel", "isSpan", "(III)Z"⟩, 17) := ⟨⟨by decide +kernel, by decide +kernel⟩, List.mem_of_getElem? (i := 656) (by decide +kernel), List.mem_of_getElem? (i := 748) (by decide +kernel), List.mem_of_getElem? (i := 749) (by decide +kernel)⟩
theorem lw_p26 : lw_okq (⟨"SignDutyModel", "reads", "()Z"⟩, 17) := ⟨⟨by decide +kernel, by decide +kernel⟩, List.mem_of_getElem? (i := 656) (by decide +kernel), List.mem_of_getElem? (i := 766) (by decide +kernel), List.mem_of_getElem? (i := 767) (by decide +kernel)⟩
theorem lw_p27 : lw_okq (⟨"SignDutyModel", "readsLaw", "()Z"⟩, 17) := ⟨⟨by decide +kernel, by decide +kernel⟩, List.mem_of_getElem? (i := 656) (by decide +kernel), List.mem_of_getElem? (i := 770) (by decide +kernel), List.mem_of_getElem? (i := 771) (by decide +kernel)⟩
theorem lw_p28 : lw_okq (⟨"SignDutyModel", "sign", "(I)Z"⟩, 17) := ⟨⟨by decide +kernel, by decide +kernel⟩, List.mem_of_getElem? (i := 656) (by decide +kernel), List.mem_of_getElem? (i := 774) (by decide +kernel), List.mem_of_getElem? (i := 775) (by decide +kernel)⟩
theorem lw_p29 : lw_okq (⟨"SignDutyModel", "isLetter", "(I)Z"⟩, 17) := ⟨⟨by decide +kernel, by decide +kernel⟩, List.mem_of_getElem? (i := 656) (by decide +kernel), List.mem_of_getElem? (i := 778) (by decide +kernel), List.mem_of_getElem? (i := 779) (by decide +kernel)⟩
theorem lw_p30 : lw_okq (⟨"SignDutyModel", "refuse", "(I)Z"⟩, 17) := ⟨⟨by decide +kernel, by decide +kernel⟩, List.mem_of_getElem? (i := 656) (by decide +kernel), List.mem_of_getElem? (i := 782) (by decide +kernel), List.mem_of_getElem? (i := 783) (by decide +kernel)⟩
theorem lw_p31 : lw_okq (⟨"SignDutyModel", "readsNumber", "(II)Z"⟩, 17) := ⟨⟨by decide +kernel, by decide +kernel⟩, List.mem_of_getElem? (i := 656) (by decide +kernel), List.mem_of_getElem? (i := 786) (by decide +kernel), List.mem_of_getElem? (i := 787) (by decide +kernel)⟩
def lw_privs_2 : List (MethodName × Nat) := [(⟨"SignDuty$Teller", "firstOfCheapest", "(LSignDuty$City;III)I"⟩, 1), (⟨"SignDuty", "refusalOfThread", "(III)I"⟩, 9), (⟨"SignDuty", "owesAlong", "(IIIII)Z"⟩, 9), (⟨"SignDuty", "isSeenAlong", "(IIII)Z"⟩, 9), (⟨"SignDuty$Asks", "asked", "(LSignDuty$City;III)I"⟩, 2), (⟨"SignDuty$Asks", "given", "(ILSignDuty$City;II)I"⟩, 2), (⟨"SignDuty$Asks", "leave", "(I)V"⟩, 2), (⟨"SignDutyModel", "find", "(I)I"⟩, 17), (⟨"SignDutyModel", "well", "(I)I"⟩, 17), (⟨"SignDutyModel", "isSpan", "(III)Z"⟩, 17), (⟨"SignDutyModel", "reads", "()Z"⟩, 17), (⟨"SignDutyModel", "readsLaw", "()Z"⟩, 17), (⟨"SignDutyModel", "sign", "(I)Z"⟩, 17), (⟨"SignDutyModel", "isLetter", "(I)Z"⟩, 17), (⟨"SignDutyModel", "refuse", "(I)Z"⟩, 17), (⟨"SignDutyModel", "readsNumber", "(II)Z"⟩, 17)]
theorem lw_r2 : ∀ q ∈ lw_privs_2, lw_okq q := List.forall_mem_cons.mpr ⟨lw_p16, List.forall_mem_cons.mpr ⟨lw_p17, List.forall_mem_cons.mpr ⟨lw_p18, List.forall_mem_cons.mpr ⟨lw_p19, List.forall_mem_cons.mpr ⟨lw_p20, List.forall_mem_cons.mpr ⟨lw_p21, List.forall_mem_cons.mpr ⟨lw_p22, List.forall_mem_cons.mpr ⟨lw_p23, List.forall_mem_cons.mpr ⟨lw_p24, List.forall_mem_cons.mpr ⟨lw_p25, List.forall_mem_cons.mpr ⟨lw_p26, List.forall_mem_cons.mpr ⟨lw_p27, List.forall_mem_cons.mpr ⟨lw_p28, List.forall_mem_cons.mpr ⟨lw_p29, List.forall_mem_cons.mpr ⟨lw_p30, List.forall_mem_cons.mpr ⟨lw_p31, fun _ h => absurd h List.not_mem_nil⟩⟩⟩⟩⟩⟩⟩⟩⟩⟩⟩⟩⟩⟩⟩⟩
theorem lw_p32 : lw_okq (⟨"SignDutyModel", "isFigure", "(I)Z"⟩, 17) := ⟨⟨by decide +kernel, by decide +kernel⟩, List.mem_of_getElem? (i := 656) (by decide +kernel), List.mem_of_getElem? (i := 790) (by decide +kernel), List.mem_of_getElem? (i := 791) (by decide +kernel)⟩
theorem lw_p33 : lw_okq (⟨"SignDutyModel", "readsStreet", "()Z"⟩, 17) := ⟨⟨by decide +kernel, by decide +kernel⟩, List.mem_of_getElem? (i := 656) (by decide +kernel), List.mem_of_getElem? (i := 796) (by decide +kernel), List.mem_of_getElem? (i := 797) (by decide +kernel)⟩
theorem lw_p34 : lw_okq (⟨"SignDutyModel", "readsGesture", "()Z"⟩, 17) := ⟨⟨by decide +kernel, by decide +kernel⟩, List.mem_of_getElem? (i := 656) (by decide +kernel), List.mem_of_getElem? (i := 803) (by decide +kernel), List.mem_of_getElem? (i := 804) (by decide +kernel)⟩
theorem lw_p35 : lw_okq (⟨"SignDutyModel", "copyTown", "(II)V"⟩, 17) := ⟨⟨by decide +kernel, by decide +kernel⟩, List.mem_of_getElem? (i := 656) (by decide +kernel), List.mem_of_getElem? (i := 808) (by decide +kernel), List.mem_of_getElem? (i := 809) (by decide +kernel)⟩
theorem lw_p36 : lw_okq (⟨"SignDutyModel", "isGesture", "(I)Z"⟩, 17) := ⟨⟨by decide +kernel, by decide +kernel⟩, List.mem_of_getElem? (i := 656) (by decide +kernel), List.mem_of_getElem? (i := 825) (by decide +kernel), List.mem_of_getElem? (i := 826) (by decide +kernel)⟩
theorem lw_p37 : lw_okq (⟨"SignDutyModel", "isStreet", "(I)Z"⟩, 17) := ⟨⟨by decide +kernel, by decide +kernel⟩, List.mem_of_getElem? (i := 656) (by decide +kernel), List.mem_of_getElem? (i := 829) (by decide +kernel), List.mem_of_getElem? (i := 830) (by decide +kernel)⟩
theorem lw_p38 : lw_okq (⟨"SignDutyModel", "isSeen", "(II)Z"⟩, 17) := ⟨⟨by decide +kernel, by decide +kernel⟩, List.mem_of_getElem? (i := 656) (by decide +kernel), List.mem_of_getElem? (i := 833) (by decide +kernel), List.mem_of_getElem? (i := 834) (by decide +kernel)⟩
theorem lw_p39 : lw_okq (⟨"SignDutyModel", "dutyOf", "(II)I"⟩, 17) := ⟨⟨by decide +kernel, by decide +kernel⟩, List.mem_of_getElem? (i := 656) (by decide +kernel), List.mem_of_getElem? (i := 837) (by decide +kernel), List.mem_of_getElem? (i := 838) (by decide +kernel)⟩
theorem lw_p40 : lw_okq (⟨"SignDutyModel", "owes", "(III)I"⟩, 17) := ⟨⟨by decide +kernel, by decide +kernel⟩, List.mem_of_getElem? (i := 656) (by decide +kernel), List.mem_of_getElem? (i := 841) (by decide +kernel), List.mem_of_getElem? (i := 842) (by decide +kernel)⟩
theorem lw_p41 : lw_okq (⟨"SignDutyModel", "plainDuty", "(III)I"⟩, 17) := ⟨⟨by decide +kernel, by decide +kernel⟩, List.mem_of_getElem? (i := 656) (by decide +kernel), List.mem_of_getElem? (i := 845) (by decide +kernel), List.mem_of_getElem? (i := 846) (by decide +kernel)⟩
theorem lw_p42 : lw_okq (⟨"SignDutyModel", "wave", "(II)I"⟩, 17) := ⟨⟨by decide +kernel, by decide +kernel⟩, List.mem_of_getElem? (i := 656) (by decide +kernel), List.mem_of_getElem? (i := 849) (by decide +kernel), List.mem_of_getElem? (i := 850) (by decide +kernel)⟩
theorem lw_p43 : lw_okq (⟨"SignDutyModel", "keepPast", "()V"⟩, 17) := ⟨⟨by decide +kernel, by decide +kernel⟩, List.mem_of_getElem? (i := 656) (by decide +kernel), List.mem_of_getElem? (i := 857) (by decide +kernel), List.mem_of_getElem? (i := 858) (by decide +kernel)⟩
theorem lw_p44 : lw_okq (⟨"SignDutyModel", "seenStreets", "(I)I"⟩, 17) := ⟨⟨by decide +kernel, by decide +kernel⟩, List.mem_of_getElem? (i := 656) (by decide +kernel), List.mem_of_getElem? (i := 879) (by decide +kernel), List.mem_of_getElem? (i := 880) (by decide +kernel)⟩
theorem lw_p45 : lw_okq (⟨"SignDutyModel", "seenGestures", "(I)I"⟩, 17) := ⟨⟨by decide +kernel, by decide +kernel⟩, List.mem_of_getElem? (i := 656) (by decide +kernel), List.mem_of_getElem? (i := 887) (by decide +kernel), List.mem_of_getElem? (i := 888) (by decide +kernel)⟩
theorem lw_p46 : lw_okq (⟨"SignDutyModel", "areStreets", "(II)Z"⟩, 17) := ⟨⟨by decide +kernel, by decide +kernel⟩, List.mem_of_getElem? (i := 656) (by decide +kernel), List.mem_of_getElem? (i := 903) (by decide +kernel), List.mem_of_getElem? (i := 904) (by decide +kernel)⟩
theorem lw_p47 : lw_okq (⟨"SignDutyModel", "layCosts", "(III)V"⟩, 17) := ⟨⟨by decide +kernel, by decide +kernel⟩, List.mem_of_getElem? (i := 656) (by decide +kernel), List.mem_of_getElem? (i := 910) (by decide +kernel), List.mem_of_getElem? (i := 911) (by decide +kernel)⟩
def lw_privs_3 : List (MethodName × Nat) := [(⟨"SignDutyModel", "isFigure", "(I)Z"⟩, 17), (⟨"SignDutyModel", "readsStreet", "()Z"⟩, 17), (⟨"SignDutyModel", "readsGesture", "()Z"⟩, 17), (⟨"SignDutyModel", "copyTown", "(II)V"⟩, 17), (⟨"SignDutyModel", "isGesture", "(I)Z"⟩, 17), (⟨"SignDutyModel", "isStreet", "(I)Z"⟩, 17), (⟨"SignDutyModel", "isSeen", "(II)Z"⟩, 17), (⟨"SignDutyModel", "dutyOf", "(II)I"⟩, 17), (⟨"SignDutyModel", "owes", "(III)I"⟩, 17), (⟨"SignDutyModel", "plainDuty", "(III)I"⟩, 17), (⟨"SignDutyModel", "wave", "(II)I"⟩, 17), (⟨"SignDutyModel", "keepPast", "()V"⟩, 17), (⟨"SignDutyModel", "seenStreets", "(I)I"⟩, 17), (⟨"SignDutyModel", "seenGestures", "(I)I"⟩, 17), (⟨"SignDutyModel", "areStreets", "(II)Z"⟩, 17), (⟨"SignDutyModel", "layCosts", "(III)V"⟩, 17)]
theorem lw_r3 : ∀ q ∈ lw_privs_3, lw_okq q := List.forall_mem_cons.mpr ⟨lw_p32, List.forall_mem_cons.mpr ⟨lw_p33, List.forall_mem_cons.mpr ⟨lw_p34, List.forall_mem_cons.mpr ⟨lw_p35, List.forall_mem_cons.mpr ⟨lw_p36, List.forall_mem_cons.mpr ⟨lw_p37, List.forall_mem_cons.mpr ⟨lw_p38, List.forall_mem_cons.mpr ⟨lw_p39, List.forall_mem_cons.mpr ⟨lw_p40, List.forall_mem_cons.mpr ⟨lw_p41, List.forall_mem_cons.mpr ⟨lw_p42, List.forall_mem_cons.mpr ⟨lw_p43, List.forall_mem_cons.mpr ⟨lw_p44, List.forall_mem_cons.mpr ⟨lw_p45, List.forall_mem_cons.mpr ⟨lw_p46, List.forall_mem_cons.mpr ⟨lw_p47, fun _ h => absurd h List.not_mem_nil⟩⟩⟩⟩⟩⟩⟩⟩⟩⟩⟩⟩⟩⟩⟩⟩
theorem lw_p48 : lw_okq (⟨"SignDutyModel", "onBy", "(IIII)I"⟩, 17) := ⟨⟨by decide +kernel, by decide +kernel⟩, List.mem_of_getElem? (i := 656) (by decide +kernel), List.mem_of_getElem? (i := 915) (by decide +kernel), List.mem_of_getElem? (i := 916) (by decide +kernel)⟩
theorem lw_p49 : lw_okq (⟨"SignDutyModel", "tells", "(III)Z"⟩, 17) := ⟨⟨by decide +kernel, by decide +kernel⟩, List.mem_of_getElem? (i := 656) (by decide +kernel), List.mem_of_getElem? (i := 919) (by decide +kernel), List.mem_of_getElem? (i := 920) (by decide +kernel)⟩
theorem lw_p50 : lw_okq (⟨"SignDutyModel", "soonest", "(II)I"⟩, 17) := ⟨⟨by decide +kernel, by decide +kernel⟩, List.mem_of_getElem? (i := 656) (by decide +kernel), List.mem_of_getElem? (i := 928) (by decide +kernel), List.mem_of_getElem? (i := 929) (by decide +kernel)⟩
theorem lw_p51 : lw_okq (⟨"SignDutyModel", "noPairs", "(III)I"⟩, 17) := ⟨⟨by decide +kernel, by decide +kernel⟩, List.mem_of_getElem? (i := 656) (by decide +kernel), List.mem_of_getElem? (i := 941) (by decide +kernel), List.mem_of_getElem? (i := 942) (by decide +kernel)⟩
theorem lw_p52 : lw_okq (⟨"SignDutyModel", "isSeenSo", "(IIII)Z"⟩, 17) := ⟨⟨by decide +kernel, by decide +kernel⟩, List.mem_of_getElem? (i := 656) (by decide +kernel), List.mem_of_getElem? (i := 945) (by decide +kernel), List.mem_of_getElem? (i := 946) (by decide +kernel)⟩
theorem lw_p53 : lw_okq (⟨"SignDutyModel", "owesSo", "(IIIII)Z"⟩, 17) := ⟨⟨by decide +kernel, by decide +kernel⟩, List.mem_of_getElem? (i := 656) (by decide +kernel), List.mem_of_getElem? (i := 949) (by decide +kernel), List.mem_of_getElem? (i := 950) (by decide +kernel)⟩
theorem lw_p54 : lw_okq (⟨"SignDutyModel", "isOf", "(II)Z"⟩, 17) := ⟨⟨by decide +kernel, by decide +kernel⟩, List.mem_of_getElem? (i := 656) (by decide +kernel), List.mem_of_getElem? (i := 992) (by decide +kernel), List.mem_of_getElem? (i := 993) (by decide +kernel)⟩
theorem lw_p55 : lw_okq (⟨"SignDutyModel", "sizeOf", "(I)I"⟩, 17) := ⟨⟨by decide +kernel, by decide +kernel⟩, List.mem_of_getElem? (i := 656) (by decide +kernel), List.mem_of_getElem? (i := 1000) (by decide +kernel), List.mem_of_getElem? (i := 1001) (by decide +kernel)⟩
theorem lw_p56 : lw_okq (⟨"SignDutyModel", "begin", "(I)V"⟩, 17) := ⟨⟨by decide +kernel, by decide +kernel⟩, List.mem_of_getElem? (i := 656) (by decide +kernel), List.mem_of_getElem? (i := 1004) (by decide +kernel), List.mem_of_getElem? (i := 1005) (by decide +kernel)⟩
theorem lw_p57 : lw_okq (⟨"SignDutyModel", "wavesSize", "(I)I"⟩, 17) := ⟨⟨by decide +kernel, by decide +kernel⟩, List.mem_of_getElem? (i := 656) (by decide +kernel), List.mem_of_getElem? (i := 1008) (by decide +kernel), List.mem_of_getElem? (i := 1009) (by decide +kernel)⟩
theorem lw_p58 : lw_okq (⟨"SignDutyModel", "lentSize", "(I)I"⟩, 17) := ⟨⟨by decide +kernel, by decide +kernel⟩, List.mem_of_getElem? (i := 656) (by decide +kernel), List.mem_of_getElem? (i := 1012) (by decide +kernel), List.mem_of_getElem? (i := 1013) (by decide +kernel)⟩
theorem lw_p59 : lw_okq (⟨"SignDutyModel", "mark", "(I)I"⟩, 17) := ⟨⟨by decide +kernel, by decide +kernel⟩, List.mem_of_getElem? (i := 656) (by decide +kernel), List.mem_of_getElem? (i := 1016) (by decide +kernel), List.mem_of_getElem? (i := 1017) (by decide +kernel)⟩
theorem lw_p60 : lw_okq (⟨"SignDutyModel", "wavesMark", "(I)I"⟩, 17) := ⟨⟨by decide +kernel, by decide +kernel⟩, List.mem_of_getElem? (i := 656) (by decide +kernel), List.mem_of_getElem? (i := 1020) (by decide +kernel), List.mem_of_getElem? (i := 1021) (by decide +kernel)⟩
theorem lw_p61 : lw_okq (⟨"SignDutyModel", "lentMark", "(I)I"⟩, 17) := ⟨⟨by decide +kernel, by decide +kernel⟩, List.mem_of_getElem? (i := 656) (by decide +kernel), List.mem_of_getElem? (i := 1024) (by decide +kernel), List.mem_of_getElem? (i := 1025) (by decide +kernel)⟩
theorem lw_p62 : lw_okq (⟨"SignDutyModel", "winksSize", "(I)I"⟩, 17) := ⟨⟨by decide +kernel, by decide +kernel⟩, List.mem_of_getElem? (i := 656) (by decide +kernel), List.mem_of_getElem? (i := 1028) (by decide +kernel), List.mem_of_getElem? (i := 1029) (by decide +kernel)⟩
theorem lw_p63 : lw_okq (⟨"SignDutyModel", "winksMark", "(I)I"⟩, 17) := ⟨⟨by decide +kernel, by decide +kernel⟩, List.mem_of_getElem? (i := 656) (by decide +kernel), List.mem_of_getElem? (i := 1032) (by decide +kernel), List.mem_of_getElem? (i := 1033) (by decide +kernel)⟩
def lw_privs_4 : List (MethodName × Nat) := [(⟨"SignDutyModel", "onBy", "(IIII)I"⟩, 17), (⟨"SignDutyModel", "tells", "(III)Z"⟩, 17), (⟨"SignDutyModel", "soonest", "(II)I"⟩, 17), (⟨"SignDutyModel", "noPairs", "(III)I"⟩, 17), (⟨"SignDutyModel", "isSeenSo", "(IIII)Z"⟩, 17), (⟨"SignDutyModel", "owesSo", "(IIIII)Z"⟩, 17), (⟨"SignDutyModel", "isOf", "(II)Z"⟩, 17), (⟨"SignDutyModel", "sizeOf", "(I)I"⟩, 17), (⟨"SignDutyModel", "begin", "(I)V"⟩, 17), (⟨"SignDutyModel", "wavesSize", "(I)I"⟩, 17), (⟨"SignDutyModel", "lentSize", "(I)I"⟩, 17), (⟨"SignDutyModel", "mark", "(I)I"⟩, 17), (⟨"SignDutyModel", "wavesMark", "(I)I"⟩, 17), (⟨"SignDutyModel", "lentMark", "(I)I"⟩, 17), (⟨"SignDutyModel", "winksSize", "(I)I"⟩, 17), (⟨"SignDutyModel", "winksMark", "(I)I"⟩, 17)]
theorem lw_r4 : ∀ q ∈ lw_privs_4, lw_okq q := List.forall_mem_cons.mpr ⟨lw_p48, List.forall_mem_cons.mpr ⟨lw_p49, List.forall_mem_cons.mpr ⟨lw_p50, List.forall_mem_cons.mpr ⟨lw_p51, List.forall_mem_cons.mpr ⟨lw_p52, List.forall_mem_cons.mpr ⟨lw_p53, List.forall_mem_cons.mpr ⟨lw_p54, List.forall_mem_cons.mpr ⟨lw_p55, List.forall_mem_cons.mpr ⟨lw_p56, List.forall_mem_cons.mpr ⟨lw_p57, List.forall_mem_cons.mpr ⟨lw_p58, List.forall_mem_cons.mpr ⟨lw_p59, List.forall_mem_cons.mpr ⟨lw_p60, List.forall_mem_cons.mpr ⟨lw_p61, List.forall_mem_cons.mpr ⟨lw_p62, List.forall_mem_cons.mpr ⟨lw_p63, fun _ h => absurd h List.not_mem_nil⟩⟩⟩⟩⟩⟩⟩⟩⟩⟩⟩⟩⟩⟩⟩⟩
def lw_privs : List (MethodName × Nat) := lw_privs_1 ++ (lw_privs_2 ++ (lw_privs_3 ++ (lw_privs_4)))
def lw_tbl : List Cond := k2_sels lw_privs ++ tables_1
theorem lw_privs_ok : ∀ q ∈ lw_privs, lw_okq q := by
  show ∀ q ∈ lw_privs_1 ++ (lw_privs_2 ++ (lw_privs_3 ++ (lw_privs_4))), lw_okq q
  exact List.forall_mem_append.mpr ⟨lw_r1, List.forall_mem_append.mpr ⟨lw_r2, List.forall_mem_append.mpr ⟨lw_r3, lw_r4⟩⟩⟩
-- ===== end of PART A; then your names; then what follows =====
end
section
/-! ===== THE FLAT WORLD: N cells at addresses ad k; what is in cell k is C (σ k) k; σ : cell, slot ↦ int ===== -/
abbrev x_S : Type := Nat → Nat → Int32
/-- row k of σ is f -/
def x_r (σ : x_S) (k : Nat) (f : Nat → Int32) : x_S := fun a => if a = k then f else σ a
/-- slot i of row k of σ is v -/
def x_u (σ : x_S) (k i : Nat) (v : Int32) : x_S := x_r σ k (upd (σ k) i v)
abbrev x_C : Type := (Nat → Int32) → Nat → va_E
def x_l (N : Nat) (C : x_C) (ad : Nat → Nat) (σ : x_S) : va_W := (List.range N).map (fun k => (ad k, C (σ k) k))
theorem x_l_at {N : Nat} (C : x_C) (ad : Nat → Nat) (σ : x_S) {k : Nat} (hk : k < N) : (x_l N C ad σ)[k]? = some (ad k, C (σ k) k) := by
  simp [x_l, hk]
theorem x_l_in {N : Nat} {C : x_C} {ad : Nat → Nat} {σ : x_S} {k : Nat} {q : Nat × va_E} (h : (x_l N C ad σ)[k]? = some q) : k < N ∧ q = (ad k, C (σ k) k) := by
  have hl : k < (x_l N C ad σ).length := (List.getElem?_eq_some_iff.mp h).1
  have hk : k < N := by simpa [x_l] using hl
  rw [x_l_at C ad σ hk] at h
  exact ⟨hk, (Option.some.inj h).symm⟩
theorem x_l_set {N : Nat} (C : x_C) (ad : Nat → Nat) (σ : x_S) {k : Nat} (hk : k < N) (f : Nat → Int32) : (x_l N C ad σ).set k (ad k, C f k) = x_l N C ad (x_r σ k f) := by
  apply List.ext_getElem?
  intro i
  by_cases hi : i = k
  · subst hi
    have hl : i < (x_l N C ad σ).length := by simpa [x_l] using hk
    rw [List.getElem?_set_self hl, x_l_at _ _ _ hk]
    simp [x_r]
  · rw [List.getElem?_set_ne (Ne.symm hi)]
    by_cases hN : i < N
    · rw [x_l_at _ _ _ hN, x_l_at _ _ _ hN]
      simp [x_r, hi]
    · rw [List.getElem?_eq_none (by simp [x_l]; omega), List.getElem?_eq_none (by simp [x_l]; omega)]
/-- the cells' addresses -/
def x_A (N : Nat) (ad : Nat → Nat) : Nat → Prop := fun q => ∃ k, k < N ∧ q = ad k
def x_I (D : va_G) (cl : List vw_C) (N : Nat) (C : x_C) (ad : Nat → Nat) (σ : x_S) : Heap → Prop := fun H => va_P D cl (x_l N C ad σ) H
def x_dis (N : Nat) (ad : Nat → Nat) : Prop := ∀ i j, i < N → j < N → ad i = ad j → i = j
theorem x_D {N : Nat} {C : x_C} {ad : Nat → Nat} {A : Nat → Prop} (h : x_dis N ad) (hA : ∀ k, k < N → A (ad k)) (σ : x_S) : va_D A (x_l N C ad σ) := by
  refine ⟨fun i j p q hi hj hpq => ?_, fun k q hk => ?_⟩
  · obtain ⟨h1, rfl⟩ := x_l_in hi
    obtain ⟨h2, rfl⟩ := x_l_in hj
    exact h i j h1 h2 hpq
  · obtain ⟨h1, rfl⟩ := x_l_in hk
    exact hA k h1
theorem x_A_in {N : Nat} {ad : Nat → Nat} : ∀ k, k < N → x_A N ad (ad k) := fun k h => ⟨k, h, rfl⟩
/-- what is said of statics: it stays while nothing outside A is written -/
abbrev x_St : Type := (Nat → Prop) → State → Heap → Prop
def x_StOk (St : x_St) : Prop := (∀ (A : Nat → Prop) (u U : State) (H : Heap), u.vm.Alike U.vm → St A u H → St A U H) ∧ (∀ (A : Nat → Prop) (U : State) (H H1 : Heap), (∀ a : Nat, a < H.size → ¬ A a → H1[a]? = H[a]?) → St A U H → St A U H1) ∧ (∀ (A B : Nat → Prop) (U : State) (H : Heap), (∀ q, B q → A q) → St A U H → St B U H)
/-- a method's start -/
def x_Pre (D : va_G) (cl : List vw_C) (tys : List (ClassId × FieldType)) (N : Nat) (C : x_C) (ad : Nat → Nat) (St : x_St) (σ : x_S) : State → Prop := fun U => x_I D cl N C ad σ U.heap ∧ va_K D cl tys U ∧ St (x_A N ad) U U.heap
def x_Post (D : va_G) (cl : List vw_C) (N : Nat) (C : x_C) (ad : Nat → Nat) : x_S → State → Prop := fun u t => x_I D cl N C ad u t.heap
abbrev x_Qi (D : va_G) (cl : List vw_C) (N : Nat) (C : x_C) (ad : Nat → Nat) (r0 : Int32) (σ0 : x_S) : Array Value → State → Outcome → State → Prop := va_Qi (fun (r : Int32) (u : x_S) => r = r0 ∧ u = σ0) (x_Post D cl N C ad) (x_A N ad)
abbrev x_Qv (D : va_G) (cl : List vw_C) (N : Nat) (C : x_C) (ad : Nat → Nat) (σ0 : x_S) : Array Value → State → Outcome → State → Prop := va_Qv (fun (u : x_S) => u = σ0) (x_Post D cl N C ad) (x_A N ad)
/-- room for calls n deep -/
def x_rm (n : Nat) : Room := { frames := n, cells := 0, slots := 0, locals := 100 * n }
theorem x_rm_ok {k n maxL : Nat} (h : k < n) (hm : maxL ≤ 81) : (x_rm k).frames + 1 ≤ (x_rm n).frames ∧ 8 + (maxL + 11) + (x_rm k).locals ≤ (x_rm n).locals := by
  simp only [x_rm]
  omega
abbrev x_MI (l : Launch) (y : MethodName) (ws : List Cond) (n : Nat) (D : va_G) (cl : List vw_C) (tys : List (ClassId × FieldType)) (N : Nat) (C : x_C) (ad : Nat → Nat) (St : x_St) (vs : List Value) (σ : x_S) (r0 : Int32) (σ0 : x_S) : Prop := Met l y ws (x_rm n) (va_Pc vs (x_Pre D cl tys N C ad St σ)) (x_Qi D cl N C ad r0 σ0) 0 0 (x_A N ad)
abbrev x_MV (l : Launch) (y : MethodName) (ws : List Cond) (n : Nat) (D : va_G) (cl : List vw_C) (tys : List (ClassId × FieldType)) (N : Nat) (C : x_C) (ad : Nat → Nat) (St : x_St) (vs : List Value) (σ : x_S) (σ0 : x_S) : Prop := Met l y ws (x_rm n) (va_Pc vs (x_Pre D cl tys N C ad St σ)) (x_Qv D cl N C ad σ0) 0 0 (x_A N ad)
theorem x_blind (vs : List Value) {D : va_G} {cl : List vw_C} {tys : List (ClassId × FieldType)} {N : Nat} {C : x_C} {ad : Nat → Nat} {St : x_St} (hSt : x_StOk St) (σ : x_S) : FrameBlind (va_Pc vs (x_Pre D cl tys N C ad St σ)) := by
  intro a U g mk q
  obtain ⟨q0, qP, qK, qS⟩ := q
  exact ⟨q0, qP, va_K.moved (u := U) (U := U.calling g mk a) (Vm.Alike.refl U.vm) qK, hSt.1 _ U (U.calling g mk a) _ (Vm.Alike.refl U.vm) qS⟩
/-! ===== partial functions ===== -/
/-- c must hold -/
def x_g {β : Type} (c : Prop) [Decidable c] (x : Option β) : Option β := if c then x else none
theorem x_gs {β : Type} {c : Prop} [Decidable c] {x : Option β} {y : β} (h : x_g c x = some y) : c ∧ x = some y := by
  unfold x_g at h
  split at h
  · exact ⟨by assumption, h⟩
  · cases h
def x_p {β : Type} (o : Option Int32) (k : Int32 → Option β) : Option β := match o with
  | some r => k r
  | none => none
theorem x_ps {β : Type} {o : Option Int32} {k : Int32 → Option β} {y : β} (h : x_p o k = some y) : ∃ r, o = some r ∧ k r = some y := by
  cases o with
  | none => cases h
  | some r => exact ⟨r, rfl, h⟩
def x_b {β : Type} (o : Option (Int32 × x_S)) (k : Int32 → x_S → Option β) : Option β := match o with
  | some (r, u) => k r u
  | none => none
theorem x_bs {β : Type} {o : Option (Int32 × x_S)} {k : Int32 → x_S → Option β} {y : β} (h : x_b o k = some y) : ∃ r u, o = some (r, u) ∧ k r u = some y := by
  match o, h with
  | some (r, u), h => exact ⟨r, u, rfl, h⟩
def x_v {β : Type} (o : Option x_S) (k : x_S → Option β) : Option β := match o with
  | some u => k u
  | none => none
theorem x_vs {β : Type} {o : Option x_S} {k : x_S → Option β} {y : β} (h : x_v o k = some y) : ∃ u, o = some u ∧ k u = some y := by
  cases o with
  | none => cases h
  | some r => exact ⟨r, rfl, h⟩
theorem x_it {β : Type} {c : Prop} [Decidable c] {a b : Option β} {y : β} (h : c) (hf : (if c then a else b) = some y) : a = some y := by rwa [if_pos h] at hf
theorem x_if {β : Type} {c : Prop} [Decidable c] {a b : Option β} {y : β} (h : ¬ c) (hf : (if c then a else b) = some y) : b = some y := by rwa [if_neg h] at hf
theorem x_retI {a r : Int32} {b u : x_S} (h : some (a, b) = some (r, u)) : r = a ∧ u = b := by cases h; exact ⟨rfl, rfl⟩
theorem x_retP {a r : Int32} (h : some a = some r) : r = a := by cases h; rfl
theorem x_retV {b u : x_S} (h : some b = some u) : u = b := by cases h; rfl
/-- n rounds of a loop, then z -/
def x_fx {α : Type} (z : α) (b : α → α) : Nat → α
  | 0 => z
  | n + 1 => b (x_fx z b n)
/-- rounds enough for any loop here -/
def x_F : Nat := 4096
end
section
abbrev x_in (i : Int32) (n : Nat) : Prop := ¬ (i < 0 ∨ n ≤ i.toNatClampNeg)
section XJ
variable {p : Program} {l : Launch} {e : Env} {R : Room} {s : State} {m : MethodId} {args : Array Value} {below : List Frame} {meth : Method} {c : Code} {cells slots : Nat} {Q : State → Prop}
variable {cc : ByteArray} {nL : Nat} {Ts : List Cond} {own : String} {A : Nat → Prop} {I : Heap → Prop} {lv lv' : List (Nat × Value)} {st : List Value} {pc : Nat}
variable {D : va_G} {cl : List vw_C} {tys : List (ClassId × FieldType)} {N : Nat} {C : x_C} {ad : Nat → Nat} {St : x_St} {σ : x_S}
/-- what a method's body may use of the machine -/
def x_B (p : Program) (s : State) (m : MethodId) (args : Array Value) (meth : Method) (c : Code) (cc : ByteArray) (nL : Nat) (Ts : List Cond) (own : String) : Prop :=
  p.tables.exec = Jvm.exec ∧ c.code = cc ∧ c.maxLocals = nL ∧ s.vm.findClass own = some m.cls ∧ (∀ w ∈ Ts, w.before args s = true) ∧ meth.locks = false
/-- what it may use of the flat world -/
def x_G (s : State) (D : va_G) (cl : List vw_C) (tys : List (ClassId × FieldType)) (N : Nat) (ad : Nat → Nat) (A : Nat → Prop) (St : x_St) : Prop :=
  va_K D cl tys s ∧ x_dis N ad ∧ (∀ k, k < N → A (ad k)) ∧ x_StOk St ∧ St A s s.heap
/-- from here on, with any heap that holds I and any locals that hold lv, the machine comes to Q -/
def x_J (p : Program) (l : Launch) (e : Env) (R : Room) (s : State) (m : MethodId) (args : Array Value) (below : List Frame) (meth : Method) (c : Code) (cells slots : Nat) (Q : State → Prop) (A : Nat → Prop) (nL : Nat) (I : Heap → Prop) (lv : List (Nat × Value)) (st : List Value) (pc : Nat) : Prop :=
  ∀ (H : Heap) (locs : List Loc) (ls : Array Slot), I H → va_S A s.heap H locs → lv_has ls nL lv → W p l e R s m args below meth c H locs cells slots Q (F0 m pc ls st)
theorem x_sub (ks : List Nat) (hl : lv_pick lv ks = lv') (k : x_J p l e R s m args below meth c cells slots Q A nL I lv' st pc) : x_J p l e R s m args below meth c cells slots Q A nL I lv st pc := fun H locs ls h1 h2 h3 => k H locs ls h1 h2 (lv_sub h3 ks hl)
theorem x_pc {pc' : Nat} (h : pc' = pc) (k : x_J p l e R s m args below meth c cells slots Q A nL I lv st pc') : x_J p l e R s m args below meth c cells slots Q A nL I lv st pc := h ▸ k
theorem x_iconst (B : x_B p s m args meth c cc nL Ts own) {n : Int} {v : Int32} (hdg : decode cc pc = .ok (.iconst n, 1)) (hv : Int32.ofInt n = v) (k : x_J p l e R s m args below meth c cells slots Q A nL I lv (.int v :: st) (pc + 1)) : x_J p l e R s m args below meth c cells slots Q A nL I lv (st) pc :=
  fun H locs ls h1 h2 h3 => lv_iconst B.1 B.2.1 hdg hv (k H locs ls h1 h2 h3)
theorem x_bipush (B : x_B p s m args meth c cc nL Ts own) {n : Int} {v : Int32} (hdg : decode cc pc = .ok (.bipush n, 2)) (hv : (Int8.ofInt n).toInt32 = v) (k : x_J p l e R s m args below meth c cells slots Q A nL I lv (.int v :: st) (pc + 2)) : x_J p l e R s m args below meth c cells slots Q A nL I lv (st) pc :=
  fun H locs ls h1 h2 h3 => lv_bipush B.1 B.2.1 hdg hv (k H locs ls h1 h2 h3)
theorem x_sipush (B : x_B p s m args meth c cc nL Ts own) {n : Int} {v : Int32} (hdg : decode cc pc = .ok (.sipush n, 3)) (hv : (Int16.ofInt n).toInt32 = v) (k : x_J p l e R s m args below meth c cells slots Q A nL I lv (.int v :: st) (pc + 3)) : x_J p l e R s m args below meth c cells slots Q A nL I lv (st) pc :=
  fun H locs ls h1 h2 h3 => lv_sipush B.1 B.2.1 hdg hv (k H locs ls h1 h2 h3)
theorem x_lconst (B : x_B p s m args meth c cc nL Ts own) {n : Fin 2} {v : Int64} (hdg : decode cc pc = .ok (.lconst n, 1)) (hv : Int64.ofNat (n : Nat) = v) (k : x_J p l e R s m args below meth c cells slots Q A nL I lv (.long v :: st) (pc + 1)) : x_J p l e R s m args below meth c cells slots Q A nL I lv (st) pc :=
  fun H locs ls h1 h2 h3 => lv_lconst B.1 B.2.1 hdg hv (k H locs ls h1 h2 h3)
theorem x_iload_n (B : x_B p s m args meth c cc nL Ts own) {k0 : Fin 4} {i : Nat} {x : Int32} (hdg : decode cc pc = .ok (.iload_n k0, 1)) (hi : (k0 : Nat) = i) (j : Nat) (hj : lv[j]? = some (i, .int x)) (k : x_J p l e R s m args below meth c cells slots Q A nL I lv (.int x :: st) (pc + 1)) : x_J p l e R s m args below meth c cells slots Q A nL I lv st pc :=
  fun H locs ls h1 h2 h3 => lv_iload_n B.1 B.2.1 hdg hi (lv_at h3 j hj) (k H locs ls h1 h2 h3)
theorem x_iload (B : x_B p s m args meth c cc nL Ts own) {i : Nat} {x : Int32} (hdg : decode cc pc = .ok (.iload i, 2)) (j : Nat) (hj : lv[j]? = some (i, .int x)) (k : x_J p l e R s m args below meth c cells slots Q A nL I lv (.int x :: st) (pc + 2)) : x_J p l e R s m args below meth c cells slots Q A nL I lv st pc :=
  fun H locs ls h1 h2 h3 => lv_iload B.1 B.2.1 hdg (lv_at h3 j hj) (k H locs ls h1 h2 h3)
theorem x_lload_n (B : x_B p s m args meth c cc nL Ts own) {k0 : Fin 4} {i : Nat} {x : Int64} (hdg : decode cc pc = .ok (.lload_n k0, 1)) (hi : (k0 : Nat) = i) (j : Nat) (hj : lv[j]? = some (i, .long x)) (k : x_J p l e R s m args below meth c cells slots Q A nL I lv (.long x :: st) (pc + 1)) : x_J p l e R s m args below meth c cells slots Q A nL I lv st pc :=
  fun H locs ls h1 h2 h3 => lv_lload_n B.1 B.2.1 hdg hi (lv_at h3 j hj) (k H locs ls h1 h2 h3)
theorem x_lload (B : x_B p s m args meth c cc nL Ts own) {i : Nat} {x : Int64} (hdg : decode cc pc = .ok (.lload i, 2)) (j : Nat) (hj : lv[j]? = some (i, .long x)) (k : x_J p l e R s m args below meth c cells slots Q A nL I lv (.long x :: st) (pc + 2)) : x_J p l e R s m args below meth c cells slots Q A nL I lv st pc :=
  fun H locs ls h1 h2 h3 => lv_lload B.1 B.2.1 hdg (lv_at h3 j hj) (k H locs ls h1 h2 h3)
theorem x_aload_n (B : x_B p s m args meth c cc nL Ts own) {k0 : Fin 4} {i : Nat} {x : Nat} (hdg : decode cc pc = .ok (.aload_n k0, 1)) (hi : (k0 : Nat) = i) (j : Nat) (hj : lv[j]? = some (i, .ref x)) (k : x_J p l e R s m args below meth c cells slots Q A nL I lv (.ref x :: st) (pc + 1)) : x_J p l e R s m args below meth c cells slots Q A nL I lv st pc :=
  fun H locs ls h1 h2 h3 => lv_aload_n B.1 B.2.1 hdg hi (lv_at h3 j hj) (k H locs ls h1 h2 h3)
theorem x_aload (B : x_B p s m args meth c cc nL Ts own) {i : Nat} {x : Nat} (hdg : decode cc pc = .ok (.aload i, 2)) (j : Nat) (hj : lv[j]? = some (i, .ref x)) (k : x_J p l e R s m args below meth c cells slots Q A nL I lv (.ref x :: st) (pc + 2)) : x_J p l e R s m args below meth c cells slots Q A nL I lv st pc :=
  fun H locs ls h1 h2 h3 => lv_aload B.1 B.2.1 hdg (lv_at h3 j hj) (k H locs ls h1 h2 h3)
theorem x_istore_n (B : x_B p s m args meth c cc nL Ts own) {k0 : Fin 4} {i : Nat} {x : Int32} (hdg : decode cc pc = .ok (.istore_n k0, 1)) (hi : (k0 : Nat) = i) (hn : i < nL) (hl : (i, Value.int x) :: lv.filter (fun q => !(q.1 == i) && !(q.1 + 1 == i && q.2.category == 2)) = lv') (k : x_J p l e R s m args below meth c cells slots Q A nL I lv' st (pc + 1)) : x_J p l e R s m args below meth c cells slots Q A nL I lv (.int x :: st) pc :=
  fun H locs ls h1 h2 h3 => lv_istore_n B.1 B.2.1 hdg hi h3 hn hl (fun ls' h' => k H locs ls' h1 h2 h')
theorem x_istore (B : x_B p s m args meth c cc nL Ts own) {i : Nat} {x : Int32} (hdg : decode cc pc = .ok (.istore i, 2)) (hn : i < nL) (hl : (i, Value.int x) :: lv.filter (fun q => !(q.1 == i) && !(q.1 + 1 == i && q.2.category == 2)) = lv') (k : x_J p l e R s m args below meth c cells slots Q A nL I lv' st (pc + 2)) : x_J p l e R s m args below meth c cells slots Q A nL I lv (.int x :: st) pc :=
  fun H locs ls h1 h2 h3 => lv_istore B.1 B.2.1 hdg h3 hn hl (fun ls' h' => k H locs ls' h1 h2 h')
theorem x_astore_n (B : x_B p s m args meth c cc nL Ts own) {k0 : Fin 4} {i : Nat} {x : Nat} (hdg : decode cc pc = .ok (.astore_n k0, 1)) (hi : (k0 : Nat) = i) (hn : i < nL) (hl : (i, Value.ref x) :: lv.filter (fun q => !(q.1 == i) && !(q.1 + 1 == i && q.2.category == 2)) = lv') (k : x_J p l e R s m args below meth c cells slots Q A nL I lv' st (pc + 1)) : x_J p l e R s m args below meth c cells slots Q A nL I lv (.ref x :: st) pc :=
  fun H locs ls h1 h2 h3 => lv_astore_n B.1 B.2.1 hdg hi h3 hn hl (fun ls' h' => k H locs ls' h1 h2 h')
theorem x_astore (B : x_B p s m args meth c cc nL Ts own) {i : Nat} {x : Nat} (hdg : decode cc pc = .ok (.astore i, 2)) (hn : i < nL) (hl : (i, Value.ref x) :: lv.filter (fun q => !(q.1 == i) && !(q.1 + 1 == i && q.2.category == 2)) = lv') (k : x_J p l e R s m args below meth c cells slots Q A nL I lv' st (pc + 2)) : x_J p l e R s m args below meth c cells slots Q A nL I lv (.ref x :: st) pc :=
  fun H locs ls h1 h2 h3 => lv_astore B.1 B.2.1 hdg h3 hn hl (fun ls' h' => k H locs ls' h1 h2 h')
theorem x_iinc (B : x_B p s m args meth c cc nL Ts own) {i : Nat} {n : Int} {x v : Int32} (hdg : decode cc pc = .ok (.iinc i n, 3)) (j : Nat) (hj : lv[j]? = some (i, .int x)) (hv : x + Int32.ofInt n = v) (hn : i < nL) (hl : (i, Value.int v) :: lv.filter (fun q => !(q.1 == i) && !(q.1 + 1 == i && q.2.category == 2)) = lv') (k : x_J p l e R s m args below meth c cells slots Q A nL I lv' st (pc + 3)) : x_J p l e R s m args below meth c cells slots Q A nL I lv st pc :=
  fun H locs ls h1 h2 h3 => lv_iinc B.1 B.2.1 hdg h3 hj hv hn hl (fun ls' h' => k H locs ls' h1 h2 h')
theorem x_iadd (B : x_B p s m args meth c cc nL Ts own) {x y : Int32} (hdg : decode cc pc = .ok (.iadd, 1)) (k : x_J p l e R s m args below meth c cells slots Q A nL I lv (.int (x + y) :: st) (pc + 1)) : x_J p l e R s m args below meth c cells slots Q A nL I lv (.int y :: .int x :: st) pc :=
  fun H locs ls h1 h2 h3 => lv_iadd B.1 B.2.1 hdg (k H locs ls h1 h2 h3)
theorem x_isub (B : x_B p s m args meth c cc nL Ts own) {x y : Int32} (hdg : decode cc pc = .ok (.isub, 1)) (k : x_J p l e R s m args below meth c cells slots Q A nL I lv (.int (x - y) :: st) (pc + 1)) : x_J p l e R s m args below meth c cells slots Q A nL I lv (.int y :: .int x :: st) pc :=
  fun H locs ls h1 h2 h3 => lv_isub B.1 B.2.1 hdg (k H locs ls h1 h2 h3)
theorem x_imul (B : x_B p s m args meth c cc nL Ts own) {x y : Int32} (hdg : decode cc pc = .ok (.imul, 1)) (k : x_J p l e R s m args below meth c cells slots Q A nL I lv (.int (x * y) :: st) (pc + 1)) : x_J p l e R s m args below meth c cells slots Q A nL I lv (.int y :: .int x :: st) pc :=
  fun H locs ls h1 h2 h3 => lv_imul B.1 B.2.1 hdg (k H locs ls h1 h2 h3)
theorem x_iand (B : x_B p s m args meth c cc nL Ts own) {x y : Int32} (hdg : decode cc pc = .ok (.iand, 1)) (k : x_J p l e R s m args below meth c cells slots Q A nL I lv (.int (x &&& y) :: st) (pc + 1)) : x_J p l e R s m args below meth c cells slots Q A nL I lv (.int y :: .int x :: st) pc :=
  fun H locs ls h1 h2 h3 => lv_iand B.1 B.2.1 hdg (k H locs ls h1 h2 h3)
theorem x_ior (B : x_B p s m args meth c cc nL Ts own) {x y : Int32} (hdg : decode cc pc = .ok (.ior, 1)) (k : x_J p l e R s m args below meth c cells slots Q A nL I lv (.int (x ||| y) :: st) (pc + 1)) : x_J p l e R s m args below meth c cells slots Q A nL I lv (.int y :: .int x :: st) pc :=
  fun H locs ls h1 h2 h3 => lv_ior B.1 B.2.1 hdg (k H locs ls h1 h2 h3)
theorem x_ixor (B : x_B p s m args meth c cc nL Ts own) {x y : Int32} (hdg : decode cc pc = .ok (.ixor, 1)) (k : x_J p l e R s m args below meth c cells slots Q A nL I lv (.int (x ^^^ y) :: st) (pc + 1)) : x_J p l e R s m args below meth c cells slots Q A nL I lv (.int y :: .int x :: st) pc :=
  fun H locs ls h1 h2 h3 => lv_ixor B.1 B.2.1 hdg (k H locs ls h1 h2 h3)
theorem x_ishl (B : x_B p s m args meth c cc nL Ts own) {x y : Int32} (hdg : decode cc pc = .ok (.ishl, 1)) (k : x_J p l e R s m args below meth c cells slots Q A nL I lv (.int (x <<< (y &&& 31)) :: st) (pc + 1)) : x_J p l e R s m args below meth c cells slots Q A nL I lv (.int y :: .int x :: st) pc :=
  fun H locs ls h1 h2 h3 => lv_ishl B.1 B.2.1 hdg (k H locs ls h1 h2 h3)
theorem x_ishr (B : x_B p s m args meth c cc nL Ts own) {x y : Int32} (hdg : decode cc pc = .ok (.ishr, 1)) (k : x_J p l e R s m args below meth c cells slots Q A nL I lv (.int (x >>> (y &&& 31)) :: st) (pc + 1)) : x_J p l e R s m args below meth c cells slots Q A nL I lv (.int y :: .int x :: st) pc :=
  fun H locs ls h1 h2 h3 => lv_ishr B.1 B.2.1 hdg (k H locs ls h1 h2 h3)
theorem x_idiv (B : x_B p s m args meth c cc nL Ts own) {x y : Int32} (hdg : decode cc pc = .ok (.idiv, 1)) (hne : ¬ y = 0) (k : x_J p l e R s m args below meth c cells slots Q A nL I lv (.int (x / y) :: st) (pc + 1)) : x_J p l e R s m args below meth c cells slots Q A nL I lv (.int y :: .int x :: st) pc :=
  fun H locs ls h1 h2 h3 => lv_idiv B.1 B.2.1 hdg hne (k H locs ls h1 h2 h3)
theorem x_irem (B : x_B p s m args meth c cc nL Ts own) {x y : Int32} (hdg : decode cc pc = .ok (.irem, 1)) (hne : ¬ y = 0) (k : x_J p l e R s m args below meth c cells slots Q A nL I lv (.int (x - x / y * y) :: st) (pc + 1)) : x_J p l e R s m args below meth c cells slots Q A nL I lv (.int y :: .int x :: st) pc :=
  fun H locs ls h1 h2 h3 => lv_irem B.1 B.2.1 hdg hne (k H locs ls h1 h2 h3)
theorem x_ineg (B : x_B p s m args meth c cc nL Ts own) {x : Int32} (hdg : decode cc pc = .ok (.ineg, 1)) (k : x_J p l e R s m args below meth c cells slots Q A nL I lv (.int (-x) :: st) (pc + 1)) : x_J p l e R s m args below meth c cells slots Q A nL I lv (.int x :: st) pc :=
  fun H locs ls h1 h2 h3 => lv_ineg B.1 B.2.1 hdg (k H locs ls h1 h2 h3)
theorem x_iushr (B : x_B p s m args meth c cc nL Ts own) {x y : Int32} (hdg : decode cc pc = .ok (.iushr, 1)) (k : x_J p l e R s m args below meth c cells slots Q A nL I lv (.int (x.toUInt32 >>> (y.toUInt32 &&& Int32.toUInt32 31)).toInt32 :: st) (pc + 1)) : x_J p l e R s m args below meth c cells slots Q A nL I lv (.int y :: .int x :: st) pc :=
  fun H locs ls h1 h2 h3 => lv_iushr B.1 B.2.1 hdg rfl (k H locs ls h1 h2 h3)
theorem x_i2l (B : x_B p s m args meth c cc nL Ts own) {x : Int32} (hdg : decode cc pc = .ok (.i2l, 1)) (k : x_J p l e R s m args below meth c cells slots Q A nL I lv (.long x.toInt64 :: st) (pc + 1)) : x_J p l e R s m args below meth c cells slots Q A nL I lv (.int x :: st) pc :=
  fun H locs ls h1 h2 h3 => lv_i2l B.1 B.2.1 hdg rfl (k H locs ls h1 h2 h3)
theorem x_l2i (B : x_B p s m args meth c cc nL Ts own) {x : Int64} (hdg : decode cc pc = .ok (.l2i, 1)) (k : x_J p l e R s m args below meth c cells slots Q A nL I lv (.int x.toInt32 :: st) (pc + 1)) : x_J p l e R s m args below meth c cells slots Q A nL I lv (.long x :: st) pc :=
  fun H locs ls h1 h2 h3 => lv_l2i B.1 B.2.1 hdg rfl (k H locs ls h1 h2 h3)
theorem x_i2b (B : x_B p s m args meth c cc nL Ts own) {x : Int32} (hdg : decode cc pc = .ok (.i2b, 1)) (k : x_J p l e R s m args below meth c cells slots Q A nL I lv (.int x.toInt8.toInt32 :: st) (pc + 1)) : x_J p l e R s m args below meth c cells slots Q A nL I lv (.int x :: st) pc :=
  fun H locs ls h1 h2 h3 => lv_i2b B.1 B.2.1 hdg rfl (k H locs ls h1 h2 h3)
theorem x_i2s (B : x_B p s m args meth c cc nL Ts own) {x : Int32} (hdg : decode cc pc = .ok (.i2s, 1)) (k : x_J p l e R s m args below meth c cells slots Q A nL I lv (.int x.toInt16.toInt32 :: st) (pc + 1)) : x_J p l e R s m args below meth c cells slots Q A nL I lv (.int x :: st) pc :=
  fun H locs ls h1 h2 h3 => lv_i2s B.1 B.2.1 hdg rfl (k H locs ls h1 h2 h3)
theorem x_ladd (B : x_B p s m args meth c cc nL Ts own) {x y : Int64} (hdg : decode cc pc = .ok (.ladd, 1)) (k : x_J p l e R s m args below meth c cells slots Q A nL I lv (.long (x + y) :: st) (pc + 1)) : x_J p l e R s m args below meth c cells slots Q A nL I lv (.long y :: .long x :: st) pc :=
  fun H locs ls h1 h2 h3 => lv_ladd B.1 B.2.1 hdg (k H locs ls h1 h2 h3)
theorem x_lcmp (B : x_B p s m args meth c cc nL Ts own) {x y : Int64} (hdg : decode cc pc = .ok (.lcmp, 1)) (k : x_J p l e R s m args below meth c cells slots Q A nL I lv (.int (lg_cmp x y) :: st) (pc + 1)) : x_J p l e R s m args below meth c cells slots Q A nL I lv (.long y :: .long x :: st) pc :=
  fun H locs ls h1 h2 h3 => W.lcmp B.1 B.2.1 hdg (k H locs ls h1 h2 h3)
theorem x_dup (B : x_B p s m args meth c cc nL Ts own) {va : Value} (hdg : decode cc pc = .ok (.dup, 1)) (hva : va.category = 1) (k : x_J p l e R s m args below meth c cells slots Q A nL I lv (va :: va :: st) (pc + 1)) : x_J p l e R s m args below meth c cells slots Q A nL I lv (va :: st) pc :=
  fun H locs ls h1 h2 h3 => lv_dup B.1 B.2.1 hdg hva (k H locs ls h1 h2 h3)
theorem x_pop (B : x_B p s m args meth c cc nL Ts own) {va : Value} (hdg : decode cc pc = .ok (.pop, 1)) (hva : va.category = 1) (k : x_J p l e R s m args below meth c cells slots Q A nL I lv (st) (pc + 1)) : x_J p l e R s m args below meth c cells slots Q A nL I lv (va :: st) pc :=
  fun H locs ls h1 h2 h3 => lv_pop B.1 B.2.1 hdg hva (k H locs ls h1 h2 h3)
theorem x_dup_x1 (B : x_B p s m args meth c cc nL Ts own) {va vb : Value} (hdg : decode cc pc = .ok (.dup_x1, 1)) (hva : va.category = 1) (hvb : vb.category = 1) (k : x_J p l e R s m args below meth c cells slots Q A nL I lv (va :: vb :: va :: st) (pc + 1)) : x_J p l e R s m args below meth c cells slots Q A nL I lv (va :: vb :: st) pc :=
  fun H locs ls h1 h2 h3 => lv_dup_x1 B.1 B.2.1 hdg hva hvb (k H locs ls h1 h2 h3)
theorem x_dup_x2 (B : x_B p s m args meth c cc nL Ts own) {va vb vd : Value} (hdg : decode cc pc = .ok (.dup_x2, 1)) (hva : va.category = 1) (hvb : vb.category = 1) (hvd : vd.category = 1) (k : x_J p l e R s m args below meth c cells slots Q A nL I lv (va :: vb :: vd :: va :: st) (pc + 1)) : x_J p l e R s m args below meth c cells slots Q A nL I lv (va :: vb :: vd :: st) pc :=
  fun H locs ls h1 h2 h3 => lv_dup_x2 B.1 B.2.1 hdg hva hvb hvd (k H locs ls h1 h2 h3)
theorem x_dup2 (B : x_B p s m args meth c cc nL Ts own) {va vb : Value} (hdg : decode cc pc = .ok (.dup2, 1)) (hva : va.category = 1) (hvb : vb.category = 1) (k : x_J p l e R s m args below meth c cells slots Q A nL I lv (va :: vb :: va :: vb :: st) (pc + 1)) : x_J p l e R s m args below meth c cells slots Q A nL I lv (va :: vb :: st) pc :=
  fun H locs ls h1 h2 h3 => lv_dup2_11 B.1 B.2.1 hdg hva hvb (k H locs ls h1 h2 h3)
theorem x_if_eq (B : x_B p s m args meth c cc nL Ts own) {x : Int32} {off : Int} {tgt : Nat} (hdg : decode cc pc = .ok (.ifCond .eq off, 3)) (ht : (pc : Int) + off = (tgt : Int)) (kt : x = 0 → x_J p l e R s m args below meth c cells slots Q A nL I lv st tgt) (kf : ¬ x = 0 → x_J p l e R s m args below meth c cells slots Q A nL I lv st (pc + 3)) : x_J p l e R s m args below meth c cells slots Q A nL I lv (.int x :: st) pc :=
  fun H locs ls h1 h2 h3 => lv_if_eq B.1 B.2.1 hdg ht (fun h => kt h H locs ls h1 h2 h3) (fun h => kf h H locs ls h1 h2 h3)
theorem x_if_ne (B : x_B p s m args meth c cc nL Ts own) {x : Int32} {off : Int} {tgt : Nat} (hdg : decode cc pc = .ok (.ifCond .ne off, 3)) (ht : (pc : Int) + off = (tgt : Int)) (kt : ¬ x = 0 → x_J p l e R s m args below meth c cells slots Q A nL I lv st tgt) (kf : x = 0 → x_J p l e R s m args below meth c cells slots Q A nL I lv st (pc + 3)) : x_J p l e R s m args below meth c cells slots Q A nL I lv (.int x :: st) pc :=
  fun H locs ls h1 h2 h3 => lv_if_ne B.1 B.2.1 hdg ht (fun h => kt h H locs ls h1 h2 h3) (fun h => kf h H locs ls h1 h2 h3)
theorem x_if_lt (B : x_B p s m args meth c cc nL Ts own) {x : Int32} {off : Int} {tgt : Nat} (hdg : decode cc pc = .ok (.ifCond .lt off, 3)) (ht : (pc : Int) + off = (tgt : Int)) (kt : x < 0 → x_J p l e R s m args below meth c cells slots Q A nL I lv st tgt) (kf : ¬ x < 0 → x_J p l e R s m args below meth c cells slots Q A nL I lv st (pc + 3)) : x_J p l e R s m args below meth c cells slots Q A nL I lv (.int x :: st) pc :=
  fun H locs ls h1 h2 h3 => lv_if_lt B.1 B.2.1 hdg ht (fun h => kt h H locs ls h1 h2 h3) (fun h => kf h H locs ls h1 h2 h3)
theorem x_if_ge (B : x_B p s m args meth c cc nL Ts own) {x : Int32} {off : Int} {tgt : Nat} (hdg : decode cc pc = .ok (.ifCond .ge off, 3)) (ht : (pc : Int) + off = (tgt : Int)) (kt : 0 ≤ x → x_J p l e R s m args below meth c cells slots Q A nL I lv st tgt) (kf : ¬ 0 ≤ x → x_J p l e R s m args below meth c cells slots Q A nL I lv st (pc + 3)) : x_J p l e R s m args below meth c cells slots Q A nL I lv (.int x :: st) pc :=
  fun H locs ls h1 h2 h3 => lv_if_ge B.1 B.2.1 hdg ht (fun h => kt h H locs ls h1 h2 h3) (fun h => kf h H locs ls h1 h2 h3)
theorem x_if_gt (B : x_B p s m args meth c cc nL Ts own) {x : Int32} {off : Int} {tgt : Nat} (hdg : decode cc pc = .ok (.ifCond .gt off, 3)) (ht : (pc : Int) + off = (tgt : Int)) (kt : 0 < x → x_J p l e R s m args below meth c cells slots Q A nL I lv st tgt) (kf : ¬ 0 < x → x_J p l e R s m args below meth c cells slots Q A nL I lv st (pc + 3)) : x_J p l e R s m args below meth c cells slots Q A nL I lv (.int x :: st) pc :=
  fun H locs ls h1 h2 h3 => lv_if_gt B.1 B.2.1 hdg ht (fun h => kt h H locs ls h1 h2 h3) (fun h => kf h H locs ls h1 h2 h3)
theorem x_if_le (B : x_B p s m args meth c cc nL Ts own) {x : Int32} {off : Int} {tgt : Nat} (hdg : decode cc pc = .ok (.ifCond .le off, 3)) (ht : (pc : Int) + off = (tgt : Int)) (kt : x ≤ 0 → x_J p l e R s m args below meth c cells slots Q A nL I lv st tgt) (kf : ¬ x ≤ 0 → x_J p l e R s m args below meth c cells slots Q A nL I lv st (pc + 3)) : x_J p l e R s m args below meth c cells slots Q A nL I lv (.int x :: st) pc :=
  fun H locs ls h1 h2 h3 => lv_if_le B.1 B.2.1 hdg ht (fun h => kt h H locs ls h1 h2 h3) (fun h => kf h H locs ls h1 h2 h3)
theorem x_icmp_eq (B : x_B p s m args meth c cc nL Ts own) {x y : Int32} {off : Int} {tgt : Nat} (hdg : decode cc pc = .ok (.if_icmp .eq off, 3)) (ht : (pc : Int) + off = (tgt : Int)) (kt : x = y → x_J p l e R s m args below meth c cells slots Q A nL I lv st tgt) (kf : ¬ x = y → x_J p l e R s m args below meth c cells slots Q A nL I lv st (pc + 3)) : x_J p l e R s m args below meth c cells slots Q A nL I lv (.int y :: .int x :: st) pc :=
  fun H locs ls h1 h2 h3 => lv_icmp_eq B.1 B.2.1 hdg ht (fun h => kt h H locs ls h1 h2 h3) (fun h => kf h H locs ls h1 h2 h3)
theorem x_icmp_ne (B : x_B p s m args meth c cc nL Ts own) {x y : Int32} {off : Int} {tgt : Nat} (hdg : decode cc pc = .ok (.if_icmp .ne off, 3)) (ht : (pc : Int) + off = (tgt : Int)) (kt : ¬ x = y → x_J p l e R s m args below meth c cells slots Q A nL I lv st tgt) (kf : x = y → x_J p l e R s m args below meth c cells slots Q A nL I lv st (pc + 3)) : x_J p l e R s m args below meth c cells slots Q A nL I lv (.int y :: .int x :: st) pc :=
  fun H locs ls h1 h2 h3 => lv_icmp_ne B.1 B.2.1 hdg ht (fun h => kt h H locs ls h1 h2 h3) (fun h => kf h H locs ls h1 h2 h3)
theorem x_icmp_lt (B : x_B p s m args meth c cc nL Ts own) {x y : Int32} {off : Int} {tgt : Nat} (hdg : decode cc pc = .ok (.if_icmp .lt off, 3)) (ht : (pc : Int) + off = (tgt : Int)) (kt : x < y → x_J p l e R s m args below meth c cells slots Q A nL I lv st tgt) (kf : ¬ x < y → x_J p l e R s m args below meth c cells slots Q A nL I lv st (pc + 3)) : x_J p l e R s m args below meth c cells slots Q A nL I lv (.int y :: .int x :: st) pc :=
  fun H locs ls h1 h2 h3 => lv_icmp_lt B.1 B.2.1 hdg ht (fun h => kt h H locs ls h1 h2 h3) (fun h => kf h H locs ls h1 h2 h3)
theorem x_icmp_ge (B : x_B p s m args meth c cc nL Ts own) {x y : Int32} {off : Int} {tgt : Nat} (hdg : decode cc pc = .ok (.if_icmp .ge off, 3)) (ht : (pc : Int) + off = (tgt : Int)) (kt : y ≤ x → x_J p l e R s m args below meth c cells slots Q A nL I lv st tgt) (kf : ¬ y ≤ x → x_J p l e R s m args below meth c cells slots Q A nL I lv st (pc + 3)) : x_J p l e R s m args below meth c cells slots Q A nL I lv (.int y :: .int x :: st) pc :=
  fun H locs ls h1 h2 h3 => lv_icmp_ge B.1 B.2.1 hdg ht (fun h => kt h H locs ls h1 h2 h3) (fun h => kf h H locs ls h1 h2 h3)
theorem x_icmp_gt (B : x_B p s m args meth c cc nL Ts own) {x y : Int32} {off : Int} {tgt : Nat} (hdg : decode cc pc = .ok (.if_icmp .gt off, 3)) (ht : (pc : Int) + off = (tgt : Int)) (kt : y < x → x_J p l e R s m args below meth c cells slots Q A nL I lv st tgt) (kf : ¬ y < x → x_J p l e R s m args below meth c cells slots Q A nL I lv st (pc + 3)) : x_J p l e R s m args below meth c cells slots Q A nL I lv (.int y :: .int x :: st) pc :=
  fun H locs ls h1 h2 h3 => lv_icmp_gt B.1 B.2.1 hdg ht (fun h => kt h H locs ls h1 h2 h3) (fun h => kf h H locs ls h1 h2 h3)
theorem x_icmp_le (B : x_B p s m args meth c cc nL Ts own) {x y : Int32} {off : Int} {tgt : Nat} (hdg : decode cc pc = .ok (.if_icmp .le off, 3)) (ht : (pc : Int) + off = (tgt : Int)) (kt : x ≤ y → x_J p l e R s m args below meth c cells slots Q A nL I lv st tgt) (kf : ¬ x ≤ y → x_J p l e R s m args below meth c cells slots Q A nL I lv st (pc + 3)) : x_J p l e R s m args below meth c cells slots Q A nL I lv (.int y :: .int x :: st) pc :=
  fun H locs ls h1 h2 h3 => lv_icmp_le B.1 B.2.1 hdg ht (fun h => kt h H locs ls h1 h2 h3) (fun h => kf h H locs ls h1 h2 h3)
theorem x_goto (B : x_B p s m args meth c cc nL Ts own) {off : Int} {tgt : Nat} (hdg : decode cc pc = .ok (.goto off, 3)) (ht : (pc : Int) + off = (tgt : Int)) (k : x_J p l e R s m args below meth c cells slots Q A nL I lv st tgt) : x_J p l e R s m args below meth c cells slots Q A nL I lv st pc :=
  fun H locs ls h1 h2 h3 => lv_goto B.1 B.2.1 hdg ht (k H locs ls h1 h2 h3)
theorem x_lookup (B : x_B p s m args meth c cc nL Ts own) {dflt : Int} {ps : Array (Int × Int)} {len : Nat} {x : Int32} {off : Int} {tgt : Nat} (hdg : decode cc pc = .ok (.lookupswitch dflt ps, len)) (hp : (ps.toList.zip (ps.toList.drop 1)).all (fun (a, next) => a.1 < next.1) = true) (ho : Op.lookupswitch.offset ps.toList dflt x.toInt = off) (ht : (pc : Int) + off = (tgt : Int)) (k : x_J p l e R s m args below meth c cells slots Q A nL I lv st tgt) : x_J p l e R s m args below meth c cells slots Q A nL I lv (.int x :: st) pc :=
  fun H locs ls h1 h2 h3 => lv_lookup B.1 B.2.1 hdg hp ho ht (k H locs ls h1 h2 h3)
theorem x_tableOut (B : x_B p s m args meth c cc nL Ts own) {dflt lo hi : Int} {offs : Array Int} {len : Nat} {x : Int32} {tgt : Nat} (hdg : decode cc pc = .ok (.tableswitch dflt lo hi offs, len)) (h : x.toInt < lo ∨ hi < x.toInt) (ht : (pc : Int) + dflt = (tgt : Int)) (k : x_J p l e R s m args below meth c cells slots Q A nL I lv st tgt) : x_J p l e R s m args below meth c cells slots Q A nL I lv (.int x :: st) pc :=
  fun H locs ls h1 h2 h3 => lv_tableOut B.1 B.2.1 hdg h ht (k H locs ls h1 h2 h3)
theorem x_tableIn (B : x_B p s m args meth c cc nL Ts own) {dflt lo hi : Int} {offs : Array Int} {len : Nat} {x : Int32} {off : Int} {tgt : Nat} (hdg : decode cc pc = .ok (.tableswitch dflt lo hi offs, len)) (h1 : ¬ x.toInt < lo) (h2 : ¬ hi < x.toInt) (ho : offs[(x.toInt - lo).toNat]? = some off) (ht : (pc : Int) + off = (tgt : Int)) (k : x_J p l e R s m args below meth c cells slots Q A nL I lv st tgt) : x_J p l e R s m args below meth c cells slots Q A nL I lv (.int x :: st) pc :=
  fun H locs ls g1 g2 g3 => lv_tableIn B.1 B.2.1 hdg h1 h2 ho ht (k H locs ls g1 g2 g3)
theorem x_ldc (B : x_B p s m args meth c cc nL Ts own) {index : Nat} {v : Int32} (hconst : Jvm.Cond.constant own index v ∈ Ts) (hdg : decode cc pc = .ok (.ldc index, 2)) (k : x_J p l e R s m args below meth c cells slots Q A nL I lv (.int v :: st) (pc + 2)) : x_J p l e R s m args below meth c cells slots Q A nL I lv st pc :=
  fun H locs ls h1 h2 h3 => lv_ldc B.1 B.2.1 B.2.2.2.1 (B.2.2.2.2.1 _ hconst) hdg (k H locs ls h1 h2 h3)
theorem x_ldcw (B : x_B p s m args meth c cc nL Ts own) {index : Nat} {v : Int32} (hconst : Jvm.Cond.constant own index v ∈ Ts) (hdg : decode cc pc = .ok (.ldc_w index, 3)) (k : x_J p l e R s m args below meth c cells slots Q A nL I lv (.int v :: st) (pc + 3)) : x_J p l e R s m args below meth c cells slots Q A nL I lv st pc :=
  fun H locs ls h1 h2 h3 => lv_ldcw B.1 B.2.1 B.2.2.2.1 (B.2.2.2.2.1 _ hconst) hdg (k H locs ls h1 h2 h3)
theorem x_ldc2 (B : x_B p s m args meth c cc nL Ts own) {index : Nat} {v : Int64} (hconst : Jvm.Cond.constantLong own index v ∈ Ts) (hdg : decode cc pc = .ok (.ldc2_w index, 3)) (k : x_J p l e R s m args below meth c cells slots Q A nL I lv (.long v :: st) (pc + 3)) : x_J p l e R s m args below meth c cells slots Q A nL I lv st pc :=
  fun H locs ls h1 h2 h3 => lv_ldc2 B.1 B.2.1 B.2.2.2.1 (B.2.2.2.2.1 _ hconst) hdg (k H locs ls h1 h2 h3)
/-- a field is read -/
theorem x_get (B : x_B p s m args meth c cc nL Ts own) (G : x_G s D cl tys N ad A St) {Cn : String} {T : u_T} {n ci kc index : Nat} (hin : ∀ w ∈ u_ws Cn T n, w ∈ Ts) (hc : cl[ci]? = some (Cn, T, n)) (hk : kc < N) {fs : (Nat → Int32) → List Value} (hC : ∀ r, C r kc = .inr (ci, fs r)) (j : Nat) (hj : j < n) (hlink : Cond.fieldLink own index (T j).1 (T j).2.1 (T j).2.2.1 ∈ Ts) {v : Value} (hv : (fs (σ kc))[j]? = some v) (hdg : decode cc pc = .ok (.getfield index, 3))
    (k : x_J p l e R s m args below meth c cells slots Q A nL (x_I D cl N C ad σ) lv (v :: st) (pc + 3)) : x_J p l e R s m args below meth c cells slots Q A nL (x_I D cl N C ad σ) lv (.ref (ad kc) :: st) pc :=
  fun H locs ls h1 h2 h3 => va_get (D := D) (cl := cl) (ws := x_l N C ad σ) (ci := ci) (C := Cn) (T := T) (N := n) B.1 B.2.1 B.2.2.2.2.1 hin B.2.2.2.1 G.1 h1 kc (by rw [x_l_at C ad σ hk, hC]) hc j hj (B.2.2.2.2.1 _ hlink) (fun _ h9 => h9) hv hdg (k H locs ls h1 h2 h3)
/-- an int field is written -/
theorem x_put (B : x_B p s m args meth c cc nL Ts own) (G : x_G s D cl tys N ad A St) {Cn : String} {T : u_T} {n ci kc index : Nat} (hin : ∀ w ∈ u_ws Cn T n, w ∈ Ts) (ty0 : Nat → FieldType) (hty : ∀ k, k < n → parseFieldDescriptor (T k).2.2.1 = some (ty0 k)) (hnm : ∀ a, a < n → ∀ b, b < n → a ≠ b → (T a).2.1 ≠ (T b).2.1) (hc : cl[ci]? = some (Cn, T, n)) (hk : kc < N) {fs : (Nat → Int32) → List Value} (hC : ∀ r, C r kc = .inr (ci, fs r)) (j : Nat) (hj : j < n) (hlink : Cond.fieldLink own index (T j).1 (T j).2.1 (T j).2.2.1 ∈ Ts) (hfin : (T j).2.2.2 = false) {ty : FieldType} {v : Int32} (hd : ty0 j = ty) (hn : narrow ty (.int v) = .int v) (hfit : fits ty (.int v) = true) (hlen : j < (fs (σ kc)).length) (hset : (fs (σ kc)).set j (.int v) = fs (upd (σ kc) j v)) (hdg : decode cc pc = .ok (.putfield index, 3))
    (k : x_J p l e R s m args below meth c cells slots Q A nL (x_I D cl N C ad (x_u σ kc j v)) lv st (pc + 3)) : x_J p l e R s m args below meth c cells slots Q A nL (x_I D cl N C ad σ) lv (.int v :: .ref (ad kc) :: st) pc := by
  intro H locs ls h1 h2 h3
  refine va_put (D := D) (cl := cl) (ws := x_l N C ad σ) (ci := ci) (C := Cn) (T := T) (N := n) (A := A) B.1 B.2.1 B.2.2.2.2.1 hin ty0 hty hnm B.2.2.2.1 G.1 h1 (x_D G.2.1 G.2.2.1 σ) h2 kc (fs := fs (σ kc)) (by rw [x_l_at C ad σ hk, hC]) hc j hj (B.2.2.2.2.1 _ hlink) (fun _ h9 => h9) hfin (ty := ty) (by rw [hty j hj, hd]) hn hfit hlen hdg (fun H1 locs1 g1 _ g2 => ?_)
  rw [hset, ← hC, x_l_set C ad σ hk] at g1
  exact k H1 locs1 ls g1 g2 h3
/-- a place of an int array is read -/
theorem x_iald (B : x_B p s m args meth c cc nL Ts own) (G : x_G s D cl tys N ad A St) {kc n t0 : Nat} {cA : ClassId} (hk : kc < N) (hC : ∀ r, C r kc = .inl (cA, n, .inl r)) (ht : tys[t0]? = some (cA, .int)) {i : Int32} (hi : x_in i n) (hdg : decode cc pc = .ok (.iaload, 1)) (k : x_J p l e R s m args below meth c cells slots Q A nL (x_I D cl N C ad σ) lv (.int (σ kc i.toNatClampNeg) :: st) (pc + 1)) : x_J p l e R s m args below meth c cells slots Q A nL (x_I D cl N C ad σ) lv (.int i :: .ref (ad kc) :: st) pc :=
  fun H locs ls h1 h2 h3 => va_iald (D := D) (cl := cl) (ws := x_l N C ad σ) B.1 B.2.1 G.1 h1 kc t0 (f := σ kc) (by rw [x_l_at C ad σ hk, hC]) ht hi hdg (k H locs ls h1 h2 h3)
theorem x_zald (B : x_B p s m args meth c cc nL Ts own) (G : x_G s D cl tys N ad A St) {kc n t0 : Nat} {cA : ClassId} (hk : kc < N) (hC : ∀ r, C r kc = .inl (cA, n, .inl r)) (ht : tys[t0]? = some (cA, .boolean)) {i : Int32} (hi : x_in i n) (hdg : decode cc pc = .ok (.baload, 1)) (k : x_J p l e R s m args below meth c cells slots Q A nL (x_I D cl N C ad σ) lv (.int (σ kc i.toNatClampNeg) :: st) (pc + 1)) : x_J p l e R s m args below meth c cells slots Q A nL (x_I D cl N C ad σ) lv (.int i :: .ref (ad kc) :: st) pc :=
  fun H locs ls h1 h2 h3 => va_zald (D := D) (cl := cl) (ws := x_l N C ad σ) B.1 B.2.1 G.1 h1 kc t0 (f := σ kc) (by rw [x_l_at C ad σ hk, hC]) ht hi hdg (k H locs ls h1 h2 h3)
theorem x_iast (B : x_B p s m args meth c cc nL Ts own) (G : x_G s D cl tys N ad A St) {kc n t0 : Nat} {cA : ClassId} (hk : kc < N) (hC : ∀ r, C r kc = .inl (cA, n, .inl r)) (ht : tys[t0]? = some (cA, .int)) {i x : Int32} (hi : x_in i n) (hdg : decode cc pc = .ok (.iastore, 1)) (k : x_J p l e R s m args below meth c cells slots Q A nL (x_I D cl N C ad (x_u σ kc i.toNatClampNeg x)) lv st (pc + 1)) : x_J p l e R s m args below meth c cells slots Q A nL (x_I D cl N C ad σ) lv (.int x :: .int i :: .ref (ad kc) :: st) pc := by
  intro H locs ls h1 h2 h3
  refine va_iast (D := D) (cl := cl) (ws := x_l N C ad σ) (A := A) B.1 B.2.1 G.1 h1 (x_D G.2.1 G.2.2.1 σ) h2 kc t0 (f := σ kc) (by rw [x_l_at C ad σ hk, hC]) ht hi hdg (fun H1 locs1 g1 _ g2 => ?_)
  rw [← hC, x_l_set C ad σ hk] at g1
  exact k H1 locs1 ls g1 g2 h3
theorem x_zast (B : x_B p s m args meth c cc nL Ts own) (G : x_G s D cl tys N ad A St) {kc n t0 : Nat} {cA : ClassId} (hk : kc < N) (hC : ∀ r, C r kc = .inl (cA, n, .inl r)) (ht : tys[t0]? = some (cA, .boolean)) {i x : Int32} (hi : x_in i n) (hx : x &&& 1 = x) (hdg : decode cc pc = .ok (.bastore, 1)) (k : x_J p l e R s m args below meth c cells slots Q A nL (x_I D cl N C ad (x_u σ kc i.toNatClampNeg x)) lv st (pc + 1)) : x_J p l e R s m args below meth c cells slots Q A nL (x_I D cl N C ad σ) lv (.int x :: .int i :: .ref (ad kc) :: st) pc := by
  intro H locs ls h1 h2 h3
  refine va_zast (D := D) (cl := cl) (ws := x_l N C ad σ) (A := A) B.1 B.2.1 G.1 h1 (x_D G.2.1 G.2.2.1 σ) h2 kc t0 (f := σ kc) (by rw [x_l_at C ad σ hk, hC]) ht hi hdg (fun H1 locs1 g1 _ g2 => ?_)
  have hx2 : vp_nar .boolean x = x := hx
  rw [hx2, ← hC, x_l_set C ad σ hk] at g1
  exact k H1 locs1 ls g1 g2 h3
/-- a place of an array of references is read -/
theorem x_aald (B : x_B p s m args meth c cc nL Ts own) (G : x_G s D cl tys N ad A St) {kc n t0 : Nat} {cA : ClassId} {ty : FieldType} {f : Nat → Nat} (hk : kc < N) (hC : ∀ r, C r kc = .inl (cA, n, .inr (.inr (.inr (.inr (fun j => some (f j))))))) (ht : tys[t0]? = some (cA, ty)) (hty : ty.isReference = true) {i : Int32} (hi : x_in i n) (hdg : decode cc pc = .ok (.aaload, 1)) (k : x_J p l e R s m args below meth c cells slots Q A nL (x_I D cl N C ad σ) lv (.ref (f i.toNatClampNeg) :: st) (pc + 1)) : x_J p l e R s m args below meth c cells slots Q A nL (x_I D cl N C ad σ) lv (.int i :: .ref (ad kc) :: st) pc := by
  intro H locs ls h1 h2 h3
  have hlt : i.toNatClampNeg < n := Nat.not_le.mp fun q => hi (Or.inr q)
  have hP : va_P D cl (x_l N C ad σ) H := h1
  have ha : (x_l N C ad σ)[kc]? = some (ad kc, .inl (cA, n, .inr (.inr (.inr (.inr (fun j => some (f j))))))) := by rw [x_l_at C ad σ hk, hC]
  exact W.aald (v := va_rf (some (f i.toNatClampNeg))) (ty := ty) B.1 B.2.1 (hP kc _ ha) ((G.1.2 t0 _ ht).1 n (fun j => va_rf (some (f j)))) hty (fun q => by cases q) (by show ¬ (i < 0 ∨ (arrV _ _ _).slots.size ≤ _); rw [arrV_size]; exact hi) (by show (arrV _ _ _).slots[_]? = _; rw [arrV_read _ _ hlt]) rfl rfl hdg (k H locs ls h1 h2 h3)
theorem x_alen (B : x_B p s m args meth c cc nL Ts own) (G : x_G s D cl tys N ad A St) {kc t0 : Nat} {cA : ClassId} {x : (Nat → Int32) → vp_A} (hk : kc < N) (hC : ∀ r, C r kc = .inl (cA, x r)) {ty : FieldType} (ht : tys[t0]? = some (cA, ty)) {v : Int32} (hv : Int32.ofNat (x (σ kc)).1 = v) (hdg : decode cc pc = .ok (.arraylength, 1)) (k : x_J p l e R s m args below meth c cells slots Q A nL (x_I D cl N C ad σ) lv (.int v :: st) (pc + 1)) : x_J p l e R s m args below meth c cells slots Q A nL (x_I D cl N C ad σ) lv (.ref (ad kc) :: st) pc :=
  fun H locs ls h1 h2 h3 => va_alen (D := D) (cl := cl) (ws := x_l N C ad σ) B.1 B.2.1 G.1 h1 kc t0 (x := x (σ kc)) (by rw [x_l_at C ad σ hk, hC]) ht hv hdg (k H locs ls h1 h2 h3)
/-- ints are copied from row to row -/
theorem x_copy (B : x_B p s m args meth c cc nL Ts own) (G : x_G s D cl tys N ad A St) {index k0 k1 n0 n1 t0 : Nat} {cA : ClassId} (hlink : Cond.methodLink own index arraycopyName ∈ Ts) (hnat : Cond.native arraycopyName ∈ Ts) (hstat : Cond.static arraycopyName ∈ Ts) (hini : Cond.initialized "java/lang/System" ∈ Ts) (hk0 : k0 < N) (hk1 : k1 < N) (hC0 : ∀ r, C r k0 = .inl (cA, n0, .inl r)) (hC1 : ∀ r, C r k1 = .inl (cA, n1, .inl r)) (ht : tys[t0]? = some (cA, .int))
    {sp dp n : Int32} (hh : ¬ sp < 0 ∧ ¬ dp < 0 ∧ ¬ n < 0 ∧ sp.toNatClampNeg + n.toNatClampNeg ≤ n0 ∧ dp.toNatClampNeg + n.toNatClampNeg ≤ n1) (hR : 1 ≤ R.frames ∧ (st.map fun v => v.category).sum + (nativeFrameWords "java/lang/System" "arraycopy" 5 + 11) ≤ R.locals) (hdg : decode cc pc = .ok (.invokestatic index, 3))
    (k : x_J p l e R s m args below meth c cells slots Q A nL (x_I D cl N C ad (x_r σ k1 (va_cpy (σ k0) (σ k1) sp.toNatClampNeg dp.toNatClampNeg n.toNatClampNeg))) lv st (pc + 3)) : x_J p l e R s m args below meth c cells slots Q A nL (x_I D cl N C ad σ) lv (.int n :: .int dp :: .ref (ad k1) :: .int sp :: .ref (ad k0) :: st) pc := by
  intro H locs ls h1 h2 h3
  refine va_copyi (D := D) (cl := cl) (ws := x_l N C ad σ) (A := A) B.1 B.2.1 (by rw [B.2.2.1, h3.1]) B.2.2.2.1 (B.2.2.2.2.1 _ hlink) (B.2.2.2.2.1 _ hnat) (B.2.2.2.2.1 _ hstat) (B.2.2.2.2.1 _ hini) G.1 h1 (x_D G.2.1 G.2.2.1 σ) h2 k0 k1 t0 t0 (f := σ k0) (g := σ k1) (ty := .int) (by rw [x_l_at C ad σ hk0, hC0]) (by rw [x_l_at C ad σ hk1, hC1]) ht ht rfl hh.1 hh.2.1 hh.2.2.1 hh.2.2.2.1 hh.2.2.2.2 (fun i _ => rfl) hR.1 hR.2 hdg (fun H1 locs1 g1 _ g2 => ?_)
  rw [← hC1, x_l_set C ad σ hk1] at g1
  exact k H1 locs1 ls g1 g2 h3
theorem x_mmax (B : x_B p s m args meth c cc nL Ts own) {index : Nat} (hlink : Cond.methodLink own index Lib.Math.max.name ∈ Ts) (hstat : Cond.static Lib.Math.max.name ∈ Ts) (hini : Cond.initialized "java/lang/Math" ∈ Ts) (hcode : Cond.code Lib.Math.max.name Lib.Math.max.code 2 (some .int) ∈ Ts) (hR : 1 ≤ R.frames ∧ (st.map fun v => v.category).sum + 13 ≤ R.locals) (hcs : cells ≤ R.cells ∧ slots ≤ R.slots) {x y : Int32} (hdg : decode cc pc = .ok (.invokestatic index, 3)) (k : x_J p l e R s m args below meth c cells slots Q A nL I lv (.int (if x < y then y else x) :: st) (pc + 3)) : x_J p l e R s m args below meth c cells slots Q A nL I lv (.int y :: .int x :: st) pc :=
  fun H locs ls h1 h2 h3 => va_mmax B.1 B.2.1 (by rw [B.2.2.1, h3.1]) B.2.2.2.1 (B.2.2.2.2.1 _ hlink) (B.2.2.2.2.1 _ hstat) (B.2.2.2.2.1 _ hini) (B.2.2.2.2.1 _ hcode) hR.1 hR.2 hcs.1 hcs.2 hdg (k H locs ls h1 h2 h3)
theorem x_mmin (B : x_B p s m args meth c cc nL Ts own) {index : Nat} (hlink : Cond.methodLink own index Lib.Math.min.name ∈ Ts) (hstat : Cond.static Lib.Math.min.name ∈ Ts) (hini : Cond.initialized "java/lang/Math" ∈ Ts) (hcode : Cond.code Lib.Math.min.name Lib.Math.min.code 2 (some .int) ∈ Ts) (hR : 1 ≤ R.frames ∧ (st.map fun v => v.category).sum + 13 ≤ R.locals) (hcs : cells ≤ R.cells ∧ slots ≤ R.slots) {x y : Int32} (hdg : decode cc pc = .ok (.invokestatic index, 3)) (k : x_J p l e R s m args below meth c cells slots Q A nL I lv (.int (if y < x then y else x) :: st) (pc + 3)) : x_J p l e R s m args below meth c cells slots Q A nL I lv (.int y :: .int x :: st) pc :=
  fun H locs ls h1 h2 h3 => va_mmin B.1 B.2.1 (by rw [B.2.2.1, h3.1]) B.2.2.2.1 (B.2.2.2.2.1 _ hlink) (B.2.2.2.2.1 _ hstat) (B.2.2.2.2.1 _ hini) (B.2.2.2.2.1 _ hcode) hR.1 hR.2 hcs.1 hcs.2 hdg (k H locs ls h1 h2 h3)
/-- a static that holds a reference; a table is read -/
theorem x_gets (B : x_B p s m args meth c cc nL Ts own) {Cn nm d : String} {v : Value} {index : Nat} (hZ : va_Z Cn nm d v A s s.heap) (hlink : Cond.fieldLink own index Cn nm d ∈ Ts) (hdg : decode cc pc = .ok (.getstatic index, 3)) (k : x_J p l e R s m args below meth c cells slots Q A nL I lv (v :: st) (pc + 3)) : x_J p l e R s m args below meth c cells slots Q A nL I lv st pc :=
  fun H locs ls h1 h2 h3 => va_gets B.1 B.2.1 hZ h2 B.2.2.2.1 (B.2.2.2.2.1 _ hlink) (fun _ h9 => h9) hdg (k H locs ls h1 h2 h3)
theorem x_tald (B : x_B p s m args meth c cc nL Ts own) {t n : Nat} {f : Nat → Int32} (hT : va_T .int t n (fun j => .int (f j)) A s s.heap) {i : Int32} (hi : x_in i n) (hdg : decode cc pc = .ok (.iaload, 1)) (k : x_J p l e R s m args below meth c cells slots Q A nL I lv (.int (f i.toNatClampNeg) :: st) (pc + 1)) : x_J p l e R s m args below meth c cells slots Q A nL I lv (.int i :: .ref t :: st) pc :=
  fun H locs ls h1 h2 h3 => va_ti B.1 B.2.1 hT h2 hi rfl hdg (k H locs ls h1 h2 h3)
theorem x_talen (B : x_B p s m args meth c cc nL Ts own) {t n : Nat} {f : Nat → Value} {v : Int32} (hT : va_T .int t n f A s s.heap) (hv : Int32.ofNat n = v) (hdg : decode cc pc = .ok (.arraylength, 1)) (k : x_J p l e R s m args below meth c cells slots Q A nL I lv (.int v :: st) (pc + 1)) : x_J p l e R s m args below meth c cells slots Q A nL I lv (.ref t :: st) pc := by
  intro H locs ls h1 h2 h3
  obtain ⟨cell, g1, g2, g3, g4, g5, g6, g7⟩ := hT
  exact W.alen B.1 B.2.1 (a := t) (cell := cell) (ty := .int) (by rw [h2.2.1 t (Array.getElem?_eq_some_iff.mp g1).1 g7]; exact g1) g2 (g5.trans hv) rfl rfl hdg (k H locs ls h1 h2 h3)
end XJ
end
section
theorem zz_look : lw_tbl = lw_tbl := rfl
end
