-- ===== PART A: goes FIRST, ahead of the names: the tables' words, and 'selects' of the private methods out of them =====
/-- a private method of a class that the tables say can be made, by its rows of tables_1 -/
def lw_okq (q : MethodName × Nat) : Prop := (q.1.cls ≠ "java/lang/invoke/MethodHandle" ∧ q.1.cls ≠ "java/lang/invoke/VarHandle") ∧ Cond.instantiable q.1.cls q.2 ∈ tables_1 ∧ Cond.privateMethod q.1 ∈ tables_1 ∧ Cond.instanceMethod q.1 ∈ tables_1
theorem lw_p0 : lw_okq (⟨"VacantAir", "recorded", "(I)I"⟩, 6) := ⟨⟨by decide +kernel, by decide +kernel⟩, List.mem_of_getElem? (i := 12) (by decide +kernel), List.mem_of_getElem? (i := 301) (by decide +kernel), List.mem_of_getElem? (i := 302) (by decide +kernel)⟩
theorem lw_p1 : lw_okq (⟨"VacantAir$State", "review", "()V"⟩, 6) := ⟨⟨by decide +kernel, by decide +kernel⟩, List.mem_of_getElem? (i := 20) (by decide +kernel), List.mem_of_getElem? (i := 317) (by decide +kernel), List.mem_of_getElem? (i := 318) (by decide +kernel)⟩
theorem lw_p2 : lw_okq (⟨"VacantAir$State", "barredRadius", "(II)I"⟩, 6) := ⟨⟨by decide +kernel, by decide +kernel⟩, List.mem_of_getElem? (i := 20) (by decide +kernel), List.mem_of_getElem? (i := 333) (by decide +kernel), List.mem_of_getElem? (i := 334) (by decide +kernel)⟩
theorem lw_p3 : lw_okq (⟨"VacantAir$State", "refusal", "(II)I"⟩, 6) := ⟨⟨by decide +kernel, by decide +kernel⟩, List.mem_of_getElem? (i := 20) (by decide +kernel), List.mem_of_getElem? (i := 421) (by decide +kernel), List.mem_of_getElem? (i := 422) (by decide +kernel)⟩
theorem lw_p4 : lw_okq (⟨"VacantAir$State", "isAllowedOnAny", "(II)Z"⟩, 6) := ⟨⟨by decide +kernel, by decide +kernel⟩, List.mem_of_getElem? (i := 20) (by decide +kernel), List.mem_of_getElem? (i := 425) (by decide +kernel), List.mem_of_getElem? (i := 426) (by decide +kernel)⟩
theorem lw_p5 : lw_okq (⟨"VacantAir$State", "isFree", "(III)Z"⟩, 6) := ⟨⟨by decide +kernel, by decide +kernel⟩, List.mem_of_getElem? (i := 20) (by decide +kernel), List.mem_of_getElem? (i := 433) (by decide +kernel), List.mem_of_getElem? (i := 434) (by decide +kernel)⟩
theorem lw_p6 : lw_okq (⟨"VacantAir$State", "endLeases", "()V"⟩, 6) := ⟨⟨by decide +kernel, by decide +kernel⟩, List.mem_of_getElem? (i := 20) (by decide +kernel), List.mem_of_getElem? (i := 478) (by decide +kernel), List.mem_of_getElem? (i := 479) (by decide +kernel)⟩
theorem lw_p7 : lw_okq (⟨"VacantAir$State", "asksNow", "(I)Z"⟩, 6) := ⟨⟨by decide +kernel, by decide +kernel⟩, List.mem_of_getElem? (i := 20) (by decide +kernel), List.mem_of_getElem? (i := 482) (by decide +kernel), List.mem_of_getElem? (i := 483) (by decide +kernel)⟩
theorem lw_p8 : lw_okq (⟨"VacantAir$State", "hopOrStrike", "(I)I"⟩, 6) := ⟨⟨by decide +kernel, by decide +kernel⟩, List.mem_of_getElem? (i := 20) (by decide +kernel), List.mem_of_getElem? (i := 486) (by decide +kernel), List.mem_of_getElem? (i := 487) (by decide +kernel)⟩
theorem lw_p9 : lw_okq (⟨"VacantAir$State", "cutLeases", "()V"⟩, 6) := ⟨⟨by decide +kernel, by decide +kernel⟩, List.mem_of_getElem? (i := 20) (by decide +kernel), List.mem_of_getElem? (i := 490) (by decide +kernel), List.mem_of_getElem? (i := 491) (by decide +kernel)⟩
theorem lw_p10 : lw_okq (⟨"VacantAir$ActText", "readNumber", "(II)I"⟩, 8) := ⟨⟨by decide +kernel, by decide +kernel⟩, List.mem_of_getElem? (i := 198) (by decide +kernel), List.mem_of_getElem? (i := 531) (by decide +kernel), List.mem_of_getElem? (i := 532) (by decide +kernel)⟩
theorem lw_p11 : lw_okq (⟨"VacantAir$ActText", "isDigitAt", "(I)Z"⟩, 8) := ⟨⟨by decide +kernel, by decide +kernel⟩, List.mem_of_getElem? (i := 198) (by decide +kernel), List.mem_of_getElem? (i := 535) (by decide +kernel), List.mem_of_getElem? (i := 536) (by decide +kernel)⟩
theorem lw_p12 : lw_okq (⟨"VacantAir$ActText", "readByte", "(I)V"⟩, 8) := ⟨⟨by decide +kernel, by decide +kernel⟩, List.mem_of_getElem? (i := 198) (by decide +kernel), List.mem_of_getElem? (i := 539) (by decide +kernel), List.mem_of_getElem? (i := 540) (by decide +kernel)⟩
theorem lw_p13 : lw_okq (⟨"VacantAir", "barredAlone", "(I)I"⟩, 6) := ⟨⟨by decide +kernel, by decide +kernel⟩, List.mem_of_getElem? (i := 12) (by decide +kernel), List.mem_of_getElem? (i := 572) (by decide +kernel), List.mem_of_getElem? (i := 573) (by decide +kernel)⟩
theorem lw_p14 : lw_okq (⟨"VacantAir$Devices", "placeOf", "(I)I"⟩, 11) := ⟨⟨by decide +kernel, by decide +kernel⟩, List.mem_of_getElem? (i := 100) (by decide +kernel), List.mem_of_getElem? (i := 625) (by decide +kernel), List.mem_of_getElem? (i := 626) (by decide +kernel)⟩
theorem lw_p15 : lw_okq (⟨"VacantAir$Devices", "comesBefore", "(II)Z"⟩, 11) := ⟨⟨by decide +kernel, by decide +kernel⟩, List.mem_of_getElem? (i := 100) (by decide +kernel), List.mem_of_getElem? (i := 629) (by decide +kernel), List.mem_of_getElem? (i := 630) (by decide +kernel)⟩
def lw_privs_1 : List (MethodName × Nat) := [(⟨"VacantAir", "recorded", "(I)I"⟩, 6), (⟨"VacantAir$State", "review", "()V"⟩, 6), (⟨"VacantAir$State", "barredRadius", "(II)I"⟩, 6), (⟨"VacantAir$State", "refusal", "(II)I"⟩, 6), (⟨"VacantAir$State", "isAllowedOnAny", "(II)Z"⟩, 6), (⟨"VacantAir$State", "isFree", "(III)Z"⟩, 6), (⟨"VacantAir$State", "endLeases", "()V"⟩, 6), (⟨"VacantAir$State", "asksNow", "(I)Z"⟩, 6), (⟨"VacantAir$State", "hopOrStrike", "(I)I"⟩, 6), (⟨"VacantAir$State", "cutLeases", "()V"⟩, 6), (⟨"VacantAir$ActText", "readNumber", "(II)I"⟩, 8), (⟨"VacantAir$ActText", "isDigitAt", "(I)Z"⟩, 8), (⟨"VacantAir$ActText", "readByte", "(I)V"⟩, 8), (⟨"VacantAir", "barredAlone", "(I)I"⟩, 6), (⟨"VacantAir$Devices", "placeOf", "(I)I"⟩, 11), (⟨"VacantAir$Devices", "comesBefore", "(II)Z"⟩, 11)]
theorem lw_r1 : ∀ q ∈ lw_privs_1, lw_okq q := List.forall_mem_cons.mpr ⟨lw_p0, List.forall_mem_cons.mpr ⟨lw_p1, List.forall_mem_cons.mpr ⟨lw_p2, List.forall_mem_cons.mpr ⟨lw_p3, List.forall_mem_cons.mpr ⟨lw_p4, List.forall_mem_cons.mpr ⟨lw_p5, List.forall_mem_cons.mpr ⟨lw_p6, List.forall_mem_cons.mpr ⟨lw_p7, List.forall_mem_cons.mpr ⟨lw_p8, List.forall_mem_cons.mpr ⟨lw_p9, List.forall_mem_cons.mpr ⟨lw_p10, List.forall_mem_cons.mpr ⟨lw_p11, List.forall_mem_cons.mpr ⟨lw_p12, List.forall_mem_cons.mpr ⟨lw_p13, List.forall_mem_cons.mpr ⟨lw_p14, List.forall_mem_cons.mpr ⟨lw_p15, fun _ h => absurd h List.not_mem_nil⟩⟩⟩⟩⟩⟩⟩⟩⟩⟩⟩⟩⟩⟩⟩⟩
theorem lw_p16 : lw_okq (⟨"VacantAirModel", "records", "()V"⟩, 13) := ⟨⟨by decide +kernel, by decide +kernel⟩, List.mem_of_getElem? (i := 677) (by decide +kernel), List.mem_of_getElem? (i := 736) (by decide +kernel), List.mem_of_getElem? (i := 737) (by decide +kernel)⟩
theorem lw_p17 : lw_okq (⟨"VacantAirModel", "reviews", "()V"⟩, 13) := ⟨⟨by decide +kernel, by decide +kernel⟩, List.mem_of_getElem? (i := 677) (by decide +kernel), List.mem_of_getElem? (i := 744) (by decide +kernel), List.mem_of_getElem? (i := 745) (by decide +kernel)⟩
theorem lw_p18 : lw_okq (⟨"VacantAirModel", "hasLease", "(I)Z"⟩, 13) := ⟨⟨by decide +kernel, by decide +kernel⟩, List.mem_of_getElem? (i := 677) (by decide +kernel), List.mem_of_getElem? (i := 748) (by decide +kernel), List.mem_of_getElem? (i := 749) (by decide +kernel)⟩
theorem lw_p19 : lw_okq (⟨"VacantAirModel", "ofDevice", "(II)I"⟩, 13) := ⟨⟨by decide +kernel, by decide +kernel⟩, List.mem_of_getElem? (i := 677) (by decide +kernel), List.mem_of_getElem? (i := 752) (by decide +kernel), List.mem_of_getElem? (i := 753) (by decide +kernel)⟩
theorem lw_p20 : lw_okq (⟨"VacantAirModel", "isLeaseAllowed", "(I)Z"⟩, 13) := ⟨⟨by decide +kernel, by decide +kernel⟩, List.mem_of_getElem? (i := 677) (by decide +kernel), List.mem_of_getElem? (i := 756) (by decide +kernel), List.mem_of_getElem? (i := 757) (by decide +kernel)⟩
theorem lw_p21 : lw_okq (⟨"VacantAirModel", "isAllowedFor", "(III)Z"⟩, 13) := ⟨⟨by decide +kernel, by decide +kernel⟩, List.mem_of_getElem? (i := 677) (by decide +kernel), List.mem_of_getElem? (i := 760) (by decide +kernel), List.mem_of_getElem? (i := 761) (by decide +kernel)⟩
theorem lw_p22 : lw_okq (⟨"VacantAirModel", "isAllowed", "(IIII)Z"⟩, 13) := ⟨⟨by decide +kernel, by decide +kernel⟩, List.mem_of_getElem? (i := 677) (by decide +kernel), List.mem_of_getElem? (i := 764) (by decide +kernel), List.mem_of_getElem? (i := 765) (by decide +kernel)⟩
theorem lw_p23 : lw_okq (⟨"VacantAirModel", "isBarred", "(IIII)Z"⟩, 13) := ⟨⟨by decide +kernel, by decide +kernel⟩, List.mem_of_getElem? (i := 677) (by decide +kernel), List.mem_of_getElem? (i := 768) (by decide +kernel), List.mem_of_getElem? (i := 769) (by decide +kernel)⟩
theorem lw_p24 : lw_okq (⟨"VacantAirModel", "isBarredBy", "(IIIII)Z"⟩, 13) := ⟨⟨by decide +kernel, by decide +kernel⟩, List.mem_of_getElem? (i := 677) (by decide +kernel), List.mem_of_getElem? (i := 772) (by decide +kernel), List.mem_of_getElem? (i := 773) (by decide +kernel)⟩
theorem lw_p25 : lw_okq (⟨"VacantAirModel", "ofStation", "(II)I"⟩, 13) := ⟨⟨by decide +kernel, by decide +kernel⟩, List.mem_of_getElem? (i := 677) (by decide +kernel), List.mem_of_getElem? (i := 776) (by decide +kernel), List.mem_of_getElem? (i := 777) (by decide +kernel)⟩
theorem lw_p26 : lw_okq (⟨"VacantAirModel", "isReserved", "(IIIII)Z"⟩, 13) := ⟨⟨by decide +kernel, by decide +kernel⟩, List.mem_of_getElem? (i := 677) (by decide +kernel), List.mem_of_getElem? (i := 789) (by decide +kernel), List.mem_of_getElem? (i := 790) (by decide +kernel)⟩
theorem lw_p27 : lw_okq (⟨"VacantAirModel", "ofEvent", "(II)I"⟩, 13) := ⟨⟨by decide +kernel, by decide +kernel⟩, List.mem_of_getElem? (i := 677) (by decide +kernel), List.mem_of_getElem? (i := 793) (by decide +kernel), List.mem_of_getElem? (i := 794) (by decide +kernel)⟩
theorem lw_p28 : lw_okq (⟨"VacantAirModel", "isOn", "(II)Z"⟩, 13) := ⟨⟨by decide +kernel, by decide +kernel⟩, List.mem_of_getElem? (i := 677) (by decide +kernel), List.mem_of_getElem? (i := 797) (by decide +kernel), List.mem_of_getElem? (i := 798) (by decide +kernel)⟩
theorem lw_p29 : lw_okq (⟨"VacantAirModel", "puts", "(III)V"⟩, 13) := ⟨⟨by decide +kernel, by decide +kernel⟩, List.mem_of_getElem? (i := 677) (by decide +kernel), List.mem_of_getElem? (i := 801) (by decide +kernel), List.mem_of_getElem? (i := 802) (by decide +kernel)⟩
theorem lw_p30 : lw_okq (⟨"VacantAirModel", "ends", "(I)V"⟩, 13) := ⟨⟨by decide +kernel, by decide +kernel⟩, List.mem_of_getElem? (i := 677) (by decide +kernel), List.mem_of_getElem? (i := 812) (by decide +kernel), List.mem_of_getElem? (i := 813) (by decide +kernel)⟩
theorem lw_p31 : lw_okq (⟨"VacantAirModel", "turns", "(II)I"⟩, 13) := ⟨⟨by decide +kernel, by decide +kernel⟩, List.mem_of_getElem? (i := 677) (by decide +kernel), List.mem_of_getElem? (i := 824) (by decide +kernel), List.mem_of_getElem? (i := 825) (by decide +kernel)⟩
def lw_privs_2 : List (MethodName × Nat) := [(⟨"VacantAirModel", "records", "()V"⟩, 13), (⟨"VacantAirModel", "reviews", "()V"⟩, 13), (⟨"VacantAirModel", "hasLease", "(I)Z"⟩, 13), (⟨"VacantAirModel", "ofDevice", "(II)I"⟩, 13), (⟨"VacantAirModel", "isLeaseAllowed", "(I)Z"⟩, 13), (⟨"VacantAirModel", "isAllowedFor", "(III)Z"⟩, 13), (⟨"VacantAirModel", "isAllowed", "(IIII)Z"⟩, 13), (⟨"VacantAirModel", "isBarred", "(IIII)Z"⟩, 13), (⟨"VacantAirModel", "isBarredBy", "(IIIII)Z"⟩, 13), (⟨"VacantAirModel", "ofStation", "(II)I"⟩, 13), (⟨"VacantAirModel", "isReserved", "(IIIII)Z"⟩, 13), (⟨"VacantAirModel", "ofEvent", "(II)I"⟩, 13), (⟨"VacantAirModel", "isOn", "(II)Z"⟩, 13), (⟨"VacantAirModel", "puts", "(III)V"⟩, 13), (⟨"VacantAirModel", "ends", "(I)V"⟩, 13), (⟨"VacantAirModel", "turns", "(II)I"⟩, 13)]
theorem lw_r2 : ∀ q ∈ lw_privs_2, lw_okq q := List.forall_mem_cons.mpr ⟨lw_p16, List.forall_mem_cons.mpr ⟨lw_p17, List.forall_mem_cons.mpr ⟨lw_p18, List.forall_mem_cons.mpr ⟨lw_p19, List.forall_mem_cons.mpr ⟨lw_p20, List.forall_mem_cons.mpr ⟨lw_p21, List.forall_mem_cons.mpr ⟨lw_p22, List.forall_mem_cons.mpr ⟨lw_p23, List.forall_mem_cons.mpr ⟨lw_p24, List.forall_mem_cons.mpr ⟨lw_p25, List.forall_mem_cons.mpr ⟨lw_p26, List.forall_mem_cons.mpr ⟨lw_p27, List.forall_mem_cons.mpr ⟨lw_p28, List.forall_mem_cons.mpr ⟨lw_p29, List.forall_mem_cons.mpr ⟨lw_p30, List.forall_mem_cons.mpr ⟨lw_p31, fun _ h => absurd h List.not_mem_nil⟩⟩⟩⟩⟩⟩⟩⟩⟩⟩⟩⟩⟩⟩⟩⟩
theorem lw_p32 : lw_okq (⟨"VacantAirModel", "isStation", "(I)Z"⟩, 13) := ⟨⟨by decide +kernel, by decide +kernel⟩, List.mem_of_getElem? (i := 677) (by decide +kernel), List.mem_of_getElem? (i := 828) (by decide +kernel), List.mem_of_getElem? (i := 829) (by decide +kernel)⟩
theorem lw_p33 : lw_okq (⟨"VacantAirModel", "notices", "()I"⟩, 13) := ⟨⟨by decide +kernel, by decide +kernel⟩, List.mem_of_getElem? (i := 677) (by decide +kernel), List.mem_of_getElem? (i := 832) (by decide +kernel), List.mem_of_getElem? (i := 833) (by decide +kernel)⟩
theorem lw_p34 : lw_okq (⟨"VacantAirModel", "isEvent", "(I)Z"⟩, 13) := ⟨⟨by decide +kernel, by decide +kernel⟩, List.mem_of_getElem? (i := 677) (by decide +kernel), List.mem_of_getElem? (i := 844) (by decide +kernel), List.mem_of_getElem? (i := 845) (by decide +kernel)⟩
theorem lw_p35 : lw_okq (⟨"VacantAirModel", "isDevice", "(I)Z"⟩, 13) := ⟨⟨by decide +kernel, by decide +kernel⟩, List.mem_of_getElem? (i := 677) (by decide +kernel), List.mem_of_getElem? (i := 852) (by decide +kernel), List.mem_of_getElem? (i := 853) (by decide +kernel)⟩
theorem lw_p36 : lw_okq (⟨"VacantAirModel", "refuses", "(I)I"⟩, 13) := ⟨⟨by decide +kernel, by decide +kernel⟩, List.mem_of_getElem? (i := 677) (by decide +kernel), List.mem_of_getElem? (i := 856) (by decide +kernel), List.mem_of_getElem? (i := 857) (by decide +kernel)⟩
theorem lw_p37 : lw_okq (⟨"VacantAirModel", "isAnyAllowed", "(II)Z"⟩, 13) := ⟨⟨by decide +kernel, by decide +kernel⟩, List.mem_of_getElem? (i := 677) (by decide +kernel), List.mem_of_getElem? (i := 860) (by decide +kernel), List.mem_of_getElem? (i := 861) (by decide +kernel)⟩
theorem lw_p38 : lw_okq (⟨"VacantAirModel", "offerFor", "(II)I"⟩, 13) := ⟨⟨by decide +kernel, by decide +kernel⟩, List.mem_of_getElem? (i := 677) (by decide +kernel), List.mem_of_getElem? (i := 864) (by decide +kernel), List.mem_of_getElem? (i := 865) (by decide +kernel)⟩
theorem lw_p39 : lw_okq (⟨"VacantAirModel", "isFree", "(III)Z"⟩, 13) := ⟨⟨by decide +kernel, by decide +kernel⟩, List.mem_of_getElem? (i := 677) (by decide +kernel), List.mem_of_getElem? (i := 868) (by decide +kernel), List.mem_of_getElem? (i := 869) (by decide +kernel)⟩
theorem lw_p40 : lw_okq (⟨"VacantAirModel", "others", "(II)I"⟩, 13) := ⟨⟨by decide +kernel, by decide +kernel⟩, List.mem_of_getElem? (i := 677) (by decide +kernel), List.mem_of_getElem? (i := 872) (by decide +kernel), List.mem_of_getElem? (i := 873) (by decide +kernel)⟩
theorem lw_p41 : lw_okq (⟨"VacantAirModel", "leasesNow", "()I"⟩, 13) := ⟨⟨by decide +kernel, by decide +kernel⟩, List.mem_of_getElem? (i := 677) (by decide +kernel), List.mem_of_getElem? (i := 884) (by decide +kernel), List.mem_of_getElem? (i := 885) (by decide +kernel)⟩
theorem lw_p42 : lw_okq (⟨"VacantAirModel", "passesOne", "()I"⟩, 13) := ⟨⟨by decide +kernel, by decide +kernel⟩, List.mem_of_getElem? (i := 677) (by decide +kernel), List.mem_of_getElem? (i := 892) (by decide +kernel), List.mem_of_getElem? (i := 893) (by decide +kernel)⟩
theorem lw_p43 : lw_okq (⟨"VacantAirModel", "asks", "(I)I"⟩, 13) := ⟨⟨by decide +kernel, by decide +kernel⟩, List.mem_of_getElem? (i := 677) (by decide +kernel), List.mem_of_getElem? (i := 896) (by decide +kernel), List.mem_of_getElem? (i := 897) (by decide +kernel)⟩
theorem lw_p44 : lw_okq (⟨"VacantAirModel", "reads", "()Z"⟩, 13) := ⟨⟨by decide +kernel, by decide +kernel⟩, List.mem_of_getElem? (i := 677) (by decide +kernel), List.mem_of_getElem? (i := 912) (by decide +kernel), List.mem_of_getElem? (i := 913) (by decide +kernel)⟩
theorem lw_p45 : lw_okq (⟨"VacantAirModel", "number", "(II)I"⟩, 13) := ⟨⟨by decide +kernel, by decide +kernel⟩, List.mem_of_getElem? (i := 677) (by decide +kernel), List.mem_of_getElem? (i := 916) (by decide +kernel), List.mem_of_getElem? (i := 917) (by decide +kernel)⟩
theorem lw_p46 : lw_okq (⟨"VacantAirModel", "isAt", "(II)Z"⟩, 13) := ⟨⟨by decide +kernel, by decide +kernel⟩, List.mem_of_getElem? (i := 677) (by decide +kernel), List.mem_of_getElem? (i := 920) (by decide +kernel), List.mem_of_getElem? (i := 921) (by decide +kernel)⟩
theorem lw_p47 : lw_okq (⟨"VacantAirModel", "takes", "(I)Z"⟩, 13) := ⟨⟨by decide +kernel, by decide +kernel⟩, List.mem_of_getElem? (i := 677) (by decide +kernel), List.mem_of_getElem? (i := 924) (by decide +kernel), List.mem_of_getElem? (i := 925) (by decide +kernel)⟩
def lw_privs_3 : List (MethodName × Nat) := [(⟨"VacantAirModel", "isStation", "(I)Z"⟩, 13), (⟨"VacantAirModel", "notices", "()I"⟩, 13), (⟨"VacantAirModel", "isEvent", "(I)Z"⟩, 13), (⟨"VacantAirModel", "isDevice", "(I)Z"⟩, 13), (⟨"VacantAirModel", "refuses", "(I)I"⟩, 13), (⟨"VacantAirModel", "isAnyAllowed", "(II)Z"⟩, 13), (⟨"VacantAirModel", "offerFor", "(II)I"⟩, 13), (⟨"VacantAirModel", "isFree", "(III)Z"⟩, 13), (⟨"VacantAirModel", "others", "(II)I"⟩, 13), (⟨"VacantAirModel", "leasesNow", "()I"⟩, 13), (⟨"VacantAirModel", "passesOne", "()I"⟩, 13), (⟨"VacantAirModel", "asks", "(I)I"⟩, 13), (⟨"VacantAirModel", "reads", "()Z"⟩, 13), (⟨"VacantAirModel", "number", "(II)I"⟩, 13), (⟨"VacantAirModel", "isAt", "(II)Z"⟩, 13), (⟨"VacantAirModel", "takes", "(I)Z"⟩, 13)]
theorem lw_r3 : ∀ q ∈ lw_privs_3, lw_okq q := List.forall_mem_cons.mpr ⟨lw_p32, List.forall_mem_cons.mpr ⟨lw_p33, List.forall_mem_cons.mpr ⟨lw_p34, List.forall_mem_cons.mpr ⟨lw_p35, List.forall_mem_cons.mpr ⟨lw_p36, List.forall_mem_cons.mpr ⟨lw_p37, List.forall_mem_cons.mpr ⟨lw_p38, List.forall_mem_cons.mpr ⟨lw_p39, List.forall_mem_cons.mpr ⟨lw_p40, List.forall_mem_cons.mpr ⟨lw_p41, List.forall_mem_cons.mpr ⟨lw_p42, List.forall_mem_cons.mpr ⟨lw_p43, List.forall_mem_cons.mpr ⟨lw_p44, List.forall_mem_cons.mpr ⟨lw_p45, List.forall_mem_cons.mpr ⟨lw_p46, List.forall_mem_cons.mpr ⟨lw_p47, fun _ h => absurd h List.not_mem_nil⟩⟩⟩⟩⟩⟩⟩⟩⟩⟩⟩⟩⟩⟩⟩⟩
theorem lw_p48 : lw_okq (⟨"VacantAirModel", "does", "(I)I"⟩, 13) := ⟨⟨by decide +kernel, by decide +kernel⟩, List.mem_of_getElem? (i := 677) (by decide +kernel), List.mem_of_getElem? (i := 933) (by decide +kernel), List.mem_of_getElem? (i := 934) (by decide +kernel)⟩
theorem lw_p49 : lw_okq (⟨"VacantAirModel", "onAccount", "(I)I"⟩, 13) := ⟨⟨by decide +kernel, by decide +kernel⟩, List.mem_of_getElem? (i := 677) (by decide +kernel), List.mem_of_getElem? (i := 958) (by decide +kernel), List.mem_of_getElem? (i := 959) (by decide +kernel)⟩
theorem lw_p50 : lw_okq (⟨"VacantAirModel", "nextAsk", "(I)I"⟩, 13) := ⟨⟨by decide +kernel, by decide +kernel⟩, List.mem_of_getElem? (i := 677) (by decide +kernel), List.mem_of_getElem? (i := 970) (by decide +kernel), List.mem_of_getElem? (i := 971) (by decide +kernel)⟩
theorem lw_p51 : lw_okq (⟨"VacantAirModel", "isAhead", "(II)Z"⟩, 13) := ⟨⟨by decide +kernel, by decide +kernel⟩, List.mem_of_getElem? (i := 677) (by decide +kernel), List.mem_of_getElem? (i := 986) (by decide +kernel), List.mem_of_getElem? (i := 987) (by decide +kernel)⟩
theorem lw_p52 : lw_okq (⟨"VacantAirModel", "awake", "()I"⟩, 13) := ⟨⟨by decide +kernel, by decide +kernel⟩, List.mem_of_getElem? (i := 677) (by decide +kernel), List.mem_of_getElem? (i := 998) (by decide +kernel), List.mem_of_getElem? (i := 999) (by decide +kernel)⟩
theorem lw_p53 : lw_okq (⟨"VacantAirModel", "sumOf", "(I)I"⟩, 13) := ⟨⟨by decide +kernel, by decide +kernel⟩, List.mem_of_getElem? (i := 677) (by decide +kernel), List.mem_of_getElem? (i := 1002) (by decide +kernel), List.mem_of_getElem? (i := 1003) (by decide +kernel)⟩
theorem lw_p54 : lw_okq (⟨"VacantAirModel", "holds", "()V"⟩, 13) := ⟨⟨by decide +kernel, by decide +kernel⟩, List.mem_of_getElem? (i := 677) (by decide +kernel), List.mem_of_getElem? (i := 1022) (by decide +kernel), List.mem_of_getElem? (i := 1023) (by decide +kernel)⟩
theorem lw_p55 : lw_okq (⟨"VacantAirModel", "lets", "()V"⟩, 13) := ⟨⟨by decide +kernel, by decide +kernel⟩, List.mem_of_getElem? (i := 677) (by decide +kernel), List.mem_of_getElem? (i := 1026) (by decide +kernel), List.mem_of_getElem? (i := 1027) (by decide +kernel)⟩
def lw_privs_4 : List (MethodName × Nat) := [(⟨"VacantAirModel", "does", "(I)I"⟩, 13), (⟨"VacantAirModel", "onAccount", "(I)I"⟩, 13), (⟨"VacantAirModel", "nextAsk", "(I)I"⟩, 13), (⟨"VacantAirModel", "isAhead", "(II)Z"⟩, 13), (⟨"VacantAirModel", "awake", "()I"⟩, 13), (⟨"VacantAirModel", "sumOf", "(I)I"⟩, 13), (⟨"VacantAirModel", "holds", "()V"⟩, 13), (⟨"VacantAirModel", "lets", "()V"⟩, 13)]
theorem lw_r4 : ∀ q ∈ lw_privs_4, lw_okq q := List.forall_mem_cons.mpr ⟨lw_p48, List.forall_mem_cons.mpr ⟨lw_p49, List.forall_mem_cons.mpr ⟨lw_p50, List.forall_mem_cons.mpr ⟨lw_p51, List.forall_mem_cons.mpr ⟨lw_p52, List.forall_mem_cons.mpr ⟨lw_p53, List.forall_mem_cons.mpr ⟨lw_p54, List.forall_mem_cons.mpr ⟨lw_p55, fun _ h => absurd h List.not_mem_nil⟩⟩⟩⟩⟩⟩⟩⟩
def lw_privs : List (MethodName × Nat) := lw_privs_1 ++ (lw_privs_2 ++ (lw_privs_3 ++ (lw_privs_4)))
def lw_tbl : List Cond := k2_sels lw_privs ++ tables_1
theorem lw_privs_ok : ∀ q ∈ lw_privs, lw_okq q := by
  show ∀ q ∈ lw_privs_1 ++ (lw_privs_2 ++ (lw_privs_3 ++ (lw_privs_4))), lw_okq q
  exact List.forall_mem_append.mpr ⟨lw_r1, List.forall_mem_append.mpr ⟨lw_r2, List.forall_mem_append.mpr ⟨lw_r3, lw_r4⟩⟩⟩
/-! ===== BEGIN words of one list among another's, by their places ===== -/
theorem goodIn_r {big : List Cond} (ws : List Cond) (ps : List Nat) (hp : ws = ps.filterMap (fun i => big[i]?)) (h : ws.all goodWord = true) : GoodIn big ws := by
  intro w hw
  have h1 := List.all_eq_true.mp h w hw
  rw [hp] at hw
  obtain ⟨i, -, hi⟩ := List.mem_filterMap.mp hw
  have hm : w ∈ big := by first | exact List.mem_of_getElem? hi | exact List.getElem?_mem hi
  exact ⟨hm, good_of_word h1⟩
theorem goodIn_app {big a b : List Cond} (ha : GoodIn big a) (hb : GoodIn big b) : GoodIn big (a ++ b) := fun w h => (List.mem_append.mp h).elim (ha w) (hb w)
theorem goodIn_ca {big a b : List Cond} {c : Cond} (ha : GoodIn big (c :: a)) (hb : GoodIn big b) : GoodIn big (c :: (a ++ b)) := fun w h => (List.mem_cons.mp h).elim (fun e => ha w (List.mem_cons.mpr (Or.inl e))) (fun h => (List.mem_append.mp h).elim (fun h => ha w (List.mem_cons.mpr (Or.inr h))) (hb w))
theorem goodIn_sub {big ws : List Cond} (hm : ∀ w ∈ ws, w ∈ big) (h : ws.all goodWord = true) : GoodIn big ws := fun w hw => ⟨hm w hw, good_of_word (List.all_eq_true.mp h w hw)⟩
/-! ===== END ===== -/

/-! ===== BEGIN printed: names, fields, word lists, decode rows ===== -/
def RX0 : String := "VacantAir$ActText"
def TX0 : u_T := fun k => match k with
  | 0 => ("VacantAir$ActText", "bytes", "[I", true)
  | 1 => ("VacantAir$ActText", "length", "I", false)
  | 2 => ("VacantAir$ActText", "place", "I", false)
  | 3 => ("VacantAir$ActText", "fault", "I", false)
  | 4 => ("VacantAir$ActText", "kind", "I", false)
  | 5 => ("VacantAir$ActText", "first", "I", false)
  | 6 => ("VacantAir$ActText", "second", "I", false)
  | _ => ("VacantAir$ActText", "third", "I", false)
def tyX0 : Nat → FieldType := fun k => match k with
  | 0 => .array .int
  | 1 => .int
  | 2 => .int
  | 3 => .int
  | 4 => .int
  | 5 => .int
  | 6 => .int
  | _ => .int
abbrev wsX00 : List Cond := u_ws RX0 TX0 8
theorem nmX0 : ∀ a, a < 8 → ∀ b, b < 8 → a ≠ b → (TX0 a).2.1 ≠ (TX0 b).2.1 := by decide +kernel
theorem tyX0_ok : ∀ k, k < 8 → parseFieldDescriptor (TX0 k).2.2.1 = some (tyX0 k) := by decide +kernel
abbrev cX0_init : ByteArray := prog_2_method_1_code
def yX0_init : MethodName := ⟨RX0, "<init>", "()V"⟩
abbrev cX0_add : ByteArray := prog_2_method_2_code
def yX0_add : MethodName := ⟨RX0, "add", "(I)I"⟩
abbrev cX0_empty : ByteArray := prog_2_method_3_code
def yX0_empty : MethodName := ⟨RX0, "empty", "()I"⟩
abbrev cX0_findFault : ByteArray := prog_2_method_4_code
def yX0_findFault : MethodName := ⟨RX0, "findFault", "()I"⟩
abbrev cX0_startReading : ByteArray := prog_2_method_5_code
def yX0_startReading : MethodName := ⟨RX0, "startReading", "()V"⟩
abbrev cX0_hasMore : ByteArray := prog_2_method_6_code
def yX0_hasMore : MethodName := ⟨RX0, "hasMore", "()Z"⟩
abbrev cX0_readAct : ByteArray := prog_2_method_7_code
def yX0_readAct : MethodName := ⟨RX0, "readAct", "()V"⟩
abbrev cX0_readByte : ByteArray := prog_2_method_8_code
def yX0_readByte : MethodName := ⟨RX0, "readByte", "(I)V"⟩
abbrev cX0_readNumber : ByteArray := prog_2_method_9_code
def yX0_readNumber : MethodName := ⟨RX0, "readNumber", "(II)I"⟩
abbrev cX0_isDigitAt : ByteArray := prog_2_method_10_code
def yX0_isDigitAt : MethodName := ⟨RX0, "isDigitAt", "(I)Z"⟩
def RX1 : String := "VacantAir$Devices"
def TX1 : u_T := fun k => match k with
  | 0 => ("VacantAir$Devices", "x", "[I", true)
  | 1 => ("VacantAir$Devices", "y", "[I", true)
  | 2 => ("VacantAir$Devices", "greatest", "[I", true)
  | 3 => ("VacantAir$Devices", "channel", "[I", true)
  | 4 => ("VacantAir$Devices", "power", "[I", true)
  | 5 => ("VacantAir$Devices", "end", "[I", true)
  | 6 => ("VacantAir$Devices", "notice", "[I", true)
  | 7 => ("VacantAir$Devices", "hops", "[I", true)
  | 8 => ("VacantAir$Devices", "struck", "[I", true)
  | 9 => ("VacantAir$Devices", "cut", "[I", true)
  | _ => ("VacantAir$Devices", "count", "I", false)
def tyX1 : Nat → FieldType := fun k => match k with
  | 0 => .array .int
  | 1 => .array .int
  | 2 => .array .int
  | 3 => .array .int
  | 4 => .array .int
  | 5 => .array .int
  | 6 => .array .int
  | 7 => .array .int
  | 8 => .array .int
  | 9 => .array .int
  | _ => .int
abbrev wsX10 : List Cond := u_ws RX1 TX1 11
theorem nmX1 : ∀ a, a < 11 → ∀ b, b < 11 → a ≠ b → (TX1 a).2.1 ≠ (TX1 b).2.1 := by decide +kernel
theorem tyX1_ok : ∀ k, k < 11 → parseFieldDescriptor (TX1 k).2.2.1 = some (tyX1 k) := by decide +kernel
abbrev cX1_init : ByteArray := prog_3_method_1_code
def yX1_init : MethodName := ⟨RX1, "<init>", "()V"⟩
abbrev cX1_has : ByteArray := prog_3_method_2_code
def yX1_has : MethodName := ⟨RX1, "has", "(I)Z"⟩
abbrev cX1_hasLease : ByteArray := prog_3_method_3_code
def yX1_hasLease : MethodName := ⟨RX1, "hasLease", "(I)Z"⟩
abbrev cX1_hasNotice : ByteArray := prog_3_method_4_code
def yX1_hasNotice : MethodName := ⟨RX1, "hasNotice", "(I)Z"⟩
abbrev cX1_putOn : ByteArray := prog_3_method_5_code
def yX1_putOn : MethodName := ⟨RX1, "putOn", "(III)V"⟩
abbrev cX1_removeLease : ByteArray := prog_3_method_6_code
def yX1_removeLease : MethodName := ⟨RX1, "removeLease", "(I)V"⟩
abbrev cX1_tell : ByteArray := prog_3_method_7_code
def yX1_tell : MethodName := ⟨RX1, "tell", "(II)I"⟩
abbrev cX1_countLeases : ByteArray := prog_3_method_8_code
def yX1_countLeases : MethodName := ⟨RX1, "countLeases", "()I"⟩
abbrev cX1_countOn : ByteArray := prog_3_method_9_code
def yX1_countOn : MethodName := ⟨RX1, "countOn", "(I)I"⟩
abbrev cX1_countNotices : ByteArray := prog_3_method_10_code
def yX1_countNotices : MethodName := ⟨RX1, "countNotices", "()I"⟩
abbrev cX1_sumOf : ByteArray := prog_3_method_11_code
def yX1_sumOf : MethodName := ⟨RX1, "sumOf", "([I)I"⟩
abbrev cX1_atPlace : ByteArray := prog_3_method_12_code
def yX1_atPlace : MethodName := ⟨RX1, "atPlace", "(I)I"⟩
abbrev cX1_placeOf : ByteArray := prog_3_method_13_code
def yX1_placeOf : MethodName := ⟨RX1, "placeOf", "(I)I"⟩
abbrev cX1_comesBefore : ByteArray := prog_3_method_14_code
def yX1_comesBefore : MethodName := ⟨RX1, "comesBefore", "(II)Z"⟩
abbrev cX1_copyFrom : ByteArray := prog_3_method_15_code
def yX1_copyFrom : MethodName := ⟨RX1, "copyFrom", "(LVacantAir$Devices;)V"⟩
def RX2 : String := "VacantAir$Events"
def TX2 : u_T := fun k => match k with
  | 0 => ("VacantAir$Events", "x", "[I", true)
  | 1 => ("VacantAir$Events", "y", "[I", true)
  | 2 => ("VacantAir$Events", "radius", "[I", true)
  | 3 => ("VacantAir$Events", "channel", "[I", true)
  | 4 => ("VacantAir$Events", "from", "[I", true)
  | 5 => ("VacantAir$Events", "to", "[I", true)
  | 6 => ("VacantAir$Events", "cancelled", "[I", true)
  | _ => ("VacantAir$Events", "count", "I", false)
def tyX2 : Nat → FieldType := fun k => match k with
  | 0 => .array .int
  | 1 => .array .int
  | 2 => .array .int
  | 3 => .array .int
  | 4 => .array .int
  | 5 => .array .int
  | 6 => .array .int
  | _ => .int
abbrev wsX20 : List Cond := u_ws RX2 TX2 8
theorem nmX2 : ∀ a, a < 8 → ∀ b, b < 8 → a ≠ b → (TX2 a).2.1 ≠ (TX2 b).2.1 := by decide +kernel
theorem tyX2_ok : ∀ k, k < 8 → parseFieldDescriptor (TX2 k).2.2.1 = some (tyX2 k) := by decide +kernel
abbrev cX2_init : ByteArray := prog_4_method_1_code
def yX2_init : MethodName := ⟨RX2, "<init>", "()V"⟩
abbrev cX2_has : ByteArray := prog_4_method_2_code
def yX2_has : MethodName := ⟨RX2, "has", "(I)Z"⟩
abbrev cX2_isOn : ByteArray := prog_4_method_3_code
def yX2_isOn : MethodName := ⟨RX2, "isOn", "(II)Z"⟩
abbrev cX2_tell : ByteArray := prog_4_method_4_code
def yX2_tell : MethodName := ⟨RX2, "tell", "(III)I"⟩
abbrev cX2_copyFrom : ByteArray := prog_4_method_5_code
def yX2_copyFrom : MethodName := ⟨RX2, "copyFrom", "(LVacantAir$Events;)V"⟩
def RX3 : String := "VacantAir$History"
def TX3 : u_T := fun k => match k with
  | 0 => ("VacantAir$History", "ring", "[LVacantAir$State;", true)
  | 1 => ("VacantAir$History", "oldest", "I", false)
  | _ => ("VacantAir$History", "count", "I", false)
def tyX3 : Nat → FieldType := fun k => match k with
  | 0 => .array (.object "VacantAir$State")
  | 1 => .int
  | _ => .int
abbrev wsX30 : List Cond := u_ws RX3 TX3 3
theorem nmX3 : ∀ a, a < 3 → ∀ b, b < 3 → a ≠ b → (TX3 a).2.1 ≠ (TX3 b).2.1 := by decide +kernel
theorem tyX3_ok : ∀ k, k < 3 → parseFieldDescriptor (TX3 k).2.2.1 = some (tyX3 k) := by decide +kernel
abbrev cX3_init : ByteArray := prog_5_method_1_code
def yX3_init : MethodName := ⟨RX3, "<init>", "()V"⟩
abbrev cX3_note : ByteArray := prog_5_method_2_code
def yX3_note : MethodName := ⟨RX3, "note", "(LVacantAir$State;)V"⟩
abbrev cX3_keepNoted : ByteArray := prog_5_method_3_code
def yX3_keepNoted : MethodName := ⟨RX3, "keepNoted", "()V"⟩
abbrev cX3_takeLatest : ByteArray := prog_5_method_4_code
def yX3_takeLatest : MethodName := ⟨RX3, "takeLatest", "(LVacantAir$State;)V"⟩
def RX4 : String := "VacantAir$State"
def TX4 : u_T := fun k => match k with
  | 0 => ("VacantAir$State", "stations", "LVacantAir$Stations;", true)
  | 1 => ("VacantAir$State", "events", "LVacantAir$Events;", true)
  | 2 => ("VacantAir$State", "devices", "LVacantAir$Devices;", true)
  | 3 => ("VacantAir$State", "settings", "[I", true)
  | 4 => ("VacantAir$State", "hour", "I", false)
  | _ => ("VacantAir$State", "reason", "I", false)
def tyX4 : Nat → FieldType := fun k => match k with
  | 0 => .object "VacantAir$Stations"
  | 1 => .object "VacantAir$Events"
  | 2 => .object "VacantAir$Devices"
  | 3 => .array .int
  | 4 => .int
  | _ => .int
abbrev wsX40 : List Cond := u_ws RX4 TX4 6
theorem nmX4 : ∀ a, a < 6 → ∀ b, b < 6 → a ≠ b → (TX4 a).2.1 ≠ (TX4 b).2.1 := by decide +kernel
theorem tyX4_ok : ∀ k, k < 6 → parseFieldDescriptor (TX4 k).2.2.1 = some (tyX4 k) := by decide +kernel
abbrev cX4_init : ByteArray := prog_6_method_1_code
def yX4_init : MethodName := ⟨RX4, "<init>", "()V"⟩
abbrev cX4_copyFrom : ByteArray := prog_6_method_2_code
def yX4_copyFrom : MethodName := ⟨RX4, "copyFrom", "(LVacantAir$State;)V"⟩
abbrev cX4_putStation : ByteArray := prog_6_method_3_code
def yX4_putStation : MethodName := ⟨RX4, "putStation", "(IIII)I"⟩
abbrev cX4_putEvent : ByteArray := prog_6_method_4_code
def yX4_putEvent : MethodName := ⟨RX4, "putEvent", "(IIIIII)I"⟩
abbrev cX4_putDevice : ByteArray := prog_6_method_5_code
def yX4_putDevice : MethodName := ⟨RX4, "putDevice", "(III)I"⟩
abbrev cX4_change : ByteArray := prog_6_method_6_code
def yX4_change : MethodName := ⟨RX4, "change", "(II)I"⟩
abbrev cX4_turnStation : ByteArray := prog_6_method_7_code
def yX4_turnStation : MethodName := ⟨RX4, "turnStation", "(II)I"⟩
abbrev cX4_callOff : ByteArray := prog_6_method_8_code
def yX4_callOff : MethodName := ⟨RX4, "callOff", "(I)I"⟩
abbrev cX4_makeLease : ByteArray := prog_6_method_9_code
def yX4_makeLease : MethodName := ⟨RX4, "makeLease", "(III)I"⟩
abbrev cX4_prolongLease : ByteArray := prog_6_method_10_code
def yX4_prolongLease : MethodName := ⟨RX4, "prolongLease", "(II)I"⟩
abbrev cX4_dropLease : ByteArray := prog_6_method_11_code
def yX4_dropLease : MethodName := ⟨RX4, "dropLease", "(I)I"⟩
abbrev cX4_passHours : ByteArray := prog_6_method_12_code
def yX4_passHours : MethodName := ⟨RX4, "passHours", "(I)I"⟩
abbrev cX4_passOneHour : ByteArray := prog_6_method_13_code
def yX4_passOneHour : MethodName := ⟨RX4, "passOneHour", "()I"⟩
abbrev cX4_endLeases : ByteArray := prog_6_method_14_code
def yX4_endLeases : MethodName := ⟨RX4, "endLeases", "()V"⟩
abbrev cX4_review : ByteArray := prog_6_method_15_code
def yX4_review : MethodName := ⟨RX4, "review", "()V"⟩
abbrev cX4_cutLeases : ByteArray := prog_6_method_16_code
def yX4_cutLeases : MethodName := ⟨RX4, "cutLeases", "()V"⟩
abbrev cX4_asksNow : ByteArray := prog_6_method_17_code
def yX4_asksNow : MethodName := ⟨RX4, "asksNow", "(I)Z"⟩
abbrev cX4_nextAsking : ByteArray := prog_6_method_18_code
def yX4_nextAsking : MethodName := ⟨RX4, "nextAsking", "(I)I"⟩
abbrev cX4_hopOrStrike : ByteArray := prog_6_method_19_code
def yX4_hopOrStrike : MethodName := ⟨RX4, "hopOrStrike", "(I)I"⟩
abbrev cX4_refusal : ByteArray := prog_6_method_20_code
def yX4_refusal : MethodName := ⟨RX4, "refusal", "(II)I"⟩
abbrev cX4_isAllowedOnAny : ByteArray := prog_6_method_21_code
def yX4_isAllowedOnAny : MethodName := ⟨RX4, "isAllowedOnAny", "(II)Z"⟩
abbrev cX4_findOffer : ByteArray := prog_6_method_22_code
def yX4_findOffer : MethodName := ⟨RX4, "findOffer", "(II)I"⟩
abbrev cX4_isFree : ByteArray := prog_6_method_23_code
def yX4_isFree : MethodName := ⟨RX4, "isFree", "(III)Z"⟩
abbrev cX4_leaseIsAllowed : ByteArray := prog_6_method_24_code
def yX4_leaseIsAllowed : MethodName := ⟨RX4, "leaseIsAllowed", "(I)Z"⟩
abbrev cX4_isAllowed : ByteArray := prog_6_method_25_code
def yX4_isAllowed : MethodName := ⟨RX4, "isAllowed", "(IIII)Z"⟩
abbrev cX4_barredRadius : ByteArray := prog_6_method_26_code
def yX4_barredRadius : MethodName := ⟨RX4, "barredRadius", "(II)I"⟩
abbrev cX4_tellTotal : ByteArray := prog_6_method_27_code
def yX4_tellTotal : MethodName := ⟨RX4, "tellTotal", "(I)I"⟩
def RX5 : String := "VacantAir$Stations"
def TX5 : u_T := fun k => match k with
  | 0 => ("VacantAir$Stations", "x", "[I", true)
  | 1 => ("VacantAir$Stations", "y", "[I", true)
  | 2 => ("VacantAir$Stations", "channel", "[I", true)
  | 3 => ("VacantAir$Stations", "powerClass", "[I", true)
  | 4 => ("VacantAir$Stations", "awake", "[I", true)
  | _ => ("VacantAir$Stations", "count", "I", false)
def tyX5 : Nat → FieldType := fun k => match k with
  | 0 => .array .int
  | 1 => .array .int
  | 2 => .array .int
  | 3 => .array .int
  | 4 => .array .int
  | _ => .int
abbrev wsX50 : List Cond := u_ws RX5 TX5 6
theorem nmX5 : ∀ a, a < 6 → ∀ b, b < 6 → a ≠ b → (TX5 a).2.1 ≠ (TX5 b).2.1 := by decide +kernel
theorem tyX5_ok : ∀ k, k < 6 → parseFieldDescriptor (TX5 k).2.2.1 = some (tyX5 k) := by decide +kernel
abbrev cX5_init : ByteArray := prog_7_method_1_code
def yX5_init : MethodName := ⟨RX5, "<init>", "()V"⟩
abbrev cX5_has : ByteArray := prog_7_method_2_code
def yX5_has : MethodName := ⟨RX5, "has", "(I)Z"⟩
abbrev cX5_tell : ByteArray := prog_7_method_3_code
def yX5_tell : MethodName := ⟨RX5, "tell", "(II)I"⟩
abbrev cX5_countAwake : ByteArray := prog_7_method_4_code
def yX5_countAwake : MethodName := ⟨RX5, "countAwake", "()I"⟩
abbrev cX5_copyFrom : ByteArray := prog_7_method_5_code
def yX5_copyFrom : MethodName := ⟨RX5, "copyFrom", "(LVacantAir$Stations;)V"⟩
def RX6 : String := "VacantAir"
def TX6 : u_T := fun k => match k with
  | 0 => ("VacantAir", "present", "LVacantAir$State;", true)
  | 1 => ("VacantAir", "trial", "LVacantAir$State;", true)
  | 2 => ("VacantAir", "history", "LVacantAir$History;", true)
  | 3 => ("VacantAir", "slots", "[LVacantAir$State;", true)
  | 4 => ("VacantAir", "slotHolds", "[Z", true)
  | _ => ("VacantAir", "text", "LVacantAir$ActText;", true)
def tyX6 : Nat → FieldType := fun k => match k with
  | 0 => .object "VacantAir$State"
  | 1 => .object "VacantAir$State"
  | 2 => .object "VacantAir$History"
  | 3 => .array (.object "VacantAir$State")
  | 4 => .array .boolean
  | _ => .object "VacantAir$ActText"
abbrev wsX60 : List Cond := u_ws RX6 TX6 6
theorem nmX6 : ∀ a, a < 6 → ∀ b, b < 6 → a ≠ b → (TX6 a).2.1 ≠ (TX6 b).2.1 := by decide +kernel
theorem tyX6_ok : ∀ k, k < 6 → parseFieldDescriptor (TX6 k).2.2.1 = some (tyX6 k) := by decide +kernel
abbrev cX6_init : ByteArray := prog_1_method_1_code
def yX6_init : MethodName := ⟨RX6, "<init>", "()V"⟩
abbrev cX6_addStation : ByteArray := prog_1_method_2_code
def yX6_addStation : MethodName := ⟨RX6, "addStation", "(IIII)I"⟩
abbrev cX6_addEvent : ByteArray := prog_1_method_3_code
def yX6_addEvent : MethodName := ⟨RX6, "addEvent", "(IIIIII)I"⟩
abbrev cX6_addDevice : ByteArray := prog_1_method_4_code
def yX6_addDevice : MethodName := ⟨RX6, "addDevice", "(III)I"⟩
abbrev cX6_set : ByteArray := prog_1_method_5_code
def yX6_set : MethodName := ⟨RX6, "set", "(II)I"⟩
abbrev cX6_wake : ByteArray := prog_1_method_6_code
def yX6_wake : MethodName := ⟨RX6, "wake", "(I)I"⟩
abbrev cX6_sleep : ByteArray := prog_1_method_7_code
def yX6_sleep : MethodName := ⟨RX6, "sleep", "(I)I"⟩
abbrev cX6_cancel : ByteArray := prog_1_method_8_code
def yX6_cancel : MethodName := ⟨RX6, "cancel", "(I)I"⟩
abbrev cX6_lease : ByteArray := prog_1_method_9_code
def yX6_lease : MethodName := ⟨RX6, "lease", "(III)I"⟩
abbrev cX6_renew : ByteArray := prog_1_method_10_code
def yX6_renew : MethodName := ⟨RX6, "renew", "(II)I"⟩
abbrev cX6_giveBack : ByteArray := prog_1_method_11_code
def yX6_giveBack : MethodName := ⟨RX6, "giveBack", "(I)I"⟩
abbrev cX6_pass : ByteArray := prog_1_method_12_code
def yX6_pass : MethodName := ⟨RX6, "pass", "(I)I"⟩
abbrev cX6_append : ByteArray := prog_1_method_13_code
def yX6_append : MethodName := ⟨RX6, "append", "(I)I"⟩
abbrev cX6_clearText : ByteArray := prog_1_method_14_code
def yX6_clearText : MethodName := ⟨RX6, "clearText", "()I"⟩
abbrev cX6_faultPosition : ByteArray := prog_1_method_15_code
def yX6_faultPosition : MethodName := ⟨RX6, "faultPosition", "()I"⟩
abbrev cX6_run : ByteArray := prog_1_method_16_code
def yX6_run : MethodName := ⟨RX6, "run", "()I"⟩
abbrev cX6_undo : ByteArray := prog_1_method_17_code
def yX6_undo : MethodName := ⟨RX6, "undo", "()I"⟩
abbrev cX6_save : ByteArray := prog_1_method_18_code
def yX6_save : MethodName := ⟨RX6, "save", "(I)I"⟩
abbrev cX6_restore : ByteArray := prog_1_method_19_code
def yX6_restore : MethodName := ⟨RX6, "restore", "(I)I"⟩
abbrev cX6_station : ByteArray := prog_1_method_20_code
def yX6_station : MethodName := ⟨RX6, "station", "(II)I"⟩
abbrev cX6_event : ByteArray := prog_1_method_21_code
def yX6_event : MethodName := ⟨RX6, "event", "(II)I"⟩
abbrev cX6_device : ByteArray := prog_1_method_22_code
def yX6_device : MethodName := ⟨RX6, "device", "(II)I"⟩
abbrev cX6_power : ByteArray := prog_1_method_23_code
def yX6_power : MethodName := ⟨RX6, "power", "(III)I"⟩
abbrev cX6_offer : ByteArray := prog_1_method_24_code
def yX6_offer : MethodName := ⟨RX6, "offer", "(II)I"⟩
abbrev cX6_next : ByteArray := prog_1_method_25_code
def yX6_next : MethodName := ⟨RX6, "next", "(I)I"⟩
abbrev cX6_leases : ByteArray := prog_1_method_26_code
def yX6_leases : MethodName := ⟨RX6, "leases", "(I)I"⟩
abbrev cX6_total : ByteArray := prog_1_method_27_code
def yX6_total : MethodName := ⟨RX6, "total", "(I)I"⟩
abbrev cX6_vacant : ByteArray := prog_1_method_28_code
def yX6_vacant : MethodName := ⟨RX6, "vacant", "(II)I"⟩
abbrev cX6_allowedFrom : ByteArray := prog_1_method_29_code
def yX6_allowedFrom : MethodName := ⟨RX6, "allowedFrom", "(IIII)I"⟩
abbrev cX6_wouldStrike : ByteArray := prog_1_method_30_code
def yX6_wouldStrike : MethodName := ⟨RX6, "wouldStrike", "(I)I"⟩
abbrev cX6_channelIn : ByteArray := prog_1_method_31_code
def yX6_channelIn : MethodName := ⟨RX6, "channelIn", "(II)I"⟩
abbrev cX6_clearIn : ByteArray := prog_1_method_32_code
def yX6_clearIn : MethodName := ⟨RX6, "clearIn", "()I"⟩
abbrev cX6_recorded : ByteArray := prog_1_method_33_code
def yX6_recorded : MethodName := ⟨RX6, "recorded", "(I)I"⟩
abbrev cX6_barredAlone : ByteArray := prog_1_method_34_code
def yX6_barredAlone : MethodName := ⟨RX6, "barredAlone", "(I)I"⟩
abbrev cX6_isOutside : ByteArray := prog_1_method_35_code
def yX6_isOutside : MethodName := ⟨RX6, "isOutside", "(III)Z"⟩
abbrev cX6_isNoPlace : ByteArray := prog_1_method_36_code
def yX6_isNoPlace : MethodName := ⟨RX6, "isNoPlace", "(II)Z"⟩
abbrev cX6_isWithin : ByteArray := prog_1_method_37_code
def yX6_isWithin : MethodName := ⟨RX6, "isWithin", "(III)Z"⟩
abbrev cX6_copyRow : ByteArray := prog_1_method_38_code
def yX6_copyRow : MethodName := ⟨RX6, "copyRow", "([I[I)V"⟩
def RX7 : String := "VacantAirModel"
def TX7 : u_T := fun k => match k with
  | 0 => ("VacantAirModel", "s", "[I", true)
  | 1 => ("VacantAirModel", "past", "[I", true)
  | 2 => ("VacantAirModel", "slots", "[I", true)
  | 3 => ("VacantAirModel", "isKept", "[Z", true)
  | 4 => ("VacantAirModel", "held", "[I", true)
  | 5 => ("VacantAirModel", "pasts", "I", false)
  | 6 => ("VacantAirModel", "runs", "Z", false)
  | 7 => ("VacantAirModel", "text", "[I", true)
  | 8 => ("VacantAirModel", "typed", "I", false)
  | 9 => ("VacantAirModel", "at", "I", false)
  | 10 => ("VacantAirModel", "first", "I", false)
  | 11 => ("VacantAirModel", "second", "I", false)
  | _ => ("VacantAirModel", "third", "I", false)
def tyX7 : Nat → FieldType := fun k => match k with
  | 0 => .array .int
  | 1 => .array .int
  | 2 => .array .int
  | 3 => .array .boolean
  | 4 => .array .int
  | 5 => .int
  | 6 => .boolean
  | 7 => .array .int
  | 8 => .int
  | 9 => .int
  | 10 => .int
  | 11 => .int
  | _ => .int
abbrev wsX70 : List Cond := u_ws RX7 TX7 13
theorem nmX7 : ∀ a, a < 13 → ∀ b, b < 13 → a ≠ b → (TX7 a).2.1 ≠ (TX7 b).2.1 := by decide +kernel
theorem tyX7_ok : ∀ k, k < 13 → parseFieldDescriptor (TX7 k).2.2.1 = some (tyX7 k) := by decide +kernel
abbrev cX7_init : ByteArray := prog_9_method_1_code
def yX7_init : MethodName := ⟨RX7, "<init>", "()V"⟩
abbrev cX7_in : ByteArray := prog_9_method_3_code
def yX7_in : MethodName := ⟨RX7, "in", "(III)Z"⟩
abbrev cX7_records : ByteArray := prog_9_method_4_code
def yX7_records : MethodName := ⟨RX7, "records", "()V"⟩
abbrev cX7_holds : ByteArray := prog_9_method_5_code
def yX7_holds : MethodName := ⟨RX7, "holds", "()V"⟩
abbrev cX7_lets : ByteArray := prog_9_method_6_code
def yX7_lets : MethodName := ⟨RX7, "lets", "()V"⟩
abbrev cX7_isStation : ByteArray := prog_9_method_7_code
def yX7_isStation : MethodName := ⟨RX7, "isStation", "(I)Z"⟩
abbrev cX7_isEvent : ByteArray := prog_9_method_8_code
def yX7_isEvent : MethodName := ⟨RX7, "isEvent", "(I)Z"⟩
abbrev cX7_isDevice : ByteArray := prog_9_method_9_code
def yX7_isDevice : MethodName := ⟨RX7, "isDevice", "(I)Z"⟩
abbrev cX7_ofStation : ByteArray := prog_9_method_10_code
def yX7_ofStation : MethodName := ⟨RX7, "ofStation", "(II)I"⟩
abbrev cX7_ofEvent : ByteArray := prog_9_method_11_code
def yX7_ofEvent : MethodName := ⟨RX7, "ofEvent", "(II)I"⟩
abbrev cX7_ofDevice : ByteArray := prog_9_method_12_code
def yX7_ofDevice : MethodName := ⟨RX7, "ofDevice", "(II)I"⟩
abbrev cX7_puts : ByteArray := prog_9_method_13_code
def yX7_puts : MethodName := ⟨RX7, "puts", "(III)V"⟩
abbrev cX7_isPlace : ByteArray := prog_9_method_14_code
def yX7_isPlace : MethodName := ⟨RX7, "isPlace", "(II)Z"⟩
abbrev cX7_isChannel : ByteArray := prog_9_method_15_code
def yX7_isChannel : MethodName := ⟨RX7, "isChannel", "(I)Z"⟩
abbrev cX7_isPower : ByteArray := prog_9_method_16_code
def yX7_isPower : MethodName := ⟨RX7, "isPower", "(I)Z"⟩
abbrev cX7_radiusOf : ByteArray := prog_9_method_17_code
def yX7_radiusOf : MethodName := ⟨RX7, "radiusOf", "(I)I"⟩
abbrev cX7_reach : ByteArray := prog_9_method_18_code
def yX7_reach : MethodName := ⟨RX7, "reach", "(I)I"⟩
abbrev cX7_isNear : ByteArray := prog_9_method_19_code
def yX7_isNear : MethodName := ⟨RX7, "isNear", "(IIIII)Z"⟩
abbrev cX7_isBarredBy : ByteArray := prog_9_method_20_code
def yX7_isBarredBy : MethodName := ⟨RX7, "isBarredBy", "(IIIII)Z"⟩
abbrev cX7_isOn : ByteArray := prog_9_method_21_code
def yX7_isOn : MethodName := ⟨RX7, "isOn", "(II)Z"⟩
abbrev cX7_isBarred : ByteArray := prog_9_method_22_code
def yX7_isBarred : MethodName := ⟨RX7, "isBarred", "(IIII)Z"⟩
abbrev cX7_isReserved : ByteArray := prog_9_method_23_code
def yX7_isReserved : MethodName := ⟨RX7, "isReserved", "(IIIII)Z"⟩
abbrev cX7_isAllowed : ByteArray := prog_9_method_24_code
def yX7_isAllowed : MethodName := ⟨RX7, "isAllowed", "(IIII)Z"⟩
abbrev cX7_isAllowedFor : ByteArray := prog_9_method_25_code
def yX7_isAllowedFor : MethodName := ⟨RX7, "isAllowedFor", "(III)Z"⟩
abbrev cX7_hasLease : ByteArray := prog_9_method_26_code
def yX7_hasLease : MethodName := ⟨RX7, "hasLease", "(I)Z"⟩
abbrev cX7_isFree : ByteArray := prog_9_method_27_code
def yX7_isFree : MethodName := ⟨RX7, "isFree", "(III)Z"⟩
abbrev cX7_others : ByteArray := prog_9_method_28_code
def yX7_others : MethodName := ⟨RX7, "others", "(II)I"⟩
abbrev cX7_offerFor : ByteArray := prog_9_method_29_code
def yX7_offerFor : MethodName := ⟨RX7, "offerFor", "(II)I"⟩
abbrev cX7_isLeaseAllowed : ByteArray := prog_9_method_30_code
def yX7_isLeaseAllowed : MethodName := ⟨RX7, "isLeaseAllowed", "(I)Z"⟩
abbrev cX7_reviews : ByteArray := prog_9_method_31_code
def yX7_reviews : MethodName := ⟨RX7, "reviews", "()V"⟩
abbrev cX7_ends : ByteArray := prog_9_method_32_code
def yX7_ends : MethodName := ⟨RX7, "ends", "(I)V"⟩
abbrev cX7_notices : ByteArray := prog_9_method_33_code
def yX7_notices : MethodName := ⟨RX7, "notices", "()I"⟩
abbrev cX7_leasesNow : ByteArray := prog_9_method_34_code
def yX7_leasesNow : MethodName := ⟨RX7, "leasesNow", "()I"⟩
abbrev cX7_asks : ByteArray := prog_9_method_35_code
def yX7_asks : MethodName := ⟨RX7, "asks", "(I)I"⟩
abbrev cX7_passesOne : ByteArray := prog_9_method_36_code
def yX7_passesOne : MethodName := ⟨RX7, "passesOne", "()I"⟩
abbrev cX7_addStation : ByteArray := prog_9_method_37_code
def yX7_addStation : MethodName := ⟨RX7, "addStation", "(IIII)I"⟩
abbrev cX7_addEvent : ByteArray := prog_9_method_38_code
def yX7_addEvent : MethodName := ⟨RX7, "addEvent", "(IIIIII)I"⟩
abbrev cX7_addDevice : ByteArray := prog_9_method_39_code
def yX7_addDevice : MethodName := ⟨RX7, "addDevice", "(III)I"⟩
abbrev cX7_set : ByteArray := prog_9_method_40_code
def yX7_set : MethodName := ⟨RX7, "set", "(II)I"⟩
abbrev cX7_turns : ByteArray := prog_9_method_41_code
def yX7_turns : MethodName := ⟨RX7, "turns", "(II)I"⟩
abbrev cX7_wake : ByteArray := prog_9_method_42_code
def yX7_wake : MethodName := ⟨RX7, "wake", "(I)I"⟩
abbrev cX7_sleep : ByteArray := prog_9_method_43_code
def yX7_sleep : MethodName := ⟨RX7, "sleep", "(I)I"⟩
abbrev cX7_cancel : ByteArray := prog_9_method_44_code
def yX7_cancel : MethodName := ⟨RX7, "cancel", "(I)I"⟩
abbrev cX7_refuses : ByteArray := prog_9_method_45_code
def yX7_refuses : MethodName := ⟨RX7, "refuses", "(I)I"⟩
abbrev cX7_isAnyAllowed : ByteArray := prog_9_method_46_code
def yX7_isAnyAllowed : MethodName := ⟨RX7, "isAnyAllowed", "(II)Z"⟩
abbrev cX7_lease : ByteArray := prog_9_method_47_code
def yX7_lease : MethodName := ⟨RX7, "lease", "(III)I"⟩
abbrev cX7_renew : ByteArray := prog_9_method_48_code
def yX7_renew : MethodName := ⟨RX7, "renew", "(II)I"⟩
abbrev cX7_giveBack : ByteArray := prog_9_method_49_code
def yX7_giveBack : MethodName := ⟨RX7, "giveBack", "(I)I"⟩
abbrev cX7_pass : ByteArray := prog_9_method_50_code
def yX7_pass : MethodName := ⟨RX7, "pass", "(I)I"⟩
abbrev cX7_append : ByteArray := prog_9_method_51_code
def yX7_append : MethodName := ⟨RX7, "append", "(I)I"⟩
abbrev cX7_clearText : ByteArray := prog_9_method_52_code
def yX7_clearText : MethodName := ⟨RX7, "clearText", "()I"⟩
abbrev cX7_isAt : ByteArray := prog_9_method_53_code
def yX7_isAt : MethodName := ⟨RX7, "isAt", "(II)Z"⟩
abbrev cX7_takes : ByteArray := prog_9_method_54_code
def yX7_takes : MethodName := ⟨RX7, "takes", "(I)Z"⟩
abbrev cX7_number : ByteArray := prog_9_method_55_code
def yX7_number : MethodName := ⟨RX7, "number", "(II)I"⟩
abbrev cX7_reads : ByteArray := prog_9_method_56_code
def yX7_reads : MethodName := ⟨RX7, "reads", "()Z"⟩
abbrev cX7_faultPosition : ByteArray := prog_9_method_57_code
def yX7_faultPosition : MethodName := ⟨RX7, "faultPosition", "()I"⟩
abbrev cX7_does : ByteArray := prog_9_method_58_code
def yX7_does : MethodName := ⟨RX7, "does", "(I)I"⟩
abbrev cX7_run : ByteArray := prog_9_method_59_code
def yX7_run : MethodName := ⟨RX7, "run", "()I"⟩
abbrev cX7_undo : ByteArray := prog_9_method_60_code
def yX7_undo : MethodName := ⟨RX7, "undo", "()I"⟩
abbrev cX7_save : ByteArray := prog_9_method_61_code
def yX7_save : MethodName := ⟨RX7, "save", "(I)I"⟩
abbrev cX7_restore : ByteArray := prog_9_method_62_code
def yX7_restore : MethodName := ⟨RX7, "restore", "(I)I"⟩
abbrev cX7_onAccount : ByteArray := prog_9_method_63_code
def yX7_onAccount : MethodName := ⟨RX7, "onAccount", "(I)I"⟩
abbrev cX7_station : ByteArray := prog_9_method_64_code
def yX7_station : MethodName := ⟨RX7, "station", "(II)I"⟩
abbrev cX7_event : ByteArray := prog_9_method_65_code
def yX7_event : MethodName := ⟨RX7, "event", "(II)I"⟩
abbrev cX7_nextAsk : ByteArray := prog_9_method_66_code
def yX7_nextAsk : MethodName := ⟨RX7, "nextAsk", "(I)I"⟩
abbrev cX7_device : ByteArray := prog_9_method_67_code
def yX7_device : MethodName := ⟨RX7, "device", "(II)I"⟩
abbrev cX7_power : ByteArray := prog_9_method_68_code
def yX7_power : MethodName := ⟨RX7, "power", "(III)I"⟩
abbrev cX7_offer : ByteArray := prog_9_method_69_code
def yX7_offer : MethodName := ⟨RX7, "offer", "(II)I"⟩
abbrev cX7_isAhead : ByteArray := prog_9_method_70_code
def yX7_isAhead : MethodName := ⟨RX7, "isAhead", "(II)Z"⟩
abbrev cX7_next : ByteArray := prog_9_method_71_code
def yX7_next : MethodName := ⟨RX7, "next", "(I)I"⟩
abbrev cX7_leases : ByteArray := prog_9_method_72_code
def yX7_leases : MethodName := ⟨RX7, "leases", "(I)I"⟩
abbrev cX7_sumOf : ByteArray := prog_9_method_73_code
def yX7_sumOf : MethodName := ⟨RX7, "sumOf", "(I)I"⟩
abbrev cX7_awake : ByteArray := prog_9_method_74_code
def yX7_awake : MethodName := ⟨RX7, "awake", "()I"⟩
abbrev cX7_total : ByteArray := prog_9_method_75_code
def yX7_total : MethodName := ⟨RX7, "total", "(I)I"⟩
abbrev cX7_vacant : ByteArray := prog_9_method_76_code
def yX7_vacant : MethodName := ⟨RX7, "vacant", "(II)I"⟩
abbrev cX7_allowedFrom : ByteArray := prog_9_method_77_code
def yX7_allowedFrom : MethodName := ⟨RX7, "allowedFrom", "(IIII)I"⟩
abbrev cX7_wouldStrike : ByteArray := prog_9_method_78_code
def yX7_wouldStrike : MethodName := ⟨RX7, "wouldStrike", "(I)I"⟩
abbrev cX7_channelIn : ByteArray := prog_9_method_79_code
def yX7_channelIn : MethodName := ⟨RX7, "channelIn", "(II)I"⟩
abbrev cX7_clearIn : ByteArray := prog_9_method_80_code
def yX7_clearIn : MethodName := ⟨RX7, "clearIn", "()I"⟩
def RJ9 : String := "java/lang/Math"
def TJ9 : u_T := fun k => match k with
  | _ => ("", "", "", false)
def tyJ9 : Nat → FieldType := fun k => match k with
  | _ => .int
abbrev wsJ90 : List Cond := u_ws RJ9 TJ9 0
theorem nmJ9 : ∀ a, a < 0 → ∀ b, b < 0 → a ≠ b → (TJ9 a).2.1 ≠ (TJ9 b).2.1 := by decide +kernel
theorem tyJ9_ok : ∀ k, k < 0 → parseFieldDescriptor (TJ9 k).2.2.1 = some (tyJ9 k) := by decide +kernel
abbrev cJ9_min_7cf53 : ByteArray := prog_10_method_69_code
def yJ9_min_7cf53 : MethodName := ⟨RJ9, "min", "(II)I"⟩
def RJ10 : String := "java/lang/System"
def TJ10 : u_T := fun k => match k with
  | _ => ("", "", "", false)
def tyJ10 : Nat → FieldType := fun k => match k with
  | _ => .int
abbrev wsJ100 : List Cond := u_ws RJ10 TJ10 0
theorem nmJ10 : ∀ a, a < 0 → ∀ b, b < 0 → a ≠ b → (TJ10 a).2.1 ≠ (TJ10 b).2.1 := by decide +kernel
theorem tyJ10_ok : ∀ k, k < 0 → parseFieldDescriptor (TJ10 k).2.2.1 = some (tyJ10 k) := by decide +kernel
def RL : String := "VacantAirLaw"
abbrev cL_law : ByteArray := code
def yL_law : MethodName := ⟨RL, "law", "([I)Z"⟩
def wsX0_init : List Cond := .code yX0_init cX0_init 1 none :: ([.methodLink RX0 3 objectInit, .instanceMethod objectInit, .code objectInit ⟨#[0xb1]⟩ 1 none, .arrayClass .int, .fieldLink RX0 9 "VacantAir$ActText" "bytes" "[I", .fieldLink RX0 15 "VacantAir$ActText" "fault" "I"] ++ wsX00)
def wsX1_init : List Cond := .code yX1_init cX1_init 1 none :: ([.methodLink RX1 3 objectInit, .instanceMethod objectInit, .code objectInit ⟨#[0xb1]⟩ 1 none, .arrayClass .int, .fieldLink RX1 9 "VacantAir$Devices" "x" "[I", .fieldLink RX1 15 "VacantAir$Devices" "y" "[I", .fieldLink RX1 18 "VacantAir$Devices" "greatest" "[I", .fieldLink RX1 21 "VacantAir$Devices" "channel" "[I", .fieldLink RX1 24 "VacantAir$Devices" "power" "[I", .fieldLink RX1 27 "VacantAir$Devices" "end" "[I", .fieldLink RX1 30 "VacantAir$Devices" "notice" "[I", .fieldLink RX1 33 "VacantAir$Devices" "hops" "[I", .fieldLink RX1 36 "VacantAir$Devices" "struck" "[I", .fieldLink RX1 39 "VacantAir$Devices" "cut" "[I"] ++ wsX10)
def wsX2_init : List Cond := .code yX2_init cX2_init 1 none :: ([.methodLink RX2 3 objectInit, .instanceMethod objectInit, .code objectInit ⟨#[0xb1]⟩ 1 none, .arrayClass .int, .fieldLink RX2 9 "VacantAir$Events" "x" "[I", .fieldLink RX2 15 "VacantAir$Events" "y" "[I", .fieldLink RX2 18 "VacantAir$Events" "radius" "[I", .fieldLink RX2 21 "VacantAir$Events" "channel" "[I", .fieldLink RX2 24 "VacantAir$Events" "from" "[I", .fieldLink RX2 27 "VacantAir$Events" "to" "[I", .fieldLink RX2 30 "VacantAir$Events" "cancelled" "[I"] ++ wsX20)
def wsX5_init : List Cond := .code yX5_init cX5_init 1 none :: ([.methodLink RX5 3 objectInit, .instanceMethod objectInit, .code objectInit ⟨#[0xb1]⟩ 1 none, .arrayClass .int, .fieldLink RX5 9 "VacantAir$Stations" "x" "[I", .fieldLink RX5 15 "VacantAir$Stations" "y" "[I", .fieldLink RX5 18 "VacantAir$Stations" "channel" "[I", .fieldLink RX5 21 "VacantAir$Stations" "powerClass" "[I", .fieldLink RX5 24 "VacantAir$Stations" "awake" "[I"] ++ wsX50)
def wsX4_init_r1 : List Cond := [Cond.methodLink RX4 3 objectInit, Cond.instanceMethod objectInit, Cond.code objectInit ⟨#[0xb1]⟩ 1 none, Cond.classLink RX4 9 RX5, Cond.instantiable RX5 6, Cond.initialized RX5, Cond.fieldLink RX4 12 "VacantAir$State" "stations" "LVacantAir$Stations;", Cond.classLink RX4 18 RX2, Cond.instantiable RX2 8, Cond.initialized RX2, Cond.fieldLink RX4 21 "VacantAir$State" "events" "LVacantAir$Events;", Cond.classLink RX4 25 RX1, Cond.instantiable RX1 11, Cond.initialized RX1, Cond.fieldLink RX4 28 "VacantAir$State" "devices" "LVacantAir$Devices;", Cond.arrayClass .int, Cond.fieldLink RX4 32 "VacantAir$State" "settings" "[I", Cond.instanceMethod yX5_init, Cond.code yX5_init cX5_init 1 none, Cond.methodLink RX5 3 objectInit, Cond.fieldLink RX5 9 "VacantAir$Stations" "x" "[I", Cond.fieldLink RX5 15 "VacantAir$Stations" "y" "[I", Cond.fieldLink RX5 18 "VacantAir$Stations" "channel" "[I", Cond.fieldLink RX5 21 "VacantAir$Stations" "powerClass" "[I"]
def wsX4_init_r2 : List Cond := [Cond.fieldLink RX5 24 "VacantAir$Stations" "awake" "[I", Cond.instanceMethod yX2_init, Cond.code yX2_init cX2_init 1 none, Cond.methodLink RX2 3 objectInit, Cond.fieldLink RX2 9 "VacantAir$Events" "x" "[I", Cond.fieldLink RX2 15 "VacantAir$Events" "y" "[I", Cond.fieldLink RX2 18 "VacantAir$Events" "radius" "[I", Cond.fieldLink RX2 21 "VacantAir$Events" "channel" "[I", Cond.fieldLink RX2 24 "VacantAir$Events" "from" "[I", Cond.fieldLink RX2 27 "VacantAir$Events" "to" "[I", Cond.fieldLink RX2 30 "VacantAir$Events" "cancelled" "[I", Cond.instanceMethod yX1_init, Cond.code yX1_init cX1_init 1 none, Cond.methodLink RX1 3 objectInit, Cond.fieldLink RX1 9 "VacantAir$Devices" "x" "[I", Cond.fieldLink RX1 15 "VacantAir$Devices" "y" "[I", Cond.fieldLink RX1 18 "VacantAir$Devices" "greatest" "[I", Cond.fieldLink RX1 21 "VacantAir$Devices" "channel" "[I", Cond.fieldLink RX1 24 "VacantAir$Devices" "power" "[I", Cond.fieldLink RX1 27 "VacantAir$Devices" "end" "[I", Cond.fieldLink RX1 30 "VacantAir$Devices" "notice" "[I", Cond.fieldLink RX1 33 "VacantAir$Devices" "hops" "[I", Cond.fieldLink RX1 36 "VacantAir$Devices" "struck" "[I", Cond.fieldLink RX1 39 "VacantAir$Devices" "cut" "[I"]
def wsX4_init : List Cond := .code yX4_init cX4_init 2 none :: ((wsX4_init_r1 ++ wsX4_init_r2) ++ wsX50 ++ wsX40 ++ wsX20 ++ wsX10)
def wsX3_init_r1 : List Cond := [Cond.methodLink RX3 3 objectInit, Cond.instanceMethod objectInit, Cond.code objectInit ⟨#[0xb1]⟩ 1 none, Cond.classLink RX3 9 RX4, Cond.fieldLink RX3 11 "VacantAir$History" "ring" "[LVacantAir$State;", Cond.instantiable RX4 6, Cond.initialized RX4, Cond.methodLink RX3 17 yX4_init, Cond.instanceMethod yX4_init, Cond.code yX4_init cX4_init 2 none, Cond.methodLink RX4 3 objectInit, Cond.classLink RX4 9 RX5, Cond.instantiable RX5 6, Cond.initialized RX5, Cond.fieldLink RX4 12 "VacantAir$State" "stations" "LVacantAir$Stations;", Cond.classLink RX4 18 RX2, Cond.instantiable RX2 8, Cond.initialized RX2, Cond.fieldLink RX4 21 "VacantAir$State" "events" "LVacantAir$Events;", Cond.classLink RX4 25 RX1, Cond.instantiable RX1 11, Cond.initialized RX1, Cond.fieldLink RX4 28 "VacantAir$State" "devices" "LVacantAir$Devices;", Cond.arrayClass .int]
def wsX3_init_r2 : List Cond := [Cond.fieldLink RX4 32 "VacantAir$State" "settings" "[I", Cond.instanceMethod yX5_init, Cond.code yX5_init cX5_init 1 none, Cond.methodLink RX5 3 objectInit, Cond.fieldLink RX5 9 "VacantAir$Stations" "x" "[I", Cond.fieldLink RX5 15 "VacantAir$Stations" "y" "[I", Cond.fieldLink RX5 18 "VacantAir$Stations" "channel" "[I", Cond.fieldLink RX5 21 "VacantAir$Stations" "powerClass" "[I", Cond.fieldLink RX5 24 "VacantAir$Stations" "awake" "[I", Cond.instanceMethod yX2_init, Cond.code yX2_init cX2_init 1 none, Cond.methodLink RX2 3 objectInit, Cond.fieldLink RX2 9 "VacantAir$Events" "x" "[I", Cond.fieldLink RX2 15 "VacantAir$Events" "y" "[I", Cond.fieldLink RX2 18 "VacantAir$Events" "radius" "[I", Cond.fieldLink RX2 21 "VacantAir$Events" "channel" "[I", Cond.fieldLink RX2 24 "VacantAir$Events" "from" "[I", Cond.fieldLink RX2 27 "VacantAir$Events" "to" "[I", Cond.fieldLink RX2 30 "VacantAir$Events" "cancelled" "[I", Cond.instanceMethod yX1_init, Cond.code yX1_init cX1_init 1 none, Cond.methodLink RX1 3 objectInit, Cond.fieldLink RX1 9 "VacantAir$Devices" "x" "[I", Cond.fieldLink RX1 15 "VacantAir$Devices" "y" "[I"]
def wsX3_init_r3 : List Cond := [Cond.fieldLink RX1 18 "VacantAir$Devices" "greatest" "[I", Cond.fieldLink RX1 21 "VacantAir$Devices" "channel" "[I", Cond.fieldLink RX1 24 "VacantAir$Devices" "power" "[I", Cond.fieldLink RX1 27 "VacantAir$Devices" "end" "[I", Cond.fieldLink RX1 30 "VacantAir$Devices" "notice" "[I", Cond.fieldLink RX1 33 "VacantAir$Devices" "hops" "[I", Cond.fieldLink RX1 36 "VacantAir$Devices" "struck" "[I", Cond.fieldLink RX1 39 "VacantAir$Devices" "cut" "[I"]
def wsX3_init : List Cond := .code yX3_init cX3_init 2 none :: ((wsX3_init_r1 ++ (wsX3_init_r2 ++ wsX3_init_r3)) ++ wsX30 ++ wsX40 ++ wsX50 ++ wsX20 ++ wsX10)
def wsX6_init_r1 : List Cond := [Cond.methodLink RX6 1 objectInit, Cond.instanceMethod objectInit, Cond.code objectInit ⟨#[0xb1]⟩ 1 none, Cond.classLink RX6 7 RX4, Cond.instantiable RX4 6, Cond.initialized RX4, Cond.fieldLink RX6 10 "VacantAir" "present" "LVacantAir$State;", Cond.fieldLink RX6 16 "VacantAir" "trial" "LVacantAir$State;", Cond.classLink RX6 19 RX3, Cond.instantiable RX3 3, Cond.initialized RX3, Cond.fieldLink RX6 22 "VacantAir" "history" "LVacantAir$History;", Cond.fieldLink RX6 26 "VacantAir" "slots" "[LVacantAir$State;", Cond.arrayClass .boolean, Cond.fieldLink RX6 30 "VacantAir" "slotHolds" "[Z", Cond.classLink RX6 34 RX0, Cond.instantiable RX0 8, Cond.initialized RX0, Cond.fieldLink RX6 37 "VacantAir" "text" "LVacantAir$ActText;", Cond.methodLink RX6 9 yX4_init, Cond.instanceMethod yX4_init, Cond.code yX4_init cX4_init 2 none, Cond.methodLink RX4 3 objectInit, Cond.classLink RX4 9 RX5]
def wsX6_init_r2 : List Cond := [Cond.instantiable RX5 6, Cond.initialized RX5, Cond.fieldLink RX4 12 "VacantAir$State" "stations" "LVacantAir$Stations;", Cond.classLink RX4 18 RX2, Cond.instantiable RX2 8, Cond.initialized RX2, Cond.fieldLink RX4 21 "VacantAir$State" "events" "LVacantAir$Events;", Cond.classLink RX4 25 RX1, Cond.instantiable RX1 11, Cond.initialized RX1, Cond.fieldLink RX4 28 "VacantAir$State" "devices" "LVacantAir$Devices;", Cond.arrayClass .int, Cond.fieldLink RX4 32 "VacantAir$State" "settings" "[I", Cond.instanceMethod yX5_init, Cond.code yX5_init cX5_init 1 none, Cond.methodLink RX5 3 objectInit, Cond.fieldLink RX5 9 "VacantAir$Stations" "x" "[I", Cond.fieldLink RX5 15 "VacantAir$Stations" "y" "[I", Cond.fieldLink RX5 18 "VacantAir$Stations" "channel" "[I", Cond.fieldLink RX5 21 "VacantAir$Stations" "powerClass" "[I", Cond.fieldLink RX5 24 "VacantAir$Stations" "awake" "[I", Cond.instanceMethod yX2_init, Cond.code yX2_init cX2_init 1 none, Cond.methodLink RX2 3 objectInit]
def wsX6_init_r3 : List Cond := [Cond.fieldLink RX2 9 "VacantAir$Events" "x" "[I", Cond.fieldLink RX2 15 "VacantAir$Events" "y" "[I", Cond.fieldLink RX2 18 "VacantAir$Events" "radius" "[I", Cond.fieldLink RX2 21 "VacantAir$Events" "channel" "[I", Cond.fieldLink RX2 24 "VacantAir$Events" "from" "[I", Cond.fieldLink RX2 27 "VacantAir$Events" "to" "[I", Cond.fieldLink RX2 30 "VacantAir$Events" "cancelled" "[I", Cond.instanceMethod yX1_init, Cond.code yX1_init cX1_init 1 none, Cond.methodLink RX1 3 objectInit, Cond.fieldLink RX1 9 "VacantAir$Devices" "x" "[I", Cond.fieldLink RX1 15 "VacantAir$Devices" "y" "[I", Cond.fieldLink RX1 18 "VacantAir$Devices" "greatest" "[I", Cond.fieldLink RX1 21 "VacantAir$Devices" "channel" "[I", Cond.fieldLink RX1 24 "VacantAir$Devices" "power" "[I", Cond.fieldLink RX1 27 "VacantAir$Devices" "end" "[I", Cond.fieldLink RX1 30 "VacantAir$Devices" "notice" "[I", Cond.fieldLink RX1 33 "VacantAir$Devices" "hops" "[I", Cond.fieldLink RX1 36 "VacantAir$Devices" "struck" "[I", Cond.fieldLink RX1 39 "VacantAir$Devices" "cut" "[I", Cond.methodLink RX6 21 yX3_init, Cond.instanceMethod yX3_init, Cond.code yX3_init cX3_init 2 none, Cond.methodLink RX3 3 objectInit]
def wsX6_init_r4 : List Cond := [Cond.classLink RX3 9 RX4, Cond.fieldLink RX3 11 "VacantAir$History" "ring" "[LVacantAir$State;", Cond.methodLink RX3 17 yX4_init, Cond.instanceMethod yX0_init, Cond.code yX0_init cX0_init 1 none, Cond.methodLink RX0 3 objectInit, Cond.fieldLink RX0 9 "VacantAir$ActText" "bytes" "[I", Cond.fieldLink RX0 15 "VacantAir$ActText" "fault" "I"]
def wsX6_init : List Cond := .code yX6_init cX6_init 2 none :: ((wsX6_init_r1 ++ (wsX6_init_r2 ++ (wsX6_init_r3 ++ wsX6_init_r4))) ++ wsX40 ++ wsX60 ++ wsX30 ++ wsX00 ++ wsX50 ++ wsX20 ++ wsX10)
def wsX7_init : List Cond := .code yX7_init cX7_init 1 none :: ([.methodLink RX7 1 objectInit, .instanceMethod objectInit, .code objectInit ⟨#[0xb1]⟩ 1 none, .arrayClass .int, .fieldLink RX7 7 "VacantAirModel" "s" "[I", .fieldLink RX7 13 "VacantAirModel" "past" "[I", .fieldLink RX7 16 "VacantAirModel" "slots" "[I", .arrayClass .boolean, .fieldLink RX7 19 "VacantAirModel" "isKept" "[Z", .fieldLink RX7 23 "VacantAirModel" "held" "[I", .fieldLink RX7 26 "VacantAirModel" "text" "[I"] ++ wsX70)
def wsJ9_min_7cf53 : List Cond := .code yJ9_min_7cf53 cJ9_min_7cf53 2 (some .int) :: ([])
def wsL_law_r1 : List Cond := [Cond.classLink RL 7 RX6, Cond.instantiable RX6 6, Cond.initialized RX6, Cond.classLink RL 10 RX7, Cond.instantiable RX7 13, Cond.initialized RX7, Cond.methodLink RL 9 yX6_init, Cond.instanceMethod yX6_init, Cond.code yX6_init cX6_init 2 none, Cond.methodLink RX6 1 objectInit, Cond.instanceMethod objectInit, Cond.code objectInit ⟨#[0xb1]⟩ 1 none, Cond.classLink RX6 7 RX4, Cond.instantiable RX4 6, Cond.initialized RX4, Cond.fieldLink RX6 10 "VacantAir" "present" "LVacantAir$State;", Cond.fieldLink RX6 16 "VacantAir" "trial" "LVacantAir$State;", Cond.classLink RX6 19 RX3, Cond.instantiable RX3 3, Cond.initialized RX3, Cond.fieldLink RX6 22 "VacantAir" "history" "LVacantAir$History;", Cond.fieldLink RX6 26 "VacantAir" "slots" "[LVacantAir$State;", Cond.arrayClass .boolean, Cond.fieldLink RX6 30 "VacantAir" "slotHolds" "[Z"]
def wsL_law_r2 : List Cond := [Cond.classLink RX6 34 RX0, Cond.instantiable RX0 8, Cond.initialized RX0, Cond.fieldLink RX6 37 "VacantAir" "text" "LVacantAir$ActText;", Cond.methodLink RX6 9 yX4_init, Cond.instanceMethod yX4_init, Cond.code yX4_init cX4_init 2 none, Cond.methodLink RX4 3 objectInit, Cond.classLink RX4 9 RX5, Cond.instantiable RX5 6, Cond.initialized RX5, Cond.fieldLink RX4 12 "VacantAir$State" "stations" "LVacantAir$Stations;", Cond.classLink RX4 18 RX2, Cond.instantiable RX2 8, Cond.initialized RX2, Cond.fieldLink RX4 21 "VacantAir$State" "events" "LVacantAir$Events;", Cond.classLink RX4 25 RX1, Cond.instantiable RX1 11, Cond.initialized RX1, Cond.fieldLink RX4 28 "VacantAir$State" "devices" "LVacantAir$Devices;", Cond.arrayClass .int, Cond.fieldLink RX4 32 "VacantAir$State" "settings" "[I", Cond.instanceMethod yX5_init, Cond.code yX5_init cX5_init 1 none]
def wsL_law_r3 : List Cond := [Cond.methodLink RX5 3 objectInit, Cond.fieldLink RX5 9 "VacantAir$Stations" "x" "[I", Cond.fieldLink RX5 15 "VacantAir$Stations" "y" "[I", Cond.fieldLink RX5 18 "VacantAir$Stations" "channel" "[I", Cond.fieldLink RX5 21 "VacantAir$Stations" "powerClass" "[I", Cond.fieldLink RX5 24 "VacantAir$Stations" "awake" "[I", Cond.instanceMethod yX2_init, Cond.code yX2_init cX2_init 1 none, Cond.methodLink RX2 3 objectInit, Cond.fieldLink RX2 9 "VacantAir$Events" "x" "[I", Cond.fieldLink RX2 15 "VacantAir$Events" "y" "[I", Cond.fieldLink RX2 18 "VacantAir$Events" "radius" "[I", Cond.fieldLink RX2 21 "VacantAir$Events" "channel" "[I", Cond.fieldLink RX2 24 "VacantAir$Events" "from" "[I", Cond.fieldLink RX2 27 "VacantAir$Events" "to" "[I", Cond.fieldLink RX2 30 "VacantAir$Events" "cancelled" "[I", Cond.instanceMethod yX1_init, Cond.code yX1_init cX1_init 1 none, Cond.methodLink RX1 3 objectInit, Cond.fieldLink RX1 9 "VacantAir$Devices" "x" "[I", Cond.fieldLink RX1 15 "VacantAir$Devices" "y" "[I", Cond.fieldLink RX1 18 "VacantAir$Devices" "greatest" "[I", Cond.fieldLink RX1 21 "VacantAir$Devices" "channel" "[I", Cond.fieldLink RX1 24 "VacantAir$Devices" "power" "[I"]
def wsL_law_r4 : List Cond := [Cond.fieldLink RX1 27 "VacantAir$Devices" "end" "[I", Cond.fieldLink RX1 30 "VacantAir$Devices" "notice" "[I", Cond.fieldLink RX1 33 "VacantAir$Devices" "hops" "[I", Cond.fieldLink RX1 36 "VacantAir$Devices" "struck" "[I", Cond.fieldLink RX1 39 "VacantAir$Devices" "cut" "[I", Cond.methodLink RX6 21 yX3_init, Cond.instanceMethod yX3_init, Cond.code yX3_init cX3_init 2 none, Cond.methodLink RX3 3 objectInit, Cond.classLink RX3 9 RX4, Cond.fieldLink RX3 11 "VacantAir$History" "ring" "[LVacantAir$State;", Cond.methodLink RX3 17 yX4_init, Cond.instanceMethod yX0_init, Cond.code yX0_init cX0_init 1 none, Cond.methodLink RX0 3 objectInit, Cond.fieldLink RX0 9 "VacantAir$ActText" "bytes" "[I", Cond.fieldLink RX0 15 "VacantAir$ActText" "fault" "I", Cond.methodLink RL 12 yX7_init, Cond.instanceMethod yX7_init, Cond.code yX7_init cX7_init 1 none, Cond.methodLink RX7 1 objectInit, Cond.fieldLink RX7 7 "VacantAirModel" "s" "[I", Cond.fieldLink RX7 13 "VacantAirModel" "past" "[I", Cond.fieldLink RX7 16 "VacantAirModel" "slots" "[I"]
def wsL_law_r5 : List Cond := [Cond.fieldLink RX7 19 "VacantAirModel" "isKept" "[Z", Cond.fieldLink RX7 23 "VacantAirModel" "held" "[I", Cond.fieldLink RX7 26 "VacantAirModel" "text" "[I", Cond.methodLink RL 13 yX6_addStation, Cond.instanceMethod yX6_addStation, Cond.selects RX6 yX6_addStation yX6_addStation, Cond.code yX6_addStation cX6_addStation 5 (some .int), Cond.methodLink RX6 41 yX3_note, Cond.instanceMethod yX3_note, Cond.selects RX3 yX3_note yX3_note, Cond.code yX3_note cX3_note 2 none, Cond.fieldLink RX3 18 "VacantAir$History" "oldest" "I", Cond.fieldLink RX3 22 "VacantAir$History" "count" "I", Cond.methodLink RX3 25 yX4_copyFrom, Cond.instanceMethod yX4_copyFrom, Cond.selects RX4 yX4_copyFrom yX4_copyFrom, Cond.code yX4_copyFrom cX4_copyFrom 2 none, Cond.fieldLink RX4 53 "VacantAir$State" "hour" "I", Cond.fieldLink RX4 57 "VacantAir$State" "reason" "I", Cond.methodLink RX4 39 yX5_copyFrom, Cond.instanceMethod yX5_copyFrom, Cond.selects RX5 yX5_copyFrom yX5_copyFrom, Cond.code yX5_copyFrom cX5_copyFrom 2 none, Cond.fieldLink RX5 27 "VacantAir$Stations" "count" "I"]
def wsL_law_r6 : List Cond := [Cond.static yX6_copyRow, Cond.code yX6_copyRow cX6_copyRow 2 none, Cond.methodLink RX6 221 Lib.Math.min.name, Cond.static Lib.Math.min.name, Cond.initialized "java/lang/Math", Cond.code Lib.Math.min.name Lib.Math.min.code 2 (some .int), Cond.methodLink RX6 226 arraycopyName, Cond.native arraycopyName, Cond.static arraycopyName, Cond.initialized "java/lang/System", Cond.methodLink RX4 43 yX2_copyFrom, Cond.instanceMethod yX2_copyFrom, Cond.selects RX2 yX2_copyFrom yX2_copyFrom, Cond.code yX2_copyFrom cX2_copyFrom 2 none, Cond.fieldLink RX2 33 "VacantAir$Events" "count" "I", Cond.methodLink RX4 46 yX1_copyFrom, Cond.instanceMethod yX1_copyFrom, Cond.selects RX1 yX1_copyFrom yX1_copyFrom, Cond.code yX1_copyFrom cX1_copyFrom 2 none, Cond.fieldLink RX1 42 "VacantAir$Devices" "count" "I", Cond.methodLink RX6 45 yX4_putStation, Cond.instanceMethod yX4_putStation, Cond.selects RX4 yX4_putStation yX4_putStation, Cond.code yX4_putStation cX4_putStation 6 (some .int)]
def wsL_law_r7 : List Cond := [Cond.fieldLink RX4 68 "VacantAir$Stations" "count" "I", Cond.fieldLink RX4 71 "VacantAir$Stations" "x" "[I", Cond.fieldLink RX4 74 "VacantAir$Stations" "y" "[I", Cond.fieldLink RX4 77 "VacantAir$Stations" "channel" "[I", Cond.fieldLink RX4 80 "VacantAir$Stations" "powerClass" "[I", Cond.fieldLink RX4 83 "VacantAir$Stations" "awake" "[I", Cond.static yX6_isNoPlace, Cond.code yX6_isNoPlace cX6_isNoPlace 2 (some .boolean), Cond.methodLink RX6 122 yX6_isOutside, Cond.static yX6_isOutside, Cond.code yX6_isOutside cX6_isOutside 3 (some .boolean), Cond.methodLink RX6 49 yX6_recorded, Cond.instanceMethod yX6_recorded, Cond.selects RX6 yX6_recorded yX6_recorded, Cond.code yX6_recorded cX6_recorded 2 (some .int), Cond.methodLink RX6 215 yX3_keepNoted, Cond.instanceMethod yX3_keepNoted, Cond.selects RX3 yX3_keepNoted yX3_keepNoted, Cond.code yX3_keepNoted cX3_keepNoted 1 none, Cond.methodLink RL 17 yX7_addStation, Cond.instanceMethod yX7_addStation, Cond.selects RX7 yX7_addStation yX7_addStation, Cond.code yX7_addStation cX7_addStation 6 (some .int), Cond.methodLink RX7 112 yX7_isPlace]
def wsL_law_r8 : List Cond := [Cond.static yX7_isPlace, Cond.code yX7_isPlace cX7_isPlace 2 (some .boolean), Cond.methodLink RX7 37 yX7_in, Cond.static yX7_in, Cond.code yX7_in cX7_in 3 (some .boolean), Cond.methodLink RX7 115 yX7_isChannel, Cond.static yX7_isChannel, Cond.code yX7_isChannel cX7_isChannel 1 (some .boolean), Cond.methodLink RX7 118 yX7_records, Cond.instanceMethod yX7_records, Cond.selects RX7 yX7_records yX7_records, Cond.code yX7_records cX7_records 2 none, Cond.fieldLink RX7 29 "VacantAirModel" "runs" "Z", Cond.fieldLink RX7 33 "VacantAirModel" "pasts" "I", Cond.methodLink RL 18 yX6_addEvent, Cond.instanceMethod yX6_addEvent, Cond.selects RX6 yX6_addEvent yX6_addEvent, Cond.code yX6_addEvent cX6_addEvent 7 (some .int), Cond.methodLink RX6 53 yX4_putEvent, Cond.instanceMethod yX4_putEvent, Cond.selects RX4 yX4_putEvent yX4_putEvent, Cond.code yX4_putEvent cX4_putEvent 8 (some .int), Cond.fieldLink RX4 86 "VacantAir$Events" "count" "I", Cond.fieldLink RX4 87 "VacantAir$Events" "x" "[I"]
def wsL_law_r9 : List Cond := [Cond.fieldLink RX4 88 "VacantAir$Events" "y" "[I", Cond.fieldLink RX4 89 "VacantAir$Events" "radius" "[I", Cond.fieldLink RX4 92 "VacantAir$Events" "channel" "[I", Cond.fieldLink RX4 93 "VacantAir$Events" "from" "[I", Cond.fieldLink RX4 96 "VacantAir$Events" "to" "[I", Cond.fieldLink RX4 99 "VacantAir$Events" "cancelled" "[I", Cond.methodLink RX4 102 yX4_review, Cond.instanceMethod yX4_review, Cond.selects RX4 yX4_review yX4_review, Cond.code yX4_review cX4_review 2 none, Cond.fieldLink RX4 105 "VacantAir$Devices" "count" "I", Cond.fieldLink RX4 183 "VacantAir$Devices" "notice" "[I", Cond.methodLink RX4 155 yX1_hasLease, Cond.instanceMethod yX1_hasLease, Cond.selects RX1 yX1_hasLease yX1_hasLease, Cond.code yX1_hasLease cX1_hasLease 2 (some .boolean), Cond.methodLink RX4 180 yX4_leaseIsAllowed, Cond.instanceMethod yX4_leaseIsAllowed, Cond.selects RX4 yX4_leaseIsAllowed yX4_leaseIsAllowed, Cond.code yX4_leaseIsAllowed cX4_leaseIsAllowed 2 (some .boolean), Cond.fieldLink RX4 154 "VacantAir$Devices" "channel" "[I", Cond.fieldLink RX4 186 "VacantAir$Devices" "power" "[I", Cond.fieldLink RX4 106 "VacantAir$Devices" "x" "[I", Cond.fieldLink RX4 107 "VacantAir$Devices" "y" "[I"]
def wsL_law_r10 : List Cond := [Cond.methodLink RX4 192 yX4_isAllowed, Cond.instanceMethod yX4_isAllowed, Cond.selects RX4 yX4_isAllowed yX4_isAllowed, Cond.code yX4_isAllowed cX4_isAllowed 7 (some .boolean), Cond.methodLink RX4 208 yX4_barredRadius, Cond.instanceMethod yX4_barredRadius, Cond.selects RX4 yX4_barredRadius yX4_barredRadius, Cond.code yX4_barredRadius cX4_barredRadius 5 (some .int), Cond.static yX6_isWithin, Cond.code yX6_isWithin cX6_isWithin 3 (some .boolean), Cond.methodLink RX4 211 yX2_isOn, Cond.instanceMethod yX2_isOn, Cond.selects RX2 yX2_isOn yX2_isOn, Cond.code yX2_isOn cX2_isOn 3 (some .boolean), Cond.methodLink RX4 158 yX1_hasNotice, Cond.instanceMethod yX1_hasNotice, Cond.selects RX1 yX1_hasNotice yX1_hasNotice, Cond.code yX1_hasNotice cX1_hasNotice 2 (some .boolean), Cond.methodLink RL 22 yX7_addEvent, Cond.instanceMethod yX7_addEvent, Cond.selects RX7 yX7_addEvent yX7_addEvent, Cond.code yX7_addEvent cX7_addEvent 8 (some .int), Cond.methodLink RX7 106 yX7_reviews, Cond.instanceMethod yX7_reviews]
def wsL_law_r11 : List Cond := [Cond.selects RX7 yX7_reviews yX7_reviews, Cond.code yX7_reviews cX7_reviews 3 none, Cond.methodLink RX7 88 yX7_hasLease, Cond.instanceMethod yX7_hasLease, Cond.selects RX7 yX7_hasLease yX7_hasLease, Cond.code yX7_hasLease cX7_hasLease 2 (some .boolean), Cond.methodLink RX7 73 yX7_ofDevice, Cond.instanceMethod yX7_ofDevice, Cond.selects RX7 yX7_ofDevice yX7_ofDevice, Cond.code yX7_ofDevice cX7_ofDevice 3 (some .int), Cond.methodLink RX7 92 yX7_isLeaseAllowed, Cond.instanceMethod yX7_isLeaseAllowed, Cond.selects RX7 yX7_isLeaseAllowed yX7_isLeaseAllowed, Cond.code yX7_isLeaseAllowed cX7_isLeaseAllowed 2 (some .boolean), Cond.methodLink RX7 79 yX7_isAllowedFor, Cond.instanceMethod yX7_isAllowedFor, Cond.selects RX7 yX7_isAllowedFor yX7_isAllowedFor, Cond.code yX7_isAllowedFor cX7_isAllowedFor 4 (some .boolean), Cond.methodLink RX7 76 yX7_isAllowed, Cond.instanceMethod yX7_isAllowed, Cond.selects RX7 yX7_isAllowed yX7_isAllowed, Cond.code yX7_isAllowed cX7_isAllowed 5 (some .boolean), Cond.methodLink RX7 66 yX7_isBarred, Cond.instanceMethod yX7_isBarred]
def wsL_law_r12 : List Cond := [Cond.selects RX7 yX7_isBarred yX7_isBarred, Cond.code yX7_isBarred cX7_isBarred 7 (some .boolean), Cond.methodLink RX7 59 yX7_isBarredBy, Cond.instanceMethod yX7_isBarredBy, Cond.selects RX7 yX7_isBarredBy yX7_isBarredBy, Cond.code yX7_isBarredBy cX7_isBarredBy 9 (some .boolean), Cond.methodLink RX7 41 yX7_ofStation, Cond.instanceMethod yX7_ofStation, Cond.selects RX7 yX7_ofStation yX7_ofStation, Cond.code yX7_ofStation cX7_ofStation 3 (some .int), Cond.methodLink RX7 45 yX7_radiusOf, Cond.static yX7_radiusOf, Cond.code yX7_radiusOf cX7_radiusOf 1 (some .int), Cond.methodLink RX7 49 yX7_reach, Cond.static yX7_reach, Cond.code yX7_reach cX7_reach 1 (some .int), Cond.methodLink RX7 52 yX7_isNear, Cond.static yX7_isNear, Cond.code yX7_isNear cX7_isNear 5 (some .boolean), Cond.methodLink RX7 70 yX7_isReserved, Cond.instanceMethod yX7_isReserved, Cond.selects RX7 yX7_isReserved yX7_isReserved, Cond.code yX7_isReserved cX7_isReserved 9 (some .boolean), Cond.methodLink RX7 56 yX7_ofEvent]
def wsL_law_r13 : List Cond := [Cond.instanceMethod yX7_ofEvent, Cond.selects RX7 yX7_ofEvent yX7_ofEvent, Cond.code yX7_ofEvent cX7_ofEvent 3 (some .int), Cond.methodLink RX7 62 yX7_isOn, Cond.instanceMethod yX7_isOn, Cond.selects RX7 yX7_isOn yX7_isOn, Cond.code yX7_isOn cX7_isOn 3 (some .boolean), Cond.methodLink RX7 95 yX7_puts, Cond.instanceMethod yX7_puts, Cond.selects RX7 yX7_puts yX7_puts, Cond.code yX7_puts cX7_puts 4 none, Cond.methodLink RL 23 yX6_addDevice, Cond.instanceMethod yX6_addDevice, Cond.selects RX6 yX6_addDevice yX6_addDevice, Cond.code yX6_addDevice cX6_addDevice 4 (some .int), Cond.methodLink RX6 57 yX4_putDevice, Cond.instanceMethod yX4_putDevice, Cond.selects RX4 yX4_putDevice yX4_putDevice, Cond.code yX4_putDevice cX4_putDevice 5 (some .int), Cond.fieldLink RX4 108 "VacantAir$Devices" "greatest" "[I", Cond.fieldLink RX4 111 "VacantAir$Devices" "hops" "[I", Cond.fieldLink RX4 114 "VacantAir$Devices" "struck" "[I", Cond.fieldLink RX4 117 "VacantAir$Devices" "cut" "[I", Cond.methodLink RX4 120 yX1_removeLease]
def wsL_law_r14 : List Cond := [Cond.instanceMethod yX1_removeLease, Cond.selects RX1 yX1_removeLease yX1_removeLease, Cond.code yX1_removeLease cX1_removeLease 2 none, Cond.methodLink RL 27 yX7_addDevice, Cond.instanceMethod yX7_addDevice, Cond.selects RX7 yX7_addDevice yX7_addDevice, Cond.code yX7_addDevice cX7_addDevice 5 (some .int), Cond.methodLink RX7 121 yX7_isPower, Cond.static yX7_isPower, Cond.code yX7_isPower cX7_isPower 1 (some .boolean), Cond.methodLink RX7 102 yX7_ends, Cond.instanceMethod yX7_ends, Cond.selects RX7 yX7_ends yX7_ends, Cond.code yX7_ends cX7_ends 2 none, Cond.methodLink RL 28 yX6_set, Cond.instanceMethod yX6_set, Cond.selects RX6 yX6_set yX6_set, Cond.code yX6_set cX6_set 3 (some .int), Cond.methodLink RX6 61 yX4_change, Cond.instanceMethod yX4_change, Cond.selects RX4 yX4_change yX4_change, Cond.code yX4_change cX4_change 4 (some .int), Cond.methodLink RL 32 yX7_set, Cond.instanceMethod yX7_set]
def wsL_law_r15 : List Cond := [Cond.selects RX7 yX7_set yX7_set, Cond.code yX7_set cX7_set 4 (some .int), Cond.methodLink RL 33 yX6_wake, Cond.instanceMethod yX6_wake, Cond.selects RX6 yX6_wake yX6_wake, Cond.code yX6_wake cX6_wake 2 (some .int), Cond.methodLink RX6 65 yX4_turnStation, Cond.instanceMethod yX4_turnStation, Cond.selects RX4 yX4_turnStation yX4_turnStation, Cond.code yX4_turnStation cX4_turnStation 3 (some .int), Cond.methodLink RX4 130 yX5_has, Cond.instanceMethod yX5_has, Cond.selects RX5 yX5_has yX5_has, Cond.code yX5_has cX5_has 2 (some .boolean), Cond.methodLink RX4 134 yX1_countNotices, Cond.instanceMethod yX1_countNotices, Cond.selects RX1 yX1_countNotices yX1_countNotices, Cond.code yX1_countNotices cX1_countNotices 3 (some .int), Cond.methodLink RX1 50 yX1_hasNotice, Cond.methodLink RL 37 yX7_wake, Cond.instanceMethod yX7_wake, Cond.selects RX7 yX7_wake yX7_wake, Cond.code yX7_wake cX7_wake 2 (some .int), Cond.methodLink RX7 131 yX7_turns]
def wsL_law_r16 : List Cond := [Cond.instanceMethod yX7_turns, Cond.selects RX7 yX7_turns yX7_turns, Cond.code yX7_turns cX7_turns 3 (some .int), Cond.methodLink RX7 124 yX7_isStation, Cond.instanceMethod yX7_isStation, Cond.selects RX7 yX7_isStation yX7_isStation, Cond.code yX7_isStation cX7_isStation 2 (some .boolean), Cond.methodLink RX7 127 yX7_notices, Cond.instanceMethod yX7_notices, Cond.selects RX7 yX7_notices yX7_notices, Cond.code yX7_notices cX7_notices 3 (some .int), Cond.methodLink RL 38 yX6_sleep, Cond.instanceMethod yX6_sleep, Cond.selects RX6 yX6_sleep yX6_sleep, Cond.code yX6_sleep cX6_sleep 2 (some .int), Cond.methodLink RL 41 yX7_sleep, Cond.instanceMethod yX7_sleep, Cond.selects RX7 yX7_sleep yX7_sleep, Cond.code yX7_sleep cX7_sleep 2 (some .int), Cond.methodLink RL 42 yX6_cancel, Cond.instanceMethod yX6_cancel, Cond.selects RX6 yX6_cancel yX6_cancel, Cond.code yX6_cancel cX6_cancel 2 (some .int), Cond.methodLink RX6 68 yX4_callOff]
def wsL_law_r17 : List Cond := [Cond.instanceMethod yX4_callOff, Cond.selects RX4 yX4_callOff yX4_callOff, Cond.code yX4_callOff cX4_callOff 2 (some .int), Cond.methodLink RX4 138 yX2_has, Cond.instanceMethod yX2_has, Cond.selects RX2 yX2_has yX2_has, Cond.code yX2_has cX2_has 2 (some .boolean), Cond.methodLink RL 45 yX7_cancel, Cond.instanceMethod yX7_cancel, Cond.selects RX7 yX7_cancel yX7_cancel, Cond.code yX7_cancel cX7_cancel 2 (some .int), Cond.methodLink RX7 134 yX7_isEvent, Cond.instanceMethod yX7_isEvent, Cond.selects RX7 yX7_isEvent yX7_isEvent, Cond.code yX7_isEvent cX7_isEvent 2 (some .boolean), Cond.methodLink RL 46 yX6_lease, Cond.instanceMethod yX6_lease, Cond.selects RX6 yX6_lease yX6_lease, Cond.code yX6_lease cX6_lease 4 (some .int), Cond.methodLink RX6 71 yX4_makeLease, Cond.instanceMethod yX4_makeLease, Cond.selects RX4 yX4_makeLease yX4_makeLease, Cond.code yX4_makeLease cX4_makeLease 4 (some .int), Cond.fieldLink RX4 151 "VacantAir$Devices" "end" "[I"]
def wsL_law_r18 : List Cond := [Cond.methodLink RX4 139 yX1_has, Cond.instanceMethod yX1_has, Cond.selects RX1 yX1_has yX1_has, Cond.code yX1_has cX1_has 2 (some .boolean), Cond.methodLink RX4 140 yX4_refusal, Cond.instanceMethod yX4_refusal, Cond.selects RX4 yX4_refusal yX4_refusal, Cond.code yX4_refusal cX4_refusal 3 (some .int), Cond.methodLink RX4 189 yX4_isAllowedOnAny, Cond.instanceMethod yX4_isAllowedOnAny, Cond.selects RX4 yX4_isAllowedOnAny yX4_isAllowedOnAny, Cond.code yX4_isAllowedOnAny cX4_isAllowedOnAny 4 (some .boolean), Cond.methodLink RX4 144 yX4_findOffer, Cond.instanceMethod yX4_findOffer, Cond.selects RX4 yX4_findOffer yX4_findOffer, Cond.code yX4_findOffer cX4_findOffer 7 (some .int), Cond.methodLink RX4 196 yX4_isFree, Cond.instanceMethod yX4_isFree, Cond.selects RX4 yX4_isFree yX4_isFree, Cond.code yX4_isFree cX4_isFree 5 (some .boolean), Cond.methodLink RX4 199 yX1_countOn, Cond.instanceMethod yX1_countOn, Cond.selects RX1 yX1_countOn yX1_countOn, Cond.code yX1_countOn cX1_countOn 4 (some .int)]
def wsL_law_r19 : List Cond := [Cond.methodLink RX4 147 yX1_putOn, Cond.instanceMethod yX1_putOn, Cond.selects RX1 yX1_putOn yX1_putOn, Cond.code yX1_putOn cX1_putOn 4 none, Cond.methodLink RL 49 yX7_lease, Cond.instanceMethod yX7_lease, Cond.selects RX7 yX7_lease yX7_lease, Cond.code yX7_lease cX7_lease 5 (some .int), Cond.methodLink RX7 137 yX7_isDevice, Cond.instanceMethod yX7_isDevice, Cond.selects RX7 yX7_isDevice yX7_isDevice, Cond.code yX7_isDevice cX7_isDevice 2 (some .boolean), Cond.methodLink RX7 140 yX7_refuses, Cond.instanceMethod yX7_refuses, Cond.selects RX7 yX7_refuses yX7_refuses, Cond.code yX7_refuses cX7_refuses 2 (some .int), Cond.methodLink RX7 143 yX7_isAnyAllowed, Cond.instanceMethod yX7_isAnyAllowed, Cond.selects RX7 yX7_isAnyAllowed yX7_isAnyAllowed, Cond.code yX7_isAnyAllowed cX7_isAnyAllowed 5 (some .boolean), Cond.methodLink RX7 99 yX7_offerFor, Cond.instanceMethod yX7_offerFor, Cond.selects RX7 yX7_offerFor yX7_offerFor, Cond.code yX7_offerFor cX7_offerFor 8 (some .int)]
def wsL_law_r20 : List Cond := [Cond.methodLink RX7 82 yX7_isFree, Cond.instanceMethod yX7_isFree, Cond.selects RX7 yX7_isFree yX7_isFree, Cond.code yX7_isFree cX7_isFree 7 (some .boolean), Cond.methodLink RX7 85 yX7_others, Cond.instanceMethod yX7_others, Cond.selects RX7 yX7_others yX7_others, Cond.code yX7_others cX7_others 5 (some .int), Cond.methodLink RL 50 yX6_renew, Cond.instanceMethod yX6_renew, Cond.selects RX6 yX6_renew yX6_renew, Cond.code yX6_renew cX6_renew 3 (some .int), Cond.methodLink RX6 74 yX4_prolongLease, Cond.instanceMethod yX4_prolongLease, Cond.selects RX4 yX4_prolongLease yX4_prolongLease, Cond.code yX4_prolongLease cX4_prolongLease 3 (some .int), Cond.methodLink RL 53 yX7_renew, Cond.instanceMethod yX7_renew, Cond.selects RX7 yX7_renew yX7_renew, Cond.code yX7_renew cX7_renew 3 (some .int), Cond.methodLink RL 54 yX6_giveBack, Cond.instanceMethod yX6_giveBack, Cond.selects RX6 yX6_giveBack yX6_giveBack, Cond.code yX6_giveBack cX6_giveBack 2 (some .int)]
def wsL_law_r21 : List Cond := [Cond.methodLink RX6 77 yX4_dropLease, Cond.instanceMethod yX4_dropLease, Cond.selects RX4 yX4_dropLease yX4_dropLease, Cond.code yX4_dropLease cX4_dropLease 2 (some .int), Cond.methodLink RX4 161 yX1_countLeases, Cond.instanceMethod yX1_countLeases, Cond.selects RX1 yX1_countLeases yX1_countLeases, Cond.code yX1_countLeases cX1_countLeases 3 (some .int), Cond.methodLink RX1 46 yX1_hasLease, Cond.methodLink RL 57 yX7_giveBack, Cond.instanceMethod yX7_giveBack, Cond.selects RX7 yX7_giveBack yX7_giveBack, Cond.code yX7_giveBack cX7_giveBack 2 (some .int), Cond.methodLink RX7 146 yX7_leasesNow, Cond.instanceMethod yX7_leasesNow, Cond.selects RX7 yX7_leasesNow yX7_leasesNow, Cond.code yX7_leasesNow cX7_leasesNow 3 (some .int), Cond.methodLink RL 58 yX6_pass, Cond.instanceMethod yX6_pass, Cond.selects RX6 yX6_pass yX6_pass, Cond.code yX6_pass cX6_pass 2 (some .int), Cond.methodLink RX6 80 yX4_passHours, Cond.instanceMethod yX4_passHours, Cond.selects RX4 yX4_passHours yX4_passHours]
def wsL_law_r22 : List Cond := [Cond.code yX4_passHours cX4_passHours 4 (some .int), Cond.methodLink RX4 164 yX4_passOneHour, Cond.instanceMethod yX4_passOneHour, Cond.selects RX4 yX4_passOneHour yX4_passOneHour, Cond.code yX4_passOneHour cX4_passOneHour 3 (some .int), Cond.methodLink RX4 167 yX4_endLeases, Cond.instanceMethod yX4_endLeases, Cond.selects RX4 yX4_endLeases yX4_endLeases, Cond.code yX4_endLeases cX4_endLeases 2 none, Cond.methodLink RX4 170 yX4_asksNow, Cond.instanceMethod yX4_asksNow, Cond.selects RX4 yX4_asksNow yX4_asksNow, Cond.code yX4_asksNow cX4_asksNow 2 (some .boolean), Cond.methodLink RX4 173 yX4_hopOrStrike, Cond.instanceMethod yX4_hopOrStrike, Cond.selects RX4 yX4_hopOrStrike yX4_hopOrStrike, Cond.code yX4_hopOrStrike cX4_hopOrStrike 4 (some .int), Cond.methodLink RX4 177 yX4_cutLeases, Cond.instanceMethod yX4_cutLeases, Cond.selects RX4 yX4_cutLeases yX4_cutLeases, Cond.code yX4_cutLeases cX4_cutLeases 2 none, Cond.methodLink RL 61 yX7_pass, Cond.instanceMethod yX7_pass, Cond.selects RX7 yX7_pass yX7_pass]
def wsL_law_r23 : List Cond := [Cond.code yX7_pass cX7_pass 4 (some .int), Cond.methodLink RX7 149 yX7_passesOne, Cond.instanceMethod yX7_passesOne, Cond.selects RX7 yX7_passesOne yX7_passesOne, Cond.code yX7_passesOne cX7_passesOne 3 (some .int), Cond.methodLink RX7 109 yX7_asks, Cond.instanceMethod yX7_asks, Cond.selects RX7 yX7_asks yX7_asks, Cond.code yX7_asks cX7_asks 4 (some .int), Cond.methodLink RL 62 yX6_append, Cond.instanceMethod yX6_append, Cond.selects RX6 yX6_append yX6_append, Cond.code yX6_append cX6_append 2 (some .int), Cond.methodLink RX6 83 yX0_add, Cond.instanceMethod yX0_add, Cond.selects RX0 yX0_add yX0_add, Cond.code yX0_add cX0_add 2 (some .int), Cond.fieldLink RX0 23 "VacantAir$ActText" "length" "I", Cond.methodLink RL 65 yX7_append, Cond.instanceMethod yX7_append, Cond.selects RX7 yX7_append yX7_append, Cond.code yX7_append cX7_append 2 (some .int), Cond.fieldLink RX7 152 "VacantAirModel" "typed" "I", Cond.methodLink RL 66 yX6_clearText]
def wsL_law_r24 : List Cond := [Cond.instanceMethod yX6_clearText, Cond.selects RX6 yX6_clearText yX6_clearText, Cond.code yX6_clearText cX6_clearText 1 (some .int), Cond.methodLink RX6 86 yX0_empty, Cond.instanceMethod yX0_empty, Cond.selects RX0 yX0_empty yX0_empty, Cond.code yX0_empty cX0_empty 2 (some .int), Cond.methodLink RL 70 yX7_clearText, Cond.instanceMethod yX7_clearText, Cond.selects RX7 yX7_clearText yX7_clearText, Cond.code yX7_clearText cX7_clearText 2 (some .int), Cond.methodLink RL 71 yX6_faultPosition, Cond.instanceMethod yX6_faultPosition, Cond.selects RX6 yX6_faultPosition yX6_faultPosition, Cond.code yX6_faultPosition cX6_faultPosition 1 (some .int), Cond.methodLink RX6 90 yX0_findFault, Cond.instanceMethod yX0_findFault, Cond.selects RX0 yX0_findFault yX0_findFault, Cond.code yX0_findFault cX0_findFault 2 (some .int), Cond.methodLink RX0 26 yX0_startReading, Cond.instanceMethod yX0_startReading, Cond.selects RX0 yX0_startReading yX0_startReading, Cond.code yX0_startReading cX0_startReading 1 none, Cond.fieldLink RX0 36 "VacantAir$ActText" "place" "I"]
def wsL_law_r25 : List Cond := [Cond.methodLink RX0 29 yX0_hasMore, Cond.instanceMethod yX0_hasMore, Cond.selects RX0 yX0_hasMore yX0_hasMore, Cond.code yX0_hasMore cX0_hasMore 1 (some .boolean), Cond.methodLink RX0 33 yX0_readAct, Cond.instanceMethod yX0_readAct, Cond.selects RX0 yX0_readAct yX0_readAct, Cond.code yX0_readAct cX0_readAct 1 none, Cond.fieldLink RX0 39 "VacantAir$ActText" "kind" "I", Cond.fieldLink RX0 46 "VacantAir$ActText" "first" "I", Cond.fieldLink RX0 53 "VacantAir$ActText" "second" "I", Cond.fieldLink RX0 56 "VacantAir$ActText" "third" "I", Cond.methodLink RX0 42 yX0_readNumber, Cond.instanceMethod yX0_readNumber, Cond.selects RX0 yX0_readNumber yX0_readNumber, Cond.code yX0_readNumber cX0_readNumber 5 (some .int), Cond.methodLink RX0 59 yX0_isDigitAt, Cond.instanceMethod yX0_isDigitAt, Cond.selects RX0 yX0_isDigitAt yX0_isDigitAt, Cond.code yX0_isDigitAt cX0_isDigitAt 2 (some .boolean), Cond.methodLink RX0 49 yX0_readByte, Cond.instanceMethod yX0_readByte, Cond.selects RX0 yX0_readByte yX0_readByte, Cond.code yX0_readByte cX0_readByte 2 none]
def wsL_law_r26 : List Cond := [Cond.methodLink RL 74 yX7_faultPosition, Cond.instanceMethod yX7_faultPosition, Cond.selects RX7 yX7_faultPosition yX7_faultPosition, Cond.code yX7_faultPosition cX7_faultPosition 2 (some .int), Cond.fieldLink RX7 155 "VacantAirModel" "at" "I", Cond.methodLink RX7 176 yX7_reads, Cond.instanceMethod yX7_reads, Cond.selects RX7 yX7_reads yX7_reads, Cond.code yX7_reads cX7_reads 2 (some .boolean), Cond.fieldLink RX7 164 "VacantAirModel" "first" "I", Cond.fieldLink RX7 170 "VacantAirModel" "second" "I", Cond.fieldLink RX7 173 "VacantAirModel" "third" "I", Cond.methodLink RX7 161 yX7_number, Cond.instanceMethod yX7_number, Cond.selects RX7 yX7_number yX7_number, Cond.code yX7_number cX7_number 5 (some .int), Cond.methodLink RX7 158 yX7_isAt, Cond.instanceMethod yX7_isAt, Cond.selects RX7 yX7_isAt yX7_isAt, Cond.code yX7_isAt cX7_isAt 3 (some .boolean), Cond.methodLink RX7 167 yX7_takes, Cond.instanceMethod yX7_takes, Cond.selects RX7 yX7_takes yX7_takes, Cond.code yX7_takes cX7_takes 3 (some .boolean)]
def wsL_law_r27 : List Cond := [Cond.methodLink RL 75 yX6_run, Cond.instanceMethod yX6_run, Cond.selects RX6 yX6_run yX6_run, Cond.code yX6_run cX6_run 4 (some .int), Cond.fieldLink RX6 103 "VacantAir$ActText" "kind" "I", Cond.fieldLink RX6 107 "VacantAir$ActText" "first" "I", Cond.fieldLink RX6 110 "VacantAir$ActText" "second" "I", Cond.fieldLink RX6 113 "VacantAir$ActText" "third" "I", Cond.methodLink RX6 93 yX0_startReading, Cond.methodLink RX6 96 yX0_hasMore, Cond.methodLink RX6 100 yX0_readAct, Cond.methodLink RL 78 yX7_run, Cond.instanceMethod yX7_run, Cond.selects RX7 yX7_run yX7_run, Cond.code yX7_run cX7_run 4 (some .int), Cond.methodLink RX7 196 yX7_faultPosition, Cond.methodLink RX7 199 yX7_does, Cond.instanceMethod yX7_does, Cond.selects RX7 yX7_does yX7_does, Cond.code yX7_does cX7_does 2 (some .int), Cond.methodLink RX7 180 yX7_lease, Cond.methodLink RX7 184 yX7_giveBack, Cond.methodLink RX7 187 yX7_wake, Cond.methodLink RX7 190 yX7_sleep]
def wsL_law_r28 : List Cond := [Cond.methodLink RX7 193 yX7_pass, Cond.methodLink RL 79 yX6_undo, Cond.instanceMethod yX6_undo, Cond.selects RX6 yX6_undo yX6_undo, Cond.code yX6_undo cX6_undo 1 (some .int), Cond.fieldLink RX6 116 "VacantAir$History" "count" "I", Cond.methodLink RX6 119 yX3_takeLatest, Cond.instanceMethod yX3_takeLatest, Cond.selects RX3 yX3_takeLatest yX3_takeLatest, Cond.code yX3_takeLatest cX3_takeLatest 2 none, Cond.methodLink RL 82 yX7_undo, Cond.instanceMethod yX7_undo, Cond.selects RX7 yX7_undo yX7_undo, Cond.code yX7_undo cX7_undo 2 (some .int), Cond.methodLink RL 83 yX6_save, Cond.instanceMethod yX6_save, Cond.selects RX6 yX6_save yX6_save, Cond.code yX6_save cX6_save 2 (some .int), Cond.fieldLink RX6 129 "VacantAir$State" "hour" "I", Cond.methodLink RX6 126 yX4_copyFrom, Cond.methodLink RL 86 yX7_save, Cond.instanceMethod yX7_save, Cond.selects RX7 yX7_save yX7_save, Cond.code yX7_save cX7_save 3 (some .int)]
def wsL_law_r29 : List Cond := [Cond.methodLink RL 87 yX6_restore, Cond.instanceMethod yX6_restore, Cond.selects RX6 yX6_restore yX6_restore, Cond.code yX6_restore cX6_restore 2 (some .int), Cond.methodLink RL 90 yX7_restore, Cond.instanceMethod yX7_restore, Cond.selects RX7 yX7_restore yX7_restore, Cond.code yX7_restore cX7_restore 3 (some .int), Cond.methodLink RL 91 yX6_station, Cond.instanceMethod yX6_station, Cond.selects RX6 yX6_station yX6_station, Cond.code yX6_station cX6_station 3 (some .int), Cond.fieldLink RX6 132 "VacantAir$State" "stations" "LVacantAir$Stations;", Cond.methodLink RX6 136 yX5_has, Cond.methodLink RX6 142 yX6_barredAlone, Cond.instanceMethod yX6_barredAlone, Cond.selects RX6 yX6_barredAlone yX6_barredAlone, Cond.code yX6_barredAlone cX6_barredAlone 4 (some .int), Cond.fieldLink RX6 196 "VacantAir$Stations" "awake" "[I", Cond.fieldLink RX6 157 "VacantAir$State" "devices" "LVacantAir$Devices;", Cond.fieldLink RX6 199 "VacantAir$Devices" "count" "I", Cond.methodLink RX6 206 yX1_hasLease, Cond.methodLink RX6 218 yX4_leaseIsAllowed, Cond.methodLink RX6 145 yX5_tell]
def wsL_law_r30 : List Cond := [Cond.instanceMethod yX5_tell, Cond.selects RX5 yX5_tell yX5_tell, Cond.code yX5_tell cX5_tell 3 (some .int), Cond.methodLink RL 94 yX7_station, Cond.instanceMethod yX7_station, Cond.selects RX7 yX7_station yX7_station, Cond.code yX7_station cX7_station 3 (some .int), Cond.methodLink RX7 202 yX7_onAccount, Cond.instanceMethod yX7_onAccount, Cond.selects RX7 yX7_onAccount yX7_onAccount, Cond.code yX7_onAccount cX7_onAccount 4 (some .int), Cond.methodLink RL 95 yX6_event, Cond.instanceMethod yX6_event, Cond.selects RX6 yX6_event yX6_event, Cond.code yX6_event cX6_event 3 (some .int), Cond.fieldLink RX6 148 "VacantAir$State" "events" "LVacantAir$Events;", Cond.methodLink RX6 152 yX2_has, Cond.methodLink RX6 155 yX2_tell, Cond.instanceMethod yX2_tell, Cond.selects RX2 yX2_tell yX2_tell, Cond.code yX2_tell cX2_tell 4 (some .int), Cond.methodLink RX2 37 yX2_isOn, Cond.methodLink RL 98 yX7_event, Cond.instanceMethod yX7_event]
def wsL_law_r31 : List Cond := [Cond.selects RX7 yX7_event yX7_event, Cond.code yX7_event cX7_event 3 (some .int), Cond.methodLink RL 99 yX6_device, Cond.instanceMethod yX6_device, Cond.selects RX6 yX6_device yX6_device, Cond.code yX6_device cX6_device 3 (some .int), Cond.methodLink RX6 161 yX1_has, Cond.methodLink RX6 164 yX4_nextAsking, Cond.instanceMethod yX4_nextAsking, Cond.selects RX4 yX4_nextAsking yX4_nextAsking, Cond.code yX4_nextAsking cX4_nextAsking 2 (some .int), Cond.methodLink RX6 167 yX1_tell, Cond.instanceMethod yX1_tell, Cond.selects RX1 yX1_tell yX1_tell, Cond.code yX1_tell cX1_tell 3 (some .int), Cond.methodLink RL 102 yX7_device, Cond.instanceMethod yX7_device, Cond.selects RX7 yX7_device yX7_device, Cond.code yX7_device cX7_device 3 (some .int), Cond.methodLink RX7 205 yX7_nextAsk, Cond.instanceMethod yX7_nextAsk, Cond.selects RX7 yX7_nextAsk yX7_nextAsk, Cond.code yX7_nextAsk cX7_nextAsk 3 (some .int), Cond.methodLink RL 103 yX6_power]
def wsL_law_r32 : List Cond := [Cond.instanceMethod yX6_power, Cond.selects RX6 yX6_power yX6_power, Cond.code yX6_power cX6_power 5 (some .int), Cond.methodLink RX6 168 yX6_isNoPlace, Cond.methodLink RX6 172 yX4_isAllowed, Cond.methodLink RL 106 yX7_power, Cond.instanceMethod yX7_power, Cond.selects RX7 yX7_power yX7_power, Cond.code yX7_power cX7_power 6 (some .int), Cond.methodLink RL 107 yX6_offer, Cond.instanceMethod yX6_offer, Cond.selects RX6 yX6_offer yX6_offer, Cond.code yX6_offer cX6_offer 3 (some .int), Cond.methodLink RX6 176 yX4_findOffer, Cond.methodLink RL 110 yX7_offer, Cond.instanceMethod yX7_offer, Cond.selects RX7 yX7_offer yX7_offer, Cond.code yX7_offer cX7_offer 3 (some .int), Cond.methodLink RL 111 yX6_next, Cond.instanceMethod yX6_next, Cond.selects RX6 yX6_next yX6_next, Cond.code yX6_next cX6_next 2 (some .int), Cond.methodLink RX6 179 yX1_atPlace, Cond.instanceMethod yX1_atPlace]
def wsL_law_r33 : List Cond := [Cond.selects RX1 yX1_atPlace yX1_atPlace, Cond.code yX1_atPlace cX1_atPlace 3 (some .int), Cond.methodLink RX1 53 yX1_placeOf, Cond.instanceMethod yX1_placeOf, Cond.selects RX1 yX1_placeOf yX1_placeOf, Cond.code yX1_placeOf cX1_placeOf 4 (some .int), Cond.methodLink RX1 57 yX1_comesBefore, Cond.instanceMethod yX1_comesBefore, Cond.selects RX1 yX1_comesBefore yX1_comesBefore, Cond.code yX1_comesBefore cX1_comesBefore 3 (some .boolean), Cond.methodLink RL 114 yX7_next, Cond.instanceMethod yX7_next, Cond.selects RX7 yX7_next yX7_next, Cond.code yX7_next cX7_next 6 (some .int), Cond.methodLink RX7 208 yX7_isAhead, Cond.instanceMethod yX7_isAhead, Cond.selects RX7 yX7_isAhead yX7_isAhead, Cond.code yX7_isAhead cX7_isAhead 4 (some .boolean), Cond.methodLink RL 115 yX6_leases, Cond.instanceMethod yX6_leases, Cond.selects RX6 yX6_leases yX6_leases, Cond.code yX6_leases cX6_leases 2 (some .int), Cond.methodLink RX6 182 yX1_countOn, Cond.methodLink RL 118 yX7_leases]
def wsL_law_r34 : List Cond := [Cond.instanceMethod yX7_leases, Cond.selects RX7 yX7_leases yX7_leases, Cond.code yX7_leases cX7_leases 2 (some .int), Cond.methodLink RL 119 yX6_total, Cond.instanceMethod yX6_total, Cond.selects RX6 yX6_total yX6_total, Cond.code yX6_total cX6_total 2 (some .int), Cond.fieldLink RX6 185 "VacantAir$ActText" "length" "I", Cond.methodLink RX6 188 yX4_tellTotal, Cond.instanceMethod yX4_tellTotal, Cond.selects RX4 yX4_tellTotal yX4_tellTotal, Cond.code yX4_tellTotal cX4_tellTotal 2 (some .int), Cond.methodLink RX4 217 yX5_countAwake, Cond.instanceMethod yX5_countAwake, Cond.selects RX5 yX5_countAwake yX5_countAwake, Cond.code yX5_countAwake cX5_countAwake 3 (some .int), Cond.methodLink RX4 220 yX1_sumOf, Cond.instanceMethod yX1_sumOf, Cond.selects RX1 yX1_sumOf yX1_sumOf, Cond.code yX1_sumOf cX1_sumOf 4 (some .int), Cond.methodLink RL 122 yX7_total, Cond.instanceMethod yX7_total, Cond.selects RX7 yX7_total yX7_total, Cond.code yX7_total cX7_total 2 (some .int)]
def wsL_law_r35 : List Cond := [Cond.methodLink RX7 211 yX7_awake, Cond.instanceMethod yX7_awake, Cond.selects RX7 yX7_awake yX7_awake, Cond.code yX7_awake cX7_awake 3 (some .int), Cond.methodLink RX7 214 yX7_sumOf, Cond.instanceMethod yX7_sumOf, Cond.selects RX7 yX7_sumOf yX7_sumOf, Cond.code yX7_sumOf cX7_sumOf 4 (some .int), Cond.methodLink RL 123 yX6_vacant, Cond.instanceMethod yX6_vacant, Cond.selects RX6 yX6_vacant yX6_vacant, Cond.code yX6_vacant cX6_vacant 6 (some .int), Cond.methodLink RL 126 yX7_vacant, Cond.instanceMethod yX7_vacant, Cond.selects RX7 yX7_vacant yX7_vacant, Cond.code yX7_vacant cX7_vacant 5 (some .int), Cond.methodLink RL 127 yX6_allowedFrom, Cond.instanceMethod yX6_allowedFrom, Cond.selects RX6 yX6_allowedFrom yX6_allowedFrom, Cond.code yX6_allowedFrom cX6_allowedFrom 8 (some .int), Cond.fieldLink RX6 191 "VacantAir$Events" "count" "I", Cond.fieldLink RX6 192 "VacantAir$Events" "to" "[I", Cond.methodLink RL 130 yX7_allowedFrom, Cond.instanceMethod yX7_allowedFrom]
def wsL_law_r36 : List Cond := [Cond.selects RX7 yX7_allowedFrom yX7_allowedFrom, Cond.code yX7_allowedFrom cX7_allowedFrom 7 (some .int), Cond.methodLink RL 131 yX6_wouldStrike, Cond.instanceMethod yX6_wouldStrike, Cond.selects RX6 yX6_wouldStrike yX6_wouldStrike, Cond.code yX6_wouldStrike cX6_wouldStrike 4 (some .int), Cond.methodLink RX6 200 yX1_hasNotice, Cond.methodLink RL 134 yX7_wouldStrike, Cond.instanceMethod yX7_wouldStrike, Cond.selects RX7 yX7_wouldStrike yX7_wouldStrike, Cond.code yX7_wouldStrike cX7_wouldStrike 4 (some .int), Cond.methodLink RL 135 yX6_channelIn, Cond.instanceMethod yX6_channelIn, Cond.selects RX6 yX6_channelIn yX6_channelIn, Cond.code yX6_channelIn cX6_channelIn 4 (some .int), Cond.fieldLink RX6 209 "VacantAir$Devices" "channel" "[I", Cond.methodLink RX6 203 yX4_passOneHour, Cond.methodLink RL 138 yX7_channelIn, Cond.instanceMethod yX7_channelIn, Cond.selects RX7 yX7_channelIn yX7_channelIn, Cond.code yX7_channelIn cX7_channelIn 5 (some .int), Cond.methodLink RX7 217 yX7_holds, Cond.instanceMethod yX7_holds, Cond.selects RX7 yX7_holds yX7_holds]
def wsL_law_r37 : List Cond := [Cond.code yX7_holds cX7_holds 2 none, Cond.methodLink RX7 220 yX7_lets, Cond.instanceMethod yX7_lets, Cond.selects RX7 yX7_lets yX7_lets, Cond.code yX7_lets cX7_lets 2 none, Cond.methodLink RL 139 yX6_clearIn, Cond.instanceMethod yX6_clearIn, Cond.selects RX6 yX6_clearIn yX6_clearIn, Cond.code yX6_clearIn cX6_clearIn 2 (some .int), Cond.methodLink RX6 212 yX1_countNotices, Cond.methodLink RL 142 yX7_clearIn, Cond.instanceMethod yX7_clearIn, Cond.selects RX7 yX7_clearIn yX7_clearIn, Cond.code yX7_clearIn cX7_clearIn 3 (some .int)]
def wsL_law : List Cond := (wsL_law_r1 ++ (wsL_law_r2 ++ (wsL_law_r3 ++ (wsL_law_r4 ++ (wsL_law_r5 ++ (wsL_law_r6 ++ (wsL_law_r7 ++ (wsL_law_r8 ++ (wsL_law_r9 ++ (wsL_law_r10 ++ (wsL_law_r11 ++ (wsL_law_r12 ++ (wsL_law_r13 ++ (wsL_law_r14 ++ (wsL_law_r15 ++ (wsL_law_r16 ++ (wsL_law_r17 ++ (wsL_law_r18 ++ (wsL_law_r19 ++ (wsL_law_r20 ++ (wsL_law_r21 ++ (wsL_law_r22 ++ (wsL_law_r23 ++ (wsL_law_r24 ++ (wsL_law_r25 ++ (wsL_law_r26 ++ (wsL_law_r27 ++ (wsL_law_r28 ++ (wsL_law_r29 ++ (wsL_law_r30 ++ (wsL_law_r31 ++ (wsL_law_r32 ++ (wsL_law_r33 ++ (wsL_law_r34 ++ (wsL_law_r35 ++ (wsL_law_r36 ++ wsL_law_r37)))))))))))))))))))))))))))))))))))) ++ wsX60 ++ wsX70 ++ wsX40 ++ wsX30 ++ wsX00 ++ wsX50 ++ wsX20 ++ wsX10 ++ ([] : List Cond)
set_option maxRecDepth 20000 in
theorem wsL_in_1 : ∀ w ∈ wsL_law_r1, w ∈ lw_tbl := fun w h => (goodIn_p wsL_law_r1 [71, 74] (by decide +kernel) (by decide +kernel) w h).1
set_option maxRecDepth 20000 in
theorem wsL_in_2 : ∀ w ∈ wsL_law_r2, w ∈ lw_tbl := fun w h => (goodIn_p wsL_law_r2 [79, 85] (by decide +kernel) (by decide +kernel) w h).1
set_option maxRecDepth 20000 in
theorem wsL_in_3 : ∀ w ∈ wsL_law_r3, w ∈ lw_tbl := fun w h => (goodIn_p wsL_law_r3 [118, 159] (by decide +kernel) (by decide +kernel) w h).1
set_option maxRecDepth 20000 in
theorem wsL_in_4 : ∀ w ∈ wsL_law_r4, w ∈ lw_tbl := fun w h => (goodIn_p wsL_law_r4 [237, 257, 736] (by decide +kernel) (by decide +kernel) w h).1
set_option maxRecDepth 20000 in
theorem wsL_in_5 : ∀ w ∈ wsL_law_r5, w ∈ lw_tbl := fun w h => (goodIn_p wsL_law_r5 [312, 316, 320, 324] (by decide +kernel) (by decide +kernel) w h).1
set_option maxRecDepth 20000 in
theorem wsL_in_6 : ∀ w ∈ wsL_law_r6, w ∈ lw_tbl := fun w h => (goodIn_p wsL_law_r6 [327, 330, 337, 342, 348] (by decide +kernel) (by decide +kernel) w h).1
set_option maxRecDepth 20000 in
theorem wsL_in_7 : ∀ w ∈ wsL_law_r7, w ∈ lw_tbl := fun w h => (goodIn_p wsL_law_r7 [351, 354, 359, 363, 781] (by decide +kernel) (by decide +kernel) w h).1
set_option maxRecDepth 20000 in
theorem wsL_in_8 : ∀ w ∈ wsL_law_r8, w ∈ lw_tbl := fun w h => (goodIn_p wsL_law_r8 [784, 787, 790, 794, 367, 371] (by decide +kernel) (by decide +kernel) w h).1
set_option maxRecDepth 20000 in
theorem wsL_in_9 : ∀ w ∈ wsL_law_r9, w ∈ lw_tbl := fun w h => (goodIn_p wsL_law_r9 [375, 379, 383] (by decide +kernel) (by decide +kernel) w h).1
set_option maxRecDepth 20000 in
theorem wsL_in_10 : ∀ w ∈ wsL_law_r10, w ∈ lw_tbl := fun w h => (goodIn_p wsL_law_r10 [387, 391, 398, 402, 406, 798] (by decide +kernel) (by decide +kernel) w h).1
set_option maxRecDepth 20000 in
theorem wsL_in_11 : ∀ w ∈ wsL_law_r11, w ∈ lw_tbl := fun w h => (goodIn_p wsL_law_r11 [802, 806, 810, 814, 818, 822] (by decide +kernel) (by decide +kernel) w h).1
set_option maxRecDepth 20000 in
theorem wsL_in_12 : ∀ w ∈ wsL_law_r12, w ∈ lw_tbl := fun w h => (goodIn_p wsL_law_r12 [826, 830, 834, 837, 840, 843, 847] (by decide +kernel) (by decide +kernel) w h).1
set_option maxRecDepth 20000 in
theorem wsL_in_13 : ∀ w ∈ wsL_law_r13, w ∈ lw_tbl := fun w h => (goodIn_p wsL_law_r13 [851, 855, 859, 410, 414] (by decide +kernel) (by decide +kernel) w h).1
set_option maxRecDepth 20000 in
theorem wsL_in_14 : ∀ w ∈ wsL_law_r14, w ∈ lw_tbl := fun w h => (goodIn_p wsL_law_r14 [418, 863, 866, 870, 422, 426] (by decide +kernel) (by decide +kernel) w h).1
set_option maxRecDepth 20000 in
theorem wsL_in_15 : ∀ w ∈ wsL_law_r15, w ∈ lw_tbl := fun w h => (goodIn_p wsL_law_r15 [874, 434, 438, 442, 446, 878] (by decide +kernel) (by decide +kernel) w h).1
set_option maxRecDepth 20000 in
theorem wsL_in_16 : ∀ w ∈ wsL_law_r16, w ∈ lw_tbl := fun w h => (goodIn_p wsL_law_r16 [882, 886, 890, 451, 894, 455] (by decide +kernel) (by decide +kernel) w h).1
set_option maxRecDepth 20000 in
theorem wsL_in_17 : ∀ w ∈ wsL_law_r17, w ∈ lw_tbl := fun w h => (goodIn_p wsL_law_r17 [459, 463, 898, 902, 467, 471] (by decide +kernel) (by decide +kernel) w h).1
set_option maxRecDepth 20000 in
theorem wsL_in_18 : ∀ w ∈ wsL_law_r18, w ∈ lw_tbl := fun w h => (goodIn_p wsL_law_r18 [475, 479, 483, 487, 491, 495] (by decide +kernel) (by decide +kernel) w h).1
set_option maxRecDepth 20000 in
theorem wsL_in_19 : ∀ w ∈ wsL_law_r19, w ∈ lw_tbl := fun w h => (goodIn_p wsL_law_r19 [499, 906, 910, 914, 918, 922] (by decide +kernel) (by decide +kernel) w h).1
set_option maxRecDepth 20000 in
theorem wsL_in_20 : ∀ w ∈ wsL_law_r20, w ∈ lw_tbl := fun w h => (goodIn_p wsL_law_r20 [926, 930, 503, 507, 934, 511] (by decide +kernel) (by decide +kernel) w h).1
set_option maxRecDepth 20000 in
theorem wsL_in_21 : ∀ w ∈ wsL_law_r21, w ∈ lw_tbl := fun w h => (goodIn_p wsL_law_r21 [515, 519, 938, 942, 524] (by decide +kernel) (by decide +kernel) w h).1
set_option maxRecDepth 20000 in
theorem wsL_in_22 : ∀ w ∈ wsL_law_r22, w ∈ lw_tbl := fun w h => (goodIn_p wsL_law_r22 [528, 532, 536, 540, 544, 548] (by decide +kernel) (by decide +kernel) w h).1
set_option maxRecDepth 20000 in
theorem wsL_in_23 : ∀ w ∈ wsL_law_r23, w ∈ lw_tbl := fun w h => (goodIn_p wsL_law_r23 [946, 950, 954, 552, 556, 958] (by decide +kernel) (by decide +kernel) w h).1
set_option maxRecDepth 20000 in
theorem wsL_in_24 : ∀ w ∈ wsL_law_r24, w ∈ lw_tbl := fun w h => (goodIn_p wsL_law_r24 [561, 565, 962, 569, 573, 577] (by decide +kernel) (by decide +kernel) w h).1
set_option maxRecDepth 20000 in
theorem wsL_in_25 : ∀ w ∈ wsL_law_r25, w ∈ lw_tbl := fun w h => (goodIn_p wsL_law_r25 [581, 585, 589, 593, 597] (by decide +kernel) (by decide +kernel) w h).1
set_option maxRecDepth 20000 in
theorem wsL_in_26 : ∀ w ∈ wsL_law_r26, w ∈ lw_tbl := fun w h => (goodIn_p wsL_law_r26 [966, 970, 974, 978, 982] (by decide +kernel) (by decide +kernel) w h).1
set_option maxRecDepth 20000 in
theorem wsL_in_27 : ∀ w ∈ wsL_law_r27, w ∈ lw_tbl := fun w h => (goodIn_p wsL_law_r27 [601, 986, 991] (by decide +kernel) (by decide +kernel) w h).1
set_option maxRecDepth 20000 in
theorem wsL_in_28 : ∀ w ∈ wsL_law_r28, w ∈ lw_tbl := fun w h => (goodIn_p wsL_law_r28 [608, 612, 1000, 616, 1004] (by decide +kernel) (by decide +kernel) w h).1
set_option maxRecDepth 20000 in
theorem wsL_in_29 : ∀ w ∈ wsL_law_r29, w ∈ lw_tbl := fun w h => (goodIn_p wsL_law_r29 [621, 1008, 625, 630] (by decide +kernel) (by decide +kernel) w h).1
set_option maxRecDepth 20000 in
theorem wsL_in_30 : ∀ w ∈ wsL_law_r30, w ∈ lw_tbl := fun w h => (goodIn_p wsL_law_r30 [636, 1012, 1016, 641, 646] (by decide +kernel) (by decide +kernel) w h).1
set_option maxRecDepth 20000 in
theorem wsL_in_31 : ∀ w ∈ wsL_law_r31, w ∈ lw_tbl := fun w h => (goodIn_p wsL_law_r31 [1020, 651, 656, 660, 1024, 1028] (by decide +kernel) (by decide +kernel) w h).1
set_option maxRecDepth 20000 in
theorem wsL_in_32 : ∀ w ∈ wsL_law_r32, w ∈ lw_tbl := fun w h => (goodIn_p wsL_law_r32 [664, 1032, 670, 1036, 675] (by decide +kernel) (by decide +kernel) w h).1
set_option maxRecDepth 20000 in
theorem wsL_in_33 : ∀ w ∈ wsL_law_r33, w ∈ lw_tbl := fun w h => (goodIn_p wsL_law_r33 [679, 683, 687, 1040, 1044, 691] (by decide +kernel) (by decide +kernel) w h).1
set_option maxRecDepth 20000 in
theorem wsL_in_34 : ∀ w ∈ wsL_law_r34, w ∈ lw_tbl := fun w h => (goodIn_p wsL_law_r34 [1048, 696, 700, 704, 708, 1052] (by decide +kernel) (by decide +kernel) w h).1
set_option maxRecDepth 20000 in
theorem wsL_in_35 : ∀ w ∈ wsL_law_r35, w ∈ lw_tbl := fun w h => (goodIn_p wsL_law_r35 [1056, 1060, 712, 1064, 716] (by decide +kernel) (by decide +kernel) w h).1
set_option maxRecDepth 20000 in
theorem wsL_in_36 : ∀ w ∈ wsL_law_r36, w ∈ lw_tbl := fun w h => (goodIn_p wsL_law_r36 [1068, 720, 1072, 725, 1076] (by decide +kernel) (by decide +kernel) w h).1
set_option maxRecDepth 20000 in
theorem wsL_in_37 : ∀ w ∈ wsL_law_r37, w ∈ lw_tbl := fun w h => (goodIn_p wsL_law_r37 [1080, 1084, 730, 1088] (by decide +kernel) (by decide +kernel) w h).1
set_option maxRecDepth 20000 in
theorem inqwsX60 : ∀ w ∈ wsX60, w ∈ lw_tbl := by decide +kernel
set_option maxRecDepth 20000 in
theorem inqwsX70 : ∀ w ∈ wsX70, w ∈ lw_tbl := by decide +kernel
set_option maxRecDepth 20000 in
theorem inqwsX40 : ∀ w ∈ wsX40, w ∈ lw_tbl := by decide +kernel
set_option maxRecDepth 20000 in
theorem inqwsX30 : ∀ w ∈ wsX30, w ∈ lw_tbl := by decide +kernel
set_option maxRecDepth 20000 in
theorem inqwsX00 : ∀ w ∈ wsX00, w ∈ lw_tbl := by decide +kernel
set_option maxRecDepth 20000 in
theorem inqwsX50 : ∀ w ∈ wsX50, w ∈ lw_tbl := by decide +kernel
set_option maxRecDepth 20000 in
theorem inqwsX20 : ∀ w ∈ wsX20, w ∈ lw_tbl := by decide +kernel
set_option maxRecDepth 20000 in
theorem inqwsX10 : ∀ w ∈ wsX10, w ∈ lw_tbl := by decide +kernel
theorem wsL_law_in : ∀ w ∈ wsL_law, w ∈ lw_tbl := List.forall_mem_append.mpr ⟨List.forall_mem_append.mpr ⟨List.forall_mem_append.mpr ⟨List.forall_mem_append.mpr ⟨List.forall_mem_append.mpr ⟨List.forall_mem_append.mpr ⟨List.forall_mem_append.mpr ⟨List.forall_mem_append.mpr ⟨List.forall_mem_append.mpr ⟨List.forall_mem_append.mpr ⟨wsL_in_1, List.forall_mem_append.mpr ⟨wsL_in_2, List.forall_mem_append.mpr ⟨wsL_in_3, List.forall_mem_append.mpr ⟨wsL_in_4, List.forall_mem_append.mpr ⟨wsL_in_5, List.forall_mem_append.mpr ⟨wsL_in_6, List.forall_mem_append.mpr ⟨wsL_in_7, List.forall_mem_append.mpr ⟨wsL_in_8, List.forall_mem_append.mpr ⟨wsL_in_9, List.forall_mem_append.mpr ⟨wsL_in_10, List.forall_mem_append.mpr ⟨wsL_in_11, List.forall_mem_append.mpr ⟨wsL_in_12, List.forall_mem_append.mpr ⟨wsL_in_13, List.forall_mem_append.mpr ⟨wsL_in_14, List.forall_mem_append.mpr ⟨wsL_in_15, List.forall_mem_append.mpr ⟨wsL_in_16, List.forall_mem_append.mpr ⟨wsL_in_17, List.forall_mem_append.mpr ⟨wsL_in_18, List.forall_mem_append.mpr ⟨wsL_in_19, List.forall_mem_append.mpr ⟨wsL_in_20, List.forall_mem_append.mpr ⟨wsL_in_21, List.forall_mem_append.mpr ⟨wsL_in_22, List.forall_mem_append.mpr ⟨wsL_in_23, List.forall_mem_append.mpr ⟨wsL_in_24, List.forall_mem_append.mpr ⟨wsL_in_25, List.forall_mem_append.mpr ⟨wsL_in_26, List.forall_mem_append.mpr ⟨wsL_in_27, List.forall_mem_append.mpr ⟨wsL_in_28, List.forall_mem_append.mpr ⟨wsL_in_29, List.forall_mem_append.mpr ⟨wsL_in_30, List.forall_mem_append.mpr ⟨wsL_in_31, List.forall_mem_append.mpr ⟨wsL_in_32, List.forall_mem_append.mpr ⟨wsL_in_33, List.forall_mem_append.mpr ⟨wsL_in_34, List.forall_mem_append.mpr ⟨wsL_in_35, List.forall_mem_append.mpr ⟨wsL_in_36, wsL_in_37⟩⟩⟩⟩⟩⟩⟩⟩⟩⟩⟩⟩⟩⟩⟩⟩⟩⟩⟩⟩⟩⟩⟩⟩⟩⟩⟩⟩⟩⟩⟩⟩⟩⟩⟩⟩, inqwsX60⟩, inqwsX70⟩, inqwsX40⟩, inqwsX30⟩, inqwsX00⟩, inqwsX50⟩, inqwsX20⟩, inqwsX10⟩, fun _ h => absurd h List.not_mem_nil⟩
theorem inlX0 : ∀ w ∈ wsX00, w ∈ wsL_law := fun _ h => List.mem_append_left _ (List.mem_append_left _ (List.mem_append_left _ (List.mem_append_left _ (List.mem_append_right _ h))))
theorem inX0 : ∀ w ∈ wsX00, w ∈ lw_tbl := fun w h => wsL_law_in w (inlX0 w h)
theorem inlX1 : ∀ w ∈ wsX10, w ∈ wsL_law := fun _ h => List.mem_append_left _ (List.mem_append_right _ h)
theorem inX1 : ∀ w ∈ wsX10, w ∈ lw_tbl := fun w h => wsL_law_in w (inlX1 w h)
theorem inlX2 : ∀ w ∈ wsX20, w ∈ wsL_law := fun _ h => List.mem_append_left _ (List.mem_append_left _ (List.mem_append_right _ h))
theorem inX2 : ∀ w ∈ wsX20, w ∈ lw_tbl := fun w h => wsL_law_in w (inlX2 w h)
theorem inlX3 : ∀ w ∈ wsX30, w ∈ wsL_law := fun _ h => List.mem_append_left _ (List.mem_append_left _ (List.mem_append_left _ (List.mem_append_left _ (List.mem_append_left _ (List.mem_append_right _ h)))))
theorem inX3 : ∀ w ∈ wsX30, w ∈ lw_tbl := fun w h => wsL_law_in w (inlX3 w h)
theorem inlX4 : ∀ w ∈ wsX40, w ∈ wsL_law := fun _ h => List.mem_append_left _ (List.mem_append_left _ (List.mem_append_left _ (List.mem_append_left _ (List.mem_append_left _ (List.mem_append_left _ (List.mem_append_right _ h))))))
theorem inX4 : ∀ w ∈ wsX40, w ∈ lw_tbl := fun w h => wsL_law_in w (inlX4 w h)
theorem inlX5 : ∀ w ∈ wsX50, w ∈ wsL_law := fun _ h => List.mem_append_left _ (List.mem_append_left _ (List.mem_append_left _ (List.mem_append_right _ h)))
theorem inX5 : ∀ w ∈ wsX50, w ∈ lw_tbl := fun w h => wsL_law_in w (inlX5 w h)
theorem inlX6 : ∀ w ∈ wsX60, w ∈ wsL_law := fun _ h => List.mem_append_left _ (List.mem_append_left _ (List.mem_append_left _ (List.mem_append_left _ (List.mem_append_left _ (List.mem_append_left _ (List.mem_append_left _ (List.mem_append_left _ (List.mem_append_right _ h))))))))
theorem inX6 : ∀ w ∈ wsX60, w ∈ lw_tbl := fun w h => wsL_law_in w (inlX6 w h)
theorem inlX7 : ∀ w ∈ wsX70, w ∈ wsL_law := fun _ h => List.mem_append_left _ (List.mem_append_left _ (List.mem_append_left _ (List.mem_append_left _ (List.mem_append_left _ (List.mem_append_left _ (List.mem_append_left _ (List.mem_append_right _ h)))))))
theorem inX7 : ∀ w ∈ wsX70, w ∈ lw_tbl := fun w h => wsL_law_in w (inlX7 w h)
theorem inJ9 : ∀ w ∈ wsJ90, w ∈ lw_tbl := by decide +kernel
theorem inJ10 : ∀ w ∈ wsJ100, w ∈ lw_tbl := by decide +kernel
theorem dX0_init_0 : decode cX0_init 0 = .ok (.aload_n 0, 1) := by decide +kernel
theorem dX0_init_1 : decode cX0_init 1 = .ok (.invokespecial 3, 3) := by decide +kernel
theorem dX0_init_4 : decode cX0_init 4 = .ok (.aload_n 0, 1) := by decide +kernel
theorem dX0_init_5 : decode cX0_init 5 = .ok (.bipush 80, 2) := by decide +kernel
theorem dX0_init_7 : decode cX0_init 7 = .ok (.newarray .int, 2) := by decide +kernel
theorem dX0_init_9 : decode cX0_init 9 = .ok (.putfield 9, 3) := by decide +kernel
theorem dX0_init_12 : decode cX0_init 12 = .ok (.aload_n 0, 1) := by decide +kernel
theorem dX0_init_13 : decode cX0_init 13 = .ok (.bipush (-6), 2) := by decide +kernel
theorem dX0_init_15 : decode cX0_init 15 = .ok (.putfield 15, 3) := by decide +kernel
theorem dX0_init_18 : decode cX0_init 18 = .ok (.return_, 1) := by decide +kernel
theorem dX1_init_0 : decode cX1_init 0 = .ok (.aload_n 0, 1) := by decide +kernel
theorem dX1_init_1 : decode cX1_init 1 = .ok (.invokespecial 3, 3) := by decide +kernel
theorem dX1_init_4 : decode cX1_init 4 = .ok (.aload_n 0, 1) := by decide +kernel
theorem dX1_init_5 : decode cX1_init 5 = .ok (.bipush 16, 2) := by decide +kernel
theorem dX1_init_7 : decode cX1_init 7 = .ok (.newarray .int, 2) := by decide +kernel
theorem dX1_init_9 : decode cX1_init 9 = .ok (.putfield 9, 3) := by decide +kernel
theorem dX1_init_12 : decode cX1_init 12 = .ok (.aload_n 0, 1) := by decide +kernel
theorem dX1_init_13 : decode cX1_init 13 = .ok (.bipush 16, 2) := by decide +kernel
theorem dX1_init_15 : decode cX1_init 15 = .ok (.newarray .int, 2) := by decide +kernel
theorem dX1_init_17 : decode cX1_init 17 = .ok (.putfield 15, 3) := by decide +kernel
theorem dX1_init_20 : decode cX1_init 20 = .ok (.aload_n 0, 1) := by decide +kernel
theorem dX1_init_21 : decode cX1_init 21 = .ok (.bipush 16, 2) := by decide +kernel
theorem dX1_init_23 : decode cX1_init 23 = .ok (.newarray .int, 2) := by decide +kernel
theorem dX1_init_25 : decode cX1_init 25 = .ok (.putfield 18, 3) := by decide +kernel
theorem dX1_init_28 : decode cX1_init 28 = .ok (.aload_n 0, 1) := by decide +kernel
theorem dX1_init_29 : decode cX1_init 29 = .ok (.bipush 16, 2) := by decide +kernel
theorem dX1_init_31 : decode cX1_init 31 = .ok (.newarray .int, 2) := by decide +kernel
theorem dX1_init_33 : decode cX1_init 33 = .ok (.putfield 21, 3) := by decide +kernel
theorem dX1_init_36 : decode cX1_init 36 = .ok (.aload_n 0, 1) := by decide +kernel
theorem dX1_init_37 : decode cX1_init 37 = .ok (.bipush 16, 2) := by decide +kernel
theorem dX1_init_39 : decode cX1_init 39 = .ok (.newarray .int, 2) := by decide +kernel
theorem dX1_init_41 : decode cX1_init 41 = .ok (.putfield 24, 3) := by decide +kernel
theorem dX1_init_44 : decode cX1_init 44 = .ok (.aload_n 0, 1) := by decide +kernel
theorem dX1_init_45 : decode cX1_init 45 = .ok (.bipush 16, 2) := by decide +kernel
theorem dX1_init_47 : decode cX1_init 47 = .ok (.newarray .int, 2) := by decide +kernel
theorem dX1_init_49 : decode cX1_init 49 = .ok (.putfield 27, 3) := by decide +kernel
theorem dX1_init_52 : decode cX1_init 52 = .ok (.aload_n 0, 1) := by decide +kernel
theorem dX1_init_53 : decode cX1_init 53 = .ok (.bipush 16, 2) := by decide +kernel
theorem dX1_init_55 : decode cX1_init 55 = .ok (.newarray .int, 2) := by decide +kernel
theorem dX1_init_57 : decode cX1_init 57 = .ok (.putfield 30, 3) := by decide +kernel
theorem dX1_init_60 : decode cX1_init 60 = .ok (.aload_n 0, 1) := by decide +kernel
theorem dX1_init_61 : decode cX1_init 61 = .ok (.bipush 16, 2) := by decide +kernel
theorem dX1_init_63 : decode cX1_init 63 = .ok (.newarray .int, 2) := by decide +kernel
theorem dX1_init_65 : decode cX1_init 65 = .ok (.putfield 33, 3) := by decide +kernel
theorem dX1_init_68 : decode cX1_init 68 = .ok (.aload_n 0, 1) := by decide +kernel
theorem dX1_init_69 : decode cX1_init 69 = .ok (.bipush 16, 2) := by decide +kernel
theorem dX1_init_71 : decode cX1_init 71 = .ok (.newarray .int, 2) := by decide +kernel
theorem dX1_init_73 : decode cX1_init 73 = .ok (.putfield 36, 3) := by decide +kernel
theorem dX1_init_76 : decode cX1_init 76 = .ok (.aload_n 0, 1) := by decide +kernel
theorem dX1_init_77 : decode cX1_init 77 = .ok (.bipush 16, 2) := by decide +kernel
theorem dX1_init_79 : decode cX1_init 79 = .ok (.newarray .int, 2) := by decide +kernel
theorem dX1_init_81 : decode cX1_init 81 = .ok (.putfield 39, 3) := by decide +kernel
theorem dX1_init_84 : decode cX1_init 84 = .ok (.return_, 1) := by decide +kernel
theorem dX2_init_0 : decode cX2_init 0 = .ok (.aload_n 0, 1) := by decide +kernel
theorem dX2_init_1 : decode cX2_init 1 = .ok (.invokespecial 3, 3) := by decide +kernel
theorem dX2_init_4 : decode cX2_init 4 = .ok (.aload_n 0, 1) := by decide +kernel
theorem dX2_init_5 : decode cX2_init 5 = .ok (.bipush 8, 2) := by decide +kernel
theorem dX2_init_7 : decode cX2_init 7 = .ok (.newarray .int, 2) := by decide +kernel
theorem dX2_init_9 : decode cX2_init 9 = .ok (.putfield 9, 3) := by decide +kernel
theorem dX2_init_12 : decode cX2_init 12 = .ok (.aload_n 0, 1) := by decide +kernel
theorem dX2_init_13 : decode cX2_init 13 = .ok (.bipush 8, 2) := by decide +kernel
theorem dX2_init_15 : decode cX2_init 15 = .ok (.newarray .int, 2) := by decide +kernel
theorem dX2_init_17 : decode cX2_init 17 = .ok (.putfield 15, 3) := by decide +kernel
theorem dX2_init_20 : decode cX2_init 20 = .ok (.aload_n 0, 1) := by decide +kernel
theorem dX2_init_21 : decode cX2_init 21 = .ok (.bipush 8, 2) := by decide +kernel
theorem dX2_init_23 : decode cX2_init 23 = .ok (.newarray .int, 2) := by decide +kernel
theorem dX2_init_25 : decode cX2_init 25 = .ok (.putfield 18, 3) := by decide +kernel
theorem dX2_init_28 : decode cX2_init 28 = .ok (.aload_n 0, 1) := by decide +kernel
theorem dX2_init_29 : decode cX2_init 29 = .ok (.bipush 8, 2) := by decide +kernel
theorem dX2_init_31 : decode cX2_init 31 = .ok (.newarray .int, 2) := by decide +kernel
theorem dX2_init_33 : decode cX2_init 33 = .ok (.putfield 21, 3) := by decide +kernel
theorem dX2_init_36 : decode cX2_init 36 = .ok (.aload_n 0, 1) := by decide +kernel
theorem dX2_init_37 : decode cX2_init 37 = .ok (.bipush 8, 2) := by decide +kernel
theorem dX2_init_39 : decode cX2_init 39 = .ok (.newarray .int, 2) := by decide +kernel
theorem dX2_init_41 : decode cX2_init 41 = .ok (.putfield 24, 3) := by decide +kernel
theorem dX2_init_44 : decode cX2_init 44 = .ok (.aload_n 0, 1) := by decide +kernel
theorem dX2_init_45 : decode cX2_init 45 = .ok (.bipush 8, 2) := by decide +kernel
theorem dX2_init_47 : decode cX2_init 47 = .ok (.newarray .int, 2) := by decide +kernel
theorem dX2_init_49 : decode cX2_init 49 = .ok (.putfield 27, 3) := by decide +kernel
theorem dX2_init_52 : decode cX2_init 52 = .ok (.aload_n 0, 1) := by decide +kernel
theorem dX2_init_53 : decode cX2_init 53 = .ok (.bipush 8, 2) := by decide +kernel
theorem dX2_init_55 : decode cX2_init 55 = .ok (.newarray .int, 2) := by decide +kernel
theorem dX2_init_57 : decode cX2_init 57 = .ok (.putfield 30, 3) := by decide +kernel
theorem dX2_init_60 : decode cX2_init 60 = .ok (.return_, 1) := by decide +kernel
set_option maxRecDepth 20000 in
theorem ggX3_init_X4_init : GoodIn wsX3_init wsX4_init := goodIn_r _ [10, 11, 2, 3, 12, 13, 14, 15, 16, 17, 18, 19, 20, 21, 22, 23, 24, 25, 26, 27, 28, 29, 30, 31, 32, 33, 34, 35, 36, 37, 38, 39, 40, 41, 42, 43, 44, 45, 46, 47, 48, 49, 50, 51, 52, 53, 54, 55, 56, 66, 67, 68, 69, 70, 71, 60, 61, 62, 63, 64, 65, 72, 73, 74, 75, 76, 77, 78, 79, 80, 81, 82, 83, 84, 85, 86, 87, 88, 89, 90] (by decide +kernel) (by decide +kernel)
set_option maxRecDepth 20000 in
theorem gX3_init_X4_init : GoodIn wsX3_init (wsX4_init) := ggX3_init_X4_init
theorem dX3_init_0 : decode cX3_init 0 = .ok (.aload_n 0, 1) := by decide +kernel
theorem dX3_init_1 : decode cX3_init 1 = .ok (.invokespecial 3, 3) := by decide +kernel
theorem dX3_init_4 : decode cX3_init 4 = .ok (.aload_n 0, 1) := by decide +kernel
theorem dX3_init_5 : decode cX3_init 5 = .ok (.bipush 6, 2) := by decide +kernel
theorem dX3_init_7 : decode cX3_init 7 = .ok (.anewarray 9, 3) := by decide +kernel
theorem dX3_init_10 : decode cX3_init 10 = .ok (.putfield 11, 3) := by decide +kernel
theorem dX3_init_13 : decode cX3_init 13 = .ok (.iconst 0, 1) := by decide +kernel
theorem dX3_init_14 : decode cX3_init 14 = .ok (.istore_n 1, 1) := by decide +kernel
theorem dX3_init_15 : decode cX3_init 15 = .ok (.iload_n 1, 1) := by decide +kernel
theorem dX3_init_16 : decode cX3_init 16 = .ok (.aload_n 0, 1) := by decide +kernel
theorem dX3_init_17 : decode cX3_init 17 = .ok (.getfield 11, 3) := by decide +kernel
theorem dX3_init_20 : decode cX3_init 20 = .ok (.arraylength, 1) := by decide +kernel
theorem dX3_init_21 : decode cX3_init 21 = .ok (.if_icmp .ge 22, 3) := by decide +kernel
theorem dX3_init_24 : decode cX3_init 24 = .ok (.aload_n 0, 1) := by decide +kernel
theorem dX3_init_25 : decode cX3_init 25 = .ok (.getfield 11, 3) := by decide +kernel
theorem dX3_init_28 : decode cX3_init 28 = .ok (.iload_n 1, 1) := by decide +kernel
theorem dX3_init_29 : decode cX3_init 29 = .ok (.new 9, 3) := by decide +kernel
theorem dX3_init_32 : decode cX3_init 32 = .ok (.dup, 1) := by decide +kernel
theorem dX3_init_33 : decode cX3_init 33 = .ok (.invokespecial 17, 3) := by decide +kernel
theorem dX3_init_36 : decode cX3_init 36 = .ok (.aastore, 1) := by decide +kernel
theorem dX3_init_37 : decode cX3_init 37 = .ok (.iinc 1 1, 3) := by decide +kernel
theorem dX3_init_40 : decode cX3_init 40 = .ok (.goto (-25), 3) := by decide +kernel
theorem dX3_init_43 : decode cX3_init 43 = .ok (.return_, 1) := by decide +kernel
set_option maxRecDepth 20000 in
theorem ggX4_init_X5_init : GoodIn wsX4_init wsX5_init := goodIn_r _ [19, 20, 2, 3, 16, 21, 22, 23, 24, 25, 49, 50, 51, 52, 53, 54] (by decide +kernel) (by decide +kernel)
set_option maxRecDepth 20000 in
theorem gX4_init_X5_init_n11 : GoodIn wsX4_init (wsX5_init) := ggX4_init_X5_init
set_option maxRecDepth 20000 in
theorem ggX4_init_X2_init : GoodIn wsX4_init wsX2_init := goodIn_r _ [27, 28, 2, 3, 16, 29, 30, 31, 32, 33, 34, 35, 61, 62, 63, 64, 65, 66, 67, 68] (by decide +kernel) (by decide +kernel)
set_option maxRecDepth 20000 in
theorem gX4_init_X2_init_n20 : GoodIn wsX4_init (wsX2_init) := ggX4_init_X2_init
set_option maxRecDepth 20000 in
theorem ggX4_init_X1_init : GoodIn wsX4_init wsX1_init := goodIn_r _ [37, 38, 2, 3, 16, 39, 40, 41, 42, 43, 44, 45, 46, 47, 48, 69, 70, 71, 72, 73, 74, 75, 76, 77, 78, 79] (by decide +kernel) (by decide +kernel)
set_option maxRecDepth 20000 in
theorem gX4_init_X1_init_n27 : GoodIn wsX4_init (wsX1_init) := ggX4_init_X1_init
theorem dX4_init_0 : decode cX4_init 0 = .ok (.aload_n 0, 1) := by decide +kernel
theorem dX4_init_1 : decode cX4_init 1 = .ok (.invokespecial 3, 3) := by decide +kernel
theorem dX4_init_4 : decode cX4_init 4 = .ok (.aload_n 0, 1) := by decide +kernel
theorem dX4_init_5 : decode cX4_init 5 = .ok (.new 9, 3) := by decide +kernel
theorem dX4_init_8 : decode cX4_init 8 = .ok (.dup, 1) := by decide +kernel
theorem dX4_init_9 : decode cX4_init 9 = .ok (.invokespecial 11, 3) := by decide +kernel
theorem dX4_init_12 : decode cX4_init 12 = .ok (.putfield 12, 3) := by decide +kernel
theorem dX4_init_15 : decode cX4_init 15 = .ok (.aload_n 0, 1) := by decide +kernel
theorem dX4_init_16 : decode cX4_init 16 = .ok (.new 18, 3) := by decide +kernel
theorem dX4_init_19 : decode cX4_init 19 = .ok (.dup, 1) := by decide +kernel
theorem dX4_init_20 : decode cX4_init 20 = .ok (.invokespecial 20, 3) := by decide +kernel
theorem dX4_init_23 : decode cX4_init 23 = .ok (.putfield 21, 3) := by decide +kernel
theorem dX4_init_26 : decode cX4_init 26 = .ok (.aload_n 0, 1) := by decide +kernel
theorem dX4_init_27 : decode cX4_init 27 = .ok (.new 25, 3) := by decide +kernel
theorem dX4_init_30 : decode cX4_init 30 = .ok (.dup, 1) := by decide +kernel
theorem dX4_init_31 : decode cX4_init 31 = .ok (.invokespecial 27, 3) := by decide +kernel
theorem dX4_init_34 : decode cX4_init 34 = .ok (.putfield 28, 3) := by decide +kernel
theorem dX4_init_37 : decode cX4_init 37 = .ok (.aload_n 0, 1) := by decide +kernel
theorem dX4_init_38 : decode cX4_init 38 = .ok (.iconst 3, 1) := by decide +kernel
theorem dX4_init_39 : decode cX4_init 39 = .ok (.newarray .int, 2) := by decide +kernel
theorem dX4_init_41 : decode cX4_init 41 = .ok (.putfield 32, 3) := by decide +kernel
theorem dX4_init_44 : decode cX4_init 44 = .ok (.iconst 0, 1) := by decide +kernel
theorem dX4_init_45 : decode cX4_init 45 = .ok (.istore_n 1, 1) := by decide +kernel
theorem dX4_init_46 : decode cX4_init 46 = .ok (.iload_n 1, 1) := by decide +kernel
theorem dX4_init_47 : decode cX4_init 47 = .ok (.iconst 3, 1) := by decide +kernel
theorem dX4_init_48 : decode cX4_init 48 = .ok (.if_icmp .ge 20, 3) := by decide +kernel
theorem dX4_init_51 : decode cX4_init 51 = .ok (.aload_n 0, 1) := by decide +kernel
theorem dX4_init_52 : decode cX4_init 52 = .ok (.getfield 32, 3) := by decide +kernel
theorem dX4_init_55 : decode cX4_init 55 = .ok (.iload_n 1, 1) := by decide +kernel
theorem dX4_init_56 : decode cX4_init 56 = .ok (.getstatic 36, 3) := by decide +kernel
theorem dX4_init_59 : decode cX4_init 59 = .ok (.iload_n 1, 1) := by decide +kernel
theorem dX4_init_60 : decode cX4_init 60 = .ok (.iaload, 1) := by decide +kernel
theorem dX4_init_61 : decode cX4_init 61 = .ok (.iastore, 1) := by decide +kernel
theorem dX4_init_62 : decode cX4_init 62 = .ok (.iinc 1 1, 3) := by decide +kernel
theorem dX4_init_65 : decode cX4_init 65 = .ok (.goto (-19), 3) := by decide +kernel
theorem dX4_init_68 : decode cX4_init 68 = .ok (.return_, 1) := by decide +kernel
theorem dX5_init_0 : decode cX5_init 0 = .ok (.aload_n 0, 1) := by decide +kernel
theorem dX5_init_1 : decode cX5_init 1 = .ok (.invokespecial 3, 3) := by decide +kernel
theorem dX5_init_4 : decode cX5_init 4 = .ok (.aload_n 0, 1) := by decide +kernel
theorem dX5_init_5 : decode cX5_init 5 = .ok (.bipush 8, 2) := by decide +kernel
theorem dX5_init_7 : decode cX5_init 7 = .ok (.newarray .int, 2) := by decide +kernel
theorem dX5_init_9 : decode cX5_init 9 = .ok (.putfield 9, 3) := by decide +kernel
theorem dX5_init_12 : decode cX5_init 12 = .ok (.aload_n 0, 1) := by decide +kernel
theorem dX5_init_13 : decode cX5_init 13 = .ok (.bipush 8, 2) := by decide +kernel
theorem dX5_init_15 : decode cX5_init 15 = .ok (.newarray .int, 2) := by decide +kernel
theorem dX5_init_17 : decode cX5_init 17 = .ok (.putfield 15, 3) := by decide +kernel
theorem dX5_init_20 : decode cX5_init 20 = .ok (.aload_n 0, 1) := by decide +kernel
theorem dX5_init_21 : decode cX5_init 21 = .ok (.bipush 8, 2) := by decide +kernel
theorem dX5_init_23 : decode cX5_init 23 = .ok (.newarray .int, 2) := by decide +kernel
theorem dX5_init_25 : decode cX5_init 25 = .ok (.putfield 18, 3) := by decide +kernel
theorem dX5_init_28 : decode cX5_init 28 = .ok (.aload_n 0, 1) := by decide +kernel
theorem dX5_init_29 : decode cX5_init 29 = .ok (.bipush 8, 2) := by decide +kernel
theorem dX5_init_31 : decode cX5_init 31 = .ok (.newarray .int, 2) := by decide +kernel
theorem dX5_init_33 : decode cX5_init 33 = .ok (.putfield 21, 3) := by decide +kernel
theorem dX5_init_36 : decode cX5_init 36 = .ok (.aload_n 0, 1) := by decide +kernel
theorem dX5_init_37 : decode cX5_init 37 = .ok (.bipush 8, 2) := by decide +kernel
theorem dX5_init_39 : decode cX5_init 39 = .ok (.newarray .int, 2) := by decide +kernel
theorem dX5_init_41 : decode cX5_init 41 = .ok (.putfield 24, 3) := by decide +kernel
theorem dX5_init_44 : decode cX5_init 44 = .ok (.return_, 1) := by decide +kernel
set_option maxRecDepth 20000 in
theorem ggX6_init_X4_init : GoodIn wsX6_init wsX4_init := goodIn_r _ [22, 23, 2, 3, 24, 25, 26, 27, 28, 29, 30, 31, 32, 33, 34, 35, 36, 37, 38, 39, 40, 41, 42, 43, 44, 45, 46, 47, 48, 49, 50, 51, 52, 53, 54, 55, 56, 57, 58, 59, 60, 61, 62, 63, 64, 65, 66, 67, 68, 104, 105, 106, 107, 108, 109, 81, 82, 83, 84, 85, 86, 110, 111, 112, 113, 114, 115, 116, 117, 118, 119, 120, 121, 122, 123, 124, 125, 126, 127, 128] (by decide +kernel) (by decide +kernel)
set_option maxRecDepth 20000 in
theorem gX6_init_X4_init : GoodIn wsX6_init (wsX4_init) := ggX6_init_X4_init
set_option maxRecDepth 20000 in
theorem ggX6_init_X3_init : GoodIn wsX6_init wsX3_init := goodIn_r _ [71, 72, 2, 3, 73, 74, 5, 6, 75, 21, 22, 23, 24, 25, 26, 27, 28, 29, 30, 31, 32, 33, 34, 35, 36, 37, 38, 39, 40, 41, 42, 43, 44, 45, 46, 47, 48, 49, 50, 51, 52, 53, 54, 55, 56, 57, 58, 59, 60, 61, 62, 63, 64, 65, 66, 67, 68, 93, 94, 95, 81, 82, 83, 84, 85, 86, 104, 105, 106, 107, 108, 109, 110, 111, 112, 113, 114, 115, 116, 117, 118, 119, 120, 121, 122, 123, 124, 125, 126, 127, 128] (by decide +kernel) (by decide +kernel)
set_option maxRecDepth 20000 in
theorem gX6_init_X3_init : GoodIn wsX6_init (wsX3_init) := ggX6_init_X3_init
set_option maxRecDepth 20000 in
theorem ggX6_init_X0_init : GoodIn wsX6_init wsX0_init := goodIn_r _ [77, 78, 2, 3, 36, 79, 80, 96, 97, 98, 99, 100, 101, 102, 103] (by decide +kernel) (by decide +kernel)
set_option maxRecDepth 20000 in
theorem gX6_init_X0_init_n36 : GoodIn wsX6_init (wsX0_init) := ggX6_init_X0_init
theorem dX6_init_0 : decode cX6_init 0 = .ok (.aload_n 0, 1) := by decide +kernel
theorem dX6_init_1 : decode cX6_init 1 = .ok (.invokespecial 1, 3) := by decide +kernel
theorem dX6_init_4 : decode cX6_init 4 = .ok (.aload_n 0, 1) := by decide +kernel
theorem dX6_init_5 : decode cX6_init 5 = .ok (.new 7, 3) := by decide +kernel
theorem dX6_init_8 : decode cX6_init 8 = .ok (.dup, 1) := by decide +kernel
theorem dX6_init_9 : decode cX6_init 9 = .ok (.invokespecial 9, 3) := by decide +kernel
theorem dX6_init_12 : decode cX6_init 12 = .ok (.putfield 10, 3) := by decide +kernel
theorem dX6_init_15 : decode cX6_init 15 = .ok (.aload_n 0, 1) := by decide +kernel
theorem dX6_init_16 : decode cX6_init 16 = .ok (.new 7, 3) := by decide +kernel
theorem dX6_init_19 : decode cX6_init 19 = .ok (.dup, 1) := by decide +kernel
theorem dX6_init_20 : decode cX6_init 20 = .ok (.invokespecial 9, 3) := by decide +kernel
theorem dX6_init_23 : decode cX6_init 23 = .ok (.putfield 16, 3) := by decide +kernel
theorem dX6_init_26 : decode cX6_init 26 = .ok (.aload_n 0, 1) := by decide +kernel
theorem dX6_init_27 : decode cX6_init 27 = .ok (.new 19, 3) := by decide +kernel
theorem dX6_init_30 : decode cX6_init 30 = .ok (.dup, 1) := by decide +kernel
theorem dX6_init_31 : decode cX6_init 31 = .ok (.invokespecial 21, 3) := by decide +kernel
theorem dX6_init_34 : decode cX6_init 34 = .ok (.putfield 22, 3) := by decide +kernel
theorem dX6_init_37 : decode cX6_init 37 = .ok (.aload_n 0, 1) := by decide +kernel
theorem dX6_init_38 : decode cX6_init 38 = .ok (.iconst 2, 1) := by decide +kernel
theorem dX6_init_39 : decode cX6_init 39 = .ok (.anewarray 7, 3) := by decide +kernel
theorem dX6_init_42 : decode cX6_init 42 = .ok (.putfield 26, 3) := by decide +kernel
theorem dX6_init_45 : decode cX6_init 45 = .ok (.iconst 0, 1) := by decide +kernel
theorem dX6_init_46 : decode cX6_init 46 = .ok (.istore_n 1, 1) := by decide +kernel
theorem dX6_init_47 : decode cX6_init 47 = .ok (.iload_n 1, 1) := by decide +kernel
theorem dX6_init_48 : decode cX6_init 48 = .ok (.iconst 2, 1) := by decide +kernel
theorem dX6_init_49 : decode cX6_init 49 = .ok (.if_icmp .ge 22, 3) := by decide +kernel
theorem dX6_init_52 : decode cX6_init 52 = .ok (.aload_n 0, 1) := by decide +kernel
theorem dX6_init_53 : decode cX6_init 53 = .ok (.getfield 26, 3) := by decide +kernel
theorem dX6_init_56 : decode cX6_init 56 = .ok (.iload_n 1, 1) := by decide +kernel
theorem dX6_init_57 : decode cX6_init 57 = .ok (.new 7, 3) := by decide +kernel
theorem dX6_init_60 : decode cX6_init 60 = .ok (.dup, 1) := by decide +kernel
theorem dX6_init_61 : decode cX6_init 61 = .ok (.invokespecial 9, 3) := by decide +kernel
theorem dX6_init_64 : decode cX6_init 64 = .ok (.aastore, 1) := by decide +kernel
theorem dX6_init_65 : decode cX6_init 65 = .ok (.iinc 1 1, 3) := by decide +kernel
theorem dX6_init_68 : decode cX6_init 68 = .ok (.goto (-21), 3) := by decide +kernel
theorem dX6_init_71 : decode cX6_init 71 = .ok (.aload_n 0, 1) := by decide +kernel
theorem dX6_init_72 : decode cX6_init 72 = .ok (.iconst 2, 1) := by decide +kernel
theorem dX6_init_73 : decode cX6_init 73 = .ok (.newarray .boolean, 2) := by decide +kernel
theorem dX6_init_75 : decode cX6_init 75 = .ok (.putfield 30, 3) := by decide +kernel
theorem dX6_init_78 : decode cX6_init 78 = .ok (.aload_n 0, 1) := by decide +kernel
theorem dX6_init_79 : decode cX6_init 79 = .ok (.new 34, 3) := by decide +kernel
theorem dX6_init_82 : decode cX6_init 82 = .ok (.dup, 1) := by decide +kernel
theorem dX6_init_83 : decode cX6_init 83 = .ok (.invokespecial 36, 3) := by decide +kernel
theorem dX6_init_86 : decode cX6_init 86 = .ok (.putfield 37, 3) := by decide +kernel
theorem dX6_init_89 : decode cX6_init 89 = .ok (.return_, 1) := by decide +kernel
theorem dX7_init_0 : decode cX7_init 0 = .ok (.aload_n 0, 1) := by decide +kernel
theorem dX7_init_1 : decode cX7_init 1 = .ok (.invokespecial 1, 3) := by decide +kernel
theorem dX7_init_4 : decode cX7_init 4 = .ok (.aload_n 0, 1) := by decide +kernel
theorem dX7_init_5 : decode cX7_init 5 = .ok (.sipush 264, 3) := by decide +kernel
theorem dX7_init_8 : decode cX7_init 8 = .ok (.newarray .int, 2) := by decide +kernel
theorem dX7_init_10 : decode cX7_init 10 = .ok (.putfield 7, 3) := by decide +kernel
theorem dX7_init_13 : decode cX7_init 13 = .ok (.aload_n 0, 1) := by decide +kernel
theorem dX7_init_14 : decode cX7_init 14 = .ok (.sipush 1320, 3) := by decide +kernel
theorem dX7_init_17 : decode cX7_init 17 = .ok (.newarray .int, 2) := by decide +kernel
theorem dX7_init_19 : decode cX7_init 19 = .ok (.putfield 13, 3) := by decide +kernel
theorem dX7_init_22 : decode cX7_init 22 = .ok (.aload_n 0, 1) := by decide +kernel
theorem dX7_init_23 : decode cX7_init 23 = .ok (.sipush 528, 3) := by decide +kernel
theorem dX7_init_26 : decode cX7_init 26 = .ok (.newarray .int, 2) := by decide +kernel
theorem dX7_init_28 : decode cX7_init 28 = .ok (.putfield 16, 3) := by decide +kernel
theorem dX7_init_31 : decode cX7_init 31 = .ok (.aload_n 0, 1) := by decide +kernel
theorem dX7_init_32 : decode cX7_init 32 = .ok (.iconst 2, 1) := by decide +kernel
theorem dX7_init_33 : decode cX7_init 33 = .ok (.newarray .boolean, 2) := by decide +kernel
theorem dX7_init_35 : decode cX7_init 35 = .ok (.putfield 19, 3) := by decide +kernel
theorem dX7_init_38 : decode cX7_init 38 = .ok (.aload_n 0, 1) := by decide +kernel
theorem dX7_init_39 : decode cX7_init 39 = .ok (.sipush 264, 3) := by decide +kernel
theorem dX7_init_42 : decode cX7_init 42 = .ok (.newarray .int, 2) := by decide +kernel
theorem dX7_init_44 : decode cX7_init 44 = .ok (.putfield 23, 3) := by decide +kernel
theorem dX7_init_47 : decode cX7_init 47 = .ok (.aload_n 0, 1) := by decide +kernel
theorem dX7_init_48 : decode cX7_init 48 = .ok (.bipush 80, 2) := by decide +kernel
theorem dX7_init_50 : decode cX7_init 50 = .ok (.newarray .int, 2) := by decide +kernel
theorem dX7_init_52 : decode cX7_init 52 = .ok (.putfield 26, 3) := by decide +kernel
theorem dX7_init_55 : decode cX7_init 55 = .ok (.aload_n 0, 1) := by decide +kernel
theorem dX7_init_56 : decode cX7_init 56 = .ok (.getfield 7, 3) := by decide +kernel
theorem dX7_init_59 : decode cX7_init 59 = .ok (.iconst 5, 1) := by decide +kernel
theorem dX7_init_60 : decode cX7_init 60 = .ok (.bipush 40, 2) := by decide +kernel
theorem dX7_init_62 : decode cX7_init 62 = .ok (.iastore, 1) := by decide +kernel
theorem dX7_init_63 : decode cX7_init 63 = .ok (.aload_n 0, 1) := by decide +kernel
theorem dX7_init_64 : decode cX7_init 64 = .ok (.getfield 7, 3) := by decide +kernel
theorem dX7_init_67 : decode cX7_init 67 = .ok (.bipush 6, 2) := by decide +kernel
theorem dX7_init_69 : decode cX7_init 69 = .ok (.iconst 4, 1) := by decide +kernel
theorem dX7_init_70 : decode cX7_init 70 = .ok (.iastore, 1) := by decide +kernel
theorem dX7_init_71 : decode cX7_init 71 = .ok (.aload_n 0, 1) := by decide +kernel
theorem dX7_init_72 : decode cX7_init 72 = .ok (.getfield 7, 3) := by decide +kernel
theorem dX7_init_75 : decode cX7_init 75 = .ok (.bipush 7, 2) := by decide +kernel
theorem dX7_init_77 : decode cX7_init 77 = .ok (.iconst 3, 1) := by decide +kernel
theorem dX7_init_78 : decode cX7_init 78 = .ok (.iastore, 1) := by decide +kernel
theorem dX7_init_79 : decode cX7_init 79 = .ok (.return_, 1) := by decide +kernel
theorem dJ9_min_7cf53_0 : decode cJ9_min_7cf53 0 = .ok (.iload_n 0, 1) := by decide +kernel
theorem dJ9_min_7cf53_1 : decode cJ9_min_7cf53 1 = .ok (.iload_n 1, 1) := by decide +kernel
theorem dJ9_min_7cf53_2 : decode cJ9_min_7cf53 2 = .ok (.if_icmp .gt 7, 3) := by decide +kernel
theorem dJ9_min_7cf53_5 : decode cJ9_min_7cf53 5 = .ok (.iload_n 0, 1) := by decide +kernel
theorem dJ9_min_7cf53_6 : decode cJ9_min_7cf53 6 = .ok (.goto 4, 3) := by decide +kernel
theorem dJ9_min_7cf53_9 : decode cJ9_min_7cf53 9 = .ok (.iload_n 1, 1) := by decide +kernel
theorem dJ9_min_7cf53_10 : decode cJ9_min_7cf53 10 = .ok (.ireturn, 1) := by decide +kernel
set_option maxRecDepth 20000 in
theorem ggL_law_X6_init : GoodIn wsL_law wsX6_init := goodIn_r _ [8, 9, 10, 11, 12, 13, 14, 15, 16, 17, 18, 19, 20, 21, 22, 23, 24, 25, 26, 27, 28, 29, 30, 31, 32, 33, 34, 35, 36, 37, 38, 39, 40, 41, 42, 43, 44, 45, 46, 47, 48, 49, 50, 51, 52, 53, 54, 55, 56, 57, 58, 59, 60, 61, 62, 63, 64, 65, 66, 67, 68, 69, 70, 71, 72, 73, 74, 75, 76, 77, 78, 79, 80, 81, 82, 83, 84, 85, 86, 87, 88, 897, 898, 899, 900, 901, 902, 878, 879, 880, 881, 882, 883, 903, 904, 905, 906, 907, 908, 909, 910, 911, 912, 913, 914, 915, 916, 917, 918, 919, 920, 921, 922, 923, 924, 925, 926, 927, 928, 929, 930, 931, 932, 933, 934, 935, 936, 937, 938] (by decide +kernel) (by decide +kernel)
set_option maxRecDepth 20000 in
theorem gL_law_X6_init : GoodIn wsL_law (wsX6_init) := ggL_law_X6_init
set_option maxRecDepth 20000 in
theorem ggL_law_X7_init : GoodIn wsL_law wsX7_init := goodIn_r _ [91, 92, 10, 11, 44, 93, 94, 95, 22, 96, 97, 98, 884, 885, 886, 887, 888, 889, 890, 891, 892, 893, 894, 895, 896] (by decide +kernel) (by decide +kernel)
set_option maxRecDepth 20000 in
theorem gL_law_X7_init : GoodIn wsL_law (wsX7_init) := ggL_law_X7_init
abbrev vwCl : List vw_C := [(RX0, TX0, 8), (RX1, TX1, 11), (RX2, TX2, 8), (RX3, TX3, 3), (RX4, TX4, 6), (RX5, TX5, 6), (RX6, TX6, 6), (RX7, TX7, 13)]
/-! ===== END printed: names ===== -/

