section
-- ===== PART A: goes FIRST, ahead of the names: the tables' words, and 'selects' of the private methods out of them =====
/-- a private method of a class that the tables say can be made, by its rows of tables_1 -/
def lw_okq (q : MethodName × Nat) : Prop := (q.1.cls ≠ "java/lang/invoke/MethodHandle" ∧ q.1.cls ≠ "java/lang/invoke/VarHandle") ∧ Cond.instantiable q.1.cls q.2 ∈ tables_1 ∧ Cond.privateMethod q.1 ∈ tables_1 ∧ Cond.instanceMethod q.1 ∈ tables_1
theorem lw_p0 : lw_okq (⟨"VacantAir", "recorded", "(I)I"⟩, 6) := ⟨⟨by decide +kernel, by decide +kernel⟩, List.mem_of_getElem? (i := 12) (by decide +kernel), List.mem_of_getElem? (i := 301) (by decide +kernel), List.mem_of_getElem? (i := 302) (by decide +kernel)⟩
theorem lw_p1 : lw_okq (⟨"VacantAir$State", "review", "()V"⟩, 6) := ⟨⟨by decide +kernel, by decide +kernel⟩, List.mem_of_getElem? (i := 20) (by decide +kernel), List.mem_of_getElem? (i := 317) (by decide +kernel), List.mem_of_getElem? (i := 318) (by decide +kernel)⟩
theorem lw_p2 : lw_okq (⟨"VacantAir$State", "barredRadius", "(II)I"⟩, 6) := ⟨⟨by decide +kernel, by decide +kernel⟩, List.mem_of_getElem? (i := 20) (by decide +kernel), List.mem_of_getElem? (i := 333) (by decide +kernel), List.mem_of_getElem? (i := 334) (by decide +kernel)⟩
theorem lw_p3 : lw_okq (⟨"VacantAir$State", "refusal", "(II)I"⟩, 6) := ⟨⟨by decide +kernel, by decide +kernel⟩, List.mem_of_getElem? (i := 20) (by decide +kernel), List.mem_of_getElem? (i := 421) (by decide +kernel), List.mem_of_getElem? (i := 422) (by decide +kernel)⟩
theorem lw_p4 : lw_okq (⟨"VacantAir$State", "isAllowedOnAny", "(II)Z"⟩, 6) := ⟨⟨by decide +kernel, by decide +kernel⟩, List.mem_of_getElem? (i := 20) (by decide +kernel), List.mem_of_getElem? (i := 425) (by decide +kernel), List.mem_of_getElem? (i := 426) (by decide +kernel)⟩
theorem lw_p5 : lw_okq (⟨"VacantAir$State", "isFree", "(III)Z"⟩, 6) := ⟨⟨by decide +kernel, by decide +kernel⟩, List.mem_of_getElem? (i := 20) (by decide +kernel), List.mem_of_getElem? (i := 433) (by decide +kernel), List.mem_of_getElem? (i := 434) (by decide +kernel)⟩
theorem lw_p6 : lw_okq (⟨"VacantAir$State", "endLeases", "()V"⟩, 6) := ⟨⟨by decide +kernel, by decide +kernel⟩, List.mem_of_getElem? (i := 20) (by decide +kernel), List.mem_of_getElem? (i := 478) (by decide +kernel), List.mem_of_getElem? (i := 479) (by decide +kernel)⟩
theorem lw_p7 : lw_okq (⟨"VacantAir$State", "asksNow", "(I)Z"⟩, 6) := ⟨⟨by decide +kernel, by decide +kernel⟩, List.mem_of_getElem? (i := 20) (by decide +kernel), List.mem_of_getElem? (i := 482) (by decide +kernel), List.mem_of_getElem? (i := 483) (by decide +kernel)⟩
theorem lw_p8 : lw_okq (⟨"VacantAir$State", "hopOrStrike", "(I)I"⟩, 6) := ⟨⟨by decide +kernel, by decide +kernel⟩, List.mem_of_getElem? (i := 20) (by decide +kernel), List.mem_of_getElem? (i := 486) (by decide +kernel), List.mem_of_getElem? (i := 487) (by decide +kernel)⟩
theorem lw_p9 : lw_okq (⟨"VacantAir$State", "cutLeases", "()V"⟩, 6) := ⟨⟨by decide +kernel, by decide +kernel⟩, List.mem_of_getElem? (i := 20) (by decide +kernel), List.mem_of_getElem? (i := 490) (by decide +kernel), List.mem_of_getElem? (i := 491) (by decide +kernel)⟩
theorem lw_p10 : lw_okq (⟨"VacantAir$ActText", "readNumber", "(II)I"⟩, 8) := ⟨⟨by decide +kernel, by decide +kernel⟩, List.mem_of_getElem? (i := 198) (by decide +kernel), List.mem_of_getElem? (i := 531) (by decide +kernel), List.mem_of_getElem? (i := 532) (by decide +kernel)⟩
theorem lw_p11 : lw_okq (⟨"VacantAir$ActText", "isDigitAt", "(I)Z"⟩, 8) := ⟨⟨by decide +kernel, by decide +kernel⟩, List.mem_of_getElem? (i := 198) (by decide +kernel), List.mem_of_getElem? (i := 535) (by decide +kernel), List.mem_of_getElem? (i := 536) (by decide +kernel)⟩
theorem lw_p12 : lw_okq (⟨"VacantAir$ActText", "readByte", "(I)V"⟩, 8) := ⟨⟨by decide +kernel, by decide +kernel⟩, List.mem_of_getElem? (i := 198) (by decide +kernel), List.mem_of_getElem? (i := 539) (by decide +kernel), List.mem_of_getElem? (i := 540) (by decide +kernel)⟩
theorem lw_p13 : lw_okq (⟨"VacantAir", "barredAlone", "(I)I"⟩, 6) := ⟨⟨by decide +kernel, by decide +kernel⟩, List.mem_of_getElem? (i := 12) (by decide +kernel), List.mem_of_getElem? (i := 572) (by decide +kernel), List.mem_of_getElem? (i := 573) (by decide +kernel)⟩
theorem lw_p14 : lw_okq (⟨"VacantAir$Devices", "placeOf", "(I)I"⟩, 11) := ⟨⟨by decide +kernel, by decide +kernel⟩, List.mem_of_getElem? (i := 100) (by decide +kernel), List.mem_of_getElem? (i := 625) (by decide +kernel), List.mem_of_getElem? (i := 626) (by decide +kernel)⟩
theorem lw_p15 : lw_okq (⟨"VacantAir$Devices", "comesBefore", "(II)Z"⟩, 11) := ⟨⟨by decide +kernel, by decide +kernel⟩, List.mem_of_getElem? (i := 100) (by decide +kernel), List.mem_of_getElem? (i := 629) (by decide +kernel), List.mem_of_getElem? (i := 630) (by decide +kernel)⟩
def lw_privs_1 : List (MethodName × Nat) := [(⟨"VacantAir", "recorded", "(I)I"⟩, 6), (⟨"VacantAir$State", "review", "()V"⟩, 6), (⟨"VacantAir$State", "barredRadius", "(II)I"⟩, 6), (⟨"VacantAir$State", "refusal", "(II)I"⟩, 6), (⟨"VacantAir$State", "isAllowedOnAny", "(II)Z"⟩, 6), (⟨"VacantAir$State", "isFree", "(III)Z"⟩, 6), (⟨"VacantAir$State", "endLeases", "()V"⟩, 6), (⟨"VacantAir$State", "asksNow", "(I)Z"⟩, 6), (⟨"VacantAir$State", "hopOrStrike", "(I)I"⟩, 6), (⟨"VacantAir$State", "cutLeases", "()V"⟩, 6), (⟨"VacantAir$ActText", "readNumber", "(II)I"⟩, 8), (⟨"VacantAir$ActText", "isDigitAt", "(I)Z"⟩, 8), (⟨"VacantAir$ActText", "readByte", "(I)V"⟩, 8), (⟨"VacantAir", "barredAlone", "(I)I"⟩, 6), (⟨"VacantAir$Devices", "placeOf", "(I)I"⟩, 11), (⟨"VacantAir$Devices", "comesBefore", "(II)Z"⟩, 11)]
theorem lw_r1 : ∀ q ∈ lw_privs_1, lw_okq q := List.forall_mem_cons.mpr ⟨lw_p0, List.forall_mem_cons.mpr ⟨lw_p1, List.forall_mem_cons.mpr ⟨lw_p2, List.forall_mem_cons.mpr ⟨lw_p3, List.forall_mem_cons.mpr ⟨lw_p4, List.forall_mem_cons.mpr ⟨lw_p5, List.forall_mem_cons.mpr ⟨lw_p6, List.forall_mem_cons.mpr ⟨lw_p7, List.forall_mem_cons.mpr ⟨lw_p8, List.forall_mem_cons.mpr ⟨lw_p9, List.forall_mem_cons.mpr ⟨lw_p10, List.forall_mem_cons.mpr ⟨lw_p11, List.forall_mem_cons.mpr ⟨lw_p12, List.forall_mem_cons.mpr ⟨lw_p13, List.forall_mem_cons.mpr ⟨lw_p14, List.forall_mem_cons.mpr ⟨lw_p15, fun _ h => absurd h List.not_mem_nil⟩⟩⟩⟩⟩⟩⟩⟩⟩⟩⟩⟩⟩⟩⟩⟩
theorem lw_p16 : lw_okq (⟨"VacantAirModel", "records", "()V"⟩, 13) := ⟨⟨by decide +kernel, by decide +kernel⟩, List.mem_of_getElem? (i := 677) (by decide +kernel), List.mem_of_getElem? (i := 736) (by decide +kernel), List.mem_of_getElem? (i := 737) (by decide +kernel)⟩
theorem lw_p17 : lw_okq (⟨"VacantAirModel", "reviews", "()V"⟩, 13) := ⟨⟨by decide +kernel, by decide +kernel⟩, List.mem_of_getElem? (i := 677) (by decide +kernel), List.mem_of_getElem? (i := 744) (by decide +kernel), List.mem_of_getElem? (i := 745) (by decide +kernel)⟩
theorem lw_p18 : lw_okq (⟨"VacantAirModel", "hasLease", "(I)Z"⟩, 13) := ⟨⟨by decide +kernel, by decide +kernel⟩, List.mem_of_getElem? (i := 677) (by decide +kernel), List.mem_of_getElem? (i := 748) (by decide +kernel), List.mem_of_getElem? (i := 749) (by decide +kernel)⟩
theorem lw_p19 : lw_okq (⟨"VacantAirModel", "ofDevice", "(II)I"⟩, 13) := ⟨⟨by decide +kernel, by decide +kernel⟩, List.mem_of_getElem? (i := 677) (by decide +kernel), List.mem_of_getElem? (i := 752) (by decide +kernel), List.mem_of_getElem? (i := 753) (by decide +kernel)⟩
theorem lw_p20 : lw_okq (⟨"VacantAirModel", "isLeaseAllowed", "(I)Z"⟩, 13) := ⟨⟨by decide +kernel, by decide +kernel⟩, List.mem_of_getElem? (i := 677) (by decide +kernel), List.mem_of_getElem? (i := 756) (by decide +kernel), List.mem_of_getElem? (i := 757) (by decide +kernel)⟩
theorem lw_p21 : lw_okq (⟨"VacantAirModel", "isAllowedFor", "(III)Z"⟩, 13) := ⟨⟨by decide +kernel, by decide +kernel⟩, List.mem_of_getElem? (i := 677) (by decide +kernel), List.mem_of_getElem? (i := 760) (by decide +kernel), List.mem_of_getElem? (i := 761) (by decide +kernel)⟩
theorem lw_p22 : lw_okq (⟨"VacantAirModel", "isAllowed", "(IIII)Z"⟩, 13) := ⟨⟨by decide +kernel, by decide +kernel⟩, List.mem_of_getElem? (i := 677) (by decide +kernel), List.mem_of_getElem? (i := 764) (by decide +kernel), List.mem_of_getElem? (i := 765) (by decide +kernel)⟩
theorem lw_p23 : lw_okq (⟨"VacantAirModel", "isBarred", "(IIII)Z"⟩, 13) := ⟨⟨by decide +kernel, by decide +kernel⟩, List.mem_of_getElem? (i := 677) (by decide +kernel), List.mem_of_getElem? (i := 768) (by decide +kernel), List.mem_of_getElem? (i := 769) (by decide +kernel)⟩
theorem lw_p24 : lw_okq (⟨"VacantAirModel", "isBarredBy", "(IIIII)Z"⟩, 13) := ⟨⟨by decide +kernel, by decide +kernel⟩, List.mem_of_getElem? (i := 677) (by decide +kernel), List.mem_of_getElem? (i := 772) (by decide +kernel), List.mem_of_getElem? (i := 773) (by decide +kernel)⟩
theorem lw_p25 : lw_okq (⟨"VacantAirModel", "ofStation", "(II)I"⟩, 13) := ⟨⟨by decide +kernel, by decide +kernel⟩, List.mem_of_getElem? (i := 677) (by decide +kernel), List.mem_of_getElem? (i := 776) (by decide +kernel), List.mem_of_getElem? (i := 777) (by decide +kernel)⟩
theorem lw_p26 : lw_okq (⟨"VacantAirModel", "isReserved", "(IIIII)Z"⟩, 13) := ⟨⟨by decide +kernel, by decide +kernel⟩, List.mem_of_getElem? (i := 677) (by decide +kernel), List.mem_of_getElem? (i := 789) (by decide +kernel), List.mem_of_getElem? (i := 790) (by decide +kernel)⟩
theorem lw_p27 : lw_okq (⟨"VacantAirModel", "ofEvent", "(II)I"⟩, 13) := ⟨⟨by decide +kernel, by decide +kernel⟩, List.mem_of_getElem? (i := 677) (by decide +kernel), List.mem_of_getElem? (i := 793) (by decide +kernel), List.mem_of_getElem? (i := 794) (by decide +kernel)⟩
theorem lw_p28 : lw_okq (⟨"VacantAirModel", "isOn", "(II)Z"⟩, 13) := ⟨⟨by decide +kernel, by decide +kernel⟩, List.mem_of_getElem? (i := 677) (by decide +kernel), List.mem_of_getElem? (i := 797) (by decide +kernel), List.mem_of_getElem? (i := 798) (by decide +kernel)⟩
theorem lw_p29 : lw_okq (⟨"VacantAirModel", "puts", "(III)V"⟩, 13) := ⟨⟨by decide +kernel, by decide +kernel⟩, List.mem_of_getElem? (i := 677) (by decide +kernel), List.mem_of_getElem? (i := 801) (by decide +kernel), List.mem_of_getElem? (i := 802) (by decide +kernel)⟩
theorem lw_p30 : lw_okq (⟨"VacantAirModel", "ends", "(I)V"⟩, 13) := ⟨⟨by decide +kernel, by decide +kernel⟩, List.mem_of_getElem? (i := 677) (by decide +kernel), List.mem_of_getElem? (i := 812) (by decide +kernel), List.mem_of_getElem? (i := 813) (by decide +kernel)⟩
theorem lw_p31 : lw_okq (⟨"VacantAirModel", "turns", "(II)I"⟩, 13) := ⟨⟨by decide +kernel, by decide +kernel⟩, List.mem_of_getElem? (i := 677) (by decide +kernel), List.mem_of_getElem? (i := 824) (by decide +kernel), List.mem_of_getElem? (i := 825) (by decide +kernel)⟩
def lw_privs_2 : List (MethodName × Nat) := [(⟨"VacantAirModel", "records", "()V"⟩, 13), (⟨"VacantAirModel", "reviews", "()V"⟩, 13), (⟨"VacantAirModel", "hasLease", "(I)Z"⟩, 13), (⟨"VacantAirModel", "ofDevice", "(II)I"⟩, 13), (⟨"VacantAirModel", "isLeaseAllowed", "(I)Z"⟩, 13), (⟨"VacantAirModel", "isAllowedFor", "(III)Z"⟩, 13), (⟨"VacantAirModel", "isAllowed", "(IIII)Z"⟩, 13), (⟨"VacantAirModel", "isBarred", "(IIII)Z"⟩, 13), (⟨"VacantAirModel", "isBarredBy", "(IIIII)Z"⟩, 13), (⟨"VacantAirModel", "ofStation", "(II)I"⟩, 13), (⟨"VacantAirModel", "isReserved", "(IIIII)Z"⟩, 13), (⟨"VacantAirModel", "ofEvent", "(II)I"⟩, 13), (⟨"VacantAirModel", "isOn", "(II)Z"⟩, 13), (⟨"VacantAirModel", "puts", "(III)V"⟩, 13), (⟨"VacantAirModel", "ends", "(I)V"⟩, 13), (⟨"VacantAirModel", "turns", "(II)I"⟩, 13)]
theorem lw_r2 : ∀ q ∈ lw_privs_2, lw_okq q := List.forall_mem_cons.mpr ⟨lw_p16, List.forall_mem_cons.mpr ⟨lw_p17, List.forall_mem_cons.mpr ⟨lw_p18, List.forall_mem_cons.mpr ⟨lw_p19, List.forall_mem_cons.mpr ⟨lw_p20, List.forall_mem_cons.mpr ⟨lw_p21, List.forall_mem_cons.mpr ⟨lw_p22, List.forall_mem_cons.mpr ⟨lw_p23, List.forall_mem_cons.mpr ⟨lw_p24, List.forall_mem_cons.mpr ⟨lw_p25, List.forall_mem_cons.mpr ⟨lw_p26, List.forall_mem_cons.mpr ⟨lw_p27, List.forall_mem_cons.mpr ⟨lw_p28, List.forall_mem_cons.mpr ⟨lw_p29, List.forall_mem_cons.mpr ⟨lw_p30, List.forall_mem_cons.mpr ⟨lw_p31, fun _ h => absurd h List.not_mem_nil⟩⟩⟩⟩⟩⟩⟩⟩⟩⟩⟩⟩⟩⟩⟩⟩
theorem lw_p32 : lw_okq (⟨"VacantAirModel", "isStation", "(I)Z"⟩, 13) := ⟨⟨by decide +kernel, by decide +kernel⟩, List.mem_of_getElem? (i := 677) (by decide +kernel), List.mem_of_getElem? (i := 828) (by decide +kernel), List.mem_of_getElem? (i := 829) (by decide +kernel)⟩
theorem lw_p33 : lw_okq (⟨"VacantAirModel", "notices", "()I"⟩, 13) := ⟨⟨by decide +kernel, by decide +kernel⟩, List.mem_of_getElem? (i := 677) (by decide +kernel), List.mem_of_getElem? (i := 832) (by decide +kernel), List.mem_of_getElem? (i := 833) (by decide +kernel)⟩
theorem lw_p34 : lw_okq (⟨"VacantAirModel", "isEvent", "(I)Z"⟩, 13) := ⟨⟨by decide +kernel, by decide +kernel⟩, List.mem_of_getElem? (i := 677) (by decide +kernel), List.mem_of_getElem? (i := 844) (by decide +kernel), List.mem_of_getElem? (i := 845) (by decide +kernel)⟩
theorem lw_p35 : lw_okq (⟨"VacantAirModel", "isDevice", "(I)Z"⟩, 13) := ⟨⟨by decide +kernel, by decide +kernel⟩, List.mem_of_getElem? (i := 677) (by decide +kernel), List.mem_of_getElem? (i := 852) (by decide +kernel), List.mem_of_getElem? (i := 853) (by decide +kernel)⟩
theorem lw_p36 : lw_okq (⟨"VacantAirModel", "refuses", "(I)I"⟩, 13) := ⟨⟨by decide +kernel, by decide +kernel⟩, List.mem_of_getElem? (i := 677) (by decide +kernel), List.mem_of_getElem? (i := 856) (by decide +kernel), List.mem_of_getElem? (i := 857) (by decide +kernel)⟩
theorem lw_p37 : lw_okq (⟨"VacantAirModel", "isAnyAllowed", "(II)Z"⟩, 13) := ⟨⟨by decide +kernel, by decide +kernel⟩, List.mem_of_getElem? (i := 677) (by decide +kernel), List.mem_of_getElem? (i := 860) (by decide +kernel), List.mem_of_getElem? (i := 861) (by decide +kernel)⟩
theorem lw_p38 : lw_okq (⟨"VacantAirModel", "offerFor", "(II)I"⟩, 13) := ⟨⟨by decide +kernel, by decide +kernel⟩, List.mem_of_getElem? (i := 677) (by decide +kernel), List.mem_of_getElem? (i := 864) (by decide +kernel), List.mem_of_getElem? (i := 865) (by decide +kernel)⟩
theorem lw_p39 : lw_okq (⟨"VacantAirModel", "isFree", "(III)Z"⟩, 13) := ⟨⟨by decide +kernel, by decide +kernel⟩, List.mem_of_getElem? (i := 677) (by decide +kernel), List.mem_of_getElem? (i := 868) (by decide +kernel), List.mem_of_getElem? (i := 869) (by decide +kernel)⟩
theorem lw_p40 : lw_okq (⟨"VacantAirModel", "others", "(II)I"⟩, 13) := ⟨⟨by decide +kernel, by decide +kernel⟩, List.mem_of_getElem? (i := 677) (by decide +kernel), List.mem_of_getElem? (i := 872) (by decide +kernel), List.mem_of_getElem? (i := 873) (by decide +kernel)⟩
theorem lw_p41 : lw_okq (⟨"VacantAirModel", "leasesNow", "()I"⟩, 13) := ⟨⟨by decide +kernel, by decide +kernel⟩, List.mem_of_getElem? (i := 677) (by decide +kernel), List.mem_of_getElem? (i := 884) (by decide +kernel), List.mem_of_getElem? (i := 885) (by decide +kernel)⟩
theorem lw_p42 : lw_okq (⟨"VacantAirModel", "passesOne", "()I"⟩, 13) := ⟨⟨by decide +kernel, by decide +kernel⟩, List.mem_of_getElem? (i := 677) (by decide +kernel), List.mem_of_getElem? (i := 892) (by decide +kernel), List.mem_of_getElem? (i := 893) (by decide +kernel)⟩
theorem lw_p43 : lw_okq (⟨"VacantAirModel", "asks", "(I)I"⟩, 13) := ⟨⟨by decide +kernel, by decide +kernel⟩, List.mem_of_getElem? (i := 677) (by decide +kernel), List.mem_of_getElem? (i := 896) (by decide +kernel), List.mem_of_getElem? (i := 897) (by decide +kernel)⟩
theorem lw_p44 : lw_okq (⟨"VacantAirModel", "reads", "()Z"⟩, 13) := ⟨⟨by decide +kernel, by decide +kernel⟩, List.mem_of_getElem? (i := 677) (by decide +kernel), List.mem_of_getElem? (i := 912) (by decide +kernel), List.mem_of_getElem? (i := 913) (by decide +kernel)⟩
theorem lw_p45 : lw_okq (⟨"VacantAirModel", "number", "(II)I"⟩, 13) := ⟨⟨by decide +kernel, by decide +kernel⟩, List.mem_of_getElem? (i := 677) (by decide +kernel), List.mem_of_getElem? (i := 916) (by decide +kernel), List.mem_of_getElem? (i := 917) (by decide +kernel)⟩
theorem lw_p46 : lw_okq (⟨"VacantAirModel", "isAt", "(II)Z"⟩, 13) := ⟨⟨by decide +kernel, by decide +kernel⟩, List.mem_of_getElem? (i := 677) (by decide +kernel), List.mem_of_getElem? (i := 920) (by decide +kernel), List.mem_of_getElem? (i := 921) (by decide +kernel)⟩
theorem lw_p47 : lw_okq (⟨"VacantAirModel", "takes", "(I)Z"⟩, 13) := ⟨⟨by decide +kernel, by decide +kernel⟩, List.mem_of_getElem? (i := 677) (by decide +kernel), List.mem_of_getElem? (i := 924) (by decide +kernel), List.mem_of_getElem? (i := 925) (by decide +kernel)⟩
def lw_privs_3 : List (MethodName × Nat) := [(⟨"VacantAirModel", "isStation", "(I)Z"⟩, 13), (⟨"VacantAirModel", "notices", "()I"⟩, 13), (⟨"VacantAirModel", "isEvent", "(I)Z"⟩, 13), (⟨"VacantAirModel", "isDevice", "(I)Z"⟩, 13), (⟨"VacantAirModel", "refuses", "(I)I"⟩, 13), (⟨"VacantAirModel", "isAnyAllowed", "(II)Z"⟩, 13), (⟨"VacantAirModel", "offerFor", "(II)I"⟩, 13), (⟨"VacantAirModel", "isFree", "(III)Z"⟩, 13), (⟨"VacantAirModel", "others", "(II)I"⟩, 13), (⟨"VacantAirModel", "leasesNow", "()I"⟩, 13), (⟨"VacantAirModel", "passesOne", "()I"⟩, 13), (⟨"VacantAirModel", "asks", "(I)I"⟩, 13), (⟨"VacantAirModel", "reads", "()Z"⟩, 13), (⟨"VacantAirModel", "number", "(II)I"⟩, 13), (⟨"VacantAirModel", "isAt", "(II)Z"⟩, 13), (⟨"VacantAirModel", "takes", "(I)Z"⟩, 13)]
theorem lw_r3 : ∀ q ∈ lw_privs_3, lw_okq q := List.forall_mem_cons.mpr ⟨lw_p32, List.forall_mem_cons.mpr ⟨lw_p33, List.forall_mem_cons.mpr ⟨lw_p34, List.forall_mem_cons.mpr ⟨lw_p35, List.forall_mem_cons.mpr ⟨lw_p36, List.forall_mem_cons.mpr ⟨lw_p37, List.forall_mem_cons.mpr ⟨lw_p38, List.forall_mem_cons.mpr ⟨lw_p39, List.forall_mem_cons.mpr ⟨lw_p40, List.forall_mem_cons.mpr ⟨lw_p41, List.forall_mem_cons.mpr ⟨lw_p42, List.forall_mem_cons.mpr ⟨lw_p43, List.forall_mem_cons.mpr ⟨lw_p44, List.forall_mem_cons.mpr ⟨lw_p45, List.forall_mem_cons.mpr ⟨lw_p46, List.forall_mem_cons.mpr ⟨lw_p47, fun _ h => absurd h List.not_mem_nil⟩⟩⟩⟩⟩⟩⟩⟩⟩⟩⟩⟩⟩⟩⟩⟩
theorem lw_p48 : lw_okq (⟨"VacantAirModel", "does", "(I)I"⟩, 13) := ⟨⟨by decide +kernel, by decide +kernel⟩, List.mem_of_getElem? (i := 677) (by decide +kernel), List.mem_of_getElem? (i := 933) (by decide +kernel), List.mem_of_getElem? (i := 934) (by decide +kernel)⟩
theorem lw_p49 : lw_okq (⟨"VacantAirModel", "onAccount", "(I)I"⟩, 13) := ⟨⟨by decide +kernel, by decide +kernel⟩, List.mem_of_getElem? (i := 677) (by decide +kernel), List.mem_of_getElem? (i := 958) (by decide +kernel), List.mem_of_getElem? (i := 959) (by decide +kernel)⟩
theorem lw_p50 : lw_okq (⟨"VacantAirModel", "nextAsk", "(I)I"⟩, 13) := ⟨⟨by decide +kernel, by decide +kernel⟩, List.mem_of_getElem? (i := 677) (by decide +kernel), List.mem_of_getElem? (i := 970) (by decide +kernel), List.mem_of_getElem? (i := 971) (by decide +kernel)⟩
theorem lw_p51 : lw_okq (⟨"VacantAirModel", "isAhead", "(II)Z"⟩, 13) := ⟨⟨by decide +kernel, by decide +kernel⟩, List.mem_of_getElem? (i := 677) (by decide +kernel), List.mem_of_getElem? (i := 986) (by decide +kernel), List.mem_of_getElem? (i := 987) (by decide +kernel)⟩
theorem lw_p52 : lw_okq (⟨"VacantAirModel", "awake", "()I"⟩, 13) := ⟨⟨by decide +kernel, by decide +kernel⟩, List.mem_of_getElem? (i := 677) (by decide +kernel), List.mem_of_getElem? (i := 998) (by decide +kernel), List.mem_of_getElem? (i := 999) (by decide +kernel)⟩
theorem lw_p53 : lw_okq (⟨"VacantAirModel", "sumOf", "(I)I"⟩, 13) := ⟨⟨by decide +kernel, by decide +kernel⟩, List.mem_of_getElem? (i := 677) (by decide +kernel), List.mem_of_getElem? (i := 1002) (by decide +kernel), List.mem_of_getElem? (i := 1003) (by decide +kernel)⟩
theorem lw_p54 : lw_okq (⟨"VacantAirModel", "holds", "()V"⟩, 13) := ⟨⟨by decide +kernel, by decide +kernel⟩, List.mem_of_getElem? (i := 677) (by decide +kernel), List.mem_of_getElem? (i := 1022) (by decide +kernel), List.mem_of_getElem? (i := 1023) (by decide +kernel)⟩
theorem lw_p55 : lw_okq (⟨"VacantAirModel", "lets", "()V"⟩, 13) := ⟨⟨by decide +kernel, by decide +kernel⟩, List.mem_of_getElem? (i := 677) (by decide +kernel), List.mem_of_getElem? (i := 1026) (by decide +kernel), List.mem_of_getElem? (i := 1027) (by decide +kernel)⟩
def lw_privs_4 : List (MethodName × Nat) := [(⟨"VacantAirModel", "does", "(I)I"⟩, 13), (⟨"VacantAirModel", "onAccount", "(I)I"⟩, 13), (⟨"VacantAirModel", "nextAsk", "(I)I"⟩, 13), (⟨"VacantAirModel", "isAhead", "(II)Z"⟩, 13), (⟨"VacantAirModel", "awake", "()I"⟩, 13), (⟨"VacantAirModel", "sumOf", "(I)I"⟩, 13), (⟨"VacantAirModel", "holds", "()V"⟩, 13), (⟨"VacantAirModel", "lets", "()V"⟩, 13)]
theorem lw_r4 : ∀ q ∈ lw_privs_4, lw_okq q := List.forall_mem_cons.mpr ⟨lw_p48, List.forall_mem_cons.mpr ⟨lw_p49, List.forall_mem_cons.mpr ⟨lw_p50, List.forall_mem_cons.mpr ⟨lw_p51, List.forall_mem_cons.mpr ⟨lw_p52, List.forall_mem_cons.mpr ⟨lw_p53, List.forall_mem_cons.mpr ⟨lw_p54, List.forall_mem_cons.mpr ⟨lw_p55, fun _ h => absurd h List.not_mem_nil⟩⟩⟩⟩⟩⟩⟩⟩
def lw_privs : List (MethodName × Nat) := lw_privs_1 ++ (lw_privs_2 ++ (lw_privs_3 ++ (lw_privs_4)))
def lw_tbl : List Cond := k2_sels lw_privs ++ tables_1
theorem lw_privs_ok : ∀ q ∈ lw_privs, lw_okq q := by
  show ∀ q ∈ lw_privs_1 ++ (lw_privs_2 ++ (lw_privs_3 ++ (lw_privs_4))), lw_okq q
  exact List.forall_mem_append.mpr ⟨lw_r1, List.forall_mem_append.mpr ⟨lw_r2, List.forall_mem_append.mpr ⟨lw_r3, lw_r4⟩⟩⟩
/-! ===== BEGIN words of one list among another's, by their places ===== -/
theorem goodIn_r {big : List Cond} (ws : List Cond) (ps : List Nat) (hp : ws = ps.filterMap (fun i => big[i]?)) (h : ws.all goodWord = true) : GoodIn big ws := by
  intro w hw
  have h1 := List.all_eq_true.mp h w hw
  rw [hp] at hw
  obtain ⟨i, -, hi⟩ := List.mem_filterMap.mp hw
  have hm : w ∈ big := by first | exact List.mem_of_getElem? hi | exact List.getElem?_mem hi
  exact ⟨hm, good_of_word h1⟩
theorem goodIn_app {big a b : List Cond} (ha : GoodIn big a) (hb : GoodIn big b) : GoodIn big (a ++ b) := fun w h => (List.mem_append.mp h).elim (ha w) (hb w)
theorem goodIn_ca {big a b : List Cond} {c : Cond} (ha : GoodIn big (c :: a)) (hb : GoodIn big b) : GoodIn big (c :: (a ++ b)) := fun w h => (List.mem_cons.mp h).elim (fun e => ha w (List.mem_cons.mpr (Or.inl e))) (fun h => (List.mem_append.mp h).elim (fun h => ha w (List.mem_cons.mpr (Or.inr h))) (hb w))
theorem goodIn_sub {big ws : List Cond} (hm : ∀ w ∈ ws, w ∈ big) (h : ws.all goodWord = true) : GoodIn big ws := fun w hw => ⟨hm w hw, good_of_word (List.all_eq_true.mp h w hw)⟩
/-! ===== END ===== -/

/-! ===== BEGIN printed: names, fields, word lists, decode rows ===== -/
def RX0 : String := "VacantAir$ActText"
def TX0 : u_T := fun k => match k with
  | 0 => ("VacantAir$ActText", "bytes", "[I", true)
  | 1 => ("VacantAir$ActText", "length", "I", false)
  | 2 => ("VacantAir$ActText", "place", "I", false)
  | 3 => ("VacantAir$ActText", "fault", "I", false)
  | 4 => ("VacantAir$ActText", "kind", "I", false)
  | 5 => ("VacantAir$ActText", "first", "I", false)
  | 6 => ("VacantAir$ActText", "second", "I", false)
  | _ => ("VacantAir$ActText", "third", "I", false)
def tyX0 : Nat → FieldType := fun k => match k with
  | 0 => .array .int
  | 1 => .int
  | 2 => .int
  | 3 => .int
  | 4 => .int
  | 5 => .int
  | 6 => .int
  | _ => .int
abbrev wsX00 : List Cond := u_ws RX0 TX0 8
theorem nmX0 : ∀ a, a < 8 → ∀ b, b < 8 → a ≠ b → (TX0 a).2.1 ≠ (TX0 b).2.1 := by decide +kernel
theorem tyX0_ok : ∀ k, k < 8 → parseFieldDescriptor (TX0 k).2.2.1 = some (tyX0 k) := by decide +kernel
abbrev cX0_init : ByteArray := prog_2_method_1_code
def yX0_init : MethodName := ⟨RX0, "<init>", "()V"⟩
abbrev cX0_add : ByteArray := prog_2_method_2_code
def yX0_add : MethodName := ⟨RX0, "add", "(I)I"⟩
abbrev cX0_empty : ByteArray := prog_2_method_3_code
def yX0_empty : MethodName := ⟨RX0, "empty", "()I"⟩
abbrev cX0_findFault : ByteArray := prog_2_method_4_code
def yX0_findFault : MethodName := ⟨RX0, "findFault", "()I"⟩
abbrev cX0_startReading : ByteArray := prog_2_method_5_code
def yX0_startReading : MethodName := ⟨RX0, "startReading", "()V"⟩
abbrev cX0_hasMore : ByteArray := prog_2_method_6_code
def yX0_hasMore : MethodName := ⟨RX0, "hasMore", "()Z"⟩
abbrev cX0_readAct : ByteArray := prog_2_method_7_code
def yX0_readAct : MethodName := ⟨RX0, "readAct", "()V"⟩
abbrev cX0_readByte : ByteArray := prog_2_method_8_code
def yX0_readByte : MethodName := ⟨RX0, "readByte", "(I)V"⟩
abbrev cX0_readNumber : ByteArray := prog_2_method_9_code
def yX0_readNumber : MethodName := ⟨RX0, "readNumber", "(II)I"⟩
abbrev cX0_isDigitAt : ByteArray := prog_2_method_10_code
def yX0_isDigitAt : MethodName := ⟨RX0, "isDigitAt", "(I)Z"⟩
def RX1 : String := "VacantAir$Devices"
def TX1 : u_T := fun k => match k with
  | 0 => ("VacantAir$Devices", "x", "[I", true)
  | 1 => ("VacantAir$Devices", "y", "[I", true)
  | 2 => ("VacantAir$Devices", "greatest", "[I", true)
  | 3 => ("VacantAir$Devices", "channel", "[I", true)
  | 4 => ("VacantAir$Devices", "power", "[I", true)
  | 5 => ("VacantAir$Devices", "end", "[I", true)
  | 6 => ("VacantAir$Devices", "notice", "[I", true)
  | 7 => ("VacantAir$Devices", "hops", "[I", true)
  | 8 => ("VacantAir$Devices", "struck", "[I", true)
  | 9 => ("VacantAir$Devices", "cut", "[I", true)
  | _ => ("VacantAir$Devices", "count", "I", false)
def tyX1 : Nat → FieldType := fun k => match k with
  | 0 => .array .int
  | 1 => .array .int
  | 2 => .array .int
  | 3 => .array .int
  | 4 => .array .int
  | 5 => .array .int
  | 6 => .array .int
  | 7 => .array .int
  | 8 => .array .int
  | 9 => .array .int
  | _ => .int
abbrev wsX10 : List Cond := u_ws RX1 TX1 11
theorem nmX1 : ∀ a, a < 11 → ∀ b, b < 11 → a ≠ b → (TX1 a).2.1 ≠ (TX1 b).2.1 := by decide +kernel
theorem tyX1_ok : ∀ k, k < 11 → parseFieldDescriptor (TX1 k).2.2.1 = some (tyX1 k) := by decide +kernel
abbrev cX1_init : ByteArray := prog_3_method_1_code
def yX1_init : MethodName := ⟨RX1, "<init>", "()V"⟩
abbrev cX1_has : ByteArray := prog_3_method_2_code
def yX1_has : MethodName := ⟨RX1, "has", "(I)Z"⟩
abbrev cX1_hasLease : ByteArray := prog_3_method_3_code
def yX1_hasLease : MethodName := ⟨RX1, "hasLease", "(I)Z"⟩
abbrev cX1_hasNotice : ByteArray := prog_3_method_4_code
def yX1_hasNotice : MethodName := ⟨RX1, "hasNotice", "(I)Z"⟩
abbrev cX1_putOn : ByteArray := prog_3_method_5_code
def yX1_putOn : MethodName := ⟨RX1, "putOn", "(III)V"⟩
abbrev cX1_removeLease : ByteArray := prog_3_method_6_code
def yX1_removeLease : MethodName := ⟨RX1, "removeLease", "(I)V"⟩
abbrev cX1_tell : ByteArray := prog_3_method_7_code
def yX1_tell : MethodName := ⟨RX1, "tell", "(II)I"⟩
abbrev cX1_countLeases : ByteArray := prog_3_method_8_code
def yX1_countLeases : MethodName := ⟨RX1, "countLeases", "()I"⟩
abbrev cX1_countOn : ByteArray := prog_3_method_9_code
def yX1_countOn : MethodName := ⟨RX1, "countOn", "(I)I"⟩
abbrev cX1_countNotices : ByteArray := prog_3_method_10_code
def yX1_countNotices : MethodName := ⟨RX1, "countNotices", "()I"⟩
abbrev cX1_sumOf : ByteArray := prog_3_method_11_code
def yX1_sumOf : MethodName := ⟨RX1, "sumOf", "([I)I"⟩
abbrev cX1_atPlace : ByteArray := prog_3_method_12_code
def yX1_atPlace : MethodName := ⟨RX1, "atPlace", "(I)I"⟩
abbrev cX1_placeOf : ByteArray := prog_3_method_13_code
def yX1_placeOf : MethodName := ⟨RX1, "placeOf", "(I)I"⟩
abbrev cX1_comesBefore : ByteArray := prog_3_method_14_code
def yX1_comesBefore : MethodName := ⟨RX1, "comesBefore", "(II)Z"⟩
abbrev cX1_copyFrom : ByteArray := prog_3_method_15_code
def yX1_copyFrom : MethodName := ⟨RX1, "copyFrom", "(LVacantAir$Devices;)V"⟩
def RX2 : String := "VacantAir$Events"
def TX2 : u_T := fun k => match k with
  | 0 => ("VacantAir$Events", "x", "[I", true)
  | 1 => ("VacantAir$Events", "y", "[I", true)
  | 2 => ("VacantAir$Events", "radius", "[I", true)
  | 3 => ("VacantAir$Events", "channel", "[I", true)
  | 4 => ("VacantAir$Events", "from", "[I", true)
  | 5 => ("VacantAir$Events", "to", "[I", true)
  | 6 => ("VacantAir$Events", "cancelled", "[I", true)
  | _ => ("VacantAir$Events", "count", "I", false)
def tyX2 : Nat → FieldType := fun k => match k with
  | 0 => .array .int
  | 1 => .array .int
  | 2 => .array .int
  | 3 => .array .int
  | 4 => .array .int
  | 5 => .array .int
  | 6 => .array .int
  | _ => .int
abbrev wsX20 : List Cond := u_ws RX2 TX2 8
theorem nmX2 : ∀ a, a < 8 → ∀ b, b < 8 → a ≠ b → (TX2 a).2.1 ≠ (TX2 b).2.1 := by decide +kernel
theorem tyX2_ok : ∀ k, k < 8 → parseFieldDescriptor (TX2 k).2.2.1 = some (tyX2 k) := by decide +kernel
abbrev cX2_init : ByteArray := prog_4_method_1_code
def yX2_init : MethodName := ⟨RX2, "<init>", "()V"⟩
abbrev cX2_has : ByteArray := prog_4_method_2_code
def yX2_has : MethodName := ⟨RX2, "has", "(I)Z"⟩
abbrev cX2_isOn : ByteArray := prog_4_method_3_code
def yX2_isOn : MethodName := ⟨RX2, "isOn", "(II)Z"⟩
abbrev cX2_tell : ByteArray := prog_4_method_4_code
def yX2_tell : MethodName := ⟨RX2, "tell", "(III)I"⟩
abbrev cX2_copyFrom : ByteArray := prog_4_method_5_code
def yX2_copyFrom : MethodName := ⟨RX2, "copyFrom", "(LVacantAir$Events;)V"⟩
def RX3 : String := "VacantAir$History"
def TX3 : u_T := fun k => match k with
  | 0 => ("VacantAir$History", "ring", "[LVacantAir$State;", true)
  | 1 => ("VacantAir$History", "oldest", "I", false)
  | _ => ("VacantAir$History", "count", "I", false)
def tyX3 : Nat → FieldType := fun k => match k with
  | 0 => .array (.object "VacantAir$State")
  | 1 => .int
  | _ => .int
abbrev wsX30 : List Cond := u_ws RX3 TX3 3
theorem nmX3 : ∀ a, a < 3 → ∀ b, b < 3 → a ≠ b → (TX3 a).2.1 ≠ (TX3 b).2.1 := by decide +kernel
theorem tyX3_ok : ∀ k, k < 3 → parseFieldDescriptor (TX3 k).2.2.1 = some (tyX3 k) := by decide +kernel
abbrev cX3_init : ByteArray := prog_5_method_1_code
def yX3_init : MethodName := ⟨RX3, "<init>", "()V"⟩
abbrev cX3_note : ByteArray := prog_5_method_2_code
def yX3_note : MethodName := ⟨RX3, "note", "(LVacantAir$State;)V"⟩
abbrev cX3_keepNoted : ByteArray := prog_5_method_3_code
def yX3_keepNoted : MethodName := ⟨RX3, "keepNoted", "()V"⟩
abbrev cX3_takeLatest : ByteArray := prog_5_method_4_code
def yX3_takeLatest : MethodName := ⟨RX3, "takeLatest", "(LVacantAir$State;)V"⟩
def RX4 : String := "VacantAir$State"
def TX4 : u_T := fun k => match k with
  | 0 => ("VacantAir$State", "stations", "LVacantAir$Stations;", true)
  | 1 => ("VacantAir$State", "events", "LVacantAir$Events;", true)
  | 2 => ("VacantAir$State", "devices", "LVacantAir$Devices;", true)
  | 3 => ("VacantAir$State", "settings", "[I", true)
  | 4 => ("VacantAir$State", "hour", "I", false)
  | _ => ("VacantAir$State", "reason", "I", false)
def tyX4 : Nat → FieldType := fun k => match k with
  | 0 => .object "VacantAir$Stations"
  | 1 => .object "VacantAir$Events"
  | 2 => .object "VacantAir$Devices"
  | 3 => .array .int
  | 4 => .int
  | _ => .int
abbrev wsX40 : List Cond := u_ws RX4 TX4 6
theorem nmX4 : ∀ a, a < 6 → ∀ b, b < 6 → a ≠ b → (TX4 a).2.1 ≠ (TX4 b).2.1 := by decide +kernel
theorem tyX4_ok : ∀ k, k < 6 → parseFieldDescriptor (TX4 k).2.2.1 = some (tyX4 k) := by decide +kernel
abbrev cX4_init : ByteArray := prog_6_method_1_code
def yX4_init : MethodName := ⟨RX4, "<init>", "()V"⟩
abbrev cX4_copyFrom : ByteArray := prog_6_method_2_code
def yX4_copyFrom : MethodName := ⟨RX4, "copyFrom", "(LVacantAir$State;)V"⟩
abbrev cX4_putStation : ByteArray := prog_6_method_3_code
def yX4_putStation : MethodName := ⟨RX4, "putStation", "(IIII)I"⟩
abbrev cX4_putEvent : ByteArray := prog_6_method_4_code
def yX4_putEvent : MethodName := ⟨RX4, "putEvent", "(IIIIII)I"⟩
abbrev cX4_putDevice : ByteArray := prog_6_method_5_code
def yX4_putDevice : MethodName := ⟨RX4, "putDevice", "(III)I"⟩
abbrev cX4_change : ByteArray := prog_6_method_6_code
def yX4_change : MethodName := ⟨RX4, "change", "(II)I"⟩
abbrev cX4_turnStation : ByteArray := prog_6_method_7_code
def yX4_turnStation : MethodName := ⟨RX4, "turnStation", "(II)I"⟩
abbrev cX4_callOff : ByteArray := prog_6_method_8_code
def yX4_callOff : MethodName := ⟨RX4, "callOff", "(I)I"⟩
abbrev cX4_makeLease : ByteArray := prog_6_method_9_code
def yX4_makeLease : MethodName := ⟨RX4, "makeLease", "(III)I"⟩
abbrev cX4_prolongLease : ByteArray := prog_6_method_10_code
def yX4_prolongLease : MethodName := ⟨RX4, "prolongLease", "(II)I"⟩
abbrev cX4_dropLease : ByteArray := prog_6_method_11_code
def yX4_dropLease : MethodName := ⟨RX4, "dropLease", "(I)I"⟩
abbrev cX4_passHours : ByteArray := prog_6_method_12_code
def yX4_passHours : MethodName := ⟨RX4, "passHours", "(I)I"⟩
abbrev cX4_passOneHour : ByteArray := prog_6_method_13_code
def yX4_passOneHour : MethodName := ⟨RX4, "passOneHour", "()I"⟩
abbrev cX4_endLeases : ByteArray := prog_6_method_14_code
def yX4_endLeases : MethodName := ⟨RX4, "endLeases", "()V"⟩
abbrev cX4_review : ByteArray := prog_6_method_15_code
def yX4_review : MethodName := ⟨RX4, "review", "()V"⟩
abbrev cX4_cutLeases : ByteArray := prog_6_method_16_code
def yX4_cutLeases : MethodName := ⟨RX4, "cutLeases", "()V"⟩
abbrev cX4_asksNow : ByteArray := prog_6_method_17_code
def yX4_asksNow : MethodName := ⟨RX4, "asksNow", "(I)Z"⟩
abbrev cX4_nextAsking : ByteArray := prog_6_method_18_code
def yX4_nextAsking : MethodName := ⟨RX4, "nextAsking", "(I)I"⟩
abbrev cX4_hopOrStrike : ByteArray := prog_6_method_19_code
def yX4_hopOrStrike : MethodName := ⟨RX4, "hopOrStrike", "(I)I"⟩
abbrev cX4_refusal : ByteArray := prog_6_method_20_code
def yX4_refusal : MethodName := ⟨RX4, "refusal", "(II)I"⟩
abbrev cX4_isAllowedOnAny : ByteArray := prog_6_method_21_code
def yX4_isAllowedOnAny : MethodName := ⟨RX4, "isAllowedOnAny", "(II)Z"⟩
abbrev cX4_findOffer : ByteArray := prog_6_method_22_code
def yX4_findOffer : MethodName := ⟨RX4, "findOffer", "(II)I"⟩
abbrev cX4_isFree : ByteArray := prog_6_method_23_code
def yX4_isFree : MethodName := ⟨RX4, "isFree", "(III)Z"⟩
abbrev cX4_leaseIsAllowed : ByteArray := prog_6_method_24_code
def yX4_leaseIsAllowed : MethodName := ⟨RX4, "leaseIsAllowed", "(I)Z"⟩
abbrev cX4_isAllowed : ByteArray := prog_6_method_25_code
def yX4_isAllowed : MethodName := ⟨RX4, "isAllowed", "(IIII)Z"⟩
abbrev cX4_barredRadius : ByteArray := prog_6_method_26_code
def yX4_barredRadius : MethodName := ⟨RX4, "barredRadius", "(II)I"⟩
abbrev cX4_tellTotal : ByteArray := prog_6_method_27_code
def yX4_tellTotal : MethodName := ⟨RX4, "tellTotal", "(I)I"⟩
def RX5 : String := "VacantAir$Stations"
def TX5 : u_T := fun k => match k with
  | 0 => ("VacantAir$Stations", "x", "[I", true)
  | 1 => ("VacantAir$Stations", "y", "[I", true)
  | 2 => ("VacantAir$Stations", "channel", "[I", true)
  | 3 => ("VacantAir$Stations", "powerClass", "[I", true)
  | 4 => ("VacantAir$Stations", "awake", "[I", true)
  | _ => ("VacantAir$Stations", "count", "I", false)
def tyX5 : Nat → FieldType := fun k => match k with
  | 0 => .array .int
  | 1 => .array .int
  | 2 => .array .int
  | 3 => .array .int
  | 4 => .array .int
  | _ => .int
abbrev wsX50 : List Cond := u_ws RX5 TX5 6
theorem nmX5 : ∀ a, a < 6 → ∀ b, b < 6 → a ≠ b → (TX5 a).2.1 ≠ (TX5 b).2.1 := by decide +kernel
theorem tyX5_ok : ∀ k, k < 6 → parseFieldDescriptor (TX5 k).2.2.1 = some (tyX5 k) := by decide +kernel
abbrev cX5_init : ByteArray := prog_7_method_1_code
def yX5_init : MethodName := ⟨RX5, "<init>", "()V"⟩
abbrev cX5_has : ByteArray := prog_7_method_2_code
def yX5_has : MethodName := ⟨RX5, "has", "(I)Z"⟩
abbrev cX5_tell : ByteArray := prog_7_method_3_code
def yX5_tell : MethodName := ⟨RX5, "tell", "(II)I"⟩
abbrev cX5_countAwake : ByteArray := prog_7_method_4_code
def yX5_countAwake : MethodName := ⟨RX5, "countAwake", "()I"⟩
abbrev cX5_copyFrom : ByteArray := prog_7_method_5_code
def yX5_copyFrom : MethodName := ⟨RX5, "copyFrom", "(LVacantAir$Stations;)V"⟩
def RX6 : String := "VacantAir"
def TX6 : u_T := fun k => match k with
  | 0 => ("VacantAir", "present", "LVacantAir$State;", true)
  | 1 => ("VacantAir", "trial", "LVacantAir$State;", true)
  | 2 => ("VacantAir", "history", "LVacantAir$History;", true)
  | 3 => ("VacantAir", "slots", "[LVacantAir$State;", true)
  | 4 => ("VacantAir", "slotHolds", "[Z", true)
  | _ => ("VacantAir", "text", "LVacantAir$ActText;", true)
def tyX6 : Nat → FieldType := fun k => match k with
  | 0 => .object "VacantAir$State"
  | 1 => .object "VacantAir$State"
  | 2 => .object "VacantAir$History"
  | 3 => .array (.object "VacantAir$State")
  | 4 => .array .boolean
  | _ => .object "VacantAir$ActText"
abbrev wsX60 : List Cond := u_ws RX6 TX6 6
theorem nmX6 : ∀ a, a < 6 → ∀ b, b < 6 → a ≠ b → (TX6 a).2.1 ≠ (TX6 b).2.1 := by decide +kernel
theorem tyX6_ok : ∀ k, k < 6 → parseFieldDescriptor (TX6 k).2.2.1 = some (tyX6 k) := by decide +kernel
abbrev cX6_init : ByteArray := prog_1_method_1_code
def yX6_init : MethodName := ⟨RX6, "<init>", "()V"⟩
abbrev cX6_addStation : ByteArray := prog_1_method_2_code
def yX6_addStation : MethodName := ⟨RX6, "addStation", "(IIII)I"⟩
abbrev cX6_addEvent : ByteArray := prog_1_method_3_code
def yX6_addEvent : MethodName := ⟨RX6, "addEvent", "(IIIIII)I"⟩
abbrev cX6_addDevice : ByteArray := prog_1_method_4_code
def yX6_addDevice : MethodName := ⟨RX6, "addDevice", "(III)I"⟩
abbrev cX6_set : ByteArray := prog_1_method_5_code
def yX6_set : MethodName := ⟨RX6, "set", "(II)I"⟩
abbrev cX6_wake : ByteArray := prog_1_method_6_code
def yX6_wake : MethodName := ⟨RX6, "wake", "(I)I"⟩
abbrev cX6_sleep : ByteArray := prog_1_method_7_code
def yX6_sleep : MethodName := ⟨RX6, "sleep", "(I)I"⟩
abbrev cX6_cancel : ByteArray := prog_1_method_8_code
def yX6_cancel : MethodName := ⟨RX6, "cancel", "(I)I"⟩
abbrev cX6_lease : ByteArray := prog_1_method_9_code
def yX6_lease : MethodName := ⟨RX6, "lease", "(III)I"⟩
abbrev cX6_renew : ByteArray := prog_1_method_10_code
def yX6_renew : MethodName := ⟨RX6, "renew", "(II)I"⟩
abbrev cX6_giveBack : ByteArray := prog_1_method_11_code
def yX6_giveBack : MethodName := ⟨RX6, "giveBack", "(I)I"⟩
abbrev cX6_pass : ByteArray := prog_1_method_12_code
def yX6_pass : MethodName := ⟨RX6, "pass", "(I)I"⟩
abbrev cX6_append : ByteArray := prog_1_method_13_code
def yX6_append : MethodName := ⟨RX6, "append", "(I)I"⟩
abbrev cX6_clearText : ByteArray := prog_1_method_14_code
def yX6_clearText : MethodName := ⟨RX6, "clearText", "()I"⟩
abbrev cX6_faultPosition : ByteArray := prog_1_method_15_code
def yX6_faultPosition : MethodName := ⟨RX6, "faultPosition", "()I"⟩
abbrev cX6_run : ByteArray := prog_1_method_16_code
def yX6_run : MethodName := ⟨RX6, "run", "()I"⟩
abbrev cX6_undo : ByteArray := prog_1_method_17_code
def yX6_undo : MethodName := ⟨RX6, "undo", "()I"⟩
abbrev cX6_save : ByteArray := prog_1_method_18_code
def yX6_save : MethodName := ⟨RX6, "save", "(I)I"⟩
abbrev cX6_restore : ByteArray := prog_1_method_19_code
def yX6_restore : MethodName := ⟨RX6, "restore", "(I)I"⟩
abbrev cX6_station : ByteArray := prog_1_method_20_code
def yX6_station : MethodName := ⟨RX6, "station", "(II)I"⟩
abbrev cX6_event : ByteArray := prog_1_method_21_code
def yX6_event : MethodName := ⟨RX6, "event", "(II)I"⟩
abbrev cX6_device : ByteArray := prog_1_method_22_code
def yX6_device : MethodName := ⟨RX6, "device", "(II)I"⟩
abbrev cX6_power : ByteArray := prog_1_method_23_code
def yX6_power : MethodName := ⟨RX6, "power", "(III)I"⟩
abbrev cX6_offer : ByteArray := prog_1_method_24_code
def yX6_offer : MethodName := ⟨RX6, "offer", "(II)I"⟩
abbrev cX6_next : ByteArray := prog_1_method_25_code
def yX6_next : MethodName := ⟨RX6, "next", "(I)I"⟩
abbrev cX6_leases : ByteArray := prog_1_method_26_code
def yX6_leases : MethodName := ⟨RX6, "leases", "(I)I"⟩
abbrev cX6_total : ByteArray := prog_1_method_27_code
def yX6_total : MethodName := ⟨RX6, "total", "(I)I"⟩
abbrev cX6_vacant : ByteArray := prog_1_method_28_code
def yX6_vacant : MethodName := ⟨RX6, "vacant", "(II)I"⟩
abbrev cX6_allowedFrom : ByteArray := prog_1_method_29_code
def yX6_allowedFrom : MethodName := ⟨RX6, "allowedFrom", "(IIII)I"⟩
abbrev cX6_wouldStrike : ByteArray := prog_1_method_30_code
def yX6_wouldStrike : MethodName := ⟨RX6, "wouldStrike", "(I)I"⟩
abbrev cX6_channelIn : ByteArray := prog_1_method_31_code
def yX6_channelIn : MethodName := ⟨RX6, "channelIn", "(II)I"⟩
abbrev cX6_clearIn : ByteArray := prog_1_method_32_code
def yX6_clearIn : MethodName := ⟨RX6, "clearIn", "()I"⟩
abbrev cX6_recorded : ByteArray := prog_1_method_33_code
def yX6_recorded : MethodName := ⟨RX6, "recorded", "(I)I"⟩
abbrev cX6_barredAlone : ByteArray := prog_1_method_34_code
def yX6_barredAlone : MethodName := ⟨RX6, "barredAlone", "(I)I"⟩
abbrev cX6_isOutside : ByteArray := prog_1_method_35_code
def yX6_isOutside : MethodName := ⟨RX6, "isOutside", "(III)Z"⟩
abbrev cX6_isNoPlace : ByteArray := prog_1_method_36_code
def yX6_isNoPlace : MethodName := ⟨RX6, "isNoPlace", "(II)Z"⟩
abbrev cX6_isWithin : ByteArray := prog_1_method_37_code
def yX6_isWithin : MethodName := ⟨RX6, "isWithin", "(III)Z"⟩
abbrev cX6_copyRow : ByteArray := prog_1_method_38_code
def yX6_copyRow : MethodName := ⟨RX6, "copyRow", "([I[I)V"⟩
def RX7 : String := "VacantAirModel"
def TX7 : u_T := fun k => match k with
  | 0 => ("VacantAirModel", "s", "[I", true)
  | 1 => ("VacantAirModel", "past", "[I", true)
  | 2 => ("VacantAirModel", "slots", "[I", true)
  | 3 => ("VacantAirModel", "isKept", "[Z", true)
  | 4 => ("VacantAirModel", "held", "[I", true)
  | 5 => ("VacantAirModel", "pasts", "I", false)
  | 6 => ("VacantAirModel", "runs", "Z", false)
  | 7 => ("VacantAirModel", "text", "[I", true)
  | 8 => ("VacantAirModel", "typed", "I", false)
  | 9 => ("VacantAirModel", "at", "I", false)
  | 10 => ("VacantAirModel", "first", "I", false)
  | 11 => ("VacantAirModel", "second", "I", false)
  | _ => ("VacantAirModel", "third", "I", false)
def tyX7 : Nat → FieldType := fun k => match k with
  | 0 => .array .int
  | 1 => .array .int
  | 2 => .array .int
  | 3 => .array .boolean
  | 4 => .array .int
  | 5 => .int
  | 6 => .boolean
  | 7 => .array .int
  | 8 => .int
  | 9 => .int
  | 10 => .int
  | 11 => .int
  | _ => .int
abbrev wsX70 : List Cond := u_ws RX7 TX7 13
theorem nmX7 : ∀ a, a < 13 → ∀ b, b < 13 → a ≠ b → (TX7 a).2.1 ≠ (TX7 b).2.1 := by decide +kernel
theorem tyX7_ok : ∀ k, k < 13 → parseFieldDescriptor (TX7 k).2.2.1 = some (tyX7 k) := by decide +kernel
abbrev cX7_init : ByteArray := prog_9_method_1_code
def yX7_init : MethodName := ⟨RX7, "<init>", "()V"⟩
abbrev cX7_in : ByteArray := prog_9_method_3_code
def yX7_in : MethodName := ⟨RX7, "in", "(III)Z"⟩
abbrev cX7_records : ByteArray := prog_9_method_4_code
def yX7_records : MethodName := ⟨RX7, "records", "()V"⟩
abbrev cX7_holds : ByteArray := prog_9_method_5_code
def yX7_holds : MethodName := ⟨RX7, "holds", "()V"⟩
abbrev cX7_lets : ByteArray := prog_9_method_6_code
def yX7_lets : MethodName := ⟨RX7, "lets", "()V"⟩
abbrev cX7_isStation : ByteArray := prog_9_method_7_code
def yX7_isStation : MethodName := ⟨RX7, "isStation", "(I)Z"⟩
abbrev cX7_isEvent : ByteArray := prog_9_method_8_code
def yX7_isEvent : MethodName := ⟨RX7, "isEvent", "(I)Z"⟩
abbrev cX7_isDevice : ByteArray := prog_9_method_9_code
def yX7_isDevice : MethodName := ⟨RX7, "isDevice", "(I)Z"⟩
abbrev cX7_ofStation : ByteArray := prog_9_method_10_code
def yX7_ofStation : MethodName := ⟨RX7, "ofStation", "(II)I"⟩
abbrev cX7_ofEvent : ByteArray := prog_9_method_11_code
def yX7_ofEvent : MethodName := ⟨RX7, "ofEvent", "(II)I"⟩
abbrev cX7_ofDevice : ByteArray := prog_9_method_12_code
def yX7_ofDevice : MethodName := ⟨RX7, "ofDevice", "(II)I"⟩
abbrev cX7_puts : ByteArray := prog_9_method_13_code
def yX7_puts : MethodName := ⟨RX7, "puts", "(III)V"⟩
abbrev cX7_isPlace : ByteArray := prog_9_method_14_code
def yX7_isPlace : MethodName := ⟨RX7, "isPlace", "(II)Z"⟩
abbrev cX7_isChannel : ByteArray := prog_9_method_15_code
def yX7_isChannel : MethodName := ⟨RX7, "isChannel", "(I)Z"⟩
abbrev cX7_isPower : ByteArray := prog_9_method_16_code
def yX7_isPower : MethodName := ⟨RX7, "isPower", "(I)Z"⟩
abbrev cX7_radiusOf : ByteArray := prog_9_method_17_code
def yX7_radiusOf : MethodName := ⟨RX7, "radiusOf", "(I)I"⟩
abbrev cX7_reach : ByteArray := prog_9_method_18_code
def yX7_reach : MethodName := ⟨RX7, "reach", "(I)I"⟩
abbrev cX7_isNear : ByteArray := prog_9_method_19_code
def yX7_isNear : MethodName := ⟨RX7, "isNear", "(IIIII)Z"⟩
abbrev cX7_isBarredBy : ByteArray := prog_9_method_20_code
def yX7_isBarredBy : MethodName := ⟨RX7, "isBarredBy", "(IIIII)Z"⟩
abbrev cX7_isOn : ByteArray := prog_9_method_21_code
def yX7_isOn : MethodName := ⟨RX7, "isOn", "(II)Z"⟩
abbrev cX7_isBarred : ByteArray := prog_9_method_22_code
def yX7_isBarred : MethodName := ⟨RX7, "isBarred", "(IIII)Z"⟩
abbrev cX7_isReserved : ByteArray := prog_9_method_23_code
def yX7_isReserved : MethodName := ⟨RX7, "isReserved", "(IIIII)Z"⟩
abbrev cX7_isAllowed : ByteArray := prog_9_method_24_code
def yX7_isAllowed : MethodName := ⟨RX7, "isAllowed", "(IIII)Z"⟩
abbrev cX7_isAllowedFor : ByteArray := prog_9_method_25_code
def yX7_isAllowedFor : MethodName := ⟨RX7, "isAllowedFor", "(III)Z"⟩
abbrev cX7_hasLease : ByteArray := prog_9_method_26_code
def yX7_hasLease : MethodName := ⟨RX7, "hasLease", "(I)Z"⟩
abbrev cX7_isFree : ByteArray := prog_9_method_27_code
def yX7_isFree : MethodName := ⟨RX7, "isFree", "(III)Z"⟩
abbrev cX7_others : ByteArray := prog_9_method_28_code
def yX7_others : MethodName := ⟨RX7, "others", "(II)I"⟩
abbrev cX7_offerFor : ByteArray := prog_9_method_29_code
def yX7_offerFor : MethodName := ⟨RX7, "offerFor", "(II)I"⟩
abbrev cX7_isLeaseAllowed : ByteArray := prog_9_method_30_code
def yX7_isLeaseAllowed : MethodName := ⟨RX7, "isLeaseAllowed", "(I)Z"⟩
abbrev cX7_reviews : ByteArray := prog_9_method_31_code
def yX7_reviews : MethodName := ⟨RX7, "reviews", "()V"⟩
abbrev cX7_ends : ByteArray := prog_9_method_32_code
def yX7_ends : MethodName := ⟨RX7, "ends", "(I)V"⟩
abbrev cX7_notices : ByteArray := prog_9_method_33_code
def yX7_notices : MethodName := ⟨RX7, "notices", "()I"⟩
abbrev cX7_leasesNow : ByteArray := prog_9_method_34_code
def yX7_leasesNow : MethodName := ⟨RX7, "leasesNow", "()I"⟩
abbrev cX7_asks : ByteArray := prog_9_method_35_code
def yX7_asks : MethodName := ⟨RX7, "asks", "(I)I"⟩
abbrev cX7_passesOne : ByteArray := prog_9_method_36_code
def yX7_passesOne : MethodName := ⟨RX7, "passesOne", "()I"⟩
abbrev cX7_addStation : ByteArray := prog_9_method_37_code
def yX7_addStation : MethodName := ⟨RX7, "addStation", "(IIII)I"⟩
abbrev cX7_addEvent : ByteArray := prog_9_method_38_code
def yX7_addEvent : MethodName := ⟨RX7, "addEvent", "(IIIIII)I"⟩
abbrev cX7_addDevice : ByteArray := prog_9_method_39_code
def yX7_addDevice : MethodName := ⟨RX7, "addDevice", "(III)I"⟩
abbrev cX7_set : ByteArray := prog_9_method_40_code
def yX7_set : MethodName := ⟨RX7, "set", "(II)I"⟩
abbrev cX7_turns : ByteArray := prog_9_method_41_code
def yX7_turns : MethodName := ⟨RX7, "turns", "(II)I"⟩
abbrev cX7_wake : ByteArray := prog_9_method_42_code
def yX7_wake : MethodName := ⟨RX7, "wake", "(I)I"⟩
abbrev cX7_sleep : ByteArray := prog_9_method_43_code
def yX7_sleep : MethodName := ⟨RX7, "sleep", "(I)I"⟩
abbrev cX7_cancel : ByteArray := prog_9_method_44_code
def yX7_cancel : MethodName := ⟨RX7, "cancel", "(I)I"⟩
abbrev cX7_refuses : ByteArray := prog_9_method_45_code
def yX7_refuses : MethodName := ⟨RX7, "refuses", "(I)I"⟩
abbrev cX7_isAnyAllowed : ByteArray := prog_9_method_46_code
def yX7_isAnyAllowed : MethodName := ⟨RX7, "isAnyAllowed", "(II)Z"⟩
abbrev cX7_lease : ByteArray := prog_9_method_47_code
def yX7_lease : MethodName := ⟨RX7, "lease", "(III)I"⟩
abbrev cX7_renew : ByteArray := prog_9_method_48_code
def yX7_renew : MethodName := ⟨RX7, "renew", "(II)I"⟩
abbrev cX7_giveBack : ByteArray := prog_9_method_49_code
def yX7_giveBack : MethodName := ⟨RX7, "giveBack", "(I)I"⟩
abbrev cX7_pass : ByteArray := prog_9_method_50_code
def yX7_pass : MethodName := ⟨RX7, "pass", "(I)I"⟩
abbrev cX7_append : ByteArray := prog_9_method_51_code
def yX7_append : MethodName := ⟨RX7, "append", "(I)I"⟩
abbrev cX7_clearText : ByteArray := prog_9_method_52_code
def yX7_clearText : MethodName := ⟨RX7, "clearText", "()I"⟩
abbrev cX7_isAt : ByteArray := prog_9_method_53_code
def yX7_isAt : MethodName := ⟨RX7, "isAt", "(II)Z"⟩
abbrev cX7_takes : ByteArray := prog_9_method_54_code
def yX7_takes : MethodName := ⟨RX7, "takes", "(I)Z"⟩
abbrev cX7_number : ByteArray := prog_9_method_55_code
def yX7_number : MethodName := ⟨RX7, "number", "(II)I"⟩
abbrev cX7_reads : ByteArray := prog_9_method_56_code
def yX7_reads : MethodName := ⟨RX7, "reads", "()Z"⟩
abbrev cX7_faultPosition : ByteArray := prog_9_method_57_code
def yX7_faultPosition : MethodName := ⟨RX7, "faultPosition", "()I"⟩
abbrev cX7_does : ByteArray := prog_9_method_58_code
def yX7_does : MethodName := ⟨RX7, "does", "(I)I"⟩
abbrev cX7_run : ByteArray := prog_9_method_59_code
def yX7_run : MethodName := ⟨RX7, "run", "()I"⟩
abbrev cX7_undo : ByteArray := prog_9_method_60_code
def yX7_undo : MethodName := ⟨RX7, "undo", "()I"⟩
abbrev cX7_save : ByteArray := prog_9_method_61_code
def yX7_save : MethodName := ⟨RX7, "save", "(I)I"⟩
abbrev cX7_restore : ByteArray := prog_9_method_62_code
def yX7_restore : MethodName := ⟨RX7, "restore", "(I)I"⟩
abbrev cX7_onAccount : ByteArray := prog_9_method_63_code
def yX7_onAccount : MethodName := ⟨RX7, "onAccount", "(I)I"⟩
abbrev cX7_station : ByteArray := prog_9_method_64_code
def yX7_station : MethodName := ⟨RX7, "station", "(II)I"⟩
abbrev cX7_event : ByteArray := prog_9_method_65_code
def yX7_event : MethodName := ⟨RX7, "event", "(II)I"⟩
abbrev cX7_nextAsk : ByteArray := prog_9_method_66_code
def yX7_nextAsk : MethodName := ⟨RX7, "nextAsk", "(I)I"⟩
abbrev cX7_device : ByteArray := prog_9_method_67_code
def yX7_device : MethodName := ⟨RX7, "device", "(II)I"⟩
abbrev cX7_power : ByteArray := prog_9_method_68_code
def yX7_power : MethodName := ⟨RX7, "power", "(III)I"⟩
abbrev cX7_offer : ByteArray := prog_9_method_69_code
def yX7_offer : MethodName := ⟨RX7, "offer", "(II)I"⟩
abbrev cX7_isAhead : ByteArray := prog_9_method_70_code
def yX7_isAhead : MethodName := ⟨RX7, "isAhead", "(II)Z"⟩
abbrev cX7_next : ByteArray := prog_9_method_71_code
def yX7_next : MethodName := ⟨RX7, "next", "(I)I"⟩
abbrev cX7_leases : ByteArray := prog_9_method_72_code
def yX7_leases : MethodName := ⟨RX7, "leases", "(I)I"⟩
abbrev cX7_sumOf : ByteArray := prog_9_method_73_code
def yX7_sumOf : MethodName := ⟨RX7, "sumOf", "(I)I"⟩
abbrev cX7_awake : ByteArray := prog_9_method_74_code
def yX7_awake : MethodName := ⟨RX7, "awake", "()I"⟩
abbrev cX7_total : ByteArray := prog_9_method_75_code
def yX7_total : MethodName := ⟨RX7, "total", "(I)I"⟩
abbrev cX7_vacant : ByteArray := prog_9_method_76_code
def yX7_vacant : MethodName := ⟨RX7, "vacant", "(II)I"⟩
abbrev cX7_allowedFrom : ByteArray := prog_9_method_77_code
def yX7_allowedFrom : MethodName := ⟨RX7, "allowedFrom", "(IIII)I"⟩
abbrev cX7_wouldStrike : ByteArray := prog_9_method_78_code
def yX7_wouldStrike : MethodName := ⟨RX7, "wouldStrike", "(I)I"⟩
abbrev cX7_channelIn : ByteArray := prog_9_method_79_code
def yX7_channelIn : MethodName := ⟨RX7, "channelIn", "(II)I"⟩
abbrev cX7_clearIn : ByteArray := prog_9_method_80_code
def yX7_clearIn : MethodName := ⟨RX7, "clearIn", "()I"⟩
def RJ9 : String := "java/lang/Math"
def TJ9 : u_T := fun k => match k with
  | _ => ("", "", "", false)
def tyJ9 : Nat → FieldType := fun k => match k with
  | _ => .int
abbrev wsJ90 : List Cond := u_ws RJ9 TJ9 0
theorem nmJ9 : ∀ a, a < 0 → ∀ b, b < 0 → a ≠ b → (TJ9 a).2.1 ≠ (TJ9 b).2.1 := by decide +kernel
theorem tyJ9_ok : ∀ k, k < 0 → parseFieldDescriptor (TJ9 k).2.2.1 = some (tyJ9 k) := by decide +kernel
abbrev cJ9_min_7cf53 : ByteArray := prog_10_method_69_code
def yJ9_min_7cf53 : MethodName := ⟨RJ9, "min", "(II)I"⟩
def RJ10 : String := "java/lang/System"
def TJ10 : u_T := fun k => match k with
  | _ => ("", "", "", false)
def tyJ10 : Nat → FieldType := fun k => match k with
  | _ => .int
abbrev wsJ100 : List Cond := u_ws RJ10 TJ10 0
theorem nmJ10 : ∀ a, a < 0 → ∀ b, b < 0 → a ≠ b → (TJ10 a).2.1 ≠ (TJ10 b).2.1 := by decide +kernel
theorem tyJ10_ok : ∀ k, k < 0 → parseFieldDescriptor (TJ10 k).2.2.1 = some (tyJ10 k) := by decide +kernel
def RL : String := "VacantAirLaw"
abbrev cL_law : ByteArray := code
def yL_law : MethodName := ⟨RL, "law", "([I)Z"⟩
def wsX0_init : List Cond := .code yX0_init cX0_init 1 none :: ([.methodLink RX0 3 objectInit, .instanceMethod objectInit, .code objectInit ⟨#[0xb1]⟩ 1 none, .arrayClass .int, .fieldLink RX0 9 "VacantAir$ActText" "bytes" "[I", .fieldLink RX0 15 "VacantAir$ActText" "fault" "I"] ++ wsX00)
def wsX1_init : List Cond := .code yX1_init cX1_init 1 none :: ([.methodLink RX1 3 objectInit, .instanceMethod objectInit, .code objectInit ⟨#[0xb1]⟩ 1 none, .arrayClass .int, .fieldLink RX1 9 "VacantAir$Devices" "x" "[I", .fieldLink RX1 15 "VacantAir$Devices" "y" "[I", .fieldLink RX1 18 "VacantAir$Devices" "greatest" "[I", .fieldLink RX1 21 "VacantAir$Devices" "channel" "[I", .fieldLink RX1 24 "VacantAir$Devices" "power" "[I", .fieldLink RX1 27 "VacantAir$Devices" "end" "[I", .fieldLink RX1 30 "VacantAir$Devices" "notice" "[I", .fieldLink RX1 33 "VacantAir$Devices" "hops" "[I", .fieldLink RX1 36 "VacantAir$Devices" "struck" "[I", .fieldLink RX1 39 "VacantAir$Devices" "cut" "[I"] ++ wsX10)
def wsX2_init : List Cond := .code yX2_init cX2_init 1 none :: ([.methodLink RX2 3 objectInit, .instanceMethod objectInit, .code objectInit ⟨#[0xb1]⟩ 1 none, .arrayClass .int, .fieldLink RX2 9 "VacantAir$Events" "x" "[I", .fieldLink RX2 15 "VacantAir$Events" "y" "[I", .fieldLink RX2 18 "VacantAir$Events" "radius" "[I", .fieldLink RX2 21 "VacantAir$Events" "channel" "[I", .fieldLink RX2 24 "VacantAir$Events" "from" "[I", .fieldLink RX2 27 "VacantAir$Events" "to" "[I", .fieldLink RX2 30 "VacantAir$Events" "cancelled" "[I"] ++ wsX20)
def wsX5_init : List Cond := .code yX5_init cX5_init 1 none :: ([.methodLink RX5 3 objectInit, .instanceMethod objectInit, .code objectInit ⟨#[0xb1]⟩ 1 none, .arrayClass .int, .fieldLink RX5 9 "VacantAir$Stations" "x" "[I", .fieldLink RX5 15 "VacantAir$Stations" "y" "[I", .fieldLink RX5 18 "VacantAir$Stations" "channel" "[I", .fieldLink RX5 21 "VacantAir$Stations" "powerClass" "[I", .fieldLink RX5 24 "VacantAir$Stations" "awake" "[I"] ++ wsX50)
def wsX4_init_r1 : List Cond := [Cond.methodLink RX4 3 objectInit, Cond.instanceMethod objectInit, Cond.code objectInit ⟨#[0xb1]⟩ 1 none, Cond.classLink RX4 9 RX5, Cond.instantiable RX5 6, Cond.initialized RX5, Cond.fieldLink RX4 12 "VacantAir$State" "stations" "LVacantAir$Stations;", Cond.classLink RX4 18 RX2, Cond.instantiable RX2 8, Cond.initialized RX2, Cond.fieldLink RX4 21 "VacantAir$State" "events" "LVacantAir$Events;", Cond.classLink RX4 25 RX1, Cond.instantiable RX1 11, Cond.initialized RX1, Cond.fieldLink RX4 28 "VacantAir$State" "devices" "LVacantAir$Devices;", Cond.arrayClass .int, Cond.fieldLink RX4 32 "VacantAir$State" "settings" "[I", Cond.instanceMethod yX5_init, Cond.code yX5_init cX5_init 1 none, Cond.methodLink RX5 3 objectInit, Cond.fieldLink RX5 9 "VacantAir$Stations" "x" "[I", Cond.fieldLink RX5 15 "VacantAir$Stations" "y" "[I", Cond.fieldLink RX5 18 "VacantAir$Stations" "channel" "[I", Cond.fieldLink RX5 21 "VacantAir$Stations" "powerClass" "[I"]
def wsX4_init_r2 : List Cond := [Cond.fieldLink RX5 24 "VacantAir$Stations" "awake" "[I", Cond.instanceMethod yX2_init, Cond.code yX2_init cX2_init 1 none, Cond.methodLink RX2 3 objectInit, Cond.fieldLink RX2 9 "VacantAir$Events" "x" "[I", Cond.fieldLink RX2 15 "VacantAir$Events" "y" "[I", Cond.fieldLink RX2 18 "VacantAir$Events" "radius" "[I", Cond.fieldLink RX2 21 "VacantAir$Events" "channel" "[I", Cond.fieldLink RX2 24 "VacantAir$Events" "from" "[I", Cond.fieldLink RX2 27 "VacantAir$Events" "to" "[I", Cond.fieldLink RX2 30 "VacantAir$Events" "cancelled" "[I", Cond.instanceMethod yX1_init, Cond.code yX1_init cX1_init 1 none, Cond.methodLink RX1 3 objectInit, Cond.fieldLink RX1 9 "VacantAir$Devices" "x" "[I", Cond.fieldLink RX1 15 "VacantAir$Devices" "y" "[I", Cond.fieldLink RX1 18 "VacantAir$Devices" "greatest" "[I", Cond.fieldLink RX1 21 "VacantAir$Devices" "channel" "[I", Cond.fieldLink RX1 24 "VacantAir$Devices" "power" "[I", Cond.fieldLink RX1 27 "VacantAir$Devices" "end" "[I", Cond.fieldLink RX1 30 "VacantAir$Devices" "notice" "[I", Cond.fieldLink RX1 33 "VacantAir$Devices" "hops" "[I", Cond.fieldLink RX1 36 "VacantAir$Devices" "struck" "[I", Cond.fieldLink RX1 39 "VacantAir$Devices" "cut" "[I"]
def wsX4_init : List Cond := .code yX4_init cX4_init 2 none :: ((wsX4_init_r1 ++ wsX4_init_r2) ++ wsX50 ++ wsX40 ++ wsX20 ++ wsX10)
def wsX3_init_r1 : List Cond := [Cond.methodLink RX3 3 objectInit, Cond.instanceMethod objectInit, Cond.code objectInit ⟨#[0xb1]⟩ 1 none, Cond.classLink RX3 9 RX4, Cond.fieldLink RX3 11 "VacantAir$History" "ring" "[LVacantAir$State;", Cond.instantiable RX4 6, Cond.initialized RX4, Cond.methodLink RX3 17 yX4_init, Cond.instanceMethod yX4_init, Cond.code yX4_init cX4_init 2 none, Cond.methodLink RX4 3 objectInit, Cond.classLink RX4 9 RX5, Cond.instantiable RX5 6, Cond.initialized RX5, Cond.fieldLink RX4 12 "VacantAir$State" "stations" "LVacantAir$Stations;", Cond.classLink RX4 18 RX2, Cond.instantiable RX2 8, Cond.initialized RX2, Cond.fieldLink RX4 21 "VacantAir$State" "events" "LVacantAir$Events;", Cond.classLink RX4 25 RX1, Cond.instantiable RX1 11, Cond.initialized RX1, Cond.fieldLink RX4 28 "VacantAir$State" "devices" "LVacantAir$Devices;", Cond.arrayClass .int]
def wsX3_init_r2 : List Cond := [Cond.fieldLink RX4 32 "VacantAir$State" "settings" "[I", Cond.instanceMethod yX5_init, Cond.code yX5_init cX5_init 1 none, Cond.methodLink RX5 3 objectInit, Cond.fieldLink RX5 9 "VacantAir$Stations" "x" "[I", Cond.fieldLink RX5 15 "VacantAir$Stations" "y" "[I", Cond.fieldLink RX5 18 "VacantAir$Stations" "channel" "[I", Cond.fieldLink RX5 21 "VacantAir$Stations" "powerClass" "[I", Cond.fieldLink RX5 24 "VacantAir$Stations" "awake" "[I", Cond.instanceMethod yX2_init, Cond.code yX2_init cX2_init 1 none, Cond.methodLink RX2 3 objectInit, Cond.fieldLink RX2 9 "VacantAir$Events" "x" "[I", Cond.fieldLink RX2 15 "VacantAir$Events" "y" "[I", Cond.fieldLink RX2 18 "VacantAir$Events" "radius" "[I", Cond.fieldLink RX2 21 "VacantAir$Events" "channel" "[I", Cond.fieldLink RX2 24 "VacantAir$Events" "from" "[I", Cond.fieldLink RX2 27 "VacantAir$Events" "to" "[I", Cond.fieldLink RX2 30 "VacantAir$Events" "cancelled" "[I", Cond.instanceMethod yX1_init, Cond.code yX1_init cX1_init 1 none, Cond.methodLink RX1 3 objectInit, Cond.fieldLink RX1 9 "VacantAir$Devices" "x" "[I", Cond.fieldLink RX1 15 "VacantAir$Devices" "y" "[I"]
def wsX3_init_r3 : List Cond := [Cond.fieldLink RX1 18 "VacantAir$Devices" "greatest" "[I", Cond.fieldLink RX1 21 "VacantAir$Devices" "channel" "[I", Cond.fieldLink RX1 24 "VacantAir$Devices" "power" "[I", Cond.fieldLink RX1 27 "VacantAir$Devices" "end" "[I", Cond.fieldLink RX1 30 "VacantAir$Devices" "notice" "[I", Cond.fieldLink RX1 33 "VacantAir$Devices" "hops" "[I", Cond.fieldLink RX1 36 "VacantAir$Devices" "struck" "[I", Cond.fieldLink RX1 39 "VacantAir$Devices" "cut" "[I"]
def wsX3_init : List Cond := .code yX3_init cX3_init 2 none :: ((wsX3_init_r1 ++ (wsX3_init_r2 ++ wsX3_init_r3)) ++ wsX30 ++ wsX40 ++ wsX50 ++ wsX20 ++ wsX10)
def wsX6_init_r1 : List Cond := [Cond.methodLink RX6 1 objectInit, Cond.instanceMethod objectInit, Cond.code objectInit ⟨#[0xb1]⟩ 1 none, Cond.classLink RX6 7 RX4, Cond.instantiable RX4 6, Cond.initialized RX4, Cond.fieldLink RX6 10 "VacantAir" "present" "LVacantAir$State;", Cond.fieldLink RX6 16 "VacantAir" "trial" "LVacantAir$State;", Cond.classLink RX6 19 RX3, Cond.instantiable RX3 3, Cond.initialized RX3, Cond.fieldLink RX6 22 "VacantAir" "history" "LVacantAir$History;", Cond.fieldLink RX6 26 "VacantAir" "slots" "[LVacantAir$State;", Cond.arrayClass .boolean, Cond.fieldLink RX6 30 "VacantAir" "slotHolds" "[Z", Cond.classLink RX6 34 RX0, Cond.instantiable RX0 8, Cond.initialized RX0, Cond.fieldLink RX6 37 "VacantAir" "text" "LVacantAir$ActText;", Cond.methodLink RX6 9 yX4_init, Cond.instanceMethod yX4_init, Cond.code yX4_init cX4_init 2 none, Cond.methodLink RX4 3 objectInit, Cond.classLink RX4 9 RX5]
def wsX6_init_r2 : List Cond := [Cond.instantiable RX5 6, Cond.initialized RX5, Cond.fieldLink RX4 12 "VacantAir$State" "stations" "LVacantAir$Stations;", Cond.classLink RX4 18 RX2, Cond.instantiable RX2 8, Cond.initialized RX2, Cond.fieldLink RX4 21 "VacantAir$State" "events" "LVacantAir$Events;", Cond.classLink RX4 25 RX1, Cond.instantiable RX1 11, Cond.initialized RX1, Cond.fieldLink RX4 28 "VacantAir$State" "devices" "LVacantAir$Devices;", Cond.arrayClass .int, Cond.fieldLink RX4 32 "VacantAir$State" "settings" "[I", Cond.instanceMethod yX5_init, Cond.code yX5_init cX5_init 1 none, Cond.methodLink RX5 3 objectInit, Cond.fieldLink RX5 9 "VacantAir$Stations" "x" "[I", Cond.fieldLink RX5 15 "VacantAir$Stations" "y" "[I", Cond.fieldLink RX5 18 "VacantAir$Stations" "channel" "[I", Cond.fieldLink RX5 21 "VacantAir$Stations" "powerClass" "[I", Cond.fieldLink RX5 24 "VacantAir$Stations" "awake" "[I", Cond.instanceMethod yX2_init, Cond.code yX2_init cX2_init 1 none, Cond.methodLink RX2 3 objectInit]
def wsX6_init_r3 : List Cond := [Cond.fieldLink RX2 9 "VacantAir$Events" "x" "[I", Cond.fieldLink RX2 15 "VacantAir$Events" "y" "[I", Cond.fieldLink RX2 18 "VacantAir$Events" "radius" "[I", Cond.fieldLink RX2 21 "VacantAir$Events" "channel" "[I", Cond.fieldLink RX2 24 "VacantAir$Events" "from" "[I", Cond.fieldLink RX2 27 "VacantAir$Events" "to" "[I", Cond.fieldLink RX2 30 "VacantAir$Events" "cancelled" "[I", Cond.instanceMethod yX1_init, Cond.code yX1_init cX1_init 1 none, Cond.methodLink RX1 3 objectInit, Cond.fieldLink RX1 9 "VacantAir$Devices" "x" "[I", Cond.fieldLink RX1 15 "VacantAir$Devices" "y" "[I", Cond.fieldLink RX1 18 "VacantAir$Devices" "greatest" "[I", Cond.fieldLink RX1 21 "VacantAir$Devices" "channel" "[I", Cond.fieldLink RX1 24 "VacantAir$Devices" "power" "[I", Cond.fieldLink RX1 27 "VacantAir$Devices" "end" "[I", Cond.fieldLink RX1 30 "VacantAir$Devices" "notice" "[I", Cond.fieldLink RX1 33 "VacantAir$Devices" "hops" "[I", Cond.fieldLink RX1 36 "VacantAir$Devices" "struck" "[I", Cond.fieldLink RX1 39 "VacantAir$Devices" "cut" "[I", Cond.methodLink RX6 21 yX3_init, Cond.instanceMethod yX3_init, Cond.code yX3_init cX3_init 2 none, Cond.methodLink RX3 3 objectInit]
def wsX6_init_r4 : List Cond := [Cond.classLink RX3 9 RX4, Cond.fieldLink RX3 11 "VacantAir$History" "ring" "[LVacantAir$State;", Cond.methodLink RX3 17 yX4_init, Cond.instanceMethod yX0_init, Cond.code yX0_init cX0_init 1 none, Cond.methodLink RX0 3 objectInit, Cond.fieldLink RX0 9 "VacantAir$ActText" "bytes" "[I", Cond.fieldLink RX0 15 "VacantAir$ActText" "fault" "I"]
def wsX6_init : List Cond := .code yX6_init cX6_init 2 none :: ((wsX6_init_r1 ++ (wsX6_init_r2 ++ (wsX6_init_r3 ++ wsX6_init_r4))) ++ wsX40 ++ wsX60 ++ wsX30 ++ wsX00 ++ wsX50 ++ wsX20 ++ wsX10)
def wsX7_init : List Cond := .code yX7_init cX7_init 1 none :: ([.methodLink RX7 1 objectInit, .instanceMethod objectInit, .code objectInit ⟨#[0xb1]⟩ 1 none, .arrayClass .int, .fieldLink RX7 7 "VacantAirModel" "s" "[I", .fieldLink RX7 13 "VacantAirModel" "past" "[I", .fieldLink RX7 16 "VacantAirModel" "slots" "[I", .arrayClass .boolean, .fieldLink RX7 19 "VacantAirModel" "isKept" "[Z", .fieldLink RX7 23 "VacantAirModel" "held" "[I", .fieldLink RX7 26 "VacantAirModel" "text" "[I"] ++ wsX70)
def wsJ9_min_7cf53 : List Cond := .code yJ9_min_7cf53 cJ9_min_7cf53 2 (some .int) :: ([])
def wsL_law_r1 : List Cond := [Cond.classLink RL 7 RX6, Cond.instantiable RX6 6, Cond.initialized RX6, Cond.classLink RL 10 RX7, Cond.instantiable RX7 13, Cond.initialized RX7, Cond.methodLink RL 9 yX6_init, Cond.instanceMethod yX6_init, Cond.code yX6_init cX6_init 2 none, Cond.methodLink RX6 1 objectInit, Cond.instanceMethod objectInit, Cond.code objectInit ⟨#[0xb1]⟩ 1 none, Cond.classLink RX6 7 RX4, Cond.instantiable RX4 6, Cond.initialized RX4, Cond.fieldLink RX6 10 "VacantAir" "present" "LVacantAir$State;", Cond.fieldLink RX6 16 "VacantAir" "trial" "LVacantAir$State;", Cond.classLink RX6 19 RX3, Cond.instantiable RX3 3, Cond.initialized RX3, Cond.fieldLink RX6 22 "VacantAir" "history" "LVacantAir$History;", Cond.fieldLink RX6 26 "VacantAir" "slots" "[LVacantAir$State;", Cond.arrayClass .boolean, Cond.fieldLink RX6 30 "VacantAir" "slotHolds" "[Z"]
def wsL_law_r2 : List Cond := [Cond.classLink RX6 34 RX0, Cond.instantiable RX0 8, Cond.initialized RX0, Cond.fieldLink RX6 37 "VacantAir" "text" "LVacantAir$ActText;", Cond.methodLink RX6 9 yX4_init, Cond.instanceMethod yX4_init, Cond.code yX4_init cX4_init 2 none, Cond.methodLink RX4 3 objectInit, Cond.classLink RX4 9 RX5, Cond.instantiable RX5 6, Cond.initialized RX5, Cond.fieldLink RX4 12 "VacantAir$State" "stations" "LVacantAir$Stations;", Cond.classLink RX4 18 RX2, Cond.instantiable RX2 8, Cond.initialized RX2, Cond.fieldLink RX4 21 "VacantAir$State" "events" "LVacantAir$Events;", Cond.classLink RX4 25 RX1, Cond.instantiable RX1 11, Cond.initialized RX1, Cond.fieldLink RX4 28 "VacantAir$State" "devices" "LVacantAir$Devices;", Cond.arrayClass .int, Cond.fieldLink RX4 32 "VacantAir$State" "settings" "[I", Cond.instanceMethod yX5_init, Cond.code yX5_init cX5_init 1 none]
def wsL_law_r3 : List Cond := [Cond.methodLink RX5 3 objectInit, Cond.fieldLink RX5 9 "VacantAir$Stations" "x" "[I", Cond.fieldLink RX5 15 "VacantAir$Stations" "y" "[I", Cond.fieldLink RX5 18 "VacantAir$Stations" "channel" "[I", Cond.fieldLink RX5 21 "VacantAir$Stations" "powerClass" "[I", Cond.fieldLink RX5 24 "VacantAir$Stations" "awake" "[I", Cond.instanceMethod yX2_init, Cond.code yX2_init cX2_init 1 none, Cond.methodLink RX2 3 objectInit, Cond.fieldLink RX2 9 "VacantAir$Events" "x" "[I", Cond.fieldLink RX2 15 "VacantAir$Events" "y" "[I", Cond.fieldLink RX2 18 "VacantAir$Events" "radius" "[I", Cond.fieldLink RX2 21 "VacantAir$Events" "channel" "[I", Cond.fieldLink RX2 24 "VacantAir$Events" "from" "[I", Cond.fieldLink RX2 27 "VacantAir$Events" "to" "[I", Cond.fieldLink RX2 30 "VacantAir$Events" "cancelled" "[I", Cond.instanceMethod yX1_init, Cond.code yX1_init cX1_init 1 none, Cond.methodLink RX1 3 objectInit, Cond.fieldLink RX1 9 "VacantAir$Devices" "x" "[I", Cond.fieldLink RX1 15 "VacantAir$Devices" "y" "[I", Cond.fieldLink RX1 18 "VacantAir$Devices" "greatest" "[I", Cond.fieldLink RX1 21 "VacantAir$Devices" "channel" "[I", Cond.fieldLink RX1 24 "VacantAir$Devices" "power" "[I"]
def wsL_law_r4 : List Cond := [Cond.fieldLink RX1 27 "VacantAir$Devices" "end" "[I", Cond.fieldLink RX1 30 "VacantAir$Devices" "notice" "[I", Cond.fieldLink RX1 33 "VacantAir$Devices" "hops" "[I", Cond.fieldLink RX1 36 "VacantAir$Devices" "struck" "[I", Cond.fieldLink RX1 39 "VacantAir$Devices" "cut" "[I", Cond.methodLink RX6 21 yX3_init, Cond.instanceMethod yX3_init, Cond.code yX3_init cX3_init 2 none, Cond.methodLink RX3 3 objectInit, Cond.classLink RX3 9 RX4, Cond.fieldLink RX3 11 "VacantAir$History" "ring" "[LVacantAir$State;", Cond.methodLink RX3 17 yX4_init, Cond.instanceMethod yX0_init, Cond.code yX0_init cX0_init 1 none, Cond.methodLink RX0 3 objectInit, Cond.fieldLink RX0 9 "VacantAir$ActText" "bytes" "[I", Cond.fieldLink RX0 15 "VacantAir$ActText" "fault" "I", Cond.methodLink RL 12 yX7_init, Cond.instanceMethod yX7_init, Cond.code yX7_init cX7_init 1 none, Cond.methodLink RX7 1 objectInit, Cond.fieldLink RX7 7 "VacantAirModel" "s" "[I", Cond.fieldLink RX7 13 "VacantAirModel" "past" "[I", Cond.fieldLink RX7 16 "VacantAirModel" "slots" "[I"]
def wsL_law_r5 : List Cond := [Cond.fieldLink RX7 19 "VacantAirModel" "isKept" "[Z", Cond.fieldLink RX7 23 "VacantAirModel" "held" "[I", Cond.fieldLink RX7 26 "VacantAirModel" "text" "[I", Cond.methodLink RL 13 yX6_addStation, Cond.instanceMethod yX6_addStation, Cond.selects RX6 yX6_addStation yX6_addStation, Cond.code yX6_addStation cX6_addStation 5 (some .int), Cond.methodLink RX6 41 yX3_note, Cond.instanceMethod yX3_note, Cond.selects RX3 yX3_note yX3_note, Cond.code yX3_note cX3_note 2 none, Cond.fieldLink RX3 18 "VacantAir$History" "oldest" "I", Cond.fieldLink RX3 22 "VacantAir$History" "count" "I", Cond.methodLink RX3 25 yX4_copyFrom, Cond.instanceMethod yX4_copyFrom, Cond.selects RX4 yX4_copyFrom yX4_copyFrom, Cond.code yX4_copyFrom cX4_copyFrom 2 none, Cond.fieldLink RX4 53 "VacantAir$State" "hour" "I", Cond.fieldLink RX4 57 "VacantAir$State" "reason" "I", Cond.methodLink RX4 39 yX5_copyFrom, Cond.instanceMethod yX5_copyFrom, Cond.selects RX5 yX5_copyFrom yX5_copyFrom, Cond.code yX5_copyFrom cX5_copyFrom 2 none, Cond.fieldLink RX5 27 "VacantAir$Stations" "count" "I"]
def wsL_law_r6 : List Cond := [Cond.static yX6_copyRow, Cond.code yX6_copyRow cX6_copyRow 2 none, Cond.methodLink RX6 221 Lib.Math.min.name, Cond.static Lib.Math.min.name, Cond.initialized "java/lang/Math", Cond.code Lib.Math.min.name Lib.Math.min.code 2 (some .int), Cond.methodLink RX6 226 arraycopyName, Cond.native arraycopyName, Cond.static arraycopyName, Cond.initialized "java/lang/System", Cond.methodLink RX4 43 yX2_copyFrom, Cond.instanceMethod yX2_copyFrom, Cond.selects RX2 yX2_copyFrom yX2_copyFrom, Cond.code yX2_copyFrom cX2_copyFrom 2 none, Cond.fieldLink RX2 33 "VacantAir$Events" "count" "I", Cond.methodLink RX4 46 yX1_copyFrom, Cond.instanceMethod yX1_copyFrom, Cond.selects RX1 yX1_copyFrom yX1_copyFrom, Cond.code yX1_copyFrom cX1_copyFrom 2 none, Cond.fieldLink RX1 42 "VacantAir$Devices" "count" "I", Cond.methodLink RX6 45 yX4_putStation, Cond.instanceMethod yX4_putStation, Cond.selects RX4 yX4_putStation yX4_putStation, Cond.code yX4_putStation cX4_putStation 6 (some .int)]
def wsL_law_r7 : List Cond := [Cond.fieldLink RX4 68 "VacantAir$Stations" "count" "I", Cond.fieldLink RX4 71 "VacantAir$Stations" "x" "[I", Cond.fieldLink RX4 74 "VacantAir$Stations" "y" "[I", Cond.fieldLink RX4 77 "VacantAir$Stations" "channel" "[I", Cond.fieldLink RX4 80 "VacantAir$Stations" "powerClass" "[I", Cond.fieldLink RX4 83 "VacantAir$Stations" "awake" "[I", Cond.static yX6_isNoPlace, Cond.code yX6_isNoPlace cX6_isNoPlace 2 (some .boolean), Cond.methodLink RX6 122 yX6_isOutside, Cond.static yX6_isOutside, Cond.code yX6_isOutside cX6_isOutside 3 (some .boolean), Cond.methodLink RX6 49 yX6_recorded, Cond.instanceMethod yX6_recorded, Cond.selects RX6 yX6_recorded yX6_recorded, Cond.code yX6_recorded cX6_recorded 2 (some .int), Cond.methodLink RX6 215 yX3_keepNoted, Cond.instanceMethod yX3_keepNoted, Cond.selects RX3 yX3_keepNoted yX3_keepNoted, Cond.code yX3_keepNoted cX3_keepNoted 1 none, Cond.methodLink RL 17 yX7_addStation, Cond.instanceMethod yX7_addStation, Cond.selects RX7 yX7_addStation yX7_addStation, Cond.code yX7_addStation cX7_addStation 6 (some .int), Cond.methodLink RX7 112 yX7_isPlace]
def wsL_law_r8 : List Cond := [Cond.static yX7_isPlace, Cond.code yX7_isPlace cX7_isPlace 2 (some .boolean), Cond.methodLink RX7 37 yX7_in, Cond.static yX7_in, Cond.code yX7_in cX7_in 3 (some .boolean), Cond.methodLink RX7 115 yX7_isChannel, Cond.static yX7_isChannel, Cond.code yX7_isChannel cX7_isChannel 1 (some .boolean), Cond.methodLink RX7 118 yX7_records, Cond.instanceMethod yX7_records, Cond.selects RX7 yX7_records yX7_records, Cond.code yX7_records cX7_records 2 none, Cond.fieldLink RX7 29 "VacantAirModel" "runs" "Z", Cond.fieldLink RX7 33 "VacantAirModel" "pasts" "I", Cond.methodLink RL 18 yX6_addEvent, Cond.instanceMethod yX6_addEvent, Cond.selects RX6 yX6_addEvent yX6_addEvent, Cond.code yX6_addEvent cX6_addEvent 7 (some .int), Cond.methodLink RX6 53 yX4_putEvent, Cond.instanceMethod yX4_putEvent, Cond.selects RX4 yX4_putEvent yX4_putEvent, Cond.code yX4_putEvent cX4_putEvent 8 (some .int), Cond.fieldLink RX4 86 "VacantAir$Events" "count" "I", Cond.fieldLink RX4 87 "VacantAir$Events" "x" "[I"]
def wsL_law_r9 : List Cond := [Cond.fieldLink RX4 88 "VacantAir$Events" "y" "[I", Cond.fieldLink RX4 89 "VacantAir$Events" "radius" "[I", Cond.fieldLink RX4 92 "VacantAir$Events" "channel" "[I", Cond.fieldLink RX4 93 "VacantAir$Events" "from" "[I", Cond.fieldLink RX4 96 "VacantAir$Events" "to" "[I", Cond.fieldLink RX4 99 "VacantAir$Events" "cancelled" "[I", Cond.methodLink RX4 102 yX4_review, Cond.instanceMethod yX4_review, Cond.selects RX4 yX4_review yX4_review, Cond.code yX4_review cX4_review 2 none, Cond.fieldLink RX4 105 "VacantAir$Devices" "count" "I", Cond.fieldLink RX4 183 "VacantAir$Devices" "notice" "[I", Cond.methodLink RX4 155 yX1_hasLease, Cond.instanceMethod yX1_hasLease, Cond.selects RX1 yX1_hasLease yX1_hasLease, Cond.code yX1_hasLease cX1_hasLease 2 (some .boolean), Cond.methodLink RX4 180 yX4_leaseIsAllowed, Cond.instanceMethod yX4_leaseIsAllowed, Cond.selects RX4 yX4_leaseIsAllowed yX4_leaseIsAllowed, Cond.code yX4_leaseIsAllowed cX4_leaseIsAllowed 2 (some .boolean), Cond.fieldLink RX4 154 "VacantAir$Devices" "channel" "[I", Cond.fieldLink RX4 186 "VacantAir$Devices" "power" "[I", Cond.fieldLink RX4 106 "VacantAir$Devices" "x" "[I", Cond.fieldLink RX4 107 "VacantAir$Devices" "y" "[I"]
def wsL_law_r10 : List Cond := [Cond.methodLink RX4 192 yX4_isAllowed, Cond.instanceMethod yX4_isAllowed, Cond.selects RX4 yX4_isAllowed yX4_isAllowed, Cond.code yX4_isAllowed cX4_isAllowed 7 (some .boolean), Cond.methodLink RX4 208 yX4_barredRadius, Cond.instanceMethod yX4_barredRadius, Cond.selects RX4 yX4_barredRadius yX4_barredRadius, Cond.code yX4_barredRadius cX4_barredRadius 5 (some .int), Cond.static yX6_isWithin, Cond.code yX6_isWithin cX6_isWithin 3 (some .boolean), Cond.methodLink RX4 211 yX2_isOn, Cond.instanceMethod yX2_isOn, Cond.selects RX2 yX2_isOn yX2_isOn, Cond.code yX2_isOn cX2_isOn 3 (some .boolean), Cond.methodLink RX4 158 yX1_hasNotice, Cond.instanceMethod yX1_hasNotice, Cond.selects RX1 yX1_hasNotice yX1_hasNotice, Cond.code yX1_hasNotice cX1_hasNotice 2 (some .boolean), Cond.methodLink RL 22 yX7_addEvent, Cond.instanceMethod yX7_addEvent, Cond.selects RX7 yX7_addEvent yX7_addEvent, Cond.code yX7_addEvent cX7_addEvent 8 (some .int), Cond.methodLink RX7 106 yX7_reviews, Cond.instanceMethod yX7_reviews]
def wsL_law_r11 : List Cond := [Cond.selects RX7 yX7_reviews yX7_reviews, Cond.code yX7_reviews cX7_reviews 3 none, Cond.methodLink RX7 88 yX7_hasLease, Cond.instanceMethod yX7_hasLease, Cond.selects RX7 yX7_hasLease yX7_hasLease, Cond.code yX7_hasLease cX7_hasLease 2 (some .boolean), Cond.methodLink RX7 73 yX7_ofDevice, Cond.instanceMethod yX7_ofDevice, Cond.selects RX7 yX7_ofDevice yX7_ofDevice, Cond.code yX7_ofDevice cX7_ofDevice 3 (some .int), Cond.methodLink RX7 92 yX7_isLeaseAllowed, Cond.instanceMethod yX7_isLeaseAllowed, Cond.selects RX7 yX7_isLeaseAllowed yX7_isLeaseAllowed, Cond.code yX7_isLeaseAllowed cX7_isLeaseAllowed 2 (some .boolean), Cond.methodLink RX7 79 yX7_isAllowedFor, Cond.instanceMethod yX7_isAllowedFor, Cond.selects RX7 yX7_isAllowedFor yX7_isAllowedFor, Cond.code yX7_isAllowedFor cX7_isAllowedFor 4 (some .boolean), Cond.methodLink RX7 76 yX7_isAllowed, Cond.instanceMethod yX7_isAllowed, Cond.selects RX7 yX7_isAllowed yX7_isAllowed, Cond.code yX7_isAllowed cX7_isAllowed 5 (some .boolean), Cond.methodLink RX7 66 yX7_isBarred, Cond.instanceMethod yX7_isBarred]
def wsL_law_r12 : List Cond := [Cond.selects RX7 yX7_isBarred yX7_isBarred, Cond.code yX7_isBarred cX7_isBarred 7 (some .boolean), Cond.methodLink RX7 59 yX7_isBarredBy, Cond.instanceMethod yX7_isBarredBy, Cond.selects RX7 yX7_isBarredBy yX7_isBarredBy, Cond.code yX7_isBarredBy cX7_isBarredBy 9 (some .boolean), Cond.methodLink RX7 41 yX7_ofStation, Cond.instanceMethod yX7_ofStation, Cond.selects RX7 yX7_ofStation yX7_ofStation, Cond.code yX7_ofStation cX7_ofStation 3 (some .int), Cond.methodLink RX7 45 yX7_radiusOf, Cond.static yX7_radiusOf, Cond.code yX7_radiusOf cX7_radiusOf 1 (some .int), Cond.methodLink RX7 49 yX7_reach, Cond.static yX7_reach, Cond.code yX7_reach cX7_reach 1 (some .int), Cond.methodLink RX7 52 yX7_isNear, Cond.static yX7_isNear, Cond.code yX7_isNear cX7_isNear 5 (some .boolean), Cond.methodLink RX7 70 yX7_isReserved, Cond.instanceMethod yX7_isReserved, Cond.selects RX7 yX7_isReserved yX7_isReserved, Cond.code yX7_isReserved cX7_isReserved 9 (some .boolean), Cond.methodLink RX7 56 yX7_ofEvent]
def wsL_law_r13 : List Cond := [Cond.instanceMethod yX7_ofEvent, Cond.selects RX7 yX7_ofEvent yX7_ofEvent, Cond.code yX7_ofEvent cX7_ofEvent 3 (some .int), Cond.methodLink RX7 62 yX7_isOn, Cond.instanceMethod yX7_isOn, Cond.selects RX7 yX7_isOn yX7_isOn, Cond.code yX7_isOn cX7_isOn 3 (some .boolean), Cond.methodLink RX7 95 yX7_puts, Cond.instanceMethod yX7_puts, Cond.selects RX7 yX7_puts yX7_puts, Cond.code yX7_puts cX7_puts 4 none, Cond.methodLink RL 23 yX6_addDevice, Cond.instanceMethod yX6_addDevice, Cond.selects RX6 yX6_addDevice yX6_addDevice, Cond.code yX6_addDevice cX6_addDevice 4 (some .int), Cond.methodLink RX6 57 yX4_putDevice, Cond.instanceMethod yX4_putDevice, Cond.selects RX4 yX4_putDevice yX4_putDevice, Cond.code yX4_putDevice cX4_putDevice 5 (some .int), Cond.fieldLink RX4 108 "VacantAir$Devices" "greatest" "[I", Cond.fieldLink RX4 111 "VacantAir$Devices" "hops" "[I", Cond.fieldLink RX4 114 "VacantAir$Devices" "struck" "[I", Cond.fieldLink RX4 117 "VacantAir$Devices" "cut" "[I", Cond.methodLink RX4 120 yX1_removeLease]
def wsL_law_r14 : List Cond := [Cond.instanceMethod yX1_removeLease, Cond.selects RX1 yX1_removeLease yX1_removeLease, Cond.code yX1_removeLease cX1_removeLease 2 none, Cond.methodLink RL 27 yX7_addDevice, Cond.instanceMethod yX7_addDevice, Cond.selects RX7 yX7_addDevice yX7_addDevice, Cond.code yX7_addDevice cX7_addDevice 5 (some .int), Cond.methodLink RX7 121 yX7_isPower, Cond.static yX7_isPower, Cond.code yX7_isPower cX7_isPower 1 (some .boolean), Cond.methodLink RX7 102 yX7_ends, Cond.instanceMethod yX7_ends, Cond.selects RX7 yX7_ends yX7_ends, Cond.code yX7_ends cX7_ends 2 none, Cond.methodLink RL 28 yX6_set, Cond.instanceMethod yX6_set, Cond.selects RX6 yX6_set yX6_set, Cond.code yX6_set cX6_set 3 (some .int), Cond.methodLink RX6 61 yX4_change, Cond.instanceMethod yX4_change, Cond.selects RX4 yX4_change yX4_change, Cond.code yX4_change cX4_change 4 (some .int), Cond.methodLink RL 32 yX7_set, Cond.instanceMethod yX7_set]
def wsL_law_r15 : List Cond := [Cond.selects RX7 yX7_set yX7_set, Cond.code yX7_set cX7_set 4 (some .int), Cond.methodLink RL 33 yX6_wake, Cond.instanceMethod yX6_wake, Cond.selects RX6 yX6_wake yX6_wake, Cond.code yX6_wake cX6_wake 2 (some .int), Cond.methodLink RX6 65 yX4_turnStation, Cond.instanceMethod yX4_turnStation, Cond.selects RX4 yX4_turnStation yX4_turnStation, Cond.code yX4_turnStation cX4_turnStation 3 (some .int), Cond.methodLink RX4 130 yX5_has, Cond.instanceMethod yX5_has, Cond.selects RX5 yX5_has yX5_has, Cond.code yX5_has cX5_has 2 (some .boolean), Cond.methodLink RX4 134 yX1_countNotices, Cond.instanceMethod yX1_countNotices, Cond.selects RX1 yX1_countNotices yX1_countNotices, Cond.code yX1_countNotices cX1_countNotices 3 (some .int), Cond.methodLink RX1 50 yX1_hasNotice, Cond.methodLink RL 37 yX7_wake, Cond.instanceMethod yX7_wake, Cond.selects RX7 yX7_wake yX7_wake, Cond.code yX7_wake cX7_wake 2 (some .int), Cond.methodLink RX7 131 yX7_turns]
def wsL_law_r16 : List Cond := [Cond.instanceMethod yX7_turns, Cond.selects RX7 yX7_turns yX7_turns, Cond.code yX7_turns cX7_turns 3 (some .int), Cond.methodLink RX7 124 yX7_isStation, Cond.instanceMethod yX7_isStation, Cond.selects RX7 yX7_isStation yX7_isStation, Cond.code yX7_isStation cX7_isStation 2 (some .boolean), Cond.methodLink RX7 127 yX7_notices, Cond.instanceMethod yX7_notices, Cond.selects RX7 yX7_notices yX7_notices, Cond.code yX7_notices cX7_notices 3 (some .int), Cond.methodLink RL 38 yX6_sleep, Cond.instanceMethod yX6_sleep, Cond.selects RX6 yX6_sleep yX6_sleep, Cond.code yX6_sleep cX6_sleep 2 (some .int), Cond.methodLink RL 41 yX7_sleep, Cond.instanceMethod yX7_sleep, Cond.selects RX7 yX7_sleep yX7_sleep, Cond.code yX7_sleep cX7_sleep 2 (some .int), Cond.methodLink RL 42 yX6_cancel, Cond.instanceMethod yX6_cancel, Cond.selects RX6 yX6_cancel yX6_cancel, Cond.code yX6_cancel cX6_cancel 2 (some .int), Cond.methodLink RX6 68 yX4_callOff]
def wsL_law_r17 : List Cond := [Cond.instanceMethod yX4_callOff, Cond.selects RX4 yX4_callOff yX4_callOff, Cond.code yX4_callOff cX4_callOff 2 (some .int), Cond.methodLink RX4 138 yX2_has, Cond.instanceMethod yX2_has, Cond.selects RX2 yX2_has yX2_has, Cond.code yX2_has cX2_has 2 (some .boolean), Cond.methodLink RL 45 yX7_cancel, Cond.instanceMethod yX7_cancel, Cond.selects RX7 yX7_cancel yX7_cancel, Cond.code yX7_cancel cX7_cancel 2 (some .int), Cond.methodLink RX7 134 yX7_isEvent, Cond.instanceMethod yX7_isEvent, Cond.selects RX7 yX7_isEvent yX7_isEvent, Cond.code yX7_isEvent cX7_isEvent 2 (some .boolean), Cond.methodLink RL 46 yX6_lease, Cond.instanceMethod yX6_lease, Cond.selects RX6 yX6_lease yX6_lease, Cond.code yX6_lease cX6_lease 4 (some .int), Cond.methodLink RX6 71 yX4_makeLease, Cond.instanceMethod yX4_makeLease, Cond.selects RX4 yX4_makeLease yX4_makeLease, Cond.code yX4_makeLease cX4_makeLease 4 (some .int), Cond.fieldLink RX4 151 "VacantAir$Devices" "end" "[I"]
def wsL_law_r18 : List Cond := [Cond.methodLink RX4 139 yX1_has, Cond.instanceMethod yX1_has, Cond.selects RX1 yX1_has yX1_has, Cond.code yX1_has cX1_has 2 (some .boolean), Cond.methodLink RX4 140 yX4_refusal, Cond.instanceMethod yX4_refusal, Cond.selects RX4 yX4_refusal yX4_refusal, Cond.code yX4_refusal cX4_refusal 3 (some .int), Cond.methodLink RX4 189 yX4_isAllowedOnAny, Cond.instanceMethod yX4_isAllowedOnAny, Cond.selects RX4 yX4_isAllowedOnAny yX4_isAllowedOnAny, Cond.code yX4_isAllowedOnAny cX4_isAllowedOnAny 4 (some .boolean), Cond.methodLink RX4 144 yX4_findOffer, Cond.instanceMethod yX4_findOffer, Cond.selects RX4 yX4_findOffer yX4_findOffer, Cond.code yX4_findOffer cX4_findOffer 7 (some .int), Cond.methodLink RX4 196 yX4_isFree, Cond.instanceMethod yX4_isFree, Cond.selects RX4 yX4_isFree yX4_isFree, Cond.code yX4_isFree cX4_isFree 5 (some .boolean), Cond.methodLink RX4 199 yX1_countOn, Cond.instanceMethod yX1_countOn, Cond.selects RX1 yX1_countOn yX1_countOn, Cond.code yX1_countOn cX1_countOn 4 (some .int)]
def wsL_law_r19 : List Cond := [Cond.methodLink RX4 147 yX1_putOn, Cond.instanceMethod yX1_putOn, Cond.selects RX1 yX1_putOn yX1_putOn, Cond.code yX1_putOn cX1_putOn 4 none, Cond.methodLink RL 49 yX7_lease, Cond.instanceMethod yX7_lease, Cond.selects RX7 yX7_lease yX7_lease, Cond.code yX7_lease cX7_lease 5 (some .int), Cond.methodLink RX7 137 yX7_isDevice, Cond.instanceMethod yX7_isDevice, Cond.selects RX7 yX7_isDevice yX7_isDevice, Cond.code yX7_isDevice cX7_isDevice 2 (some .boolean), Cond.methodLink RX7 140 yX7_refuses, Cond.instanceMethod yX7_refuses, Cond.selects RX7 yX7_refuses yX7_refuses, Cond.code yX7_refuses cX7_refuses 2 (some .int), Cond.methodLink RX7 143 yX7_isAnyAllowed, Cond.instanceMethod yX7_isAnyAllowed, Cond.selects RX7 yX7_isAnyAllowed yX7_isAnyAllowed, Cond.code yX7_isAnyAllowed cX7_isAnyAllowed 5 (some .boolean), Cond.methodLink RX7 99 yX7_offerFor, Cond.instanceMethod yX7_offerFor, Cond.selects RX7 yX7_offerFor yX7_offerFor, Cond.code yX7_offerFor cX7_offerFor 8 (some .int)]
def wsL_law_r20 : List Cond := [Cond.methodLink RX7 82 yX7_isFree, Cond.instanceMethod yX7_isFree, Cond.selects RX7 yX7_isFree yX7_isFree, Cond.code yX7_isFree cX7_isFree 7 (some .boolean), Cond.methodLink RX7 85 yX7_others, Cond.instanceMethod yX7_others, Cond.selects RX7 yX7_others yX7_others, Cond.code yX7_others cX7_others 5 (some .int), Cond.methodLink RL 50 yX6_renew, Cond.instanceMethod yX6_renew, Cond.selects RX6 yX6_renew yX6_renew, Cond.code yX6_renew cX6_renew 3 (some .int), Cond.methodLink RX6 74 yX4_prolongLease, Cond.instanceMethod yX4_prolongLease, Cond.selects RX4 yX4_prolongLease yX4_prolongLease, Cond.code yX4_prolongLease cX4_prolongLease 3 (some .int), Cond.methodLink RL 53 yX7_renew, Cond.instanceMethod yX7_renew, Cond.selects RX7 yX7_renew yX7_renew, Cond.code yX7_renew cX7_renew 3 (some .int), Cond.methodLink RL 54 yX6_giveBack, Cond.instanceMethod yX6_giveBack, Cond.selects RX6 yX6_giveBack yX6_giveBack, Cond.code yX6_giveBack cX6_giveBack 2 (some .int)]
def wsL_law_r21 : List Cond := [Cond.methodLink RX6 77 yX4_dropLease, Cond.instanceMethod yX4_dropLease, Cond.selects RX4 yX4_dropLease yX4_dropLease, Cond.code yX4_dropLease cX4_dropLease 2 (some .int), Cond.methodLink RX4 161 yX1_countLeases, Cond.instanceMethod yX1_countLeases, Cond.selects RX1 yX1_countLeases yX1_countLeases, Cond.code yX1_countLeases cX1_countLeases 3 (some .int), Cond.methodLink RX1 46 yX1_hasLease, Cond.methodLink RL 57 yX7_giveBack, Cond.instanceMethod yX7_giveBack, Cond.selects RX7 yX7_giveBack yX7_giveBack, Cond.code yX7_giveBack cX7_giveBack 2 (some .int), Cond.methodLink RX7 146 yX7_leasesNow, Cond.instanceMethod yX7_leasesNow, Cond.selects RX7 yX7_leasesNow yX7_leasesNow, Cond.code yX7_leasesNow cX7_leasesNow 3 (some .int), Cond.methodLink RL 58 yX6_pass, Cond.instanceMethod yX6_pass, Cond.selects RX6 yX6_pass yX6_pass, Cond.code yX6_pass cX6_pass 2 (some .int), Cond.methodLink RX6 80 yX4_passHours, Cond.instanceMethod yX4_passHours, Cond.selects RX4 yX4_passHours yX4_passHours]
def wsL_law_r22 : List Cond := [Cond.code yX4_passHours cX4_passHours 4 (some .int), Cond.methodLink RX4 164 yX4_passOneHour, Cond.instanceMethod yX4_passOneHour, Cond.selects RX4 yX4_passOneHour yX4_passOneHour, Cond.code yX4_passOneHour cX4_passOneHour 3 (some .int), Cond.methodLink RX4 167 yX4_endLeases, Cond.instanceMethod yX4_endLeases, Cond.selects RX4 yX4_endLeases yX4_endLeases, Cond.code yX4_endLeases cX4_endLeases 2 none, Cond.methodLink RX4 170 yX4_asksNow, Cond.instanceMethod yX4_asksNow, Cond.selects RX4 yX4_asksNow yX4_asksNow, Cond.code yX4_asksNow cX4_asksNow 2 (some .boolean), Cond.methodLink RX4 173 yX4_hopOrStrike, Cond.instanceMethod yX4_hopOrStrike, Cond.selects RX4 yX4_hopOrStrike yX4_hopOrStrike, Cond.code yX4_hopOrStrike cX4_hopOrStrike 4 (some .int), Cond.methodLink RX4 177 yX4_cutLeases, Cond.instanceMethod yX4_cutLeases, Cond.selects RX4 yX4_cutLeases yX4_cutLeases, Cond.code yX4_cutLeases cX4_cutLeases 2 none, Cond.methodLink RL 61 yX7_pass, Cond.instanceMethod yX7_pass, Cond.selects RX7 yX7_pass yX7_pass]
def wsL_law_r23 : List Cond := [Cond.code yX7_pass cX7_pass 4 (some .int), Cond.methodLink RX7 149 yX7_passesOne, Cond.instanceMethod yX7_passesOne, Cond.selects RX7 yX7_passesOne yX7_passesOne, Cond.code yX7_passesOne cX7_passesOne 3 (some .int), Cond.methodLink RX7 109 yX7_asks, Cond.instanceMethod yX7_asks, Cond.selects RX7 yX7_asks yX7_asks, Cond.code yX7_asks cX7_asks 4 (some .int), Cond.methodLink RL 62 yX6_append, Cond.instanceMethod yX6_append, Cond.selects RX6 yX6_append yX6_append, Cond.code yX6_append cX6_append 2 (some .int), Cond.methodLink RX6 83 yX0_add, Cond.instanceMethod yX0_add, Cond.selects RX0 yX0_add yX0_add, Cond.code yX0_add cX0_add 2 (some .int), Cond.fieldLink RX0 23 "VacantAir$ActText" "length" "I", Cond.methodLink RL 65 yX7_append, Cond.instanceMethod yX7_append, Cond.selects RX7 yX7_append yX7_append, Cond.code yX7_append cX7_append 2 (some .int), Cond.fieldLink RX7 152 "VacantAirModel" "typed" "I", Cond.methodLink RL 66 yX6_clearText]
def wsL_law_r24 : List Cond := [Cond.instanceMethod yX6_clearText, Cond.selects RX6 yX6_clearText yX6_clearText, Cond.code yX6_clearText cX6_clearText 1 (some .int), Cond.methodLink RX6 86 yX0_empty, Cond.instanceMethod yX0_empty, Cond.selects RX0 yX0_empty yX0_empty, Cond.code yX0_empty cX0_empty 2 (some .int), Cond.methodLink RL 70 yX7_clearText, Cond.instanceMethod yX7_clearText, Cond.selects RX7 yX7_clearText yX7_clearText, Cond.code yX7_clearText cX7_clearText 2 (some .int), Cond.methodLink RL 71 yX6_faultPosition, Cond.instanceMethod yX6_faultPosition, Cond.selects RX6 yX6_faultPosition yX6_faultPosition, Cond.code yX6_faultPosition cX6_faultPosition 1 (some .int), Cond.methodLink RX6 90 yX0_findFault, Cond.instanceMethod yX0_findFault, Cond.selects RX0 yX0_findFault yX0_findFault, Cond.code yX0_findFault cX0_findFault 2 (some .int), Cond.methodLink RX0 26 yX0_startReading, Cond.instanceMethod yX0_startReading, Cond.selects RX0 yX0_startReading yX0_startReading, Cond.code yX0_startReading cX0_startReading 1 none, Cond.fieldLink RX0 36 "VacantAir$ActText" "place" "I"]
def wsL_law_r25 : List Cond := [Cond.methodLink RX0 29 yX0_hasMore, Cond.instanceMethod yX0_hasMore, Cond.selects RX0 yX0_hasMore yX0_hasMore, Cond.code yX0_hasMore cX0_hasMore 1 (some .boolean), Cond.methodLink RX0 33 yX0_readAct, Cond.instanceMethod yX0_readAct, Cond.selects RX0 yX0_readAct yX0_readAct, Cond.code yX0_readAct cX0_readAct 1 none, Cond.fieldLink RX0 39 "VacantAir$ActText" "kind" "I", Cond.fieldLink RX0 46 "VacantAir$ActText" "first" "I", Cond.fieldLink RX0 53 "VacantAir$ActText" "second" "I", Cond.fieldLink RX0 56 "VacantAir$ActText" "third" "I", Cond.methodLink RX0 42 yX0_readNumber, Cond.instanceMethod yX0_readNumber, Cond.selects RX0 yX0_readNumber yX0_readNumber, Cond.code yX0_readNumber cX0_readNumber 5 (some .int), Cond.methodLink RX0 59 yX0_isDigitAt, Cond.instanceMethod yX0_isDigitAt, Cond.selects RX0 yX0_isDigitAt yX0_isDigitAt, Cond.code yX0_isDigitAt cX0_isDigitAt 2 (some .boolean), Cond.methodLink RX0 49 yX0_readByte, Cond.instanceMethod yX0_readByte, Cond.selects RX0 yX0_readByte yX0_readByte, Cond.code yX0_readByte cX0_readByte 2 none]
def wsL_law_r26 : List Cond := [Cond.methodLink RL 74 yX7_faultPosition, Cond.instanceMethod yX7_faultPosition, Cond.selects RX7 yX7_faultPosition yX7_faultPosition, Cond.code yX7_faultPosition cX7_faultPosition 2 (some .int), Cond.fieldLink RX7 155 "VacantAirModel" "at" "I", Cond.methodLink RX7 176 yX7_reads, Cond.instanceMethod yX7_reads, Cond.selects RX7 yX7_reads yX7_reads, Cond.code yX7_reads cX7_reads 2 (some .boolean), Cond.fieldLink RX7 164 "VacantAirModel" "first" "I", Cond.fieldLink RX7 170 "VacantAirModel" "second" "I", Cond.fieldLink RX7 173 "VacantAirModel" "third" "I", Cond.methodLink RX7 161 yX7_number, Cond.instanceMethod yX7_number, Cond.selects RX7 yX7_number yX7_number, Cond.code yX7_number cX7_number 5 (some .int), Cond.methodLink RX7 158 yX7_isAt, Cond.instanceMethod yX7_isAt, Cond.selects RX7 yX7_isAt yX7_isAt, Cond.code yX7_isAt cX7_isAt 3 (some .boolean), Cond.methodLink RX7 167 yX7_takes, Cond.instanceMethod yX7_takes, Cond.selects RX7 yX7_takes yX7_takes, Cond.code yX7_takes cX7_takes 3 (some .boolean)]
def wsL_law_r27 : List Cond := [Cond.methodLink RL 75 yX6_run, Cond.instanceMethod yX6_run, Cond.selects RX6 yX6_run yX6_run, Cond.code yX6_run cX6_run 4 (some .int), Cond.fieldLink RX6 103 "VacantAir$ActText" "kind" "I", Cond.fieldLink RX6 107 "VacantAir$ActText" "first" "I", Cond.fieldLink RX6 110 "VacantAir$ActText" "second" "I", Cond.fieldLink RX6 113 "VacantAir$ActText" "third" "I", Cond.methodLink RX6 93 yX0_startReading, Cond.methodLink RX6 96 yX0_hasMore, Cond.methodLink RX6 100 yX0_readAct, Cond.methodLink RL 78 yX7_run, Cond.instanceMethod yX7_run, Cond.selects RX7 yX7_run yX7_run, Cond.code yX7_run cX7_run 4 (some .int), Cond.methodLink RX7 196 yX7_faultPosition, Cond.methodLink RX7 199 yX7_does, Cond.instanceMethod yX7_does, Cond.selects RX7 yX7_does yX7_does, Cond.code yX7_does cX7_does 2 (some .int), Cond.methodLink RX7 180 yX7_lease, Cond.methodLink RX7 184 yX7_giveBack, Cond.methodLink RX7 187 yX7_wake, Cond.methodLink RX7 190 yX7_sleep]
def wsL_law_r28 : List Cond := [Cond.methodLink RX7 193 yX7_pass, Cond.methodLink RL 79 yX6_undo, Cond.instanceMethod yX6_undo, Cond.selects RX6 yX6_undo yX6_undo, Cond.code yX6_undo cX6_undo 1 (some .int), Cond.fieldLink RX6 116 "VacantAir$History" "count" "I", Cond.methodLink RX6 119 yX3_takeLatest, Cond.instanceMethod yX3_takeLatest, Cond.selects RX3 yX3_takeLatest yX3_takeLatest, Cond.code yX3_takeLatest cX3_takeLatest 2 none, Cond.methodLink RL 82 yX7_undo, Cond.instanceMethod yX7_undo, Cond.selects RX7 yX7_undo yX7_undo, Cond.code yX7_undo cX7_undo 2 (some .int), Cond.methodLink RL 83 yX6_save, Cond.instanceMethod yX6_save, Cond.selects RX6 yX6_save yX6_save, Cond.code yX6_save cX6_save 2 (some .int), Cond.fieldLink RX6 129 "VacantAir$State" "hour" "I", Cond.methodLink RX6 126 yX4_copyFrom, Cond.methodLink RL 86 yX7_save, Cond.instanceMethod yX7_save, Cond.selects RX7 yX7_save yX7_save, Cond.code yX7_save cX7_save 3 (some .int)]
def wsL_law_r29 : List Cond := [Cond.methodLink RL 87 yX6_restore, Cond.instanceMethod yX6_restore, Cond.selects RX6 yX6_restore yX6_restore, Cond.code yX6_restore cX6_restore 2 (some .int), Cond.methodLink RL 90 yX7_restore, Cond.instanceMethod yX7_restore, Cond.selects RX7 yX7_restore yX7_restore, Cond.code yX7_restore cX7_restore 3 (some .int), Cond.methodLink RL 91 yX6_station, Cond.instanceMethod yX6_station, Cond.selects RX6 yX6_station yX6_station, Cond.code yX6_station cX6_station 3 (some .int), Cond.fieldLink RX6 132 "VacantAir$State" "stations" "LVacantAir$Stations;", Cond.methodLink RX6 136 yX5_has, Cond.methodLink RX6 142 yX6_barredAlone, Cond.instanceMethod yX6_barredAlone, Cond.selects RX6 yX6_barredAlone yX6_barredAlone, Cond.code yX6_barredAlone cX6_barredAlone 4 (some .int), Cond.fieldLink RX6 196 "VacantAir$Stations" "awake" "[I", Cond.fieldLink RX6 157 "VacantAir$State" "devices" "LVacantAir$Devices;", Cond.fieldLink RX6 199 "VacantAir$Devices" "count" "I", Cond.methodLink RX6 206 yX1_hasLease, Cond.methodLink RX6 218 yX4_leaseIsAllowed, Cond.methodLink RX6 145 yX5_tell]
def wsL_law_r30 : List Cond := [Cond.instanceMethod yX5_tell, Cond.selects RX5 yX5_tell yX5_tell, Cond.code yX5_tell cX5_tell 3 (some .int), Cond.methodLink RL 94 yX7_station, Cond.instanceMethod yX7_station, Cond.selects RX7 yX7_station yX7_station, Cond.code yX7_station cX7_station 3 (some .int), Cond.methodLink RX7 202 yX7_onAccount, Cond.instanceMethod yX7_onAccount, Cond.selects RX7 yX7_onAccount yX7_onAccount, Cond.code yX7_onAccount cX7_onAccount 4 (some .int), Cond.methodLink RL 95 yX6_event, Cond.instanceMethod yX6_event, Cond.selects RX6 yX6_event yX6_event, Cond.code yX6_event cX6_event 3 (some .int), Cond.fieldLink RX6 148 "VacantAir$State" "events" "LVacantAir$Events;", Cond.methodLink RX6 152 yX2_has, Cond.methodLink RX6 155 yX2_tell, Cond.instanceMethod yX2_tell, Cond.selects RX2 yX2_tell yX2_tell, Cond.code yX2_tell cX2_tell 4 (some .int), Cond.methodLink RX2 37 yX2_isOn, Cond.methodLink RL 98 yX7_event, Cond.instanceMethod yX7_event]
def wsL_law_r31 : List Cond := [Cond.selects RX7 yX7_event yX7_event, Cond.code yX7_event cX7_event 3 (some .int), Cond.methodLink RL 99 yX6_device, Cond.instanceMethod yX6_device, Cond.selects RX6 yX6_device yX6_device, Cond.code yX6_device cX6_device 3 (some .int), Cond.methodLink RX6 161 yX1_has, Cond.methodLink RX6 164 yX4_nextAsking, Cond.instanceMethod yX4_nextAsking, Cond.selects RX4 yX4_nextAsking yX4_nextAsking, Cond.code yX4_nextAsking cX4_nextAsking 2 (some .int), Cond.methodLink RX6 167 yX1_tell, Cond.instanceMethod yX1_tell, Cond.selects RX1 yX1_tell yX1_tell, Cond.code yX1_tell cX1_tell 3 (some .int), Cond.methodLink RL 102 yX7_device, Cond.instanceMethod yX7_device, Cond.selects RX7 yX7_device yX7_device, Cond.code yX7_device cX7_device 3 (some .int), Cond.methodLink RX7 205 yX7_nextAsk, Cond.instanceMethod yX7_nextAsk, Cond.selects RX7 yX7_nextAsk yX7_nextAsk, Cond.code yX7_nextAsk cX7_nextAsk 3 (some .int), Cond.methodLink RL 103 yX6_power]
def wsL_law_r32 : List Cond := [Cond.instanceMethod yX6_power, Cond.selects RX6 yX6_power yX6_power, Cond.code yX6_power cX6_power 5 (some .int), Cond.methodLink RX6 168 yX6_isNoPlace, Cond.methodLink RX6 172 yX4_isAllowed, Cond.methodLink RL 106 yX7_power, Cond.instanceMethod yX7_power, Cond.selects RX7 yX7_power yX7_power, Cond.code yX7_power cX7_power 6 (some .int), Cond.methodLink RL 107 yX6_offer, Cond.instanceMethod yX6_offer, Cond.selects RX6 yX6_offer yX6_offer, Cond.code yX6_offer cX6_offer 3 (some .int), Cond.methodLink RX6 176 yX4_findOffer, Cond.methodLink RL 110 yX7_offer, Cond.instanceMethod yX7_offer, Cond.selects RX7 yX7_offer yX7_offer, Cond.code yX7_offer cX7_offer 3 (some .int), Cond.methodLink RL 111 yX6_next, Cond.instanceMethod yX6_next, Cond.selects RX6 yX6_next yX6_next, Cond.code yX6_next cX6_next 2 (some .int), Cond.methodLink RX6 179 yX1_atPlace, Cond.instanceMethod yX1_atPlace]
def wsL_law_r33 : List Cond := [Cond.selects RX1 yX1_atPlace yX1_atPlace, Cond.code yX1_atPlace cX1_atPlace 3 (some .int), Cond.methodLink RX1 53 yX1_placeOf, Cond.instanceMethod yX1_placeOf, Cond.selects RX1 yX1_placeOf yX1_placeOf, Cond.code yX1_placeOf cX1_placeOf 4 (some .int), Cond.methodLink RX1 57 yX1_comesBefore, Cond.instanceMethod yX1_comesBefore, Cond.selects RX1 yX1_comesBefore yX1_comesBefore, Cond.code yX1_comesBefore cX1_comesBefore 3 (some .boolean), Cond.methodLink RL 114 yX7_next, Cond.instanceMethod yX7_next, Cond.selects RX7 yX7_next yX7_next, Cond.code yX7_next cX7_next 6 (some .int), Cond.methodLink RX7 208 yX7_isAhead, Cond.instanceMethod yX7_isAhead, Cond.selects RX7 yX7_isAhead yX7_isAhead, Cond.code yX7_isAhead cX7_isAhead 4 (some .boolean), Cond.methodLink RL 115 yX6_leases, Cond.instanceMethod yX6_leases, Cond.selects RX6 yX6_leases yX6_leases, Cond.code yX6_leases cX6_leases 2 (some .int), Cond.methodLink RX6 182 yX1_countOn, Cond.methodLink RL 118 yX7_leases]
def wsL_law_r34 : List Cond := [Cond.instanceMethod yX7_leases, Cond.selects RX7 yX7_leases yX7_leases, Cond.code yX7_leases cX7_leases 2 (some .int), Cond.methodLink RL 119 yX6_total, Cond.instanceMethod yX6_total, Cond.selects RX6 yX6_total yX6_total, Cond.code yX6_total cX6_total 2 (some .int), Cond.fieldLink RX6 185 "VacantAir$ActText" "length" "I", Cond.methodLink RX6 188 yX4_tellTotal, Cond.instanceMethod yX4_tellTotal, Cond.selects RX4 yX4_tellTotal yX4_tellTotal, Cond.code yX4_tellTotal cX4_tellTotal 2 (some .int), Cond.methodLink RX4 217 yX5_countAwake, Cond.instanceMethod yX5_countAwake, Cond.selects RX5 yX5_countAwake yX5_countAwake, Cond.code yX5_countAwake cX5_countAwake 3 (some .int), Cond.methodLink RX4 220 yX1_sumOf, Cond.instanceMethod yX1_sumOf, Cond.selects RX1 yX1_sumOf yX1_sumOf, Cond.code yX1_sumOf cX1_sumOf 4 (some .int), Cond.methodLink RL 122 yX7_total, Cond.instanceMethod yX7_total, Cond.selects RX7 yX7_total yX7_total, Cond.code yX7_total cX7_total 2 (some .int)]
def wsL_law_r35 : List Cond := [Cond.methodLink RX7 211 yX7_awake, Cond.instanceMethod yX7_awake, Cond.selects RX7 yX7_awake yX7_awake, Cond.code yX7_awake cX7_awake 3 (some .int), Cond.methodLink RX7 214 yX7_sumOf, Cond.instanceMethod yX7_sumOf, Cond.selects RX7 yX7_sumOf yX7_sumOf, Cond.code yX7_sumOf cX7_sumOf 4 (some .int), Cond.methodLink RL 123 yX6_vacant, Cond.instanceMethod yX6_vacant, Cond.selects RX6 yX6_vacant yX6_vacant, Cond.code yX6_vacant cX6_vacant 6 (some .int), Cond.methodLink RL 126 yX7_vacant, Cond.instanceMethod yX7_vacant, Cond.selects RX7 yX7_vacant yX7_vacant, Cond.code yX7_vacant cX7_vacant 5 (some .int), Cond.methodLink RL 127 yX6_allowedFrom, Cond.instanceMethod yX6_allowedFrom, Cond.selects RX6 yX6_allowedFrom yX6_allowedFrom, Cond.code yX6_allowedFrom cX6_allowedFrom 8 (some .int), Cond.fieldLink RX6 191 "VacantAir$Events" "count" "I", Cond.fieldLink RX6 192 "VacantAir$Events" "to" "[I", Cond.methodLink RL 130 yX7_allowedFrom, Cond.instanceMethod yX7_allowedFrom]
def wsL_law_r36 : List Cond := [Cond.selects RX7 yX7_allowedFrom yX7_allowedFrom, Cond.code yX7_allowedFrom cX7_allowedFrom 7 (some .int), Cond.methodLink RL 131 yX6_wouldStrike, Cond.instanceMethod yX6_wouldStrike, Cond.selects RX6 yX6_wouldStrike yX6_wouldStrike, Cond.code yX6_wouldStrike cX6_wouldStrike 4 (some .int), Cond.methodLink RX6 200 yX1_hasNotice, Cond.methodLink RL 134 yX7_wouldStrike, Cond.instanceMethod yX7_wouldStrike, Cond.selects RX7 yX7_wouldStrike yX7_wouldStrike, Cond.code yX7_wouldStrike cX7_wouldStrike 4 (some .int), Cond.methodLink RL 135 yX6_channelIn, Cond.instanceMethod yX6_channelIn, Cond.selects RX6 yX6_channelIn yX6_channelIn, Cond.code yX6_channelIn cX6_channelIn 4 (some .int), Cond.fieldLink RX6 209 "VacantAir$Devices" "channel" "[I", Cond.methodLink RX6 203 yX4_passOneHour, Cond.methodLink RL 138 yX7_channelIn, Cond.instanceMethod yX7_channelIn, Cond.selects RX7 yX7_channelIn yX7_channelIn, Cond.code yX7_channelIn cX7_channelIn 5 (some .int), Cond.methodLink RX7 217 yX7_holds, Cond.instanceMethod yX7_holds, Cond.selects RX7 yX7_holds yX7_holds]
def wsL_law_r37 : List Cond := [Cond.code yX7_holds cX7_holds 2 none, Cond.methodLink RX7 220 yX7_lets, Cond.instanceMethod yX7_lets, Cond.selects RX7 yX7_lets yX7_lets, Cond.code yX7_lets cX7_lets 2 none, Cond.methodLink RL 139 yX6_clearIn, Cond.instanceMethod yX6_clearIn, Cond.selects RX6 yX6_clearIn yX6_clearIn, Cond.code yX6_clearIn cX6_clearIn 2 (some .int), Cond.methodLink RX6 212 yX1_countNotices, Cond.methodLink RL 142 yX7_clearIn, Cond.instanceMethod yX7_clearIn, Cond.selects RX7 yX7_clearIn yX7_clearIn, Cond.code yX7_clearIn cX7_clearIn 3 (some .int)]
def wsL_law : List Cond := (wsL_law_r1 ++ (wsL_law_r2 ++ (wsL_law_r3 ++ (wsL_law_r4 ++ (wsL_law_r5 ++ (wsL_law_r6 ++ (wsL_law_r7 ++ (wsL_law_r8 ++ (wsL_law_r9 ++ (wsL_law_r10 ++ (wsL_law_r11 ++ (wsL_law_r12 ++ (wsL_law_r13 ++ (wsL_law_r14 ++ (wsL_law_r15 ++ (wsL_law_r16 ++ (wsL_law_r17 ++ (wsL_law_r18 ++ (wsL_law_r19 ++ (wsL_law_r20 ++ (wsL_law_r21 ++ (wsL_law_r22 ++ (wsL_law_r23 ++ (wsL_law_r24 ++ (wsL_law_r25 ++ (wsL_law_r26 ++ (wsL_law_r27 ++ (wsL_law_r28 ++ (wsL_law_r29 ++ (wsL_law_r30 ++ (wsL_law_r31 ++ (wsL_law_r32 ++ (wsL_law_r33 ++ (wsL_law_r34 ++ (wsL_law_r35 ++ (wsL_law_r36 ++ wsL_law_r37)))))))))))))))))))))))))))))))))))) ++ wsX60 ++ wsX70 ++ wsX40 ++ wsX30 ++ wsX00 ++ wsX50 ++ wsX20 ++ wsX10 ++ ([] : List Cond)
set_option maxRecDepth 20000 in
theorem wsL_in_1 : ∀ w ∈ wsL_law_r1, w ∈ lw_tbl := fun w h => (goodIn_p wsL_law_r1 [71, 74] (by decide +kernel) (by decide +kernel) w h).1
set_option maxRecDepth 20000 in
theorem wsL_in_2 : ∀ w ∈ wsL_law_r2, w ∈ lw_tbl := fun w h => (goodIn_p wsL_law_r2 [79, 85] (by decide +kernel) (by decide +kernel) w h).1
set_option maxRecDepth 20000 in
theorem wsL_in_3 : ∀ w ∈ wsL_law_r3, w ∈ lw_tbl := fun w h => (goodIn_p wsL_law_r3 [118, 159] (by decide +kernel) (by decide +kernel) w h).1
set_option maxRecDepth 20000 in
theorem wsL_in_4 : ∀ w ∈ wsL_law_r4, w ∈ lw_tbl := fun w h => (goodIn_p wsL_law_r4 [237, 257, 736] (by decide +kernel) (by decide +kernel) w h).1
set_option maxRecDepth 20000 in
theorem wsL_in_5 : ∀ w ∈ wsL_law_r5, w ∈ lw_tbl := fun w h => (goodIn_p wsL_law_r5 [312, 316, 320, 324] (by decide +kernel) (by decide +kernel) w h).1
set_option maxRecDepth 20000 in
theorem wsL_in_6 : ∀ w ∈ wsL_law_r6, w ∈ lw_tbl := fun w h => (goodIn_p wsL_law_r6 [327, 330, 337, 342, 348] (by decide +kernel) (by decide +kernel) w h).1
set_option maxRecDepth 20000 in
theorem wsL_in_7 : ∀ w ∈ wsL_law_r7, w ∈ lw_tbl := fun w h => (goodIn_p wsL_law_r7 [351, 354, 359, 363, 781] (by decide +kernel) (by decide +kernel) w h).1
set_option maxRecDepth 20000 in
theorem wsL_in_8 : ∀ w ∈ wsL_law_r8, w ∈ lw_tbl := fun w h => (goodIn_p wsL_law_r8 [784, 787, 790, 794, 367, 371] (by decide +kernel) (by decide +kernel) w h).1
set_option maxRecDepth 20000 in
theorem wsL_in_9 : ∀ w ∈ wsL_law_r9, w ∈ lw_tbl := fun w h => (goodIn_p wsL_law_r9 [375, 379, 383] (by decide +kernel) (by decide +kernel) w h).1
set_option maxRecDepth 20000 in
theorem wsL_in_10 : ∀ w ∈ wsL_law_r10, w ∈ lw_tbl := fun w h => (goodIn_p wsL_law_r10 [387, 391, 398, 402, 406, 798] (by decide +kernel) (by decide +kernel) w h).1
set_option maxRecDepth 20000 in
theorem wsL_in_11 : ∀ w ∈ wsL_law_r11, w ∈ lw_tbl := fun w h => (goodIn_p wsL_law_r11 [802, 806, 810, 814, 818, 822] (by decide +kernel) (by decide +kernel) w h).1
set_option maxRecDepth 20000 in
theorem wsL_in_12 : ∀ w ∈ wsL_law_r12, w ∈ lw_tbl := fun w h => (goodIn_p wsL_law_r12 [826, 830, 834, 837, 840, 843, 847] (by decide +kernel) (by decide +kernel) w h).1
set_option maxRecDepth 20000 in
theorem wsL_in_13 : ∀ w ∈ wsL_law_r13, w ∈ lw_tbl := fun w h => (goodIn_p wsL_law_r13 [851, 855, 859, 410, 414] (by decide +kernel) (by decide +kernel) w h).1
set_option maxRecDepth 20000 in
theorem wsL_in_14 : ∀ w ∈ wsL_law_r14, w ∈ lw_tbl := fun w h => (goodIn_p wsL_law_r14 [418, 863, 866, 870, 422, 426] (by decide +kernel) (by decide +kernel) w h).1
set_option maxRecDepth 20000 in
theorem wsL_in_15 : ∀ w ∈ wsL_law_r15, w ∈ lw_tbl := fun w h => (goodIn_p wsL_law_r15 [874, 434, 438, 442, 446, 878] (by decide +kernel) (by decide +kernel) w h).1
set_option maxRecDepth 20000 in
theorem wsL_in_16 : ∀ w ∈ wsL_law_r16, w ∈ lw_tbl := fun w h => (goodIn_p wsL_law_r16 [882, 886, 890, 451, 894, 455] (by decide +kernel) (by decide +kernel) w h).1
set_option maxRecDepth 20000 in
theorem wsL_in_17 : ∀ w ∈ wsL_law_r17, w ∈ lw_tbl := fun w h => (goodIn_p wsL_law_r17 [459, 463, 898, 902, 467, 471] (by decide +kernel) (by decide +kernel) w h).1
set_option maxRecDepth 20000 in
theorem wsL_in_18 : ∀ w ∈ wsL_law_r18, w ∈ lw_tbl := fun w h => (goodIn_p wsL_law_r18 [475, 479, 483, 487, 491, 495] (by decide +kernel) (by decide +kernel) w h).1
set_option maxRecDepth 20000 in
theorem wsL_in_19 : ∀ w ∈ wsL_law_r19, w ∈ lw_tbl := fun w h => (goodIn_p wsL_law_r19 [499, 906, 910, 914, 918, 922] (by decide +kernel) (by decide +kernel) w h).1
set_option maxRecDepth 20000 in
theorem wsL_in_20 : ∀ w ∈ wsL_law_r20, w ∈ lw_tbl := fun w h => (goodIn_p wsL_law_r20 [926, 930, 503, 507, 934, 511] (by decide +kernel) (by decide +kernel) w h).1
set_option maxRecDepth 20000 in
theorem wsL_in_21 : ∀ w ∈ wsL_law_r21, w ∈ lw_tbl := fun w h => (goodIn_p wsL_law_r21 [515, 519, 938, 942, 524] (by decide +kernel) (by decide +kernel) w h).1
set_option maxRecDepth 20000 in
theorem wsL_in_22 : ∀ w ∈ wsL_law_r22, w ∈ lw_tbl := fun w h => (goodIn_p wsL_law_r22 [528, 532, 536, 540, 544, 548] (by decide +kernel) (by decide +kernel) w h).1
set_option maxRecDepth 20000 in
theorem wsL_in_23 : ∀ w ∈ wsL_law_r23, w ∈ lw_tbl := fun w h => (goodIn_p wsL_law_r23 [946, 950, 954, 552, 556, 958] (by decide +kernel) (by decide +kernel) w h).1
set_option maxRecDepth 20000 in
theorem wsL_in_24 : ∀ w ∈ wsL_law_r24, w ∈ lw_tbl := fun w h => (goodIn_p wsL_law_r24 [561, 565, 962, 569, 573, 577] (by decide +kernel) (by decide +kernel) w h).1
set_option maxRecDepth 20000 in
theorem wsL_in_25 : ∀ w ∈ wsL_law_r25, w ∈ lw_tbl := fun w h => (goodIn_p wsL_law_r25 [581, 585, 589, 593, 597] (by decide +kernel) (by decide +kernel) w h).1
set_option maxRecDepth 20000 in
theorem wsL_in_26 : ∀ w ∈ wsL_law_r26, w ∈ lw_tbl := fun w h => (goodIn_p wsL_law_r26 [966, 970, 974, 978, 982] (by decide +kernel) (by decide +kernel) w h).1
set_option maxRecDepth 20000 in
theorem wsL_in_27 : ∀ w ∈ wsL_law_r27, w ∈ lw_tbl := fun w h => (goodIn_p wsL_law_r27 [601, 986, 991] (by decide +kernel) (by decide +kernel) w h).1
set_option maxRecDepth 20000 in
theorem wsL_in_28 : ∀ w ∈ wsL_law_r28, w ∈ lw_tbl := fun w h => (goodIn_p wsL_law_r28 [608, 612, 1000, 616, 1004] (by decide +kernel) (by decide +kernel) w h).1
set_option maxRecDepth 20000 in
theorem wsL_in_29 : ∀ w ∈ wsL_law_r29, w ∈ lw_tbl := fun w h => (goodIn_p wsL_law_r29 [621, 1008, 625, 630] (by decide +kernel) (by decide +kernel) w h).1
set_option maxRecDepth 20000 in
theorem wsL_in_30 : ∀ w ∈ wsL_law_r30, w ∈ lw_tbl := fun w h => (goodIn_p wsL_law_r30 [636, 1012, 1016, 641, 646] (by decide +kernel) (by decide +kernel) w h).1
set_option maxRecDepth 20000 in
theorem wsL_in_31 : ∀ w ∈ wsL_law_r31, w ∈ lw_tbl := fun w h => (goodIn_p wsL_law_r31 [1020, 651, 656, 660, 1024, 1028] (by decide +kernel) (by decide +kernel) w h).1
set_option maxRecDepth 20000 in
theorem wsL_in_32 : ∀ w ∈ wsL_law_r32, w ∈ lw_tbl := fun w h => (goodIn_p wsL_law_r32 [664, 1032, 670, 1036, 675] (by decide +kernel) (by decide +kernel) w h).1
set_option maxRecDepth 20000 in
theorem wsL_in_33 : ∀ w ∈ wsL_law_r33, w ∈ lw_tbl := fun w h => (goodIn_p wsL_law_r33 [679, 683, 687, 1040, 1044, 691] (by decide +kernel) (by decide +kernel) w h).1
set_option maxRecDepth 20000 in
theorem wsL_in_34 : ∀ w ∈ wsL_law_r34, w ∈ lw_tbl := fun w h => (goodIn_p wsL_law_r34 [1048, 696, 700, 704, 708, 1052] (by decide +kernel) (by decide +kernel) w h).1
set_option maxRecDepth 20000 in
theorem wsL_in_35 : ∀ w ∈ wsL_law_r35, w ∈ lw_tbl := fun w h => (goodIn_p wsL_law_r35 [1056, 1060, 712, 1064, 716] (by decide +kernel) (by decide +kernel) w h).1
set_option maxRecDepth 20000 in
theorem wsL_in_36 : ∀ w ∈ wsL_law_r36, w ∈ lw_tbl := fun w h => (goodIn_p wsL_law_r36 [1068, 720, 1072, 725, 1076] (by decide +kernel) (by decide +kernel) w h).1
set_option maxRecDepth 20000 in
theorem wsL_in_37 : ∀ w ∈ wsL_law_r37, w ∈ lw_tbl := fun w h => (goodIn_p wsL_law_r37 [1080, 1084, 730, 1088] (by decide +kernel) (by decide +kernel) w h).1
set_option maxRecDepth 20000 in
theorem inqwsX60 : ∀ w ∈ wsX60, w ∈ lw_tbl := by decide +kernel
set_option maxRecDepth 20000 in
theorem inqwsX70 : ∀ w ∈ wsX70, w ∈ lw_tbl := by decide +kernel
set_option maxRecDepth 20000 in
theorem inqwsX40 : ∀ w ∈ wsX40, w ∈ lw_tbl := by decide +kernel
set_option maxRecDepth 20000 in
theorem inqwsX30 : ∀ w ∈ wsX30, w ∈ lw_tbl := by decide +kernel
set_option maxRecDepth 20000 in
theorem inqwsX00 : ∀ w ∈ wsX00, w ∈ lw_tbl := by decide +kernel
set_option maxRecDepth 20000 in
theorem inqwsX50 : ∀ w ∈ wsX50, w ∈ lw_tbl := by decide +kernel
set_option maxRecDepth 20000 in
theorem inqwsX20 : ∀ w ∈ wsX20, w ∈ lw_tbl := by decide +kernel
set_option maxRecDepth 20000 in
theorem inqwsX10 : ∀ w ∈ wsX10, w ∈ lw_tbl := by decide +kernel
theorem wsL_law_in : ∀ w ∈ wsL_law, w ∈ lw_tbl := List.forall_mem_append.mpr ⟨List.forall_mem_append.mpr ⟨List.forall_mem_append.mpr ⟨List.forall_mem_append.mpr ⟨List.forall_mem_append.mpr ⟨List.forall_mem_append.mpr ⟨List.forall_mem_append.mpr ⟨List.forall_mem_append.mpr ⟨List.forall_mem_append.mpr ⟨List.forall_mem_append.mpr ⟨wsL_in_1, List.forall_mem_append.mpr ⟨wsL_in_2, List.forall_mem_append.mpr ⟨wsL_in_3, List.forall_mem_append.mpr ⟨wsL_in_4, List.forall_mem_append.mpr ⟨wsL_in_5, List.forall_mem_append.mpr ⟨wsL_in_6, List.forall_mem_append.mpr ⟨wsL_in_7, List.forall_mem_append.mpr ⟨wsL_in_8, List.forall_mem_append.mpr ⟨wsL_in_9, List.forall_mem_append.mpr ⟨wsL_in_10, List.forall_mem_append.mpr ⟨wsL_in_11, List.forall_mem_append.mpr ⟨wsL_in_12, List.forall_mem_append.mpr ⟨wsL_in_13, List.forall_mem_append.mpr ⟨wsL_in_14, List.forall_mem_append.mpr ⟨wsL_in_15, List.forall_mem_append.mpr ⟨wsL_in_16, List.forall_mem_append.mpr ⟨wsL_in_17, List.forall_mem_append.mpr ⟨wsL_in_18, List.forall_mem_append.mpr ⟨wsL_in_19, List.forall_mem_append.mpr ⟨wsL_in_20, List.forall_mem_append.mpr ⟨wsL_in_21, List.forall_mem_append.mpr ⟨wsL_in_22, List.forall_mem_append.mpr ⟨wsL_in_23, List.forall_mem_append.mpr ⟨wsL_in_24, List.forall_mem_append.mpr ⟨wsL_in_25, List.forall_mem_append.mpr ⟨wsL_in_26, List.forall_mem_append.mpr ⟨wsL_in_27, List.forall_mem_append.mpr ⟨wsL_in_28, List.forall_mem_append.mpr ⟨wsL_in_29, List.forall_mem_append.mpr ⟨wsL_in_30, List.forall_mem_append.mpr ⟨wsL_in_31, List.forall_mem_append.mpr ⟨wsL_in_32, List.forall_mem_append.mpr ⟨wsL_in_33, List.forall_mem_append.mpr ⟨wsL_in_34, List.forall_mem_append.mpr ⟨wsL_in_35, List.forall_mem_append.mpr ⟨wsL_in_36, wsL_in_37⟩⟩⟩⟩⟩⟩⟩⟩⟩⟩⟩⟩⟩⟩⟩⟩⟩⟩⟩⟩⟩⟩⟩⟩⟩⟩⟩⟩⟩⟩⟩⟩⟩⟩⟩⟩, inqwsX60⟩, inqwsX70⟩, inqwsX40⟩, inqwsX30⟩, inqwsX00⟩, inqwsX50⟩, inqwsX20⟩, inqwsX10⟩, fun _ h => absurd h List.not_mem_nil⟩
theorem inlX0 : ∀ w ∈ wsX00, w ∈ wsL_law := fun _ h => List.mem_append_left _ (List.mem_append_left _ (List.mem_append_left _ (List.mem_append_left _ (List.mem_append_right _ h))))
theorem inX0 : ∀ w ∈ wsX00, w ∈ lw_tbl := fun w h => wsL_law_in w (inlX0 w h)
theorem inlX1 : ∀ w ∈ wsX10, w ∈ wsL_law := fun _ h => List.mem_append_left _ (List.mem_append_right _ h)
theorem inX1 : ∀ w ∈ wsX10, w ∈ lw_tbl := fun w h => wsL_law_in w (inlX1 w h)
theorem inlX2 : ∀ w ∈ wsX20, w ∈ wsL_law := fun _ h => List.mem_append_left _ (List.mem_append_left _ (List.mem_append_right _ h))
theorem inX2 : ∀ w ∈ wsX20, w ∈ lw_tbl := fun w h => wsL_law_in w (inlX2 w h)
theorem inlX3 : ∀ w ∈ wsX30, w ∈ wsL_law := fun _ h => List.mem_append_left _ (List.mem_append_left _ (List.mem_append_left _ (List.mem_append_left _ (List.mem_append_left _ (List.mem_append_right _ h)))))
theorem inX3 : ∀ w ∈ wsX30, w ∈ lw_tbl := fun w h => wsL_law_in w (inlX3 w h)
theorem inlX4 : ∀ w ∈ wsX40, w ∈ wsL_law := fun _ h => List.mem_append_left _ (List.mem_append_left _ (List.mem_append_left _ (List.mem_append_left _ (List.mem_append_left _ (List.mem_append_left _ (List.mem_append_right _ h))))))
theorem inX4 : ∀ w ∈ wsX40, w ∈ lw_tbl := fun w h => wsL_law_in w (inlX4 w h)
theorem inlX5 : ∀ w ∈ wsX50, w ∈ wsL_law := fun _ h => List.mem_append_left _ (List.mem_append_left _ (List.mem_append_left _ (List.mem_append_right _ h)))
theorem inX5 : ∀ w ∈ wsX50, w ∈ lw_tbl := fun w h => wsL_law_in w (inlX5 w h)
theorem inlX6 : ∀ w ∈ wsX60, w ∈ wsL_law := fun _ h => List.mem_append_left _ (List.mem_append_left _ (List.mem_append_left _ (List.mem_append_left _ (List.mem_append_left _ (List.mem_append_left _ (List.mem_append_left _ (List.mem_append_left _ (List.mem_append_right _ h))))))))
theorem inX6 : ∀ w ∈ wsX60, w ∈ lw_tbl := fun w h => wsL_law_in w (inlX6 w h)
theorem inlX7 : ∀ w ∈ wsX70, w ∈ wsL_law := fun _ h => List.mem_append_left _ (List.mem_append_left _ (List.mem_append_left _ (List.mem_append_left _ (List.mem_append_left _ (List.mem_append_left _ (List.mem_append_left _ (List.mem_append_right _ h)))))))
theorem inX7 : ∀ w ∈ wsX70, w ∈ lw_tbl := fun w h => wsL_law_in w (inlX7 w h)
theorem inJ9 : ∀ w ∈ wsJ90, w ∈ lw_tbl := by decide +kernel
theorem inJ10 : ∀ w ∈ wsJ100, w ∈ lw_tbl := by decide +kernel
theorem dX0_init_0 : decode cX0_init 0 = .ok (.aload_n 0, 1) := by decide +kernel
theorem dX0_init_1 : decode cX0_init 1 = .ok (.invokespecial 3, 3) := by decide +kernel
theorem dX0_init_4 : decode cX0_init 4 = .ok (.aload_n 0, 1) := by decide +kernel
theorem dX0_init_5 : decode cX0_init 5 = .ok (.bipush 80, 2) := by decide +kernel
theorem dX0_init_7 : decode cX0_init 7 = .ok (.newarray .int, 2) := by decide +kernel
theorem dX0_init_9 : decode cX0_init 9 = .ok (.putfield 9, 3) := by decide +kernel
theorem dX0_init_12 : decode cX0_init 12 = .ok (.aload_n 0, 1) := by decide +kernel
theorem dX0_init_13 : decode cX0_init 13 = .ok (.bipush (-6), 2) := by decide +kernel
theorem dX0_init_15 : decode cX0_init 15 = .ok (.putfield 15, 3) := by decide +kernel
theorem dX0_init_18 : decode cX0_init 18 = .ok (.return_, 1) := by decide +kernel
theorem dX1_init_0 : decode cX1_init 0 = .ok (.aload_n 0, 1) := by decide +kernel
theorem dX1_init_1 : decode cX1_init 1 = .ok (.invokespecial 3, 3) := by decide +kernel
theorem dX1_init_4 : decode cX1_init 4 = .ok (.aload_n 0, 1) := by decide +kernel
theorem dX1_init_5 : decode cX1_init 5 = .ok (.bipush 16, 2) := by decide +kernel
theorem dX1_init_7 : decode cX1_init 7 = .ok (.newarray .int, 2) := by decide +kernel
theorem dX1_init_9 : decode cX1_init 9 = .ok (.putfield 9, 3) := by decide +kernel
theorem dX1_init_12 : decode cX1_init 12 = .ok (.aload_n 0, 1) := by decide +kernel
theorem dX1_init_13 : decode cX1_init 13 = .ok (.bipush 16, 2) := by decide +kernel
theorem dX1_init_15 : decode cX1_init 15 = .ok (.newarray .int, 2) := by decide +kernel
theorem dX1_init_17 : decode cX1_init 17 = .ok (.putfield 15, 3) := by decide +kernel
theorem dX1_init_20 : decode cX1_init 20 = .ok (.aload_n 0, 1) := by decide +kernel
theorem dX1_init_21 : decode cX1_init 21 = .ok (.bipush 16, 2) := by decide +kernel
theorem dX1_init_23 : decode cX1_init 23 = .ok (.newarray .int, 2) := by decide +kernel
theorem dX1_init_25 : decode cX1_init 25 = .ok (.putfield 18, 3) := by decide +kernel
theorem dX1_init_28 : decode cX1_init 28 = .ok (.aload_n 0, 1) := by decide +kernel
theorem dX1_init_29 : decode cX1_init 29 = .ok (.bipush 16, 2) := by decide +kernel
theorem dX1_init_31 : decode cX1_init 31 = .ok (.newarray .int, 2) := by decide +kernel
theorem dX1_init_33 : decode cX1_init 33 = .ok (.putfield 21, 3) := by decide +kernel
theorem dX1_init_36 : decode cX1_init 36 = .ok (.aload_n 0, 1) := by decide +kernel
theorem dX1_init_37 : decode cX1_init 37 = .ok (.bipush 16, 2) := by decide +kernel
theorem dX1_init_39 : decode cX1_init 39 = .ok (.newarray .int, 2) := by decide +kernel
theorem dX1_init_41 : decode cX1_init 41 = .ok (.putfield 24, 3) := by decide +kernel
theorem dX1_init_44 : decode cX1_init 44 = .ok (.aload_n 0, 1) := by decide +kernel
theorem dX1_init_45 : decode cX1_init 45 = .ok (.bipush 16, 2) := by decide +kernel
theorem dX1_init_47 : decode cX1_init 47 = .ok (.newarray .int, 2) := by decide +kernel
theorem dX1_init_49 : decode cX1_init 49 = .ok (.putfield 27, 3) := by decide +kernel
theorem dX1_init_52 : decode cX1_init 52 = .ok (.aload_n 0, 1) := by decide +kernel
theorem dX1_init_53 : decode cX1_init 53 = .ok (.bipush 16, 2) := by decide +kernel
theorem dX1_init_55 : decode cX1_init 55 = .ok (.newarray .int, 2) := by decide +kernel
theorem dX1_init_57 : decode cX1_init 57 = .ok (.putfield 30, 3) := by decide +kernel
theorem dX1_init_60 : decode cX1_init 60 = .ok (.aload_n 0, 1) := by decide +kernel
theorem dX1_init_61 : decode cX1_init 61 = .ok (.bipush 16, 2) := by decide +kernel
theorem dX1_init_63 : decode cX1_init 63 = .ok (.newarray .int, 2) := by decide +kernel
theorem dX1_init_65 : decode cX1_init 65 = .ok (.putfield 33, 3) := by decide +kernel
theorem dX1_init_68 : decode cX1_init 68 = .ok (.aload_n 0, 1) := by decide +kernel
theorem dX1_init_69 : decode cX1_init 69 = .ok (.bipush 16, 2) := by decide +kernel
theorem dX1_init_71 : decode cX1_init 71 = .ok (.newarray .int, 2) := by decide +kernel
theorem dX1_init_73 : decode cX1_init 73 = .ok (.putfield 36, 3) := by decide +kernel
theorem dX1_init_76 : decode cX1_init 76 = .ok (.aload_n 0, 1) := by decide +kernel
theorem dX1_init_77 : decode cX1_init 77 = .ok (.bipush 16, 2) := by decide +kernel
theorem dX1_init_79 : decode cX1_init 79 = .ok (.newarray .int, 2) := by decide +kernel
theorem dX1_init_81 : decode cX1_init 81 = .ok (.putfield 39, 3) := by decide +kernel
theorem dX1_init_84 : decode cX1_init 84 = .ok (.return_, 1) := by decide +kernel
theorem dX2_init_0 : decode cX2_init 0 = .ok (.aload_n 0, 1) := by decide +kernel
theorem dX2_init_1 : decode cX2_init 1 = .ok (.invokespecial 3, 3) := by decide +kernel
theorem dX2_init_4 : decode cX2_init 4 = .ok (.aload_n 0, 1) := by decide +kernel
theorem dX2_init_5 : decode cX2_init 5 = .ok (.bipush 8, 2) := by decide +kernel
theorem dX2_init_7 : decode cX2_init 7 = .ok (.newarray .int, 2) := by decide +kernel
theorem dX2_init_9 : decode cX2_init 9 = .ok (.putfield 9, 3) := by decide +kernel
theorem dX2_init_12 : decode cX2_init 12 = .ok (.aload_n 0, 1) := by decide +kernel
theorem dX2_init_13 : decode cX2_init 13 = .ok (.bipush 8, 2) := by decide +kernel
theorem dX2_init_15 : decode cX2_init 15 = .ok (.newarray .int, 2) := by decide +kernel
theorem dX2_init_17 : decode cX2_init 17 = .ok (.putfield 15, 3) := by decide +kernel
theorem dX2_init_20 : decode cX2_init 20 = .ok (.aload_n 0, 1) := by decide +kernel
theorem dX2_init_21 : decode cX2_init 21 = .ok (.bipush 8, 2) := by decide +kernel
theorem dX2_init_23 : decode cX2_init 23 = .ok (.newarray .int, 2) := by decide +kernel
theorem dX2_init_25 : decode cX2_init 25 = .ok (.putfield 18, 3) := by decide +kernel
theorem dX2_init_28 : decode cX2_init 28 = .ok (.aload_n 0, 1) := by decide +kernel
theorem dX2_init_29 : decode cX2_init 29 = .ok (.bipush 8, 2) := by decide +kernel
theorem dX2_init_31 : decode cX2_init 31 = .ok (.newarray .int, 2) := by decide +kernel
theorem dX2_init_33 : decode cX2_init 33 = .ok (.putfield 21, 3) := by decide +kernel
theorem dX2_init_36 : decode cX2_init 36 = .ok (.aload_n 0, 1) := by decide +kernel
theorem dX2_init_37 : decode cX2_init 37 = .ok (.bipush 8, 2) := by decide +kernel
theorem dX2_init_39 : decode cX2_init 39 = .ok (.newarray .int, 2) := by decide +kernel
theorem dX2_init_41 : decode cX2_init 41 = .ok (.putfield 24, 3) := by decide +kernel
theorem dX2_init_44 : decode cX2_init 44 = .ok (.aload_n 0, 1) := by decide +kernel
theorem dX2_init_45 : decode cX2_init 45 = .ok (.bipush 8, 2) := by decide +kernel
theorem dX2_init_47 : decode cX2_init 47 = .ok (.newarray .int, 2) := by decide +kernel
theorem dX2_init_49 : decode cX2_init 49 = .ok (.putfield 27, 3) := by decide +kernel
theorem dX2_init_52 : decode cX2_init 52 = .ok (.aload_n 0, 1) := by decide +kernel
theorem dX2_init_53 : decode cX2_init 53 = .ok (.bipush 8, 2) := by decide +kernel
theorem dX2_init_55 : decode cX2_init 55 = .ok (.newarray .int, 2) := by decide +kernel
theorem dX2_init_57 : decode cX2_init 57 = .ok (.putfield 30, 3) := by decide +kernel
theorem dX2_init_60 : decode cX2_init 60 = .ok (.return_, 1) := by decide +kernel
set_option maxRecDepth 20000 in
theorem ggX3_init_X4_init : GoodIn wsX3_init wsX4_init := goodIn_r _ [10, 11, 2, 3, 12, 13, 14, 15, 16, 17, 18, 19, 20, 21, 22, 23, 24, 25, 26, 27, 28, 29, 30, 31, 32, 33, 34, 35, 36, 37, 38, 39, 40, 41, 42, 43, 44, 45, 46, 47, 48, 49, 50, 51, 52, 53, 54, 55, 56, 66, 67, 68, 69, 70, 71, 60, 61, 62, 63, 64, 65, 72, 73, 74, 75, 76, 77, 78, 79, 80, 81, 82, 83, 84, 85, 86, 87, 88, 89, 90] (by decide +kernel) (by decide +kernel)
set_option maxRecDepth 20000 in
theorem gX3_init_X4_init : GoodIn wsX3_init (wsX4_init) := ggX3_init_X4_init
theorem dX3_init_0 : decode cX3_init 0 = .ok (.aload_n 0, 1) := by decide +kernel
theorem dX3_init_1 : decode cX3_init 1 = .ok (.invokespecial 3, 3) := by decide +kernel
theorem dX3_init_4 : decode cX3_init 4 = .ok (.aload_n 0, 1) := by decide +kernel
theorem dX3_init_5 : decode cX3_init 5 = .ok (.bipush 6, 2) := by decide +kernel
theorem dX3_init_7 : decode cX3_init 7 = .ok (.anewarray 9, 3) := by decide +kernel
theorem dX3_init_10 : decode cX3_init 10 = .ok (.putfield 11, 3) := by decide +kernel
theorem dX3_init_13 : decode cX3_init 13 = .ok (.iconst 0, 1) := by decide +kernel
theorem dX3_init_14 : decode cX3_init 14 = .ok (.istore_n 1, 1) := by decide +kernel
theorem dX3_init_15 : decode cX3_init 15 = .ok (.iload_n 1, 1) := by decide +kernel
theorem dX3_init_16 : decode cX3_init 16 = .ok (.aload_n 0, 1) := by decide +kernel
theorem dX3_init_17 : decode cX3_init 17 = .ok (.getfield 11, 3) := by decide +kernel
theorem dX3_init_20 : decode cX3_init 20 = .ok (.arraylength, 1) := by decide +kernel
theorem dX3_init_21 : decode cX3_init 21 = .ok (.if_icmp .ge 22, 3) := by decide +kernel
theorem dX3_init_24 : decode cX3_init 24 = .ok (.aload_n 0, 1) := by decide +kernel
theorem dX3_init_25 : decode cX3_init 25 = .ok (.getfield 11, 3) := by decide +kernel
theorem dX3_init_28 : decode cX3_init 28 = .ok (.iload_n 1, 1) := by decide +kernel
theorem dX3_init_29 : decode cX3_init 29 = .ok (.new 9, 3) := by decide +kernel
theorem dX3_init_32 : decode cX3_init 32 = .ok (.dup, 1) := by decide +kernel
theorem dX3_init_33 : decode cX3_init 33 = .ok (.invokespecial 17, 3) := by decide +kernel
theorem dX3_init_36 : decode cX3_init 36 = .ok (.aastore, 1) := by decide +kernel
theorem dX3_init_37 : decode cX3_init 37 = .ok (.iinc 1 1, 3) := by decide +kernel
theorem dX3_init_40 : decode cX3_init 40 = .ok (.goto (-25), 3) := by decide +kernel
theorem dX3_init_43 : decode cX3_init 43 = .ok (.return_, 1) := by decide +kernel
set_option maxRecDepth 20000 in
theorem ggX4_init_X5_init : GoodIn wsX4_init wsX5_init := goodIn_r _ [19, 20, 2, 3, 16, 21, 22, 23, 24, 25, 49, 50, 51, 52, 53, 54] (by decide +kernel) (by decide +kernel)
set_option maxRecDepth 20000 in
theorem gX4_init_X5_init_n11 : GoodIn wsX4_init (wsX5_init) := ggX4_init_X5_init
set_option maxRecDepth 20000 in
theorem ggX4_init_X2_init : GoodIn wsX4_init wsX2_init := goodIn_r _ [27, 28, 2, 3, 16, 29, 30, 31, 32, 33, 34, 35, 61, 62, 63, 64, 65, 66, 67, 68] (by decide +kernel) (by decide +kernel)
set_option maxRecDepth 20000 in
theorem gX4_init_X2_init_n20 : GoodIn wsX4_init (wsX2_init) := ggX4_init_X2_init
set_option maxRecDepth 20000 in
theorem ggX4_init_X1_init : GoodIn wsX4_init wsX1_init := goodIn_r _ [37, 38, 2, 3, 16, 39, 40, 41, 42, 43, 44, 45, 46, 47, 48, 69, 70, 71, 72, 73, 74, 75, 76, 77, 78, 79] (by decide +kernel) (by decide +kernel)
set_option maxRecDepth 20000 in
theorem gX4_init_X1_init_n27 : GoodIn wsX4_init (wsX1_init) := ggX4_init_X1_init
theorem dX4_init_0 : decode cX4_init 0 = .ok (.aload_n 0, 1) := by decide +kernel
theorem dX4_init_1 : decode cX4_init 1 = .ok (.invokespecial 3, 3) := by decide +kernel
theorem dX4_init_4 : decode cX4_init 4 = .ok (.aload_n 0, 1) := by decide +kernel
theorem dX4_init_5 : decode cX4_init 5 = .ok (.new 9, 3) := by decide +kernel
theorem dX4_init_8 : decode cX4_init 8 = .ok (.dup, 1) := by decide +kernel
theorem dX4_init_9 : decode cX4_init 9 = .ok (.invokespecial 11, 3) := by decide +kernel
theorem dX4_init_12 : decode cX4_init 12 = .ok (.putfield 12, 3) := by decide +kernel
theorem dX4_init_15 : decode cX4_init 15 = .ok (.aload_n 0, 1) := by decide +kernel
theorem dX4_init_16 : decode cX4_init 16 = .ok (.new 18, 3) := by decide +kernel
theorem dX4_init_19 : decode cX4_init 19 = .ok (.dup, 1) := by decide +kernel
theorem dX4_init_20 : decode cX4_init 20 = .ok (.invokespecial 20, 3) := by decide +kernel
theorem dX4_init_23 : decode cX4_init 23 = .ok (.putfield 21, 3) := by decide +kernel
theorem dX4_init_26 : decode cX4_init 26 = .ok (.aload_n 0, 1) := by decide +kernel
theorem dX4_init_27 : decode cX4_init 27 = .ok (.new 25, 3) := by decide +kernel
theorem dX4_init_30 : decode cX4_init 30 = .ok (.dup, 1) := by decide +kernel
theorem dX4_init_31 : decode cX4_init 31 = .ok (.invokespecial 27, 3) := by decide +kernel
theorem dX4_init_34 : decode cX4_init 34 = .ok (.putfield 28, 3) := by decide +kernel
theorem dX4_init_37 : decode cX4_init 37 = .ok (.aload_n 0, 1) := by decide +kernel
theorem dX4_init_38 : decode cX4_init 38 = .ok (.iconst 3, 1) := by decide +kernel
theorem dX4_init_39 : decode cX4_init 39 = .ok (.newarray .int, 2) := by decide +kernel
theorem dX4_init_41 : decode cX4_init 41 = .ok (.putfield 32, 3) := by decide +kernel
theorem dX4_init_44 : decode cX4_init 44 = .ok (.iconst 0, 1) := by decide +kernel
theorem dX4_init_45 : decode cX4_init 45 = .ok (.istore_n 1, 1) := by decide +kernel
theorem dX4_init_46 : decode cX4_init 46 = .ok (.iload_n 1, 1) := by decide +kernel
theorem dX4_init_47 : decode cX4_init 47 = .ok (.iconst 3, 1) := by decide +kernel
theorem dX4_init_48 : decode cX4_init 48 = .ok (.if_icmp .ge 20, 3) := by decide +kernel
theorem dX4_init_51 : decode cX4_init 51 = .ok (.aload_n 0, 1) := by decide +kernel
theorem dX4_init_52 : decode cX4_init 52 = .ok (.getfield 32, 3) := by decide +kernel
theorem dX4_init_55 : decode cX4_init 55 = .ok (.iload_n 1, 1) := by decide +kernel
theorem dX4_init_56 : decode cX4_init 56 = .ok (.getstatic 36, 3) := by decide +kernel
theorem dX4_init_59 : decode cX4_init 59 = .ok (.iload_n 1, 1) := by decide +kernel
theorem dX4_init_60 : decode cX4_init 60 = .ok (.iaload, 1) := by decide +kernel
theorem dX4_init_61 : decode cX4_init 61 = .ok (.iastore, 1) := by decide +kernel
theorem dX4_init_62 : decode cX4_init 62 = .ok (.iinc 1 1, 3) := by decide +kernel
theorem dX4_init_65 : decode cX4_init 65 = .ok (.goto (-19), 3) := by decide +kernel
theorem dX4_init_68 : decode cX4_init 68 = .ok (.return_, 1) := by decide +kernel
theorem dX5_init_0 : decode cX5_init 0 = .ok (.aload_n 0, 1) := by decide +kernel
theorem dX5_init_1 : decode cX5_init 1 = .ok (.invokespecial 3, 3) := by decide +kernel
theorem dX5_init_4 : decode cX5_init 4 = .ok (.aload_n 0, 1) := by decide +kernel
theorem dX5_init_5 : decode cX5_init 5 = .ok (.bipush 8, 2) := by decide +kernel
theorem dX5_init_7 : decode cX5_init 7 = .ok (.newarray .int, 2) := by decide +kernel
theorem dX5_init_9 : decode cX5_init 9 = .ok (.putfield 9, 3) := by decide +kernel
theorem dX5_init_12 : decode cX5_init 12 = .ok (.aload_n 0, 1) := by decide +kernel
theorem dX5_init_13 : decode cX5_init 13 = .ok (.bipush 8, 2) := by decide +kernel
theorem dX5_init_15 : decode cX5_init 15 = .ok (.newarray .int, 2) := by decide +kernel
theorem dX5_init_17 : decode cX5_init 17 = .ok (.putfield 15, 3) := by decide +kernel
theorem dX5_init_20 : decode cX5_init 20 = .ok (.aload_n 0, 1) := by decide +kernel
theorem dX5_init_21 : decode cX5_init 21 = .ok (.bipush 8, 2) := by decide +kernel
theorem dX5_init_23 : decode cX5_init 23 = .ok (.newarray .int, 2) := by decide +kernel
theorem dX5_init_25 : decode cX5_init 25 = .ok (.putfield 18, 3) := by decide +kernel
theorem dX5_init_28 : decode cX5_init 28 = .ok (.aload_n 0, 1) := by decide +kernel
theorem dX5_init_29 : decode cX5_init 29 = .ok (.bipush 8, 2) := by decide +kernel
theorem dX5_init_31 : decode cX5_init 31 = .ok (.newarray .int, 2) := by decide +kernel
theorem dX5_init_33 : decode cX5_init 33 = .ok (.putfield 21, 3) := by decide +kernel
theorem dX5_init_36 : decode cX5_init 36 = .ok (.aload_n 0, 1) := by decide +kernel
theorem dX5_init_37 : decode cX5_init 37 = .ok (.bipush 8, 2) := by decide +kernel
theorem dX5_init_39 : decode cX5_init 39 = .ok (.newarray .int, 2) := by decide +kernel
theorem dX5_init_41 : decode cX5_init 41 = .ok (.putfield 24, 3) := by decide +kernel
theorem dX5_init_44 : decode cX5_init 44 = .ok (.return_, 1) := by decide +kernel
set_option maxRecDepth 20000 in
theorem ggX6_init_X4_init : GoodIn wsX6_init wsX4_init := goodIn_r _ [22, 23, 2, 3, 24, 25, 26, 27, 28, 29, 30, 31, 32, 33, 34, 35, 36, 37, 38, 39, 40, 41, 42, 43, 44, 45, 46, 47, 48, 49, 50, 51, 52, 53, 54, 55, 56, 57, 58, 59, 60, 61, 62, 63, 64, 65, 66, 67, 68, 104, 105, 106, 107, 108, 109, 81, 82, 83, 84, 85, 86, 110, 111, 112, 113, 114, 115, 116, 117, 118, 119, 120, 121, 122, 123, 124, 125, 126, 127, 128] (by decide +kernel) (by decide +kernel)
set_option maxRecDepth 20000 in
theorem gX6_init_X4_init : GoodIn wsX6_init (wsX4_init) := ggX6_init_X4_init
set_option maxRecDepth 20000 in
theorem ggX6_init_X3_init : GoodIn wsX6_init wsX3_init := goodIn_r _ [71, 72, 2, 3, 73, 74, 5, 6, 75, 21, 22, 23, 24, 25, 26, 27, 28, 29, 30, 31, 32, 33, 34, 35, 36, 37, 38, 39, 40, 41, 42, 43, 44, 45, 46, 47, 48, 49, 50, 51, 52, 53, 54, 55, 56, 57, 58, 59, 60, 61, 62, 63, 64, 65, 66, 67, 68, 93, 94, 95, 81, 82, 83, 84, 85, 86, 104, 105, 106, 107, 108, 109, 110, 111, 112, 113, 114, 115, 116, 117, 118, 119, 120, 121, 122, 123, 124, 125, 126, 127, 128] (by decide +kernel) (by decide +kernel)
set_option maxRecDepth 20000 in
theorem gX6_init_X3_init : GoodIn wsX6_init (wsX3_init) := ggX6_init_X3_init
set_option maxRecDepth 20000 in
theorem ggX6_init_X0_init : GoodIn wsX6_init wsX0_init := goodIn_r _ [77, 78, 2, 3, 36, 79, 80, 96, 97, 98, 99, 100, 101, 102, 103] (by decide +kernel) (by decide +kernel)
set_option maxRecDepth 20000 in
theorem gX6_init_X0_init_n36 : GoodIn wsX6_init (wsX0_init) := ggX6_init_X0_init
theorem dX6_init_0 : decode cX6_init 0 = .ok (.aload_n 0, 1) := by decide +kernel
theorem dX6_init_1 : decode cX6_init 1 = .ok (.invokespecial 1, 3) := by decide +kernel
theorem dX6_init_4 : decode cX6_init 4 = .ok (.aload_n 0, 1) := by decide +kernel
theorem dX6_init_5 : decode cX6_init 5 = .ok (.new 7, 3) := by decide +kernel
theorem dX6_init_8 : decode cX6_init 8 = .ok (.dup, 1) := by decide +kernel
theorem dX6_init_9 : decode cX6_init 9 = .ok (.invokespecial 9, 3) := by decide +kernel
theorem dX6_init_12 : decode cX6_init 12 = .ok (.putfield 10, 3) := by decide +kernel
theorem dX6_init_15 : decode cX6_init 15 = .ok (.aload_n 0, 1) := by decide +kernel
theorem dX6_init_16 : decode cX6_init 16 = .ok (.new 7, 3) := by decide +kernel
theorem dX6_init_19 : decode cX6_init 19 = .ok (.dup, 1) := by decide +kernel
theorem dX6_init_20 : decode cX6_init 20 = .ok (.invokespecial 9, 3) := by decide +kernel
theorem dX6_init_23 : decode cX6_init 23 = .ok (.putfield 16, 3) := by decide +kernel
theorem dX6_init_26 : decode cX6_init 26 = .ok (.aload_n 0, 1) := by decide +kernel
theorem dX6_init_27 : decode cX6_init 27 = .ok (.new 19, 3) := by decide +kernel
theorem dX6_init_30 : decode cX6_init 30 = .ok (.dup, 1) := by decide +kernel
theorem dX6_init_31 : decode cX6_init 31 = .ok (.invokespecial 21, 3) := by decide +kernel
theorem dX6_init_34 : decode cX6_init 34 = .ok (.putfield 22, 3) := by decide +kernel
theorem dX6_init_37 : decode cX6_init 37 = .ok (.aload_n 0, 1) := by decide +kernel
theorem dX6_init_38 : decode cX6_init 38 = .ok (.iconst 2, 1) := by decide +kernel
theorem dX6_init_39 : decode cX6_init 39 = .ok (.anewarray 7, 3) := by decide +kernel
theorem dX6_init_42 : decode cX6_init 42 = .ok (.putfield 26, 3) := by decide +kernel
theorem dX6_init_45 : decode cX6_init 45 = .ok (.iconst 0, 1) := by decide +kernel
theorem dX6_init_46 : decode cX6_init 46 = .ok (.istore_n 1, 1) := by decide +kernel
theorem dX6_init_47 : decode cX6_init 47 = .ok (.iload_n 1, 1) := by decide +kernel
theorem dX6_init_48 : decode cX6_init 48 = .ok (.iconst 2, 1) := by decide +kernel
theorem dX6_init_49 : decode cX6_init 49 = .ok (.if_icmp .ge 22, 3) := by decide +kernel
theorem dX6_init_52 : decode cX6_init 52 = .ok (.aload_n 0, 1) := by decide +kernel
theorem dX6_init_53 : decode cX6_init 53 = .ok (.getfield 26, 3) := by decide +kernel
theorem dX6_init_56 : decode cX6_init 56 = .ok (.iload_n 1, 1) := by decide +kernel
theorem dX6_init_57 : decode cX6_init 57 = .ok (.new 7, 3) := by decide +kernel
theorem dX6_init_60 : decode cX6_init 60 = .ok (.dup, 1) := by decide +kernel
theorem dX6_init_61 : decode cX6_init 61 = .ok (.invokespecial 9, 3) := by decide +kernel
theorem dX6_init_64 : decode cX6_init 64 = .ok (.aastore, 1) := by decide +kernel
theorem dX6_init_65 : decode cX6_init 65 = .ok (.iinc 1 1, 3) := by decide +kernel
theorem dX6_init_68 : decode cX6_init 68 = .ok (.goto (-21), 3) := by decide +kernel
theorem dX6_init_71 : decode cX6_init 71 = .ok (.aload_n 0, 1) := by decide +kernel
theorem dX6_init_72 : decode cX6_init 72 = .ok (.iconst 2, 1) := by decide +kernel
theorem dX6_init_73 : decode cX6_init 73 = .ok (.newarray .boolean, 2) := by decide +kernel
theorem dX6_init_75 : decode cX6_init 75 = .ok (.putfield 30, 3) := by decide +kernel
theorem dX6_init_78 : decode cX6_init 78 = .ok (.aload_n 0, 1) := by decide +kernel
theorem dX6_init_79 : decode cX6_init 79 = .ok (.new 34, 3) := by decide +kernel
theorem dX6_init_82 : decode cX6_init 82 = .ok (.dup, 1) := by decide +kernel
theorem dX6_init_83 : decode cX6_init 83 = .ok (.invokespecial 36, 3) := by decide +kernel
theorem dX6_init_86 : decode cX6_init 86 = .ok (.putfield 37, 3) := by decide +kernel
theorem dX6_init_89 : decode cX6_init 89 = .ok (.return_, 1) := by decide +kernel
theorem dX7_init_0 : decode cX7_init 0 = .ok (.aload_n 0, 1) := by decide +kernel
theorem dX7_init_1 : decode cX7_init 1 = .ok (.invokespecial 1, 3) := by decide +kernel
theorem dX7_init_4 : decode cX7_init 4 = .ok (.aload_n 0, 1) := by decide +kernel
theorem dX7_init_5 : decode cX7_init 5 = .ok (.sipush 264, 3) := by decide +kernel
theorem dX7_init_8 : decode cX7_init 8 = .ok (.newarray .int, 2) := by decide +kernel
theorem dX7_init_10 : decode cX7_init 10 = .ok (.putfield 7, 3) := by decide +kernel
theorem dX7_init_13 : decode cX7_init 13 = .ok (.aload_n 0, 1) := by decide +kernel
theorem dX7_init_14 : decode cX7_init 14 = .ok (.sipush 1320, 3) := by decide +kernel
theorem dX7_init_17 : decode cX7_init 17 = .ok (.newarray .int, 2) := by decide +kernel
theorem dX7_init_19 : decode cX7_init 19 = .ok (.putfield 13, 3) := by decide +kernel
theorem dX7_init_22 : decode cX7_init 22 = .ok (.aload_n 0, 1) := by decide +kernel
theorem dX7_init_23 : decode cX7_init 23 = .ok (.sipush 528, 3) := by decide +kernel
theorem dX7_init_26 : decode cX7_init 26 = .ok (.newarray .int, 2) := by decide +kernel
theorem dX7_init_28 : decode cX7_init 28 = .ok (.putfield 16, 3) := by decide +kernel
theorem dX7_init_31 : decode cX7_init 31 = .ok (.aload_n 0, 1) := by decide +kernel
theorem dX7_init_32 : decode cX7_init 32 = .ok (.iconst 2, 1) := by decide +kernel
theorem dX7_init_33 : decode cX7_init 33 = .ok (.newarray .boolean, 2) := by decide +kernel
theorem dX7_init_35 : decode cX7_init 35 = .ok (.putfield 19, 3) := by decide +kernel
theorem dX7_init_38 : decode cX7_init 38 = .ok (.aload_n 0, 1) := by decide +kernel
theorem dX7_init_39 : decode cX7_init 39 = .ok (.sipush 264, 3) := by decide +kernel
theorem dX7_init_42 : decode cX7_init 42 = .ok (.newarray .int, 2) := by decide +kernel
theorem dX7_init_44 : decode cX7_init 44 = .ok (.putfield 23, 3) := by decide +kernel
theorem dX7_init_47 : decode cX7_init 47 = .ok (.aload_n 0, 1) := by decide +kernel
theorem dX7_init_48 : decode cX7_init 48 = .ok (.bipush 80, 2) := by decide +kernel
theorem dX7_init_50 : decode cX7_init 50 = .ok (.newarray .int, 2) := by decide +kernel
theorem dX7_init_52 : decode cX7_init 52 = .ok (.putfield 26, 3) := by decide +kernel
theorem dX7_init_55 : decode cX7_init 55 = .ok (.aload_n 0, 1) := by decide +kernel
theorem dX7_init_56 : decode cX7_init 56 = .ok (.getfield 7, 3) := by decide +kernel
theorem dX7_init_59 : decode cX7_init 59 = .ok (.iconst 5, 1) := by decide +kernel
theorem dX7_init_60 : decode cX7_init 60 = .ok (.bipush 40, 2) := by decide +kernel
theorem dX7_init_62 : decode cX7_init 62 = .ok (.iastore, 1) := by decide +kernel
theorem dX7_init_63 : decode cX7_init 63 = .ok (.aload_n 0, 1) := by decide +kernel
theorem dX7_init_64 : decode cX7_init 64 = .ok (.getfield 7, 3) := by decide +kernel
theorem dX7_init_67 : decode cX7_init 67 = .ok (.bipush 6, 2) := by decide +kernel
theorem dX7_init_69 : decode cX7_init 69 = .ok (.iconst 4, 1) := by decide +kernel
theorem dX7_init_70 : decode cX7_init 70 = .ok (.iastore, 1) := by decide +kernel
theorem dX7_init_71 : decode cX7_init 71 = .ok (.aload_n 0, 1) := by decide +kernel
theorem dX7_init_72 : decode cX7_init 72 = .ok (.getfield 7, 3) := by decide +kernel
theorem dX7_init_75 : decode cX7_init 75 = .ok (.bipush 7, 2) := by decide +kernel
theorem dX7_init_77 : decode cX7_init 77 = .ok (.iconst 3, 1) := by decide +kernel
theorem dX7_init_78 : decode cX7_init 78 = .ok (.iastore, 1) := by decide +kernel
theorem dX7_init_79 : decode cX7_init 79 = .ok (.return_, 1) := by decide +kernel
theorem dJ9_min_7cf53_0 : decode cJ9_min_7cf53 0 = .ok (.iload_n 0, 1) := by decide +kernel
theorem dJ9_min_7cf53_1 : decode cJ9_min_7cf53 1 = .ok (.iload_n 1, 1) := by decide +kernel
theorem dJ9_min_7cf53_2 : decode cJ9_min_7cf53 2 = .ok (.if_icmp .gt 7, 3) := by decide +kernel
theorem dJ9_min_7cf53_5 : decode cJ9_min_7cf53 5 = .ok (.iload_n 0, 1) := by decide +kernel
theorem dJ9_min_7cf53_6 : decode cJ9_min_7cf53 6 = .ok (.goto 4, 3) := by decide +kernel
theorem dJ9_min_7cf53_9 : decode cJ9_min_7cf53 9 = .ok (.iload_n 1, 1) := by decide +kernel
theorem dJ9_min_7cf53_10 : decode cJ9_min_7cf53 10 = .ok (.ireturn, 1) := by decide +kernel
set_option maxRecDepth 20000 in
theorem ggL_law_X6_init : GoodIn wsL_law wsX6_init := goodIn_r _ [8, 9, 10, 11, 12, 13, 14, 15, 16, 17, 18, 19, 20, 21, 22, 23, 24, 25, 26, 27, 28, 29, 30, 31, 32, 33, 34, 35, 36, 37, 38, 39, 40, 41, 42, 43, 44, 45, 46, 47, 48, 49, 50, 51, 52, 53, 54, 55, 56, 57, 58, 59, 60, 61, 62, 63, 64, 65, 66, 67, 68, 69, 70, 71, 72, 73, 74, 75, 76, 77, 78, 79, 80, 81, 82, 83, 84, 85, 86, 87, 88, 897, 898, 899, 900, 901, 902, 878, 879, 880, 881, 882, 883, 903, 904, 905, 906, 907, 908, 909, 910, 911, 912, 913, 914, 915, 916, 917, 918, 919, 920, 921, 922, 923, 924, 925, 926, 927, 928, 929, 930, 931, 932, 933, 934, 935, 936, 937, 938] (by decide +kernel) (by decide +kernel)
set_option maxRecDepth 20000 in
theorem gL_law_X6_init : GoodIn wsL_law (wsX6_init) := ggL_law_X6_init
set_option maxRecDepth 20000 in
theorem ggL_law_X7_init : GoodIn wsL_law wsX7_init := goodIn_r _ [91, 92, 10, 11, 44, 93, 94, 95, 22, 96, 97, 98, 884, 885, 886, 887, 888, 889, 890, 891, 892, 893, 894, 895, 896] (by decide +kernel) (by decide +kernel)
set_option maxRecDepth 20000 in
theorem gL_law_X7_init : GoodIn wsL_law (wsX7_init) := ggL_law_X7_init
abbrev vwCl : List vw_C := [(RX0, TX0, 8), (RX1, TX1, 11), (RX2, TX2, 8), (RX3, TX3, 3), (RX4, TX4, 6), (RX5, TX5, 6), (RX6, TX6, 6), (RX7, TX7, 13)]
/-! ===== END printed: names ===== -/
end
section
/-! AN ABSTRACT MACHINE over numbers: cells by kind c and block b, slots j; a pure function; proved sound against the machine's rows, once, in part 04. -/
abbrev aV : Type := Int32 ⊕ (Nat × Nat)
abbrev aM : Type := Nat → Nat → Nat → Int32
abbrev aL : Type := List (Option aV)
abbrev aO : Type := Option (Option aV × aM)
/-- a row of code: the instruction, two resolved numbers, the place of its word -/
abbrev aR : Type := Instr × Nat × Nat × Nat
abbrev aS : Type := Nat × aL × List aV × aM
def a_up (m : aM) (c b j : Nat) (v : Int32) : aM := fun c' b' j' => if c' = c ∧ b' = b ∧ j' = j then v else m c' b' j'
/-- what a cell is: an object of a class (0), a row of ints (1), of booleans (2), of references (3), a static row (4), the script (5) -/
def a_kds : List (Nat × Nat) := [(0, 4), (0, 5), (0, 2), (0, 1), (1, 8), (1, 8), (1, 8), (1, 8), (1, 8), (1, 8), (1, 8), (1, 8), (1, 8), (1, 8), (1, 8), (1, 8), (1, 16), (1, 16), (1, 16), (1, 16), (1, 16), (1, 16), (1, 16), (1, 16), (1, 16), (1, 16), (1, 3), (0, 6), (0, 3), (3, 6), (3, 2), (2, 2), (0, 0), (1, 80), (0, 7), (1, 264), (1, 1320), (1, 528), (2, 2), (1, 264), (1, 80), (4, 5), (4, 4), (4, 3), (4, 3), (4, 3), (5, 0)]
def a_kd (c : Nat) : Nat × Nat := a_kds.getD c (9, 0)
/-- the references that an object's fields hold for good: the kind, the block (none: the object's own) -/
def a_frs : List (List (Option (Nat × Option Nat))) := [
  [some (1, none), some (2, none), some (3, none), some (26, none), none, none],
  [some (4, none), some (5, none), some (6, none), some (7, none), some (8, none), none],
  [some (9, none), some (10, none), some (11, none), some (12, none), some (13, none), some (14, none), some (15, none), none],
  [some (16, none), some (17, none), some (18, none), some (19, none), some (20, none), some (21, none), some (22, none), some (23, none), some (24, none), some (25, none), none],
  [], [], [], [], [], [], [], [], [], [], [], [], [], [], [], [], [], [], [], [], [], [], [],
  [some (0, some 0), some (0, some 1), some (28, some 0), some (30, some 0), some (31, some 0), some (32, some 0)],
  [some (29, some 0), none, none],
  [], [], [],
  [some (33, some 0), none, none, none, none, none, none, none],
  [],
  [some (35, some 0), some (36, some 0), some (37, some 0), some (38, some 0), some (39, some 0), none, none, some (40, some 0), none, none, none, none, none]]
def a_ft (c k : Nat) : Option (Nat × Option Nat) := (a_frs.getD c []).getD k none
def a_fr (c b k : Nat) : Option (Nat × Nat) := match a_ft c k with
  | none => none
  | some (c', none) => some (c', b)
  | some (c', some d) => some (c', d)
def a_nf (c : Nat) : Nat := (a_frs.getD c []).length
/-- the one boolean field -/
def a_bf (ci k : Nat) : Bool := ci == 7 && k == 6
/-- the block of the state that a row of states holds at j -/
def a_el (c j : Nat) : Nat := if c = 29 then 2 + j else 8 + j
def a_sn (c : Nat) : String := if c = 41 then "RADII" else if c = 42 then "REACHES" else if c = 43 then "FIRST_VALUES" else if c = 44 then "LEAST_VALUES" else "GREATEST_VALUES"
/-- how long a row is -/
def a_ln (m : aM) (c : Nat) : Nat := if c = 46 then (m 47 0 0).toNatClampNeg else (a_kd c).2
def a_in (i : Int32) (n : Nat) : Bool := decide (¬ i < 0) && decide (i.toNatClampNeg < n)
theorem a_in_vp {i : Int32} {n : Nat} (h : a_in i n = true) : vp_in i n := by
  simp only [a_in, Bool.and_eq_true, decide_eq_true_eq] at h
  exact fun q => q.elim h.1 (fun q => absurd h.2 (Nat.not_lt.mpr q))
/-! ways to take a stack or a place apart -/
def a_l1 (ls : aL) (k : Nat) (f : Int32 → Option aS) : Option aS := match ls[k]? with
  | some (some (.inl x)) => f x
  | _ => none
def a_lr (ls : aL) (k : Nat) (f : Nat → Nat → Option aS) : Option aS := match ls[k]? with
  | some (some (.inr (c, b))) => f c b
  | _ => none
def a_p0 (st : List aV) (f : aV → List aV → Option aS) : Option aS := match st with
  | v :: t => f v t
  | _ => none
def a_p1 (st : List aV) (f : Int32 → List aV → Option aS) : Option aS := match st with
  | .inl x :: t => f x t
  | _ => none
def a_pr (st : List aV) (f : Nat → Nat → List aV → Option aS) : Option aS := match st with
  | .inr (c, b) :: t => f c b t
  | _ => none
def a_p2 (st : List aV) (f : Int32 → Int32 → List aV → Option aS) : Option aS := match st with
  | .inl y :: .inl x :: t => f x y t
  | _ => none
def a_pv (st : List aV) (f : aV → aV → List aV → Option aS) : Option aS := match st with
  | v :: u :: t => f v u t
  | _ => none
def a_p1r (st : List aV) (f : Int32 → Nat → Nat → List aV → Option aS) : Option aS := match st with
  | .inl x :: .inr (c, b) :: t => f x c b t
  | _ => none
def a_p2r (st : List aV) (f : Int32 → Int32 → Nat → Nat → List aV → Option aS) : Option aS := match st with
  | .inl x :: .inl i :: .inr (c, b) :: t => f x i c b t
  | _ => none
def a_pcp (st : List aV) (f : Int32 → Int32 → Nat → Nat → Int32 → Nat → Nat → Option aS) : Option aS := match st with
  | [.inl n, .inl dp, .inr (c1, b1), .inl sp, .inr (c0, b0)] => f n dp c1 b1 sp c0 b0
  | _ => none
theorem a_l1_i {ls : aL} {k : Nat} {f : Int32 → Option aS} {z : aS} (h : a_l1 ls k f = some z) : ∃ x, ls[k]? = some (some (.inl x)) ∧ f x = some z := by
  unfold a_l1 at h
  split at h
  · rename_i e; exact ⟨_, e, h⟩
  · cases h
theorem a_lr_i {ls : aL} {k : Nat} {f : Nat → Nat → Option aS} {z : aS} (h : a_lr ls k f = some z) : ∃ c b, ls[k]? = some (some (.inr (c, b))) ∧ f c b = some z := by
  unfold a_lr at h
  split at h
  · rename_i e; exact ⟨_, _, e, h⟩
  · cases h
theorem a_p0_i {st : List aV} {f : aV → List aV → Option aS} {z : aS} (h : a_p0 st f = some z) : ∃ v t, st = v :: t ∧ f v t = some z := by
  unfold a_p0 at h
  split at h
  · exact ⟨_, _, rfl, h⟩
  · cases h
theorem a_p1_i {st : List aV} {f : Int32 → List aV → Option aS} {z : aS} (h : a_p1 st f = some z) : ∃ x t, st = .inl x :: t ∧ f x t = some z := by
  unfold a_p1 at h
  split at h
  · exact ⟨_, _, rfl, h⟩
  · cases h
theorem a_pr_i {st : List aV} {f : Nat → Nat → List aV → Option aS} {z : aS} (h : a_pr st f = some z) : ∃ c b t, st = .inr (c, b) :: t ∧ f c b t = some z := by
  unfold a_pr at h
  split at h
  · exact ⟨_, _, _, rfl, h⟩
  · cases h
theorem a_p2_i {st : List aV} {f : Int32 → Int32 → List aV → Option aS} {z : aS} (h : a_p2 st f = some z) : ∃ x y t, st = .inl y :: .inl x :: t ∧ f x y t = some z := by
  unfold a_p2 at h
  split at h
  · exact ⟨_, _, _, rfl, h⟩
  · cases h
theorem a_pv_i {st : List aV} {f : aV → aV → List aV → Option aS} {z : aS} (h : a_pv st f = some z) : ∃ v u t, st = v :: u :: t ∧ f v u t = some z := by
  unfold a_pv at h
  split at h
  · exact ⟨_, _, _, rfl, h⟩
  · cases h
theorem a_p1r_i {st : List aV} {f : Int32 → Nat → Nat → List aV → Option aS} {z : aS} (h : a_p1r st f = some z) : ∃ x c b t, st = .inl x :: .inr (c, b) :: t ∧ f x c b t = some z := by
  unfold a_p1r at h
  split at h
  · exact ⟨_, _, _, _, rfl, h⟩
  · cases h
theorem a_p2r_i {st : List aV} {f : Int32 → Int32 → Nat → Nat → List aV → Option aS} {z : aS} (h : a_p2r st f = some z) : ∃ x i c b t, st = .inl x :: .inl i :: .inr (c, b) :: t ∧ f x i c b t = some z := by
  unfold a_p2r at h
  split at h
  · exact ⟨_, _, _, _, _, rfl, h⟩
  · cases h
theorem a_pcp_i {st : List aV} {f : Int32 → Int32 → Nat → Nat → Int32 → Nat → Nat → Option aS} {z : aS} (h : a_pcp st f = some z) : ∃ n dp c1 b1 sp c0 b0, st = [.inl n, .inl dp, .inr (c1, b1), .inl sp, .inr (c0, b0)] ∧ f n dp c1 b1 sp c0 b0 = some z := by
  unfold a_pcp at h
  split at h
  · exact ⟨_, _, _, _, _, _, _, rfl, h⟩
  · cases h
theorem a_if_i {α : Type} {p : Prop} [Decidable p] {x : Option α} {z : α} (h : (if p then x else none) = some z) : p ∧ x = some z := by
  split at h
  · exact ⟨‹_›, h⟩
  · cases h
/-- a comparison of two numbers -/
def a_cc (k : Jvm.ClassFile.Cond) (x y : Int32) : Bool := match k with
  | .eq => decide (x = y)
  | .ne => decide (¬ x = y)
  | .lt => decide (x < y)
  | .ge => decide (y ≤ x)
  | .gt => decide (y < x)
  | .le => decide (x ≤ y)
def a_st (ls : aL) (k : Nat) (v : aV) (f : aL → Option aS) : Option aS := if k < ls.length then f (ls.set k (some v)) else none
/-- where a switch goes -/
def a_tg (pc : Nat) (off : Int) : Nat := ((pc : Int) + off).toNat
def a_ts (pc : Nat) (dflt lo hi : Int) (offs : Array Int) (x : Int32) : Nat := if x.toInt < lo ∨ hi < x.toInt then a_tg pc dflt else match offs[(x.toInt - lo).toNat]? with
  | some off => a_tg pc off
  | none => 0
def a_lk (pc : Nat) (dflt : Int) (ps : Array (Int × Int)) (x : Int32) : Nat := a_tg pc (Op.lookupswitch.offset ps.toList dflt x.toInt)
/-- one step that is no call of a method of ours and no end -/
def a_step (ins : Instr) (a b : Nat) (pc : Nat) (ls : aL) (st : List aV) (m : aM) : Option aS :=
  match ins with
  | .aload_n k => a_lr ls k fun c d => some (pc + 1, ls, .inr (c, d) :: st, m)
  | .aload k => a_lr ls k fun c d => some (pc + 2, ls, .inr (c, d) :: st, m)
  | .iload_n k => a_l1 ls k fun x => some (pc + 1, ls, .inl x :: st, m)
  | .iload k => a_l1 ls k fun x => some (pc + 2, ls, .inl x :: st, m)
  | .istore_n k => a_p1 st fun x t => a_st ls k (.inl x) fun ls1 => some (pc + 1, ls1, t, m)
  | .istore k => a_p1 st fun x t => a_st ls k (.inl x) fun ls1 => some (pc + 2, ls1, t, m)
  | .astore_n k => a_pr st fun c d t => a_st ls k (.inr (c, d)) fun ls1 => some (pc + 1, ls1, t, m)
  | .iinc k n => a_l1 ls k fun x => a_st ls k (.inl (x + Int32.ofInt n)) fun ls1 => some (pc + 3, ls1, st, m)
  | .iconst n => some (pc + 1, ls, .inl (Int32.ofInt n) :: st, m)
  | .bipush n => some (pc + 2, ls, .inl (Int8.ofInt n).toInt32 :: st, m)
  | .sipush n => some (pc + 3, ls, .inl (Int16.ofInt n).toInt32 :: st, m)
  | .iadd => a_p2 st fun x y t => some (pc + 1, ls, .inl (x + y) :: t, m)
  | .isub => a_p2 st fun x y t => some (pc + 1, ls, .inl (x - y) :: t, m)
  | .imul => a_p2 st fun x y t => some (pc + 1, ls, .inl (x * y) :: t, m)
  | .iand => a_p2 st fun x y t => some (pc + 1, ls, .inl (x &&& y) :: t, m)
  | .idiv => a_p2 st fun x y t => if ¬ y = 0 then some (pc + 1, ls, .inl (x / y) :: t, m) else none
  | .irem => a_p2 st fun x y t => if ¬ y = 0 then some (pc + 1, ls, .inl (x - x / y * y) :: t, m) else none
  | .dup => a_p0 st fun v t => some (pc + 1, ls, v :: v :: t, m)
  | .dup2 => a_pv st fun v u t => some (pc + 1, ls, v :: u :: v :: u :: t, m)
  | .pop => a_p0 st fun _ t => some (pc + 1, ls, t, m)
  | .goto _ => some (a, ls, st, m)
  | .ifCond k _ => a_p1 st fun x t => some (if a_cc k x 0 = true then a else pc + 3, ls, t, m)
  | .if_icmp k _ => a_p2 st fun x y t => some (if a_cc k x y = true then a else pc + 3, ls, t, m)
  | .tableswitch dflt lo hi offs => a_p1 st fun x t => if ((pc : Int) + dflt ≥ 0 ∧ ∀ o ∈ offs.toList, (pc : Int) + o ≥ 0) ∧ (x.toInt < lo ∨ hi < x.toInt ∨ (x.toInt - lo).toNat < offs.size) then some (a_ts pc dflt lo hi offs x, ls, t, m) else none
  | .lookupswitch dflt ps => a_p1 st fun x t => if (pc : Int) + Op.lookupswitch.offset ps.toList dflt x.toInt ≥ 0 then some (a_lk pc dflt ps x, ls, t, m) else none
  | .getfield _ => a_pr st fun c d t => if a_kd c = (0, a) then (match a_fr c d b with
      | some r => some (pc + 3, ls, .inr r :: t, m)
      | none => some (pc + 3, ls, .inl (m c d b) :: t, m)) else none
  | .putfield _ => a_p1r st fun x c d t => if (a_kd c = (0, a) ∧ a_fr c d b = none) ∧ (a_bf a b = true → x = 0 ∨ x = 1) then some (pc + 3, ls, t, a_up m c d b x) else none
  | .getstatic _ => some (pc + 3, ls, .inr (a, 0) :: st, m)
  | .iaload => a_p1r st fun i c d t => if ((a_kd c).1 = 1 ∨ (a_kd c).1 = 4 ∨ (a_kd c).1 = 5) ∧ a_in i (a_ln m c) = true then some (pc + 1, ls, .inl (m c d i.toNatClampNeg) :: t, m) else none
  | .baload => a_p1r st fun i c d t => if (a_kd c).1 = 2 ∧ a_in i (a_ln m c) = true then some (pc + 1, ls, .inl (m c d i.toNatClampNeg) :: t, m) else none
  | .aaload => a_p1r st fun i c _ t => if (a_kd c).1 = 3 ∧ a_in i (a_ln m c) = true then some (pc + 1, ls, .inr (0, a_el c i.toNatClampNeg) :: t, m) else none
  | .iastore => a_p2r st fun x i c d t => if (a_kd c).1 = 1 ∧ a_in i (a_ln m c) = true then some (pc + 1, ls, t, a_up m c d i.toNatClampNeg x) else none
  | .bastore => a_p2r st fun x i c d t => if ((a_kd c).1 = 2 ∧ a_in i (a_ln m c) = true) ∧ (x = 0 ∨ x = 1) then some (pc + 1, ls, t, a_up m c d i.toNatClampNeg x) else none
  | .arraylength => a_pr st fun c _ t => if (a_kd c).1 = 1 ∨ (a_kd c).1 = 5 then some (pc + 1, ls, .inl (nI (a_ln m c)) :: t, m) else none
  | .invokestatic _ => if a = 1000 then a_p2 st fun x y t => (if t.length ≤ 8 then some (pc + 3, ls, .inl (if y < x then y else x) :: t, m) else none)
      else if a = 1001 then a_pcp st fun n dp c1 b1 sp c0 b0 => (if ((a_kd c0).1 = 1 ∧ (a_kd c1).1 = 1) ∧ (¬ sp < 0 ∧ ¬ dp < 0 ∧ ¬ n < 0) ∧ sp.toNatClampNeg + n.toNatClampNeg ≤ (a_kd c0).2 ∧ dp.toNatClampNeg + n.toNatClampNeg ≤ (a_kd c1).2 then
        some (pc + 3, ls, [], fun c b j => if c = c1 ∧ b = b1 then va_cpy (m c0 b0) (m c1 b1) sp.toNatClampNeg dp.toNatClampNeg n.toNatClampNeg j else m c b j) else none)
      else none
  | _ => none
/-- the end of a method -/
def a_ret (ret : Option FieldType) (ins : Instr) (st : List aV) : Option (Option aV) := match ins, ret, st with
  | .ireturn, some .int, [.inl v] => some (some (.inl v))
  | .ireturn, some .boolean, [.inl v] => if v = 0 ∨ v = 1 then some (some (.inl v)) else none
  | .return_, none, [] => some none
  | _, _, _ => none
/-- a method: name, bytes, places, answer, how deep it calls, its receiver's class, the places of its words -/
abbrev aMt : Type := MethodName × ByteArray × Nat × Option FieldType × Nat × Nat × Nat × Nat × Nat × Nat
end
section
/-! the tables: methods, words of nest mates, code rows resolved; by program (wip/whole/gen3.py) -/
def a_nst : List Cond := [Cond.methodLinkNest RX5 34 yX6_copyRow "VacantAir", Cond.methodLinkNest RX2 41 yX6_copyRow "VacantAir", Cond.methodLinkNest RX1 61 yX6_copyRow "VacantAir", Cond.methodLinkNest RX4 49 yX6_copyRow "VacantAir", Cond.methodLinkNest RX4 60 yX6_isNoPlace "VacantAir", Cond.methodLinkNest RX4 64 yX6_isOutside "VacantAir", Cond.methodLinkNest RX4 205 yX6_isWithin "VacantAir", Cond.methodLinkNest RX0 19 yX6_isOutside "VacantAir", Cond.fieldLinkNest RX4 36 "VacantAir" "FIRST_VALUES" "[I" "VacantAir", Cond.fieldLinkNest RX4 214 "VacantAir" "RADII" "[I" "VacantAir", Cond.fieldLinkNest RX4 202 "VacantAir" "REACHES" "[I" "VacantAir", Cond.fieldLinkNest RX4 124 "VacantAir" "LEAST_VALUES" "[I" "VacantAir", Cond.fieldLinkNest RX4 127 "VacantAir" "GREATEST_VALUES" "[I" "VacantAir", Cond.fieldLinkNest RX5 31 "VacantAir" "RADII" "[I" "VacantAir"]
def a_m0 : aMt := (yX0_add, cX0_add, 2, some .int, 1, 0, 2216, 2214, 2215, 102)
def a_m1 : aMt := (yX0_empty, cX0_empty, 2, some .int, 0, 0, 2306, 2304, 2305, 102)
def a_m2 : aMt := (yX0_findFault, cX0_findFault, 2, some .int, 3, 0, 2318, 2316, 2317, 102)
def a_m3 : aMt := (yX0_startReading, cX0_startReading, 1, none, 0, 0, 2322, 2320, 2321, 102)
def a_m4 : aMt := (yX0_hasMore, cX0_hasMore, 1, some .boolean, 0, 0, 2403, 2401, 2402, 102)
def a_m5 : aMt := (yX0_readAct, cX0_readAct, 1, none, 2, 0, 2407, 2405, 2406, 102)
def a_m6 : aMt := (yX0_readByte, cX0_readByte, 2, none, 0, 0, 2423, 2421, 2422, 102)
def a_m7 : aMt := (yX0_readNumber, cX0_readNumber, 5, some .int, 1, 0, 2415, 2413, 2414, 102)
def a_m8 : aMt := (yX0_isDigitAt, cX0_isDigitAt, 2, some .boolean, 0, 0, 2419, 2417, 2418, 102)
def a_m9 : aMt := (yX1_has, cX1_has, 2, some .boolean, 0, 1, 1703, 1701, 1702, 118)
def a_m10 : aMt := (yX1_hasLease, cX1_hasLease, 2, some .boolean, 0, 1, 815, 813, 814, 118)
def a_m11 : aMt := (yX1_hasNotice, cX1_hasNotice, 2, some .boolean, 0, 1, 917, 915, 916, 118)
def a_m12 : aMt := (yX1_putOn, cX1_putOn, 4, none, 0, 1, 1803, 1801, 1802, 118)
def a_m13 : aMt := (yX1_removeLease, cX1_removeLease, 2, none, 0, 1, 1302, 1300, 1301, 118)
def a_m14 : aMt := (yX1_tell, cX1_tell, 3, some .int, 1, 1, 3014, 3012, 3013, 118)
def a_m15 : aMt := (yX1_countLeases, cX1_countLeases, 3, some .int, 1, 1, 2007, 2005, 2006, 118)
def a_m16 : aMt := (yX1_countOn, cX1_countOn, 4, some .int, 0, 1, 1723, 1721, 1722, 118)
def a_m17 : aMt := (yX1_countNotices, cX1_countNotices, 3, some .int, 1, 1, 1417, 1415, 1416, 118)
def a_m18 : aMt := (yX1_sumOf, cX1_sumOf, 4, some .int, 0, 1, 3319, 3317, 3318, 118)
def a_m19 : aMt := (yX1_atPlace, cX1_atPlace, 3, some .int, 3, 1, 3201, 3123, 3200, 118)
def a_m20 : aMt := (yX1_placeOf, cX1_placeOf, 4, some .int, 2, 1, 3205, 3203, 3204, 118)
def a_m21 : aMt := (yX1_comesBefore, cX1_comesBefore, 3, some .boolean, 1, 1, 3209, 3207, 3208, 118)
def a_m22 : aMt := (yX1_copyFrom, cX1_copyFrom, 2, none, 2, 1, 518, 516, 517, 118)
def a_m23 : aMt := (yX2_has, cX2_has, 2, some .boolean, 0, 2, 1606, 1604, 1605, 114)
def a_m24 : aMt := (yX2_isOn, cX2_isOn, 3, some .boolean, 0, 2, 913, 911, 912, 114)
def a_m25 : aMt := (yX2_tell, cX2_tell, 4, some .int, 1, 2, 2920, 2918, 2919, 114)
def a_m26 : aMt := (yX2_copyFrom, cX2_copyFrom, 2, none, 2, 2, 513, 511, 512, 114)
def a_m27 : aMt := (yX3_note, cX3_note, 2, none, 4, 3, 410, 408, 409, 19)
def a_m28 : aMt := (yX3_keepNoted, cX3_keepNoted, 1, none, 0, 3, 618, 616, 617, 19)
def a_m29 : aMt := (yX3_takeLatest, cX3_takeLatest, 2, none, 4, 3, 2709, 2707, 2708, 19)
def a_m30 : aMt := (yX4_copyFrom, cX4_copyFrom, 2, none, 3, 4, 416, 414, 415, 14)
def a_m31 : aMt := (yX4_putStation, cX4_putStation, 6, some .int, 2, 4, 523, 521, 522, 14)
def a_m32 : aMt := (yX4_putEvent, cX4_putEvent, 8, some .int, 4, 4, 721, 719, 720, 14)
def a_m33 : aMt := (yX4_putDevice, cX4_putDevice, 5, some .int, 2, 4, 1218, 1216, 1217, 14)
def a_m34 : aMt := (yX4_change, cX4_change, 4, some .int, 4, 4, 1321, 1319, 1320, 14)
def a_m35 : aMt := (yX4_turnStation, cX4_turnStation, 3, some .int, 4, 4, 1409, 1407, 1408, 14)
def a_m36 : aMt := (yX4_callOff, cX4_callOff, 2, some .int, 4, 4, 1602, 1600, 1601, 14)
def a_m37 : aMt := (yX4_makeLease, cX4_makeLease, 4, some .int, 4, 4, 1622, 1620, 1621, 14)
def a_m38 : aMt := (yX4_prolongLease, cX4_prolongLease, 3, some .int, 1, 4, 1915, 1913, 1914, 14)
def a_m39 : aMt := (yX4_dropLease, cX4_dropLease, 2, some .int, 2, 4, 2003, 2001, 2002, 14)
def a_m40 : aMt := (yX4_passHours, cX4_passHours, 4, some .int, 5, 4, 2100, 2022, 2023, 14)
def a_m41 : aMt := (yX4_passOneHour, cX4_passOneHour, 3, some .int, 4, 4, 2104, 2102, 2103, 14)
def a_m42 : aMt := (yX4_endLeases, cX4_endLeases, 2, none, 1, 4, 2108, 2106, 2107, 14)
def a_m43 : aMt := (yX4_review, cX4_review, 2, none, 3, 4, 809, 807, 808, 14)
def a_m44 : aMt := (yX4_cutLeases, cX4_cutLeases, 2, none, 1, 4, 2120, 2118, 2119, 14)
def a_m45 : aMt := (yX4_asksNow, cX4_asksNow, 2, some .boolean, 0, 4, 2112, 2110, 2111, 14)
def a_m46 : aMt := (yX4_nextAsking, cX4_nextAsking, 2, some .int, 0, 4, 3010, 3008, 3009, 14)
def a_m47 : aMt := (yX4_hopOrStrike, cX4_hopOrStrike, 4, some .int, 3, 4, 2116, 2114, 2115, 14)
def a_m48 : aMt := (yX4_refusal, cX4_refusal, 3, some .int, 3, 4, 1707, 1705, 1706, 14)
def a_m49 : aMt := (yX4_isAllowedOnAny, cX4_isAllowedOnAny, 4, some .boolean, 2, 4, 1711, 1709, 1710, 14)
def a_m50 : aMt := (yX4_findOffer, cX4_findOffer, 7, some .int, 2, 4, 1715, 1713, 1714, 14)
def a_m51 : aMt := (yX4_isFree, cX4_isFree, 5, some .boolean, 1, 4, 1719, 1717, 1718, 14)
def a_m52 : aMt := (yX4_leaseIsAllowed, cX4_leaseIsAllowed, 2, some .boolean, 2, 4, 819, 817, 818, 14)
def a_m53 : aMt := (yX4_isAllowed, cX4_isAllowed, 7, some .boolean, 1, 4, 903, 901, 902, 14)
def a_m54 : aMt := (yX4_barredRadius, cX4_barredRadius, 5, some .int, 0, 4, 907, 905, 906, 14)
def a_m55 : aMt := (yX4_tellTotal, cX4_tellTotal, 2, some .int, 2, 4, 3311, 3309, 3310, 14)
def a_m56 : aMt := (yX5_has, cX5_has, 2, some .boolean, 0, 5, 1413, 1411, 1412, 110)
def a_m57 : aMt := (yX5_tell, cX5_tell, 3, some .int, 0, 5, 2902, 2900, 2901, 110)
def a_m58 : aMt := (yX5_countAwake, cX5_countAwake, 3, some .int, 0, 5, 3315, 3313, 3314, 110)
def a_m59 : aMt := (yX5_copyFrom, cX5_copyFrom, 2, none, 2, 5, 422, 420, 421, 110)
def a_m60 : aMt := (yX6_addStation, cX6_addStation, 5, some .int, 5, 6, 406, 404, 405, 2)
def a_m61 : aMt := (yX6_addEvent, cX6_addEvent, 7, some .int, 5, 6, 717, 715, 716, 2)
def a_m62 : aMt := (yX6_addDevice, cX6_addDevice, 4, some .int, 5, 6, 1214, 1212, 1213, 2)
def a_m63 : aMt := (yX6_set, cX6_set, 3, some .int, 5, 6, 1317, 1315, 1316, 2)
def a_m64 : aMt := (yX6_wake, cX6_wake, 2, some .int, 5, 6, 1405, 1403, 1404, 2)
def a_m65 : aMt := (yX6_sleep, cX6_sleep, 2, some .int, 5, 6, 1514, 1512, 1513, 2)
def a_m66 : aMt := (yX6_cancel, cX6_cancel, 2, some .int, 5, 6, 1522, 1520, 1521, 2)
def a_m67 : aMt := (yX6_lease, cX6_lease, 4, some .int, 5, 6, 1618, 1616, 1617, 2)
def a_m68 : aMt := (yX6_renew, cX6_renew, 3, some .int, 5, 6, 1911, 1909, 1910, 2)
def a_m69 : aMt := (yX6_giveBack, cX6_giveBack, 2, some .int, 5, 6, 1923, 1921, 1922, 2)
def a_m70 : aMt := (yX6_pass, cX6_pass, 2, some .int, 6, 6, 2020, 2018, 2019, 2)
def a_m71 : aMt := (yX6_append, cX6_append, 2, some .int, 2, 6, 2212, 2210, 2211, 2)
def a_m72 : aMt := (yX6_clearText, cX6_clearText, 1, some .int, 1, 6, 2302, 2300, 2301, 2)
def a_m73 : aMt := (yX6_faultPosition, cX6_faultPosition, 1, some .int, 4, 6, 2314, 2312, 2313, 2)
def a_m74 : aMt := (yX6_run, cX6_run, 4, some .int, 6, 6, 2603, 2601, 2602, 2)
def a_m75 : aMt := (yX6_undo, cX6_undo, 1, some .int, 5, 6, 2704, 2702, 2703, 2)
def a_m76 : aMt := (yX6_save, cX6_save, 2, some .int, 4, 6, 2717, 2715, 2716, 2)
def a_m77 : aMt := (yX6_restore, cX6_restore, 2, some .int, 5, 6, 2803, 2801, 2802, 2)
def a_m78 : aMt := (yX6_station, cX6_station, 3, some .int, 5, 6, 2811, 2809, 2810, 2)
def a_m79 : aMt := (yX6_event, cX6_event, 3, some .int, 2, 6, 2914, 2912, 2913, 2)
def a_m80 : aMt := (yX6_device, cX6_device, 3, some .int, 2, 6, 3005, 3003, 3004, 2)
def a_m81 : aMt := (yX6_power, cX6_power, 5, some .int, 2, 6, 3102, 3100, 3101, 2)
def a_m82 : aMt := (yX6_offer, cX6_offer, 3, some .int, 3, 6, 3112, 3110, 3111, 2)
def a_m83 : aMt := (yX6_next, cX6_next, 2, some .int, 4, 6, 3121, 3119, 3120, 2)
def a_m84 : aMt := (yX6_leases, cX6_leases, 2, some .int, 1, 6, 3221, 3219, 3220, 2)
def a_m85 : aMt := (yX6_total, cX6_total, 2, some .int, 3, 6, 3306, 3304, 3305, 2)
def a_m86 : aMt := (yX6_vacant, cX6_vacant, 6, some .int, 2, 6, 3411, 3409, 3410, 2)
def a_m87 : aMt := (yX6_allowedFrom, cX6_allowedFrom, 8, some .int, 4, 6, 3419, 3417, 3418, 2)
def a_m88 : aMt := (yX6_wouldStrike, cX6_wouldStrike, 4, some .int, 5, 6, 3505, 3503, 3504, 2)
def a_m89 : aMt := (yX6_channelIn, cX6_channelIn, 4, some .int, 5, 6, 3514, 3512, 3513, 2)
def a_m90 : aMt := (yX6_clearIn, cX6_clearIn, 2, some .int, 5, 6, 3608, 3606, 3607, 2)
def a_m91 : aMt := (yX6_recorded, cX6_recorded, 2, some .int, 1, 6, 614, 612, 613, 2)
def a_m92 : aMt := (yX6_barredAlone, cX6_barredAlone, 4, some .int, 4, 6, 2817, 2815, 2816, 2)
def a_m93 : aMt := (yX6_isOutside, cX6_isOutside, 3, some .boolean, 0, 6, 610, 609, 0, 2)
def a_m94 : aMt := (yX6_isNoPlace, cX6_isNoPlace, 2, some .boolean, 1, 6, 607, 606, 0, 2)
def a_m95 : aMt := (yX6_isWithin, cX6_isWithin, 3, some .boolean, 0, 6, 909, 908, 0, 2)
def a_m96 : aMt := (yX6_copyRow, cX6_copyRow, 2, none, 1, 6, 501, 500, 0, 2)
def a_m97 : aMt := (yX7_in, cX7_in, 3, some .boolean, 0, 7, 704, 703, 0, 5)
def a_m98 : aMt := (yX7_records, cX7_records, 2, none, 0, 7, 711, 709, 710, 5)
def a_m99 : aMt := (yX7_holds, cX7_holds, 2, none, 0, 7, 3600, 3522, 3523, 5)
def a_m100 : aMt := (yX7_lets, cX7_lets, 2, none, 0, 7, 3604, 3602, 3603, 5)
def a_m101 : aMt := (yX7_isStation, cX7_isStation, 2, some .boolean, 0, 7, 1506, 1504, 1505, 5)
def a_m102 : aMt := (yX7_isEvent, cX7_isEvent, 2, some .boolean, 0, 7, 1614, 1612, 1613, 5)
def a_m103 : aMt := (yX7_isDevice, cX7_isDevice, 2, some .boolean, 0, 7, 1811, 1809, 1810, 5)
def a_m104 : aMt := (yX7_ofStation, cX7_ofStation, 3, some .int, 0, 7, 1109, 1107, 1108, 5)
def a_m105 : aMt := (yX7_ofEvent, cX7_ofEvent, 3, some .int, 0, 7, 1202, 1200, 1201, 5)
def a_m106 : aMt := (yX7_ofDevice, cX7_ofDevice, 3, some .int, 0, 7, 1009, 1007, 1008, 5)
def a_m107 : aMt := (yX7_puts, cX7_puts, 4, none, 0, 7, 1210, 1208, 1209, 5)
def a_m108 : aMt := (yX7_isPlace, cX7_isPlace, 2, some .boolean, 1, 7, 701, 700, 0, 5)
def a_m109 : aMt := (yX7_isChannel, cX7_isChannel, 1, some .boolean, 1, 7, 707, 706, 0, 5)
def a_m110 : aMt := (yX7_isPower, cX7_isPower, 1, some .boolean, 1, 7, 1309, 1308, 0, 5)
def a_m111 : aMt := (yX7_radiusOf, cX7_radiusOf, 1, some .int, 0, 7, 1112, 1111, 0, 5)
def a_m112 : aMt := (yX7_reach, cX7_reach, 1, some .int, 0, 7, 1115, 1114, 0, 5)
def a_m113 : aMt := (yX7_isNear, cX7_isNear, 5, some .boolean, 0, 7, 1118, 1117, 0, 5)
def a_m114 : aMt := (yX7_isBarredBy, cX7_isBarredBy, 9, some .boolean, 1, 7, 1105, 1103, 1104, 5)
def a_m115 : aMt := (yX7_isOn, cX7_isOn, 3, some .boolean, 1, 7, 1206, 1204, 1205, 5)
def a_m116 : aMt := (yX7_isBarred, cX7_isBarred, 7, some .boolean, 2, 7, 1101, 1023, 1100, 5)
def a_m117 : aMt := (yX7_isReserved, cX7_isReserved, 9, some .boolean, 2, 7, 1122, 1120, 1121, 5)
def a_m118 : aMt := (yX7_isAllowed, cX7_isAllowed, 5, some .boolean, 3, 7, 1021, 1019, 1020, 5)
def a_m119 : aMt := (yX7_isAllowedFor, cX7_isAllowedFor, 4, some .boolean, 4, 7, 1017, 1015, 1016, 5)
def a_m120 : aMt := (yX7_hasLease, cX7_hasLease, 2, some .boolean, 1, 7, 1005, 1003, 1004, 5)
def a_m121 : aMt := (yX7_isFree, cX7_isFree, 7, some .boolean, 1, 7, 1903, 1901, 1902, 5)
def a_m122 : aMt := (yX7_others, cX7_others, 5, some .int, 1, 7, 1907, 1905, 1906, 5)
def a_m123 : aMt := (yX7_offerFor, cX7_offerFor, 8, some .int, 5, 7, 1823, 1821, 1822, 5)
def a_m124 : aMt := (yX7_isLeaseAllowed, cX7_isLeaseAllowed, 2, some .boolean, 5, 7, 1013, 1011, 1012, 5)
def a_m125 : aMt := (yX7_reviews, cX7_reviews, 3, none, 6, 7, 1001, 923, 1000, 5)
def a_m126 : aMt := (yX7_ends, cX7_ends, 2, none, 1, 7, 1313, 1311, 1312, 5)
def a_m127 : aMt := (yX7_notices, cX7_notices, 3, some .int, 1, 7, 1510, 1508, 1509, 5)
def a_m128 : aMt := (yX7_leasesNow, cX7_leasesNow, 3, some .int, 2, 7, 2016, 2014, 2015, 5)
def a_m129 : aMt := (yX7_asks, cX7_asks, 4, some .int, 6, 7, 2208, 2206, 2207, 5)
def a_m130 : aMt := (yX7_passesOne, cX7_passesOne, 3, some .int, 7, 7, 2204, 2202, 2203, 5)
def a_m131 : aMt := (yX7_addStation, cX7_addStation, 6, some .int, 2, 7, 622, 620, 621, 5)
def a_m132 : aMt := (yX7_addEvent, cX7_addEvent, 8, some .int, 7, 7, 921, 919, 920, 5)
def a_m133 : aMt := (yX7_addDevice, cX7_addDevice, 5, some .int, 2, 7, 1306, 1304, 1305, 5)
def a_m134 : aMt := (yX7_set, cX7_set, 4, some .int, 7, 7, 1401, 1323, 1400, 5)
def a_m135 : aMt := (yX7_turns, cX7_turns, 3, some .int, 7, 7, 1502, 1500, 1501, 5)
def a_m136 : aMt := (yX7_wake, cX7_wake, 2, some .int, 8, 7, 1422, 1420, 1421, 5)
def a_m137 : aMt := (yX7_sleep, cX7_sleep, 2, some .int, 8, 7, 1518, 1516, 1517, 5)
def a_m138 : aMt := (yX7_cancel, cX7_cancel, 2, some .int, 7, 7, 1610, 1608, 1609, 5)
def a_m139 : aMt := (yX7_refuses, cX7_refuses, 2, some .int, 0, 7, 1815, 1813, 1814, 5)
def a_m140 : aMt := (yX7_isAnyAllowed, cX7_isAnyAllowed, 5, some .boolean, 5, 7, 1819, 1817, 1818, 5)
def a_m141 : aMt := (yX7_lease, cX7_lease, 5, some .int, 6, 7, 1807, 1805, 1806, 5)
def a_m142 : aMt := (yX7_renew, cX7_renew, 3, some .int, 2, 7, 1919, 1917, 1918, 5)
def a_m143 : aMt := (yX7_giveBack, cX7_giveBack, 2, some .int, 3, 7, 2012, 2010, 2011, 5)
def a_m144 : aMt := (yX7_pass, cX7_pass, 4, some .int, 8, 7, 2200, 2122, 2123, 5)
def a_m145 : aMt := (yX7_append, cX7_append, 2, some .int, 1, 7, 2221, 2219, 2220, 5)
def a_m146 : aMt := (yX7_clearText, cX7_clearText, 2, some .int, 0, 7, 2310, 2308, 2309, 5)
def a_m147 : aMt := (yX7_isAt, cX7_isAt, 3, some .boolean, 1, 7, 2519, 2517, 2518, 5)
def a_m148 : aMt := (yX7_takes, cX7_takes, 3, some .boolean, 2, 7, 2523, 2521, 2522, 5)
def a_m149 : aMt := (yX7_number, cX7_number, 5, some .int, 2, 7, 2515, 2513, 2514, 5)
def a_m150 : aMt := (yX7_reads, cX7_reads, 2, some .boolean, 3, 7, 2508, 2506, 2507, 5)
def a_m151 : aMt := (yX7_faultPosition, cX7_faultPosition, 2, some .int, 4, 7, 2503, 2501, 2502, 5)
def a_m152 : aMt := (yX7_does, cX7_does, 2, some .int, 9, 7, 2619, 2617, 2618, 5)
def a_m153 : aMt := (yX7_run, cX7_run, 4, some .int, 10, 7, 2614, 2612, 2613, 5)
def a_m154 : aMt := (yX7_undo, cX7_undo, 2, some .int, 0, 7, 2713, 2711, 2712, 5)
def a_m155 : aMt := (yX7_save, cX7_save, 3, some .int, 1, 7, 2723, 2721, 2722, 5)
def a_m156 : aMt := (yX7_restore, cX7_restore, 3, some .int, 1, 7, 2807, 2805, 2806, 5)
def a_m157 : aMt := (yX7_onAccount, cX7_onAccount, 4, some .int, 6, 7, 2910, 2908, 2909, 5)
def a_m158 : aMt := (yX7_station, cX7_station, 3, some .int, 7, 7, 2906, 2904, 2905, 5)
def a_m159 : aMt := (yX7_event, cX7_event, 3, some .int, 2, 7, 3001, 2923, 3000, 5)
def a_m160 : aMt := (yX7_nextAsk, cX7_nextAsk, 3, some .int, 0, 7, 3022, 3020, 3021, 5)
def a_m161 : aMt := (yX7_device, cX7_device, 3, some .int, 1, 7, 3018, 3016, 3017, 5)
def a_m162 : aMt := (yX7_power, cX7_power, 6, some .int, 4, 7, 3108, 3106, 3107, 5)
def a_m163 : aMt := (yX7_offer, cX7_offer, 3, some .int, 6, 7, 3117, 3115, 3116, 5)
def a_m164 : aMt := (yX7_isAhead, cX7_isAhead, 4, some .boolean, 1, 7, 3217, 3215, 3216, 5)
def a_m165 : aMt := (yX7_next, cX7_next, 6, some .int, 2, 7, 3213, 3211, 3212, 5)
def a_m166 : aMt := (yX7_leases, cX7_leases, 2, some .int, 2, 7, 3302, 3300, 3301, 5)
def a_m167 : aMt := (yX7_sumOf, cX7_sumOf, 4, some .int, 1, 7, 3407, 3405, 3406, 5)
def a_m168 : aMt := (yX7_awake, cX7_awake, 3, some .int, 1, 7, 3403, 3401, 3402, 5)
def a_m169 : aMt := (yX7_total, cX7_total, 2, some .int, 3, 7, 3323, 3321, 3322, 5)
def a_m170 : aMt := (yX7_vacant, cX7_vacant, 5, some .int, 4, 7, 3415, 3413, 3414, 5)
def a_m171 : aMt := (yX7_allowedFrom, cX7_allowedFrom, 7, some .int, 3, 7, 3501, 3423, 3500, 5)
def a_m172 : aMt := (yX7_wouldStrike, cX7_wouldStrike, 4, some .int, 6, 7, 3510, 3508, 3509, 5)
def a_m173 : aMt := (yX7_channelIn, cX7_channelIn, 5, some .int, 8, 7, 3520, 3518, 3519, 5)
def a_m174 : aMt := (yX7_clearIn, cX7_clearIn, 3, some .int, 8, 7, 3613, 3611, 3612, 5)
def a_m175 : aMt := (x, cL_law, 4, some .boolean, 11, 9, 0, 0, 0, 0)
def a_mt_0 : List aMt := [a_m0, a_m1, a_m2, a_m3, a_m4, a_m5, a_m6, a_m7, a_m8, a_m9, a_m10, a_m11, a_m12, a_m13, a_m14, a_m15]
def a_mt_1 : List aMt := [a_m16, a_m17, a_m18, a_m19, a_m20, a_m21, a_m22, a_m23, a_m24, a_m25, a_m26, a_m27, a_m28, a_m29, a_m30, a_m31]
def a_mt_2 : List aMt := [a_m32, a_m33, a_m34, a_m35, a_m36, a_m37, a_m38, a_m39, a_m40, a_m41, a_m42, a_m43, a_m44, a_m45, a_m46, a_m47]
def a_mt_3 : List aMt := [a_m48, a_m49, a_m50, a_m51, a_m52, a_m53, a_m54, a_m55, a_m56, a_m57, a_m58, a_m59, a_m60, a_m61, a_m62, a_m63]
def a_mt_4 : List aMt := [a_m64, a_m65, a_m66, a_m67, a_m68, a_m69, a_m70, a_m71, a_m72, a_m73, a_m74, a_m75, a_m76, a_m77, a_m78, a_m79]
def a_mt_5 : List aMt := [a_m80, a_m81, a_m82, a_m83, a_m84, a_m85, a_m86, a_m87, a_m88, a_m89, a_m90, a_m91, a_m92, a_m93, a_m94, a_m95]
def a_mt_6 : List aMt := [a_m96, a_m97, a_m98, a_m99, a_m100, a_m101, a_m102, a_m103, a_m104, a_m105, a_m106, a_m107, a_m108, a_m109, a_m110, a_m111]
def a_mt_7 : List aMt := [a_m112, a_m113, a_m114, a_m115, a_m116, a_m117, a_m118, a_m119, a_m120, a_m121, a_m122, a_m123, a_m124, a_m125, a_m126, a_m127]
def a_mt_8 : List aMt := [a_m128, a_m129, a_m130, a_m131, a_m132, a_m133, a_m134, a_m135, a_m136, a_m137, a_m138, a_m139, a_m140, a_m141, a_m142, a_m143]
def a_mt_9 : List aMt := [a_m144, a_m145, a_m146, a_m147, a_m148, a_m149, a_m150, a_m151, a_m152, a_m153, a_m154, a_m155, a_m156, a_m157, a_m158, a_m159]
def a_mt_10 : List aMt := [a_m160, a_m161, a_m162, a_m163, a_m164, a_m165, a_m166, a_m167, a_m168, a_m169, a_m170, a_m171, a_m172, a_m173, a_m174]
def a_mtl : List aMt := a_mt_0 ++ (a_mt_1 ++ (a_mt_2 ++ (a_mt_3 ++ (a_mt_4 ++ (a_mt_5 ++ (a_mt_6 ++ (a_mt_7 ++ (a_mt_8 ++ (a_mt_9 ++ (a_mt_10))))))))))
def a_mt : List aMt := a_mtl ++ [a_m175]
def a_wchs : List (List Cond) := [wsL_law_r1, wsL_law_r2, wsL_law_r3, wsL_law_r4, wsL_law_r5, wsL_law_r6, wsL_law_r7, wsL_law_r8, wsL_law_r9, wsL_law_r10, wsL_law_r11, wsL_law_r12, wsL_law_r13, wsL_law_r14, wsL_law_r15, wsL_law_r16, wsL_law_r17, wsL_law_r18, wsL_law_r19, wsL_law_r20, wsL_law_r21, wsL_law_r22, wsL_law_r23, wsL_law_r24, wsL_law_r25, wsL_law_r26, wsL_law_r27, wsL_law_r28, wsL_law_r29, wsL_law_r30, wsL_law_r31, wsL_law_r32, wsL_law_r33, wsL_law_r34, wsL_law_r35, wsL_law_r36, wsL_law_r37]
def a_w (w : Nat) (c : Cond) : Bool := decide ((a_wchs.getD (w / 100) [])[w % 100]? = some c)
def a_nw (w : Nat) (c : Cond) : Bool := decide (a_nst[w - 5000]? = some c)
/-- how long an instruction is; a switch says it in its row -/
def a_len (ins : Instr) (b : Nat) : Nat := match ins with
  | .tableswitch _ _ _ _ => b
  | .lookupswitch _ _ => b
  | .aload _ | .iload _ | .istore _ | .bipush _ | .newarray _ => 2
  | .iinc _ _ | .sipush _ | .goto _ | .ifCond _ _ | .if_icmp _ _ | .getfield _ | .putfield _ | .getstatic _ | .invokevirtual _ | .invokestatic _ | .invokespecial _ | .new _ | .anewarray _ => 3
  | _ => 1
def a_np (y : MethodName) : Option Nat := (parseMethodDescriptor y.desc).map (fun d => d.parameters.length)
/-- what is looked at once, by the kernel, of each row of code -/
def a_chk (M : aMt) (pc : Nat) (r : aR) : Bool := match r with
  | (ins, a, b, w) => decide (decode M.2.1 pc = .ok (ins, a_len ins b)) && (match ins with
    | .goto o => decide ((pc : Int) + o = (a : Int))
    | .ifCond _ o => decide ((pc : Int) + o = (a : Int))
    | .if_icmp _ o => decide ((pc : Int) + o = (a : Int))
    | .lookupswitch _ ps => (ps.toList.zip (ps.toList.drop 1)).all (fun (a, next) => a.1 < next.1)
    | .getfield i => (match vwCl[a]? with
      | some (_, T, N) => decide (b < N) && a_w w (.fieldLink M.1.cls i (T b).1 (T b).2.1 (T b).2.2.1)
      | none => false)
    | .putfield i => (match vwCl[a]? with
      | some (_, T, N) => decide (b < N) && a_w w (.fieldLink M.1.cls i (T b).1 (T b).2.1 (T b).2.2.1) && !(T b).2.2.2 && decide (parseFieldDescriptor (T b).2.2.1 = some (if a_bf a b = true then .boolean else .int))
      | none => false)
    | .getstatic i => decide (41 ≤ a ∧ a < 46) && (a_w w (.fieldLink M.1.cls i "VacantAir" (a_sn a) "[I") || a_nw w (.fieldLinkNest M.1.cls i "VacantAir" (a_sn a) "[I" "VacantAir"))
    | .invokevirtual i => (match a_mt[a]? with
      | some (y, _, maxL, _, dep, ci, _, w1, w2, _) => a_w w (.methodLink M.1.cls i y) && a_w w1 (.instanceMethod y) && a_w w2 (.selects y.cls y y) && decide (dep + 1 ≤ M.2.2.2.2.1) && decide (a_np y = some (b - 1) ∧ 1 ≤ b ∧ b ≤ maxL) && decide ((vwCl[ci]?).map (fun q => q.1) = some y.cls) && decide (a < 175)
      | none => false)
    | .invokestatic i => decide (1 ≤ M.2.2.2.2.1) && (if a = 1000 then a_w w (.methodLink M.1.cls i Lib.Math.min.name) else if a = 1001 then a_w w (.methodLink M.1.cls i arraycopyName) else (match a_mt[a]? with
      | some (y, _, maxL, _, dep, _, _, w1, _, _) => (a_w w (.methodLink M.1.cls i y) || a_nw w (.methodLinkNest M.1.cls i y "VacantAir")) && a_w w1 (.static y) && decide (dep + 1 ≤ M.2.2.2.2.1) && decide (a_np y = some b ∧ b ≤ maxL) && decide (a < 175)
      | none => false))
    | _ => true)
/-- and of each method that is called -/
def a_mok (M : aMt) : Bool := match M with
  | (y, _, maxL, _, _, _, _, _, _, w3) => a_w w3 (.initialized y.cls) && decide (y.cls ≠ "java/lang/invoke/MethodHandle" ∧ y.cls ≠ "java/lang/invoke/VarHandle") && decide (plainName y.cls = true) && decide (maxL ≤ 9)
/-- X0 add -/
def a_c0 : List (Nat × aR) := [(0, .iload_n 1, 0, 0, 0), (1, .bipush 32, 0, 0, 0), (3, .bipush 126, 0, 0, 0), (5, .invokestatic 19, 93, 3, 5007), (8, .ifCond .eq 6, 14, 0, 0), (11, .bipush (-2), 0, 0, 0), (13, .ireturn, 0, 0, 0), (14, .aload_n 0, 0, 0, 0), (15, .getfield 23, 0, 1, 2217), (18, .bipush 80, 0, 0, 0), (20, .if_icmp .lt 6, 26, 0, 0), (23, .bipush (-4), 0, 0, 0), (25, .ireturn, 0, 0, 0), (26, .aload_n 0, 0, 0, 0), (27, .getfield 9, 0, 0, 315), (30, .aload_n 0, 0, 0, 0), (31, .getfield 23, 0, 1, 2217), (34, .iload_n 1, 0, 0, 0), (35, .iastore, 0, 0, 0), (36, .aload_n 0, 0, 0, 0), (37, .dup, 0, 0, 0), (38, .getfield 23, 0, 1, 2217), (41, .iconst 1, 0, 0, 0), (42, .iadd, 0, 0, 0), (43, .putfield 23, 0, 1, 2217), (46, .aload_n 0, 0, 0, 0), (47, .getfield 23, 0, 1, 2217), (50, .ireturn, 0, 0, 0)]
/-- X0 empty -/
def a_c1 : List (Nat × aR) := [(0, .aload_n 0, 0, 0, 0), (1, .getfield 23, 0, 1, 2217), (4, .istore_n 1, 0, 0, 0), (5, .aload_n 0, 0, 0, 0), (6, .iconst 0, 0, 0, 0), (7, .putfield 23, 0, 1, 2217), (10, .iload_n 1, 0, 0, 0), (11, .ireturn, 0, 0, 0)]
/-- X0 findFault -/
def a_c2 : List (Nat × aR) := [(0, .aload_n 0, 0, 0, 0), (1, .invokevirtual 26, 3, 1, 2319), (4, .iconst 0, 0, 0, 0), (5, .istore_n 1, 0, 0, 0), (6, .iload_n 1, 0, 0, 0), (7, .bipush 80, 0, 0, 0), (9, .if_icmp .ge 20, 29, 0, 0), (12, .aload_n 0, 0, 0, 0), (13, .invokevirtual 29, 4, 1, 2400), (16, .ifCond .eq 13, 29, 0, 0), (19, .aload_n 0, 0, 0, 0), (20, .invokevirtual 33, 5, 1, 2404), (23, .iinc 1 1, 0, 0, 0), (26, .goto (-20), 6, 0, 0), (29, .aload_n 0, 0, 0, 0), (30, .getfield 15, 0, 3, 316), (33, .ireturn, 0, 0, 0)]
/-- X0 startReading -/
def a_c3 : List (Nat × aR) := [(0, .aload_n 0, 0, 0, 0), (1, .iconst 0, 0, 0, 0), (2, .putfield 36, 0, 2, 2323), (5, .aload_n 0, 0, 0, 0), (6, .bipush (-6), 0, 0, 0), (8, .putfield 15, 0, 3, 316), (11, .return_, 0, 0, 0)]
/-- X0 hasMore -/
def a_c4 : List (Nat × aR) := [(0, .aload_n 0, 0, 0, 0), (1, .getfield 15, 0, 3, 316), (4, .bipush (-6), 0, 0, 0), (6, .if_icmp .ne 18, 24, 0, 0), (9, .aload_n 0, 0, 0, 0), (10, .getfield 36, 0, 2, 2323), (13, .aload_n 0, 0, 0, 0), (14, .getfield 23, 0, 1, 2217), (17, .if_icmp .ge 7, 24, 0, 0), (20, .iconst 1, 0, 0, 0), (21, .goto 4, 25, 0, 0), (24, .iconst 0, 0, 0, 0), (25, .ireturn, 0, 0, 0)]
/-- X0 readAct -/
def a_c5_0 : List (Nat × aR) := [(0, .aload_n 0, 0, 0, 0), (1, .invokevirtual 29, 4, 1, 2400), (4, .ifCond .ne 4, 8, 0, 0), (7, .return_, 0, 0, 0), (8, .aload_n 0, 0, 0, 0), (9, .aload_n 0, 0, 0, 0), (10, .getfield 9, 0, 0, 315), (13, .aload_n 0, 0, 0, 0), (14, .getfield 36, 0, 2, 2323), (17, .iaload, 0, 0, 0), (18, .putfield 39, 0, 4, 2408), (21, .aload_n 0, 0, 0, 0), (22, .dup, 0, 0, 0), (23, .getfield 36, 0, 2, 2323), (26, .iconst 1, 0, 0, 0), (27, .iadd, 0, 0, 0), (28, .putfield 36, 0, 2, 2323), (31, .aload_n 0, 0, 0, 0), (32, .getfield 39, 0, 4, 2408), (35, .lookupswitch 138 #[(103, 96), (108, 49), (116, 124), (119, 110), (122, 110)], 0, 49, 0), (84, .aload_n 0, 0, 0, 0), (85, .aload_n 0, 0, 0, 0), (86, .iconst 0, 0, 0, 0), (87, .bipush 15, 0, 0, 0), (89, .invokevirtual 42, 7, 3, 2412), (92, .putfield 46, 0, 5, 2409), (95, .aload_n 0, 0, 0, 0), (96, .bipush 112, 0, 0, 0), (98, .invokevirtual 49, 6, 2, 2420), (101, .aload_n 0, 0, 0, 0), (102, .aload_n 0, 0, 0, 0), (103, .iconst 0, 0, 0, 0), (104, .iconst 3, 0, 0, 0), (105, .invokevirtual 42, 7, 3, 2412), (108, .putfield 53, 0, 6, 2410), (111, .aload_n 0, 0, 0, 0), (112, .bipush 104, 0, 0, 0), (114, .invokevirtual 49, 6, 2, 2420), (117, .aload_n 0, 0, 0, 0), (118, .aload_n 0, 0, 0, 0)]
def a_c5_1 : List (Nat × aR) := [(119, .iconst 1, 0, 0, 0), (120, .bipush 99, 0, 0, 0), (122, .invokevirtual 42, 7, 3, 2412), (125, .putfield 56, 0, 7, 2411), (128, .goto 55, 183, 0, 0), (131, .aload_n 0, 0, 0, 0), (132, .aload_n 0, 0, 0, 0), (133, .iconst 0, 0, 0, 0), (134, .bipush 15, 0, 0, 0), (136, .invokevirtual 42, 7, 3, 2412), (139, .putfield 46, 0, 5, 2409), (142, .goto 41, 183, 0, 0), (145, .aload_n 0, 0, 0, 0), (146, .aload_n 0, 0, 0, 0), (147, .iconst 0, 0, 0, 0), (148, .bipush 7, 0, 0, 0), (150, .invokevirtual 42, 7, 3, 2412), (153, .putfield 46, 0, 5, 2409), (156, .goto 27, 183, 0, 0), (159, .aload_n 0, 0, 0, 0), (160, .aload_n 0, 0, 0, 0), (161, .iconst 1, 0, 0, 0), (162, .bipush 99, 0, 0, 0), (164, .invokevirtual 42, 7, 3, 2412), (167, .putfield 46, 0, 5, 2409), (170, .goto 13, 183, 0, 0), (173, .aload_n 0, 0, 0, 0), (174, .aload_n 0, 0, 0, 0), (175, .getfield 36, 0, 2, 2323), (178, .iconst 1, 0, 0, 0), (179, .isub, 0, 0, 0), (180, .putfield 15, 0, 3, 316), (183, .aload_n 0, 0, 0, 0), (184, .bipush 59, 0, 0, 0), (186, .invokevirtual 49, 6, 2, 2420), (189, .return_, 0, 0, 0)]
def a_c5 : List (Nat × aR) := a_c5_0 ++ (a_c5_1)
/-- X0 readByte -/
def a_c6 : List (Nat × aR) := [(0, .aload_n 0, 0, 0, 0), (1, .getfield 15, 0, 3, 316), (4, .bipush (-6), 0, 0, 0), (6, .if_icmp .eq 4, 10, 0, 0), (9, .return_, 0, 0, 0), (10, .aload_n 0, 0, 0, 0), (11, .getfield 36, 0, 2, 2323), (14, .aload_n 0, 0, 0, 0), (15, .getfield 23, 0, 1, 2217), (18, .if_icmp .ge 29, 47, 0, 0), (21, .aload_n 0, 0, 0, 0), (22, .getfield 9, 0, 0, 315), (25, .aload_n 0, 0, 0, 0), (26, .getfield 36, 0, 2, 2323), (29, .iaload, 0, 0, 0), (30, .iload_n 1, 0, 0, 0), (31, .if_icmp .ne 16, 47, 0, 0), (34, .aload_n 0, 0, 0, 0), (35, .dup, 0, 0, 0), (36, .getfield 36, 0, 2, 2323), (39, .iconst 1, 0, 0, 0), (40, .iadd, 0, 0, 0), (41, .putfield 36, 0, 2, 2323), (44, .goto 11, 55, 0, 0), (47, .aload_n 0, 0, 0, 0), (48, .aload_n 0, 0, 0, 0), (49, .getfield 36, 0, 2, 2323), (52, .putfield 15, 0, 3, 316), (55, .return_, 0, 0, 0)]
/-- X0 readNumber -/
def a_c7_0 : List (Nat × aR) := [(0, .aload_n 0, 0, 0, 0), (1, .getfield 15, 0, 3, 316), (4, .bipush (-6), 0, 0, 0), (6, .if_icmp .eq 5, 11, 0, 0), (9, .iconst 0, 0, 0, 0), (10, .ireturn, 0, 0, 0), (11, .aload_n 0, 0, 0, 0), (12, .getfield 36, 0, 2, 2323), (15, .istore_n 3, 0, 0, 0), (16, .aload_n 0, 0, 0, 0), (17, .iload_n 3, 0, 0, 0), (18, .invokevirtual 59, 8, 2, 2416), (21, .ifCond .ne 10, 31, 0, 0), (24, .aload_n 0, 0, 0, 0), (25, .iload_n 3, 0, 0, 0), (26, .putfield 15, 0, 3, 316), (29, .iconst 0, 0, 0, 0), (30, .ireturn, 0, 0, 0), (31, .aload_n 0, 0, 0, 0), (32, .getfield 9, 0, 0, 315), (35, .iload_n 3, 0, 0, 0), (36, .iaload, 0, 0, 0), (37, .bipush 48, 0, 0, 0), (39, .isub, 0, 0, 0), (40, .istore 4, 0, 0, 0), (42, .aload_n 0, 0, 0, 0), (43, .dup, 0, 0, 0), (44, .getfield 36, 0, 2, 2323), (47, .iconst 1, 0, 0, 0), (48, .iadd, 0, 0, 0), (49, .putfield 36, 0, 2, 2323), (52, .iload 4, 0, 0, 0), (54, .ifCond .eq 44, 98, 0, 0), (57, .aload_n 0, 0, 0, 0), (58, .aload_n 0, 0, 0, 0), (59, .getfield 36, 0, 2, 2323), (62, .invokevirtual 59, 8, 2, 2416), (65, .ifCond .eq 33, 98, 0, 0), (68, .iload 4, 0, 0, 0), (70, .bipush 10, 0, 0, 0)]
def a_c7_1 : List (Nat × aR) := [(72, .imul, 0, 0, 0), (73, .aload_n 0, 0, 0, 0), (74, .getfield 9, 0, 0, 315), (77, .aload_n 0, 0, 0, 0), (78, .getfield 36, 0, 2, 2323), (81, .iaload, 0, 0, 0), (82, .iadd, 0, 0, 0), (83, .bipush 48, 0, 0, 0), (85, .isub, 0, 0, 0), (86, .istore 4, 0, 0, 0), (88, .aload_n 0, 0, 0, 0), (89, .dup, 0, 0, 0), (90, .getfield 36, 0, 2, 2323), (93, .iconst 1, 0, 0, 0), (94, .iadd, 0, 0, 0), (95, .putfield 36, 0, 2, 2323), (98, .iload 4, 0, 0, 0), (100, .iload_n 1, 0, 0, 0), (101, .iload_n 2, 0, 0, 0), (102, .invokestatic 19, 93, 3, 5007), (105, .ifCond .eq 8, 113, 0, 0), (108, .aload_n 0, 0, 0, 0), (109, .iload_n 3, 0, 0, 0), (110, .putfield 15, 0, 3, 316), (113, .iload 4, 0, 0, 0), (115, .ireturn, 0, 0, 0)]
def a_c7 : List (Nat × aR) := a_c7_0 ++ (a_c7_1)
/-- X0 isDigitAt -/
def a_c8 : List (Nat × aR) := [(0, .iload_n 1, 0, 0, 0), (1, .aload_n 0, 0, 0, 0), (2, .getfield 23, 0, 1, 2217), (5, .if_icmp .ge 29, 34, 0, 0), (8, .aload_n 0, 0, 0, 0), (9, .getfield 9, 0, 0, 315), (12, .iload_n 1, 0, 0, 0), (13, .iaload, 0, 0, 0), (14, .bipush 48, 0, 0, 0), (16, .if_icmp .lt 18, 34, 0, 0), (19, .aload_n 0, 0, 0, 0), (20, .getfield 9, 0, 0, 315), (23, .iload_n 1, 0, 0, 0), (24, .iaload, 0, 0, 0), (25, .bipush 57, 0, 0, 0), (27, .if_icmp .gt 7, 34, 0, 0), (30, .iconst 1, 0, 0, 0), (31, .goto 4, 35, 0, 0), (34, .iconst 0, 0, 0, 0), (35, .ireturn, 0, 0, 0)]
/-- X1 has -/
def a_c9 : List (Nat × aR) := [(0, .iload_n 1, 0, 0, 0), (1, .ifCond .lt 15, 16, 0, 0), (4, .iload_n 1, 0, 0, 0), (5, .aload_n 0, 0, 0, 0), (6, .getfield 42, 1, 10, 519), (9, .if_icmp .ge 7, 16, 0, 0), (12, .iconst 1, 0, 0, 0), (13, .goto 4, 17, 0, 0), (16, .iconst 0, 0, 0, 0), (17, .ireturn, 0, 0, 0)]
/-- X1 hasLease -/
def a_c10 : List (Nat × aR) := [(0, .aload_n 0, 0, 0, 0), (1, .getfield 21, 1, 3, 222), (4, .iload_n 1, 0, 0, 0), (5, .iaload, 0, 0, 0), (6, .iconst (-1), 0, 0, 0), (7, .if_icmp .eq 7, 14, 0, 0), (10, .iconst 1, 0, 0, 0), (11, .goto 4, 15, 0, 0), (14, .iconst 0, 0, 0, 0), (15, .ireturn, 0, 0, 0)]
/-- X1 hasNotice -/
def a_c11 : List (Nat × aR) := [(0, .aload_n 0, 0, 0, 0), (1, .getfield 30, 1, 6, 301), (4, .iload_n 1, 0, 0, 0), (5, .iaload, 0, 0, 0), (6, .iconst (-1), 0, 0, 0), (7, .if_icmp .eq 7, 14, 0, 0), (10, .iconst 1, 0, 0, 0), (11, .goto 4, 15, 0, 0), (14, .iconst 0, 0, 0, 0), (15, .ireturn, 0, 0, 0)]
/-- X1 putOn -/
def a_c12 : List (Nat × aR) := [(0, .aload_n 0, 0, 0, 0), (1, .getfield 21, 1, 3, 222), (4, .iload_n 1, 0, 0, 0), (5, .iload_n 2, 0, 0, 0), (6, .iastore, 0, 0, 0), (7, .aload_n 0, 0, 0, 0), (8, .getfield 24, 1, 4, 223), (11, .iload_n 1, 0, 0, 0), (12, .iload_n 3, 0, 0, 0), (13, .iastore, 0, 0, 0), (14, .aload_n 0, 0, 0, 0), (15, .getfield 30, 1, 6, 301), (18, .iload_n 1, 0, 0, 0), (19, .iconst (-1), 0, 0, 0), (20, .iastore, 0, 0, 0), (21, .return_, 0, 0, 0)]
/-- X1 removeLease -/
def a_c13 : List (Nat × aR) := [(0, .aload_n 0, 0, 0, 0), (1, .getfield 21, 1, 3, 222), (4, .iload_n 1, 0, 0, 0), (5, .iconst (-1), 0, 0, 0), (6, .iastore, 0, 0, 0), (7, .aload_n 0, 0, 0, 0), (8, .getfield 30, 1, 6, 301), (11, .iload_n 1, 0, 0, 0), (12, .iconst (-1), 0, 0, 0), (13, .iastore, 0, 0, 0), (14, .return_, 0, 0, 0)]
/-- X1 tell -/
def a_c14_0 : List (Nat × aR) := [(0, .iload_n 2, 0, 0, 0), (1, .tableswitch 166 0 8 #[51, 58, 65, 72, 92, 112, 132, 152, 159], 0, 51, 0), (52, .aload_n 0, 0, 0, 0), (53, .getfield 9, 1, 0, 219), (56, .iload_n 1, 0, 0, 0), (57, .iaload, 0, 0, 0), (58, .ireturn, 0, 0, 0), (59, .aload_n 0, 0, 0, 0), (60, .getfield 15, 1, 1, 220), (63, .iload_n 1, 0, 0, 0), (64, .iaload, 0, 0, 0), (65, .ireturn, 0, 0, 0), (66, .aload_n 0, 0, 0, 0), (67, .getfield 18, 1, 2, 221), (70, .iload_n 1, 0, 0, 0), (71, .iaload, 0, 0, 0), (72, .ireturn, 0, 0, 0), (73, .aload_n 0, 0, 0, 0), (74, .iload_n 1, 0, 0, 0), (75, .invokevirtual 46, 10, 2, 2008), (78, .ifCond .eq 12, 90, 0, 0), (81, .aload_n 0, 0, 0, 0), (82, .getfield 21, 1, 3, 222), (85, .iload_n 1, 0, 0, 0), (86, .iaload, 0, 0, 0), (87, .goto 5, 92, 0, 0), (90, .bipush (-6), 0, 0, 0), (92, .ireturn, 0, 0, 0), (93, .aload_n 0, 0, 0, 0), (94, .iload_n 1, 0, 0, 0), (95, .invokevirtual 46, 10, 2, 2008), (98, .ifCond .eq 12, 110, 0, 0), (101, .aload_n 0, 0, 0, 0), (102, .getfield 24, 1, 4, 223), (105, .iload_n 1, 0, 0, 0), (106, .iaload, 0, 0, 0), (107, .goto 5, 112, 0, 0), (110, .bipush (-6), 0, 0, 0), (112, .ireturn, 0, 0, 0), (113, .aload_n 0, 0, 0, 0)]
def a_c14_1 : List (Nat × aR) := [(114, .iload_n 1, 0, 0, 0), (115, .invokevirtual 46, 10, 2, 2008), (118, .ifCond .eq 12, 130, 0, 0), (121, .aload_n 0, 0, 0, 0), (122, .getfield 27, 1, 5, 300), (125, .iload_n 1, 0, 0, 0), (126, .iaload, 0, 0, 0), (127, .goto 5, 132, 0, 0), (130, .bipush (-6), 0, 0, 0), (132, .ireturn, 0, 0, 0), (133, .aload_n 0, 0, 0, 0), (134, .iload_n 1, 0, 0, 0), (135, .invokevirtual 50, 11, 2, 1418), (138, .ifCond .eq 12, 150, 0, 0), (141, .aload_n 0, 0, 0, 0), (142, .getfield 30, 1, 6, 301), (145, .iload_n 1, 0, 0, 0), (146, .iaload, 0, 0, 0), (147, .goto 5, 152, 0, 0), (150, .bipush (-6), 0, 0, 0), (152, .ireturn, 0, 0, 0), (153, .aload_n 0, 0, 0, 0), (154, .getfield 33, 1, 7, 302), (157, .iload_n 1, 0, 0, 0), (158, .iaload, 0, 0, 0), (159, .ireturn, 0, 0, 0), (160, .aload_n 0, 0, 0, 0), (161, .getfield 36, 1, 8, 303), (164, .iload_n 1, 0, 0, 0), (165, .iaload, 0, 0, 0), (166, .ireturn, 0, 0, 0), (167, .aload_n 0, 0, 0, 0), (168, .getfield 39, 1, 9, 304), (171, .iload_n 1, 0, 0, 0), (172, .iaload, 0, 0, 0), (173, .ireturn, 0, 0, 0)]
def a_c14 : List (Nat × aR) := a_c14_0 ++ (a_c14_1)
/-- X1 countLeases -/
def a_c15 : List (Nat × aR) := [(0, .iconst 0, 0, 0, 0), (1, .istore_n 1, 0, 0, 0), (2, .iconst 0, 0, 0, 0), (3, .istore_n 2, 0, 0, 0), (4, .iload_n 2, 0, 0, 0), (5, .aload_n 0, 0, 0, 0), (6, .getfield 42, 1, 10, 519), (9, .if_icmp .ge 20, 29, 0, 0), (12, .aload_n 0, 0, 0, 0), (13, .iload_n 2, 0, 0, 0), (14, .invokevirtual 46, 10, 2, 2008), (17, .ifCond .eq 6, 23, 0, 0), (20, .iinc 1 1, 0, 0, 0), (23, .iinc 2 1, 0, 0, 0), (26, .goto (-22), 4, 0, 0), (29, .iload_n 1, 0, 0, 0), (30, .ireturn, 0, 0, 0)]
/-- X1 countOn -/
def a_c16 : List (Nat × aR) := [(0, .iconst 0, 0, 0, 0), (1, .istore_n 2, 0, 0, 0), (2, .iconst 0, 0, 0, 0), (3, .istore_n 3, 0, 0, 0), (4, .iload_n 3, 0, 0, 0), (5, .aload_n 0, 0, 0, 0), (6, .getfield 42, 1, 10, 519), (9, .if_icmp .ge 22, 31, 0, 0), (12, .aload_n 0, 0, 0, 0), (13, .getfield 21, 1, 3, 222), (16, .iload_n 3, 0, 0, 0), (17, .iaload, 0, 0, 0), (18, .iload_n 1, 0, 0, 0), (19, .if_icmp .ne 6, 25, 0, 0), (22, .iinc 2 1, 0, 0, 0), (25, .iinc 3 1, 0, 0, 0), (28, .goto (-24), 4, 0, 0), (31, .iload_n 2, 0, 0, 0), (32, .ireturn, 0, 0, 0)]
/-- X1 countNotices -/
def a_c17 : List (Nat × aR) := [(0, .iconst 0, 0, 0, 0), (1, .istore_n 1, 0, 0, 0), (2, .iconst 0, 0, 0, 0), (3, .istore_n 2, 0, 0, 0), (4, .iload_n 2, 0, 0, 0), (5, .aload_n 0, 0, 0, 0), (6, .getfield 42, 1, 10, 519), (9, .if_icmp .ge 20, 29, 0, 0), (12, .aload_n 0, 0, 0, 0), (13, .iload_n 2, 0, 0, 0), (14, .invokevirtual 50, 11, 2, 1418), (17, .ifCond .eq 6, 23, 0, 0), (20, .iinc 1 1, 0, 0, 0), (23, .iinc 2 1, 0, 0, 0), (26, .goto (-22), 4, 0, 0), (29, .iload_n 1, 0, 0, 0), (30, .ireturn, 0, 0, 0)]
/-- X1 sumOf -/
def a_c18 : List (Nat × aR) := [(0, .iconst 0, 0, 0, 0), (1, .istore_n 2, 0, 0, 0), (2, .iconst 0, 0, 0, 0), (3, .istore_n 3, 0, 0, 0), (4, .iload_n 3, 0, 0, 0), (5, .aload_n 0, 0, 0, 0), (6, .getfield 42, 1, 10, 519), (9, .if_icmp .ge 21, 30, 0, 0), (12, .iload_n 3, 0, 0, 0), (13, .aload_n 1, 0, 0, 0), (14, .arraylength, 0, 0, 0), (15, .if_icmp .ge 15, 30, 0, 0), (18, .iload_n 2, 0, 0, 0), (19, .aload_n 1, 0, 0, 0), (20, .iload_n 3, 0, 0, 0), (21, .iaload, 0, 0, 0), (22, .iadd, 0, 0, 0), (23, .istore_n 2, 0, 0, 0), (24, .iinc 3 1, 0, 0, 0), (27, .goto (-23), 4, 0, 0), (30, .iload_n 2, 0, 0, 0), (31, .ireturn, 0, 0, 0)]
/-- X1 atPlace -/
def a_c19 : List (Nat × aR) := [(0, .iconst 0, 0, 0, 0), (1, .istore_n 2, 0, 0, 0), (2, .iload_n 2, 0, 0, 0), (3, .aload_n 0, 0, 0, 0), (4, .getfield 42, 1, 10, 519), (7, .if_icmp .ge 28, 35, 0, 0), (10, .aload_n 0, 0, 0, 0), (11, .iload_n 2, 0, 0, 0), (12, .invokevirtual 46, 10, 2, 2008), (15, .ifCond .eq 14, 29, 0, 0), (18, .aload_n 0, 0, 0, 0), (19, .iload_n 2, 0, 0, 0), (20, .invokevirtual 53, 20, 2, 3202), (23, .iload_n 1, 0, 0, 0), (24, .if_icmp .ne 5, 29, 0, 0), (27, .iload_n 2, 0, 0, 0), (28, .ireturn, 0, 0, 0), (29, .iinc 2 1, 0, 0, 0), (32, .goto (-30), 2, 0, 0), (35, .bipush (-6), 0, 0, 0), (37, .ireturn, 0, 0, 0)]
/-- X1 placeOf -/
def a_c20 : List (Nat × aR) := [(0, .iconst 0, 0, 0, 0), (1, .istore_n 2, 0, 0, 0), (2, .iconst 0, 0, 0, 0), (3, .istore_n 3, 0, 0, 0), (4, .iload_n 3, 0, 0, 0), (5, .aload_n 0, 0, 0, 0), (6, .getfield 42, 1, 10, 519), (9, .if_icmp .ge 29, 38, 0, 0), (12, .aload_n 0, 0, 0, 0), (13, .iload_n 3, 0, 0, 0), (14, .invokevirtual 46, 10, 2, 2008), (17, .ifCond .eq 15, 32, 0, 0), (20, .aload_n 0, 0, 0, 0), (21, .iload_n 3, 0, 0, 0), (22, .iload_n 1, 0, 0, 0), (23, .invokevirtual 57, 21, 3, 3206), (26, .ifCond .eq 6, 32, 0, 0), (29, .iinc 2 1, 0, 0, 0), (32, .iinc 3 1, 0, 0, 0), (35, .goto (-31), 4, 0, 0), (38, .iload_n 2, 0, 0, 0), (39, .ireturn, 0, 0, 0)]
/-- X1 comesBefore -/
def a_c21_0 : List (Nat × aR) := [(0, .aload_n 0, 0, 0, 0), (1, .getfield 27, 1, 5, 300), (4, .iload_n 1, 0, 0, 0), (5, .iaload, 0, 0, 0), (6, .aload_n 0, 0, 0, 0), (7, .getfield 27, 1, 5, 300), (10, .iload_n 2, 0, 0, 0), (11, .iaload, 0, 0, 0), (12, .if_icmp .eq 24, 36, 0, 0), (15, .aload_n 0, 0, 0, 0), (16, .getfield 27, 1, 5, 300), (19, .iload_n 1, 0, 0, 0), (20, .iaload, 0, 0, 0), (21, .aload_n 0, 0, 0, 0), (22, .getfield 27, 1, 5, 300), (25, .iload_n 2, 0, 0, 0), (26, .iaload, 0, 0, 0), (27, .if_icmp .ge 7, 34, 0, 0), (30, .iconst 1, 0, 0, 0), (31, .goto 4, 35, 0, 0), (34, .iconst 0, 0, 0, 0), (35, .ireturn, 0, 0, 0), (36, .aload_n 0, 0, 0, 0), (37, .iload_n 1, 0, 0, 0), (38, .invokevirtual 50, 11, 2, 1418), (41, .aload_n 0, 0, 0, 0), (42, .iload_n 2, 0, 0, 0), (43, .invokevirtual 50, 11, 2, 1418), (46, .if_icmp .eq 9, 55, 0, 0), (49, .aload_n 0, 0, 0, 0), (50, .iload_n 1, 0, 0, 0), (51, .invokevirtual 50, 11, 2, 1418), (54, .ireturn, 0, 0, 0), (55, .aload_n 0, 0, 0, 0), (56, .getfield 24, 1, 4, 223), (59, .iload_n 1, 0, 0, 0), (60, .iaload, 0, 0, 0), (61, .aload_n 0, 0, 0, 0), (62, .getfield 24, 1, 4, 223), (65, .iload_n 2, 0, 0, 0)]
def a_c21_1 : List (Nat × aR) := [(66, .iaload, 0, 0, 0), (67, .if_icmp .eq 24, 91, 0, 0), (70, .aload_n 0, 0, 0, 0), (71, .getfield 24, 1, 4, 223), (74, .iload_n 1, 0, 0, 0), (75, .iaload, 0, 0, 0), (76, .aload_n 0, 0, 0, 0), (77, .getfield 24, 1, 4, 223), (80, .iload_n 2, 0, 0, 0), (81, .iaload, 0, 0, 0), (82, .if_icmp .le 7, 89, 0, 0), (85, .iconst 1, 0, 0, 0), (86, .goto 4, 90, 0, 0), (89, .iconst 0, 0, 0, 0), (90, .ireturn, 0, 0, 0), (91, .iload_n 1, 0, 0, 0), (92, .iload_n 2, 0, 0, 0), (93, .if_icmp .ge 7, 100, 0, 0), (96, .iconst 1, 0, 0, 0), (97, .goto 4, 101, 0, 0), (100, .iconst 0, 0, 0, 0), (101, .ireturn, 0, 0, 0)]
def a_c21 : List (Nat × aR) := a_c21_0 ++ (a_c21_1)
/-- X1 copyFrom -/
def a_c22_0 : List (Nat × aR) := [(0, .aload_n 1, 0, 0, 0), (1, .getfield 9, 1, 0, 219), (4, .aload_n 0, 0, 0, 0), (5, .getfield 9, 1, 0, 219), (8, .invokestatic 61, 96, 2, 5002), (11, .aload_n 1, 0, 0, 0), (12, .getfield 15, 1, 1, 220), (15, .aload_n 0, 0, 0, 0), (16, .getfield 15, 1, 1, 220), (19, .invokestatic 61, 96, 2, 5002), (22, .aload_n 1, 0, 0, 0), (23, .getfield 18, 1, 2, 221), (26, .aload_n 0, 0, 0, 0), (27, .getfield 18, 1, 2, 221), (30, .invokestatic 61, 96, 2, 5002), (33, .aload_n 1, 0, 0, 0), (34, .getfield 21, 1, 3, 222), (37, .aload_n 0, 0, 0, 0), (38, .getfield 21, 1, 3, 222), (41, .invokestatic 61, 96, 2, 5002), (44, .aload_n 1, 0, 0, 0), (45, .getfield 24, 1, 4, 223), (48, .aload_n 0, 0, 0, 0), (49, .getfield 24, 1, 4, 223), (52, .invokestatic 61, 96, 2, 5002), (55, .aload_n 1, 0, 0, 0), (56, .getfield 27, 1, 5, 300), (59, .aload_n 0, 0, 0, 0), (60, .getfield 27, 1, 5, 300), (63, .invokestatic 61, 96, 2, 5002), (66, .aload_n 1, 0, 0, 0), (67, .getfield 30, 1, 6, 301), (70, .aload_n 0, 0, 0, 0), (71, .getfield 30, 1, 6, 301), (74, .invokestatic 61, 96, 2, 5002), (77, .aload_n 1, 0, 0, 0), (78, .getfield 33, 1, 7, 302), (81, .aload_n 0, 0, 0, 0), (82, .getfield 33, 1, 7, 302), (85, .invokestatic 61, 96, 2, 5002)]
def a_c22_1 : List (Nat × aR) := [(88, .aload_n 1, 0, 0, 0), (89, .getfield 36, 1, 8, 303), (92, .aload_n 0, 0, 0, 0), (93, .getfield 36, 1, 8, 303), (96, .invokestatic 61, 96, 2, 5002), (99, .aload_n 1, 0, 0, 0), (100, .getfield 39, 1, 9, 304), (103, .aload_n 0, 0, 0, 0), (104, .getfield 39, 1, 9, 304), (107, .invokestatic 61, 96, 2, 5002), (110, .aload_n 0, 0, 0, 0), (111, .aload_n 1, 0, 0, 0), (112, .getfield 42, 1, 10, 519), (115, .putfield 42, 1, 10, 519), (118, .return_, 0, 0, 0)]
def a_c22 : List (Nat × aR) := a_c22_0 ++ (a_c22_1)
/-- X2 has -/
def a_c23 : List (Nat × aR) := [(0, .iload_n 1, 0, 0, 0), (1, .ifCond .lt 15, 16, 0, 0), (4, .iload_n 1, 0, 0, 0), (5, .aload_n 0, 0, 0, 0), (6, .getfield 33, 2, 7, 514), (9, .if_icmp .ge 7, 16, 0, 0), (12, .iconst 1, 0, 0, 0), (13, .goto 4, 17, 0, 0), (16, .iconst 0, 0, 0, 0), (17, .ireturn, 0, 0, 0)]
/-- X2 isOn -/
def a_c24 : List (Nat × aR) := [(0, .aload_n 0, 0, 0, 0), (1, .getfield 30, 2, 6, 215), (4, .iload_n 1, 0, 0, 0), (5, .iaload, 0, 0, 0), (6, .ifCond .ne 27, 33, 0, 0), (9, .aload_n 0, 0, 0, 0), (10, .getfield 24, 2, 4, 213), (13, .iload_n 1, 0, 0, 0), (14, .iaload, 0, 0, 0), (15, .iload_n 2, 0, 0, 0), (16, .if_icmp .gt 17, 33, 0, 0), (19, .iload_n 2, 0, 0, 0), (20, .aload_n 0, 0, 0, 0), (21, .getfield 27, 2, 5, 214), (24, .iload_n 1, 0, 0, 0), (25, .iaload, 0, 0, 0), (26, .if_icmp .ge 7, 33, 0, 0), (29, .iconst 1, 0, 0, 0), (30, .goto 4, 34, 0, 0), (33, .iconst 0, 0, 0, 0), (34, .ireturn, 0, 0, 0)]
/-- X2 tell -/
def a_c25_0 : List (Nat × aR) := [(0, .iload_n 2, 0, 0, 0), (1, .tableswitch 92 0 6 #[43, 50, 57, 64, 71, 78, 85], 0, 43, 0), (44, .aload_n 0, 0, 0, 0), (45, .getfield 9, 2, 0, 209), (48, .iload_n 1, 0, 0, 0), (49, .iaload, 0, 0, 0), (50, .ireturn, 0, 0, 0), (51, .aload_n 0, 0, 0, 0), (52, .getfield 15, 2, 1, 210), (55, .iload_n 1, 0, 0, 0), (56, .iaload, 0, 0, 0), (57, .ireturn, 0, 0, 0), (58, .aload_n 0, 0, 0, 0), (59, .getfield 18, 2, 2, 211), (62, .iload_n 1, 0, 0, 0), (63, .iaload, 0, 0, 0), (64, .ireturn, 0, 0, 0), (65, .aload_n 0, 0, 0, 0), (66, .getfield 21, 2, 3, 212), (69, .iload_n 1, 0, 0, 0), (70, .iaload, 0, 0, 0), (71, .ireturn, 0, 0, 0), (72, .aload_n 0, 0, 0, 0), (73, .getfield 24, 2, 4, 213), (76, .iload_n 1, 0, 0, 0), (77, .iaload, 0, 0, 0), (78, .ireturn, 0, 0, 0), (79, .aload_n 0, 0, 0, 0), (80, .getfield 27, 2, 5, 214), (83, .iload_n 1, 0, 0, 0), (84, .iaload, 0, 0, 0), (85, .ireturn, 0, 0, 0), (86, .aload_n 0, 0, 0, 0), (87, .getfield 30, 2, 6, 215), (90, .iload_n 1, 0, 0, 0), (91, .iaload, 0, 0, 0), (92, .ireturn, 0, 0, 0), (93, .aload_n 0, 0, 0, 0), (94, .iload_n 1, 0, 0, 0), (95, .iload_n 3, 0, 0, 0)]
def a_c25_1 : List (Nat × aR) := [(96, .invokevirtual 37, 24, 3, 2921), (99, .ifCond .eq 7, 106, 0, 0), (102, .iconst 1, 0, 0, 0), (103, .goto 4, 107, 0, 0), (106, .iconst 0, 0, 0, 0), (107, .ireturn, 0, 0, 0)]
def a_c25 : List (Nat × aR) := a_c25_0 ++ (a_c25_1)
/-- X2 copyFrom -/
def a_c26 : List (Nat × aR) := [(0, .aload_n 1, 0, 0, 0), (1, .getfield 9, 2, 0, 209), (4, .aload_n 0, 0, 0, 0), (5, .getfield 9, 2, 0, 209), (8, .invokestatic 41, 96, 2, 5001), (11, .aload_n 1, 0, 0, 0), (12, .getfield 15, 2, 1, 210), (15, .aload_n 0, 0, 0, 0), (16, .getfield 15, 2, 1, 210), (19, .invokestatic 41, 96, 2, 5001), (22, .aload_n 1, 0, 0, 0), (23, .getfield 18, 2, 2, 211), (26, .aload_n 0, 0, 0, 0), (27, .getfield 18, 2, 2, 211), (30, .invokestatic 41, 96, 2, 5001), (33, .aload_n 1, 0, 0, 0), (34, .getfield 21, 2, 3, 212), (37, .aload_n 0, 0, 0, 0), (38, .getfield 21, 2, 3, 212), (41, .invokestatic 41, 96, 2, 5001), (44, .aload_n 1, 0, 0, 0), (45, .getfield 24, 2, 4, 213), (48, .aload_n 0, 0, 0, 0), (49, .getfield 24, 2, 4, 213), (52, .invokestatic 41, 96, 2, 5001), (55, .aload_n 1, 0, 0, 0), (56, .getfield 27, 2, 5, 214), (59, .aload_n 0, 0, 0, 0), (60, .getfield 27, 2, 5, 214), (63, .invokestatic 41, 96, 2, 5001), (66, .aload_n 1, 0, 0, 0), (67, .getfield 30, 2, 6, 215), (70, .aload_n 0, 0, 0, 0), (71, .getfield 30, 2, 6, 215), (74, .invokestatic 41, 96, 2, 5001), (77, .aload_n 0, 0, 0, 0), (78, .aload_n 1, 0, 0, 0), (79, .getfield 33, 2, 7, 514), (82, .putfield 33, 2, 7, 514), (85, .return_, 0, 0, 0)]
/-- X3 note -/
def a_c27 : List (Nat × aR) := [(0, .aload_n 0, 0, 0, 0), (1, .getfield 11, 3, 0, 310), (4, .aload_n 0, 0, 0, 0), (5, .getfield 18, 3, 1, 411), (8, .aload_n 0, 0, 0, 0), (9, .getfield 22, 3, 2, 412), (12, .iadd, 0, 0, 0), (13, .bipush 6, 0, 0, 0), (15, .irem, 0, 0, 0), (16, .aaload, 0, 0, 0), (17, .aload_n 1, 0, 0, 0), (18, .invokevirtual 25, 30, 2, 413), (21, .return_, 0, 0, 0)]
/-- X3 keepNoted -/
def a_c28 : List (Nat × aR) := [(0, .aload_n 0, 0, 0, 0), (1, .getfield 22, 3, 2, 412), (4, .iconst 5, 0, 0, 0), (5, .if_icmp .ge 16, 21, 0, 0), (8, .aload_n 0, 0, 0, 0), (9, .dup, 0, 0, 0), (10, .getfield 22, 3, 2, 412), (13, .iconst 1, 0, 0, 0), (14, .iadd, 0, 0, 0), (15, .putfield 22, 3, 2, 412), (18, .goto 16, 34, 0, 0), (21, .aload_n 0, 0, 0, 0), (22, .aload_n 0, 0, 0, 0), (23, .getfield 18, 3, 1, 411), (26, .iconst 1, 0, 0, 0), (27, .iadd, 0, 0, 0), (28, .bipush 6, 0, 0, 0), (30, .irem, 0, 0, 0), (31, .putfield 18, 3, 1, 411), (34, .return_, 0, 0, 0)]
/-- X3 takeLatest -/
def a_c29 : List (Nat × aR) := [(0, .aload_n 0, 0, 0, 0), (1, .getfield 22, 3, 2, 412), (4, .ifCond .le 34, 38, 0, 0), (7, .aload_n 0, 0, 0, 0), (8, .dup, 0, 0, 0), (9, .getfield 22, 3, 2, 412), (12, .iconst 1, 0, 0, 0), (13, .isub, 0, 0, 0), (14, .putfield 22, 3, 2, 412), (17, .aload_n 1, 0, 0, 0), (18, .aload_n 0, 0, 0, 0), (19, .getfield 11, 3, 0, 310), (22, .aload_n 0, 0, 0, 0), (23, .getfield 18, 3, 1, 411), (26, .aload_n 0, 0, 0, 0), (27, .getfield 22, 3, 2, 412), (30, .iadd, 0, 0, 0), (31, .bipush 6, 0, 0, 0), (33, .irem, 0, 0, 0), (34, .aaload, 0, 0, 0), (35, .invokevirtual 25, 30, 2, 413), (38, .return_, 0, 0, 0)]
/-- X4 copyFrom -/
def a_c30 : List (Nat × aR) := [(0, .aload_n 0, 0, 0, 0), (1, .getfield 12, 4, 0, 111), (4, .aload_n 1, 0, 0, 0), (5, .getfield 12, 4, 0, 111), (8, .invokevirtual 39, 59, 2, 419), (11, .aload_n 0, 0, 0, 0), (12, .getfield 21, 4, 1, 115), (15, .aload_n 1, 0, 0, 0), (16, .getfield 21, 4, 1, 115), (19, .invokevirtual 43, 26, 2, 510), (22, .aload_n 0, 0, 0, 0), (23, .getfield 28, 4, 2, 119), (26, .aload_n 1, 0, 0, 0), (27, .getfield 28, 4, 2, 119), (30, .invokevirtual 46, 22, 2, 515), (33, .aload_n 1, 0, 0, 0), (34, .getfield 32, 4, 3, 121), (37, .aload_n 0, 0, 0, 0), (38, .getfield 32, 4, 3, 121), (41, .invokestatic 49, 96, 2, 5003), (44, .aload_n 0, 0, 0, 0), (45, .aload_n 1, 0, 0, 0), (46, .getfield 53, 4, 4, 417), (49, .putfield 53, 4, 4, 417), (52, .aload_n 0, 0, 0, 0), (53, .aload_n 1, 0, 0, 0), (54, .getfield 57, 4, 5, 418), (57, .putfield 57, 4, 5, 418), (60, .return_, 0, 0, 0)]
/-- X4 putStation -/
def a_c31_0 : List (Nat × aR) := [(0, .iload_n 1, 0, 0, 0), (1, .iload_n 2, 0, 0, 0), (2, .invokestatic 60, 94, 2, 5004), (5, .ifCond .ne 23, 28, 0, 0), (8, .iload_n 3, 0, 0, 0), (9, .iconst 0, 0, 0, 0), (10, .bipush 7, 0, 0, 0), (12, .invokestatic 64, 93, 3, 5005), (15, .ifCond .ne 13, 28, 0, 0), (18, .iload 4, 0, 0, 0), (20, .iconst 0, 0, 0, 0), (21, .iconst 4, 0, 0, 0), (22, .invokestatic 64, 93, 3, 5005), (25, .ifCond .eq 6, 31, 0, 0), (28, .bipush (-2), 0, 0, 0), (30, .ireturn, 0, 0, 0), (31, .aload_n 0, 0, 0, 0), (32, .getfield 12, 4, 0, 111), (35, .getfield 68, 5, 5, 600), (38, .bipush 8, 0, 0, 0), (40, .if_icmp .lt 6, 46, 0, 0), (43, .bipush (-4), 0, 0, 0), (45, .ireturn, 0, 0, 0), (46, .aload_n 0, 0, 0, 0), (47, .getfield 12, 4, 0, 111), (50, .getfield 68, 5, 5, 600), (53, .istore 5, 0, 0, 0), (55, .aload_n 0, 0, 0, 0), (56, .getfield 12, 4, 0, 111), (59, .getfield 71, 5, 0, 601), (62, .iload 5, 0, 0, 0), (64, .iload_n 1, 0, 0, 0), (65, .iastore, 0, 0, 0), (66, .aload_n 0, 0, 0, 0), (67, .getfield 12, 4, 0, 111), (70, .getfield 74, 5, 1, 602), (73, .iload 5, 0, 0, 0), (75, .iload_n 2, 0, 0, 0), (76, .iastore, 0, 0, 0), (77, .aload_n 0, 0, 0, 0)]
def a_c31_1 : List (Nat × aR) := [(78, .getfield 12, 4, 0, 111), (81, .getfield 77, 5, 2, 603), (84, .iload 5, 0, 0, 0), (86, .iload_n 3, 0, 0, 0), (87, .iastore, 0, 0, 0), (88, .aload_n 0, 0, 0, 0), (89, .getfield 12, 4, 0, 111), (92, .getfield 80, 5, 3, 604), (95, .iload 5, 0, 0, 0), (97, .iload 4, 0, 0, 0), (99, .iastore, 0, 0, 0), (100, .aload_n 0, 0, 0, 0), (101, .getfield 12, 4, 0, 111), (104, .getfield 83, 5, 4, 605), (107, .iload 5, 0, 0, 0), (109, .iconst 0, 0, 0, 0), (110, .iastore, 0, 0, 0), (111, .aload_n 0, 0, 0, 0), (112, .getfield 12, 4, 0, 111), (115, .dup, 0, 0, 0), (116, .getfield 68, 5, 5, 600), (119, .iconst 1, 0, 0, 0), (120, .iadd, 0, 0, 0), (121, .putfield 68, 5, 5, 600), (124, .iload 5, 0, 0, 0), (126, .ireturn, 0, 0, 0)]
def a_c31 : List (Nat × aR) := a_c31_0 ++ (a_c31_1)
/-- X4 putEvent -/
def a_c32_0 : List (Nat × aR) := [(0, .iload_n 1, 0, 0, 0), (1, .iload_n 2, 0, 0, 0), (2, .invokestatic 60, 94, 2, 5004), (5, .ifCond .ne 54, 59, 0, 0), (8, .iload_n 3, 0, 0, 0), (9, .iconst 1, 0, 0, 0), (10, .bipush 30, 0, 0, 0), (12, .invokestatic 64, 93, 3, 5005), (15, .ifCond .ne 44, 59, 0, 0), (18, .iload 4, 0, 0, 0), (20, .iconst 0, 0, 0, 0), (21, .bipush 7, 0, 0, 0), (23, .invokestatic 64, 93, 3, 5005), (26, .ifCond .ne 33, 59, 0, 0), (29, .iload 5, 0, 0, 0), (31, .aload_n 0, 0, 0, 0), (32, .getfield 53, 4, 4, 417), (35, .sipush 9998, 0, 0, 0), (38, .invokestatic 64, 93, 3, 5005), (41, .ifCond .ne 18, 59, 0, 0), (44, .iload 6, 0, 0, 0), (46, .iload 5, 0, 0, 0), (48, .iconst 1, 0, 0, 0), (49, .iadd, 0, 0, 0), (50, .sipush 9999, 0, 0, 0), (53, .invokestatic 64, 93, 3, 5005), (56, .ifCond .eq 6, 62, 0, 0), (59, .bipush (-2), 0, 0, 0), (61, .ireturn, 0, 0, 0), (62, .aload_n 0, 0, 0, 0), (63, .getfield 21, 4, 1, 115), (66, .getfield 86, 2, 7, 722), (69, .bipush 8, 0, 0, 0), (71, .if_icmp .lt 6, 77, 0, 0), (74, .bipush (-4), 0, 0, 0), (76, .ireturn, 0, 0, 0), (77, .aload_n 0, 0, 0, 0), (78, .getfield 21, 4, 1, 115), (81, .getfield 86, 2, 7, 722), (84, .istore 7, 0, 0, 0)]
def a_c32_1 : List (Nat × aR) := [(86, .aload_n 0, 0, 0, 0), (87, .getfield 21, 4, 1, 115), (90, .getfield 87, 2, 0, 723), (93, .iload 7, 0, 0, 0), (95, .iload_n 1, 0, 0, 0), (96, .iastore, 0, 0, 0), (97, .aload_n 0, 0, 0, 0), (98, .getfield 21, 4, 1, 115), (101, .getfield 88, 2, 1, 800), (104, .iload 7, 0, 0, 0), (106, .iload_n 2, 0, 0, 0), (107, .iastore, 0, 0, 0), (108, .aload_n 0, 0, 0, 0), (109, .getfield 21, 4, 1, 115), (112, .getfield 89, 2, 2, 801), (115, .iload 7, 0, 0, 0), (117, .iload_n 3, 0, 0, 0), (118, .iastore, 0, 0, 0), (119, .aload_n 0, 0, 0, 0), (120, .getfield 21, 4, 1, 115), (123, .getfield 92, 2, 3, 802), (126, .iload 7, 0, 0, 0), (128, .iload 4, 0, 0, 0), (130, .iastore, 0, 0, 0), (131, .aload_n 0, 0, 0, 0), (132, .getfield 21, 4, 1, 115), (135, .getfield 93, 2, 4, 803), (138, .iload 7, 0, 0, 0), (140, .iload 5, 0, 0, 0), (142, .iastore, 0, 0, 0), (143, .aload_n 0, 0, 0, 0), (144, .getfield 21, 4, 1, 115), (147, .getfield 96, 2, 5, 804), (150, .iload 7, 0, 0, 0), (152, .iload 6, 0, 0, 0), (154, .iastore, 0, 0, 0), (155, .aload_n 0, 0, 0, 0), (156, .getfield 21, 4, 1, 115), (159, .getfield 99, 2, 6, 805), (162, .iload 7, 0, 0, 0)]
def a_c32_2 : List (Nat × aR) := [(164, .iconst 0, 0, 0, 0), (165, .iastore, 0, 0, 0), (166, .aload_n 0, 0, 0, 0), (167, .getfield 21, 4, 1, 115), (170, .dup, 0, 0, 0), (171, .getfield 86, 2, 7, 722), (174, .iconst 1, 0, 0, 0), (175, .iadd, 0, 0, 0), (176, .putfield 86, 2, 7, 722), (179, .aload_n 0, 0, 0, 0), (180, .invokevirtual 102, 43, 1, 806), (183, .iload 7, 0, 0, 0), (185, .ireturn, 0, 0, 0)]
def a_c32 : List (Nat × aR) := a_c32_0 ++ (a_c32_1 ++ (a_c32_2))
/-- X4 putDevice -/
def a_c33_0 : List (Nat × aR) := [(0, .iload_n 1, 0, 0, 0), (1, .iload_n 2, 0, 0, 0), (2, .invokestatic 60, 94, 2, 5004), (5, .ifCond .ne 12, 17, 0, 0), (8, .iload_n 3, 0, 0, 0), (9, .iconst 0, 0, 0, 0), (10, .iconst 3, 0, 0, 0), (11, .invokestatic 64, 93, 3, 5005), (14, .ifCond .eq 6, 20, 0, 0), (17, .bipush (-2), 0, 0, 0), (19, .ireturn, 0, 0, 0), (20, .aload_n 0, 0, 0, 0), (21, .getfield 28, 4, 2, 119), (24, .getfield 105, 1, 10, 810), (27, .bipush 16, 0, 0, 0), (29, .if_icmp .lt 6, 35, 0, 0), (32, .bipush (-4), 0, 0, 0), (34, .ireturn, 0, 0, 0), (35, .aload_n 0, 0, 0, 0), (36, .getfield 28, 4, 2, 119), (39, .getfield 105, 1, 10, 810), (42, .istore 4, 0, 0, 0), (44, .aload_n 0, 0, 0, 0), (45, .getfield 28, 4, 2, 119), (48, .getfield 106, 1, 0, 822), (51, .iload 4, 0, 0, 0), (53, .iload_n 1, 0, 0, 0), (54, .iastore, 0, 0, 0), (55, .aload_n 0, 0, 0, 0), (56, .getfield 28, 4, 2, 119), (59, .getfield 107, 1, 1, 823), (62, .iload 4, 0, 0, 0), (64, .iload_n 2, 0, 0, 0), (65, .iastore, 0, 0, 0), (66, .aload_n 0, 0, 0, 0), (67, .getfield 28, 4, 2, 119), (70, .getfield 108, 1, 2, 1219), (73, .iload 4, 0, 0, 0), (75, .iload_n 3, 0, 0, 0), (76, .iastore, 0, 0, 0)]
def a_c33_1 : List (Nat × aR) := [(77, .aload_n 0, 0, 0, 0), (78, .getfield 28, 4, 2, 119), (81, .getfield 111, 1, 7, 1220), (84, .iload 4, 0, 0, 0), (86, .iconst 0, 0, 0, 0), (87, .iastore, 0, 0, 0), (88, .aload_n 0, 0, 0, 0), (89, .getfield 28, 4, 2, 119), (92, .getfield 114, 1, 8, 1221), (95, .iload 4, 0, 0, 0), (97, .iconst 0, 0, 0, 0), (98, .iastore, 0, 0, 0), (99, .aload_n 0, 0, 0, 0), (100, .getfield 28, 4, 2, 119), (103, .getfield 117, 1, 9, 1222), (106, .iload 4, 0, 0, 0), (108, .iconst 0, 0, 0, 0), (109, .iastore, 0, 0, 0), (110, .aload_n 0, 0, 0, 0), (111, .getfield 28, 4, 2, 119), (114, .iload 4, 0, 0, 0), (116, .invokevirtual 120, 13, 2, 1223), (119, .aload_n 0, 0, 0, 0), (120, .getfield 28, 4, 2, 119), (123, .dup, 0, 0, 0), (124, .getfield 105, 1, 10, 810), (127, .iconst 1, 0, 0, 0), (128, .iadd, 0, 0, 0), (129, .putfield 105, 1, 10, 810), (132, .iload 4, 0, 0, 0), (134, .ireturn, 0, 0, 0)]
def a_c33 : List (Nat × aR) := a_c33_0 ++ (a_c33_1)
/-- X4 change -/
def a_c34 : List (Nat × aR) := [(0, .iload_n 1, 0, 0, 0), (1, .iconst 0, 0, 0, 0), (2, .iconst 2, 0, 0, 0), (3, .invokestatic 64, 93, 3, 5005), (6, .ifCond .eq 5, 11, 0, 0), (9, .iconst (-1), 0, 0, 0), (10, .ireturn, 0, 0, 0), (11, .iload_n 2, 0, 0, 0), (12, .getstatic 124, 44, 0, 5011), (15, .iload_n 1, 0, 0, 0), (16, .iaload, 0, 0, 0), (17, .getstatic 127, 45, 0, 5012), (20, .iload_n 1, 0, 0, 0), (21, .iaload, 0, 0, 0), (22, .invokestatic 64, 93, 3, 5005), (25, .ifCond .eq 6, 31, 0, 0), (28, .bipush (-2), 0, 0, 0), (30, .ireturn, 0, 0, 0), (31, .aload_n 0, 0, 0, 0), (32, .getfield 32, 4, 3, 121), (35, .iload_n 1, 0, 0, 0), (36, .iaload, 0, 0, 0), (37, .istore_n 3, 0, 0, 0), (38, .aload_n 0, 0, 0, 0), (39, .getfield 32, 4, 3, 121), (42, .iload_n 1, 0, 0, 0), (43, .iload_n 2, 0, 0, 0), (44, .iastore, 0, 0, 0), (45, .aload_n 0, 0, 0, 0), (46, .invokevirtual 102, 43, 1, 806), (49, .iload_n 3, 0, 0, 0), (50, .ireturn, 0, 0, 0)]
/-- X4 turnStation -/
def a_c35 : List (Nat × aR) := [(0, .aload_n 0, 0, 0, 0), (1, .getfield 12, 4, 0, 111), (4, .iload_n 1, 0, 0, 0), (5, .invokevirtual 130, 56, 2, 1410), (8, .ifCond .ne 5, 13, 0, 0), (11, .iconst (-1), 0, 0, 0), (12, .ireturn, 0, 0, 0), (13, .aload_n 0, 0, 0, 0), (14, .getfield 12, 4, 0, 111), (17, .getfield 83, 5, 4, 605), (20, .iload_n 1, 0, 0, 0), (21, .iaload, 0, 0, 0), (22, .iload_n 2, 0, 0, 0), (23, .if_icmp .ne 6, 29, 0, 0), (26, .bipush (-3), 0, 0, 0), (28, .ireturn, 0, 0, 0), (29, .aload_n 0, 0, 0, 0), (30, .getfield 12, 4, 0, 111), (33, .getfield 83, 5, 4, 605), (36, .iload_n 1, 0, 0, 0), (37, .iload_n 2, 0, 0, 0), (38, .iastore, 0, 0, 0), (39, .aload_n 0, 0, 0, 0), (40, .invokevirtual 102, 43, 1, 806), (43, .aload_n 0, 0, 0, 0), (44, .getfield 28, 4, 2, 119), (47, .invokevirtual 134, 17, 1, 1414), (50, .ireturn, 0, 0, 0)]
/-- X4 callOff -/
def a_c36 : List (Nat × aR) := [(0, .aload_n 0, 0, 0, 0), (1, .getfield 21, 4, 1, 115), (4, .iload_n 1, 0, 0, 0), (5, .invokevirtual 138, 23, 2, 1603), (8, .ifCond .ne 5, 13, 0, 0), (11, .iconst (-1), 0, 0, 0), (12, .ireturn, 0, 0, 0), (13, .aload_n 0, 0, 0, 0), (14, .getfield 21, 4, 1, 115), (17, .getfield 99, 2, 6, 805), (20, .iload_n 1, 0, 0, 0), (21, .iaload, 0, 0, 0), (22, .iconst 1, 0, 0, 0), (23, .if_icmp .eq 19, 42, 0, 0), (26, .aload_n 0, 0, 0, 0), (27, .getfield 21, 4, 1, 115), (30, .getfield 96, 2, 5, 804), (33, .iload_n 1, 0, 0, 0), (34, .iaload, 0, 0, 0), (35, .aload_n 0, 0, 0, 0), (36, .getfield 53, 4, 4, 417), (39, .if_icmp .gt 6, 45, 0, 0), (42, .bipush (-3), 0, 0, 0), (44, .ireturn, 0, 0, 0), (45, .aload_n 0, 0, 0, 0), (46, .getfield 21, 4, 1, 115), (49, .getfield 99, 2, 6, 805), (52, .iload_n 1, 0, 0, 0), (53, .iconst 1, 0, 0, 0), (54, .iastore, 0, 0, 0), (55, .aload_n 0, 0, 0, 0), (56, .invokevirtual 102, 43, 1, 806), (59, .aload_n 0, 0, 0, 0), (60, .getfield 28, 4, 2, 119), (63, .invokevirtual 134, 17, 1, 1414), (66, .ireturn, 0, 0, 0)]
/-- X4 makeLease -/
def a_c37_0 : List (Nat × aR) := [(0, .aload_n 0, 0, 0, 0), (1, .getfield 28, 4, 2, 119), (4, .iload_n 1, 0, 0, 0), (5, .invokevirtual 139, 9, 2, 1700), (8, .ifCond .ne 5, 13, 0, 0), (11, .iconst (-1), 0, 0, 0), (12, .ireturn, 0, 0, 0), (13, .iload_n 2, 0, 0, 0), (14, .iconst 0, 0, 0, 0), (15, .iconst 3, 0, 0, 0), (16, .invokestatic 64, 93, 3, 5005), (19, .ifCond .ne 13, 32, 0, 0), (22, .iload_n 3, 0, 0, 0), (23, .iconst 1, 0, 0, 0), (24, .bipush 99, 0, 0, 0), (26, .invokestatic 64, 93, 3, 5005), (29, .ifCond .eq 6, 35, 0, 0), (32, .bipush (-2), 0, 0, 0), (34, .ireturn, 0, 0, 0), (35, .aload_n 0, 0, 0, 0), (36, .aload_n 0, 0, 0, 0), (37, .iload_n 1, 0, 0, 0), (38, .iload_n 2, 0, 0, 0), (39, .invokevirtual 140, 48, 3, 1704), (42, .putfield 57, 4, 5, 418), (45, .aload_n 0, 0, 0, 0), (46, .getfield 57, 4, 5, 418), (49, .ifCond .eq 6, 55, 0, 0), (52, .bipush (-5), 0, 0, 0), (54, .ireturn, 0, 0, 0), (55, .aload_n 0, 0, 0, 0), (56, .getfield 28, 4, 2, 119), (59, .iload_n 1, 0, 0, 0), (60, .aload_n 0, 0, 0, 0), (61, .iload_n 1, 0, 0, 0), (62, .iload_n 2, 0, 0, 0), (63, .invokevirtual 144, 50, 3, 1712), (66, .iload_n 2, 0, 0, 0), (67, .invokevirtual 147, 12, 4, 1800), (70, .aload_n 0, 0, 0, 0)]
def a_c37_1 : List (Nat × aR) := [(71, .getfield 28, 4, 2, 119), (74, .getfield 151, 1, 5, 1623), (77, .iload_n 1, 0, 0, 0), (78, .aload_n 0, 0, 0, 0), (79, .getfield 53, 4, 4, 417), (82, .iload_n 3, 0, 0, 0), (83, .iadd, 0, 0, 0), (84, .iastore, 0, 0, 0), (85, .aload_n 0, 0, 0, 0), (86, .getfield 28, 4, 2, 119), (89, .getfield 154, 1, 3, 820), (92, .iload_n 1, 0, 0, 0), (93, .iaload, 0, 0, 0), (94, .ireturn, 0, 0, 0)]
def a_c37 : List (Nat × aR) := a_c37_0 ++ (a_c37_1)
/-- X4 prolongLease -/
def a_c38_0 : List (Nat × aR) := [(0, .aload_n 0, 0, 0, 0), (1, .getfield 28, 4, 2, 119), (4, .iload_n 1, 0, 0, 0), (5, .invokevirtual 139, 9, 2, 1700), (8, .ifCond .ne 5, 13, 0, 0), (11, .iconst (-1), 0, 0, 0), (12, .ireturn, 0, 0, 0), (13, .iload_n 2, 0, 0, 0), (14, .iconst 1, 0, 0, 0), (15, .bipush 99, 0, 0, 0), (17, .invokestatic 64, 93, 3, 5005), (20, .ifCond .eq 6, 26, 0, 0), (23, .bipush (-2), 0, 0, 0), (25, .ireturn, 0, 0, 0), (26, .aload_n 0, 0, 0, 0), (27, .getfield 28, 4, 2, 119), (30, .iload_n 1, 0, 0, 0), (31, .invokevirtual 155, 10, 2, 812), (34, .ifCond .ne 6, 40, 0, 0), (37, .bipush (-3), 0, 0, 0), (39, .ireturn, 0, 0, 0), (40, .aload_n 0, 0, 0, 0), (41, .getfield 28, 4, 2, 119), (44, .iload_n 1, 0, 0, 0), (45, .invokevirtual 158, 11, 2, 914), (48, .ifCond .eq 11, 59, 0, 0), (51, .aload_n 0, 0, 0, 0), (52, .iconst 5, 0, 0, 0), (53, .putfield 57, 4, 5, 418), (56, .bipush (-5), 0, 0, 0), (58, .ireturn, 0, 0, 0), (59, .aload_n 0, 0, 0, 0), (60, .iconst 0, 0, 0, 0), (61, .putfield 57, 4, 5, 418), (64, .aload_n 0, 0, 0, 0), (65, .getfield 28, 4, 2, 119), (68, .getfield 151, 1, 5, 1623), (71, .iload_n 1, 0, 0, 0), (72, .aload_n 0, 0, 0, 0), (73, .getfield 53, 4, 4, 417)]
def a_c38_1 : List (Nat × aR) := [(76, .iload_n 2, 0, 0, 0), (77, .iadd, 0, 0, 0), (78, .iastore, 0, 0, 0), (79, .aload_n 0, 0, 0, 0), (80, .getfield 28, 4, 2, 119), (83, .getfield 151, 1, 5, 1623), (86, .iload_n 1, 0, 0, 0), (87, .iaload, 0, 0, 0), (88, .ireturn, 0, 0, 0)]
def a_c38 : List (Nat × aR) := a_c38_0 ++ (a_c38_1)
/-- X4 dropLease -/
def a_c39 : List (Nat × aR) := [(0, .aload_n 0, 0, 0, 0), (1, .getfield 28, 4, 2, 119), (4, .iload_n 1, 0, 0, 0), (5, .invokevirtual 139, 9, 2, 1700), (8, .ifCond .ne 5, 13, 0, 0), (11, .iconst (-1), 0, 0, 0), (12, .ireturn, 0, 0, 0), (13, .aload_n 0, 0, 0, 0), (14, .getfield 28, 4, 2, 119), (17, .iload_n 1, 0, 0, 0), (18, .invokevirtual 155, 10, 2, 812), (21, .ifCond .ne 6, 27, 0, 0), (24, .bipush (-3), 0, 0, 0), (26, .ireturn, 0, 0, 0), (27, .aload_n 0, 0, 0, 0), (28, .getfield 28, 4, 2, 119), (31, .iload_n 1, 0, 0, 0), (32, .invokevirtual 120, 13, 2, 1223), (35, .aload_n 0, 0, 0, 0), (36, .getfield 28, 4, 2, 119), (39, .invokevirtual 161, 15, 1, 2004), (42, .ireturn, 0, 0, 0)]
/-- X4 passHours -/
def a_c40 : List (Nat × aR) := [(0, .iload_n 1, 0, 0, 0), (1, .iconst 1, 0, 0, 0), (2, .bipush 99, 0, 0, 0), (4, .invokestatic 64, 93, 3, 5005), (7, .ifCond .eq 6, 13, 0, 0), (10, .bipush (-2), 0, 0, 0), (12, .ireturn, 0, 0, 0), (13, .aload_n 0, 0, 0, 0), (14, .getfield 53, 4, 4, 417), (17, .iload_n 1, 0, 0, 0), (18, .iadd, 0, 0, 0), (19, .sipush 9999, 0, 0, 0), (22, .if_icmp .le 6, 28, 0, 0), (25, .bipush (-3), 0, 0, 0), (27, .ireturn, 0, 0, 0), (28, .iconst 0, 0, 0, 0), (29, .istore_n 2, 0, 0, 0), (30, .iconst 0, 0, 0, 0), (31, .istore_n 3, 0, 0, 0), (32, .iload_n 3, 0, 0, 0), (33, .iload_n 1, 0, 0, 0), (34, .if_icmp .ge 16, 50, 0, 0), (37, .iload_n 2, 0, 0, 0), (38, .aload_n 0, 0, 0, 0), (39, .invokevirtual 164, 41, 1, 2101), (42, .iadd, 0, 0, 0), (43, .istore_n 2, 0, 0, 0), (44, .iinc 3 1, 0, 0, 0), (47, .goto (-15), 32, 0, 0), (50, .iload_n 2, 0, 0, 0), (51, .ireturn, 0, 0, 0)]
/-- X4 passOneHour -/
def a_c41 : List (Nat × aR) := [(0, .aload_n 0, 0, 0, 0), (1, .dup, 0, 0, 0), (2, .getfield 53, 4, 4, 417), (5, .iconst 1, 0, 0, 0), (6, .iadd, 0, 0, 0), (7, .putfield 53, 4, 4, 417), (10, .aload_n 0, 0, 0, 0), (11, .invokevirtual 167, 42, 1, 2105), (14, .aload_n 0, 0, 0, 0), (15, .invokevirtual 102, 43, 1, 806), (18, .iconst 0, 0, 0, 0), (19, .istore_n 1, 0, 0, 0), (20, .iconst 0, 0, 0, 0), (21, .istore_n 2, 0, 0, 0), (22, .iload_n 2, 0, 0, 0), (23, .aload_n 0, 0, 0, 0), (24, .getfield 28, 4, 2, 119), (27, .getfield 105, 1, 10, 810), (30, .if_icmp .ge 36, 66, 0, 0), (33, .aload_n 0, 0, 0, 0), (34, .getfield 28, 4, 2, 119), (37, .iload_n 2, 0, 0, 0), (38, .invokevirtual 158, 11, 2, 914), (41, .ifCond .eq 19, 60, 0, 0), (44, .aload_n 0, 0, 0, 0), (45, .iload_n 2, 0, 0, 0), (46, .invokevirtual 170, 45, 2, 2109), (49, .ifCond .eq 11, 60, 0, 0), (52, .iload_n 1, 0, 0, 0), (53, .aload_n 0, 0, 0, 0), (54, .iload_n 2, 0, 0, 0), (55, .invokevirtual 173, 47, 2, 2113), (58, .iadd, 0, 0, 0), (59, .istore_n 1, 0, 0, 0), (60, .iinc 2 1, 0, 0, 0), (63, .goto (-41), 22, 0, 0), (66, .aload_n 0, 0, 0, 0), (67, .invokevirtual 177, 44, 1, 2117), (70, .iload_n 1, 0, 0, 0), (71, .ireturn, 0, 0, 0)]
/-- X4 endLeases -/
def a_c42 : List (Nat × aR) := [(0, .iconst 0, 0, 0, 0), (1, .istore_n 1, 0, 0, 0), (2, .iload_n 1, 0, 0, 0), (3, .aload_n 0, 0, 0, 0), (4, .getfield 28, 4, 2, 119), (7, .getfield 105, 1, 10, 810), (10, .if_icmp .ge 44, 54, 0, 0), (13, .aload_n 0, 0, 0, 0), (14, .getfield 28, 4, 2, 119), (17, .iload_n 1, 0, 0, 0), (18, .invokevirtual 155, 10, 2, 812), (21, .ifCond .eq 27, 48, 0, 0), (24, .aload_n 0, 0, 0, 0), (25, .getfield 28, 4, 2, 119), (28, .getfield 151, 1, 5, 1623), (31, .iload_n 1, 0, 0, 0), (32, .iaload, 0, 0, 0), (33, .aload_n 0, 0, 0, 0), (34, .getfield 53, 4, 4, 417), (37, .if_icmp .gt 11, 48, 0, 0), (40, .aload_n 0, 0, 0, 0), (41, .getfield 28, 4, 2, 119), (44, .iload_n 1, 0, 0, 0), (45, .invokevirtual 120, 13, 2, 1223), (48, .iinc 1 1, 0, 0, 0), (51, .goto (-49), 2, 0, 0), (54, .return_, 0, 0, 0)]
/-- X4 review -/
def a_c43 : List (Nat × aR) := [(0, .iconst 0, 0, 0, 0), (1, .istore_n 1, 0, 0, 0), (2, .iload_n 1, 0, 0, 0), (3, .aload_n 0, 0, 0, 0), (4, .getfield 28, 4, 2, 119), (7, .getfield 105, 1, 10, 810), (10, .if_icmp .ge 65, 75, 0, 0), (13, .aload_n 0, 0, 0, 0), (14, .getfield 28, 4, 2, 119), (17, .iload_n 1, 0, 0, 0), (18, .invokevirtual 155, 10, 2, 812), (21, .ifCond .eq 48, 69, 0, 0), (24, .aload_n 0, 0, 0, 0), (25, .iload_n 1, 0, 0, 0), (26, .invokevirtual 180, 52, 2, 816), (29, .ifCond .eq 16, 45, 0, 0), (32, .aload_n 0, 0, 0, 0), (33, .getfield 28, 4, 2, 119), (36, .getfield 183, 1, 6, 811), (39, .iload_n 1, 0, 0, 0), (40, .iconst (-1), 0, 0, 0), (41, .iastore, 0, 0, 0), (42, .goto 27, 69, 0, 0), (45, .aload_n 0, 0, 0, 0), (46, .getfield 28, 4, 2, 119), (49, .iload_n 1, 0, 0, 0), (50, .invokevirtual 158, 11, 2, 914), (53, .ifCond .ne 16, 69, 0, 0), (56, .aload_n 0, 0, 0, 0), (57, .getfield 28, 4, 2, 119), (60, .getfield 183, 1, 6, 811), (63, .iload_n 1, 0, 0, 0), (64, .aload_n 0, 0, 0, 0), (65, .getfield 53, 4, 4, 417), (68, .iastore, 0, 0, 0), (69, .iinc 1 1, 0, 0, 0), (72, .goto (-70), 2, 0, 0), (75, .return_, 0, 0, 0)]
/-- X4 cutLeases -/
def a_c44_0 : List (Nat × aR) := [(0, .iconst 0, 0, 0, 0), (1, .istore_n 1, 0, 0, 0), (2, .iload_n 1, 0, 0, 0), (3, .aload_n 0, 0, 0, 0), (4, .getfield 28, 4, 2, 119), (7, .getfield 105, 1, 10, 810), (10, .if_icmp .ge 64, 74, 0, 0), (13, .aload_n 0, 0, 0, 0), (14, .getfield 28, 4, 2, 119), (17, .iload_n 1, 0, 0, 0), (18, .invokevirtual 158, 11, 2, 914), (21, .ifCond .eq 47, 68, 0, 0), (24, .aload_n 0, 0, 0, 0), (25, .getfield 28, 4, 2, 119), (28, .getfield 183, 1, 6, 811), (31, .iload_n 1, 0, 0, 0), (32, .iaload, 0, 0, 0), (33, .aload_n 0, 0, 0, 0), (34, .getfield 53, 4, 4, 417), (37, .aload_n 0, 0, 0, 0), (38, .getfield 32, 4, 3, 121), (41, .iconst 2, 0, 0, 0), (42, .iaload, 0, 0, 0), (43, .isub, 0, 0, 0), (44, .if_icmp .gt 24, 68, 0, 0), (47, .aload_n 0, 0, 0, 0), (48, .getfield 28, 4, 2, 119), (51, .iload_n 1, 0, 0, 0), (52, .invokevirtual 120, 13, 2, 1223), (55, .aload_n 0, 0, 0, 0), (56, .getfield 28, 4, 2, 119), (59, .getfield 117, 1, 9, 1222), (62, .iload_n 1, 0, 0, 0), (63, .dup2, 0, 0, 0), (64, .iaload, 0, 0, 0), (65, .iconst 1, 0, 0, 0), (66, .iadd, 0, 0, 0), (67, .iastore, 0, 0, 0), (68, .iinc 1 1, 0, 0, 0), (71, .goto (-69), 2, 0, 0)]
def a_c44_1 : List (Nat × aR) := [(74, .return_, 0, 0, 0)]
def a_c44 : List (Nat × aR) := a_c44_0 ++ (a_c44_1)
/-- X4 asksNow -/
def a_c45 : List (Nat × aR) := [(0, .aload_n 0, 0, 0, 0), (1, .getfield 53, 4, 4, 417), (4, .iload_n 1, 0, 0, 0), (5, .iadd, 0, 0, 0), (6, .aload_n 0, 0, 0, 0), (7, .getfield 32, 4, 3, 121), (10, .iconst 1, 0, 0, 0), (11, .iaload, 0, 0, 0), (12, .irem, 0, 0, 0), (13, .ifCond .ne 7, 20, 0, 0), (16, .iconst 1, 0, 0, 0), (17, .goto 4, 21, 0, 0), (20, .iconst 0, 0, 0, 0), (21, .ireturn, 0, 0, 0)]
/-- X4 nextAsking -/
def a_c46 : List (Nat × aR) := [(0, .aload_n 0, 0, 0, 0), (1, .getfield 53, 4, 4, 417), (4, .aload_n 0, 0, 0, 0), (5, .getfield 32, 4, 3, 121), (8, .iconst 1, 0, 0, 0), (9, .iaload, 0, 0, 0), (10, .iadd, 0, 0, 0), (11, .aload_n 0, 0, 0, 0), (12, .getfield 53, 4, 4, 417), (15, .iload_n 1, 0, 0, 0), (16, .iadd, 0, 0, 0), (17, .aload_n 0, 0, 0, 0), (18, .getfield 32, 4, 3, 121), (21, .iconst 1, 0, 0, 0), (22, .iaload, 0, 0, 0), (23, .irem, 0, 0, 0), (24, .isub, 0, 0, 0), (25, .ireturn, 0, 0, 0)]
/-- X4 hopOrStrike -/
def a_c47_0 : List (Nat × aR) := [(0, .aload_n 0, 0, 0, 0), (1, .getfield 28, 4, 2, 119), (4, .getfield 186, 1, 4, 821), (7, .iload_n 1, 0, 0, 0), (8, .iaload, 0, 0, 0), (9, .istore_n 2, 0, 0, 0), (10, .iload_n 2, 0, 0, 0), (11, .ifCond .lt 47, 58, 0, 0), (14, .aload_n 0, 0, 0, 0), (15, .iload_n 1, 0, 0, 0), (16, .iload_n 2, 0, 0, 0), (17, .invokevirtual 144, 50, 3, 1712), (20, .istore_n 3, 0, 0, 0), (21, .iload_n 3, 0, 0, 0), (22, .bipush (-6), 0, 0, 0), (24, .if_icmp .eq 28, 52, 0, 0), (27, .aload_n 0, 0, 0, 0), (28, .getfield 28, 4, 2, 119), (31, .iload_n 1, 0, 0, 0), (32, .iload_n 3, 0, 0, 0), (33, .iload_n 2, 0, 0, 0), (34, .invokevirtual 147, 12, 4, 1800), (37, .aload_n 0, 0, 0, 0), (38, .getfield 28, 4, 2, 119), (41, .getfield 111, 1, 7, 1220), (44, .iload_n 1, 0, 0, 0), (45, .dup2, 0, 0, 0), (46, .iaload, 0, 0, 0), (47, .iconst 1, 0, 0, 0), (48, .iadd, 0, 0, 0), (49, .iastore, 0, 0, 0), (50, .iconst 1, 0, 0, 0), (51, .ireturn, 0, 0, 0), (52, .iinc 2 (-1), 0, 0, 0), (55, .goto (-45), 10, 0, 0), (58, .aload_n 0, 0, 0, 0), (59, .getfield 28, 4, 2, 119), (62, .iload_n 1, 0, 0, 0), (63, .invokevirtual 120, 13, 2, 1223), (66, .aload_n 0, 0, 0, 0)]
def a_c47_1 : List (Nat × aR) := [(67, .getfield 28, 4, 2, 119), (70, .getfield 114, 1, 8, 1221), (73, .iload_n 1, 0, 0, 0), (74, .dup2, 0, 0, 0), (75, .iaload, 0, 0, 0), (76, .iconst 1, 0, 0, 0), (77, .iadd, 0, 0, 0), (78, .iastore, 0, 0, 0), (79, .iconst 0, 0, 0, 0), (80, .ireturn, 0, 0, 0)]
def a_c47 : List (Nat × aR) := a_c47_0 ++ (a_c47_1)
/-- X4 refusal -/
def a_c48 : List (Nat × aR) := [(0, .aload_n 0, 0, 0, 0), (1, .getfield 28, 4, 2, 119), (4, .iload_n 1, 0, 0, 0), (5, .invokevirtual 155, 10, 2, 812), (8, .ifCond .eq 5, 13, 0, 0), (11, .iconst 1, 0, 0, 0), (12, .ireturn, 0, 0, 0), (13, .iload_n 2, 0, 0, 0), (14, .aload_n 0, 0, 0, 0), (15, .getfield 28, 4, 2, 119), (18, .getfield 108, 1, 2, 1219), (21, .iload_n 1, 0, 0, 0), (22, .iaload, 0, 0, 0), (23, .if_icmp .le 5, 28, 0, 0), (26, .iconst 2, 0, 0, 0), (27, .ireturn, 0, 0, 0), (28, .aload_n 0, 0, 0, 0), (29, .iload_n 1, 0, 0, 0), (30, .iload_n 2, 0, 0, 0), (31, .invokevirtual 189, 49, 3, 1708), (34, .ifCond .ne 5, 39, 0, 0), (37, .iconst 3, 0, 0, 0), (38, .ireturn, 0, 0, 0), (39, .aload_n 0, 0, 0, 0), (40, .iload_n 1, 0, 0, 0), (41, .iload_n 2, 0, 0, 0), (42, .invokevirtual 144, 50, 3, 1712), (45, .bipush (-6), 0, 0, 0), (47, .if_icmp .ne 7, 54, 0, 0), (50, .iconst 4, 0, 0, 0), (51, .goto 4, 55, 0, 0), (54, .iconst 0, 0, 0, 0), (55, .ireturn, 0, 0, 0)]
/-- X4 isAllowedOnAny -/
def a_c49 : List (Nat × aR) := [(0, .iconst 0, 0, 0, 0), (1, .istore_n 3, 0, 0, 0), (2, .iload_n 3, 0, 0, 0), (3, .bipush 8, 0, 0, 0), (5, .if_icmp .ge 38, 43, 0, 0), (8, .aload_n 0, 0, 0, 0), (9, .iload_n 3, 0, 0, 0), (10, .iload_n 2, 0, 0, 0), (11, .aload_n 0, 0, 0, 0), (12, .getfield 28, 4, 2, 119), (15, .getfield 106, 1, 0, 822), (18, .iload_n 1, 0, 0, 0), (19, .iaload, 0, 0, 0), (20, .aload_n 0, 0, 0, 0), (21, .getfield 28, 4, 2, 119), (24, .getfield 107, 1, 1, 823), (27, .iload_n 1, 0, 0, 0), (28, .iaload, 0, 0, 0), (29, .invokevirtual 192, 53, 5, 900), (32, .ifCond .eq 5, 37, 0, 0), (35, .iconst 1, 0, 0, 0), (36, .ireturn, 0, 0, 0), (37, .iinc 3 1, 0, 0, 0), (40, .goto (-38), 2, 0, 0), (43, .iconst 0, 0, 0, 0), (44, .ireturn, 0, 0, 0)]
/-- X4 findOffer -/
def a_c50_0 : List (Nat × aR) := [(0, .bipush (-6), 0, 0, 0), (2, .istore_n 3, 0, 0, 0), (3, .bipush 16, 0, 0, 0), (5, .istore 4, 0, 0, 0), (7, .iconst 0, 0, 0, 0), (8, .istore 5, 0, 0, 0), (10, .iload 5, 0, 0, 0), (12, .bipush 8, 0, 0, 0), (14, .if_icmp .ge 90, 104, 0, 0), (17, .aload_n 0, 0, 0, 0), (18, .iload 5, 0, 0, 0), (20, .iload_n 2, 0, 0, 0), (21, .aload_n 0, 0, 0, 0), (22, .getfield 28, 4, 2, 119), (25, .getfield 106, 1, 0, 822), (28, .iload_n 1, 0, 0, 0), (29, .iaload, 0, 0, 0), (30, .aload_n 0, 0, 0, 0), (31, .getfield 28, 4, 2, 119), (34, .getfield 107, 1, 1, 823), (37, .iload_n 1, 0, 0, 0), (38, .iaload, 0, 0, 0), (39, .invokevirtual 192, 53, 5, 900), (42, .ifCond .eq 56, 98, 0, 0), (45, .aload_n 0, 0, 0, 0), (46, .iload 5, 0, 0, 0), (48, .iload_n 1, 0, 0, 0), (49, .iload_n 2, 0, 0, 0), (50, .invokevirtual 196, 51, 4, 1716), (53, .ifCond .eq 45, 98, 0, 0), (56, .aload_n 0, 0, 0, 0), (57, .getfield 28, 4, 2, 119), (60, .iload 5, 0, 0, 0), (62, .invokevirtual 199, 16, 2, 1720), (65, .istore 6, 0, 0, 0), (67, .aload_n 0, 0, 0, 0), (68, .getfield 28, 4, 2, 119), (71, .getfield 154, 1, 3, 820), (74, .iload_n 1, 0, 0, 0), (75, .iaload, 0, 0, 0)]
def a_c50_1 : List (Nat × aR) := [(76, .iload 5, 0, 0, 0), (78, .if_icmp .ne 6, 84, 0, 0), (81, .iinc 6 (-1), 0, 0, 0), (84, .iload 6, 0, 0, 0), (86, .iload 4, 0, 0, 0), (88, .if_icmp .ge 10, 98, 0, 0), (91, .iload 6, 0, 0, 0), (93, .istore 4, 0, 0, 0), (95, .iload 5, 0, 0, 0), (97, .istore_n 3, 0, 0, 0), (98, .iinc 5 1, 0, 0, 0), (101, .goto (-91), 10, 0, 0), (104, .iload_n 3, 0, 0, 0), (105, .ireturn, 0, 0, 0)]
def a_c50 : List (Nat × aR) := a_c50_0 ++ (a_c50_1)
/-- X4 isFree -/
def a_c51_0 : List (Nat × aR) := [(0, .iconst 0, 0, 0, 0), (1, .istore 4, 0, 0, 0), (3, .iload 4, 0, 0, 0), (5, .aload_n 0, 0, 0, 0), (6, .getfield 28, 4, 2, 119), (9, .getfield 105, 1, 10, 810), (12, .if_icmp .ge 97, 109, 0, 0), (15, .iload 4, 0, 0, 0), (17, .iload_n 2, 0, 0, 0), (18, .if_icmp .eq 85, 103, 0, 0), (21, .aload_n 0, 0, 0, 0), (22, .getfield 28, 4, 2, 119), (25, .getfield 154, 1, 3, 820), (28, .iload 4, 0, 0, 0), (30, .iaload, 0, 0, 0), (31, .iload_n 1, 0, 0, 0), (32, .if_icmp .ne 71, 103, 0, 0), (35, .aload_n 0, 0, 0, 0), (36, .getfield 28, 4, 2, 119), (39, .getfield 106, 1, 0, 822), (42, .iload 4, 0, 0, 0), (44, .iaload, 0, 0, 0), (45, .aload_n 0, 0, 0, 0), (46, .getfield 28, 4, 2, 119), (49, .getfield 106, 1, 0, 822), (52, .iload_n 2, 0, 0, 0), (53, .iaload, 0, 0, 0), (54, .isub, 0, 0, 0), (55, .aload_n 0, 0, 0, 0), (56, .getfield 28, 4, 2, 119), (59, .getfield 107, 1, 1, 823), (62, .iload 4, 0, 0, 0), (64, .iaload, 0, 0, 0), (65, .aload_n 0, 0, 0, 0), (66, .getfield 28, 4, 2, 119), (69, .getfield 107, 1, 1, 823), (72, .iload_n 2, 0, 0, 0), (73, .iaload, 0, 0, 0), (74, .isub, 0, 0, 0), (75, .getstatic 202, 42, 0, 5010)]
def a_c51_1 : List (Nat × aR) := [(78, .aload_n 0, 0, 0, 0), (79, .getfield 28, 4, 2, 119), (82, .getfield 186, 1, 4, 821), (85, .iload 4, 0, 0, 0), (87, .iaload, 0, 0, 0), (88, .iaload, 0, 0, 0), (89, .getstatic 202, 42, 0, 5010), (92, .iload_n 3, 0, 0, 0), (93, .iaload, 0, 0, 0), (94, .iadd, 0, 0, 0), (95, .invokestatic 205, 95, 3, 5006), (98, .ifCond .eq 5, 103, 0, 0), (101, .iconst 0, 0, 0, 0), (102, .ireturn, 0, 0, 0), (103, .iinc 4 1, 0, 0, 0), (106, .goto (-103), 3, 0, 0), (109, .iconst 1, 0, 0, 0), (110, .ireturn, 0, 0, 0)]
def a_c51 : List (Nat × aR) := a_c51_0 ++ (a_c51_1)
/-- X4 leaseIsAllowed -/
def a_c52 : List (Nat × aR) := [(0, .aload_n 0, 0, 0, 0), (1, .aload_n 0, 0, 0, 0), (2, .getfield 28, 4, 2, 119), (5, .getfield 154, 1, 3, 820), (8, .iload_n 1, 0, 0, 0), (9, .iaload, 0, 0, 0), (10, .aload_n 0, 0, 0, 0), (11, .getfield 28, 4, 2, 119), (14, .getfield 186, 1, 4, 821), (17, .iload_n 1, 0, 0, 0), (18, .iaload, 0, 0, 0), (19, .aload_n 0, 0, 0, 0), (20, .getfield 28, 4, 2, 119), (23, .getfield 106, 1, 0, 822), (26, .iload_n 1, 0, 0, 0), (27, .iaload, 0, 0, 0), (28, .aload_n 0, 0, 0, 0), (29, .getfield 28, 4, 2, 119), (32, .getfield 107, 1, 1, 823), (35, .iload_n 1, 0, 0, 0), (36, .iaload, 0, 0, 0), (37, .invokevirtual 192, 53, 5, 900), (40, .ireturn, 0, 0, 0)]
/-- X4 isAllowed -/
def a_c53_0 : List (Nat × aR) := [(0, .iconst 0, 0, 0, 0), (1, .istore 5, 0, 0, 0), (3, .iload 5, 0, 0, 0), (5, .aload_n 0, 0, 0, 0), (6, .getfield 12, 4, 0, 111), (9, .getfield 68, 5, 5, 600), (12, .if_icmp .ge 65, 77, 0, 0), (15, .aload_n 0, 0, 0, 0), (16, .iload 5, 0, 0, 0), (18, .iload_n 1, 0, 0, 0), (19, .invokevirtual 208, 54, 3, 904), (22, .istore 6, 0, 0, 0), (24, .iload 6, 0, 0, 0), (26, .iconst (-1), 0, 0, 0), (27, .if_icmp .eq 44, 71, 0, 0), (30, .aload_n 0, 0, 0, 0), (31, .getfield 12, 4, 0, 111), (34, .getfield 71, 5, 0, 601), (37, .iload 5, 0, 0, 0), (39, .iaload, 0, 0, 0), (40, .iload_n 3, 0, 0, 0), (41, .isub, 0, 0, 0), (42, .aload_n 0, 0, 0, 0), (43, .getfield 12, 4, 0, 111), (46, .getfield 74, 5, 1, 602), (49, .iload 5, 0, 0, 0), (51, .iaload, 0, 0, 0), (52, .iload 4, 0, 0, 0), (54, .isub, 0, 0, 0), (55, .iload 6, 0, 0, 0), (57, .getstatic 202, 42, 0, 5010), (60, .iload_n 2, 0, 0, 0), (61, .iaload, 0, 0, 0), (62, .iadd, 0, 0, 0), (63, .invokestatic 205, 95, 3, 5006), (66, .ifCond .eq 5, 71, 0, 0), (69, .iconst 0, 0, 0, 0), (70, .ireturn, 0, 0, 0), (71, .iinc 5 1, 0, 0, 0), (74, .goto (-71), 3, 0, 0)]
def a_c53_1 : List (Nat × aR) := [(77, .iconst 0, 0, 0, 0), (78, .istore 5, 0, 0, 0), (80, .iload 5, 0, 0, 0), (82, .aload_n 0, 0, 0, 0), (83, .getfield 21, 4, 1, 115), (86, .getfield 86, 2, 7, 722), (89, .if_icmp .ge 88, 177, 0, 0), (92, .aload_n 0, 0, 0, 0), (93, .getfield 21, 4, 1, 115), (96, .getfield 92, 2, 3, 802), (99, .iload 5, 0, 0, 0), (101, .iaload, 0, 0, 0), (102, .iload_n 1, 0, 0, 0), (103, .if_icmp .ne 68, 171, 0, 0), (106, .aload_n 0, 0, 0, 0), (107, .getfield 21, 4, 1, 115), (110, .iload 5, 0, 0, 0), (112, .aload_n 0, 0, 0, 0), (113, .getfield 53, 4, 4, 417), (116, .invokevirtual 211, 24, 3, 910), (119, .ifCond .eq 52, 171, 0, 0), (122, .aload_n 0, 0, 0, 0), (123, .getfield 21, 4, 1, 115), (126, .getfield 87, 2, 0, 723), (129, .iload 5, 0, 0, 0), (131, .iaload, 0, 0, 0), (132, .iload_n 3, 0, 0, 0), (133, .isub, 0, 0, 0), (134, .aload_n 0, 0, 0, 0), (135, .getfield 21, 4, 1, 115), (138, .getfield 88, 2, 1, 800), (141, .iload 5, 0, 0, 0), (143, .iaload, 0, 0, 0), (144, .iload 4, 0, 0, 0), (146, .isub, 0, 0, 0), (147, .aload_n 0, 0, 0, 0), (148, .getfield 21, 4, 1, 115), (151, .getfield 89, 2, 2, 801), (154, .iload 5, 0, 0, 0), (156, .iaload, 0, 0, 0)]
def a_c53_2 : List (Nat × aR) := [(157, .getstatic 202, 42, 0, 5010), (160, .iload_n 2, 0, 0, 0), (161, .iaload, 0, 0, 0), (162, .iadd, 0, 0, 0), (163, .invokestatic 205, 95, 3, 5006), (166, .ifCond .eq 5, 171, 0, 0), (169, .iconst 0, 0, 0, 0), (170, .ireturn, 0, 0, 0), (171, .iinc 5 1, 0, 0, 0), (174, .goto (-94), 80, 0, 0), (177, .iconst 1, 0, 0, 0), (178, .ireturn, 0, 0, 0)]
def a_c53 : List (Nat × aR) := a_c53_0 ++ (a_c53_1 ++ (a_c53_2))
/-- X4 barredRadius -/
def a_c54_0 : List (Nat × aR) := [(0, .aload_n 0, 0, 0, 0), (1, .getfield 12, 4, 0, 111), (4, .getfield 83, 5, 4, 605), (7, .iload_n 1, 0, 0, 0), (8, .iaload, 0, 0, 0), (9, .ifCond .ne 5, 14, 0, 0), (12, .iconst (-1), 0, 0, 0), (13, .ireturn, 0, 0, 0), (14, .getstatic 214, 41, 0, 5009), (17, .aload_n 0, 0, 0, 0), (18, .getfield 12, 4, 0, 111), (21, .getfield 80, 5, 3, 604), (24, .iload_n 1, 0, 0, 0), (25, .iaload, 0, 0, 0), (26, .iaload, 0, 0, 0), (27, .istore_n 3, 0, 0, 0), (28, .aload_n 0, 0, 0, 0), (29, .getfield 12, 4, 0, 111), (32, .getfield 77, 5, 2, 603), (35, .iload_n 1, 0, 0, 0), (36, .iaload, 0, 0, 0), (37, .iload_n 2, 0, 0, 0), (38, .isub, 0, 0, 0), (39, .istore 4, 0, 0, 0), (41, .iload 4, 0, 0, 0), (43, .ifCond .ne 5, 48, 0, 0), (46, .iload_n 3, 0, 0, 0), (47, .ireturn, 0, 0, 0), (48, .iload 4, 0, 0, 0), (50, .iconst 1, 0, 0, 0), (51, .if_icmp .eq 9, 60, 0, 0), (54, .iload 4, 0, 0, 0), (56, .iconst (-1), 0, 0, 0), (57, .if_icmp .ne 15, 72, 0, 0), (60, .iload_n 3, 0, 0, 0), (61, .aload_n 0, 0, 0, 0), (62, .getfield 32, 4, 3, 121), (65, .iconst 0, 0, 0, 0), (66, .iaload, 0, 0, 0), (67, .imul, 0, 0, 0)]
def a_c54_1 : List (Nat × aR) := [(68, .bipush 100, 0, 0, 0), (70, .idiv, 0, 0, 0), (71, .ireturn, 0, 0, 0), (72, .iconst (-1), 0, 0, 0), (73, .ireturn, 0, 0, 0)]
def a_c54 : List (Nat × aR) := a_c54_0 ++ (a_c54_1)
/-- X4 tellTotal -/
def a_c55_0 : List (Nat × aR) := [(0, .iload_n 1, 0, 0, 0), (1, .tableswitch 192 0 14 #[75, 80, 88, 96, 104, 112, 120, 128, 143, 158, 173, 192, 192, 178, 185], 0, 75, 0), (76, .aload_n 0, 0, 0, 0), (77, .getfield 53, 4, 4, 417), (80, .ireturn, 0, 0, 0), (81, .aload_n 0, 0, 0, 0), (82, .getfield 12, 4, 0, 111), (85, .getfield 68, 5, 5, 600), (88, .ireturn, 0, 0, 0), (89, .aload_n 0, 0, 0, 0), (90, .getfield 21, 4, 1, 115), (93, .getfield 86, 2, 7, 722), (96, .ireturn, 0, 0, 0), (97, .aload_n 0, 0, 0, 0), (98, .getfield 28, 4, 2, 119), (101, .getfield 105, 1, 10, 810), (104, .ireturn, 0, 0, 0), (105, .aload_n 0, 0, 0, 0), (106, .getfield 12, 4, 0, 111), (109, .invokevirtual 217, 58, 1, 3312), (112, .ireturn, 0, 0, 0), (113, .aload_n 0, 0, 0, 0), (114, .getfield 28, 4, 2, 119), (117, .invokevirtual 161, 15, 1, 2004), (120, .ireturn, 0, 0, 0), (121, .aload_n 0, 0, 0, 0), (122, .getfield 28, 4, 2, 119), (125, .invokevirtual 134, 17, 1, 1414), (128, .ireturn, 0, 0, 0), (129, .aload_n 0, 0, 0, 0), (130, .getfield 28, 4, 2, 119), (133, .aload_n 0, 0, 0, 0), (134, .getfield 28, 4, 2, 119), (137, .getfield 111, 1, 7, 1220), (140, .invokevirtual 220, 18, 2, 3316), (143, .ireturn, 0, 0, 0), (144, .aload_n 0, 0, 0, 0), (145, .getfield 28, 4, 2, 119), (148, .aload_n 0, 0, 0, 0), (149, .getfield 28, 4, 2, 119)]
def a_c55_1 : List (Nat × aR) := [(152, .getfield 114, 1, 8, 1221), (155, .invokevirtual 220, 18, 2, 3316), (158, .ireturn, 0, 0, 0), (159, .aload_n 0, 0, 0, 0), (160, .getfield 28, 4, 2, 119), (163, .aload_n 0, 0, 0, 0), (164, .getfield 28, 4, 2, 119), (167, .getfield 117, 1, 9, 1222), (170, .invokevirtual 220, 18, 2, 3316), (173, .ireturn, 0, 0, 0), (174, .aload_n 0, 0, 0, 0), (175, .getfield 57, 4, 5, 418), (178, .ireturn, 0, 0, 0), (179, .aload_n 0, 0, 0, 0), (180, .getfield 32, 4, 3, 121), (183, .iconst 0, 0, 0, 0), (184, .iaload, 0, 0, 0), (185, .ireturn, 0, 0, 0), (186, .aload_n 0, 0, 0, 0), (187, .getfield 32, 4, 3, 121), (190, .iconst 1, 0, 0, 0), (191, .iaload, 0, 0, 0), (192, .ireturn, 0, 0, 0), (193, .aload_n 0, 0, 0, 0), (194, .getfield 32, 4, 3, 121), (197, .iconst 2, 0, 0, 0), (198, .iaload, 0, 0, 0), (199, .ireturn, 0, 0, 0)]
def a_c55 : List (Nat × aR) := a_c55_0 ++ (a_c55_1)
/-- X5 has -/
def a_c56 : List (Nat × aR) := [(0, .iload_n 1, 0, 0, 0), (1, .ifCond .lt 15, 16, 0, 0), (4, .iload_n 1, 0, 0, 0), (5, .aload_n 0, 0, 0, 0), (6, .getfield 27, 5, 5, 423), (9, .if_icmp .ge 7, 16, 0, 0), (12, .iconst 1, 0, 0, 0), (13, .goto 4, 17, 0, 0), (16, .iconst 0, 0, 0, 0), (17, .ireturn, 0, 0, 0)]
/-- X5 tell -/
def a_c57 : List (Nat × aR) := [(0, .iload_n 2, 0, 0, 0), (1, .tableswitch 74 0 4 #[35, 42, 49, 56, 63], 0, 35, 0), (36, .aload_n 0, 0, 0, 0), (37, .getfield 9, 5, 0, 201), (40, .iload_n 1, 0, 0, 0), (41, .iaload, 0, 0, 0), (42, .ireturn, 0, 0, 0), (43, .aload_n 0, 0, 0, 0), (44, .getfield 15, 5, 1, 202), (47, .iload_n 1, 0, 0, 0), (48, .iaload, 0, 0, 0), (49, .ireturn, 0, 0, 0), (50, .aload_n 0, 0, 0, 0), (51, .getfield 18, 5, 2, 203), (54, .iload_n 1, 0, 0, 0), (55, .iaload, 0, 0, 0), (56, .ireturn, 0, 0, 0), (57, .aload_n 0, 0, 0, 0), (58, .getfield 21, 5, 3, 204), (61, .iload_n 1, 0, 0, 0), (62, .iaload, 0, 0, 0), (63, .ireturn, 0, 0, 0), (64, .getstatic 31, 41, 0, 5013), (67, .aload_n 0, 0, 0, 0), (68, .getfield 21, 5, 3, 204), (71, .iload_n 1, 0, 0, 0), (72, .iaload, 0, 0, 0), (73, .iaload, 0, 0, 0), (74, .ireturn, 0, 0, 0), (75, .aload_n 0, 0, 0, 0), (76, .getfield 24, 5, 4, 205), (79, .iload_n 1, 0, 0, 0), (80, .iaload, 0, 0, 0), (81, .ireturn, 0, 0, 0)]
/-- X5 countAwake -/
def a_c58 : List (Nat × aR) := [(0, .iconst 0, 0, 0, 0), (1, .istore_n 1, 0, 0, 0), (2, .iconst 0, 0, 0, 0), (3, .istore_n 2, 0, 0, 0), (4, .iload_n 2, 0, 0, 0), (5, .aload_n 0, 0, 0, 0), (6, .getfield 27, 5, 5, 423), (9, .if_icmp .ge 18, 27, 0, 0), (12, .iload_n 1, 0, 0, 0), (13, .aload_n 0, 0, 0, 0), (14, .getfield 24, 5, 4, 205), (17, .iload_n 2, 0, 0, 0), (18, .iaload, 0, 0, 0), (19, .iadd, 0, 0, 0), (20, .istore_n 1, 0, 0, 0), (21, .iinc 2 1, 0, 0, 0), (24, .goto (-20), 4, 0, 0), (27, .iload_n 1, 0, 0, 0), (28, .ireturn, 0, 0, 0)]
/-- X5 copyFrom -/
def a_c59 : List (Nat × aR) := [(0, .aload_n 1, 0, 0, 0), (1, .getfield 9, 5, 0, 201), (4, .aload_n 0, 0, 0, 0), (5, .getfield 9, 5, 0, 201), (8, .invokestatic 34, 96, 2, 5000), (11, .aload_n 1, 0, 0, 0), (12, .getfield 15, 5, 1, 202), (15, .aload_n 0, 0, 0, 0), (16, .getfield 15, 5, 1, 202), (19, .invokestatic 34, 96, 2, 5000), (22, .aload_n 1, 0, 0, 0), (23, .getfield 18, 5, 2, 203), (26, .aload_n 0, 0, 0, 0), (27, .getfield 18, 5, 2, 203), (30, .invokestatic 34, 96, 2, 5000), (33, .aload_n 1, 0, 0, 0), (34, .getfield 21, 5, 3, 204), (37, .aload_n 0, 0, 0, 0), (38, .getfield 21, 5, 3, 204), (41, .invokestatic 34, 96, 2, 5000), (44, .aload_n 1, 0, 0, 0), (45, .getfield 24, 5, 4, 205), (48, .aload_n 0, 0, 0, 0), (49, .getfield 24, 5, 4, 205), (52, .invokestatic 34, 96, 2, 5000), (55, .aload_n 0, 0, 0, 0), (56, .aload_n 1, 0, 0, 0), (57, .getfield 27, 5, 5, 423), (60, .putfield 27, 5, 5, 423), (63, .return_, 0, 0, 0)]
/-- X6 addStation -/
def a_c60 : List (Nat × aR) := [(0, .aload_n 0, 0, 0, 0), (1, .getfield 22, 6, 2, 20), (4, .aload_n 0, 0, 0, 0), (5, .getfield 10, 6, 0, 15), (8, .invokevirtual 41, 27, 2, 407), (11, .aload_n 0, 0, 0, 0), (12, .aload_n 0, 0, 0, 0), (13, .getfield 10, 6, 0, 15), (16, .iload_n 1, 0, 0, 0), (17, .iload_n 2, 0, 0, 0), (18, .iload_n 3, 0, 0, 0), (19, .iload 4, 0, 0, 0), (21, .invokevirtual 45, 31, 5, 520), (24, .invokevirtual 49, 91, 2, 611), (27, .ireturn, 0, 0, 0)]
/-- X6 addEvent -/
def a_c61 : List (Nat × aR) := [(0, .aload_n 0, 0, 0, 0), (1, .getfield 22, 6, 2, 20), (4, .aload_n 0, 0, 0, 0), (5, .getfield 10, 6, 0, 15), (8, .invokevirtual 41, 27, 2, 407), (11, .aload_n 0, 0, 0, 0), (12, .aload_n 0, 0, 0, 0), (13, .getfield 10, 6, 0, 15), (16, .iload_n 1, 0, 0, 0), (17, .iload_n 2, 0, 0, 0), (18, .iload_n 3, 0, 0, 0), (19, .iload 4, 0, 0, 0), (21, .iload 5, 0, 0, 0), (23, .iload 6, 0, 0, 0), (25, .invokevirtual 53, 32, 7, 718), (28, .invokevirtual 49, 91, 2, 611), (31, .ireturn, 0, 0, 0)]
/-- X6 addDevice -/
def a_c62 : List (Nat × aR) := [(0, .aload_n 0, 0, 0, 0), (1, .getfield 22, 6, 2, 20), (4, .aload_n 0, 0, 0, 0), (5, .getfield 10, 6, 0, 15), (8, .invokevirtual 41, 27, 2, 407), (11, .aload_n 0, 0, 0, 0), (12, .aload_n 0, 0, 0, 0), (13, .getfield 10, 6, 0, 15), (16, .iload_n 1, 0, 0, 0), (17, .iload_n 2, 0, 0, 0), (18, .iload_n 3, 0, 0, 0), (19, .invokevirtual 57, 33, 4, 1215), (22, .invokevirtual 49, 91, 2, 611), (25, .ireturn, 0, 0, 0)]
/-- X6 set -/
def a_c63 : List (Nat × aR) := [(0, .aload_n 0, 0, 0, 0), (1, .getfield 22, 6, 2, 20), (4, .aload_n 0, 0, 0, 0), (5, .getfield 10, 6, 0, 15), (8, .invokevirtual 41, 27, 2, 407), (11, .aload_n 0, 0, 0, 0), (12, .aload_n 0, 0, 0, 0), (13, .getfield 10, 6, 0, 15), (16, .iload_n 1, 0, 0, 0), (17, .iload_n 2, 0, 0, 0), (18, .invokevirtual 61, 34, 3, 1318), (21, .invokevirtual 49, 91, 2, 611), (24, .ireturn, 0, 0, 0)]
/-- X6 wake -/
def a_c64 : List (Nat × aR) := [(0, .aload_n 0, 0, 0, 0), (1, .getfield 22, 6, 2, 20), (4, .aload_n 0, 0, 0, 0), (5, .getfield 10, 6, 0, 15), (8, .invokevirtual 41, 27, 2, 407), (11, .aload_n 0, 0, 0, 0), (12, .aload_n 0, 0, 0, 0), (13, .getfield 10, 6, 0, 15), (16, .iload_n 1, 0, 0, 0), (17, .iconst 1, 0, 0, 0), (18, .invokevirtual 65, 35, 3, 1406), (21, .invokevirtual 49, 91, 2, 611), (24, .ireturn, 0, 0, 0)]
/-- X6 sleep -/
def a_c65 : List (Nat × aR) := [(0, .aload_n 0, 0, 0, 0), (1, .getfield 22, 6, 2, 20), (4, .aload_n 0, 0, 0, 0), (5, .getfield 10, 6, 0, 15), (8, .invokevirtual 41, 27, 2, 407), (11, .aload_n 0, 0, 0, 0), (12, .aload_n 0, 0, 0, 0), (13, .getfield 10, 6, 0, 15), (16, .iload_n 1, 0, 0, 0), (17, .iconst 0, 0, 0, 0), (18, .invokevirtual 65, 35, 3, 1406), (21, .invokevirtual 49, 91, 2, 611), (24, .ireturn, 0, 0, 0)]
/-- X6 cancel -/
def a_c66 : List (Nat × aR) := [(0, .aload_n 0, 0, 0, 0), (1, .getfield 22, 6, 2, 20), (4, .aload_n 0, 0, 0, 0), (5, .getfield 10, 6, 0, 15), (8, .invokevirtual 41, 27, 2, 407), (11, .aload_n 0, 0, 0, 0), (12, .aload_n 0, 0, 0, 0), (13, .getfield 10, 6, 0, 15), (16, .iload_n 1, 0, 0, 0), (17, .invokevirtual 68, 36, 2, 1523), (20, .invokevirtual 49, 91, 2, 611), (23, .ireturn, 0, 0, 0)]
/-- X6 lease -/
def a_c67 : List (Nat × aR) := [(0, .aload_n 0, 0, 0, 0), (1, .getfield 22, 6, 2, 20), (4, .aload_n 0, 0, 0, 0), (5, .getfield 10, 6, 0, 15), (8, .invokevirtual 41, 27, 2, 407), (11, .aload_n 0, 0, 0, 0), (12, .aload_n 0, 0, 0, 0), (13, .getfield 10, 6, 0, 15), (16, .iload_n 1, 0, 0, 0), (17, .iload_n 2, 0, 0, 0), (18, .iload_n 3, 0, 0, 0), (19, .invokevirtual 71, 37, 4, 1619), (22, .invokevirtual 49, 91, 2, 611), (25, .ireturn, 0, 0, 0)]
/-- X6 renew -/
def a_c68 : List (Nat × aR) := [(0, .aload_n 0, 0, 0, 0), (1, .getfield 22, 6, 2, 20), (4, .aload_n 0, 0, 0, 0), (5, .getfield 10, 6, 0, 15), (8, .invokevirtual 41, 27, 2, 407), (11, .aload_n 0, 0, 0, 0), (12, .aload_n 0, 0, 0, 0), (13, .getfield 10, 6, 0, 15), (16, .iload_n 1, 0, 0, 0), (17, .iload_n 2, 0, 0, 0), (18, .invokevirtual 74, 38, 3, 1912), (21, .invokevirtual 49, 91, 2, 611), (24, .ireturn, 0, 0, 0)]
/-- X6 giveBack -/
def a_c69 : List (Nat × aR) := [(0, .aload_n 0, 0, 0, 0), (1, .getfield 22, 6, 2, 20), (4, .aload_n 0, 0, 0, 0), (5, .getfield 10, 6, 0, 15), (8, .invokevirtual 41, 27, 2, 407), (11, .aload_n 0, 0, 0, 0), (12, .aload_n 0, 0, 0, 0), (13, .getfield 10, 6, 0, 15), (16, .iload_n 1, 0, 0, 0), (17, .invokevirtual 77, 39, 2, 2000), (20, .invokevirtual 49, 91, 2, 611), (23, .ireturn, 0, 0, 0)]
/-- X6 pass -/
def a_c70 : List (Nat × aR) := [(0, .aload_n 0, 0, 0, 0), (1, .getfield 22, 6, 2, 20), (4, .aload_n 0, 0, 0, 0), (5, .getfield 10, 6, 0, 15), (8, .invokevirtual 41, 27, 2, 407), (11, .aload_n 0, 0, 0, 0), (12, .aload_n 0, 0, 0, 0), (13, .getfield 10, 6, 0, 15), (16, .iload_n 1, 0, 0, 0), (17, .invokevirtual 80, 40, 2, 2021), (20, .invokevirtual 49, 91, 2, 611), (23, .ireturn, 0, 0, 0)]
/-- X6 append -/
def a_c71 : List (Nat × aR) := [(0, .aload_n 0, 0, 0, 0), (1, .getfield 37, 6, 5, 103), (4, .iload_n 1, 0, 0, 0), (5, .invokevirtual 83, 0, 2, 2213), (8, .ireturn, 0, 0, 0)]
/-- X6 clearText -/
def a_c72 : List (Nat × aR) := [(0, .aload_n 0, 0, 0, 0), (1, .getfield 37, 6, 5, 103), (4, .invokevirtual 86, 1, 1, 2303), (7, .ireturn, 0, 0, 0)]
/-- X6 faultPosition -/
def a_c73 : List (Nat × aR) := [(0, .aload_n 0, 0, 0, 0), (1, .getfield 37, 6, 5, 103), (4, .invokevirtual 90, 2, 1, 2315), (7, .ireturn, 0, 0, 0)]
/-- X6 run -/
def a_c74_0 : List (Nat × aR) := [(0, .aload_n 0, 0, 0, 0), (1, .getfield 37, 6, 5, 103), (4, .invokevirtual 90, 2, 1, 2315), (7, .bipush (-6), 0, 0, 0), (9, .if_icmp .eq 6, 15, 0, 0), (12, .bipush (-3), 0, 0, 0), (14, .ireturn, 0, 0, 0), (15, .aload_n 0, 0, 0, 0), (16, .getfield 22, 6, 2, 20), (19, .aload_n 0, 0, 0, 0), (20, .getfield 10, 6, 0, 15), (23, .invokevirtual 41, 27, 2, 407), (26, .iconst 0, 0, 0, 0), (27, .istore_n 1, 0, 0, 0), (28, .iconst 0, 0, 0, 0), (29, .istore_n 2, 0, 0, 0), (30, .aload_n 0, 0, 0, 0), (31, .getfield 37, 6, 5, 103), (34, .invokevirtual 93, 3, 1, 2608), (37, .iconst 0, 0, 0, 0), (38, .istore_n 3, 0, 0, 0), (39, .iload_n 3, 0, 0, 0), (40, .bipush 80, 0, 0, 0), (42, .if_icmp .ge 190, 232, 0, 0), (45, .aload_n 0, 0, 0, 0), (46, .getfield 37, 6, 5, 103), (49, .invokevirtual 96, 4, 1, 2609), (52, .ifCond .eq 180, 232, 0, 0), (55, .iload_n 2, 0, 0, 0), (56, .ifCond .lt 176, 232, 0, 0), (59, .aload_n 0, 0, 0, 0), (60, .getfield 37, 6, 5, 103), (63, .invokevirtual 100, 5, 1, 2610), (66, .aload_n 0, 0, 0, 0), (67, .getfield 37, 6, 5, 103), (70, .getfield 103, 0, 4, 2604), (73, .lookupswitch 131 #[(103, 75), (108, 43), (119, 93), (122, 112)], 0, 43, 0), (116, .aload_n 0, 0, 0, 0), (117, .getfield 10, 6, 0, 15), (120, .aload_n 0, 0, 0, 0)]
def a_c74_1 : List (Nat × aR) := [(121, .getfield 37, 6, 5, 103), (124, .getfield 107, 0, 5, 2605), (127, .aload_n 0, 0, 0, 0), (128, .getfield 37, 6, 5, 103), (131, .getfield 110, 0, 6, 2606), (134, .aload_n 0, 0, 0, 0), (135, .getfield 37, 6, 5, 103), (138, .getfield 113, 0, 7, 2607), (141, .invokevirtual 71, 37, 4, 1619), (144, .istore_n 2, 0, 0, 0), (145, .goto 74, 219, 0, 0), (148, .aload_n 0, 0, 0, 0), (149, .getfield 10, 6, 0, 15), (152, .aload_n 0, 0, 0, 0), (153, .getfield 37, 6, 5, 103), (156, .getfield 107, 0, 5, 2605), (159, .invokevirtual 77, 39, 2, 2000), (162, .istore_n 2, 0, 0, 0), (163, .goto 56, 219, 0, 0), (166, .aload_n 0, 0, 0, 0), (167, .getfield 10, 6, 0, 15), (170, .aload_n 0, 0, 0, 0), (171, .getfield 37, 6, 5, 103), (174, .getfield 107, 0, 5, 2605), (177, .iconst 1, 0, 0, 0), (178, .invokevirtual 65, 35, 3, 1406), (181, .istore_n 2, 0, 0, 0), (182, .goto 37, 219, 0, 0), (185, .aload_n 0, 0, 0, 0), (186, .getfield 10, 6, 0, 15), (189, .aload_n 0, 0, 0, 0), (190, .getfield 37, 6, 5, 103), (193, .getfield 107, 0, 5, 2605), (196, .iconst 0, 0, 0, 0), (197, .invokevirtual 65, 35, 3, 1406), (200, .istore_n 2, 0, 0, 0), (201, .goto 18, 219, 0, 0), (204, .aload_n 0, 0, 0, 0), (205, .getfield 10, 6, 0, 15), (208, .aload_n 0, 0, 0, 0)]
def a_c74_2 : List (Nat × aR) := [(209, .getfield 37, 6, 5, 103), (212, .getfield 107, 0, 5, 2605), (215, .invokevirtual 80, 40, 2, 2021), (218, .istore_n 2, 0, 0, 0), (219, .iload_n 2, 0, 0, 0), (220, .ifCond .lt 6, 226, 0, 0), (223, .iinc 1 1, 0, 0, 0), (226, .iinc 3 1, 0, 0, 0), (229, .goto (-190), 39, 0, 0), (232, .aload_n 0, 0, 0, 0), (233, .iload_n 1, 0, 0, 0), (234, .invokevirtual 49, 91, 2, 611), (237, .ireturn, 0, 0, 0)]
def a_c74 : List (Nat × aR) := a_c74_0 ++ (a_c74_1 ++ (a_c74_2))
/-- X6 undo -/
def a_c75 : List (Nat × aR) := [(0, .aload_n 0, 0, 0, 0), (1, .getfield 22, 6, 2, 20), (4, .getfield 116, 3, 2, 2705), (7, .ifCond .ne 6, 13, 0, 0), (10, .bipush (-3), 0, 0, 0), (12, .ireturn, 0, 0, 0), (13, .aload_n 0, 0, 0, 0), (14, .getfield 22, 6, 2, 20), (17, .aload_n 0, 0, 0, 0), (18, .getfield 10, 6, 0, 15), (21, .invokevirtual 119, 29, 2, 2706), (24, .aload_n 0, 0, 0, 0), (25, .getfield 22, 6, 2, 20), (28, .getfield 116, 3, 2, 2705), (31, .ireturn, 0, 0, 0)]
/-- X6 save -/
def a_c76 : List (Nat × aR) := [(0, .iload_n 1, 0, 0, 0), (1, .iconst 0, 0, 0, 0), (2, .iconst 1, 0, 0, 0), (3, .invokestatic 122, 93, 3, 608), (6, .ifCond .eq 5, 11, 0, 0), (9, .iconst (-1), 0, 0, 0), (10, .ireturn, 0, 0, 0), (11, .aload_n 0, 0, 0, 0), (12, .getfield 26, 6, 3, 21), (15, .iload_n 1, 0, 0, 0), (16, .aaload, 0, 0, 0), (17, .aload_n 0, 0, 0, 0), (18, .getfield 10, 6, 0, 15), (21, .invokevirtual 126, 30, 2, 2719), (24, .aload_n 0, 0, 0, 0), (25, .getfield 30, 6, 4, 23), (28, .iload_n 1, 0, 0, 0), (29, .iconst 1, 0, 0, 0), (30, .bastore, 0, 0, 0), (31, .aload_n 0, 0, 0, 0), (32, .getfield 10, 6, 0, 15), (35, .getfield 129, 4, 4, 2718), (38, .ireturn, 0, 0, 0)]
/-- X6 restore -/
def a_c77 : List (Nat × aR) := [(0, .iload_n 1, 0, 0, 0), (1, .iconst 0, 0, 0, 0), (2, .iconst 1, 0, 0, 0), (3, .invokestatic 122, 93, 3, 608), (6, .ifCond .eq 5, 11, 0, 0), (9, .iconst (-1), 0, 0, 0), (10, .ireturn, 0, 0, 0), (11, .aload_n 0, 0, 0, 0), (12, .getfield 30, 6, 4, 23), (15, .iload_n 1, 0, 0, 0), (16, .baload, 0, 0, 0), (17, .ifCond .ne 6, 23, 0, 0), (20, .bipush (-3), 0, 0, 0), (22, .ireturn, 0, 0, 0), (23, .aload_n 0, 0, 0, 0), (24, .getfield 22, 6, 2, 20), (27, .aload_n 0, 0, 0, 0), (28, .getfield 10, 6, 0, 15), (31, .invokevirtual 41, 27, 2, 407), (34, .aload_n 0, 0, 0, 0), (35, .getfield 10, 6, 0, 15), (38, .aload_n 0, 0, 0, 0), (39, .getfield 26, 6, 3, 21), (42, .iload_n 1, 0, 0, 0), (43, .aaload, 0, 0, 0), (44, .invokevirtual 126, 30, 2, 2719), (47, .aload_n 0, 0, 0, 0), (48, .aload_n 0, 0, 0, 0), (49, .getfield 10, 6, 0, 15), (52, .getfield 129, 4, 4, 2718), (55, .invokevirtual 49, 91, 2, 611), (58, .ireturn, 0, 0, 0)]
/-- X6 station -/
def a_c78 : List (Nat × aR) := [(0, .aload_n 0, 0, 0, 0), (1, .getfield 10, 6, 0, 15), (4, .getfield 132, 4, 0, 2812), (7, .iload_n 1, 0, 0, 0), (8, .invokevirtual 136, 56, 2, 2813), (11, .ifCond .ne 5, 16, 0, 0), (14, .iconst (-1), 0, 0, 0), (15, .ireturn, 0, 0, 0), (16, .iload_n 2, 0, 0, 0), (17, .iconst 0, 0, 0, 0), (18, .bipush 6, 0, 0, 0), (20, .invokestatic 122, 93, 3, 608), (23, .ifCond .eq 6, 29, 0, 0), (26, .bipush (-2), 0, 0, 0), (28, .ireturn, 0, 0, 0), (29, .iload_n 2, 0, 0, 0), (30, .bipush 6, 0, 0, 0), (32, .if_icmp .ne 9, 41, 0, 0), (35, .aload_n 0, 0, 0, 0), (36, .iload_n 1, 0, 0, 0), (37, .invokevirtual 142, 92, 2, 2814), (40, .ireturn, 0, 0, 0), (41, .aload_n 0, 0, 0, 0), (42, .getfield 10, 6, 0, 15), (45, .getfield 132, 4, 0, 2812), (48, .iload_n 1, 0, 0, 0), (49, .iload_n 2, 0, 0, 0), (50, .invokevirtual 145, 57, 3, 2823), (53, .ireturn, 0, 0, 0)]
/-- X6 event -/
def a_c79 : List (Nat × aR) := [(0, .aload_n 0, 0, 0, 0), (1, .getfield 10, 6, 0, 15), (4, .getfield 148, 4, 1, 2915), (7, .iload_n 1, 0, 0, 0), (8, .invokevirtual 152, 23, 2, 2916), (11, .ifCond .ne 5, 16, 0, 0), (14, .iconst (-1), 0, 0, 0), (15, .ireturn, 0, 0, 0), (16, .iload_n 2, 0, 0, 0), (17, .iconst 0, 0, 0, 0), (18, .bipush 7, 0, 0, 0), (20, .invokestatic 122, 93, 3, 608), (23, .ifCond .eq 6, 29, 0, 0), (26, .bipush (-2), 0, 0, 0), (28, .ireturn, 0, 0, 0), (29, .aload_n 0, 0, 0, 0), (30, .getfield 10, 6, 0, 15), (33, .getfield 148, 4, 1, 2915), (36, .iload_n 1, 0, 0, 0), (37, .iload_n 2, 0, 0, 0), (38, .aload_n 0, 0, 0, 0), (39, .getfield 10, 6, 0, 15), (42, .getfield 129, 4, 4, 2718), (45, .invokevirtual 155, 25, 4, 2917), (48, .ireturn, 0, 0, 0)]
/-- X6 device -/
def a_c80 : List (Nat × aR) := [(0, .aload_n 0, 0, 0, 0), (1, .getfield 10, 6, 0, 15), (4, .getfield 157, 4, 2, 2819), (7, .iload_n 1, 0, 0, 0), (8, .invokevirtual 161, 9, 2, 3006), (11, .ifCond .ne 5, 16, 0, 0), (14, .iconst (-1), 0, 0, 0), (15, .ireturn, 0, 0, 0), (16, .iload_n 2, 0, 0, 0), (17, .iconst 0, 0, 0, 0), (18, .bipush 10, 0, 0, 0), (20, .invokestatic 122, 93, 3, 608), (23, .ifCond .eq 6, 29, 0, 0), (26, .bipush (-2), 0, 0, 0), (28, .ireturn, 0, 0, 0), (29, .iload_n 2, 0, 0, 0), (30, .bipush 10, 0, 0, 0), (32, .if_icmp .ne 12, 44, 0, 0), (35, .aload_n 0, 0, 0, 0), (36, .getfield 10, 6, 0, 15), (39, .iload_n 1, 0, 0, 0), (40, .invokevirtual 164, 46, 2, 3007), (43, .ireturn, 0, 0, 0), (44, .aload_n 0, 0, 0, 0), (45, .getfield 10, 6, 0, 15), (48, .getfield 157, 4, 2, 2819), (51, .iload_n 1, 0, 0, 0), (52, .iload_n 2, 0, 0, 0), (53, .invokevirtual 167, 14, 3, 3011), (56, .ireturn, 0, 0, 0)]
/-- X6 power -/
def a_c81 : List (Nat × aR) := [(0, .iload_n 1, 0, 0, 0), (1, .iconst 0, 0, 0, 0), (2, .bipush 7, 0, 0, 0), (4, .invokestatic 122, 93, 3, 608), (7, .ifCond .ne 11, 18, 0, 0), (10, .iload_n 2, 0, 0, 0), (11, .iload_n 3, 0, 0, 0), (12, .invokestatic 168, 94, 2, 3103), (15, .ifCond .eq 6, 21, 0, 0), (18, .bipush (-2), 0, 0, 0), (20, .ireturn, 0, 0, 0), (21, .iconst 3, 0, 0, 0), (22, .istore 4, 0, 0, 0), (24, .iload 4, 0, 0, 0), (26, .ifCond .lt 27, 53, 0, 0), (29, .aload_n 0, 0, 0, 0), (30, .getfield 10, 6, 0, 15), (33, .iload_n 1, 0, 0, 0), (34, .iload 4, 0, 0, 0), (36, .iload_n 2, 0, 0, 0), (37, .iload_n 3, 0, 0, 0), (38, .invokevirtual 172, 53, 5, 3104), (41, .ifCond .eq 6, 47, 0, 0), (44, .iload 4, 0, 0, 0), (46, .ireturn, 0, 0, 0), (47, .iinc 4 (-1), 0, 0, 0), (50, .goto (-26), 24, 0, 0), (53, .bipush (-6), 0, 0, 0), (55, .ireturn, 0, 0, 0)]
/-- X6 offer -/
def a_c82 : List (Nat × aR) := [(0, .aload_n 0, 0, 0, 0), (1, .getfield 10, 6, 0, 15), (4, .getfield 157, 4, 2, 2819), (7, .iload_n 1, 0, 0, 0), (8, .invokevirtual 161, 9, 2, 3006), (11, .ifCond .ne 5, 16, 0, 0), (14, .iconst (-1), 0, 0, 0), (15, .ireturn, 0, 0, 0), (16, .iload_n 2, 0, 0, 0), (17, .iconst 0, 0, 0, 0), (18, .iconst 3, 0, 0, 0), (19, .invokestatic 122, 93, 3, 608), (22, .ifCond .eq 6, 28, 0, 0), (25, .bipush (-2), 0, 0, 0), (27, .ireturn, 0, 0, 0), (28, .aload_n 0, 0, 0, 0), (29, .getfield 10, 6, 0, 15), (32, .iload_n 1, 0, 0, 0), (33, .iload_n 2, 0, 0, 0), (34, .invokevirtual 176, 50, 3, 3113), (37, .ireturn, 0, 0, 0)]
/-- X6 next -/
def a_c83 : List (Nat × aR) := [(0, .iload_n 1, 0, 0, 0), (1, .ifCond .ge 6, 7, 0, 0), (4, .bipush (-2), 0, 0, 0), (6, .ireturn, 0, 0, 0), (7, .aload_n 0, 0, 0, 0), (8, .getfield 10, 6, 0, 15), (11, .getfield 157, 4, 2, 2819), (14, .iload_n 1, 0, 0, 0), (15, .invokevirtual 179, 19, 2, 3122), (18, .ireturn, 0, 0, 0)]
/-- X6 leases -/
def a_c84 : List (Nat × aR) := [(0, .iload_n 1, 0, 0, 0), (1, .iconst 0, 0, 0, 0), (2, .bipush 7, 0, 0, 0), (4, .invokestatic 122, 93, 3, 608), (7, .ifCond .eq 6, 13, 0, 0), (10, .bipush (-2), 0, 0, 0), (12, .ireturn, 0, 0, 0), (13, .aload_n 0, 0, 0, 0), (14, .getfield 10, 6, 0, 15), (17, .getfield 157, 4, 2, 2819), (20, .iload_n 1, 0, 0, 0), (21, .invokevirtual 182, 16, 2, 3222), (24, .ireturn, 0, 0, 0)]
/-- X6 total -/
def a_c85 : List (Nat × aR) := [(0, .iload_n 1, 0, 0, 0), (1, .iconst 0, 0, 0, 0), (2, .bipush 15, 0, 0, 0), (4, .invokestatic 122, 93, 3, 608), (7, .ifCond .eq 6, 13, 0, 0), (10, .bipush (-2), 0, 0, 0), (12, .ireturn, 0, 0, 0), (13, .iload_n 1, 0, 0, 0), (14, .bipush 11, 0, 0, 0), (16, .if_icmp .ne 11, 27, 0, 0), (19, .aload_n 0, 0, 0, 0), (20, .getfield 22, 6, 2, 20), (23, .getfield 116, 3, 2, 2705), (26, .ireturn, 0, 0, 0), (27, .iload_n 1, 0, 0, 0), (28, .bipush 12, 0, 0, 0), (30, .if_icmp .ne 11, 41, 0, 0), (33, .aload_n 0, 0, 0, 0), (34, .getfield 37, 6, 5, 103), (37, .getfield 185, 0, 1, 3307), (40, .ireturn, 0, 0, 0), (41, .aload_n 0, 0, 0, 0), (42, .getfield 10, 6, 0, 15), (45, .iload_n 1, 0, 0, 0), (46, .invokevirtual 188, 55, 2, 3308), (49, .ireturn, 0, 0, 0)]
/-- X6 vacant -/
def a_c86 : List (Nat × aR) := [(0, .iload_n 1, 0, 0, 0), (1, .iconst 0, 0, 0, 0), (2, .bipush 7, 0, 0, 0), (4, .invokestatic 122, 93, 3, 608), (7, .ifCond .ne 12, 19, 0, 0), (10, .iload_n 2, 0, 0, 0), (11, .iconst 0, 0, 0, 0), (12, .iconst 3, 0, 0, 0), (13, .invokestatic 122, 93, 3, 608), (16, .ifCond .eq 6, 22, 0, 0), (19, .bipush (-2), 0, 0, 0), (21, .ireturn, 0, 0, 0), (22, .iconst 0, 0, 0, 0), (23, .istore_n 3, 0, 0, 0), (24, .iconst 5, 0, 0, 0), (25, .istore 4, 0, 0, 0), (27, .iload 4, 0, 0, 0), (29, .bipush 99, 0, 0, 0), (31, .if_icmp .gt 44, 75, 0, 0), (34, .iconst 5, 0, 0, 0), (35, .istore 5, 0, 0, 0), (37, .iload 5, 0, 0, 0), (39, .bipush 99, 0, 0, 0), (41, .if_icmp .gt 28, 69, 0, 0), (44, .aload_n 0, 0, 0, 0), (45, .getfield 10, 6, 0, 15), (48, .iload_n 1, 0, 0, 0), (49, .iload_n 2, 0, 0, 0), (50, .iload 4, 0, 0, 0), (52, .iload 5, 0, 0, 0), (54, .invokevirtual 172, 53, 5, 3104), (57, .ifCond .eq 6, 63, 0, 0), (60, .iinc 3 1, 0, 0, 0), (63, .iinc 5 10, 0, 0, 0), (66, .goto (-29), 37, 0, 0), (69, .iinc 4 10, 0, 0, 0), (72, .goto (-45), 27, 0, 0), (75, .iload_n 3, 0, 0, 0), (76, .ireturn, 0, 0, 0)]
/-- X6 allowedFrom -/
def a_c87_0 : List (Nat × aR) := [(0, .iload_n 1, 0, 0, 0), (1, .iconst 0, 0, 0, 0), (2, .bipush 7, 0, 0, 0), (4, .invokestatic 122, 93, 3, 608), (7, .ifCond .ne 21, 28, 0, 0), (10, .iload_n 2, 0, 0, 0), (11, .iload_n 3, 0, 0, 0), (12, .invokestatic 168, 94, 2, 3103), (15, .ifCond .ne 13, 28, 0, 0), (18, .iload 4, 0, 0, 0), (20, .iconst 0, 0, 0, 0), (21, .iconst 3, 0, 0, 0), (22, .invokestatic 122, 93, 3, 608), (25, .ifCond .eq 6, 31, 0, 0), (28, .bipush (-2), 0, 0, 0), (30, .ireturn, 0, 0, 0), (31, .aload_n 0, 0, 0, 0), (32, .getfield 10, 6, 0, 15), (35, .iload_n 1, 0, 0, 0), (36, .iload 4, 0, 0, 0), (38, .iload_n 2, 0, 0, 0), (39, .iload_n 3, 0, 0, 0), (40, .invokevirtual 172, 53, 5, 3104), (43, .ifCond .eq 11, 54, 0, 0), (46, .aload_n 0, 0, 0, 0), (47, .getfield 10, 6, 0, 15), (50, .getfield 129, 4, 4, 2718), (53, .ireturn, 0, 0, 0), (54, .aload_n 0, 0, 0, 0), (55, .getfield 16, 6, 1, 16), (58, .aload_n 0, 0, 0, 0), (59, .getfield 10, 6, 0, 15), (62, .invokevirtual 126, 30, 2, 2719), (65, .bipush (-6), 0, 0, 0), (67, .istore 5, 0, 0, 0), (69, .iconst 0, 0, 0, 0), (70, .istore 6, 0, 0, 0), (72, .iload 6, 0, 0, 0), (74, .aload_n 0, 0, 0, 0), (75, .getfield 10, 6, 0, 15)]
def a_c87_1 : List (Nat × aR) := [(78, .getfield 148, 4, 1, 2915), (81, .getfield 191, 2, 7, 3420), (84, .if_icmp .ge 78, 162, 0, 0), (87, .aload_n 0, 0, 0, 0), (88, .getfield 10, 6, 0, 15), (91, .getfield 148, 4, 1, 2915), (94, .getfield 192, 2, 5, 3421), (97, .iload 6, 0, 0, 0), (99, .iaload, 0, 0, 0), (100, .istore 7, 0, 0, 0), (102, .aload_n 0, 0, 0, 0), (103, .getfield 16, 6, 1, 16), (106, .iload 7, 0, 0, 0), (108, .putfield 129, 4, 4, 2718), (111, .iload 7, 0, 0, 0), (113, .aload_n 0, 0, 0, 0), (114, .getfield 10, 6, 0, 15), (117, .getfield 129, 4, 4, 2718), (120, .if_icmp .le 36, 156, 0, 0), (123, .iload 5, 0, 0, 0), (125, .bipush (-6), 0, 0, 0), (127, .if_icmp .eq 10, 137, 0, 0), (130, .iload 7, 0, 0, 0), (132, .iload 5, 0, 0, 0), (134, .if_icmp .ge 22, 156, 0, 0), (137, .aload_n 0, 0, 0, 0), (138, .getfield 16, 6, 1, 16), (141, .iload_n 1, 0, 0, 0), (142, .iload 4, 0, 0, 0), (144, .iload_n 2, 0, 0, 0), (145, .iload_n 3, 0, 0, 0), (146, .invokevirtual 172, 53, 5, 3104), (149, .ifCond .eq 7, 156, 0, 0), (152, .iload 7, 0, 0, 0), (154, .istore 5, 0, 0, 0), (156, .iinc 6 1, 0, 0, 0), (159, .goto (-87), 72, 0, 0), (162, .iload 5, 0, 0, 0), (164, .ireturn, 0, 0, 0)]
def a_c87 : List (Nat × aR) := a_c87_0 ++ (a_c87_1)
/-- X6 wouldStrike -/
def a_c88_0 : List (Nat × aR) := [(0, .aload_n 0, 0, 0, 0), (1, .getfield 10, 6, 0, 15), (4, .getfield 132, 4, 0, 2812), (7, .iload_n 1, 0, 0, 0), (8, .invokevirtual 136, 56, 2, 2813), (11, .ifCond .ne 5, 16, 0, 0), (14, .iconst (-1), 0, 0, 0), (15, .ireturn, 0, 0, 0), (16, .aload_n 0, 0, 0, 0), (17, .getfield 10, 6, 0, 15), (20, .getfield 132, 4, 0, 2812), (23, .getfield 196, 5, 4, 2818), (26, .iload_n 1, 0, 0, 0), (27, .iaload, 0, 0, 0), (28, .iconst 1, 0, 0, 0), (29, .if_icmp .ne 6, 35, 0, 0), (32, .bipush (-3), 0, 0, 0), (34, .ireturn, 0, 0, 0), (35, .aload_n 0, 0, 0, 0), (36, .getfield 16, 6, 1, 16), (39, .aload_n 0, 0, 0, 0), (40, .getfield 10, 6, 0, 15), (43, .invokevirtual 126, 30, 2, 2719), (46, .aload_n 0, 0, 0, 0), (47, .getfield 16, 6, 1, 16), (50, .iload_n 1, 0, 0, 0), (51, .iconst 1, 0, 0, 0), (52, .invokevirtual 65, 35, 3, 1406), (55, .pop, 0, 0, 0), (56, .iconst 0, 0, 0, 0), (57, .istore_n 2, 0, 0, 0), (58, .iconst 0, 0, 0, 0), (59, .istore_n 3, 0, 0, 0), (60, .iload_n 3, 0, 0, 0), (61, .aload_n 0, 0, 0, 0), (62, .getfield 10, 6, 0, 15), (65, .getfield 157, 4, 2, 2819), (68, .getfield 199, 1, 10, 2820), (71, .if_icmp .ge 40, 111, 0, 0), (74, .aload_n 0, 0, 0, 0)]
def a_c88_1 : List (Nat × aR) := [(75, .getfield 16, 6, 1, 16), (78, .getfield 157, 4, 2, 2819), (81, .iload_n 3, 0, 0, 0), (82, .invokevirtual 200, 11, 2, 3506), (85, .ifCond .eq 20, 105, 0, 0), (88, .aload_n 0, 0, 0, 0), (89, .getfield 10, 6, 0, 15), (92, .getfield 157, 4, 2, 2819), (95, .iload_n 3, 0, 0, 0), (96, .invokevirtual 200, 11, 2, 3506), (99, .ifCond .ne 6, 105, 0, 0), (102, .iinc 2 1, 0, 0, 0), (105, .iinc 3 1, 0, 0, 0), (108, .goto (-48), 60, 0, 0), (111, .iload_n 2, 0, 0, 0), (112, .ireturn, 0, 0, 0)]
def a_c88 : List (Nat × aR) := a_c88_0 ++ (a_c88_1)
/-- X6 channelIn -/
def a_c89_0 : List (Nat × aR) := [(0, .aload_n 0, 0, 0, 0), (1, .getfield 10, 6, 0, 15), (4, .getfield 157, 4, 2, 2819), (7, .iload_n 1, 0, 0, 0), (8, .invokevirtual 161, 9, 2, 3006), (11, .ifCond .ne 5, 16, 0, 0), (14, .iconst (-1), 0, 0, 0), (15, .ireturn, 0, 0, 0), (16, .iload_n 2, 0, 0, 0), (17, .iconst 0, 0, 0, 0), (18, .bipush 99, 0, 0, 0), (20, .invokestatic 122, 93, 3, 608), (23, .ifCond .eq 6, 29, 0, 0), (26, .bipush (-2), 0, 0, 0), (28, .ireturn, 0, 0, 0), (29, .aload_n 0, 0, 0, 0), (30, .getfield 16, 6, 1, 16), (33, .aload_n 0, 0, 0, 0), (34, .getfield 10, 6, 0, 15), (37, .invokevirtual 126, 30, 2, 2719), (40, .iconst 0, 0, 0, 0), (41, .istore_n 3, 0, 0, 0), (42, .iload_n 3, 0, 0, 0), (43, .iload_n 2, 0, 0, 0), (44, .if_icmp .ge 17, 61, 0, 0), (47, .aload_n 0, 0, 0, 0), (48, .getfield 16, 6, 1, 16), (51, .invokevirtual 203, 41, 1, 3516), (54, .pop, 0, 0, 0), (55, .iinc 3 1, 0, 0, 0), (58, .goto (-16), 42, 0, 0), (61, .aload_n 0, 0, 0, 0), (62, .getfield 16, 6, 1, 16), (65, .getfield 157, 4, 2, 2819), (68, .iload_n 1, 0, 0, 0), (69, .invokevirtual 206, 10, 2, 2821), (72, .ifCond .eq 18, 90, 0, 0), (75, .aload_n 0, 0, 0, 0), (76, .getfield 16, 6, 1, 16), (79, .getfield 157, 4, 2, 2819)]
def a_c89_1 : List (Nat × aR) := [(82, .getfield 209, 1, 3, 3515), (85, .iload_n 1, 0, 0, 0), (86, .iaload, 0, 0, 0), (87, .goto 5, 92, 0, 0), (90, .bipush (-6), 0, 0, 0), (92, .ireturn, 0, 0, 0)]
def a_c89 : List (Nat × aR) := a_c89_0 ++ (a_c89_1)
/-- X6 clearIn -/
def a_c90 : List (Nat × aR) := [(0, .aload_n 0, 0, 0, 0), (1, .getfield 16, 6, 1, 16), (4, .aload_n 0, 0, 0, 0), (5, .getfield 10, 6, 0, 15), (8, .invokevirtual 126, 30, 2, 2719), (11, .iconst 0, 0, 0, 0), (12, .istore_n 1, 0, 0, 0), (13, .iload_n 1, 0, 0, 0), (14, .bipush 50, 0, 0, 0), (16, .if_icmp .gt 32, 48, 0, 0), (19, .aload_n 0, 0, 0, 0), (20, .getfield 16, 6, 1, 16), (23, .getfield 157, 4, 2, 2819), (26, .invokevirtual 212, 17, 1, 3609), (29, .ifCond .ne 5, 34, 0, 0), (32, .iload_n 1, 0, 0, 0), (33, .ireturn, 0, 0, 0), (34, .aload_n 0, 0, 0, 0), (35, .getfield 16, 6, 1, 16), (38, .invokevirtual 203, 41, 1, 3516), (41, .pop, 0, 0, 0), (42, .iinc 1 1, 0, 0, 0), (45, .goto (-32), 13, 0, 0), (48, .bipush (-6), 0, 0, 0), (50, .ireturn, 0, 0, 0)]
/-- X6 recorded -/
def a_c91 : List (Nat × aR) := [(0, .iload_n 1, 0, 0, 0), (1, .ifCond .lt 10, 11, 0, 0), (4, .aload_n 0, 0, 0, 0), (5, .getfield 22, 6, 2, 20), (8, .invokevirtual 215, 28, 1, 615), (11, .iload_n 1, 0, 0, 0), (12, .ireturn, 0, 0, 0)]
/-- X6 barredAlone -/
def a_c92_0 : List (Nat × aR) := [(0, .aload_n 0, 0, 0, 0), (1, .getfield 16, 6, 1, 16), (4, .aload_n 0, 0, 0, 0), (5, .getfield 10, 6, 0, 15), (8, .invokevirtual 126, 30, 2, 2719), (11, .aload_n 0, 0, 0, 0), (12, .getfield 16, 6, 1, 16), (15, .getfield 132, 4, 0, 2812), (18, .getfield 196, 5, 4, 2818), (21, .iload_n 1, 0, 0, 0), (22, .iconst 0, 0, 0, 0), (23, .iastore, 0, 0, 0), (24, .iconst 0, 0, 0, 0), (25, .istore_n 2, 0, 0, 0), (26, .iconst 0, 0, 0, 0), (27, .istore_n 3, 0, 0, 0), (28, .iload_n 3, 0, 0, 0), (29, .aload_n 0, 0, 0, 0), (30, .getfield 10, 6, 0, 15), (33, .getfield 157, 4, 2, 2819), (36, .getfield 199, 1, 10, 2820), (39, .if_icmp .ge 48, 87, 0, 0), (42, .aload_n 0, 0, 0, 0), (43, .getfield 10, 6, 0, 15), (46, .getfield 157, 4, 2, 2819), (49, .iload_n 3, 0, 0, 0), (50, .invokevirtual 206, 10, 2, 2821), (53, .ifCond .eq 28, 81, 0, 0), (56, .aload_n 0, 0, 0, 0), (57, .getfield 10, 6, 0, 15), (60, .iload_n 3, 0, 0, 0), (61, .invokevirtual 218, 52, 2, 2822), (64, .ifCond .ne 17, 81, 0, 0), (67, .aload_n 0, 0, 0, 0), (68, .getfield 16, 6, 1, 16), (71, .iload_n 3, 0, 0, 0), (72, .invokevirtual 218, 52, 2, 2822), (75, .ifCond .eq 6, 81, 0, 0), (78, .iinc 2 1, 0, 0, 0), (81, .iinc 3 1, 0, 0, 0)]
def a_c92_1 : List (Nat × aR) := [(84, .goto (-56), 28, 0, 0), (87, .iload_n 2, 0, 0, 0), (88, .ireturn, 0, 0, 0)]
def a_c92 : List (Nat × aR) := a_c92_0 ++ (a_c92_1)
/-- X6 isOutside -/
def a_c93 : List (Nat × aR) := [(0, .iload_n 0, 0, 0, 0), (1, .iload_n 1, 0, 0, 0), (2, .if_icmp .lt 8, 10, 0, 0), (5, .iload_n 0, 0, 0, 0), (6, .iload_n 2, 0, 0, 0), (7, .if_icmp .le 7, 14, 0, 0), (10, .iconst 1, 0, 0, 0), (11, .goto 4, 15, 0, 0), (14, .iconst 0, 0, 0, 0), (15, .ireturn, 0, 0, 0)]
/-- X6 isNoPlace -/
def a_c94 : List (Nat × aR) := [(0, .iload_n 0, 0, 0, 0), (1, .iconst 0, 0, 0, 0), (2, .bipush 99, 0, 0, 0), (4, .invokestatic 122, 93, 3, 608), (7, .ifCond .ne 13, 20, 0, 0), (10, .iload_n 1, 0, 0, 0), (11, .iconst 0, 0, 0, 0), (12, .bipush 99, 0, 0, 0), (14, .invokestatic 122, 93, 3, 608), (17, .ifCond .eq 7, 24, 0, 0), (20, .iconst 1, 0, 0, 0), (21, .goto 4, 25, 0, 0), (24, .iconst 0, 0, 0, 0), (25, .ireturn, 0, 0, 0)]
/-- X6 isWithin -/
def a_c95 : List (Nat × aR) := [(0, .iload_n 0, 0, 0, 0), (1, .iload_n 0, 0, 0, 0), (2, .imul, 0, 0, 0), (3, .iload_n 1, 0, 0, 0), (4, .iload_n 1, 0, 0, 0), (5, .imul, 0, 0, 0), (6, .iadd, 0, 0, 0), (7, .iload_n 2, 0, 0, 0), (8, .iload_n 2, 0, 0, 0), (9, .imul, 0, 0, 0), (10, .if_icmp .gt 7, 17, 0, 0), (13, .iconst 1, 0, 0, 0), (14, .goto 4, 18, 0, 0), (17, .iconst 0, 0, 0, 0), (18, .ireturn, 0, 0, 0)]
/-- X6 copyRow -/
def a_c96 : List (Nat × aR) := [(0, .aload_n 0, 0, 0, 0), (1, .iconst 0, 0, 0, 0), (2, .aload_n 1, 0, 0, 0), (3, .iconst 0, 0, 0, 0), (4, .aload_n 0, 0, 0, 0), (5, .arraylength, 0, 0, 0), (6, .aload_n 1, 0, 0, 0), (7, .arraylength, 0, 0, 0), (8, .invokestatic 221, 1000, 0, 502), (11, .invokestatic 226, 1001, 0, 506), (14, .return_, 0, 0, 0)]
/-- X7 in -/
def a_c97 : List (Nat × aR) := [(0, .iload_n 0, 0, 0, 0), (1, .iload_n 1, 0, 0, 0), (2, .if_icmp .lt 12, 14, 0, 0), (5, .iload_n 0, 0, 0, 0), (6, .iload_n 2, 0, 0, 0), (7, .if_icmp .gt 7, 14, 0, 0), (10, .iconst 1, 0, 0, 0), (11, .goto 4, 15, 0, 0), (14, .iconst 0, 0, 0, 0), (15, .ireturn, 0, 0, 0)]
/-- X7 records -/
def a_c98_0 : List (Nat × aR) := [(0, .aload_n 0, 0, 0, 0), (1, .getfield 29, 7, 6, 712), (4, .ifCond .eq 4, 8, 0, 0), (7, .return_, 0, 0, 0), (8, .aload_n 0, 0, 0, 0), (9, .getfield 33, 7, 5, 713), (12, .iconst 5, 0, 0, 0), (13, .if_icmp .ne 44, 57, 0, 0), (16, .iconst 0, 0, 0, 0), (17, .istore_n 1, 0, 0, 0), (18, .iload_n 1, 0, 0, 0), (19, .sipush 1056, 0, 0, 0), (22, .if_icmp .ge 25, 47, 0, 0), (25, .aload_n 0, 0, 0, 0), (26, .getfield 13, 7, 1, 322), (29, .iload_n 1, 0, 0, 0), (30, .aload_n 0, 0, 0, 0), (31, .getfield 13, 7, 1, 322), (34, .iload_n 1, 0, 0, 0), (35, .sipush 264, 0, 0, 0), (38, .iadd, 0, 0, 0), (39, .iaload, 0, 0, 0), (40, .iastore, 0, 0, 0), (41, .iinc 1 1, 0, 0, 0), (44, .goto (-26), 18, 0, 0), (47, .aload_n 0, 0, 0, 0), (48, .dup, 0, 0, 0), (49, .getfield 33, 7, 5, 713), (52, .iconst 1, 0, 0, 0), (53, .isub, 0, 0, 0), (54, .putfield 33, 7, 5, 713), (57, .iconst 0, 0, 0, 0), (58, .istore_n 1, 0, 0, 0), (59, .iload_n 1, 0, 0, 0), (60, .sipush 264, 0, 0, 0), (63, .if_icmp .ge 30, 93, 0, 0), (66, .aload_n 0, 0, 0, 0), (67, .getfield 13, 7, 1, 322), (70, .sipush 264, 0, 0, 0), (73, .aload_n 0, 0, 0, 0)]
def a_c98_1 : List (Nat × aR) := [(74, .getfield 33, 7, 5, 713), (77, .imul, 0, 0, 0), (78, .iload_n 1, 0, 0, 0), (79, .iadd, 0, 0, 0), (80, .aload_n 0, 0, 0, 0), (81, .getfield 7, 7, 0, 321), (84, .iload_n 1, 0, 0, 0), (85, .iaload, 0, 0, 0), (86, .iastore, 0, 0, 0), (87, .iinc 1 1, 0, 0, 0), (90, .goto (-31), 59, 0, 0), (93, .aload_n 0, 0, 0, 0), (94, .dup, 0, 0, 0), (95, .getfield 33, 7, 5, 713), (98, .iconst 1, 0, 0, 0), (99, .iadd, 0, 0, 0), (100, .putfield 33, 7, 5, 713), (103, .return_, 0, 0, 0)]
def a_c98 : List (Nat × aR) := a_c98_0 ++ (a_c98_1)
/-- X7 holds -/
def a_c99 : List (Nat × aR) := [(0, .iconst 0, 0, 0, 0), (1, .istore_n 1, 0, 0, 0), (2, .iload_n 1, 0, 0, 0), (3, .sipush 264, 0, 0, 0), (6, .if_icmp .ge 21, 27, 0, 0), (9, .aload_n 0, 0, 0, 0), (10, .getfield 23, 7, 4, 401), (13, .iload_n 1, 0, 0, 0), (14, .aload_n 0, 0, 0, 0), (15, .getfield 7, 7, 0, 321), (18, .iload_n 1, 0, 0, 0), (19, .iaload, 0, 0, 0), (20, .iastore, 0, 0, 0), (21, .iinc 1 1, 0, 0, 0), (24, .goto (-22), 2, 0, 0), (27, .return_, 0, 0, 0)]
/-- X7 lets -/
def a_c100 : List (Nat × aR) := [(0, .iconst 0, 0, 0, 0), (1, .istore_n 1, 0, 0, 0), (2, .iload_n 1, 0, 0, 0), (3, .sipush 264, 0, 0, 0), (6, .if_icmp .ge 21, 27, 0, 0), (9, .aload_n 0, 0, 0, 0), (10, .getfield 7, 7, 0, 321), (13, .iload_n 1, 0, 0, 0), (14, .aload_n 0, 0, 0, 0), (15, .getfield 23, 7, 4, 401), (18, .iload_n 1, 0, 0, 0), (19, .iaload, 0, 0, 0), (20, .iastore, 0, 0, 0), (21, .iinc 1 1, 0, 0, 0), (24, .goto (-22), 2, 0, 0), (27, .return_, 0, 0, 0)]
/-- X7 isStation -/
def a_c101 : List (Nat × aR) := [(0, .iload_n 1, 0, 0, 0), (1, .ifCond .lt 17, 18, 0, 0), (4, .iload_n 1, 0, 0, 0), (5, .aload_n 0, 0, 0, 0), (6, .getfield 7, 7, 0, 321), (9, .iconst 1, 0, 0, 0), (10, .iaload, 0, 0, 0), (11, .if_icmp .ge 7, 18, 0, 0), (14, .iconst 1, 0, 0, 0), (15, .goto 4, 19, 0, 0), (18, .iconst 0, 0, 0, 0), (19, .ireturn, 0, 0, 0)]
/-- X7 isEvent -/
def a_c102 : List (Nat × aR) := [(0, .iload_n 1, 0, 0, 0), (1, .ifCond .lt 17, 18, 0, 0), (4, .iload_n 1, 0, 0, 0), (5, .aload_n 0, 0, 0, 0), (6, .getfield 7, 7, 0, 321), (9, .iconst 2, 0, 0, 0), (10, .iaload, 0, 0, 0), (11, .if_icmp .ge 7, 18, 0, 0), (14, .iconst 1, 0, 0, 0), (15, .goto 4, 19, 0, 0), (18, .iconst 0, 0, 0, 0), (19, .ireturn, 0, 0, 0)]
/-- X7 isDevice -/
def a_c103 : List (Nat × aR) := [(0, .iload_n 1, 0, 0, 0), (1, .ifCond .lt 17, 18, 0, 0), (4, .iload_n 1, 0, 0, 0), (5, .aload_n 0, 0, 0, 0), (6, .getfield 7, 7, 0, 321), (9, .iconst 3, 0, 0, 0), (10, .iaload, 0, 0, 0), (11, .if_icmp .ge 7, 18, 0, 0), (14, .iconst 1, 0, 0, 0), (15, .goto 4, 19, 0, 0), (18, .iconst 0, 0, 0, 0), (19, .ireturn, 0, 0, 0)]
/-- X7 ofStation -/
def a_c104 : List (Nat × aR) := [(0, .aload_n 0, 0, 0, 0), (1, .getfield 7, 7, 0, 321), (4, .bipush 8, 0, 0, 0), (6, .iconst 5, 0, 0, 0), (7, .iload_n 1, 0, 0, 0), (8, .imul, 0, 0, 0), (9, .iadd, 0, 0, 0), (10, .iload_n 2, 0, 0, 0), (11, .iadd, 0, 0, 0), (12, .iaload, 0, 0, 0), (13, .ireturn, 0, 0, 0)]
/-- X7 ofEvent -/
def a_c105 : List (Nat × aR) := [(0, .aload_n 0, 0, 0, 0), (1, .getfield 7, 7, 0, 321), (4, .bipush 48, 0, 0, 0), (6, .bipush 7, 0, 0, 0), (8, .iload_n 1, 0, 0, 0), (9, .imul, 0, 0, 0), (10, .iadd, 0, 0, 0), (11, .iload_n 2, 0, 0, 0), (12, .iadd, 0, 0, 0), (13, .iaload, 0, 0, 0), (14, .ireturn, 0, 0, 0)]
/-- X7 ofDevice -/
def a_c106 : List (Nat × aR) := [(0, .aload_n 0, 0, 0, 0), (1, .getfield 7, 7, 0, 321), (4, .bipush 104, 0, 0, 0), (6, .bipush 10, 0, 0, 0), (8, .iload_n 1, 0, 0, 0), (9, .imul, 0, 0, 0), (10, .iadd, 0, 0, 0), (11, .iload_n 2, 0, 0, 0), (12, .iadd, 0, 0, 0), (13, .iaload, 0, 0, 0), (14, .ireturn, 0, 0, 0)]
/-- X7 puts -/
def a_c107 : List (Nat × aR) := [(0, .aload_n 0, 0, 0, 0), (1, .getfield 7, 7, 0, 321), (4, .bipush 104, 0, 0, 0), (6, .bipush 10, 0, 0, 0), (8, .iload_n 1, 0, 0, 0), (9, .imul, 0, 0, 0), (10, .iadd, 0, 0, 0), (11, .iload_n 2, 0, 0, 0), (12, .iadd, 0, 0, 0), (13, .iload_n 3, 0, 0, 0), (14, .iastore, 0, 0, 0), (15, .return_, 0, 0, 0)]
/-- X7 isPlace -/
def a_c108 : List (Nat × aR) := [(0, .iload_n 0, 0, 0, 0), (1, .iconst 0, 0, 0, 0), (2, .bipush 99, 0, 0, 0), (4, .invokestatic 37, 97, 3, 702), (7, .ifCond .eq 17, 24, 0, 0), (10, .iload_n 1, 0, 0, 0), (11, .iconst 0, 0, 0, 0), (12, .bipush 99, 0, 0, 0), (14, .invokestatic 37, 97, 3, 702), (17, .ifCond .eq 7, 24, 0, 0), (20, .iconst 1, 0, 0, 0), (21, .goto 4, 25, 0, 0), (24, .iconst 0, 0, 0, 0), (25, .ireturn, 0, 0, 0)]
/-- X7 isChannel -/
def a_c109 : List (Nat × aR) := [(0, .iload_n 0, 0, 0, 0), (1, .iconst 0, 0, 0, 0), (2, .bipush 7, 0, 0, 0), (4, .invokestatic 37, 97, 3, 702), (7, .ireturn, 0, 0, 0)]
/-- X7 isPower -/
def a_c110 : List (Nat × aR) := [(0, .iload_n 0, 0, 0, 0), (1, .iconst 0, 0, 0, 0), (2, .iconst 3, 0, 0, 0), (3, .invokestatic 37, 97, 3, 702), (6, .ireturn, 0, 0, 0)]
/-- X7 radiusOf -/
def a_c111 : List (Nat × aR) := [(0, .iload_n 0, 0, 0, 0), (1, .ifCond .ne 7, 8, 0, 0), (4, .iconst 4, 0, 0, 0), (5, .goto 35, 40, 0, 0), (8, .iload_n 0, 0, 0, 0), (9, .iconst 1, 0, 0, 0), (10, .if_icmp .ne 8, 18, 0, 0), (13, .bipush 9, 0, 0, 0), (15, .goto 25, 40, 0, 0), (18, .iload_n 0, 0, 0, 0), (19, .iconst 2, 0, 0, 0), (20, .if_icmp .ne 8, 28, 0, 0), (23, .bipush 16, 0, 0, 0), (25, .goto 15, 40, 0, 0), (28, .iload_n 0, 0, 0, 0), (29, .iconst 3, 0, 0, 0), (30, .if_icmp .ne 8, 38, 0, 0), (33, .bipush 26, 0, 0, 0), (35, .goto 5, 40, 0, 0), (38, .bipush 40, 0, 0, 0), (40, .ireturn, 0, 0, 0)]
/-- X7 reach -/
def a_c112 : List (Nat × aR) := [(0, .iload_n 0, 0, 0, 0), (1, .ifCond .ne 7, 8, 0, 0), (4, .iconst 1, 0, 0, 0), (5, .goto 24, 29, 0, 0), (8, .iload_n 0, 0, 0, 0), (9, .iconst 1, 0, 0, 0), (10, .if_icmp .ne 7, 17, 0, 0), (13, .iconst 3, 0, 0, 0), (14, .goto 15, 29, 0, 0), (17, .iload_n 0, 0, 0, 0), (18, .iconst 2, 0, 0, 0), (19, .if_icmp .ne 8, 27, 0, 0), (22, .bipush 6, 0, 0, 0), (24, .goto 5, 29, 0, 0), (27, .bipush 10, 0, 0, 0), (29, .ireturn, 0, 0, 0)]
/-- X7 isNear -/
def a_c113 : List (Nat × aR) := [(0, .iload_n 0, 0, 0, 0), (1, .iload_n 2, 0, 0, 0), (2, .isub, 0, 0, 0), (3, .iload_n 0, 0, 0, 0), (4, .iload_n 2, 0, 0, 0), (5, .isub, 0, 0, 0), (6, .imul, 0, 0, 0), (7, .iload_n 1, 0, 0, 0), (8, .iload_n 3, 0, 0, 0), (9, .isub, 0, 0, 0), (10, .iload_n 1, 0, 0, 0), (11, .iload_n 3, 0, 0, 0), (12, .isub, 0, 0, 0), (13, .imul, 0, 0, 0), (14, .iadd, 0, 0, 0), (15, .iload 4, 0, 0, 0), (17, .iload 4, 0, 0, 0), (19, .imul, 0, 0, 0), (20, .if_icmp .gt 7, 27, 0, 0), (23, .iconst 1, 0, 0, 0), (24, .goto 4, 28, 0, 0), (27, .iconst 0, 0, 0, 0), (28, .ireturn, 0, 0, 0)]
/-- X7 isBarredBy -/
def a_c114_0 : List (Nat × aR) := [(0, .aload_n 0, 0, 0, 0), (1, .iload_n 1, 0, 0, 0), (2, .iconst 2, 0, 0, 0), (3, .invokevirtual 41, 104, 3, 1106), (6, .iload_n 2, 0, 0, 0), (7, .isub, 0, 0, 0), (8, .istore 6, 0, 0, 0), (10, .aload_n 0, 0, 0, 0), (11, .iload_n 1, 0, 0, 0), (12, .iconst 4, 0, 0, 0), (13, .invokevirtual 41, 104, 3, 1106), (16, .ifCond .eq 13, 29, 0, 0), (19, .iload 6, 0, 0, 0), (21, .iconst (-1), 0, 0, 0), (22, .iconst 1, 0, 0, 0), (23, .invokestatic 37, 97, 3, 702), (26, .ifCond .ne 5, 31, 0, 0), (29, .iconst 0, 0, 0, 0), (30, .ireturn, 0, 0, 0), (31, .aload_n 0, 0, 0, 0), (32, .iload_n 1, 0, 0, 0), (33, .iconst 3, 0, 0, 0), (34, .invokevirtual 41, 104, 3, 1106), (37, .invokestatic 45, 111, 1, 1110), (40, .istore 7, 0, 0, 0), (42, .iload 6, 0, 0, 0), (44, .ifCond .ne 8, 52, 0, 0), (47, .iload 7, 0, 0, 0), (49, .goto 15, 64, 0, 0), (52, .iload 7, 0, 0, 0), (54, .aload_n 0, 0, 0, 0), (55, .getfield 7, 7, 0, 321), (58, .iconst 5, 0, 0, 0), (59, .iaload, 0, 0, 0), (60, .imul, 0, 0, 0), (61, .bipush 100, 0, 0, 0), (63, .idiv, 0, 0, 0), (64, .istore 8, 0, 0, 0), (66, .iload_n 3, 0, 0, 0), (67, .iload 4, 0, 0, 0)]
def a_c114_1 : List (Nat × aR) := [(69, .aload_n 0, 0, 0, 0), (70, .iload_n 1, 0, 0, 0), (71, .iconst 0, 0, 0, 0), (72, .invokevirtual 41, 104, 3, 1106), (75, .aload_n 0, 0, 0, 0), (76, .iload_n 1, 0, 0, 0), (77, .iconst 1, 0, 0, 0), (78, .invokevirtual 41, 104, 3, 1106), (81, .iload 8, 0, 0, 0), (83, .iload 5, 0, 0, 0), (85, .invokestatic 49, 112, 1, 1113), (88, .iadd, 0, 0, 0), (89, .invokestatic 52, 113, 5, 1116), (92, .ireturn, 0, 0, 0)]
def a_c114 : List (Nat × aR) := a_c114_0 ++ (a_c114_1)
/-- X7 isOn -/
def a_c115 : List (Nat × aR) := [(0, .aload_n 0, 0, 0, 0), (1, .iload_n 1, 0, 0, 0), (2, .bipush 6, 0, 0, 0), (4, .invokevirtual 56, 105, 3, 1123), (7, .ifCond .ne 28, 35, 0, 0), (10, .iload_n 2, 0, 0, 0), (11, .aload_n 0, 0, 0, 0), (12, .iload_n 1, 0, 0, 0), (13, .iconst 4, 0, 0, 0), (14, .invokevirtual 56, 105, 3, 1123), (17, .aload_n 0, 0, 0, 0), (18, .iload_n 1, 0, 0, 0), (19, .iconst 5, 0, 0, 0), (20, .invokevirtual 56, 105, 3, 1123), (23, .iconst 1, 0, 0, 0), (24, .isub, 0, 0, 0), (25, .invokestatic 37, 97, 3, 702), (28, .ifCond .eq 7, 35, 0, 0), (31, .iconst 1, 0, 0, 0), (32, .goto 4, 36, 0, 0), (35, .iconst 0, 0, 0, 0), (36, .ireturn, 0, 0, 0)]
/-- X7 isBarred -/
def a_c116 : List (Nat × aR) := [(0, .iconst 0, 0, 0, 0), (1, .istore 5, 0, 0, 0), (3, .iconst 0, 0, 0, 0), (4, .istore 6, 0, 0, 0), (6, .iload 6, 0, 0, 0), (8, .aload_n 0, 0, 0, 0), (9, .getfield 7, 7, 0, 321), (12, .iconst 1, 0, 0, 0), (13, .iaload, 0, 0, 0), (14, .if_icmp .ge 35, 49, 0, 0), (17, .iload 5, 0, 0, 0), (19, .ifCond .ne 17, 36, 0, 0), (22, .aload_n 0, 0, 0, 0), (23, .iload 6, 0, 0, 0), (25, .iload_n 1, 0, 0, 0), (26, .iload_n 2, 0, 0, 0), (27, .iload_n 3, 0, 0, 0), (28, .iload 4, 0, 0, 0), (30, .invokevirtual 59, 114, 6, 1102), (33, .ifCond .eq 7, 40, 0, 0), (36, .iconst 1, 0, 0, 0), (37, .goto 4, 41, 0, 0), (40, .iconst 0, 0, 0, 0), (41, .istore 5, 0, 0, 0), (43, .iinc 6 1, 0, 0, 0), (46, .goto (-40), 6, 0, 0), (49, .iload 5, 0, 0, 0), (51, .ireturn, 0, 0, 0)]
/-- X7 isReserved -/
def a_c117_0 : List (Nat × aR) := [(0, .iconst 0, 0, 0, 0), (1, .istore 6, 0, 0, 0), (3, .iconst 0, 0, 0, 0), (4, .istore 7, 0, 0, 0), (6, .iload 7, 0, 0, 0), (8, .aload_n 0, 0, 0, 0), (9, .getfield 7, 7, 0, 321), (12, .iconst 2, 0, 0, 0), (13, .iaload, 0, 0, 0), (14, .if_icmp .ge 90, 104, 0, 0), (17, .aload_n 0, 0, 0, 0), (18, .iload 7, 0, 0, 0), (20, .iconst 3, 0, 0, 0), (21, .invokevirtual 56, 105, 3, 1123), (24, .iload_n 1, 0, 0, 0), (25, .if_icmp .ne 42, 67, 0, 0), (28, .iload_n 2, 0, 0, 0), (29, .iload_n 3, 0, 0, 0), (30, .aload_n 0, 0, 0, 0), (31, .iload 7, 0, 0, 0), (33, .iconst 0, 0, 0, 0), (34, .invokevirtual 56, 105, 3, 1123), (37, .aload_n 0, 0, 0, 0), (38, .iload 7, 0, 0, 0), (40, .iconst 1, 0, 0, 0), (41, .invokevirtual 56, 105, 3, 1123), (44, .aload_n 0, 0, 0, 0), (45, .iload 7, 0, 0, 0), (47, .iconst 2, 0, 0, 0), (48, .invokevirtual 56, 105, 3, 1123), (51, .iload 4, 0, 0, 0), (53, .invokestatic 49, 112, 1, 1113), (56, .iadd, 0, 0, 0), (57, .invokestatic 52, 113, 5, 1116), (60, .ifCond .eq 7, 67, 0, 0), (63, .iconst 1, 0, 0, 0), (64, .goto 4, 68, 0, 0), (67, .iconst 0, 0, 0, 0), (68, .istore 8, 0, 0, 0), (70, .iload 6, 0, 0, 0)]
def a_c117_1 : List (Nat × aR) := [(72, .ifCond .ne 19, 91, 0, 0), (75, .iload 8, 0, 0, 0), (77, .ifCond .eq 18, 95, 0, 0), (80, .aload_n 0, 0, 0, 0), (81, .iload 7, 0, 0, 0), (83, .iload 5, 0, 0, 0), (85, .invokevirtual 62, 115, 3, 1203), (88, .ifCond .eq 7, 95, 0, 0), (91, .iconst 1, 0, 0, 0), (92, .goto 4, 96, 0, 0), (95, .iconst 0, 0, 0, 0), (96, .istore 6, 0, 0, 0), (98, .iinc 7 1, 0, 0, 0), (101, .goto (-95), 6, 0, 0), (104, .iload 6, 0, 0, 0), (106, .ireturn, 0, 0, 0)]
def a_c117 : List (Nat × aR) := a_c117_0 ++ (a_c117_1)
/-- X7 isAllowed -/
def a_c118 : List (Nat × aR) := [(0, .aload_n 0, 0, 0, 0), (1, .iload_n 1, 0, 0, 0), (2, .iload_n 2, 0, 0, 0), (3, .iload_n 3, 0, 0, 0), (4, .iload 4, 0, 0, 0), (6, .invokevirtual 66, 116, 5, 1022), (9, .ifCond .ne 25, 34, 0, 0), (12, .aload_n 0, 0, 0, 0), (13, .iload_n 1, 0, 0, 0), (14, .iload_n 2, 0, 0, 0), (15, .iload_n 3, 0, 0, 0), (16, .iload 4, 0, 0, 0), (18, .aload_n 0, 0, 0, 0), (19, .getfield 7, 7, 0, 321), (22, .iconst 0, 0, 0, 0), (23, .iaload, 0, 0, 0), (24, .invokevirtual 70, 117, 6, 1119), (27, .ifCond .ne 7, 34, 0, 0), (30, .iconst 1, 0, 0, 0), (31, .goto 4, 35, 0, 0), (34, .iconst 0, 0, 0, 0), (35, .ireturn, 0, 0, 0)]
/-- X7 isAllowedFor -/
def a_c119 : List (Nat × aR) := [(0, .aload_n 0, 0, 0, 0), (1, .iload_n 2, 0, 0, 0), (2, .aload_n 0, 0, 0, 0), (3, .iload_n 1, 0, 0, 0), (4, .iconst 0, 0, 0, 0), (5, .invokevirtual 73, 106, 3, 1006), (8, .aload_n 0, 0, 0, 0), (9, .iload_n 1, 0, 0, 0), (10, .iconst 1, 0, 0, 0), (11, .invokevirtual 73, 106, 3, 1006), (14, .iload_n 3, 0, 0, 0), (15, .invokevirtual 76, 118, 5, 1018), (18, .ireturn, 0, 0, 0)]
/-- X7 hasLease -/
def a_c120 : List (Nat × aR) := [(0, .aload_n 0, 0, 0, 0), (1, .iload_n 1, 0, 0, 0), (2, .iconst 3, 0, 0, 0), (3, .invokevirtual 73, 106, 3, 1006), (6, .bipush (-6), 0, 0, 0), (8, .if_icmp .eq 7, 15, 0, 0), (11, .iconst 1, 0, 0, 0), (12, .goto 4, 16, 0, 0), (15, .iconst 0, 0, 0, 0), (16, .ireturn, 0, 0, 0)]
/-- X7 isFree -/
def a_c121_0 : List (Nat × aR) := [(0, .iconst 1, 0, 0, 0), (1, .istore 4, 0, 0, 0), (3, .iconst 0, 0, 0, 0), (4, .istore 5, 0, 0, 0), (6, .iload 5, 0, 0, 0), (8, .aload_n 0, 0, 0, 0), (9, .getfield 7, 7, 0, 321), (12, .iconst 3, 0, 0, 0), (13, .iaload, 0, 0, 0), (14, .if_icmp .ge 89, 103, 0, 0), (17, .iload 5, 0, 0, 0), (19, .iload_n 1, 0, 0, 0), (20, .if_icmp .eq 77, 97, 0, 0), (23, .aload_n 0, 0, 0, 0), (24, .iload 5, 0, 0, 0), (26, .iconst 3, 0, 0, 0), (27, .invokevirtual 73, 106, 3, 1006), (30, .iload_n 2, 0, 0, 0), (31, .if_icmp .ne 66, 97, 0, 0), (34, .iload_n 3, 0, 0, 0), (35, .invokestatic 49, 112, 1, 1113), (38, .aload_n 0, 0, 0, 0), (39, .iload 5, 0, 0, 0), (41, .iconst 4, 0, 0, 0), (42, .invokevirtual 73, 106, 3, 1006), (45, .invokestatic 49, 112, 1, 1113), (48, .iadd, 0, 0, 0), (49, .istore 6, 0, 0, 0), (51, .iload 4, 0, 0, 0), (53, .ifCond .eq 41, 94, 0, 0), (56, .aload_n 0, 0, 0, 0), (57, .iload_n 1, 0, 0, 0), (58, .iconst 0, 0, 0, 0), (59, .invokevirtual 73, 106, 3, 1006), (62, .aload_n 0, 0, 0, 0), (63, .iload_n 1, 0, 0, 0), (64, .iconst 1, 0, 0, 0), (65, .invokevirtual 73, 106, 3, 1006), (68, .aload_n 0, 0, 0, 0), (69, .iload 5, 0, 0, 0)]
def a_c121_1 : List (Nat × aR) := [(71, .iconst 0, 0, 0, 0), (72, .invokevirtual 73, 106, 3, 1006), (75, .aload_n 0, 0, 0, 0), (76, .iload 5, 0, 0, 0), (78, .iconst 1, 0, 0, 0), (79, .invokevirtual 73, 106, 3, 1006), (82, .iload 6, 0, 0, 0), (84, .invokestatic 52, 113, 5, 1116), (87, .ifCond .ne 7, 94, 0, 0), (90, .iconst 1, 0, 0, 0), (91, .goto 4, 95, 0, 0), (94, .iconst 0, 0, 0, 0), (95, .istore 4, 0, 0, 0), (97, .iinc 5 1, 0, 0, 0), (100, .goto (-94), 6, 0, 0), (103, .iload 4, 0, 0, 0), (105, .ireturn, 0, 0, 0)]
def a_c121 : List (Nat × aR) := a_c121_0 ++ (a_c121_1)
/-- X7 others -/
def a_c122 : List (Nat × aR) := [(0, .iconst 0, 0, 0, 0), (1, .istore_n 3, 0, 0, 0), (2, .iconst 0, 0, 0, 0), (3, .istore 4, 0, 0, 0), (5, .iload 4, 0, 0, 0), (7, .aload_n 0, 0, 0, 0), (8, .getfield 7, 7, 0, 321), (11, .iconst 3, 0, 0, 0), (12, .iaload, 0, 0, 0), (13, .if_icmp .ge 34, 47, 0, 0), (16, .iload_n 3, 0, 0, 0), (17, .iload 4, 0, 0, 0), (19, .iload_n 1, 0, 0, 0), (20, .if_icmp .eq 18, 38, 0, 0), (23, .aload_n 0, 0, 0, 0), (24, .iload 4, 0, 0, 0), (26, .iconst 3, 0, 0, 0), (27, .invokevirtual 73, 106, 3, 1006), (30, .iload_n 2, 0, 0, 0), (31, .if_icmp .ne 7, 38, 0, 0), (34, .iconst 1, 0, 0, 0), (35, .goto 4, 39, 0, 0), (38, .iconst 0, 0, 0, 0), (39, .iadd, 0, 0, 0), (40, .istore_n 3, 0, 0, 0), (41, .iinc 4 1, 0, 0, 0), (44, .goto (-39), 5, 0, 0), (47, .iload_n 3, 0, 0, 0), (48, .ireturn, 0, 0, 0)]
/-- X7 offerFor -/
def a_c123_0 : List (Nat × aR) := [(0, .bipush (-6), 0, 0, 0), (2, .istore_n 3, 0, 0, 0), (3, .iconst 0, 0, 0, 0), (4, .istore 4, 0, 0, 0), (6, .iconst 0, 0, 0, 0), (7, .istore 5, 0, 0, 0), (9, .iload 5, 0, 0, 0), (11, .bipush 8, 0, 0, 0), (13, .if_icmp .ge 86, 99, 0, 0), (16, .aload_n 0, 0, 0, 0), (17, .iload_n 1, 0, 0, 0), (18, .iload 5, 0, 0, 0), (20, .iload_n 2, 0, 0, 0), (21, .invokevirtual 79, 119, 4, 1014), (24, .ifCond .eq 69, 93, 0, 0), (27, .aload_n 0, 0, 0, 0), (28, .iload_n 1, 0, 0, 0), (29, .iload 5, 0, 0, 0), (31, .iload_n 2, 0, 0, 0), (32, .invokevirtual 82, 121, 4, 1900), (35, .ifCond .eq 58, 93, 0, 0), (38, .aload_n 0, 0, 0, 0), (39, .iload_n 1, 0, 0, 0), (40, .iload 5, 0, 0, 0), (42, .invokevirtual 85, 122, 3, 1904), (45, .istore 6, 0, 0, 0), (47, .iload_n 3, 0, 0, 0), (48, .bipush (-6), 0, 0, 0), (50, .if_icmp .eq 10, 60, 0, 0), (53, .iload 6, 0, 0, 0), (55, .iload 4, 0, 0, 0), (57, .if_icmp .ge 7, 64, 0, 0), (60, .iconst 1, 0, 0, 0), (61, .goto 4, 65, 0, 0), (64, .iconst 0, 0, 0, 0), (65, .istore 7, 0, 0, 0), (67, .iload 7, 0, 0, 0), (69, .ifCond .eq 8, 77, 0, 0), (72, .iload 5, 0, 0, 0), (74, .goto 4, 78, 0, 0)]
def a_c123_1 : List (Nat × aR) := [(77, .iload_n 3, 0, 0, 0), (78, .istore_n 3, 0, 0, 0), (79, .iload 7, 0, 0, 0), (81, .ifCond .eq 8, 89, 0, 0), (84, .iload 6, 0, 0, 0), (86, .goto 5, 91, 0, 0), (89, .iload 4, 0, 0, 0), (91, .istore 4, 0, 0, 0), (93, .iinc 5 1, 0, 0, 0), (96, .goto (-87), 9, 0, 0), (99, .iload_n 3, 0, 0, 0), (100, .ireturn, 0, 0, 0)]
def a_c123 : List (Nat × aR) := a_c123_0 ++ (a_c123_1)
/-- X7 isLeaseAllowed -/
def a_c124 : List (Nat × aR) := [(0, .aload_n 0, 0, 0, 0), (1, .iload_n 1, 0, 0, 0), (2, .aload_n 0, 0, 0, 0), (3, .iload_n 1, 0, 0, 0), (4, .iconst 3, 0, 0, 0), (5, .invokevirtual 73, 106, 3, 1006), (8, .aload_n 0, 0, 0, 0), (9, .iload_n 1, 0, 0, 0), (10, .iconst 4, 0, 0, 0), (11, .invokevirtual 73, 106, 3, 1006), (14, .invokevirtual 79, 119, 4, 1014), (17, .ireturn, 0, 0, 0)]
/-- X7 reviews -/
def a_c125_0 : List (Nat × aR) := [(0, .iconst 0, 0, 0, 0), (1, .istore_n 1, 0, 0, 0), (2, .iload_n 1, 0, 0, 0), (3, .aload_n 0, 0, 0, 0), (4, .getfield 7, 7, 0, 321), (7, .iconst 3, 0, 0, 0), (8, .iaload, 0, 0, 0), (9, .if_icmp .ge 67, 76, 0, 0), (12, .aload_n 0, 0, 0, 0), (13, .iload_n 1, 0, 0, 0), (14, .invokevirtual 88, 120, 2, 1002), (17, .ifCond .eq 53, 70, 0, 0), (20, .aload_n 0, 0, 0, 0), (21, .iload_n 1, 0, 0, 0), (22, .invokevirtual 92, 124, 2, 1010), (25, .istore_n 2, 0, 0, 0), (26, .aload_n 0, 0, 0, 0), (27, .iload_n 1, 0, 0, 0), (28, .bipush 6, 0, 0, 0), (30, .iload_n 2, 0, 0, 0), (31, .ifCond .eq 8, 39, 0, 0), (34, .bipush (-6), 0, 0, 0), (36, .goto 31, 67, 0, 0), (39, .aload_n 0, 0, 0, 0), (40, .iload_n 1, 0, 0, 0), (41, .bipush 6, 0, 0, 0), (43, .invokevirtual 73, 106, 3, 1006), (46, .bipush (-6), 0, 0, 0), (48, .if_icmp .ne 12, 60, 0, 0), (51, .aload_n 0, 0, 0, 0), (52, .getfield 7, 7, 0, 321), (55, .iconst 0, 0, 0, 0), (56, .iaload, 0, 0, 0), (57, .goto 10, 67, 0, 0), (60, .aload_n 0, 0, 0, 0), (61, .iload_n 1, 0, 0, 0), (62, .bipush 6, 0, 0, 0), (64, .invokevirtual 73, 106, 3, 1006), (67, .invokevirtual 95, 107, 4, 1207), (70, .iinc 1 1, 0, 0, 0)]
def a_c125_1 : List (Nat × aR) := [(73, .goto (-71), 2, 0, 0), (76, .return_, 0, 0, 0)]
def a_c125 : List (Nat × aR) := a_c125_0 ++ (a_c125_1)
/-- X7 ends -/
def a_c126 : List (Nat × aR) := [(0, .aload_n 0, 0, 0, 0), (1, .iload_n 1, 0, 0, 0), (2, .iconst 3, 0, 0, 0), (3, .bipush (-6), 0, 0, 0), (5, .invokevirtual 95, 107, 4, 1207), (8, .aload_n 0, 0, 0, 0), (9, .iload_n 1, 0, 0, 0), (10, .iconst 4, 0, 0, 0), (11, .bipush (-6), 0, 0, 0), (13, .invokevirtual 95, 107, 4, 1207), (16, .aload_n 0, 0, 0, 0), (17, .iload_n 1, 0, 0, 0), (18, .iconst 5, 0, 0, 0), (19, .bipush (-6), 0, 0, 0), (21, .invokevirtual 95, 107, 4, 1207), (24, .aload_n 0, 0, 0, 0), (25, .iload_n 1, 0, 0, 0), (26, .bipush 6, 0, 0, 0), (28, .bipush (-6), 0, 0, 0), (30, .invokevirtual 95, 107, 4, 1207), (33, .return_, 0, 0, 0)]
/-- X7 notices -/
def a_c127 : List (Nat × aR) := [(0, .iconst 0, 0, 0, 0), (1, .istore_n 1, 0, 0, 0), (2, .iconst 0, 0, 0, 0), (3, .istore_n 2, 0, 0, 0), (4, .iload_n 2, 0, 0, 0), (5, .aload_n 0, 0, 0, 0), (6, .getfield 7, 7, 0, 321), (9, .iconst 3, 0, 0, 0), (10, .iaload, 0, 0, 0), (11, .if_icmp .ge 29, 40, 0, 0), (14, .iload_n 1, 0, 0, 0), (15, .aload_n 0, 0, 0, 0), (16, .iload_n 2, 0, 0, 0), (17, .bipush 6, 0, 0, 0), (19, .invokevirtual 73, 106, 3, 1006), (22, .bipush (-6), 0, 0, 0), (24, .if_icmp .eq 7, 31, 0, 0), (27, .iconst 1, 0, 0, 0), (28, .goto 4, 32, 0, 0), (31, .iconst 0, 0, 0, 0), (32, .iadd, 0, 0, 0), (33, .istore_n 1, 0, 0, 0), (34, .iinc 2 1, 0, 0, 0), (37, .goto (-33), 4, 0, 0), (40, .iload_n 1, 0, 0, 0), (41, .ireturn, 0, 0, 0)]
/-- X7 leasesNow -/
def a_c128 : List (Nat × aR) := [(0, .iconst 0, 0, 0, 0), (1, .istore_n 1, 0, 0, 0), (2, .iconst 0, 0, 0, 0), (3, .istore_n 2, 0, 0, 0), (4, .iload_n 2, 0, 0, 0), (5, .aload_n 0, 0, 0, 0), (6, .getfield 7, 7, 0, 321), (9, .iconst 3, 0, 0, 0), (10, .iaload, 0, 0, 0), (11, .if_icmp .ge 25, 36, 0, 0), (14, .iload_n 1, 0, 0, 0), (15, .aload_n 0, 0, 0, 0), (16, .iload_n 2, 0, 0, 0), (17, .invokevirtual 88, 120, 2, 1002), (20, .ifCond .eq 7, 27, 0, 0), (23, .iconst 1, 0, 0, 0), (24, .goto 4, 28, 0, 0), (27, .iconst 0, 0, 0, 0), (28, .iadd, 0, 0, 0), (29, .istore_n 1, 0, 0, 0), (30, .iinc 2 1, 0, 0, 0), (33, .goto (-29), 4, 0, 0), (36, .iload_n 1, 0, 0, 0), (37, .ireturn, 0, 0, 0)]
/-- X7 asks -/
def a_c129_0 : List (Nat × aR) := [(0, .aload_n 0, 0, 0, 0), (1, .iload_n 1, 0, 0, 0), (2, .iconst 4, 0, 0, 0), (3, .invokevirtual 73, 106, 3, 1006), (6, .istore_n 2, 0, 0, 0), (7, .iload_n 2, 0, 0, 0), (8, .ifCond .lt 63, 71, 0, 0), (11, .aload_n 0, 0, 0, 0), (12, .iload_n 1, 0, 0, 0), (13, .iload_n 2, 0, 0, 0), (14, .invokevirtual 99, 123, 3, 1820), (17, .istore_n 3, 0, 0, 0), (18, .iload_n 3, 0, 0, 0), (19, .bipush (-6), 0, 0, 0), (21, .if_icmp .eq 44, 65, 0, 0), (24, .aload_n 0, 0, 0, 0), (25, .iload_n 1, 0, 0, 0), (26, .iconst 3, 0, 0, 0), (27, .iload_n 3, 0, 0, 0), (28, .invokevirtual 95, 107, 4, 1207), (31, .aload_n 0, 0, 0, 0), (32, .iload_n 1, 0, 0, 0), (33, .iconst 4, 0, 0, 0), (34, .iload_n 2, 0, 0, 0), (35, .invokevirtual 95, 107, 4, 1207), (38, .aload_n 0, 0, 0, 0), (39, .iload_n 1, 0, 0, 0), (40, .bipush 6, 0, 0, 0), (42, .bipush (-6), 0, 0, 0), (44, .invokevirtual 95, 107, 4, 1207), (47, .aload_n 0, 0, 0, 0), (48, .iload_n 1, 0, 0, 0), (49, .bipush 7, 0, 0, 0), (51, .aload_n 0, 0, 0, 0), (52, .iload_n 1, 0, 0, 0), (53, .bipush 7, 0, 0, 0), (55, .invokevirtual 73, 106, 3, 1006), (58, .iconst 1, 0, 0, 0), (59, .iadd, 0, 0, 0), (60, .invokevirtual 95, 107, 4, 1207)]
def a_c129_1 : List (Nat × aR) := [(63, .iconst 1, 0, 0, 0), (64, .ireturn, 0, 0, 0), (65, .iinc 2 (-1), 0, 0, 0), (68, .goto (-61), 7, 0, 0), (71, .aload_n 0, 0, 0, 0), (72, .iload_n 1, 0, 0, 0), (73, .invokevirtual 102, 126, 2, 1310), (76, .aload_n 0, 0, 0, 0), (77, .iload_n 1, 0, 0, 0), (78, .bipush 8, 0, 0, 0), (80, .aload_n 0, 0, 0, 0), (81, .iload_n 1, 0, 0, 0), (82, .bipush 8, 0, 0, 0), (84, .invokevirtual 73, 106, 3, 1006), (87, .iconst 1, 0, 0, 0), (88, .iadd, 0, 0, 0), (89, .invokevirtual 95, 107, 4, 1207), (92, .iconst 0, 0, 0, 0), (93, .ireturn, 0, 0, 0)]
def a_c129 : List (Nat × aR) := a_c129_0 ++ (a_c129_1)
/-- X7 passesOne -/
def a_c130_0 : List (Nat × aR) := [(0, .aload_n 0, 0, 0, 0), (1, .getfield 7, 7, 0, 321), (4, .iconst 0, 0, 0, 0), (5, .dup2, 0, 0, 0), (6, .iaload, 0, 0, 0), (7, .iconst 1, 0, 0, 0), (8, .iadd, 0, 0, 0), (9, .iastore, 0, 0, 0), (10, .iconst 0, 0, 0, 0), (11, .istore_n 1, 0, 0, 0), (12, .iconst 0, 0, 0, 0), (13, .istore_n 2, 0, 0, 0), (14, .iload_n 2, 0, 0, 0), (15, .aload_n 0, 0, 0, 0), (16, .getfield 7, 7, 0, 321), (19, .iconst 3, 0, 0, 0), (20, .iaload, 0, 0, 0), (21, .if_icmp .ge 37, 58, 0, 0), (24, .aload_n 0, 0, 0, 0), (25, .iload_n 2, 0, 0, 0), (26, .invokevirtual 88, 120, 2, 1002), (29, .ifCond .eq 23, 52, 0, 0), (32, .aload_n 0, 0, 0, 0), (33, .iload_n 2, 0, 0, 0), (34, .iconst 5, 0, 0, 0), (35, .invokevirtual 73, 106, 3, 1006), (38, .aload_n 0, 0, 0, 0), (39, .getfield 7, 7, 0, 321), (42, .iconst 0, 0, 0, 0), (43, .iaload, 0, 0, 0), (44, .if_icmp .gt 8, 52, 0, 0), (47, .aload_n 0, 0, 0, 0), (48, .iload_n 2, 0, 0, 0), (49, .invokevirtual 102, 126, 2, 1310), (52, .iinc 2 1, 0, 0, 0), (55, .goto (-41), 14, 0, 0), (58, .aload_n 0, 0, 0, 0), (59, .invokevirtual 106, 125, 1, 922), (62, .iconst 0, 0, 0, 0), (63, .istore_n 2, 0, 0, 0)]
def a_c130_1 : List (Nat × aR) := [(64, .iload_n 2, 0, 0, 0), (65, .aload_n 0, 0, 0, 0), (66, .getfield 7, 7, 0, 321), (69, .iconst 3, 0, 0, 0), (70, .iaload, 0, 0, 0), (71, .if_icmp .ge 48, 119, 0, 0), (74, .aload_n 0, 0, 0, 0), (75, .getfield 7, 7, 0, 321), (78, .iconst 0, 0, 0, 0), (79, .iaload, 0, 0, 0), (80, .iload_n 2, 0, 0, 0), (81, .iadd, 0, 0, 0), (82, .aload_n 0, 0, 0, 0), (83, .getfield 7, 7, 0, 321), (86, .bipush 6, 0, 0, 0), (88, .iaload, 0, 0, 0), (89, .irem, 0, 0, 0), (90, .ifCond .ne 23, 113, 0, 0), (93, .aload_n 0, 0, 0, 0), (94, .iload_n 2, 0, 0, 0), (95, .bipush 6, 0, 0, 0), (97, .invokevirtual 73, 106, 3, 1006), (100, .bipush (-6), 0, 0, 0), (102, .if_icmp .eq 11, 113, 0, 0), (105, .iload_n 1, 0, 0, 0), (106, .aload_n 0, 0, 0, 0), (107, .iload_n 2, 0, 0, 0), (108, .invokevirtual 109, 129, 2, 2205), (111, .iadd, 0, 0, 0), (112, .istore_n 1, 0, 0, 0), (113, .iinc 2 1, 0, 0, 0), (116, .goto (-52), 64, 0, 0), (119, .iconst 0, 0, 0, 0), (120, .istore_n 2, 0, 0, 0), (121, .iload_n 2, 0, 0, 0), (122, .aload_n 0, 0, 0, 0), (123, .getfield 7, 7, 0, 321), (126, .iconst 3, 0, 0, 0), (127, .iaload, 0, 0, 0), (128, .if_icmp .ge 66, 194, 0, 0)]
def a_c130_2 : List (Nat × aR) := [(131, .aload_n 0, 0, 0, 0), (132, .iload_n 2, 0, 0, 0), (133, .bipush 6, 0, 0, 0), (135, .invokevirtual 73, 106, 3, 1006), (138, .bipush (-6), 0, 0, 0), (140, .if_icmp .eq 48, 188, 0, 0), (143, .aload_n 0, 0, 0, 0), (144, .iload_n 2, 0, 0, 0), (145, .bipush 6, 0, 0, 0), (147, .invokevirtual 73, 106, 3, 1006), (150, .aload_n 0, 0, 0, 0), (151, .getfield 7, 7, 0, 321), (154, .iconst 0, 0, 0, 0), (155, .iaload, 0, 0, 0), (156, .aload_n 0, 0, 0, 0), (157, .getfield 7, 7, 0, 321), (160, .bipush 7, 0, 0, 0), (162, .iaload, 0, 0, 0), (163, .isub, 0, 0, 0), (164, .if_icmp .gt 24, 188, 0, 0), (167, .aload_n 0, 0, 0, 0), (168, .iload_n 2, 0, 0, 0), (169, .invokevirtual 102, 126, 2, 1310), (172, .aload_n 0, 0, 0, 0), (173, .iload_n 2, 0, 0, 0), (174, .bipush 9, 0, 0, 0), (176, .aload_n 0, 0, 0, 0), (177, .iload_n 2, 0, 0, 0), (178, .bipush 9, 0, 0, 0), (180, .invokevirtual 73, 106, 3, 1006), (183, .iconst 1, 0, 0, 0), (184, .iadd, 0, 0, 0), (185, .invokevirtual 95, 107, 4, 1207), (188, .iinc 2 1, 0, 0, 0), (191, .goto (-70), 121, 0, 0), (194, .iload_n 1, 0, 0, 0), (195, .ireturn, 0, 0, 0)]
def a_c130 : List (Nat × aR) := a_c130_0 ++ (a_c130_1 ++ (a_c130_2))
/-- X7 addStation -/
def a_c131_0 : List (Nat × aR) := [(0, .iload_n 1, 0, 0, 0), (1, .iload_n 2, 0, 0, 0), (2, .invokestatic 112, 108, 2, 623), (5, .ifCond .eq 20, 25, 0, 0), (8, .iload_n 3, 0, 0, 0), (9, .invokestatic 115, 109, 1, 705), (12, .ifCond .eq 13, 25, 0, 0), (15, .iload 4, 0, 0, 0), (17, .iconst 0, 0, 0, 0), (18, .iconst 4, 0, 0, 0), (19, .invokestatic 37, 97, 3, 702), (22, .ifCond .ne 6, 28, 0, 0), (25, .bipush (-2), 0, 0, 0), (27, .ireturn, 0, 0, 0), (28, .aload_n 0, 0, 0, 0), (29, .getfield 7, 7, 0, 321), (32, .iconst 1, 0, 0, 0), (33, .iaload, 0, 0, 0), (34, .bipush 8, 0, 0, 0), (36, .if_icmp .ne 6, 42, 0, 0), (39, .bipush (-4), 0, 0, 0), (41, .ireturn, 0, 0, 0), (42, .aload_n 0, 0, 0, 0), (43, .invokevirtual 118, 98, 1, 708), (46, .bipush 8, 0, 0, 0), (48, .iconst 5, 0, 0, 0), (49, .aload_n 0, 0, 0, 0), (50, .getfield 7, 7, 0, 321), (53, .iconst 1, 0, 0, 0), (54, .iaload, 0, 0, 0), (55, .imul, 0, 0, 0), (56, .iadd, 0, 0, 0), (57, .istore 5, 0, 0, 0), (59, .aload_n 0, 0, 0, 0), (60, .getfield 7, 7, 0, 321), (63, .iload 5, 0, 0, 0), (65, .iconst 0, 0, 0, 0), (66, .iadd, 0, 0, 0), (67, .iload_n 1, 0, 0, 0), (68, .iastore, 0, 0, 0)]
def a_c131_1 : List (Nat × aR) := [(69, .aload_n 0, 0, 0, 0), (70, .getfield 7, 7, 0, 321), (73, .iload 5, 0, 0, 0), (75, .iconst 1, 0, 0, 0), (76, .iadd, 0, 0, 0), (77, .iload_n 2, 0, 0, 0), (78, .iastore, 0, 0, 0), (79, .aload_n 0, 0, 0, 0), (80, .getfield 7, 7, 0, 321), (83, .iload 5, 0, 0, 0), (85, .iconst 2, 0, 0, 0), (86, .iadd, 0, 0, 0), (87, .iload_n 3, 0, 0, 0), (88, .iastore, 0, 0, 0), (89, .aload_n 0, 0, 0, 0), (90, .getfield 7, 7, 0, 321), (93, .iload 5, 0, 0, 0), (95, .iconst 3, 0, 0, 0), (96, .iadd, 0, 0, 0), (97, .iload 4, 0, 0, 0), (99, .iastore, 0, 0, 0), (100, .aload_n 0, 0, 0, 0), (101, .getfield 7, 7, 0, 321), (104, .iload 5, 0, 0, 0), (106, .iconst 4, 0, 0, 0), (107, .iadd, 0, 0, 0), (108, .iconst 0, 0, 0, 0), (109, .iastore, 0, 0, 0), (110, .aload_n 0, 0, 0, 0), (111, .getfield 7, 7, 0, 321), (114, .iconst 1, 0, 0, 0), (115, .dup2, 0, 0, 0), (116, .iaload, 0, 0, 0), (117, .iconst 1, 0, 0, 0), (118, .iadd, 0, 0, 0), (119, .iastore, 0, 0, 0), (120, .aload_n 0, 0, 0, 0), (121, .getfield 7, 7, 0, 321), (124, .iconst 1, 0, 0, 0), (125, .iaload, 0, 0, 0)]
def a_c131_2 : List (Nat × aR) := [(126, .iconst 1, 0, 0, 0), (127, .isub, 0, 0, 0), (128, .ireturn, 0, 0, 0)]
def a_c131 : List (Nat × aR) := a_c131_0 ++ (a_c131_1 ++ (a_c131_2))
/-- X7 addEvent -/
def a_c132_0 : List (Nat × aR) := [(0, .iload_n 1, 0, 0, 0), (1, .iload_n 2, 0, 0, 0), (2, .invokestatic 112, 108, 2, 623), (5, .ifCond .eq 53, 58, 0, 0), (8, .iload_n 3, 0, 0, 0), (9, .iconst 1, 0, 0, 0), (10, .bipush 30, 0, 0, 0), (12, .invokestatic 37, 97, 3, 702), (15, .ifCond .eq 43, 58, 0, 0), (18, .iload 4, 0, 0, 0), (20, .invokestatic 115, 109, 1, 705), (23, .ifCond .eq 35, 58, 0, 0), (26, .iload 5, 0, 0, 0), (28, .aload_n 0, 0, 0, 0), (29, .getfield 7, 7, 0, 321), (32, .iconst 0, 0, 0, 0), (33, .iaload, 0, 0, 0), (34, .sipush 9998, 0, 0, 0), (37, .invokestatic 37, 97, 3, 702), (40, .ifCond .eq 18, 58, 0, 0), (43, .iload 6, 0, 0, 0), (45, .iload 5, 0, 0, 0), (47, .if_icmp .le 11, 58, 0, 0), (50, .iload 6, 0, 0, 0), (52, .sipush 9999, 0, 0, 0), (55, .if_icmp .le 6, 61, 0, 0), (58, .bipush (-2), 0, 0, 0), (60, .ireturn, 0, 0, 0), (61, .aload_n 0, 0, 0, 0), (62, .getfield 7, 7, 0, 321), (65, .iconst 2, 0, 0, 0), (66, .iaload, 0, 0, 0), (67, .bipush 8, 0, 0, 0), (69, .if_icmp .ne 6, 75, 0, 0), (72, .bipush (-4), 0, 0, 0), (74, .ireturn, 0, 0, 0), (75, .aload_n 0, 0, 0, 0), (76, .invokevirtual 118, 98, 1, 708), (79, .bipush 48, 0, 0, 0), (81, .bipush 7, 0, 0, 0)]
def a_c132_1 : List (Nat × aR) := [(83, .aload_n 0, 0, 0, 0), (84, .getfield 7, 7, 0, 321), (87, .iconst 2, 0, 0, 0), (88, .iaload, 0, 0, 0), (89, .imul, 0, 0, 0), (90, .iadd, 0, 0, 0), (91, .istore 7, 0, 0, 0), (93, .aload_n 0, 0, 0, 0), (94, .getfield 7, 7, 0, 321), (97, .iload 7, 0, 0, 0), (99, .iconst 0, 0, 0, 0), (100, .iadd, 0, 0, 0), (101, .iload_n 1, 0, 0, 0), (102, .iastore, 0, 0, 0), (103, .aload_n 0, 0, 0, 0), (104, .getfield 7, 7, 0, 321), (107, .iload 7, 0, 0, 0), (109, .iconst 1, 0, 0, 0), (110, .iadd, 0, 0, 0), (111, .iload_n 2, 0, 0, 0), (112, .iastore, 0, 0, 0), (113, .aload_n 0, 0, 0, 0), (114, .getfield 7, 7, 0, 321), (117, .iload 7, 0, 0, 0), (119, .iconst 2, 0, 0, 0), (120, .iadd, 0, 0, 0), (121, .iload_n 3, 0, 0, 0), (122, .iastore, 0, 0, 0), (123, .aload_n 0, 0, 0, 0), (124, .getfield 7, 7, 0, 321), (127, .iload 7, 0, 0, 0), (129, .iconst 3, 0, 0, 0), (130, .iadd, 0, 0, 0), (131, .iload 4, 0, 0, 0), (133, .iastore, 0, 0, 0), (134, .aload_n 0, 0, 0, 0), (135, .getfield 7, 7, 0, 321), (138, .iload 7, 0, 0, 0), (140, .iconst 4, 0, 0, 0), (141, .iadd, 0, 0, 0)]
def a_c132_2 : List (Nat × aR) := [(142, .iload 5, 0, 0, 0), (144, .iastore, 0, 0, 0), (145, .aload_n 0, 0, 0, 0), (146, .getfield 7, 7, 0, 321), (149, .iload 7, 0, 0, 0), (151, .iconst 5, 0, 0, 0), (152, .iadd, 0, 0, 0), (153, .iload 6, 0, 0, 0), (155, .iastore, 0, 0, 0), (156, .aload_n 0, 0, 0, 0), (157, .getfield 7, 7, 0, 321), (160, .iload 7, 0, 0, 0), (162, .bipush 6, 0, 0, 0), (164, .iadd, 0, 0, 0), (165, .iconst 0, 0, 0, 0), (166, .iastore, 0, 0, 0), (167, .aload_n 0, 0, 0, 0), (168, .getfield 7, 7, 0, 321), (171, .iconst 2, 0, 0, 0), (172, .dup2, 0, 0, 0), (173, .iaload, 0, 0, 0), (174, .iconst 1, 0, 0, 0), (175, .iadd, 0, 0, 0), (176, .iastore, 0, 0, 0), (177, .aload_n 0, 0, 0, 0), (178, .invokevirtual 106, 125, 1, 922), (181, .aload_n 0, 0, 0, 0), (182, .getfield 7, 7, 0, 321), (185, .iconst 2, 0, 0, 0), (186, .iaload, 0, 0, 0), (187, .iconst 1, 0, 0, 0), (188, .isub, 0, 0, 0), (189, .ireturn, 0, 0, 0)]
def a_c132 : List (Nat × aR) := a_c132_0 ++ (a_c132_1 ++ (a_c132_2))
/-- X7 addDevice -/
def a_c133_0 : List (Nat × aR) := [(0, .iload_n 1, 0, 0, 0), (1, .iload_n 2, 0, 0, 0), (2, .invokestatic 112, 108, 2, 623), (5, .ifCond .eq 10, 15, 0, 0), (8, .iload_n 3, 0, 0, 0), (9, .invokestatic 121, 110, 1, 1307), (12, .ifCond .ne 6, 18, 0, 0), (15, .bipush (-2), 0, 0, 0), (17, .ireturn, 0, 0, 0), (18, .aload_n 0, 0, 0, 0), (19, .getfield 7, 7, 0, 321), (22, .iconst 3, 0, 0, 0), (23, .iaload, 0, 0, 0), (24, .bipush 16, 0, 0, 0), (26, .if_icmp .ne 6, 32, 0, 0), (29, .bipush (-4), 0, 0, 0), (31, .ireturn, 0, 0, 0), (32, .aload_n 0, 0, 0, 0), (33, .invokevirtual 118, 98, 1, 708), (36, .aload_n 0, 0, 0, 0), (37, .getfield 7, 7, 0, 321), (40, .iconst 3, 0, 0, 0), (41, .iaload, 0, 0, 0), (42, .istore 4, 0, 0, 0), (44, .aload_n 0, 0, 0, 0), (45, .iload 4, 0, 0, 0), (47, .iconst 0, 0, 0, 0), (48, .iload_n 1, 0, 0, 0), (49, .invokevirtual 95, 107, 4, 1207), (52, .aload_n 0, 0, 0, 0), (53, .iload 4, 0, 0, 0), (55, .iconst 1, 0, 0, 0), (56, .iload_n 2, 0, 0, 0), (57, .invokevirtual 95, 107, 4, 1207), (60, .aload_n 0, 0, 0, 0), (61, .iload 4, 0, 0, 0), (63, .iconst 2, 0, 0, 0), (64, .iload_n 3, 0, 0, 0), (65, .invokevirtual 95, 107, 4, 1207), (68, .aload_n 0, 0, 0, 0)]
def a_c133_1 : List (Nat × aR) := [(69, .iload 4, 0, 0, 0), (71, .invokevirtual 102, 126, 2, 1310), (74, .aload_n 0, 0, 0, 0), (75, .iload 4, 0, 0, 0), (77, .bipush 7, 0, 0, 0), (79, .iconst 0, 0, 0, 0), (80, .invokevirtual 95, 107, 4, 1207), (83, .aload_n 0, 0, 0, 0), (84, .iload 4, 0, 0, 0), (86, .bipush 8, 0, 0, 0), (88, .iconst 0, 0, 0, 0), (89, .invokevirtual 95, 107, 4, 1207), (92, .aload_n 0, 0, 0, 0), (93, .iload 4, 0, 0, 0), (95, .bipush 9, 0, 0, 0), (97, .iconst 0, 0, 0, 0), (98, .invokevirtual 95, 107, 4, 1207), (101, .aload_n 0, 0, 0, 0), (102, .getfield 7, 7, 0, 321), (105, .iconst 3, 0, 0, 0), (106, .dup2, 0, 0, 0), (107, .iaload, 0, 0, 0), (108, .iconst 1, 0, 0, 0), (109, .iadd, 0, 0, 0), (110, .iastore, 0, 0, 0), (111, .iload 4, 0, 0, 0), (113, .ireturn, 0, 0, 0)]
def a_c133 : List (Nat × aR) := a_c133_0 ++ (a_c133_1)
/-- X7 set -/
def a_c134_0 : List (Nat × aR) := [(0, .iload_n 1, 0, 0, 0), (1, .iconst 0, 0, 0, 0), (2, .iconst 2, 0, 0, 0), (3, .invokestatic 37, 97, 3, 702), (6, .ifCond .ne 5, 11, 0, 0), (9, .iconst (-1), 0, 0, 0), (10, .ireturn, 0, 0, 0), (11, .iload_n 1, 0, 0, 0), (12, .ifCond .ne 16, 28, 0, 0), (15, .iload_n 2, 0, 0, 0), (16, .iconst 0, 0, 0, 0), (17, .bipush 100, 0, 0, 0), (19, .invokestatic 37, 97, 3, 702), (22, .ifCond .eq 34, 56, 0, 0), (25, .goto 34, 59, 0, 0), (28, .iload_n 1, 0, 0, 0), (29, .iconst 1, 0, 0, 0), (30, .if_icmp .ne 16, 46, 0, 0), (33, .iload_n 2, 0, 0, 0), (34, .iconst 1, 0, 0, 0), (35, .bipush 12, 0, 0, 0), (37, .invokestatic 37, 97, 3, 702), (40, .ifCond .eq 16, 56, 0, 0), (43, .goto 16, 59, 0, 0), (46, .iload_n 2, 0, 0, 0), (47, .iconst 0, 0, 0, 0), (48, .bipush 20, 0, 0, 0), (50, .invokestatic 37, 97, 3, 702), (53, .ifCond .ne 6, 59, 0, 0), (56, .bipush (-2), 0, 0, 0), (58, .ireturn, 0, 0, 0), (59, .aload_n 0, 0, 0, 0), (60, .invokevirtual 118, 98, 1, 708), (63, .aload_n 0, 0, 0, 0), (64, .getfield 7, 7, 0, 321), (67, .iconst 5, 0, 0, 0), (68, .iload_n 1, 0, 0, 0), (69, .iadd, 0, 0, 0), (70, .iaload, 0, 0, 0), (71, .istore_n 3, 0, 0, 0)]
def a_c134_1 : List (Nat × aR) := [(72, .aload_n 0, 0, 0, 0), (73, .getfield 7, 7, 0, 321), (76, .iconst 5, 0, 0, 0), (77, .iload_n 1, 0, 0, 0), (78, .iadd, 0, 0, 0), (79, .iload_n 2, 0, 0, 0), (80, .iastore, 0, 0, 0), (81, .aload_n 0, 0, 0, 0), (82, .invokevirtual 106, 125, 1, 922), (85, .iload_n 3, 0, 0, 0), (86, .ireturn, 0, 0, 0)]
def a_c134 : List (Nat × aR) := a_c134_0 ++ (a_c134_1)
/-- X7 turns -/
def a_c135 : List (Nat × aR) := [(0, .aload_n 0, 0, 0, 0), (1, .iload_n 1, 0, 0, 0), (2, .invokevirtual 124, 101, 2, 1503), (5, .ifCond .ne 5, 10, 0, 0), (8, .iconst (-1), 0, 0, 0), (9, .ireturn, 0, 0, 0), (10, .aload_n 0, 0, 0, 0), (11, .iload_n 1, 0, 0, 0), (12, .iconst 4, 0, 0, 0), (13, .invokevirtual 41, 104, 3, 1106), (16, .iload_n 2, 0, 0, 0), (17, .if_icmp .ne 6, 23, 0, 0), (20, .bipush (-3), 0, 0, 0), (22, .ireturn, 0, 0, 0), (23, .aload_n 0, 0, 0, 0), (24, .invokevirtual 118, 98, 1, 708), (27, .aload_n 0, 0, 0, 0), (28, .getfield 7, 7, 0, 321), (31, .bipush 8, 0, 0, 0), (33, .iconst 5, 0, 0, 0), (34, .iload_n 1, 0, 0, 0), (35, .imul, 0, 0, 0), (36, .iadd, 0, 0, 0), (37, .iconst 4, 0, 0, 0), (38, .iadd, 0, 0, 0), (39, .iload_n 2, 0, 0, 0), (40, .iastore, 0, 0, 0), (41, .aload_n 0, 0, 0, 0), (42, .invokevirtual 106, 125, 1, 922), (45, .aload_n 0, 0, 0, 0), (46, .invokevirtual 127, 127, 1, 1507), (49, .ireturn, 0, 0, 0)]
/-- X7 wake -/
def a_c136 : List (Nat × aR) := [(0, .aload_n 0, 0, 0, 0), (1, .iload_n 1, 0, 0, 0), (2, .iconst 1, 0, 0, 0), (3, .invokevirtual 131, 135, 3, 1423), (6, .ireturn, 0, 0, 0)]
/-- X7 sleep -/
def a_c137 : List (Nat × aR) := [(0, .aload_n 0, 0, 0, 0), (1, .iload_n 1, 0, 0, 0), (2, .iconst 0, 0, 0, 0), (3, .invokevirtual 131, 135, 3, 1423), (6, .ireturn, 0, 0, 0)]
/-- X7 cancel -/
def a_c138_0 : List (Nat × aR) := [(0, .aload_n 0, 0, 0, 0), (1, .iload_n 1, 0, 0, 0), (2, .invokevirtual 134, 102, 2, 1611), (5, .ifCond .ne 5, 10, 0, 0), (8, .iconst (-1), 0, 0, 0), (9, .ireturn, 0, 0, 0), (10, .aload_n 0, 0, 0, 0), (11, .iload_n 1, 0, 0, 0), (12, .bipush 6, 0, 0, 0), (14, .invokevirtual 56, 105, 3, 1123), (17, .iconst 1, 0, 0, 0), (18, .if_icmp .eq 18, 36, 0, 0), (21, .aload_n 0, 0, 0, 0), (22, .iload_n 1, 0, 0, 0), (23, .iconst 5, 0, 0, 0), (24, .invokevirtual 56, 105, 3, 1123), (27, .aload_n 0, 0, 0, 0), (28, .getfield 7, 7, 0, 321), (31, .iconst 0, 0, 0, 0), (32, .iaload, 0, 0, 0), (33, .if_icmp .gt 6, 39, 0, 0), (36, .bipush (-3), 0, 0, 0), (38, .ireturn, 0, 0, 0), (39, .aload_n 0, 0, 0, 0), (40, .invokevirtual 118, 98, 1, 708), (43, .aload_n 0, 0, 0, 0), (44, .getfield 7, 7, 0, 321), (47, .bipush 48, 0, 0, 0), (49, .bipush 7, 0, 0, 0), (51, .iload_n 1, 0, 0, 0), (52, .imul, 0, 0, 0), (53, .iadd, 0, 0, 0), (54, .bipush 6, 0, 0, 0), (56, .iadd, 0, 0, 0), (57, .iconst 1, 0, 0, 0), (58, .iastore, 0, 0, 0), (59, .aload_n 0, 0, 0, 0), (60, .invokevirtual 106, 125, 1, 922), (63, .aload_n 0, 0, 0, 0), (64, .invokevirtual 127, 127, 1, 1507)]
def a_c138_1 : List (Nat × aR) := [(67, .ireturn, 0, 0, 0)]
def a_c138 : List (Nat × aR) := a_c138_0 ++ (a_c138_1)
/-- X7 refuses -/
def a_c139 : List (Nat × aR) := [(0, .aload_n 0, 0, 0, 0), (1, .getfield 7, 7, 0, 321), (4, .iconst 4, 0, 0, 0), (5, .iload_n 1, 0, 0, 0), (6, .iastore, 0, 0, 0), (7, .bipush (-5), 0, 0, 0), (9, .ireturn, 0, 0, 0)]
/-- X7 isAnyAllowed -/
def a_c140 : List (Nat × aR) := [(0, .iconst 0, 0, 0, 0), (1, .istore_n 3, 0, 0, 0), (2, .iconst 0, 0, 0, 0), (3, .istore 4, 0, 0, 0), (5, .iload 4, 0, 0, 0), (7, .bipush 8, 0, 0, 0), (9, .if_icmp .ge 30, 39, 0, 0), (12, .iload_n 3, 0, 0, 0), (13, .ifCond .ne 14, 27, 0, 0), (16, .aload_n 0, 0, 0, 0), (17, .iload_n 1, 0, 0, 0), (18, .iload 4, 0, 0, 0), (20, .iload_n 2, 0, 0, 0), (21, .invokevirtual 79, 119, 4, 1014), (24, .ifCond .eq 7, 31, 0, 0), (27, .iconst 1, 0, 0, 0), (28, .goto 4, 32, 0, 0), (31, .iconst 0, 0, 0, 0), (32, .istore_n 3, 0, 0, 0), (33, .iinc 4 1, 0, 0, 0), (36, .goto (-31), 5, 0, 0), (39, .iload_n 3, 0, 0, 0), (40, .ireturn, 0, 0, 0)]
/-- X7 lease -/
def a_c141_0 : List (Nat × aR) := [(0, .aload_n 0, 0, 0, 0), (1, .iload_n 1, 0, 0, 0), (2, .invokevirtual 137, 103, 2, 1808), (5, .ifCond .ne 5, 10, 0, 0), (8, .iconst (-1), 0, 0, 0), (9, .ireturn, 0, 0, 0), (10, .iload_n 2, 0, 0, 0), (11, .invokestatic 121, 110, 1, 1307), (14, .ifCond .eq 13, 27, 0, 0), (17, .iload_n 3, 0, 0, 0), (18, .iconst 1, 0, 0, 0), (19, .bipush 99, 0, 0, 0), (21, .invokestatic 37, 97, 3, 702), (24, .ifCond .ne 6, 30, 0, 0), (27, .bipush (-2), 0, 0, 0), (29, .ireturn, 0, 0, 0), (30, .aload_n 0, 0, 0, 0), (31, .iload_n 1, 0, 0, 0), (32, .invokevirtual 88, 120, 2, 1002), (35, .ifCond .eq 9, 44, 0, 0), (38, .aload_n 0, 0, 0, 0), (39, .iconst 1, 0, 0, 0), (40, .invokevirtual 140, 139, 2, 1812), (43, .ireturn, 0, 0, 0), (44, .iload_n 2, 0, 0, 0), (45, .aload_n 0, 0, 0, 0), (46, .iload_n 1, 0, 0, 0), (47, .iconst 2, 0, 0, 0), (48, .invokevirtual 73, 106, 3, 1006), (51, .if_icmp .le 9, 60, 0, 0), (54, .aload_n 0, 0, 0, 0), (55, .iconst 2, 0, 0, 0), (56, .invokevirtual 140, 139, 2, 1812), (59, .ireturn, 0, 0, 0), (60, .aload_n 0, 0, 0, 0), (61, .iload_n 1, 0, 0, 0), (62, .iload_n 2, 0, 0, 0), (63, .invokevirtual 143, 140, 3, 1816), (66, .ifCond .ne 9, 75, 0, 0), (69, .aload_n 0, 0, 0, 0)]
def a_c141_1 : List (Nat × aR) := [(70, .iconst 3, 0, 0, 0), (71, .invokevirtual 140, 139, 2, 1812), (74, .ireturn, 0, 0, 0), (75, .aload_n 0, 0, 0, 0), (76, .iload_n 1, 0, 0, 0), (77, .iload_n 2, 0, 0, 0), (78, .invokevirtual 99, 123, 3, 1820), (81, .istore 4, 0, 0, 0), (83, .iload 4, 0, 0, 0), (85, .bipush (-6), 0, 0, 0), (87, .if_icmp .ne 9, 96, 0, 0), (90, .aload_n 0, 0, 0, 0), (91, .iconst 4, 0, 0, 0), (92, .invokevirtual 140, 139, 2, 1812), (95, .ireturn, 0, 0, 0), (96, .aload_n 0, 0, 0, 0), (97, .invokevirtual 118, 98, 1, 708), (100, .aload_n 0, 0, 0, 0), (101, .getfield 7, 7, 0, 321), (104, .iconst 4, 0, 0, 0), (105, .iconst 0, 0, 0, 0), (106, .iastore, 0, 0, 0), (107, .aload_n 0, 0, 0, 0), (108, .iload_n 1, 0, 0, 0), (109, .iconst 3, 0, 0, 0), (110, .iload 4, 0, 0, 0), (112, .invokevirtual 95, 107, 4, 1207), (115, .aload_n 0, 0, 0, 0), (116, .iload_n 1, 0, 0, 0), (117, .iconst 4, 0, 0, 0), (118, .iload_n 2, 0, 0, 0), (119, .invokevirtual 95, 107, 4, 1207), (122, .aload_n 0, 0, 0, 0), (123, .iload_n 1, 0, 0, 0), (124, .iconst 5, 0, 0, 0), (125, .aload_n 0, 0, 0, 0), (126, .getfield 7, 7, 0, 321), (129, .iconst 0, 0, 0, 0), (130, .iaload, 0, 0, 0), (131, .iload_n 3, 0, 0, 0)]
def a_c141_2 : List (Nat × aR) := [(132, .iadd, 0, 0, 0), (133, .invokevirtual 95, 107, 4, 1207), (136, .aload_n 0, 0, 0, 0), (137, .iload_n 1, 0, 0, 0), (138, .bipush 6, 0, 0, 0), (140, .bipush (-6), 0, 0, 0), (142, .invokevirtual 95, 107, 4, 1207), (145, .iload 4, 0, 0, 0), (147, .ireturn, 0, 0, 0)]
def a_c141 : List (Nat × aR) := a_c141_0 ++ (a_c141_1 ++ (a_c141_2))
/-- X7 renew -/
def a_c142_0 : List (Nat × aR) := [(0, .aload_n 0, 0, 0, 0), (1, .iload_n 1, 0, 0, 0), (2, .invokevirtual 137, 103, 2, 1808), (5, .ifCond .ne 5, 10, 0, 0), (8, .iconst (-1), 0, 0, 0), (9, .ireturn, 0, 0, 0), (10, .iload_n 2, 0, 0, 0), (11, .iconst 1, 0, 0, 0), (12, .bipush 99, 0, 0, 0), (14, .invokestatic 37, 97, 3, 702), (17, .ifCond .ne 6, 23, 0, 0), (20, .bipush (-2), 0, 0, 0), (22, .ireturn, 0, 0, 0), (23, .aload_n 0, 0, 0, 0), (24, .iload_n 1, 0, 0, 0), (25, .invokevirtual 88, 120, 2, 1002), (28, .ifCond .ne 6, 34, 0, 0), (31, .bipush (-3), 0, 0, 0), (33, .ireturn, 0, 0, 0), (34, .aload_n 0, 0, 0, 0), (35, .iload_n 1, 0, 0, 0), (36, .bipush 6, 0, 0, 0), (38, .invokevirtual 73, 106, 3, 1006), (41, .bipush (-6), 0, 0, 0), (43, .if_icmp .eq 9, 52, 0, 0), (46, .aload_n 0, 0, 0, 0), (47, .iconst 5, 0, 0, 0), (48, .invokevirtual 140, 139, 2, 1812), (51, .ireturn, 0, 0, 0), (52, .aload_n 0, 0, 0, 0), (53, .invokevirtual 118, 98, 1, 708), (56, .aload_n 0, 0, 0, 0), (57, .getfield 7, 7, 0, 321), (60, .iconst 4, 0, 0, 0), (61, .iconst 0, 0, 0, 0), (62, .iastore, 0, 0, 0), (63, .aload_n 0, 0, 0, 0), (64, .iload_n 1, 0, 0, 0), (65, .iconst 5, 0, 0, 0), (66, .aload_n 0, 0, 0, 0)]
def a_c142_1 : List (Nat × aR) := [(67, .getfield 7, 7, 0, 321), (70, .iconst 0, 0, 0, 0), (71, .iaload, 0, 0, 0), (72, .iload_n 2, 0, 0, 0), (73, .iadd, 0, 0, 0), (74, .invokevirtual 95, 107, 4, 1207), (77, .aload_n 0, 0, 0, 0), (78, .getfield 7, 7, 0, 321), (81, .iconst 0, 0, 0, 0), (82, .iaload, 0, 0, 0), (83, .iload_n 2, 0, 0, 0), (84, .iadd, 0, 0, 0), (85, .ireturn, 0, 0, 0)]
def a_c142 : List (Nat × aR) := a_c142_0 ++ (a_c142_1)
/-- X7 giveBack -/
def a_c143 : List (Nat × aR) := [(0, .aload_n 0, 0, 0, 0), (1, .iload_n 1, 0, 0, 0), (2, .invokevirtual 137, 103, 2, 1808), (5, .ifCond .ne 5, 10, 0, 0), (8, .iconst (-1), 0, 0, 0), (9, .ireturn, 0, 0, 0), (10, .aload_n 0, 0, 0, 0), (11, .iload_n 1, 0, 0, 0), (12, .invokevirtual 88, 120, 2, 1002), (15, .ifCond .ne 6, 21, 0, 0), (18, .bipush (-3), 0, 0, 0), (20, .ireturn, 0, 0, 0), (21, .aload_n 0, 0, 0, 0), (22, .invokevirtual 118, 98, 1, 708), (25, .aload_n 0, 0, 0, 0), (26, .iload_n 1, 0, 0, 0), (27, .invokevirtual 102, 126, 2, 1310), (30, .aload_n 0, 0, 0, 0), (31, .invokevirtual 146, 128, 1, 2013), (34, .ireturn, 0, 0, 0)]
/-- X7 pass -/
def a_c144 : List (Nat × aR) := [(0, .iload_n 1, 0, 0, 0), (1, .iconst 1, 0, 0, 0), (2, .bipush 99, 0, 0, 0), (4, .invokestatic 37, 97, 3, 702), (7, .ifCond .ne 6, 13, 0, 0), (10, .bipush (-2), 0, 0, 0), (12, .ireturn, 0, 0, 0), (13, .aload_n 0, 0, 0, 0), (14, .getfield 7, 7, 0, 321), (17, .iconst 0, 0, 0, 0), (18, .iaload, 0, 0, 0), (19, .iload_n 1, 0, 0, 0), (20, .iadd, 0, 0, 0), (21, .sipush 9999, 0, 0, 0), (24, .if_icmp .le 6, 30, 0, 0), (27, .bipush (-3), 0, 0, 0), (29, .ireturn, 0, 0, 0), (30, .aload_n 0, 0, 0, 0), (31, .invokevirtual 118, 98, 1, 708), (34, .iconst 0, 0, 0, 0), (35, .istore_n 2, 0, 0, 0), (36, .iconst 0, 0, 0, 0), (37, .istore_n 3, 0, 0, 0), (38, .iload_n 3, 0, 0, 0), (39, .iload_n 1, 0, 0, 0), (40, .if_icmp .ge 16, 56, 0, 0), (43, .iload_n 2, 0, 0, 0), (44, .aload_n 0, 0, 0, 0), (45, .invokevirtual 149, 130, 1, 2201), (48, .iadd, 0, 0, 0), (49, .istore_n 2, 0, 0, 0), (50, .iinc 3 1, 0, 0, 0), (53, .goto (-15), 38, 0, 0), (56, .iload_n 2, 0, 0, 0), (57, .ireturn, 0, 0, 0)]
/-- X7 append -/
def a_c145 : List (Nat × aR) := [(0, .iload_n 1, 0, 0, 0), (1, .bipush 32, 0, 0, 0), (3, .bipush 126, 0, 0, 0), (5, .invokestatic 37, 97, 3, 702), (8, .ifCond .ne 6, 14, 0, 0), (11, .bipush (-2), 0, 0, 0), (13, .ireturn, 0, 0, 0), (14, .aload_n 0, 0, 0, 0), (15, .getfield 152, 7, 8, 2222), (18, .bipush 80, 0, 0, 0), (20, .if_icmp .ne 6, 26, 0, 0), (23, .bipush (-4), 0, 0, 0), (25, .ireturn, 0, 0, 0), (26, .aload_n 0, 0, 0, 0), (27, .getfield 26, 7, 7, 402), (30, .aload_n 0, 0, 0, 0), (31, .getfield 152, 7, 8, 2222), (34, .iload_n 1, 0, 0, 0), (35, .iastore, 0, 0, 0), (36, .aload_n 0, 0, 0, 0), (37, .dup, 0, 0, 0), (38, .getfield 152, 7, 8, 2222), (41, .iconst 1, 0, 0, 0), (42, .iadd, 0, 0, 0), (43, .putfield 152, 7, 8, 2222), (46, .aload_n 0, 0, 0, 0), (47, .getfield 152, 7, 8, 2222), (50, .ireturn, 0, 0, 0)]
/-- X7 clearText -/
def a_c146 : List (Nat × aR) := [(0, .aload_n 0, 0, 0, 0), (1, .getfield 152, 7, 8, 2222), (4, .istore_n 1, 0, 0, 0), (5, .aload_n 0, 0, 0, 0), (6, .iconst 0, 0, 0, 0), (7, .putfield 152, 7, 8, 2222), (10, .iload_n 1, 0, 0, 0), (11, .ireturn, 0, 0, 0)]
/-- X7 isAt -/
def a_c147 : List (Nat × aR) := [(0, .aload_n 0, 0, 0, 0), (1, .getfield 155, 7, 9, 2504), (4, .aload_n 0, 0, 0, 0), (5, .getfield 152, 7, 8, 2222), (8, .if_icmp .ge 24, 32, 0, 0), (11, .aload_n 0, 0, 0, 0), (12, .getfield 26, 7, 7, 402), (15, .aload_n 0, 0, 0, 0), (16, .getfield 155, 7, 9, 2504), (19, .iaload, 0, 0, 0), (20, .iload_n 1, 0, 0, 0), (21, .iload_n 2, 0, 0, 0), (22, .invokestatic 37, 97, 3, 702), (25, .ifCond .eq 7, 32, 0, 0), (28, .iconst 1, 0, 0, 0), (29, .goto 4, 33, 0, 0), (32, .iconst 0, 0, 0, 0), (33, .ireturn, 0, 0, 0)]
/-- X7 takes -/
def a_c148 : List (Nat × aR) := [(0, .aload_n 0, 0, 0, 0), (1, .iload_n 1, 0, 0, 0), (2, .iload_n 1, 0, 0, 0), (3, .invokevirtual 158, 147, 3, 2516), (6, .istore_n 2, 0, 0, 0), (7, .aload_n 0, 0, 0, 0), (8, .dup, 0, 0, 0), (9, .getfield 155, 7, 9, 2504), (12, .iload_n 2, 0, 0, 0), (13, .ifCond .eq 7, 20, 0, 0), (16, .iconst 1, 0, 0, 0), (17, .goto 4, 21, 0, 0), (20, .iconst 0, 0, 0, 0), (21, .iadd, 0, 0, 0), (22, .putfield 155, 7, 9, 2504), (25, .iload_n 2, 0, 0, 0), (26, .ireturn, 0, 0, 0)]
/-- X7 number -/
def a_c149_0 : List (Nat × aR) := [(0, .aload_n 0, 0, 0, 0), (1, .bipush 48, 0, 0, 0), (3, .bipush 57, 0, 0, 0), (5, .invokevirtual 158, 147, 3, 2516), (8, .ifCond .ne 6, 14, 0, 0), (11, .bipush (-6), 0, 0, 0), (13, .ireturn, 0, 0, 0), (14, .aload_n 0, 0, 0, 0), (15, .getfield 155, 7, 9, 2504), (18, .istore_n 3, 0, 0, 0), (19, .aload_n 0, 0, 0, 0), (20, .getfield 26, 7, 7, 402), (23, .aload_n 0, 0, 0, 0), (24, .getfield 155, 7, 9, 2504), (27, .iaload, 0, 0, 0), (28, .bipush 48, 0, 0, 0), (30, .isub, 0, 0, 0), (31, .istore 4, 0, 0, 0), (33, .aload_n 0, 0, 0, 0), (34, .dup, 0, 0, 0), (35, .getfield 155, 7, 9, 2504), (38, .iconst 1, 0, 0, 0), (39, .iadd, 0, 0, 0), (40, .putfield 155, 7, 9, 2504), (43, .iload 4, 0, 0, 0), (45, .ifCond .le 44, 89, 0, 0), (48, .aload_n 0, 0, 0, 0), (49, .bipush 48, 0, 0, 0), (51, .bipush 57, 0, 0, 0), (53, .invokevirtual 158, 147, 3, 2516), (56, .ifCond .eq 33, 89, 0, 0), (59, .bipush 10, 0, 0, 0), (61, .iload 4, 0, 0, 0), (63, .imul, 0, 0, 0), (64, .aload_n 0, 0, 0, 0), (65, .getfield 26, 7, 7, 402), (68, .aload_n 0, 0, 0, 0), (69, .getfield 155, 7, 9, 2504), (72, .iaload, 0, 0, 0), (73, .iadd, 0, 0, 0)]
def a_c149_1 : List (Nat × aR) := [(74, .bipush 48, 0, 0, 0), (76, .isub, 0, 0, 0), (77, .istore 4, 0, 0, 0), (79, .aload_n 0, 0, 0, 0), (80, .dup, 0, 0, 0), (81, .getfield 155, 7, 9, 2504), (84, .iconst 1, 0, 0, 0), (85, .iadd, 0, 0, 0), (86, .putfield 155, 7, 9, 2504), (89, .iload 4, 0, 0, 0), (91, .iload_n 1, 0, 0, 0), (92, .iload_n 2, 0, 0, 0), (93, .invokestatic 37, 97, 3, 702), (96, .ifCond .ne 11, 107, 0, 0), (99, .aload_n 0, 0, 0, 0), (100, .iload_n 3, 0, 0, 0), (101, .putfield 155, 7, 9, 2504), (104, .bipush (-6), 0, 0, 0), (106, .ireturn, 0, 0, 0), (107, .iload 4, 0, 0, 0), (109, .ireturn, 0, 0, 0)]
def a_c149 : List (Nat × aR) := a_c149_0 ++ (a_c149_1)
/-- X7 reads -/
def a_c150_0 : List (Nat × aR) := [(0, .aload_n 0, 0, 0, 0), (1, .getfield 155, 7, 9, 2504), (4, .aload_n 0, 0, 0, 0), (5, .getfield 152, 7, 8, 2222), (8, .if_icmp .ge 15, 23, 0, 0), (11, .aload_n 0, 0, 0, 0), (12, .getfield 26, 7, 7, 402), (15, .aload_n 0, 0, 0, 0), (16, .getfield 155, 7, 9, 2504), (19, .iaload, 0, 0, 0), (20, .goto 5, 25, 0, 0), (23, .bipush (-6), 0, 0, 0), (25, .istore_n 1, 0, 0, 0), (26, .iload_n 1, 0, 0, 0), (27, .lookupswitch 230 #[(103, 155), (108, 49), (116, 155), (119, 155), (122, 155)], 0, 49, 0), (76, .aload_n 0, 0, 0, 0), (77, .dup, 0, 0, 0), (78, .getfield 155, 7, 9, 2504), (81, .iconst 1, 0, 0, 0), (82, .iadd, 0, 0, 0), (83, .putfield 155, 7, 9, 2504), (86, .aload_n 0, 0, 0, 0), (87, .aload_n 0, 0, 0, 0), (88, .iconst 0, 0, 0, 0), (89, .bipush 15, 0, 0, 0), (91, .invokevirtual 161, 149, 3, 2512), (94, .putfield 164, 7, 10, 2509), (97, .aload_n 0, 0, 0, 0), (98, .aload_n 0, 0, 0, 0), (99, .getfield 164, 7, 10, 2509), (102, .ifCond .lt 21, 123, 0, 0), (105, .aload_n 0, 0, 0, 0), (106, .bipush 112, 0, 0, 0), (108, .invokevirtual 167, 148, 2, 2520), (111, .ifCond .eq 12, 123, 0, 0), (114, .aload_n 0, 0, 0, 0), (115, .iconst 0, 0, 0, 0), (116, .iconst 3, 0, 0, 0), (117, .invokevirtual 161, 149, 3, 2512), (120, .goto 5, 125, 0, 0)]
def a_c150_1 : List (Nat × aR) := [(123, .bipush (-6), 0, 0, 0), (125, .putfield 170, 7, 11, 2510), (128, .aload_n 0, 0, 0, 0), (129, .aload_n 0, 0, 0, 0), (130, .getfield 170, 7, 11, 2510), (133, .ifCond .lt 22, 155, 0, 0), (136, .aload_n 0, 0, 0, 0), (137, .bipush 104, 0, 0, 0), (139, .invokevirtual 167, 148, 2, 2520), (142, .ifCond .eq 13, 155, 0, 0), (145, .aload_n 0, 0, 0, 0), (146, .iconst 1, 0, 0, 0), (147, .bipush 99, 0, 0, 0), (149, .invokevirtual 161, 149, 3, 2512), (152, .goto 5, 157, 0, 0), (155, .bipush (-6), 0, 0, 0), (157, .putfield 173, 7, 12, 2511), (160, .aload_n 0, 0, 0, 0), (161, .getfield 173, 7, 12, 2511), (164, .ifCond .lt 16, 180, 0, 0), (167, .aload_n 0, 0, 0, 0), (168, .bipush 59, 0, 0, 0), (170, .invokevirtual 167, 148, 2, 2520), (173, .ifCond .eq 7, 180, 0, 0), (176, .iconst 1, 0, 0, 0), (177, .goto 4, 181, 0, 0), (180, .iconst 0, 0, 0, 0), (181, .ireturn, 0, 0, 0), (182, .aload_n 0, 0, 0, 0), (183, .dup, 0, 0, 0), (184, .getfield 155, 7, 9, 2504), (187, .iconst 1, 0, 0, 0), (188, .iadd, 0, 0, 0), (189, .putfield 155, 7, 9, 2504), (192, .aload_n 0, 0, 0, 0), (193, .aload_n 0, 0, 0, 0), (194, .iload_n 1, 0, 0, 0), (195, .bipush 116, 0, 0, 0), (197, .if_icmp .ne 7, 204, 0, 0), (200, .iconst 1, 0, 0, 0)]
def a_c150_2 : List (Nat × aR) := [(201, .goto 4, 205, 0, 0), (204, .iconst 0, 0, 0, 0), (205, .iload_n 1, 0, 0, 0), (206, .bipush 116, 0, 0, 0), (208, .if_icmp .ne 8, 216, 0, 0), (211, .bipush 99, 0, 0, 0), (213, .goto 16, 229, 0, 0), (216, .iload_n 1, 0, 0, 0), (217, .bipush 103, 0, 0, 0), (219, .if_icmp .ne 8, 227, 0, 0), (222, .bipush 15, 0, 0, 0), (224, .goto 5, 229, 0, 0), (227, .bipush 7, 0, 0, 0), (229, .invokevirtual 161, 149, 3, 2512), (232, .putfield 164, 7, 10, 2509), (235, .aload_n 0, 0, 0, 0), (236, .getfield 164, 7, 10, 2509), (239, .ifCond .lt 16, 255, 0, 0), (242, .aload_n 0, 0, 0, 0), (243, .bipush 59, 0, 0, 0), (245, .invokevirtual 167, 148, 2, 2520), (248, .ifCond .eq 7, 255, 0, 0), (251, .iconst 1, 0, 0, 0), (252, .goto 4, 256, 0, 0), (255, .iconst 0, 0, 0, 0), (256, .ireturn, 0, 0, 0), (257, .iconst 0, 0, 0, 0), (258, .ireturn, 0, 0, 0)]
def a_c150 : List (Nat × aR) := a_c150_0 ++ (a_c150_1 ++ (a_c150_2))
/-- X7 faultPosition -/
def a_c151 : List (Nat × aR) := [(0, .aload_n 0, 0, 0, 0), (1, .iconst 0, 0, 0, 0), (2, .putfield 155, 7, 9, 2504), (5, .iconst 1, 0, 0, 0), (6, .istore_n 1, 0, 0, 0), (7, .iload_n 1, 0, 0, 0), (8, .ifCond .eq 22, 30, 0, 0), (11, .aload_n 0, 0, 0, 0), (12, .getfield 155, 7, 9, 2504), (15, .aload_n 0, 0, 0, 0), (16, .getfield 152, 7, 8, 2222), (19, .if_icmp .ge 11, 30, 0, 0), (22, .aload_n 0, 0, 0, 0), (23, .invokevirtual 176, 150, 1, 2505), (26, .istore_n 1, 0, 0, 0), (27, .goto (-20), 7, 0, 0), (30, .iload_n 1, 0, 0, 0), (31, .ifCond .eq 8, 39, 0, 0), (34, .bipush (-6), 0, 0, 0), (36, .goto 7, 43, 0, 0), (39, .aload_n 0, 0, 0, 0), (40, .getfield 155, 7, 9, 2504), (43, .ireturn, 0, 0, 0)]
/-- X7 does -/
def a_c152 : List (Nat × aR) := [(0, .iload_n 1, 0, 0, 0), (1, .lookupswitch 87 #[(103, 60), (108, 43), (119, 69), (122, 78)], 0, 43, 0), (44, .aload_n 0, 0, 0, 0), (45, .aload_n 0, 0, 0, 0), (46, .getfield 164, 7, 10, 2509), (49, .aload_n 0, 0, 0, 0), (50, .getfield 170, 7, 11, 2510), (53, .aload_n 0, 0, 0, 0), (54, .getfield 173, 7, 12, 2511), (57, .invokevirtual 180, 141, 4, 2620), (60, .ireturn, 0, 0, 0), (61, .aload_n 0, 0, 0, 0), (62, .aload_n 0, 0, 0, 0), (63, .getfield 164, 7, 10, 2509), (66, .invokevirtual 184, 143, 2, 2621), (69, .ireturn, 0, 0, 0), (70, .aload_n 0, 0, 0, 0), (71, .aload_n 0, 0, 0, 0), (72, .getfield 164, 7, 10, 2509), (75, .invokevirtual 187, 136, 2, 2622), (78, .ireturn, 0, 0, 0), (79, .aload_n 0, 0, 0, 0), (80, .aload_n 0, 0, 0, 0), (81, .getfield 164, 7, 10, 2509), (84, .invokevirtual 190, 137, 2, 2623), (87, .ireturn, 0, 0, 0), (88, .aload_n 0, 0, 0, 0), (89, .aload_n 0, 0, 0, 0), (90, .getfield 164, 7, 10, 2509), (93, .invokevirtual 193, 144, 2, 2700), (96, .ireturn, 0, 0, 0)]
/-- X7 run -/
def a_c153_0 : List (Nat × aR) := [(0, .aload_n 0, 0, 0, 0), (1, .invokevirtual 196, 151, 1, 2615), (4, .bipush (-6), 0, 0, 0), (6, .if_icmp .eq 6, 12, 0, 0), (9, .bipush (-3), 0, 0, 0), (11, .ireturn, 0, 0, 0), (12, .aload_n 0, 0, 0, 0), (13, .invokevirtual 118, 98, 1, 708), (16, .aload_n 0, 0, 0, 0), (17, .iconst 1, 0, 0, 0), (18, .putfield 29, 7, 6, 712), (21, .iconst 0, 0, 0, 0), (22, .istore_n 1, 0, 0, 0), (23, .iconst 1, 0, 0, 0), (24, .istore_n 2, 0, 0, 0), (25, .aload_n 0, 0, 0, 0), (26, .iconst 0, 0, 0, 0), (27, .putfield 155, 7, 9, 2504), (30, .iload_n 2, 0, 0, 0), (31, .ifCond .eq 60, 91, 0, 0), (34, .aload_n 0, 0, 0, 0), (35, .getfield 155, 7, 9, 2504), (38, .aload_n 0, 0, 0, 0), (39, .getfield 152, 7, 8, 2222), (42, .if_icmp .ge 49, 91, 0, 0), (45, .aload_n 0, 0, 0, 0), (46, .getfield 26, 7, 7, 402), (49, .aload_n 0, 0, 0, 0), (50, .getfield 155, 7, 9, 2504), (53, .iaload, 0, 0, 0), (54, .istore_n 3, 0, 0, 0), (55, .aload_n 0, 0, 0, 0), (56, .invokevirtual 176, 150, 1, 2505), (59, .ifCond .eq 15, 74, 0, 0), (62, .aload_n 0, 0, 0, 0), (63, .iload_n 3, 0, 0, 0), (64, .invokevirtual 199, 152, 2, 2616), (67, .ifCond .lt 7, 74, 0, 0), (70, .iconst 1, 0, 0, 0), (71, .goto 4, 75, 0, 0)]
def a_c153_1 : List (Nat × aR) := [(74, .iconst 0, 0, 0, 0), (75, .istore_n 2, 0, 0, 0), (76, .iload_n 1, 0, 0, 0), (77, .iload_n 2, 0, 0, 0), (78, .ifCond .eq 7, 85, 0, 0), (81, .iconst 1, 0, 0, 0), (82, .goto 4, 86, 0, 0), (85, .iconst 0, 0, 0, 0), (86, .iadd, 0, 0, 0), (87, .istore_n 1, 0, 0, 0), (88, .goto (-58), 30, 0, 0), (91, .aload_n 0, 0, 0, 0), (92, .iconst 0, 0, 0, 0), (93, .putfield 29, 7, 6, 712), (96, .iload_n 1, 0, 0, 0), (97, .ireturn, 0, 0, 0)]
def a_c153 : List (Nat × aR) := a_c153_0 ++ (a_c153_1)
/-- X7 undo -/
def a_c154 : List (Nat × aR) := [(0, .aload_n 0, 0, 0, 0), (1, .getfield 33, 7, 5, 713), (4, .ifCond .ne 6, 10, 0, 0), (7, .bipush (-3), 0, 0, 0), (9, .ireturn, 0, 0, 0), (10, .aload_n 0, 0, 0, 0), (11, .dup, 0, 0, 0), (12, .getfield 33, 7, 5, 713), (15, .iconst 1, 0, 0, 0), (16, .isub, 0, 0, 0), (17, .putfield 33, 7, 5, 713), (20, .iconst 0, 0, 0, 0), (21, .istore_n 1, 0, 0, 0), (22, .iload_n 1, 0, 0, 0), (23, .sipush 264, 0, 0, 0), (26, .if_icmp .ge 30, 56, 0, 0), (29, .aload_n 0, 0, 0, 0), (30, .getfield 7, 7, 0, 321), (33, .iload_n 1, 0, 0, 0), (34, .aload_n 0, 0, 0, 0), (35, .getfield 13, 7, 1, 322), (38, .sipush 264, 0, 0, 0), (41, .aload_n 0, 0, 0, 0), (42, .getfield 33, 7, 5, 713), (45, .imul, 0, 0, 0), (46, .iload_n 1, 0, 0, 0), (47, .iadd, 0, 0, 0), (48, .iaload, 0, 0, 0), (49, .iastore, 0, 0, 0), (50, .iinc 1 1, 0, 0, 0), (53, .goto (-31), 22, 0, 0), (56, .aload_n 0, 0, 0, 0), (57, .getfield 33, 7, 5, 713), (60, .ireturn, 0, 0, 0)]
/-- X7 save -/
def a_c155 : List (Nat × aR) := [(0, .iload_n 1, 0, 0, 0), (1, .iconst 0, 0, 0, 0), (2, .iconst 1, 0, 0, 0), (3, .invokestatic 37, 97, 3, 702), (6, .ifCond .ne 5, 11, 0, 0), (9, .iconst (-1), 0, 0, 0), (10, .ireturn, 0, 0, 0), (11, .iconst 0, 0, 0, 0), (12, .istore_n 2, 0, 0, 0), (13, .iload_n 2, 0, 0, 0), (14, .sipush 264, 0, 0, 0), (17, .if_icmp .ge 27, 44, 0, 0), (20, .aload_n 0, 0, 0, 0), (21, .getfield 16, 7, 2, 323), (24, .sipush 264, 0, 0, 0), (27, .iload_n 1, 0, 0, 0), (28, .imul, 0, 0, 0), (29, .iload_n 2, 0, 0, 0), (30, .iadd, 0, 0, 0), (31, .aload_n 0, 0, 0, 0), (32, .getfield 7, 7, 0, 321), (35, .iload_n 2, 0, 0, 0), (36, .iaload, 0, 0, 0), (37, .iastore, 0, 0, 0), (38, .iinc 2 1, 0, 0, 0), (41, .goto (-28), 13, 0, 0), (44, .aload_n 0, 0, 0, 0), (45, .getfield 19, 7, 3, 400), (48, .iload_n 1, 0, 0, 0), (49, .iconst 1, 0, 0, 0), (50, .bastore, 0, 0, 0), (51, .aload_n 0, 0, 0, 0), (52, .getfield 7, 7, 0, 321), (55, .iconst 0, 0, 0, 0), (56, .iaload, 0, 0, 0), (57, .ireturn, 0, 0, 0)]
/-- X7 restore -/
def a_c156 : List (Nat × aR) := [(0, .iload_n 1, 0, 0, 0), (1, .iconst 0, 0, 0, 0), (2, .iconst 1, 0, 0, 0), (3, .invokestatic 37, 97, 3, 702), (6, .ifCond .ne 5, 11, 0, 0), (9, .iconst (-1), 0, 0, 0), (10, .ireturn, 0, 0, 0), (11, .aload_n 0, 0, 0, 0), (12, .getfield 19, 7, 3, 400), (15, .iload_n 1, 0, 0, 0), (16, .baload, 0, 0, 0), (17, .ifCond .ne 6, 23, 0, 0), (20, .bipush (-3), 0, 0, 0), (22, .ireturn, 0, 0, 0), (23, .aload_n 0, 0, 0, 0), (24, .invokevirtual 118, 98, 1, 708), (27, .iconst 0, 0, 0, 0), (28, .istore_n 2, 0, 0, 0), (29, .iload_n 2, 0, 0, 0), (30, .sipush 264, 0, 0, 0), (33, .if_icmp .ge 27, 60, 0, 0), (36, .aload_n 0, 0, 0, 0), (37, .getfield 7, 7, 0, 321), (40, .iload_n 2, 0, 0, 0), (41, .aload_n 0, 0, 0, 0), (42, .getfield 16, 7, 2, 323), (45, .sipush 264, 0, 0, 0), (48, .iload_n 1, 0, 0, 0), (49, .imul, 0, 0, 0), (50, .iload_n 2, 0, 0, 0), (51, .iadd, 0, 0, 0), (52, .iaload, 0, 0, 0), (53, .iastore, 0, 0, 0), (54, .iinc 2 1, 0, 0, 0), (57, .goto (-28), 29, 0, 0), (60, .aload_n 0, 0, 0, 0), (61, .getfield 7, 7, 0, 321), (64, .iconst 0, 0, 0, 0), (65, .iaload, 0, 0, 0), (66, .ireturn, 0, 0, 0)]
/-- X7 onAccount -/
def a_c157_0 : List (Nat × aR) := [(0, .iconst 0, 0, 0, 0), (1, .istore_n 2, 0, 0, 0), (2, .aload_n 0, 0, 0, 0), (3, .iload_n 1, 0, 0, 0), (4, .iconst 4, 0, 0, 0), (5, .invokevirtual 41, 104, 3, 1106), (8, .ifCond .ne 5, 13, 0, 0), (11, .iconst 0, 0, 0, 0), (12, .ireturn, 0, 0, 0), (13, .iconst 0, 0, 0, 0), (14, .istore_n 3, 0, 0, 0), (15, .iload_n 3, 0, 0, 0), (16, .aload_n 0, 0, 0, 0), (17, .getfield 7, 7, 0, 321), (20, .iconst 3, 0, 0, 0), (21, .iaload, 0, 0, 0), (22, .if_icmp .ge 69, 91, 0, 0), (25, .aload_n 0, 0, 0, 0), (26, .iload_n 3, 0, 0, 0), (27, .invokevirtual 88, 120, 2, 1002), (30, .ifCond .eq 55, 85, 0, 0), (33, .aload_n 0, 0, 0, 0), (34, .iload_n 3, 0, 0, 0), (35, .invokevirtual 92, 124, 2, 1010), (38, .ifCond .ne 47, 85, 0, 0), (41, .aload_n 0, 0, 0, 0), (42, .getfield 7, 7, 0, 321), (45, .bipush 8, 0, 0, 0), (47, .iconst 5, 0, 0, 0), (48, .iload_n 1, 0, 0, 0), (49, .imul, 0, 0, 0), (50, .iadd, 0, 0, 0), (51, .iconst 4, 0, 0, 0), (52, .iadd, 0, 0, 0), (53, .iconst 0, 0, 0, 0), (54, .iastore, 0, 0, 0), (55, .iload_n 2, 0, 0, 0), (56, .aload_n 0, 0, 0, 0), (57, .iload_n 3, 0, 0, 0), (58, .invokevirtual 92, 124, 2, 1010)]
def a_c157_1 : List (Nat × aR) := [(61, .ifCond .eq 7, 68, 0, 0), (64, .iconst 1, 0, 0, 0), (65, .goto 4, 69, 0, 0), (68, .iconst 0, 0, 0, 0), (69, .iadd, 0, 0, 0), (70, .istore_n 2, 0, 0, 0), (71, .aload_n 0, 0, 0, 0), (72, .getfield 7, 7, 0, 321), (75, .bipush 8, 0, 0, 0), (77, .iconst 5, 0, 0, 0), (78, .iload_n 1, 0, 0, 0), (79, .imul, 0, 0, 0), (80, .iadd, 0, 0, 0), (81, .iconst 4, 0, 0, 0), (82, .iadd, 0, 0, 0), (83, .iconst 1, 0, 0, 0), (84, .iastore, 0, 0, 0), (85, .iinc 3 1, 0, 0, 0), (88, .goto (-73), 15, 0, 0), (91, .iload_n 2, 0, 0, 0), (92, .ireturn, 0, 0, 0)]
def a_c157 : List (Nat × aR) := a_c157_0 ++ (a_c157_1)
/-- X7 station -/
def a_c158 : List (Nat × aR) := [(0, .aload_n 0, 0, 0, 0), (1, .iload_n 1, 0, 0, 0), (2, .invokevirtual 124, 101, 2, 1503), (5, .ifCond .ne 5, 10, 0, 0), (8, .iconst (-1), 0, 0, 0), (9, .ireturn, 0, 0, 0), (10, .iload_n 2, 0, 0, 0), (11, .tableswitch 71 0 6 #[41, 41, 41, 41, 48, 58, 65], 0, 41, 0), (52, .aload_n 0, 0, 0, 0), (53, .iload_n 1, 0, 0, 0), (54, .iload_n 2, 0, 0, 0), (55, .invokevirtual 41, 104, 3, 1106), (58, .ireturn, 0, 0, 0), (59, .aload_n 0, 0, 0, 0), (60, .iload_n 1, 0, 0, 0), (61, .iconst 3, 0, 0, 0), (62, .invokevirtual 41, 104, 3, 1106), (65, .invokestatic 45, 111, 1, 1110), (68, .ireturn, 0, 0, 0), (69, .aload_n 0, 0, 0, 0), (70, .iload_n 1, 0, 0, 0), (71, .iconst 4, 0, 0, 0), (72, .invokevirtual 41, 104, 3, 1106), (75, .ireturn, 0, 0, 0), (76, .aload_n 0, 0, 0, 0), (77, .iload_n 1, 0, 0, 0), (78, .invokevirtual 202, 157, 2, 2907), (81, .ireturn, 0, 0, 0), (82, .bipush (-2), 0, 0, 0), (84, .ireturn, 0, 0, 0)]
/-- X7 event -/
def a_c159 : List (Nat × aR) := [(0, .aload_n 0, 0, 0, 0), (1, .iload_n 1, 0, 0, 0), (2, .invokevirtual 134, 102, 2, 1611), (5, .ifCond .ne 5, 10, 0, 0), (8, .iconst (-1), 0, 0, 0), (9, .ireturn, 0, 0, 0), (10, .iload_n 2, 0, 0, 0), (11, .iconst 0, 0, 0, 0), (12, .bipush 7, 0, 0, 0), (14, .invokestatic 37, 97, 3, 702), (17, .ifCond .ne 6, 23, 0, 0), (20, .bipush (-2), 0, 0, 0), (22, .ireturn, 0, 0, 0), (23, .iload_n 2, 0, 0, 0), (24, .bipush 7, 0, 0, 0), (26, .if_icmp .ge 12, 38, 0, 0), (29, .aload_n 0, 0, 0, 0), (30, .iload_n 1, 0, 0, 0), (31, .iload_n 2, 0, 0, 0), (32, .invokevirtual 56, 105, 3, 1123), (35, .goto 22, 57, 0, 0), (38, .aload_n 0, 0, 0, 0), (39, .iload_n 1, 0, 0, 0), (40, .aload_n 0, 0, 0, 0), (41, .getfield 7, 7, 0, 321), (44, .iconst 0, 0, 0, 0), (45, .iaload, 0, 0, 0), (46, .invokevirtual 62, 115, 3, 1203), (49, .ifCond .eq 7, 56, 0, 0), (52, .iconst 1, 0, 0, 0), (53, .goto 4, 57, 0, 0), (56, .iconst 0, 0, 0, 0), (57, .ireturn, 0, 0, 0)]
/-- X7 nextAsk -/
def a_c160 : List (Nat × aR) := [(0, .aload_n 0, 0, 0, 0), (1, .getfield 7, 7, 0, 321), (4, .iconst 0, 0, 0, 0), (5, .iaload, 0, 0, 0), (6, .iconst 1, 0, 0, 0), (7, .iadd, 0, 0, 0), (8, .istore_n 2, 0, 0, 0), (9, .iload_n 2, 0, 0, 0), (10, .iload_n 1, 0, 0, 0), (11, .iadd, 0, 0, 0), (12, .aload_n 0, 0, 0, 0), (13, .getfield 7, 7, 0, 321), (16, .bipush 6, 0, 0, 0), (18, .iaload, 0, 0, 0), (19, .irem, 0, 0, 0), (20, .ifCond .eq 9, 29, 0, 0), (23, .iinc 2 1, 0, 0, 0), (26, .goto (-17), 9, 0, 0), (29, .iload_n 2, 0, 0, 0), (30, .ireturn, 0, 0, 0)]
/-- X7 device -/
def a_c161 : List (Nat × aR) := [(0, .aload_n 0, 0, 0, 0), (1, .iload_n 1, 0, 0, 0), (2, .invokevirtual 137, 103, 2, 1808), (5, .ifCond .ne 5, 10, 0, 0), (8, .iconst (-1), 0, 0, 0), (9, .ireturn, 0, 0, 0), (10, .iload_n 2, 0, 0, 0), (11, .iconst 0, 0, 0, 0), (12, .bipush 10, 0, 0, 0), (14, .invokestatic 37, 97, 3, 702), (17, .ifCond .ne 6, 23, 0, 0), (20, .bipush (-2), 0, 0, 0), (22, .ireturn, 0, 0, 0), (23, .iload_n 2, 0, 0, 0), (24, .bipush 10, 0, 0, 0), (26, .if_icmp .ne 11, 37, 0, 0), (29, .aload_n 0, 0, 0, 0), (30, .iload_n 1, 0, 0, 0), (31, .invokevirtual 205, 160, 2, 3019), (34, .goto 9, 43, 0, 0), (37, .aload_n 0, 0, 0, 0), (38, .iload_n 1, 0, 0, 0), (39, .iload_n 2, 0, 0, 0), (40, .invokevirtual 73, 106, 3, 1006), (43, .ireturn, 0, 0, 0)]
/-- X7 power -/
def a_c162 : List (Nat × aR) := [(0, .iload_n 1, 0, 0, 0), (1, .invokestatic 115, 109, 1, 705), (4, .ifCond .eq 11, 15, 0, 0), (7, .iload_n 2, 0, 0, 0), (8, .iload_n 3, 0, 0, 0), (9, .invokestatic 112, 108, 2, 623), (12, .ifCond .ne 6, 18, 0, 0), (15, .bipush (-2), 0, 0, 0), (17, .ireturn, 0, 0, 0), (18, .bipush (-6), 0, 0, 0), (20, .istore 4, 0, 0, 0), (22, .iconst 0, 0, 0, 0), (23, .istore 5, 0, 0, 0), (25, .iload 5, 0, 0, 0), (27, .iconst 4, 0, 0, 0), (28, .if_icmp .ge 30, 58, 0, 0), (31, .aload_n 0, 0, 0, 0), (32, .iload_n 1, 0, 0, 0), (33, .iload_n 2, 0, 0, 0), (34, .iload_n 3, 0, 0, 0), (35, .iload 5, 0, 0, 0), (37, .invokevirtual 76, 118, 5, 1018), (40, .ifCond .eq 8, 48, 0, 0), (43, .iload 5, 0, 0, 0), (45, .goto 5, 50, 0, 0), (48, .iload 4, 0, 0, 0), (50, .istore 4, 0, 0, 0), (52, .iinc 5 1, 0, 0, 0), (55, .goto (-30), 25, 0, 0), (58, .iload 4, 0, 0, 0), (60, .ireturn, 0, 0, 0)]
/-- X7 offer -/
def a_c163 : List (Nat × aR) := [(0, .aload_n 0, 0, 0, 0), (1, .iload_n 1, 0, 0, 0), (2, .invokevirtual 137, 103, 2, 1808), (5, .ifCond .ne 5, 10, 0, 0), (8, .iconst (-1), 0, 0, 0), (9, .ireturn, 0, 0, 0), (10, .iload_n 2, 0, 0, 0), (11, .invokestatic 121, 110, 1, 1307), (14, .ifCond .eq 12, 26, 0, 0), (17, .aload_n 0, 0, 0, 0), (18, .iload_n 1, 0, 0, 0), (19, .iload_n 2, 0, 0, 0), (20, .invokevirtual 99, 123, 3, 1820), (23, .goto 5, 28, 0, 0), (26, .bipush (-2), 0, 0, 0), (28, .ireturn, 0, 0, 0)]
/-- X7 isAhead -/
def a_c164_0 : List (Nat × aR) := [(0, .aload_n 0, 0, 0, 0), (1, .iload_n 1, 0, 0, 0), (2, .iconst 5, 0, 0, 0), (3, .invokevirtual 73, 106, 3, 1006), (6, .aload_n 0, 0, 0, 0), (7, .iload_n 2, 0, 0, 0), (8, .iconst 5, 0, 0, 0), (9, .invokevirtual 73, 106, 3, 1006), (12, .isub, 0, 0, 0), (13, .istore_n 3, 0, 0, 0), (14, .iload_n 3, 0, 0, 0), (15, .ifCond .ne 39, 54, 0, 0), (18, .aload_n 0, 0, 0, 0), (19, .iload_n 1, 0, 0, 0), (20, .bipush 6, 0, 0, 0), (22, .invokevirtual 73, 106, 3, 1006), (25, .bipush (-6), 0, 0, 0), (27, .if_icmp .eq 7, 34, 0, 0), (30, .iconst 0, 0, 0, 0), (31, .goto 4, 35, 0, 0), (34, .iconst 1, 0, 0, 0), (35, .aload_n 0, 0, 0, 0), (36, .iload_n 2, 0, 0, 0), (37, .bipush 6, 0, 0, 0), (39, .invokevirtual 73, 106, 3, 1006), (42, .bipush (-6), 0, 0, 0), (44, .if_icmp .eq 7, 51, 0, 0), (47, .iconst 0, 0, 0, 0), (48, .goto 4, 52, 0, 0), (51, .iconst 1, 0, 0, 0), (52, .isub, 0, 0, 0), (53, .istore_n 3, 0, 0, 0), (54, .iload_n 3, 0, 0, 0), (55, .ifCond .ne 17, 72, 0, 0), (58, .aload_n 0, 0, 0, 0), (59, .iload_n 2, 0, 0, 0), (60, .iconst 4, 0, 0, 0), (61, .invokevirtual 73, 106, 3, 1006), (64, .aload_n 0, 0, 0, 0), (65, .iload_n 1, 0, 0, 0)]
def a_c164_1 : List (Nat × aR) := [(66, .iconst 4, 0, 0, 0), (67, .invokevirtual 73, 106, 3, 1006), (70, .isub, 0, 0, 0), (71, .istore_n 3, 0, 0, 0), (72, .iload_n 3, 0, 0, 0), (73, .ifCond .lt 12, 85, 0, 0), (76, .iload_n 3, 0, 0, 0), (77, .ifCond .ne 12, 89, 0, 0), (80, .iload_n 1, 0, 0, 0), (81, .iload_n 2, 0, 0, 0), (82, .if_icmp .ge 7, 89, 0, 0), (85, .iconst 1, 0, 0, 0), (86, .goto 4, 90, 0, 0), (89, .iconst 0, 0, 0, 0), (90, .ireturn, 0, 0, 0)]
def a_c164 : List (Nat × aR) := a_c164_0 ++ (a_c164_1)
/-- X7 next -/
def a_c165_0 : List (Nat × aR) := [(0, .iload_n 1, 0, 0, 0), (1, .ifCond .ge 6, 7, 0, 0), (4, .bipush (-2), 0, 0, 0), (6, .ireturn, 0, 0, 0), (7, .bipush (-6), 0, 0, 0), (9, .istore_n 2, 0, 0, 0), (10, .iconst 0, 0, 0, 0), (11, .istore_n 3, 0, 0, 0), (12, .iload_n 3, 0, 0, 0), (13, .aload_n 0, 0, 0, 0), (14, .getfield 7, 7, 0, 321), (17, .iconst 3, 0, 0, 0), (18, .iaload, 0, 0, 0), (19, .if_icmp .ge 95, 114, 0, 0), (22, .iconst 0, 0, 0, 0), (23, .istore 4, 0, 0, 0), (25, .iconst 0, 0, 0, 0), (26, .istore 5, 0, 0, 0), (28, .iload 5, 0, 0, 0), (30, .aload_n 0, 0, 0, 0), (31, .getfield 7, 7, 0, 321), (34, .iconst 3, 0, 0, 0), (35, .iaload, 0, 0, 0), (36, .if_icmp .ge 52, 88, 0, 0), (39, .aload_n 0, 0, 0, 0), (40, .iload_n 3, 0, 0, 0), (41, .invokevirtual 88, 120, 2, 1002), (44, .ifCond .eq 44, 88, 0, 0), (47, .iload 4, 0, 0, 0), (49, .iload 5, 0, 0, 0), (51, .iload_n 3, 0, 0, 0), (52, .if_icmp .eq 26, 78, 0, 0), (55, .aload_n 0, 0, 0, 0), (56, .iload 5, 0, 0, 0), (58, .invokevirtual 88, 120, 2, 1002), (61, .ifCond .eq 17, 78, 0, 0), (64, .aload_n 0, 0, 0, 0), (65, .iload 5, 0, 0, 0), (67, .iload_n 3, 0, 0, 0), (68, .invokevirtual 208, 164, 3, 3214)]
def a_c165_1 : List (Nat × aR) := [(71, .ifCond .eq 7, 78, 0, 0), (74, .iconst 1, 0, 0, 0), (75, .goto 4, 79, 0, 0), (78, .iconst 0, 0, 0, 0), (79, .iadd, 0, 0, 0), (80, .istore 4, 0, 0, 0), (82, .iinc 5 1, 0, 0, 0), (85, .goto (-57), 28, 0, 0), (88, .aload_n 0, 0, 0, 0), (89, .iload_n 3, 0, 0, 0), (90, .invokevirtual 88, 120, 2, 1002), (93, .ifCond .eq 13, 106, 0, 0), (96, .iload 4, 0, 0, 0), (98, .iload_n 1, 0, 0, 0), (99, .if_icmp .ne 7, 106, 0, 0), (102, .iload_n 3, 0, 0, 0), (103, .goto 4, 107, 0, 0), (106, .iload_n 2, 0, 0, 0), (107, .istore_n 2, 0, 0, 0), (108, .iinc 3 1, 0, 0, 0), (111, .goto (-99), 12, 0, 0), (114, .iload_n 2, 0, 0, 0), (115, .ireturn, 0, 0, 0)]
def a_c165 : List (Nat × aR) := a_c165_0 ++ (a_c165_1)
/-- X7 leases -/
def a_c166 : List (Nat × aR) := [(0, .iload_n 1, 0, 0, 0), (1, .invokestatic 115, 109, 1, 705), (4, .ifCond .eq 13, 17, 0, 0), (7, .aload_n 0, 0, 0, 0), (8, .bipush (-6), 0, 0, 0), (10, .iload_n 1, 0, 0, 0), (11, .invokevirtual 85, 122, 3, 1904), (14, .goto 5, 19, 0, 0), (17, .bipush (-2), 0, 0, 0), (19, .ireturn, 0, 0, 0)]
/-- X7 sumOf -/
def a_c167 : List (Nat × aR) := [(0, .iconst 0, 0, 0, 0), (1, .istore_n 2, 0, 0, 0), (2, .iconst 0, 0, 0, 0), (3, .istore_n 3, 0, 0, 0), (4, .iload_n 3, 0, 0, 0), (5, .aload_n 0, 0, 0, 0), (6, .getfield 7, 7, 0, 321), (9, .iconst 3, 0, 0, 0), (10, .iaload, 0, 0, 0), (11, .if_icmp .ge 18, 29, 0, 0), (14, .iload_n 2, 0, 0, 0), (15, .aload_n 0, 0, 0, 0), (16, .iload_n 3, 0, 0, 0), (17, .iload_n 1, 0, 0, 0), (18, .invokevirtual 73, 106, 3, 1006), (21, .iadd, 0, 0, 0), (22, .istore_n 2, 0, 0, 0), (23, .iinc 3 1, 0, 0, 0), (26, .goto (-22), 4, 0, 0), (29, .iload_n 2, 0, 0, 0), (30, .ireturn, 0, 0, 0)]
/-- X7 awake -/
def a_c168 : List (Nat × aR) := [(0, .iconst 0, 0, 0, 0), (1, .istore_n 1, 0, 0, 0), (2, .iconst 0, 0, 0, 0), (3, .istore_n 2, 0, 0, 0), (4, .iload_n 2, 0, 0, 0), (5, .aload_n 0, 0, 0, 0), (6, .getfield 7, 7, 0, 321), (9, .iconst 1, 0, 0, 0), (10, .iaload, 0, 0, 0), (11, .if_icmp .ge 18, 29, 0, 0), (14, .iload_n 1, 0, 0, 0), (15, .aload_n 0, 0, 0, 0), (16, .iload_n 2, 0, 0, 0), (17, .iconst 4, 0, 0, 0), (18, .invokevirtual 41, 104, 3, 1106), (21, .iadd, 0, 0, 0), (22, .istore_n 1, 0, 0, 0), (23, .iinc 2 1, 0, 0, 0), (26, .goto (-22), 4, 0, 0), (29, .iload_n 1, 0, 0, 0), (30, .ireturn, 0, 0, 0)]
/-- X7 total -/
def a_c169_0 : List (Nat × aR) := [(0, .iload_n 1, 0, 0, 0), (1, .tableswitch 136 0 15 #[79, 79, 79, 79, 86, 91, 96, 101, 101, 101, 107, 114, 119, 124, 124, 124], 0, 79, 0), (80, .aload_n 0, 0, 0, 0), (81, .getfield 7, 7, 0, 321), (84, .iload_n 1, 0, 0, 0), (85, .iaload, 0, 0, 0), (86, .ireturn, 0, 0, 0), (87, .aload_n 0, 0, 0, 0), (88, .invokevirtual 211, 168, 1, 3400), (91, .ireturn, 0, 0, 0), (92, .aload_n 0, 0, 0, 0), (93, .invokevirtual 146, 128, 1, 2013), (96, .ireturn, 0, 0, 0), (97, .aload_n 0, 0, 0, 0), (98, .invokevirtual 127, 127, 1, 1507), (101, .ireturn, 0, 0, 0), (102, .aload_n 0, 0, 0, 0), (103, .iload_n 1, 0, 0, 0), (104, .invokevirtual 214, 167, 2, 3404), (107, .ireturn, 0, 0, 0), (108, .aload_n 0, 0, 0, 0), (109, .getfield 7, 7, 0, 321), (112, .iconst 4, 0, 0, 0), (113, .iaload, 0, 0, 0), (114, .ireturn, 0, 0, 0), (115, .aload_n 0, 0, 0, 0), (116, .getfield 33, 7, 5, 713), (119, .ireturn, 0, 0, 0), (120, .aload_n 0, 0, 0, 0), (121, .getfield 152, 7, 8, 2222), (124, .ireturn, 0, 0, 0), (125, .aload_n 0, 0, 0, 0), (126, .getfield 7, 7, 0, 321), (129, .iconst 5, 0, 0, 0), (130, .iload_n 1, 0, 0, 0), (131, .iadd, 0, 0, 0), (132, .bipush 13, 0, 0, 0), (134, .isub, 0, 0, 0), (135, .iaload, 0, 0, 0), (136, .ireturn, 0, 0, 0)]
def a_c169_1 : List (Nat × aR) := [(137, .bipush (-2), 0, 0, 0), (139, .ireturn, 0, 0, 0)]
def a_c169 : List (Nat × aR) := a_c169_0 ++ (a_c169_1)
/-- X7 vacant -/
def a_c170_0 : List (Nat × aR) := [(0, .iload_n 1, 0, 0, 0), (1, .invokestatic 115, 109, 1, 705), (4, .ifCond .eq 10, 14, 0, 0), (7, .iload_n 2, 0, 0, 0), (8, .invokestatic 121, 110, 1, 1307), (11, .ifCond .ne 6, 17, 0, 0), (14, .bipush (-2), 0, 0, 0), (16, .ireturn, 0, 0, 0), (17, .iconst 0, 0, 0, 0), (18, .istore_n 3, 0, 0, 0), (19, .iconst 0, 0, 0, 0), (20, .istore 4, 0, 0, 0), (22, .iload 4, 0, 0, 0), (24, .bipush 100, 0, 0, 0), (26, .if_icmp .ge 46, 72, 0, 0), (29, .iload_n 3, 0, 0, 0), (30, .aload_n 0, 0, 0, 0), (31, .iload_n 1, 0, 0, 0), (32, .bipush 10, 0, 0, 0), (34, .iload 4, 0, 0, 0), (36, .bipush 10, 0, 0, 0), (38, .idiv, 0, 0, 0), (39, .imul, 0, 0, 0), (40, .iconst 5, 0, 0, 0), (41, .iadd, 0, 0, 0), (42, .bipush 10, 0, 0, 0), (44, .iload 4, 0, 0, 0), (46, .bipush 10, 0, 0, 0), (48, .irem, 0, 0, 0), (49, .imul, 0, 0, 0), (50, .iconst 5, 0, 0, 0), (51, .iadd, 0, 0, 0), (52, .iload_n 2, 0, 0, 0), (53, .invokevirtual 76, 118, 5, 1018), (56, .ifCond .eq 7, 63, 0, 0), (59, .iconst 1, 0, 0, 0), (60, .goto 4, 64, 0, 0), (63, .iconst 0, 0, 0, 0), (64, .iadd, 0, 0, 0), (65, .istore_n 3, 0, 0, 0)]
def a_c170_1 : List (Nat × aR) := [(66, .iinc 4 1, 0, 0, 0), (69, .goto (-47), 22, 0, 0), (72, .iload_n 3, 0, 0, 0), (73, .ireturn, 0, 0, 0)]
def a_c170 : List (Nat × aR) := a_c170_0 ++ (a_c170_1)
/-- X7 allowedFrom -/
def a_c171_0 : List (Nat × aR) := [(0, .iload_n 1, 0, 0, 0), (1, .invokestatic 115, 109, 1, 705), (4, .ifCond .eq 19, 23, 0, 0), (7, .iload_n 2, 0, 0, 0), (8, .iload_n 3, 0, 0, 0), (9, .invokestatic 112, 108, 2, 623), (12, .ifCond .eq 11, 23, 0, 0), (15, .iload 4, 0, 0, 0), (17, .invokestatic 121, 110, 1, 1307), (20, .ifCond .ne 6, 26, 0, 0), (23, .bipush (-2), 0, 0, 0), (25, .ireturn, 0, 0, 0), (26, .aload_n 0, 0, 0, 0), (27, .getfield 7, 7, 0, 321), (30, .iconst 0, 0, 0, 0), (31, .iaload, 0, 0, 0), (32, .istore 5, 0, 0, 0), (34, .aload_n 0, 0, 0, 0), (35, .iload_n 1, 0, 0, 0), (36, .iload_n 2, 0, 0, 0), (37, .iload_n 3, 0, 0, 0), (38, .iload 4, 0, 0, 0), (40, .invokevirtual 66, 116, 5, 1022), (43, .istore 6, 0, 0, 0), (45, .iload 6, 0, 0, 0), (47, .ifCond .ne 31, 78, 0, 0), (50, .iload 5, 0, 0, 0), (52, .sipush 9999, 0, 0, 0), (55, .if_icmp .gt 23, 78, 0, 0), (58, .aload_n 0, 0, 0, 0), (59, .iload_n 1, 0, 0, 0), (60, .iload_n 2, 0, 0, 0), (61, .iload_n 3, 0, 0, 0), (62, .iload 4, 0, 0, 0), (64, .iload 5, 0, 0, 0), (66, .invokevirtual 70, 117, 6, 1119), (69, .ifCond .eq 9, 78, 0, 0), (72, .iinc 5 1, 0, 0, 0), (75, .goto (-30), 45, 0, 0), (78, .iload 6, 0, 0, 0)]
def a_c171_1 : List (Nat × aR) := [(80, .ifCond .ne 11, 91, 0, 0), (83, .iload 5, 0, 0, 0), (85, .sipush 9999, 0, 0, 0), (88, .if_icmp .le 8, 96, 0, 0), (91, .bipush (-6), 0, 0, 0), (93, .goto 5, 98, 0, 0), (96, .iload 5, 0, 0, 0), (98, .ireturn, 0, 0, 0)]
def a_c171 : List (Nat × aR) := a_c171_0 ++ (a_c171_1)
/-- X7 wouldStrike -/
def a_c172_0 : List (Nat × aR) := [(0, .aload_n 0, 0, 0, 0), (1, .iload_n 1, 0, 0, 0), (2, .invokevirtual 124, 101, 2, 1503), (5, .ifCond .ne 5, 10, 0, 0), (8, .iconst (-1), 0, 0, 0), (9, .ireturn, 0, 0, 0), (10, .aload_n 0, 0, 0, 0), (11, .iload_n 1, 0, 0, 0), (12, .iconst 4, 0, 0, 0), (13, .invokevirtual 41, 104, 3, 1106), (16, .iconst 1, 0, 0, 0), (17, .if_icmp .ne 6, 23, 0, 0), (20, .bipush (-3), 0, 0, 0), (22, .ireturn, 0, 0, 0), (23, .iconst 0, 0, 0, 0), (24, .istore_n 2, 0, 0, 0), (25, .aload_n 0, 0, 0, 0), (26, .getfield 7, 7, 0, 321), (29, .bipush 8, 0, 0, 0), (31, .iconst 5, 0, 0, 0), (32, .iload_n 1, 0, 0, 0), (33, .imul, 0, 0, 0), (34, .iadd, 0, 0, 0), (35, .iconst 4, 0, 0, 0), (36, .iadd, 0, 0, 0), (37, .iconst 1, 0, 0, 0), (38, .iastore, 0, 0, 0), (39, .iconst 0, 0, 0, 0), (40, .istore_n 3, 0, 0, 0), (41, .iload_n 3, 0, 0, 0), (42, .aload_n 0, 0, 0, 0), (43, .getfield 7, 7, 0, 321), (46, .iconst 3, 0, 0, 0), (47, .iaload, 0, 0, 0), (48, .if_icmp .ge 45, 93, 0, 0), (51, .iload_n 2, 0, 0, 0), (52, .aload_n 0, 0, 0, 0), (53, .iload_n 3, 0, 0, 0), (54, .invokevirtual 88, 120, 2, 1002), (57, .ifCond .eq 27, 84, 0, 0)]
def a_c172_1 : List (Nat × aR) := [(60, .aload_n 0, 0, 0, 0), (61, .iload_n 3, 0, 0, 0), (62, .bipush 6, 0, 0, 0), (64, .invokevirtual 73, 106, 3, 1006), (67, .bipush (-6), 0, 0, 0), (69, .if_icmp .ne 15, 84, 0, 0), (72, .aload_n 0, 0, 0, 0), (73, .iload_n 3, 0, 0, 0), (74, .invokevirtual 92, 124, 2, 1010), (77, .ifCond .ne 7, 84, 0, 0), (80, .iconst 1, 0, 0, 0), (81, .goto 4, 85, 0, 0), (84, .iconst 0, 0, 0, 0), (85, .iadd, 0, 0, 0), (86, .istore_n 2, 0, 0, 0), (87, .iinc 3 1, 0, 0, 0), (90, .goto (-49), 41, 0, 0), (93, .aload_n 0, 0, 0, 0), (94, .getfield 7, 7, 0, 321), (97, .bipush 8, 0, 0, 0), (99, .iconst 5, 0, 0, 0), (100, .iload_n 1, 0, 0, 0), (101, .imul, 0, 0, 0), (102, .iadd, 0, 0, 0), (103, .iconst 4, 0, 0, 0), (104, .iadd, 0, 0, 0), (105, .iconst 0, 0, 0, 0), (106, .iastore, 0, 0, 0), (107, .iload_n 2, 0, 0, 0), (108, .ireturn, 0, 0, 0)]
def a_c172 : List (Nat × aR) := a_c172_0 ++ (a_c172_1)
/-- X7 channelIn -/
def a_c173_0 : List (Nat × aR) := [(0, .aload_n 0, 0, 0, 0), (1, .iload_n 1, 0, 0, 0), (2, .invokevirtual 137, 103, 2, 1808), (5, .ifCond .ne 5, 10, 0, 0), (8, .iconst (-1), 0, 0, 0), (9, .ireturn, 0, 0, 0), (10, .iload_n 2, 0, 0, 0), (11, .iconst 0, 0, 0, 0), (12, .bipush 99, 0, 0, 0), (14, .invokestatic 37, 97, 3, 702), (17, .ifCond .ne 6, 23, 0, 0), (20, .bipush (-2), 0, 0, 0), (22, .ireturn, 0, 0, 0), (23, .aload_n 0, 0, 0, 0), (24, .invokevirtual 217, 99, 1, 3521), (27, .iconst 0, 0, 0, 0), (28, .istore_n 3, 0, 0, 0), (29, .iconst 0, 0, 0, 0), (30, .istore 4, 0, 0, 0), (32, .iload 4, 0, 0, 0), (34, .iload_n 2, 0, 0, 0), (35, .if_icmp .ge 16, 51, 0, 0), (38, .iload_n 3, 0, 0, 0), (39, .aload_n 0, 0, 0, 0), (40, .invokevirtual 149, 130, 1, 2201), (43, .iadd, 0, 0, 0), (44, .istore_n 3, 0, 0, 0), (45, .iinc 4 1, 0, 0, 0), (48, .goto (-16), 32, 0, 0), (51, .iload_n 3, 0, 0, 0), (52, .ifCond .ge 8, 60, 0, 0), (55, .bipush (-6), 0, 0, 0), (57, .goto 9, 66, 0, 0), (60, .aload_n 0, 0, 0, 0), (61, .iload_n 1, 0, 0, 0), (62, .iconst 3, 0, 0, 0), (63, .invokevirtual 73, 106, 3, 1006), (66, .istore 4, 0, 0, 0), (68, .aload_n 0, 0, 0, 0), (69, .invokevirtual 220, 100, 1, 3601)]
def a_c173_1 : List (Nat × aR) := [(72, .iload 4, 0, 0, 0), (74, .ireturn, 0, 0, 0)]
def a_c173 : List (Nat × aR) := a_c173_0 ++ (a_c173_1)
/-- X7 clearIn -/
def a_c174 : List (Nat × aR) := [(0, .aload_n 0, 0, 0, 0), (1, .invokevirtual 217, 99, 1, 3521), (4, .iconst 0, 0, 0, 0), (5, .istore_n 1, 0, 0, 0), (6, .iconst 0, 0, 0, 0), (7, .istore_n 2, 0, 0, 0), (8, .iload_n 1, 0, 0, 0), (9, .bipush 50, 0, 0, 0), (11, .if_icmp .gt 23, 34, 0, 0), (14, .aload_n 0, 0, 0, 0), (15, .invokevirtual 127, 127, 1, 1507), (18, .ifCond .le 16, 34, 0, 0), (21, .iload_n 2, 0, 0, 0), (22, .aload_n 0, 0, 0, 0), (23, .invokevirtual 149, 130, 1, 2201), (26, .iadd, 0, 0, 0), (27, .istore_n 2, 0, 0, 0), (28, .iinc 1 1, 0, 0, 0), (31, .goto (-23), 8, 0, 0), (34, .aload_n 0, 0, 0, 0), (35, .invokevirtual 220, 100, 1, 3601), (38, .iload_n 1, 0, 0, 0), (39, .bipush 50, 0, 0, 0), (41, .if_icmp .gt 7, 48, 0, 0), (44, .iload_n 2, 0, 0, 0), (45, .ifCond .ge 8, 53, 0, 0), (48, .bipush (-6), 0, 0, 0), (50, .goto 4, 54, 0, 0), (53, .iload_n 1, 0, 0, 0), (54, .ireturn, 0, 0, 0)]
/-- L law -/
def a_c175_0 : List (Nat × aR) := [(0, .new 7, 0, 0, 0), (3, .dup, 0, 0, 0), (4, .invokespecial 9, 0, 0, 0), (7, .astore_n 1, 0, 0, 0), (8, .new 10, 0, 0, 0), (11, .dup, 0, 0, 0), (12, .invokespecial 12, 0, 0, 0), (15, .astore_n 2, 0, 0, 0), (16, .iconst 0, 0, 0, 0), (17, .istore_n 3, 0, 0, 0), (18, .iload_n 3, 0, 0, 0), (19, .aload_n 0, 0, 0, 0), (20, .arraylength, 0, 0, 0), (21, .bipush 7, 0, 0, 0), (23, .isub, 0, 0, 0), (24, .if_icmp .gt 1069, 1093, 0, 0), (27, .aload_n 0, 0, 0, 0), (28, .iload_n 3, 0, 0, 0), (29, .iaload, 0, 0, 0), (30, .bipush 31, 0, 0, 0), (32, .iand, 0, 0, 0), (33, .tableswitch 1054 0 30 #[139, 192, 267, 310, 343, 366, 389, 412, 455, 488, 511, 534, 557, 570, 583, 596, 609, 632, 655, 688, 721, 754, 797, 830, 853, 876, 899, 932, 985, 1008, 1041], 0, 139, 0), (172, .aload_n 1, 0, 0, 0), (173, .aload_n 0, 0, 0, 0), (174, .iload_n 3, 0, 0, 0), (175, .iconst 1, 0, 0, 0), (176, .iadd, 0, 0, 0), (177, .iaload, 0, 0, 0), (178, .aload_n 0, 0, 0, 0), (179, .iload_n 3, 0, 0, 0), (180, .iconst 2, 0, 0, 0), (181, .iadd, 0, 0, 0), (182, .iaload, 0, 0, 0), (183, .aload_n 0, 0, 0, 0), (184, .iload_n 3, 0, 0, 0), (185, .iconst 3, 0, 0, 0), (186, .iadd, 0, 0, 0), (187, .iaload, 0, 0, 0), (188, .aload_n 0, 0, 0, 0), (189, .iload_n 3, 0, 0, 0)]
def a_c175_1 : List (Nat × aR) := [(190, .iconst 4, 0, 0, 0), (191, .iadd, 0, 0, 0), (192, .iaload, 0, 0, 0), (193, .invokevirtual 13, 60, 5, 403), (196, .aload_n 2, 0, 0, 0), (197, .aload_n 0, 0, 0, 0), (198, .iload_n 3, 0, 0, 0), (199, .iconst 1, 0, 0, 0), (200, .iadd, 0, 0, 0), (201, .iaload, 0, 0, 0), (202, .aload_n 0, 0, 0, 0), (203, .iload_n 3, 0, 0, 0), (204, .iconst 2, 0, 0, 0), (205, .iadd, 0, 0, 0), (206, .iaload, 0, 0, 0), (207, .aload_n 0, 0, 0, 0), (208, .iload_n 3, 0, 0, 0), (209, .iconst 3, 0, 0, 0), (210, .iadd, 0, 0, 0), (211, .iaload, 0, 0, 0), (212, .aload_n 0, 0, 0, 0), (213, .iload_n 3, 0, 0, 0), (214, .iconst 4, 0, 0, 0), (215, .iadd, 0, 0, 0), (216, .iaload, 0, 0, 0), (217, .invokevirtual 17, 131, 5, 619), (220, .if_icmp .eq 867, 1087, 0, 0), (223, .iconst 0, 0, 0, 0), (224, .ireturn, 0, 0, 0), (225, .aload_n 1, 0, 0, 0), (226, .aload_n 0, 0, 0, 0), (227, .iload_n 3, 0, 0, 0), (228, .iconst 1, 0, 0, 0), (229, .iadd, 0, 0, 0), (230, .iaload, 0, 0, 0), (231, .aload_n 0, 0, 0, 0), (232, .iload_n 3, 0, 0, 0), (233, .iconst 2, 0, 0, 0), (234, .iadd, 0, 0, 0), (235, .iaload, 0, 0, 0)]
def a_c175_2 : List (Nat × aR) := [(236, .aload_n 0, 0, 0, 0), (237, .iload_n 3, 0, 0, 0), (238, .iconst 3, 0, 0, 0), (239, .iadd, 0, 0, 0), (240, .iaload, 0, 0, 0), (241, .aload_n 0, 0, 0, 0), (242, .iload_n 3, 0, 0, 0), (243, .iconst 4, 0, 0, 0), (244, .iadd, 0, 0, 0), (245, .iaload, 0, 0, 0), (246, .aload_n 0, 0, 0, 0), (247, .iload_n 3, 0, 0, 0), (248, .iconst 5, 0, 0, 0), (249, .iadd, 0, 0, 0), (250, .iaload, 0, 0, 0), (251, .aload_n 0, 0, 0, 0), (252, .iload_n 3, 0, 0, 0), (253, .bipush 6, 0, 0, 0), (255, .iadd, 0, 0, 0), (256, .iaload, 0, 0, 0), (257, .invokevirtual 18, 61, 7, 714), (260, .aload_n 2, 0, 0, 0), (261, .aload_n 0, 0, 0, 0), (262, .iload_n 3, 0, 0, 0), (263, .iconst 1, 0, 0, 0), (264, .iadd, 0, 0, 0), (265, .iaload, 0, 0, 0), (266, .aload_n 0, 0, 0, 0), (267, .iload_n 3, 0, 0, 0), (268, .iconst 2, 0, 0, 0), (269, .iadd, 0, 0, 0), (270, .iaload, 0, 0, 0), (271, .aload_n 0, 0, 0, 0), (272, .iload_n 3, 0, 0, 0), (273, .iconst 3, 0, 0, 0), (274, .iadd, 0, 0, 0), (275, .iaload, 0, 0, 0), (276, .aload_n 0, 0, 0, 0), (277, .iload_n 3, 0, 0, 0), (278, .iconst 4, 0, 0, 0)]
def a_c175_3 : List (Nat × aR) := [(279, .iadd, 0, 0, 0), (280, .iaload, 0, 0, 0), (281, .aload_n 0, 0, 0, 0), (282, .iload_n 3, 0, 0, 0), (283, .iconst 5, 0, 0, 0), (284, .iadd, 0, 0, 0), (285, .iaload, 0, 0, 0), (286, .aload_n 0, 0, 0, 0), (287, .iload_n 3, 0, 0, 0), (288, .bipush 6, 0, 0, 0), (290, .iadd, 0, 0, 0), (291, .iaload, 0, 0, 0), (292, .invokevirtual 22, 132, 7, 918), (295, .if_icmp .eq 792, 1087, 0, 0), (298, .iconst 0, 0, 0, 0), (299, .ireturn, 0, 0, 0), (300, .aload_n 1, 0, 0, 0), (301, .aload_n 0, 0, 0, 0), (302, .iload_n 3, 0, 0, 0), (303, .iconst 1, 0, 0, 0), (304, .iadd, 0, 0, 0), (305, .iaload, 0, 0, 0), (306, .aload_n 0, 0, 0, 0), (307, .iload_n 3, 0, 0, 0), (308, .iconst 2, 0, 0, 0), (309, .iadd, 0, 0, 0), (310, .iaload, 0, 0, 0), (311, .aload_n 0, 0, 0, 0), (312, .iload_n 3, 0, 0, 0), (313, .iconst 3, 0, 0, 0), (314, .iadd, 0, 0, 0), (315, .iaload, 0, 0, 0), (316, .invokevirtual 23, 62, 4, 1211), (319, .aload_n 2, 0, 0, 0), (320, .aload_n 0, 0, 0, 0), (321, .iload_n 3, 0, 0, 0), (322, .iconst 1, 0, 0, 0), (323, .iadd, 0, 0, 0), (324, .iaload, 0, 0, 0), (325, .aload_n 0, 0, 0, 0)]
def a_c175_4 : List (Nat × aR) := [(326, .iload_n 3, 0, 0, 0), (327, .iconst 2, 0, 0, 0), (328, .iadd, 0, 0, 0), (329, .iaload, 0, 0, 0), (330, .aload_n 0, 0, 0, 0), (331, .iload_n 3, 0, 0, 0), (332, .iconst 3, 0, 0, 0), (333, .iadd, 0, 0, 0), (334, .iaload, 0, 0, 0), (335, .invokevirtual 27, 133, 4, 1303), (338, .if_icmp .eq 749, 1087, 0, 0), (341, .iconst 0, 0, 0, 0), (342, .ireturn, 0, 0, 0), (343, .aload_n 1, 0, 0, 0), (344, .aload_n 0, 0, 0, 0), (345, .iload_n 3, 0, 0, 0), (346, .iconst 1, 0, 0, 0), (347, .iadd, 0, 0, 0), (348, .iaload, 0, 0, 0), (349, .aload_n 0, 0, 0, 0), (350, .iload_n 3, 0, 0, 0), (351, .iconst 2, 0, 0, 0), (352, .iadd, 0, 0, 0), (353, .iaload, 0, 0, 0), (354, .invokevirtual 28, 63, 3, 1314), (357, .aload_n 2, 0, 0, 0), (358, .aload_n 0, 0, 0, 0), (359, .iload_n 3, 0, 0, 0), (360, .iconst 1, 0, 0, 0), (361, .iadd, 0, 0, 0), (362, .iaload, 0, 0, 0), (363, .aload_n 0, 0, 0, 0), (364, .iload_n 3, 0, 0, 0), (365, .iconst 2, 0, 0, 0), (366, .iadd, 0, 0, 0), (367, .iaload, 0, 0, 0), (368, .invokevirtual 32, 134, 3, 1322), (371, .if_icmp .eq 716, 1087, 0, 0), (374, .iconst 0, 0, 0, 0), (375, .ireturn, 0, 0, 0)]
def a_c175_5 : List (Nat × aR) := [(376, .aload_n 1, 0, 0, 0), (377, .aload_n 0, 0, 0, 0), (378, .iload_n 3, 0, 0, 0), (379, .iconst 1, 0, 0, 0), (380, .iadd, 0, 0, 0), (381, .iaload, 0, 0, 0), (382, .invokevirtual 33, 64, 2, 1402), (385, .aload_n 2, 0, 0, 0), (386, .aload_n 0, 0, 0, 0), (387, .iload_n 3, 0, 0, 0), (388, .iconst 1, 0, 0, 0), (389, .iadd, 0, 0, 0), (390, .iaload, 0, 0, 0), (391, .invokevirtual 37, 136, 2, 1419), (394, .if_icmp .eq 693, 1087, 0, 0), (397, .iconst 0, 0, 0, 0), (398, .ireturn, 0, 0, 0), (399, .aload_n 1, 0, 0, 0), (400, .aload_n 0, 0, 0, 0), (401, .iload_n 3, 0, 0, 0), (402, .iconst 1, 0, 0, 0), (403, .iadd, 0, 0, 0), (404, .iaload, 0, 0, 0), (405, .invokevirtual 38, 65, 2, 1511), (408, .aload_n 2, 0, 0, 0), (409, .aload_n 0, 0, 0, 0), (410, .iload_n 3, 0, 0, 0), (411, .iconst 1, 0, 0, 0), (412, .iadd, 0, 0, 0), (413, .iaload, 0, 0, 0), (414, .invokevirtual 41, 137, 2, 1515), (417, .if_icmp .eq 670, 1087, 0, 0), (420, .iconst 0, 0, 0, 0), (421, .ireturn, 0, 0, 0), (422, .aload_n 1, 0, 0, 0), (423, .aload_n 0, 0, 0, 0), (424, .iload_n 3, 0, 0, 0), (425, .iconst 1, 0, 0, 0), (426, .iadd, 0, 0, 0), (427, .iaload, 0, 0, 0)]
def a_c175_6 : List (Nat × aR) := [(428, .invokevirtual 42, 66, 2, 1519), (431, .aload_n 2, 0, 0, 0), (432, .aload_n 0, 0, 0, 0), (433, .iload_n 3, 0, 0, 0), (434, .iconst 1, 0, 0, 0), (435, .iadd, 0, 0, 0), (436, .iaload, 0, 0, 0), (437, .invokevirtual 45, 138, 2, 1607), (440, .if_icmp .eq 647, 1087, 0, 0), (443, .iconst 0, 0, 0, 0), (444, .ireturn, 0, 0, 0), (445, .aload_n 1, 0, 0, 0), (446, .aload_n 0, 0, 0, 0), (447, .iload_n 3, 0, 0, 0), (448, .iconst 1, 0, 0, 0), (449, .iadd, 0, 0, 0), (450, .iaload, 0, 0, 0), (451, .aload_n 0, 0, 0, 0), (452, .iload_n 3, 0, 0, 0), (453, .iconst 2, 0, 0, 0), (454, .iadd, 0, 0, 0), (455, .iaload, 0, 0, 0), (456, .aload_n 0, 0, 0, 0), (457, .iload_n 3, 0, 0, 0), (458, .iconst 3, 0, 0, 0), (459, .iadd, 0, 0, 0), (460, .iaload, 0, 0, 0), (461, .invokevirtual 46, 67, 4, 1615), (464, .aload_n 2, 0, 0, 0), (465, .aload_n 0, 0, 0, 0), (466, .iload_n 3, 0, 0, 0), (467, .iconst 1, 0, 0, 0), (468, .iadd, 0, 0, 0), (469, .iaload, 0, 0, 0), (470, .aload_n 0, 0, 0, 0), (471, .iload_n 3, 0, 0, 0), (472, .iconst 2, 0, 0, 0), (473, .iadd, 0, 0, 0), (474, .iaload, 0, 0, 0), (475, .aload_n 0, 0, 0, 0)]
def a_c175_7 : List (Nat × aR) := [(476, .iload_n 3, 0, 0, 0), (477, .iconst 3, 0, 0, 0), (478, .iadd, 0, 0, 0), (479, .iaload, 0, 0, 0), (480, .invokevirtual 49, 141, 4, 1804), (483, .if_icmp .eq 604, 1087, 0, 0), (486, .iconst 0, 0, 0, 0), (487, .ireturn, 0, 0, 0), (488, .aload_n 1, 0, 0, 0), (489, .aload_n 0, 0, 0, 0), (490, .iload_n 3, 0, 0, 0), (491, .iconst 1, 0, 0, 0), (492, .iadd, 0, 0, 0), (493, .iaload, 0, 0, 0), (494, .aload_n 0, 0, 0, 0), (495, .iload_n 3, 0, 0, 0), (496, .iconst 2, 0, 0, 0), (497, .iadd, 0, 0, 0), (498, .iaload, 0, 0, 0), (499, .invokevirtual 50, 68, 3, 1908), (502, .aload_n 2, 0, 0, 0), (503, .aload_n 0, 0, 0, 0), (504, .iload_n 3, 0, 0, 0), (505, .iconst 1, 0, 0, 0), (506, .iadd, 0, 0, 0), (507, .iaload, 0, 0, 0), (508, .aload_n 0, 0, 0, 0), (509, .iload_n 3, 0, 0, 0), (510, .iconst 2, 0, 0, 0), (511, .iadd, 0, 0, 0), (512, .iaload, 0, 0, 0), (513, .invokevirtual 53, 142, 3, 1916), (516, .if_icmp .eq 571, 1087, 0, 0), (519, .iconst 0, 0, 0, 0), (520, .ireturn, 0, 0, 0), (521, .aload_n 1, 0, 0, 0), (522, .aload_n 0, 0, 0, 0), (523, .iload_n 3, 0, 0, 0), (524, .iconst 1, 0, 0, 0), (525, .iadd, 0, 0, 0)]
def a_c175_8 : List (Nat × aR) := [(526, .iaload, 0, 0, 0), (527, .invokevirtual 54, 69, 2, 1920), (530, .aload_n 2, 0, 0, 0), (531, .aload_n 0, 0, 0, 0), (532, .iload_n 3, 0, 0, 0), (533, .iconst 1, 0, 0, 0), (534, .iadd, 0, 0, 0), (535, .iaload, 0, 0, 0), (536, .invokevirtual 57, 143, 2, 2009), (539, .if_icmp .eq 548, 1087, 0, 0), (542, .iconst 0, 0, 0, 0), (543, .ireturn, 0, 0, 0), (544, .aload_n 1, 0, 0, 0), (545, .aload_n 0, 0, 0, 0), (546, .iload_n 3, 0, 0, 0), (547, .iconst 1, 0, 0, 0), (548, .iadd, 0, 0, 0), (549, .iaload, 0, 0, 0), (550, .invokevirtual 58, 70, 2, 2017), (553, .aload_n 2, 0, 0, 0), (554, .aload_n 0, 0, 0, 0), (555, .iload_n 3, 0, 0, 0), (556, .iconst 1, 0, 0, 0), (557, .iadd, 0, 0, 0), (558, .iaload, 0, 0, 0), (559, .invokevirtual 61, 144, 2, 2121), (562, .if_icmp .eq 525, 1087, 0, 0), (565, .iconst 0, 0, 0, 0), (566, .ireturn, 0, 0, 0), (567, .aload_n 1, 0, 0, 0), (568, .aload_n 0, 0, 0, 0), (569, .iload_n 3, 0, 0, 0), (570, .iconst 1, 0, 0, 0), (571, .iadd, 0, 0, 0), (572, .iaload, 0, 0, 0), (573, .invokevirtual 62, 71, 2, 2209), (576, .aload_n 2, 0, 0, 0), (577, .aload_n 0, 0, 0, 0), (578, .iload_n 3, 0, 0, 0), (579, .iconst 1, 0, 0, 0)]
def a_c175_9 : List (Nat × aR) := [(580, .iadd, 0, 0, 0), (581, .iaload, 0, 0, 0), (582, .invokevirtual 65, 145, 2, 2218), (585, .if_icmp .eq 502, 1087, 0, 0), (588, .iconst 0, 0, 0, 0), (589, .ireturn, 0, 0, 0), (590, .aload_n 1, 0, 0, 0), (591, .invokevirtual 66, 72, 1, 2223), (594, .aload_n 2, 0, 0, 0), (595, .invokevirtual 70, 146, 1, 2307), (598, .if_icmp .eq 489, 1087, 0, 0), (601, .iconst 0, 0, 0, 0), (602, .ireturn, 0, 0, 0), (603, .aload_n 1, 0, 0, 0), (604, .invokevirtual 71, 73, 1, 2311), (607, .aload_n 2, 0, 0, 0), (608, .invokevirtual 74, 151, 1, 2500), (611, .if_icmp .eq 476, 1087, 0, 0), (614, .iconst 0, 0, 0, 0), (615, .ireturn, 0, 0, 0), (616, .aload_n 1, 0, 0, 0), (617, .invokevirtual 75, 74, 1, 2600), (620, .aload_n 2, 0, 0, 0), (621, .invokevirtual 78, 153, 1, 2611), (624, .if_icmp .eq 463, 1087, 0, 0), (627, .iconst 0, 0, 0, 0), (628, .ireturn, 0, 0, 0), (629, .aload_n 1, 0, 0, 0), (630, .invokevirtual 79, 75, 1, 2701), (633, .aload_n 2, 0, 0, 0), (634, .invokevirtual 82, 154, 1, 2710), (637, .if_icmp .eq 450, 1087, 0, 0), (640, .iconst 0, 0, 0, 0), (641, .ireturn, 0, 0, 0), (642, .aload_n 1, 0, 0, 0), (643, .aload_n 0, 0, 0, 0), (644, .iload_n 3, 0, 0, 0), (645, .iconst 1, 0, 0, 0), (646, .iadd, 0, 0, 0), (647, .iaload, 0, 0, 0)]
def a_c175_10 : List (Nat × aR) := [(648, .invokevirtual 83, 76, 2, 2714), (651, .aload_n 2, 0, 0, 0), (652, .aload_n 0, 0, 0, 0), (653, .iload_n 3, 0, 0, 0), (654, .iconst 1, 0, 0, 0), (655, .iadd, 0, 0, 0), (656, .iaload, 0, 0, 0), (657, .invokevirtual 86, 155, 2, 2720), (660, .if_icmp .eq 427, 1087, 0, 0), (663, .iconst 0, 0, 0, 0), (664, .ireturn, 0, 0, 0), (665, .aload_n 1, 0, 0, 0), (666, .aload_n 0, 0, 0, 0), (667, .iload_n 3, 0, 0, 0), (668, .iconst 1, 0, 0, 0), (669, .iadd, 0, 0, 0), (670, .iaload, 0, 0, 0), (671, .invokevirtual 87, 77, 2, 2800), (674, .aload_n 2, 0, 0, 0), (675, .aload_n 0, 0, 0, 0), (676, .iload_n 3, 0, 0, 0), (677, .iconst 1, 0, 0, 0), (678, .iadd, 0, 0, 0), (679, .iaload, 0, 0, 0), (680, .invokevirtual 90, 156, 2, 2804), (683, .if_icmp .eq 404, 1087, 0, 0), (686, .iconst 0, 0, 0, 0), (687, .ireturn, 0, 0, 0), (688, .aload_n 1, 0, 0, 0), (689, .aload_n 0, 0, 0, 0), (690, .iload_n 3, 0, 0, 0), (691, .iconst 1, 0, 0, 0), (692, .iadd, 0, 0, 0), (693, .iaload, 0, 0, 0), (694, .aload_n 0, 0, 0, 0), (695, .iload_n 3, 0, 0, 0), (696, .iconst 2, 0, 0, 0), (697, .iadd, 0, 0, 0), (698, .iaload, 0, 0, 0), (699, .invokevirtual 91, 78, 3, 2808)]
def a_c175_11 : List (Nat × aR) := [(702, .aload_n 2, 0, 0, 0), (703, .aload_n 0, 0, 0, 0), (704, .iload_n 3, 0, 0, 0), (705, .iconst 1, 0, 0, 0), (706, .iadd, 0, 0, 0), (707, .iaload, 0, 0, 0), (708, .aload_n 0, 0, 0, 0), (709, .iload_n 3, 0, 0, 0), (710, .iconst 2, 0, 0, 0), (711, .iadd, 0, 0, 0), (712, .iaload, 0, 0, 0), (713, .invokevirtual 94, 158, 3, 2903), (716, .if_icmp .eq 371, 1087, 0, 0), (719, .iconst 0, 0, 0, 0), (720, .ireturn, 0, 0, 0), (721, .aload_n 1, 0, 0, 0), (722, .aload_n 0, 0, 0, 0), (723, .iload_n 3, 0, 0, 0), (724, .iconst 1, 0, 0, 0), (725, .iadd, 0, 0, 0), (726, .iaload, 0, 0, 0), (727, .aload_n 0, 0, 0, 0), (728, .iload_n 3, 0, 0, 0), (729, .iconst 2, 0, 0, 0), (730, .iadd, 0, 0, 0), (731, .iaload, 0, 0, 0), (732, .invokevirtual 95, 79, 3, 2911), (735, .aload_n 2, 0, 0, 0), (736, .aload_n 0, 0, 0, 0), (737, .iload_n 3, 0, 0, 0), (738, .iconst 1, 0, 0, 0), (739, .iadd, 0, 0, 0), (740, .iaload, 0, 0, 0), (741, .aload_n 0, 0, 0, 0), (742, .iload_n 3, 0, 0, 0), (743, .iconst 2, 0, 0, 0), (744, .iadd, 0, 0, 0), (745, .iaload, 0, 0, 0), (746, .invokevirtual 98, 159, 3, 2922), (749, .if_icmp .eq 338, 1087, 0, 0)]
def a_c175_12 : List (Nat × aR) := [(752, .iconst 0, 0, 0, 0), (753, .ireturn, 0, 0, 0), (754, .aload_n 1, 0, 0, 0), (755, .aload_n 0, 0, 0, 0), (756, .iload_n 3, 0, 0, 0), (757, .iconst 1, 0, 0, 0), (758, .iadd, 0, 0, 0), (759, .iaload, 0, 0, 0), (760, .aload_n 0, 0, 0, 0), (761, .iload_n 3, 0, 0, 0), (762, .iconst 2, 0, 0, 0), (763, .iadd, 0, 0, 0), (764, .iaload, 0, 0, 0), (765, .invokevirtual 99, 80, 3, 3002), (768, .aload_n 2, 0, 0, 0), (769, .aload_n 0, 0, 0, 0), (770, .iload_n 3, 0, 0, 0), (771, .iconst 1, 0, 0, 0), (772, .iadd, 0, 0, 0), (773, .iaload, 0, 0, 0), (774, .aload_n 0, 0, 0, 0), (775, .iload_n 3, 0, 0, 0), (776, .iconst 2, 0, 0, 0), (777, .iadd, 0, 0, 0), (778, .iaload, 0, 0, 0), (779, .invokevirtual 102, 161, 3, 3015), (782, .if_icmp .eq 305, 1087, 0, 0), (785, .iconst 0, 0, 0, 0), (786, .ireturn, 0, 0, 0), (787, .aload_n 1, 0, 0, 0), (788, .aload_n 0, 0, 0, 0), (789, .iload_n 3, 0, 0, 0), (790, .iconst 1, 0, 0, 0), (791, .iadd, 0, 0, 0), (792, .iaload, 0, 0, 0), (793, .aload_n 0, 0, 0, 0), (794, .iload_n 3, 0, 0, 0), (795, .iconst 2, 0, 0, 0), (796, .iadd, 0, 0, 0), (797, .iaload, 0, 0, 0)]
def a_c175_13 : List (Nat × aR) := [(798, .aload_n 0, 0, 0, 0), (799, .iload_n 3, 0, 0, 0), (800, .iconst 3, 0, 0, 0), (801, .iadd, 0, 0, 0), (802, .iaload, 0, 0, 0), (803, .invokevirtual 103, 81, 4, 3023), (806, .aload_n 2, 0, 0, 0), (807, .aload_n 0, 0, 0, 0), (808, .iload_n 3, 0, 0, 0), (809, .iconst 1, 0, 0, 0), (810, .iadd, 0, 0, 0), (811, .iaload, 0, 0, 0), (812, .aload_n 0, 0, 0, 0), (813, .iload_n 3, 0, 0, 0), (814, .iconst 2, 0, 0, 0), (815, .iadd, 0, 0, 0), (816, .iaload, 0, 0, 0), (817, .aload_n 0, 0, 0, 0), (818, .iload_n 3, 0, 0, 0), (819, .iconst 3, 0, 0, 0), (820, .iadd, 0, 0, 0), (821, .iaload, 0, 0, 0), (822, .invokevirtual 106, 162, 4, 3105), (825, .if_icmp .eq 262, 1087, 0, 0), (828, .iconst 0, 0, 0, 0), (829, .ireturn, 0, 0, 0), (830, .aload_n 1, 0, 0, 0), (831, .aload_n 0, 0, 0, 0), (832, .iload_n 3, 0, 0, 0), (833, .iconst 1, 0, 0, 0), (834, .iadd, 0, 0, 0), (835, .iaload, 0, 0, 0), (836, .aload_n 0, 0, 0, 0), (837, .iload_n 3, 0, 0, 0), (838, .iconst 2, 0, 0, 0), (839, .iadd, 0, 0, 0), (840, .iaload, 0, 0, 0), (841, .invokevirtual 107, 82, 3, 3109), (844, .aload_n 2, 0, 0, 0), (845, .aload_n 0, 0, 0, 0)]
def a_c175_14 : List (Nat × aR) := [(846, .iload_n 3, 0, 0, 0), (847, .iconst 1, 0, 0, 0), (848, .iadd, 0, 0, 0), (849, .iaload, 0, 0, 0), (850, .aload_n 0, 0, 0, 0), (851, .iload_n 3, 0, 0, 0), (852, .iconst 2, 0, 0, 0), (853, .iadd, 0, 0, 0), (854, .iaload, 0, 0, 0), (855, .invokevirtual 110, 163, 3, 3114), (858, .if_icmp .eq 229, 1087, 0, 0), (861, .iconst 0, 0, 0, 0), (862, .ireturn, 0, 0, 0), (863, .aload_n 1, 0, 0, 0), (864, .aload_n 0, 0, 0, 0), (865, .iload_n 3, 0, 0, 0), (866, .iconst 1, 0, 0, 0), (867, .iadd, 0, 0, 0), (868, .iaload, 0, 0, 0), (869, .invokevirtual 111, 83, 2, 3118), (872, .aload_n 2, 0, 0, 0), (873, .aload_n 0, 0, 0, 0), (874, .iload_n 3, 0, 0, 0), (875, .iconst 1, 0, 0, 0), (876, .iadd, 0, 0, 0), (877, .iaload, 0, 0, 0), (878, .invokevirtual 114, 165, 2, 3210), (881, .if_icmp .eq 206, 1087, 0, 0), (884, .iconst 0, 0, 0, 0), (885, .ireturn, 0, 0, 0), (886, .aload_n 1, 0, 0, 0), (887, .aload_n 0, 0, 0, 0), (888, .iload_n 3, 0, 0, 0), (889, .iconst 1, 0, 0, 0), (890, .iadd, 0, 0, 0), (891, .iaload, 0, 0, 0), (892, .invokevirtual 115, 84, 2, 3218), (895, .aload_n 2, 0, 0, 0), (896, .aload_n 0, 0, 0, 0), (897, .iload_n 3, 0, 0, 0)]
def a_c175_15 : List (Nat × aR) := [(898, .iconst 1, 0, 0, 0), (899, .iadd, 0, 0, 0), (900, .iaload, 0, 0, 0), (901, .invokevirtual 118, 166, 2, 3223), (904, .if_icmp .eq 183, 1087, 0, 0), (907, .iconst 0, 0, 0, 0), (908, .ireturn, 0, 0, 0), (909, .aload_n 1, 0, 0, 0), (910, .aload_n 0, 0, 0, 0), (911, .iload_n 3, 0, 0, 0), (912, .iconst 1, 0, 0, 0), (913, .iadd, 0, 0, 0), (914, .iaload, 0, 0, 0), (915, .invokevirtual 119, 85, 2, 3303), (918, .aload_n 2, 0, 0, 0), (919, .aload_n 0, 0, 0, 0), (920, .iload_n 3, 0, 0, 0), (921, .iconst 1, 0, 0, 0), (922, .iadd, 0, 0, 0), (923, .iaload, 0, 0, 0), (924, .invokevirtual 122, 169, 2, 3320), (927, .if_icmp .eq 160, 1087, 0, 0), (930, .iconst 0, 0, 0, 0), (931, .ireturn, 0, 0, 0), (932, .aload_n 1, 0, 0, 0), (933, .aload_n 0, 0, 0, 0), (934, .iload_n 3, 0, 0, 0), (935, .iconst 1, 0, 0, 0), (936, .iadd, 0, 0, 0), (937, .iaload, 0, 0, 0), (938, .aload_n 0, 0, 0, 0), (939, .iload_n 3, 0, 0, 0), (940, .iconst 2, 0, 0, 0), (941, .iadd, 0, 0, 0), (942, .iaload, 0, 0, 0), (943, .invokevirtual 123, 86, 3, 3408), (946, .aload_n 2, 0, 0, 0), (947, .aload_n 0, 0, 0, 0), (948, .iload_n 3, 0, 0, 0), (949, .iconst 1, 0, 0, 0)]
def a_c175_16 : List (Nat × aR) := [(950, .iadd, 0, 0, 0), (951, .iaload, 0, 0, 0), (952, .aload_n 0, 0, 0, 0), (953, .iload_n 3, 0, 0, 0), (954, .iconst 2, 0, 0, 0), (955, .iadd, 0, 0, 0), (956, .iaload, 0, 0, 0), (957, .invokevirtual 126, 170, 3, 3412), (960, .if_icmp .eq 127, 1087, 0, 0), (963, .iconst 0, 0, 0, 0), (964, .ireturn, 0, 0, 0), (965, .aload_n 1, 0, 0, 0), (966, .aload_n 0, 0, 0, 0), (967, .iload_n 3, 0, 0, 0), (968, .iconst 1, 0, 0, 0), (969, .iadd, 0, 0, 0), (970, .iaload, 0, 0, 0), (971, .aload_n 0, 0, 0, 0), (972, .iload_n 3, 0, 0, 0), (973, .iconst 2, 0, 0, 0), (974, .iadd, 0, 0, 0), (975, .iaload, 0, 0, 0), (976, .aload_n 0, 0, 0, 0), (977, .iload_n 3, 0, 0, 0), (978, .iconst 3, 0, 0, 0), (979, .iadd, 0, 0, 0), (980, .iaload, 0, 0, 0), (981, .aload_n 0, 0, 0, 0), (982, .iload_n 3, 0, 0, 0), (983, .iconst 4, 0, 0, 0), (984, .iadd, 0, 0, 0), (985, .iaload, 0, 0, 0), (986, .invokevirtual 127, 87, 5, 3416), (989, .aload_n 2, 0, 0, 0), (990, .aload_n 0, 0, 0, 0), (991, .iload_n 3, 0, 0, 0), (992, .iconst 1, 0, 0, 0), (993, .iadd, 0, 0, 0), (994, .iaload, 0, 0, 0), (995, .aload_n 0, 0, 0, 0)]
def a_c175_17 : List (Nat × aR) := [(996, .iload_n 3, 0, 0, 0), (997, .iconst 2, 0, 0, 0), (998, .iadd, 0, 0, 0), (999, .iaload, 0, 0, 0), (1000, .aload_n 0, 0, 0, 0), (1001, .iload_n 3, 0, 0, 0), (1002, .iconst 3, 0, 0, 0), (1003, .iadd, 0, 0, 0), (1004, .iaload, 0, 0, 0), (1005, .aload_n 0, 0, 0, 0), (1006, .iload_n 3, 0, 0, 0), (1007, .iconst 4, 0, 0, 0), (1008, .iadd, 0, 0, 0), (1009, .iaload, 0, 0, 0), (1010, .invokevirtual 130, 171, 5, 3422), (1013, .if_icmp .eq 74, 1087, 0, 0), (1016, .iconst 0, 0, 0, 0), (1017, .ireturn, 0, 0, 0), (1018, .aload_n 1, 0, 0, 0), (1019, .aload_n 0, 0, 0, 0), (1020, .iload_n 3, 0, 0, 0), (1021, .iconst 1, 0, 0, 0), (1022, .iadd, 0, 0, 0), (1023, .iaload, 0, 0, 0), (1024, .invokevirtual 131, 88, 2, 3502), (1027, .aload_n 2, 0, 0, 0), (1028, .aload_n 0, 0, 0, 0), (1029, .iload_n 3, 0, 0, 0), (1030, .iconst 1, 0, 0, 0), (1031, .iadd, 0, 0, 0), (1032, .iaload, 0, 0, 0), (1033, .invokevirtual 134, 172, 2, 3507), (1036, .if_icmp .eq 51, 1087, 0, 0), (1039, .iconst 0, 0, 0, 0), (1040, .ireturn, 0, 0, 0), (1041, .aload_n 1, 0, 0, 0), (1042, .aload_n 0, 0, 0, 0), (1043, .iload_n 3, 0, 0, 0), (1044, .iconst 1, 0, 0, 0), (1045, .iadd, 0, 0, 0)]
def a_c175_18 : List (Nat × aR) := [(1046, .iaload, 0, 0, 0), (1047, .aload_n 0, 0, 0, 0), (1048, .iload_n 3, 0, 0, 0), (1049, .iconst 2, 0, 0, 0), (1050, .iadd, 0, 0, 0), (1051, .iaload, 0, 0, 0), (1052, .invokevirtual 135, 89, 3, 3511), (1055, .aload_n 2, 0, 0, 0), (1056, .aload_n 0, 0, 0, 0), (1057, .iload_n 3, 0, 0, 0), (1058, .iconst 1, 0, 0, 0), (1059, .iadd, 0, 0, 0), (1060, .iaload, 0, 0, 0), (1061, .aload_n 0, 0, 0, 0), (1062, .iload_n 3, 0, 0, 0), (1063, .iconst 2, 0, 0, 0), (1064, .iadd, 0, 0, 0), (1065, .iaload, 0, 0, 0), (1066, .invokevirtual 138, 173, 3, 3517), (1069, .if_icmp .eq 18, 1087, 0, 0), (1072, .iconst 0, 0, 0, 0), (1073, .ireturn, 0, 0, 0), (1074, .aload_n 1, 0, 0, 0), (1075, .invokevirtual 139, 90, 1, 3605), (1078, .aload_n 2, 0, 0, 0), (1079, .invokevirtual 142, 174, 1, 3610), (1082, .if_icmp .eq 5, 1087, 0, 0), (1085, .iconst 0, 0, 0, 0), (1086, .ireturn, 0, 0, 0), (1087, .iinc 3 7, 0, 0, 0), (1090, .goto (-1072), 18, 0, 0), (1093, .iconst 1, 0, 0, 0), (1094, .ireturn, 0, 0, 0)]
def a_c175 : List (Nat × aR) := a_c175_0 ++ (a_c175_1 ++ (a_c175_2 ++ (a_c175_3 ++ (a_c175_4 ++ (a_c175_5 ++ (a_c175_6 ++ (a_c175_7 ++ (a_c175_8 ++ (a_c175_9 ++ (a_c175_10 ++ (a_c175_11 ++ (a_c175_12 ++ (a_c175_13 ++ (a_c175_14 ++ (a_c175_15 ++ (a_c175_16 ++ (a_c175_17 ++ (a_c175_18))))))))))))))))))
def a_ct_0 : List (List (Nat × aR)) := [a_c0, a_c1, a_c2, a_c3, a_c4, a_c5, a_c6, a_c7, a_c8, a_c9, a_c10, a_c11, a_c12, a_c13, a_c14, a_c15]
def a_ct_1 : List (List (Nat × aR)) := [a_c16, a_c17, a_c18, a_c19, a_c20, a_c21, a_c22, a_c23, a_c24, a_c25, a_c26, a_c27, a_c28, a_c29, a_c30, a_c31]
def a_ct_2 : List (List (Nat × aR)) := [a_c32, a_c33, a_c34, a_c35, a_c36, a_c37, a_c38, a_c39, a_c40, a_c41, a_c42, a_c43, a_c44, a_c45, a_c46, a_c47]
def a_ct_3 : List (List (Nat × aR)) := [a_c48, a_c49, a_c50, a_c51, a_c52, a_c53, a_c54, a_c55, a_c56, a_c57, a_c58, a_c59, a_c60, a_c61, a_c62, a_c63]
def a_ct_4 : List (List (Nat × aR)) := [a_c64, a_c65, a_c66, a_c67, a_c68, a_c69, a_c70, a_c71, a_c72, a_c73, a_c74, a_c75, a_c76, a_c77, a_c78, a_c79]
def a_ct_5 : List (List (Nat × aR)) := [a_c80, a_c81, a_c82, a_c83, a_c84, a_c85, a_c86, a_c87, a_c88, a_c89, a_c90, a_c91, a_c92, a_c93, a_c94, a_c95]
def a_ct_6 : List (List (Nat × aR)) := [a_c96, a_c97, a_c98, a_c99, a_c100, a_c101, a_c102, a_c103, a_c104, a_c105, a_c106, a_c107, a_c108, a_c109, a_c110, a_c111]
def a_ct_7 : List (List (Nat × aR)) := [a_c112, a_c113, a_c114, a_c115, a_c116, a_c117, a_c118, a_c119, a_c120, a_c121, a_c122, a_c123, a_c124, a_c125, a_c126, a_c127]
def a_ct_8 : List (List (Nat × aR)) := [a_c128, a_c129, a_c130, a_c131, a_c132, a_c133, a_c134, a_c135, a_c136, a_c137, a_c138, a_c139, a_c140, a_c141, a_c142, a_c143]
def a_ct_9 : List (List (Nat × aR)) := [a_c144, a_c145, a_c146, a_c147, a_c148, a_c149, a_c150, a_c151, a_c152, a_c153, a_c154, a_c155, a_c156, a_c157, a_c158, a_c159]
def a_ct_10 : List (List (Nat × aR)) := [a_c160, a_c161, a_c162, a_c163, a_c164, a_c165, a_c166, a_c167, a_c168, a_c169, a_c170, a_c171, a_c172, a_c173, a_c174]
def a_ctl : List (List (Nat × aR)) := a_ct_0 ++ (a_ct_1 ++ (a_ct_2 ++ (a_ct_3 ++ (a_ct_4 ++ (a_ct_5 ++ (a_ct_6 ++ (a_ct_7 ++ (a_ct_8 ++ (a_ct_9 ++ (a_ct_10))))))))))
def a_ct : List (List (Nat × aR)) := a_ctl ++ [a_c175]
theorem a_wchs_in : ∀ l ∈ a_wchs, ∀ w ∈ l, w ∈ wsL_law := List.forall_mem_cons.mpr ⟨fun _ h => List.mem_append_left _ (List.mem_append_left _ (List.mem_append_left _ (List.mem_append_left _ (List.mem_append_left _ (List.mem_append_left _ (List.mem_append_left _ (List.mem_append_left _ (List.mem_append_left _ (List.mem_append_left _ h))))))))), List.forall_mem_cons.mpr ⟨fun _ h => List.mem_append_left _ (List.mem_append_left _ (List.mem_append_left _ (List.mem_append_left _ (List.mem_append_left _ (List.mem_append_left _ (List.mem_append_left _ (List.mem_append_left _ (List.mem_append_left _ (List.mem_append_right _ (List.mem_append_left _ h)))))))))), List.forall_mem_cons.mpr ⟨fun _ h => List.mem_append_left _ (List.mem_append_left _ (List.mem_append_left _ (List.mem_append_left _ (List.mem_append_left _ (List.mem_append_left _ (List.mem_append_left _ (List.mem_append_left _ (List.mem_append_left _ (List.mem_append_right _ (List.mem_append_right _ (List.mem_append_left _ h))))))))))), List.forall_mem_cons.mpr ⟨fun _ h => List.mem_append_left _ (List.mem_append_left _ (List.mem_append_left _ (List.mem_append_left _ (List.mem_append_left _ (List.mem_append_left _ (List.mem_append_left _ (List.mem_append_left _ (List.mem_append_left _ (List.mem_append_right _ (List.mem_append_right _ (List.mem_append_right _ (List.mem_append_left _ h)))))))))))), List.forall_mem_cons.mpr ⟨fun _ h => List.mem_append_left _ (List.mem_append_left _ (List.mem_append_left _ (List.mem_append_left _ (List.mem_append_left _ (List.mem_append_left _ (List.mem_append_left _ (List.mem_append_left _ (List.mem_append_left _ (List.mem_append_right _ (List.mem_append_right _ (List.mem_append_right _ (List.mem_append_right _ (List.mem_append_left _ h))))))))))))), List.forall_mem_cons.mpr ⟨fun _ h => List.mem_append_left _ (List.mem_append_left _ (List.mem_append_left _ (List.mem_append_left _ (List.mem_append_left _ (List.mem_append_left _ (List.mem_append_left _ (List.mem_append_left _ (List.mem_append_left _ (List.mem_append_right _ (List.mem_append_right _ (List.mem_append_right _ (List.mem_append_right _ (List.mem_append_right _ (List.mem_append_left _ h)))))))))))))), List.forall_mem_cons.mpr ⟨fun _ h => List.mem_append_left _ (List.mem_append_left _ (List.mem_append_left _ (List.mem_append_left _ (List.mem_append_left _ (List.mem_append_left _ (List.mem_append_left _ (List.mem_append_left _ (List.mem_append_left _ (List.mem_append_right _ (List.mem_append_right _ (List.mem_append_right _ (List.mem_append_right _ (List.mem_append_right _ (List.mem_append_right _ (List.mem_append_left _ h))))))))))))))), List.forall_mem_cons.mpr ⟨fun _ h => List.mem_append_left _ (List.mem_append_left _ (List.mem_append_left _ (List.mem_append_left _ (List.mem_append_left _ (List.mem_append_left _ (List.mem_append_left _ (List.mem_append_left _ (List.mem_append_left _ (List.mem_append_right _ (List.mem_append_right _ (List.mem_append_right _ (List.mem_append_right _ (List.mem_append_right _ (List.mem_append_right _ (List.mem_append_right _ (List.mem_append_left _ h)))))))))))))))), List.forall_mem_cons.mpr ⟨fun _ h => List.mem_append_left _ (List.mem_append_left _ (List.mem_append_left _ (List.mem_append_left _ (List.mem_append_left _ (List.mem_append_left _ (List.mem_append_left _ (List.mem_append_left _ (List.mem_append_left _ (List.mem_append_right _ (List.mem_append_right _ (List.mem_append_right _ (List.mem_append_right _ (List.mem_append_right _ (List.mem_append_right _ (List.mem_append_right _ (List.mem_append_right _ (List.mem_append_left _ h))))))))))))))))), List.forall_mem_cons.mpr ⟨fun _ h => List.mem_append_left _ (List.mem_append_left _ (List.mem_append_left _ (List.mem_append_left _ (List.mem_append_left _ (List.mem_append_left _ (List.mem_append_left _ (List.mem_append_left _ (List.mem_append_left _ (List.mem_append_right _ (List.mem_append_right _ (List.mem_append_right _ (List.mem_append_right _ (List.mem_append_right _ (List.mem_append_right _ (List.mem_append_right _ (List.mem_append_right _ (List.mem_append_right _ (List.mem_append_left _ h)))))))))))))))))), List.forall_mem_cons.mpr ⟨fun _ h => List.mem_append_left _ (List.mem_append_left _ (List.mem_append_left _ (List.mem_append_left _ (List.mem_append_left _ (List.mem_append_left _ (List.mem_append_left _ (List.mem_append_left _ (List.mem_append_left _ (List.mem_append_right _ (List.mem_append_right _ (List.mem_append_right _ (List.mem_append_right _ (List.mem_append_right _ (List.mem_append_right _ (List.mem_append_right _ (List.mem_append_right _ (List.mem_append_right _ (List.mem_append_right _ (List.mem_append_left _ h))))))))))))))))))), List.forall_mem_cons.mpr ⟨fun _ h => List.mem_append_left _ (List.mem_append_left _ (List.mem_append_left _ (List.mem_append_left _ (List.mem_append_left _ (List.mem_append_left _ (List.mem_append_left _ (List.mem_append_left _ (List.mem_append_left _ (List.mem_append_right _ (List.mem_append_right _ (List.mem_append_right _ (List.mem_append_right _ (List.mem_append_right _ (List.mem_append_right _ (List.mem_append_right _ (List.mem_append_right _ (List.mem_append_right _ (List.mem_append_right _ (List.mem_append_right _ (List.mem_append_left _ h)))))))))))))))))))), List.forall_mem_cons.mpr ⟨fun _ h => List.mem_append_left _ (List.mem_append_left _ (List.mem_append_left _ (List.mem_append_left _ (List.mem_append_left _ (List.mem_append_left _ (List.mem_append_left _ (List.mem_append_left _ (List.mem_append_left _ (List.mem_append_right _ (List.mem_append_right _ (List.mem_append_right _ (List.mem_append_right _ (List.mem_append_right _ (List.mem_append_right _ (List.mem_append_right _ (List.mem_append_right _ (List.mem_append_right _ (List.mem_append_right _ (List.mem_append_right _ (List.mem_append_right _ (List.mem_append_left _ h))))))))))))))))))))), List.forall_mem_cons.mpr ⟨fun _ h => List.mem_append_left _ (List.mem_append_left _ (List.mem_append_left _ (List.mem_append_left _ (List.mem_append_left _ (List.mem_append_left _ (List.mem_append_left _ (List.mem_append_left _ (List.mem_append_left _ (List.mem_append_right _ (List.mem_append_right _ (List.mem_append_right _ (List.mem_append_right _ (List.mem_append_right _ (List.mem_append_right _ (List.mem_append_right _ (List.mem_append_right _ (List.mem_append_right _ (List.mem_append_right _ (List.mem_append_right _ (List.mem_append_right _ (List.mem_append_right _ (List.mem_append_left _ h)))))))))))))))))))))), List.forall_mem_cons.mpr ⟨fun _ h => List.mem_append_left _ (List.mem_append_left _ (List.mem_append_left _ (List.mem_append_left _ (List.mem_append_left _ (List.mem_append_left _ (List.mem_append_left _ (List.mem_append_left _ (List.mem_append_left _ (List.mem_append_right _ (List.mem_append_right _ (List.mem_append_right _ (List.mem_append_right _ (List.mem_append_right _ (List.mem_append_right _ (List.mem_append_right _ (List.mem_append_right _ (List.mem_append_right _ (List.mem_append_right _ (List.mem_append_right _ (List.mem_append_right _ (List.mem_append_right _ (List.mem_append_right _ (List.mem_append_left _ h))))))))))))))))))))))), List.forall_mem_cons.mpr ⟨fun _ h => List.mem_append_left _ (List.mem_append_left _ (List.mem_append_left _ (List.mem_append_left _ (List.mem_append_left _ (List.mem_append_left _ (List.mem_append_left _ (List.mem_append_left _ (List.mem_append_left _ (List.mem_append_right _ (List.mem_append_right _ (List.mem_append_right _ (List.mem_append_right _ (List.mem_append_right _ (List.mem_append_right _ (List.mem_append_right _ (List.mem_append_right _ (List.mem_append_right _ (List.mem_append_right _ (List.mem_append_right _ (List.mem_append_right _ (List.mem_append_right _ (List.mem_append_right _ (List.mem_append_right _ (List.mem_append_left _ h)))))))))))))))))))))))), List.forall_mem_cons.mpr ⟨fun _ h => List.mem_append_left _ (List.mem_append_left _ (List.mem_append_left _ (List.mem_append_left _ (List.mem_append_left _ (List.mem_append_left _ (List.mem_append_left _ (List.mem_append_left _ (List.mem_append_left _ (List.mem_append_right _ (List.mem_append_right _ (List.mem_append_right _ (List.mem_append_right _ (List.mem_append_right _ (List.mem_append_right _ (List.mem_append_right _ (List.mem_append_right _ (List.mem_append_right _ (List.mem_append_right _ (List.mem_append_right _ (List.mem_append_right _ (List.mem_append_right _ (List.mem_append_right _ (List.mem_append_right _ (List.mem_append_right _ (List.mem_append_left _ h))))))))))))))))))))))))), List.forall_mem_cons.mpr ⟨fun _ h => List.mem_append_left _ (List.mem_append_left _ (List.mem_append_left _ (List.mem_append_left _ (List.mem_append_left _ (List.mem_append_left _ (List.mem_append_left _ (List.mem_append_left _ (List.mem_append_left _ (List.mem_append_right _ (List.mem_append_right _ (List.mem_append_right _ (List.mem_append_right _ (List.mem_append_right _ (List.mem_append_right _ (List.mem_append_right _ (List.mem_append_right _ (List.mem_append_right _ (List.mem_append_right _ (List.mem_append_right _ (List.mem_append_right _ (List.mem_append_right _ (List.mem_append_right _ (List.mem_append_right _ (List.mem_append_right _ (List.mem_append_right _ (List.mem_append_left _ h)))))))))))))))))))))))))), List.forall_mem_cons.mpr ⟨fun _ h => List.mem_append_left _ (List.mem_append_left _ (List.mem_append_left _ (List.mem_append_left _ (List.mem_append_left _ (List.mem_append_left _ (List.mem_append_left _ (List.mem_append_left _ (List.mem_append_left _ (List.mem_append_right _ (List.mem_append_right _ (List.mem_append_right _ (List.mem_append_right _ (List.mem_append_right _ (List.mem_append_right _ (List.mem_append_right _ (List.mem_append_right _ (List.mem_append_right _ (List.mem_append_right _ (List.mem_append_right _ (List.mem_append_right _ (List.mem_append_right _ (List.mem_append_right _ (List.mem_append_right _ (List.mem_append_right _ (List.mem_append_right _ (List.mem_append_right _ (List.mem_append_left _ h))))))))))))))))))))))))))), List.forall_mem_cons.mpr ⟨fun _ h => List.mem_append_left _ (List.mem_append_left _ (List.mem_append_left _ (List.mem_append_left _ (List.mem_append_left _ (List.mem_append_left _ (List.mem_append_left _ (List.mem_append_left _ (List.mem_append_left _ (List.mem_append_right _ (List.mem_append_right _ (List.mem_append_right _ (List.mem_append_right _ (List.mem_append_right _ (List.mem_append_right _ (List.mem_append_right _ (List.mem_append_right _ (List.mem_append_right _ (List.mem_append_right _ (List.mem_append_right _ (List.mem_append_right _ (List.mem_append_right _ (List.mem_append_right _ (List.mem_append_right _ (List.mem_append_right _ (List.mem_append_right _ (List.mem_append_right _ (List.mem_append_right _ (List.mem_append_left _ h)))))))))))))))))))))))))))), List.forall_mem_cons.mpr ⟨fun _ h => List.mem_append_left _ (List.mem_append_left _ (List.mem_append_left _ (List.mem_append_left _ (List.mem_append_left _ (List.mem_append_left _ (List.mem_append_left _ (List.mem_append_left _ (List.mem_append_left _ (List.mem_append_right _ (List.mem_append_right _ (List.mem_append_right _ (List.mem_append_right _ (List.mem_append_right _ (List.mem_append_right _ (List.mem_append_right _ (List.mem_append_right _ (List.mem_append_right _ (List.mem_append_right _ (List.mem_append_right _ (List.mem_append_right _ (List.mem_append_right _ (List.mem_append_right _ (List.mem_append_right _ (List.mem_append_right _ (List.mem_append_right _ (List.mem_append_right _ (List.mem_append_right _ (List.mem_append_right _ (List.mem_append_left _ h))))))))))))))))))))))))))))), List.forall_mem_cons.mpr ⟨fun _ h => List.mem_append_left _ (List.mem_append_left _ (List.mem_append_left _ (List.mem_append_left _ (List.mem_append_left _ (List.mem_append_left _ (List.mem_append_left _ (List.mem_append_left _ (List.mem_append_left _ (List.mem_append_right _ (List.mem_append_right _ (List.mem_append_right _ (List.mem_append_right _ (List.mem_append_right _ (List.mem_append_right _ (List.mem_append_right _ (List.mem_append_right _ (List.mem_append_right _ (List.mem_append_right _ (List.mem_append_right _ (List.mem_append_right _ (List.mem_append_right _ (List.mem_append_right _ (List.mem_append_right _ (List.mem_append_right _ (List.mem_append_right _ (List.mem_append_right _ (List.mem_append_right _ (List.mem_append_right _ (List.mem_append_right _ (List.mem_append_left _ h)))))))))))))))))))))))))))))), List.forall_mem_cons.mpr ⟨fun _ h => List.mem_append_left _ (List.mem_append_left _ (List.mem_append_left _ (List.mem_append_left _ (List.mem_append_left _ (List.mem_append_left _ (List.mem_append_left _ (List.mem_append_left _ (List.mem_append_left _ (List.mem_append_right _ (List.mem_append_right _ (List.mem_append_right _ (List.mem_append_right _ (List.mem_append_right _ (List.mem_append_right _ (List.mem_append_right _ (List.mem_append_right _ (List.mem_append_right _ (List.mem_append_right _ (List.mem_append_right _ (List.mem_append_right _ (List.mem_append_right _ (List.mem_append_right _ (List.mem_append_right _ (List.mem_append_right _ (List.mem_append_right _ (List.mem_append_right _ (List.mem_append_right _ (List.mem_append_right _ (List.mem_append_right _ (List.mem_append_right _ (List.mem_append_left _ h))))))))))))))))))))))))))))))), List.forall_mem_cons.mpr ⟨fun _ h => List.mem_append_left _ (List.mem_append_left _ (List.mem_append_left _ (List.mem_append_left _ (List.mem_append_left _ (List.mem_append_left _ (List.mem_append_left _ (List.mem_append_left _ (List.mem_append_left _ (List.mem_append_right _ (List.mem_append_right _ (List.mem_append_right _ (List.mem_append_right _ (List.mem_append_right _ (List.mem_append_right _ (List.mem_append_right _ (List.mem_append_right _ (List.mem_append_right _ (List.mem_append_right _ (List.mem_append_right _ (List.mem_append_right _ (List.mem_append_right _ (List.mem_append_right _ (List.mem_append_right _ (List.mem_append_right _ (List.mem_append_right _ (List.mem_append_right _ (List.mem_append_right _ (List.mem_append_right _ (List.mem_append_right _ (List.mem_append_right _ (List.mem_append_right _ (List.mem_append_left _ h)))))))))))))))))))))))))))))))), List.forall_mem_cons.mpr ⟨fun _ h => List.mem_append_left _ (List.mem_append_left _ (List.mem_append_left _ (List.mem_append_left _ (List.mem_append_left _ (List.mem_append_left _ (List.mem_append_left _ (List.mem_append_left _ (List.mem_append_left _ (List.mem_append_right _ (List.mem_append_right _ (List.mem_append_right _ (List.mem_append_right _ (List.mem_append_right _ (List.mem_append_right _ (List.mem_append_right _ (List.mem_append_right _ (List.mem_append_right _ (List.mem_append_right _ (List.mem_append_right _ (List.mem_append_right _ (List.mem_append_right _ (List.mem_append_right _ (List.mem_append_right _ (List.mem_append_right _ (List.mem_append_right _ (List.mem_append_right _ (List.mem_append_right _ (List.mem_append_right _ (List.mem_append_right _ (List.mem_append_right _ (List.mem_append_right _ (List.mem_append_right _ (List.mem_append_left _ h))))))))))))))))))))))))))))))))), List.forall_mem_cons.mpr ⟨fun _ h => List.mem_append_left _ (List.mem_append_left _ (List.mem_append_left _ (List.mem_append_left _ (List.mem_append_left _ (List.mem_append_left _ (List.mem_append_left _ (List.mem_append_left _ (List.mem_append_left _ (List.mem_append_right _ (List.mem_append_right _ (List.mem_append_right _ (List.mem_append_right _ (List.mem_append_right _ (List.mem_append_right _ (List.mem_append_right _ (List.mem_append_right _ (List.mem_append_right _ (List.mem_append_right _ (List.mem_append_right _ (List.mem_append_right _ (List.mem_append_right _ (List.mem_append_right _ (List.mem_append_right _ (List.mem_append_right _ (List.mem_append_right _ (List.mem_append_right _ (List.mem_append_right _ (List.mem_append_right _ (List.mem_append_right _ (List.mem_append_right _ (List.mem_append_right _ (List.mem_append_right _ (List.mem_append_right _ (List.mem_append_left _ h)))))))))))))))))))))))))))))))))), List.forall_mem_cons.mpr ⟨fun _ h => List.mem_append_left _ (List.mem_append_left _ (List.mem_append_left _ (List.mem_append_left _ (List.mem_append_left _ (List.mem_append_left _ (List.mem_append_left _ (List.mem_append_left _ (List.mem_append_left _ (List.mem_append_right _ (List.mem_append_right _ (List.mem_append_right _ (List.mem_append_right _ (List.mem_append_right _ (List.mem_append_right _ (List.mem_append_right _ (List.mem_append_right _ (List.mem_append_right _ (List.mem_append_right _ (List.mem_append_right _ (List.mem_append_right _ (List.mem_append_right _ (List.mem_append_right _ (List.mem_append_right _ (List.mem_append_right _ (List.mem_append_right _ (List.mem_append_right _ (List.mem_append_right _ (List.mem_append_right _ (List.mem_append_right _ (List.mem_append_right _ (List.mem_append_right _ (List.mem_append_right _ (List.mem_append_right _ (List.mem_append_right _ (List.mem_append_left _ h))))))))))))))))))))))))))))))))))), List.forall_mem_cons.mpr ⟨fun _ h => List.mem_append_left _ (List.mem_append_left _ (List.mem_append_left _ (List.mem_append_left _ (List.mem_append_left _ (List.mem_append_left _ (List.mem_append_left _ (List.mem_append_left _ (List.mem_append_left _ (List.mem_append_right _ (List.mem_append_right _ (List.mem_append_right _ (List.mem_append_right _ (List.mem_append_right _ (List.mem_append_right _ (List.mem_append_right _ (List.mem_append_right _ (List.mem_append_right _ (List.mem_append_right _ (List.mem_append_right _ (List.mem_append_right _ (List.mem_append_right _ (List.mem_append_right _ (List.mem_append_right _ (List.mem_append_right _ (List.mem_append_right _ (List.mem_append_right _ (List.mem_append_right _ (List.mem_append_right _ (List.mem_append_right _ (List.mem_append_right _ (List.mem_append_right _ (List.mem_append_right _ (List.mem_append_right _ (List.mem_append_right _ (List.mem_append_right _ (List.mem_append_left _ h)))))))))))))))))))))))))))))))))))), List.forall_mem_cons.mpr ⟨fun _ h => List.mem_append_left _ (List.mem_append_left _ (List.mem_append_left _ (List.mem_append_left _ (List.mem_append_left _ (List.mem_append_left _ (List.mem_append_left _ (List.mem_append_left _ (List.mem_append_left _ (List.mem_append_right _ (List.mem_append_right _ (List.mem_append_right _ (List.mem_append_right _ (List.mem_append_right _ (List.mem_append_right _ (List.mem_append_right _ (List.mem_append_right _ (List.mem_append_right _ (List.mem_append_right _ (List.mem_append_right _ (List.mem_append_right _ (List.mem_append_right _ (List.mem_append_right _ (List.mem_append_right _ (List.mem_append_right _ (List.mem_append_right _ (List.mem_append_right _ (List.mem_append_right _ (List.mem_append_right _ (List.mem_append_right _ (List.mem_append_right _ (List.mem_append_right _ (List.mem_append_right _ (List.mem_append_right _ (List.mem_append_right _ (List.mem_append_right _ (List.mem_append_right _ (List.mem_append_left _ h))))))))))))))))))))))))))))))))))))), List.forall_mem_cons.mpr ⟨fun _ h => List.mem_append_left _ (List.mem_append_left _ (List.mem_append_left _ (List.mem_append_left _ (List.mem_append_left _ (List.mem_append_left _ (List.mem_append_left _ (List.mem_append_left _ (List.mem_append_left _ (List.mem_append_right _ (List.mem_append_right _ (List.mem_append_right _ (List.mem_append_right _ (List.mem_append_right _ (List.mem_append_right _ (List.mem_append_right _ (List.mem_append_right _ (List.mem_append_right _ (List.mem_append_right _ (List.mem_append_right _ (List.mem_append_right _ (List.mem_append_right _ (List.mem_append_right _ (List.mem_append_right _ (List.mem_append_right _ (List.mem_append_right _ (List.mem_append_right _ (List.mem_append_right _ (List.mem_append_right _ (List.mem_append_right _ (List.mem_append_right _ (List.mem_append_right _ (List.mem_append_right _ (List.mem_append_right _ (List.mem_append_right _ (List.mem_append_right _ (List.mem_append_right _ (List.mem_append_right _ (List.mem_append_left _ h)))))))))))))))))))))))))))))))))))))), List.forall_mem_cons.mpr ⟨fun _ h => List.mem_append_left _ (List.mem_append_left _ (List.mem_append_left _ (List.mem_append_left _ (List.mem_append_left _ (List.mem_append_left _ (List.mem_append_left _ (List.mem_append_left _ (List.mem_append_left _ (List.mem_append_right _ (List.mem_append_right _ (List.mem_append_right _ (List.mem_append_right _ (List.mem_append_right _ (List.mem_append_right _ (List.mem_append_right _ (List.mem_append_right _ (List.mem_append_right _ (List.mem_append_right _ (List.mem_append_right _ (List.mem_append_right _ (List.mem_append_right _ (List.mem_append_right _ (List.mem_append_right _ (List.mem_append_right _ (List.mem_append_right _ (List.mem_append_right _ (List.mem_append_right _ (List.mem_append_right _ (List.mem_append_right _ (List.mem_append_right _ (List.mem_append_right _ (List.mem_append_right _ (List.mem_append_right _ (List.mem_append_right _ (List.mem_append_right _ (List.mem_append_right _ (List.mem_append_right _ (List.mem_append_right _ (List.mem_append_left _ h))))))))))))))))))))))))))))))))))))))), List.forall_mem_cons.mpr ⟨fun _ h => List.mem_append_left _ (List.mem_append_left _ (List.mem_append_left _ (List.mem_append_left _ (List.mem_append_left _ (List.mem_append_left _ (List.mem_append_left _ (List.mem_append_left _ (List.mem_append_left _ (List.mem_append_right _ (List.mem_append_right _ (List.mem_append_right _ (List.mem_append_right _ (List.mem_append_right _ (List.mem_append_right _ (List.mem_append_right _ (List.mem_append_right _ (List.mem_append_right _ (List.mem_append_right _ (List.mem_append_right _ (List.mem_append_right _ (List.mem_append_right _ (List.mem_append_right _ (List.mem_append_right _ (List.mem_append_right _ (List.mem_append_right _ (List.mem_append_right _ (List.mem_append_right _ (List.mem_append_right _ (List.mem_append_right _ (List.mem_append_right _ (List.mem_append_right _ (List.mem_append_right _ (List.mem_append_right _ (List.mem_append_right _ (List.mem_append_right _ (List.mem_append_right _ (List.mem_append_right _ (List.mem_append_right _ (List.mem_append_right _ (List.mem_append_left _ h)))))))))))))))))))))))))))))))))))))))), List.forall_mem_cons.mpr ⟨fun _ h => List.mem_append_left _ (List.mem_append_left _ (List.mem_append_left _ (List.mem_append_left _ (List.mem_append_left _ (List.mem_append_left _ (List.mem_append_left _ (List.mem_append_left _ (List.mem_append_left _ (List.mem_append_right _ (List.mem_append_right _ (List.mem_append_right _ (List.mem_append_right _ (List.mem_append_right _ (List.mem_append_right _ (List.mem_append_right _ (List.mem_append_right _ (List.mem_append_right _ (List.mem_append_right _ (List.mem_append_right _ (List.mem_append_right _ (List.mem_append_right _ (List.mem_append_right _ (List.mem_append_right _ (List.mem_append_right _ (List.mem_append_right _ (List.mem_append_right _ (List.mem_append_right _ (List.mem_append_right _ (List.mem_append_right _ (List.mem_append_right _ (List.mem_append_right _ (List.mem_append_right _ (List.mem_append_right _ (List.mem_append_right _ (List.mem_append_right _ (List.mem_append_right _ (List.mem_append_right _ (List.mem_append_right _ (List.mem_append_right _ (List.mem_append_right _ (List.mem_append_left _ h))))))))))))))))))))))))))))))))))))))))), List.forall_mem_cons.mpr ⟨fun _ h => List.mem_append_left _ (List.mem_append_left _ (List.mem_append_left _ (List.mem_append_left _ (List.mem_append_left _ (List.mem_append_left _ (List.mem_append_left _ (List.mem_append_left _ (List.mem_append_left _ (List.mem_append_right _ (List.mem_append_right _ (List.mem_append_right _ (List.mem_append_right _ (List.mem_append_right _ (List.mem_append_right _ (List.mem_append_right _ (List.mem_append_right _ (List.mem_append_right _ (List.mem_append_right _ (List.mem_append_right _ (List.mem_append_right _ (List.mem_append_right _ (List.mem_append_right _ (List.mem_append_right _ (List.mem_append_right _ (List.mem_append_right _ (List.mem_append_right _ (List.mem_append_right _ (List.mem_append_right _ (List.mem_append_right _ (List.mem_append_right _ (List.mem_append_right _ (List.mem_append_right _ (List.mem_append_right _ (List.mem_append_right _ (List.mem_append_right _ (List.mem_append_right _ (List.mem_append_right _ (List.mem_append_right _ (List.mem_append_right _ (List.mem_append_right _ (List.mem_append_right _ (List.mem_append_left _ h)))))))))))))))))))))))))))))))))))))))))), List.forall_mem_cons.mpr ⟨fun _ h => List.mem_append_left _ (List.mem_append_left _ (List.mem_append_left _ (List.mem_append_left _ (List.mem_append_left _ (List.mem_append_left _ (List.mem_append_left _ (List.mem_append_left _ (List.mem_append_left _ (List.mem_append_right _ (List.mem_append_right _ (List.mem_append_right _ (List.mem_append_right _ (List.mem_append_right _ (List.mem_append_right _ (List.mem_append_right _ (List.mem_append_right _ (List.mem_append_right _ (List.mem_append_right _ (List.mem_append_right _ (List.mem_append_right _ (List.mem_append_right _ (List.mem_append_right _ (List.mem_append_right _ (List.mem_append_right _ (List.mem_append_right _ (List.mem_append_right _ (List.mem_append_right _ (List.mem_append_right _ (List.mem_append_right _ (List.mem_append_right _ (List.mem_append_right _ (List.mem_append_right _ (List.mem_append_right _ (List.mem_append_right _ (List.mem_append_right _ (List.mem_append_right _ (List.mem_append_right _ (List.mem_append_right _ (List.mem_append_right _ (List.mem_append_right _ (List.mem_append_right _ (List.mem_append_right _ (List.mem_append_left _ h))))))))))))))))))))))))))))))))))))))))))), List.forall_mem_cons.mpr ⟨fun _ h => List.mem_append_left _ (List.mem_append_left _ (List.mem_append_left _ (List.mem_append_left _ (List.mem_append_left _ (List.mem_append_left _ (List.mem_append_left _ (List.mem_append_left _ (List.mem_append_left _ (List.mem_append_right _ (List.mem_append_right _ (List.mem_append_right _ (List.mem_append_right _ (List.mem_append_right _ (List.mem_append_right _ (List.mem_append_right _ (List.mem_append_right _ (List.mem_append_right _ (List.mem_append_right _ (List.mem_append_right _ (List.mem_append_right _ (List.mem_append_right _ (List.mem_append_right _ (List.mem_append_right _ (List.mem_append_right _ (List.mem_append_right _ (List.mem_append_right _ (List.mem_append_right _ (List.mem_append_right _ (List.mem_append_right _ (List.mem_append_right _ (List.mem_append_right _ (List.mem_append_right _ (List.mem_append_right _ (List.mem_append_right _ (List.mem_append_right _ (List.mem_append_right _ (List.mem_append_right _ (List.mem_append_right _ (List.mem_append_right _ (List.mem_append_right _ (List.mem_append_right _ (List.mem_append_right _ (List.mem_append_right _ (List.mem_append_left _ h)))))))))))))))))))))))))))))))))))))))))))), List.forall_mem_cons.mpr ⟨fun _ h => List.mem_append_left _ (List.mem_append_left _ (List.mem_append_left _ (List.mem_append_left _ (List.mem_append_left _ (List.mem_append_left _ (List.mem_append_left _ (List.mem_append_left _ (List.mem_append_left _ (List.mem_append_right _ (List.mem_append_right _ (List.mem_append_right _ (List.mem_append_right _ (List.mem_append_right _ (List.mem_append_right _ (List.mem_append_right _ (List.mem_append_right _ (List.mem_append_right _ (List.mem_append_right _ (List.mem_append_right _ (List.mem_append_right _ (List.mem_append_right _ (List.mem_append_right _ (List.mem_append_right _ (List.mem_append_right _ (List.mem_append_right _ (List.mem_append_right _ (List.mem_append_right _ (List.mem_append_right _ (List.mem_append_right _ (List.mem_append_right _ (List.mem_append_right _ (List.mem_append_right _ (List.mem_append_right _ (List.mem_append_right _ (List.mem_append_right _ (List.mem_append_right _ (List.mem_append_right _ (List.mem_append_right _ (List.mem_append_right _ (List.mem_append_right _ (List.mem_append_right _ (List.mem_append_right _ (List.mem_append_right _ (List.mem_append_right _ (h))))))))))))))))))))))))))))))))))))))))))))), fun _ h => absurd h List.not_mem_nil⟩⟩⟩⟩⟩⟩⟩⟩⟩⟩⟩⟩⟩⟩⟩⟩⟩⟩⟩⟩⟩⟩⟩⟩⟩⟩⟩⟩⟩⟩⟩⟩⟩⟩⟩⟩⟩
end
section
/-! the runs of the abstract machine; what a world is; how it moves -/
def a_look (q pc : Nat) : Option aR := (a_ct.getD q []).lookup pc
def a_rt (q : Nat) : Option FieldType := match a_mt[q]? with
  | some M => M.2.2.2.1
  | none => none
def a_ml (q : Nat) : Nat := match a_mt[q]? with
  | some M => M.2.2.1
  | none => 0
def a_ent (q : Nat) (as : List aV) : aL := as.map some ++ List.replicate (a_ml q - as.length) none
def a_ci (q : Nat) : Nat := match a_mt[q]? with
  | some M => M.2.2.2.2.2.1
  | none => 99
/-- the receiver is of the method's class -/
def a_rcv (q : Nat) (as : List aV) : Bool := match as with
  | .inr (c, _) :: _ => decide (a_kd c = (0, a_ci q))
  | _ => false
/-- a call of a method of ours: its arguments, what stays on the stack -/
def a_call (ins : Instr) (a n : Nat) (st : List aV) : Option (List aV × List aV) := match ins with
  | .invokevirtual _ => if (n ≤ st.length ∧ st.length ≤ n + 8) ∧ a_rcv a (st.take n).reverse = true then some ((st.take n).reverse, st.drop n) else none
  | .invokestatic _ => if a < 1000 ∧ n ≤ st.length ∧ st.length ≤ n + 8 then some ((st.take n).reverse, st.drop n) else none
  | _ => none
def a_run : Nat → Nat → Nat → aL → List aV → aM → aO
  | 0, _, _, _, _, _ => none
  | n + 1, q, pc, ls, st, m => match a_look q pc with
    | none => none
    | some (ins, a, b, _) => match a_step ins a b pc ls st m with
      | some (pc', ls', st', m') => a_run n q pc' ls' st' m'
      | none => match a_call ins a b st with
        | some (as, t) => match a_run n a 0 (a_ent a as) [] m with
          | some (r, m') => a_run n q (pc + 3) ls (r.toList ++ t) m'
          | none => none
        | none => match a_ret (a_rt q) ins st with
          | some r => some (r, m)
          | none => none
abbrev aG : Type := ClassId × ClassId × ClassId × (Nat → Nat → Nat)
def a_cv (ad : Nat → Nat → Nat) (v : aV) : Value := match v with
  | .inl x => .int x
  | .inr (c, b) => .ref (ad c b)
theorem a_cv_cat (ad : Nat → Nat → Nat) (v : aV) : (a_cv ad v).category = 1 := by
  cases v <;> rfl
def a_vr (c b : Nat) : Prop := (c < 27 ∧ b < 10) ∨ (27 ≤ c ∧ c < 47 ∧ b = 0)
def a_vv (v : aV) : Prop := match v with
  | .inl _ => True
  | .inr (c, b) => a_vr c b
theorem a_vcons {v : aV} {st : List aV} (h : a_vv v) (hv : ∀ u ∈ st, a_vv u) : ∀ u ∈ v :: st, a_vv u := fun u hu => (List.mem_cons.mp hu).elim (fun q => q ▸ h) (hv u)
theorem a_vtl {v : aV} {st : List aV} (hv : ∀ u ∈ v :: st, a_vv u) : ∀ u ∈ st, a_vv u := fun u hu => hv u (List.mem_cons_of_mem _ hu)
theorem a_vhd {v : aV} {st : List aV} (hv : ∀ u ∈ v :: st, a_vv u) : a_vv v := hv v List.mem_cons_self
def a_fv (ad : Nat → Nat → Nat) (m : aM) (c b k : Nat) : Value := match a_fr c b k with
  | some r => .ref (ad r.1 r.2)
  | none => .int (m c b k)
def a_cell (g : aG) (m : aM) (c b : Nat) : va_E := match (a_kd c).1 with
  | 0 => .inr ((a_kd c).2, (List.range (a_nf c)).map (a_fv g.2.2.2 m c b))
  | 1 => .inl (g.1, (a_kd c).2, .inl (m c b))
  | 2 => .inl (g.2.1, (a_kd c).2, .inl (m c b))
  | _ => .inl (g.2.2.1, (a_kd c).2, .inr (.inr (.inr (.inr (fun j => some (g.2.2.2 0 (a_el c j)))))))
def a_rc (i : Nat) : Nat × Nat := if i < 270 then (i % 27, i / 27) else (i - 243, 0)
def a_ri (c b : Nat) : Nat := if c < 27 then 27 * b + c else c + 243
def a_ws (g : aG) (m : aM) : va_W := (List.range 284).map fun i => (g.2.2.2 (a_rc i).1 (a_rc i).2, a_cell g m (a_rc i).1 (a_rc i).2)
theorem a_rc_ri {c b : Nat} (h : a_vr c b) (hc : c < 41) : a_rc (a_ri c b) = (c, b) ∧ a_ri c b < 284 := by
  rcases h with ⟨h1, h2⟩ | ⟨h1, h2, h3⟩
  · have e : a_ri c b = 27 * b + c := if_pos h1
    rw [e]
    refine ⟨?_, by omega⟩
    unfold a_rc
    rw [if_pos (by omega), show (27 * b + c) % 27 = c by omega, show (27 * b + c) / 27 = b by omega]
  · have e : a_ri c b = c + 243 := if_neg (by omega)
    rw [e, h3]
    refine ⟨?_, by omega⟩
    unfold a_rc
    rw [if_neg (by omega), show c + 243 - 243 = c by omega]
theorem a_ri_rc {i : Nat} (h : i < 284) : a_ri (a_rc i).1 (a_rc i).2 = i := by
  unfold a_ri a_rc
  by_cases h1 : i < 270
  · rw [if_pos h1]
    dsimp only
    rw [if_pos (by omega)]
    omega
  · rw [if_neg h1]
    dsimp only
    rw [if_neg (by omega)]
    omega
theorem a_ws_get (g : aG) (m : aM) {c b : Nat} (h : a_vr c b) (hc : c < 41) : (a_ws g m)[a_ri c b]? = some (g.2.2.2 c b, a_cell g m c b) := by
  obtain ⟨h1, h2⟩ := a_rc_ri h hc
  rw [a_ws, List.getElem?_map, List.getElem?_range h2]
  show some (g.2.2.2 (a_rc (a_ri c b)).1 (a_rc (a_ri c b)).2, a_cell g m (a_rc (a_ri c b)).1 (a_rc (a_ri c b)).2) = _
  rw [h1]
theorem a_cell_congr (g : aG) {m m' : aM} {c b : Nat} (h : m' c b = m c b) : a_cell g m' c b = a_cell g m c b := by
  unfold a_cell a_fv
  rw [h]
theorem a_ws_set (g : aG) {m m' : aM} {c b : Nat} (h : a_vr c b) (hc : c < 41) (hm : ∀ c' b', (c' ≠ c ∨ b' ≠ b) → m' c' b' = m c' b') {e : va_E} (he : e = a_cell g m' c b) : (a_ws g m).set (a_ri c b) (g.2.2.2 c b, e) = a_ws g m' := by
  subst he
  obtain ⟨h1, h2⟩ := a_rc_ri h hc
  apply List.ext_getElem?
  intro j
  by_cases hj : j = a_ri c b
  · subst hj
    rw [List.getElem?_set_self (by rw [a_ws, List.length_map, List.length_range]; exact h2), a_ws_get g m' h hc]
  · rw [List.getElem?_set_ne (Ne.symm hj), a_ws, a_ws, List.getElem?_map, List.getElem?_map]
    by_cases hl : j < 284
    · rw [List.getElem?_range hl]
      show some (g.2.2.2 (a_rc j).1 (a_rc j).2, a_cell g m (a_rc j).1 (a_rc j).2) = some (g.2.2.2 (a_rc j).1 (a_rc j).2, a_cell g m' (a_rc j).1 (a_rc j).2)
      rw [a_cell_congr g (hm (a_rc j).1 (a_rc j).2 ?_)]
      by_cases q : (a_rc j).1 = c
      · refine Or.inr fun q2 => hj ?_
        rw [← a_ri_rc hl, q, q2]
      · exact Or.inl q
    · rw [List.getElem?_eq_none (by rw [List.length_range]; omega)]
      rfl
def a_tys (g : aG) : List (ClassId × FieldType) := [(g.1, .int), (g.2.1, .boolean), (g.2.2.1, .object "VacantAir$State")]
def a_A (base : Nat) : Nat → Prop := fun q => base ≤ q
def a_Dyn (base : Nat) (D : va_G) (g : aG) (m : aM) (H : Heap) : Prop := va_P D vwCl (a_ws g m) H ∧ va_D (a_A base) (a_ws g m)
def a_Sta (base : Nat) (D : va_G) (g : aG) (m : aM) (U : State) : Prop := va_K D vwCl (a_tys g) U ∧ (∀ c, 41 ≤ c → c < 46 → va_Z "VacantAir" (a_sn c) "[I" (.ref (g.2.2.2 c 0)) (a_A base) U U.heap ∧ va_T .int (g.2.2.2 c 0) (a_kd c).2 (fun j => .int (m c 0 j)) (a_A base) U U.heap) ∧ (va_X (g.2.2.2 46 0) (m 47 0 0).toNatClampNeg (m 46 0) U U.heap ∧ g.2.2.2 46 0 < base ∧ base ≤ U.heap.size) ∧ ∀ w ∈ a_nst, va_Nw w U
theorem a_Sta_same {base : Nat} {D : va_G} {g : aG} {m : aM} {u U : State} (h1 : u.vm = U.vm) (h2 : u.heap = U.heap) (h : a_Sta base D g m u) : a_Sta base D g m U := by
  have hvm : u.vm.Alike U.vm := h1 ▸ Vm.Alike.refl u.vm
  obtain ⟨a1, a2, ⟨a3, a4, a5⟩, a6⟩ := h
  refine ⟨a1.moved hvm, fun c q1 q2 => ⟨?_, ?_⟩, ⟨?_, a4, h2 ▸ a5⟩, fun w hw => va_Nw.same ?_ h1 (a6 w hw)⟩
  · rw [← h2]; exact (a2 c q1 q2).1.moved hvm
  · rw [← h2]; exact (a2 c q1 q2).2.moved hvm
  · rw [← h2]; exact a3.moved hvm
  · exact (List.all_eq_true.mp (show a_nst.all (fun w => w.onTables) = true by decide +kernel) w hw)
def a_isN (w : Cond) : Bool := match w with
  | .methodLinkNest _ _ _ _ => true
  | .fieldLinkNest _ _ _ _ _ _ => true
  | _ => false
theorem a_nst_warm {s U : State} (hW : s.WarmedH U.vm) : (∀ w ∈ a_nst, va_Nw w s) → ∀ w ∈ a_nst, va_Nw w U := by
  intro h w hw
  have hk : a_isN w = true := List.all_eq_true.mp (show a_nst.all a_isN = true by decide +kernel) w hw
  have h1 := h w hw
  cases w with
  | methodLinkNest a b c d => exact va_Nw.warmM hW h1
  | fieldLinkNest a b c d e f => exact va_Nw.warmF hW h1
  | _ => cases hk
theorem a_Sta_moved {base : Nat} {D : va_G} {g : aG} {m m' : aM} {s U : State} (hW : s.WarmedH U.vm) (hz : s.heap.size ≤ U.heap.size) (hq : ∀ q : Nat, q < s.heap.size → ¬ a_A base q → U.heap[q]? = s.heap[q]?) (hm : ∀ c, 41 ≤ c → m' c = m c) (h : a_Sta base D g m s) : a_Sta base D g m' U := by
  have hvm := hW.alike
  obtain ⟨a1, a2, ⟨a3, a4, a5⟩, a6⟩ := h
  refine ⟨a1.moved hvm, fun c q1 q2 => ⟨?_, ?_⟩, ⟨?_, a4, Nat.le_trans a5 hz⟩, a_nst_warm hW a6⟩
  · exact ((a2 c q1 q2).1.kept hq).moved hvm
  · rw [hm c q1]
    exact ((a2 c q1 q2).2.kept hq).moved hvm
  · rw [hm 46 (by omega), hm 47 (by omega)]
    exact (a3.kept (hq _ (Nat.lt_of_lt_of_le a4 a5) (Nat.not_le.mpr a4))).moved hvm
/-! the locals -/
def a_lv (ad : Nat → Nat → Nat) (ls : aL) : List (Nat × Value) := (List.range ls.length).filterMap fun i => match ls[i]? with
  | some (some v) => some (i, a_cv ad v)
  | _ => none
def a_LS (g : aG) (ls : aL) (ls' : Array Slot) (n : Nat) : Prop := ls'.size = n ∧ lv_wf ls' ∧ ls.length ≤ n ∧ ∀ (i : Nat) (v : aV), ls[i]? = some (some v) → ls'[i]? = some (.val (a_cv g.2.2.2 v)) ∧ a_vv v
theorem a_lv_mem {ad : Nat → Nat → Nat} {ls : aL} {i : Nat} {v : aV} (h : ls[i]? = some (some v)) : (i, a_cv ad v) ∈ a_lv ad ls := by
  have hi := (List.getElem?_eq_some_iff.mp h).1
  exact List.mem_filterMap.mpr ⟨i, List.mem_range.mpr hi, by rw [h]⟩
theorem a_lv_has {g : aG} {ls : aL} {ls' : Array Slot} {n : Nat} (h : a_LS g ls ls' n) : lv_has ls' n (a_lv g.2.2.2 ls) := by
  refine ⟨h.1, h.2.1, fun q hq => ?_⟩
  obtain ⟨i, -, hi⟩ := List.mem_filterMap.mp hq
  split at hi
  · rename_i v e
    cases hi
    exact (h.2.2.2 i v e).1
  · cases hi
theorem a_LS_store {g : aG} {ls : aL} {ls' ls2 : Array Slot} {n k : Nat} {v : aV} (h : a_LS g ls ls' n) (hv : a_vv v) (h2 : lv_has ls2 n ((k, a_cv g.2.2.2 v) :: (a_lv g.2.2.2 ls).filter (fun q => !(q.1 == k) && !(q.1 + 1 == k && q.2.category == 2)))) : a_LS g (ls.set k (some v)) ls2 n := by
  refine ⟨h2.1, h2.2.1, by rw [List.length_set]; exact h.2.2.1, fun i u hu => ?_⟩
  by_cases hik : i = k
  · subst hik
    have hi : i < ls.length := by
      have := (List.getElem?_eq_some_iff.mp hu).1
      rwa [List.length_set] at this
    rw [List.getElem?_set_self hi] at hu
    cases hu
    exact ⟨h2.2.2 _ List.mem_cons_self, hv⟩
  · rw [List.getElem?_set_ne (Ne.symm hik)] at hu
    refine ⟨h2.2.2 (i, a_cv g.2.2.2 u) (List.mem_cons_of_mem _ (List.mem_filter.mpr ⟨a_lv_mem hu, ?_⟩)), (h.2.2.2 i u hu).2⟩
    simp [hik, a_cv_cat]
theorem a_LS_entry {g : aG} (as : List aV) {n : Nat} (hn : as.length ≤ n) (hv : ∀ v ∈ as, a_vv v) {ls' : Array Slot} (h : lv_has ls' n (lv_args 0 (as.map (a_cv g.2.2.2)))) : a_LS g (as.map some ++ List.replicate (n - as.length) none) ls' n := by
  refine ⟨h.1, h.2.1, by simp; omega, fun i v hi => ?_⟩
  have key : ∀ (as : List aV) (j i : Nat) (v : aV), as[i]? = some v → (j + i, a_cv g.2.2.2 v) ∈ lv_args j (as.map (a_cv g.2.2.2)) := by
    intro as
    induction as with
    | nil => intro j i v h; simp at h
    | cons a as ih =>
      intro j i v h
      cases i with
      | zero =>
        rw [List.getElem?_cons_zero] at h
        cases h
        exact List.mem_cons_self
      | succ i =>
        rw [List.getElem?_cons_succ] at h
        have := ih (j + 1) i v h
        rw [List.map_cons, lv_args, if_neg (by rw [a_cv_cat]; decide)]
        rw [show j + (i + 1) = j + 1 + i by omega]
        exact List.mem_cons_of_mem _ this
  by_cases hl : i < (as.map some).length
  · rw [List.getElem?_append_left hl, List.getElem?_map] at hi
    cases ha : as[i]? with
    | none => rw [ha] at hi; cases hi
    | some u =>
      rw [ha] at hi
      have hu : u = v := Option.some.inj (Option.some.inj hi)
      subst hu
      have := key as 0 i u ha
      rw [Nat.zero_add] at this
      exact ⟨h.2.2 _ this, hv u (List.mem_of_getElem? ha)⟩
  · rw [List.getElem?_append_right (by omega)] at hi
    have := List.eq_of_mem_replicate (List.mem_of_getElem? hi)
    cases this
/-! facts of the tables, by looking at all of them -/
theorem a_kd_out {c : Nat} (h : 47 ≤ c) : a_kd c = (9, 0) := by
  unfold a_kd
  rw [List.getD_eq_getElem?_getD, List.getElem?_eq_none (by show (47 : Nat) ≤ c; exact h)]
  rfl
theorem a_kd_lt {c t : Nat} (h : (a_kd c).1 = t) (ht : t ≤ 5) : c < 47 := by
  by_cases hc : c < 47
  · exact hc
  · rw [a_kd_out (by omega)] at h
    change 9 = t at h
    omega
theorem a_kd_3 {c : Nat} (h : (a_kd c).1 ≤ 3) : c < 41 := by
  have h47 := a_kd_lt (c := c) rfl (by omega)
  have := (show ∀ c, c < 47 → (a_kd c).1 ≤ 3 → c < 41 by decide +kernel) c h47
  exact this h
theorem a_kd_4 {c : Nat} (h : (a_kd c).1 = 4) : 41 ≤ c ∧ c < 46 :=
  (show ∀ c, c < 47 → (a_kd c).1 = 4 → 41 ≤ c ∧ c < 46 by decide +kernel) c (a_kd_lt h (by omega)) h
theorem a_kd_5 {c : Nat} (h : (a_kd c).1 = 5) : c = 46 :=
  (show ∀ c, c < 47 → (a_kd c).1 = 5 → c = 46 by decide +kernel) c (a_kd_lt h (by omega)) h
theorem a_kd_nf {c ci : Nat} (h : a_kd c = (0, ci)) {q : vw_C} (hq : vwCl[ci]? = some q) : a_nf c = q.2.2 := by
  have h47 : c < 47 := a_kd_lt (t := 0) (by rw [h]) (by omega)
  have := (show ∀ c, c < 47 → (a_kd c).1 = 0 → (vwCl[(a_kd c).2]?).map (fun q => q.2.2) = some (a_nf c) by decide +kernel) c h47 (by rw [h])
  rw [h, hq] at this
  exact (Option.some.inj this).symm
theorem a_ft_ok {c b k c' b' : Nat} (hv : a_vr c b) (hc : c < 41) (h : a_fr c b k = some (c', b')) : a_vr c' b' := by
  have hk : k < 13 := by
    by_cases hk : k < 13
    · exact hk
    · have hn : a_ft c k = none := by
        unfold a_ft
        rw [List.getD_eq_getElem?_getD, List.getElem?_eq_none]
        · rfl
        · have := (show ∀ c, c < 41 → (a_frs.getD c []).length ≤ 13 by decide +kernel) c hc
          omega
      rw [a_fr, hn] at h
      cases h
  have key := (show ∀ c, c < 41 → ∀ k, k < 13 → (match a_ft c k with | none => true | some (c', none) => decide (c' < 27) && decide (c < 27) | some (c', some d) => (decide (c' < 27) && decide (d < 10)) || (decide (27 ≤ c') && decide (c' < 47) && decide (d = 0))) = true by decide +kernel) c hc k hk
  unfold a_fr at h
  split at h
  · cases h
  · rename_i q
    rw [q] at key
    simp only [Bool.and_eq_true, decide_eq_true_eq] at key
    cases h
    rcases hv with ⟨h1, h2⟩ | ⟨h1, h2, h3⟩
    · exact Or.inl ⟨key.1, h2⟩
    · omega
  · rename_i q
    rw [q] at key
    simp only [Bool.or_eq_true, Bool.and_eq_true, decide_eq_true_eq] at key
    cases h
    rcases key with ⟨h1, h2⟩ | ⟨⟨h1, h2⟩, h3⟩
    · exact Or.inl ⟨h1, h2⟩
    · exact Or.inr ⟨h1, h2, h3⟩
theorem a_cls {ci : Nat} {C : String} {T : u_T} {N : Nat} (h : vwCl[ci]? = some (C, T, N)) : (∀ w ∈ u_ws C T N, w ∈ wsL_law) ∧ (∀ a, a < N → ∀ b, b < N → a ≠ b → (T a).2.1 ≠ (T b).2.1) ∧ ∃ ty : Nat → FieldType, ∀ k, k < N → parseFieldDescriptor (T k).2.2.1 = some (ty k) := by
  match ci, h with
  | 0, h => cases h; exact ⟨inlX0, nmX0, tyX0, tyX0_ok⟩
  | 1, h => cases h; exact ⟨inlX1, nmX1, tyX1, tyX1_ok⟩
  | 2, h => cases h; exact ⟨inlX2, nmX2, tyX2, tyX2_ok⟩
  | 3, h => cases h; exact ⟨inlX3, nmX3, tyX3, tyX3_ok⟩
  | 4, h => cases h; exact ⟨inlX4, nmX4, tyX4, tyX4_ok⟩
  | 5, h => cases h; exact ⟨inlX5, nmX5, tyX5, tyX5_ok⟩
  | 6, h => cases h; exact ⟨inlX6, nmX6, tyX6, tyX6_ok⟩
  | 7, h => cases h; exact ⟨inlX7, nmX7, tyX7, tyX7_ok⟩
  | k + 8, h => simp [vwCl] at h
theorem a_wsp {w : Nat} {c : Cond} (h : a_w w c = true) : c ∈ wsL_law := by
  have h1 := List.mem_of_getElem? (of_decide_eq_true h)
  rw [List.getD_eq_getElem?_getD] at h1
  cases hk : a_wchs[w / 100]? with
  | none => rw [hk] at h1; exact absurd h1 List.not_mem_nil
  | some l => rw [hk] at h1; exact a_wchs_in l (List.mem_of_getElem? hk) c h1
theorem a_nwp {w : Nat} {c : Cond} (h : a_nw w c = true) : c ∈ a_nst := List.mem_of_getElem? (of_decide_eq_true h)
end
section
/-! the abstract machine's step, sound against the machine -/
theorem a_in_ln {m : aM} {c : Nat} {i : Int32} (hc : c ≠ 46) (h : a_in i (a_ln m c) = true) : vp_in i (a_kd c).2 := by
  have := a_in_vp h
  rwa [a_ln, if_neg hc] at this
theorem a_fv_up (ad : Nat → Nat → Nat) (m : aM) (c b k : Nat) (x : Int32) (n : Nat) (hk : a_fr c b k = none) : ((List.range n).map (a_fv ad m c b)).set k (.int x) = (List.range n).map (a_fv ad (a_up m c b k x) c b) := by
  apply List.ext_getElem?
  intro j
  by_cases hj : j = k
  · subst hj
    by_cases hn : j < n
    · rw [List.getElem?_set_self (by simpa using hn), List.getElem?_map, List.getElem?_range hn]
      show some _ = some _
      rw [a_fv, hk]
      simp [a_up]
    · rw [List.getElem?_eq_none (by simp; omega), List.getElem?_eq_none (by simp; omega)]
  · rw [List.getElem?_set_ne (Ne.symm hj), List.getElem?_map, List.getElem?_map]
    by_cases hn : j < n
    · rw [List.getElem?_range hn]
      show some _ = some _
      congr 1
      unfold a_fv
      split
      · rfl
      · simp [a_up, hj]
    · rw [List.getElem?_eq_none (by simp; omega)]
      rfl
theorem a_up_off (m : aM) (c b k : Nat) (x : Int32) (c' b' : Nat) (h : c' ≠ c ∨ b' ≠ b) : a_up m c b k x c' b' = m c' b' := by
  funext j
  unfold a_up
  rw [if_neg]
  rintro ⟨h1, h2, -⟩
  rcases h with h | h
  · exact h h1
  · exact h h2
theorem a_up_c (m : aM) (c b k : Nat) (x : Int32) (c' : Nat) (h : c' ≠ c) : a_up m c b k x c' = m c' := by
  funext b'
  exact a_up_off m c b k x c' b' (Or.inl h)
theorem a_up_row (m : aM) (c b k : Nat) (x : Int32) : a_up m c b k x c b = upd (m c b) k x := by
  funext j
  simp [a_up, upd]
theorem a_wmin1 : Cond.static Lib.Math.min.name ∈ wsL_law := List.mem_of_getElem? (i := 123) (by decide +kernel)
theorem a_wmin2 : Cond.initialized "java/lang/Math" ∈ wsL_law := List.mem_of_getElem? (i := 124) (by decide +kernel)
theorem a_wmin3 : Cond.code Lib.Math.min.name Lib.Math.min.code 2 (some .int) ∈ wsL_law := List.mem_of_getElem? (i := 125) (by decide +kernel)
theorem a_wcpy1 : Cond.native arraycopyName ∈ wsL_law := List.mem_of_getElem? (i := 127) (by decide +kernel)
theorem a_wcpy2 : Cond.static arraycopyName ∈ wsL_law := List.mem_of_getElem? (i := 128) (by decide +kernel)
theorem a_wcpy3 : Cond.initialized "java/lang/System" ∈ wsL_law := List.mem_of_getElem? (i := 129) (by decide +kernel)
section SND
variable {p : Program} {l : Launch} {e : Env} {R : Room} {s : State} {mI : MethodId} {args : Array Value} {below : List Frame} {meth : Method} {cd : Code} {cells slots : Nat} {Q : State → Prop} {nL base : Nat} {D : va_G} {g : aG} {M : aMt}
set_option maxHeartbeats 8000000 in
theorem a_snd_step (hexec : p.tables.exec = Jvm.exec) (hb : cd.code = M.2.1) (hml : cd.maxLocals = nL) (hown : s.vm.findClass M.1.cls = some mI.cls) (hts : ∀ w ∈ wsL_law, w.before args s = true)
    (hR : M.2.2.2.2.1 ≤ R.frames ∧ 28 * M.2.2.2.2.1 ≤ R.locals ∧ cells ≤ R.cells ∧ slots ≤ R.slots) {m : aM} (hSt : a_Sta base D g m s) {H : Heap} {locs : List Loc} (hDy : a_Dyn base D g m H) (hS : va_S (a_A base) s.heap H locs)
    {ls' : Array Slot} {ls : aL} {st : List aV} (hl : a_LS g ls ls' nL) (hv : ∀ v ∈ st, a_vv v) {pc a b w : Nat} {ins : Instr} (hc : a_chk M pc (ins, a, b, w) = true) {pc1 : Nat} {ls1 : aL} {st1 : List aV} {m1 : aM} (h : a_step ins a b pc ls st m = some (pc1, ls1, st1, m1))
    (k : ∀ (H1 : Heap) (locs1 : List Loc) (ls1' : Array Slot), a_Dyn base D g m1 H1 → va_S (a_A base) s.heap H1 locs1 → a_LS g ls1 ls1' nL → (∀ v ∈ st1, a_vv v) → (∀ c, 41 ≤ c → m1 c = m c) → W p l e R s mI args below meth cd H1 locs1 cells slots Q (F0 mI pc1 ls1' (st1.map (a_cv g.2.2.2)))) :
    W p l e R s mI args below meth cd H locs cells slots Q (F0 mI pc ls' (st.map (a_cv g.2.2.2))) := by
  unfold a_chk at hc
  rw [Bool.and_eq_true] at hc
  obtain ⟨hdg, hc2⟩ := hc
  have hdg := of_decide_eq_true hdg
  cases ins with
  | aload_n kk =>
    obtain ⟨c1, d1, hk, h⟩ := a_lr_i h
    cases h
    exact lv_aload_n hexec hb hdg rfl (hl.2.2.2 _ _ hk).1 (k H locs ls' hDy hS hl (a_vcons (hl.2.2.2 _ _ hk).2 hv) (fun _ _ => rfl))
  | aload kk =>
    obtain ⟨c1, d1, hk, h⟩ := a_lr_i h
    cases h
    exact lv_aload hexec hb hdg (hl.2.2.2 _ _ hk).1 (k H locs ls' hDy hS hl (a_vcons (hl.2.2.2 _ _ hk).2 hv) (fun _ _ => rfl))
  | iload_n kk =>
    obtain ⟨x, hk, h⟩ := a_l1_i h
    cases h
    exact lv_iload_n hexec hb hdg rfl (hl.2.2.2 _ _ hk).1 (k H locs ls' hDy hS hl (a_vcons (v := .inl x) trivial hv) (fun _ _ => rfl))
  | iload kk =>
    obtain ⟨x, hk, h⟩ := a_l1_i h
    cases h
    exact lv_iload hexec hb hdg (hl.2.2.2 _ _ hk).1 (k H locs ls' hDy hS hl (a_vcons (v := .inl x) trivial hv) (fun _ _ => rfl))
  | istore_n kk =>
    obtain ⟨x, t, rfl, h⟩ := a_p1_i h
    obtain ⟨hlt, h⟩ := a_if_i h
    cases h
    exact lv_istore_n hexec hb hdg rfl (a_lv_has hl) (Nat.lt_of_lt_of_le hlt hl.2.2.1) rfl (fun ls2 h2 => k H locs ls2 hDy hS (a_LS_store (v := .inl x) hl trivial h2) (a_vtl hv) (fun _ _ => rfl))
  | istore kk =>
    obtain ⟨x, t, rfl, h⟩ := a_p1_i h
    obtain ⟨hlt, h⟩ := a_if_i h
    cases h
    exact lv_istore hexec hb hdg (a_lv_has hl) (Nat.lt_of_lt_of_le hlt hl.2.2.1) rfl (fun ls2 h2 => k H locs ls2 hDy hS (a_LS_store (v := .inl x) hl trivial h2) (a_vtl hv) (fun _ _ => rfl))
  | astore_n kk =>
    obtain ⟨c1, d1, t, rfl, h⟩ := a_pr_i h
    obtain ⟨hlt, h⟩ := a_if_i h
    cases h
    exact lv_astore_n hexec hb hdg rfl (a_lv_has hl) (Nat.lt_of_lt_of_le hlt hl.2.2.1) rfl (fun ls2 h2 => k H locs ls2 hDy hS (a_LS_store (v := .inr (c1, d1)) hl (a_vhd hv) h2) (a_vtl hv) (fun _ _ => rfl))
  | iinc kk n =>
    obtain ⟨x, hk, h⟩ := a_l1_i h
    obtain ⟨hlt, h⟩ := a_if_i h
    cases h
    obtain ⟨j, hj⟩ := List.getElem?_of_mem (a_lv_mem (ad := g.2.2.2) hk)
    exact lv_iinc (k := j) hexec hb hdg (a_lv_has hl) hj rfl (Nat.lt_of_lt_of_le hlt hl.2.2.1) rfl (fun ls2 h2 => k H locs ls2 hDy hS (a_LS_store (v := .inl (x + Int32.ofInt n)) hl trivial h2) hv (fun _ _ => rfl))
  | iconst n =>
    cases h
    exact lv_iconst hexec hb hdg rfl (k H locs ls' hDy hS hl (a_vcons (v := .inl _) trivial hv) (fun _ _ => rfl))
  | bipush n =>
    cases h
    exact lv_bipush hexec hb hdg rfl (k H locs ls' hDy hS hl (a_vcons (v := .inl _) trivial hv) (fun _ _ => rfl))
  | sipush n =>
    cases h
    exact lv_sipush hexec hb hdg rfl (k H locs ls' hDy hS hl (a_vcons (v := .inl _) trivial hv) (fun _ _ => rfl))
  | iadd =>
    obtain ⟨x, y, t, rfl, h⟩ := a_p2_i h
    cases h
    exact lv_iadd hexec hb hdg (k H locs ls' hDy hS hl (a_vcons (v := .inl _) trivial (a_vtl (a_vtl hv))) (fun _ _ => rfl))
  | isub =>
    obtain ⟨x, y, t, rfl, h⟩ := a_p2_i h
    cases h
    exact lv_isub hexec hb hdg (k H locs ls' hDy hS hl (a_vcons (v := .inl _) trivial (a_vtl (a_vtl hv))) (fun _ _ => rfl))
  | imul =>
    obtain ⟨x, y, t, rfl, h⟩ := a_p2_i h
    cases h
    exact lv_imul hexec hb hdg (k H locs ls' hDy hS hl (a_vcons (v := .inl _) trivial (a_vtl (a_vtl hv))) (fun _ _ => rfl))
  | iand =>
    obtain ⟨x, y, t, rfl, h⟩ := a_p2_i h
    cases h
    exact lv_iand hexec hb hdg (k H locs ls' hDy hS hl (a_vcons (v := .inl _) trivial (a_vtl (a_vtl hv))) (fun _ _ => rfl))
  | idiv =>
    obtain ⟨x, y, t, rfl, h⟩ := a_p2_i h
    obtain ⟨hy, h⟩ := a_if_i h
    cases h
    exact lv_idiv hexec hb hdg hy (k H locs ls' hDy hS hl (a_vcons (v := .inl _) trivial (a_vtl (a_vtl hv))) (fun _ _ => rfl))
  | irem =>
    obtain ⟨x, y, t, rfl, h⟩ := a_p2_i h
    obtain ⟨hy, h⟩ := a_if_i h
    cases h
    exact lv_irem hexec hb hdg hy (k H locs ls' hDy hS hl (a_vcons (v := .inl _) trivial (a_vtl (a_vtl hv))) (fun _ _ => rfl))
  | dup =>
    obtain ⟨v, t, rfl, h⟩ := a_p0_i h
    cases h
    exact lv_dup hexec hb hdg (a_cv_cat _ v) (k H locs ls' hDy hS hl (a_vcons (a_vhd hv) hv) (fun _ _ => rfl))
  | dup2 =>
    obtain ⟨v, u, t, rfl, h⟩ := a_pv_i h
    cases h
    exact lv_dup2_11 hexec hb hdg (a_cv_cat _ v) (a_cv_cat _ u) (k H locs ls' hDy hS hl (a_vcons (a_vhd hv) (a_vcons (a_vhd (a_vtl hv)) hv)) (fun _ _ => rfl))
  | pop =>
    obtain ⟨v, t, rfl, h⟩ := a_p0_i h
    cases h
    exact lv_pop hexec hb hdg (a_cv_cat _ v) (k H locs ls' hDy hS hl (a_vtl hv) (fun _ _ => rfl))
  | goto o =>
    cases h
    exact lv_goto hexec hb hdg (of_decide_eq_true hc2) (k H locs ls' hDy hS hl hv (fun _ _ => rfl))
  | ifCond cnd o =>
    obtain ⟨x, t, rfl, h⟩ := a_p1_i h
    cases h
    have ht := of_decide_eq_true hc2
    have kk := k H locs ls' hDy hS hl (a_vtl hv) (fun _ _ => rfl)
    cases cnd with
    | eq => exact lv_if_eq hexec hb hdg ht (fun z => by rwa [if_pos (by exact decide_eq_true z)] at kk) (fun z => by rwa [if_neg (by simpa [a_cc] using z)] at kk)
    | ne => exact lv_if_ne hexec hb hdg ht (fun z => by rwa [if_pos (by exact decide_eq_true z)] at kk) (fun z => by rwa [if_neg (by simpa [a_cc] using z)] at kk)
    | lt => exact lv_if_lt hexec hb hdg ht (fun z => by rwa [if_pos (by exact decide_eq_true z)] at kk) (fun z => by rwa [if_neg (by simpa [a_cc] using z)] at kk)
    | ge => exact lv_if_ge hexec hb hdg ht (fun z => by rwa [if_pos (by exact decide_eq_true z)] at kk) (fun z => by rwa [if_neg (by simpa [a_cc] using z)] at kk)
    | gt => exact lv_if_gt hexec hb hdg ht (fun z => by rwa [if_pos (by exact decide_eq_true z)] at kk) (fun z => by rwa [if_neg (by simpa [a_cc] using z)] at kk)
    | le => exact lv_if_le hexec hb hdg ht (fun z => by rwa [if_pos (by exact decide_eq_true z)] at kk) (fun z => by rwa [if_neg (by simpa [a_cc] using z)] at kk)
  | if_icmp cnd o =>
    obtain ⟨x, y, t, rfl, h⟩ := a_p2_i h
    cases h
    have ht := of_decide_eq_true hc2
    have kk := k H locs ls' hDy hS hl (a_vtl (a_vtl hv)) (fun _ _ => rfl)
    cases cnd with
    | eq => exact lv_icmp_eq hexec hb hdg ht (fun z => by rwa [if_pos (by exact decide_eq_true z)] at kk) (fun z => by rwa [if_neg (by simpa [a_cc] using z)] at kk)
    | ne => exact lv_icmp_ne hexec hb hdg ht (fun z => by rwa [if_pos (by exact decide_eq_true z)] at kk) (fun z => by rwa [if_neg (by simpa [a_cc] using z)] at kk)
    | lt => exact lv_icmp_lt hexec hb hdg ht (fun z => by rwa [if_pos (by exact decide_eq_true z)] at kk) (fun z => by rwa [if_neg (by simpa [a_cc] using z)] at kk)
    | ge => exact lv_icmp_ge hexec hb hdg ht (fun z => by rwa [if_pos (by exact decide_eq_true z)] at kk) (fun z => by rwa [if_neg (by simpa [a_cc] using z)] at kk)
    | gt => exact lv_icmp_gt hexec hb hdg ht (fun z => by rwa [if_pos (by exact decide_eq_true z)] at kk) (fun z => by rwa [if_neg (by simpa [a_cc] using z)] at kk)
    | le => exact lv_icmp_le hexec hb hdg ht (fun z => by rwa [if_pos (by exact decide_eq_true z)] at kk) (fun z => by rwa [if_neg (by simpa [a_cc] using z)] at kk)
  | tableswitch dflt lo hi offs =>
    obtain ⟨x, t, rfl, h⟩ := a_p1_i h
    obtain ⟨⟨⟨z1, z2⟩, z3⟩, h⟩ := a_if_i h
    cases h
    have kk := k H locs ls' hDy hS hl (a_vtl hv) (fun _ _ => rfl)
    by_cases ho : x.toInt < lo ∨ hi < x.toInt
    · rw [a_ts, if_pos ho] at kk
      exact lv_tableOut hexec hb hdg ho (by unfold a_tg; omega) kk
    · rw [a_ts, if_neg ho] at kk
      have hsz : (x.toInt - lo).toNat < offs.size := by
        rcases z3 with q | q | q
        · exact absurd (Or.inl q) ho
        · exact absurd (Or.inr q) ho
        · exact q
      have hget : offs[(x.toInt - lo).toNat]? = some offs[(x.toInt - lo).toNat] := Array.getElem?_eq_getElem hsz
      rw [hget] at kk
      dsimp only at kk
      have hnn := z2 offs[(x.toInt - lo).toNat] (by simp)
      exact lv_tableIn hexec hb hdg (fun q => ho (Or.inl q)) (fun q => ho (Or.inr q)) hget (by unfold a_tg; omega) kk
  | lookupswitch dflt ps =>
    obtain ⟨x, t, rfl, h⟩ := a_p1_i h
    obtain ⟨z1, h⟩ := a_if_i h
    cases h
    exact lv_lookup hexec hb hdg hc2 rfl (by unfold a_lk a_tg; omega) (k H locs ls' hDy hS hl (a_vtl hv) (fun _ _ => rfl))
  | getfield idx =>
    obtain ⟨c1, d1, t, rfl, h⟩ := a_pr_i h
    obtain ⟨hkd, h⟩ := a_if_i h
    have hvr : a_vr c1 d1 := a_vhd hv
    have hc41 : c1 < 41 := a_kd_3 (by rw [hkd]; exact Nat.zero_le _)
    cases hq : vwCl[a]? with
    | none => simp only [hq] at hc2; cases hc2
    | some q =>
      obtain ⟨C, T, N⟩ := q
      simp only [hq, Bool.and_eq_true, decide_eq_true_eq] at hc2
      obtain ⟨hbN, hw⟩ := hc2
      have hws := a_ws_get g m hvr hc41
      have hcell : a_cell g m c1 d1 = .inr (a, (List.range (a_nf c1)).map (a_fv g.2.2.2 m c1 d1)) := by simp only [a_cell, hkd]
      rw [hcell] at hws
      have hfs : ((List.range (a_nf c1)).map (a_fv g.2.2.2 m c1 d1))[b]? = some (a_fv g.2.2.2 m c1 d1 b) := by
        rw [List.getElem?_map, List.getElem?_range (by rw [a_kd_nf hkd hq]; exact hbN)]
        rfl
      refine va_get (D := D) hexec hb hts (a_cls hq).1 hown hSt.1 hDy.1 (a_ri c1 d1) hws hq b hbN (hts _ (a_wsp hw)) (fun _ h9 => h9) hfs hdg ?_
      cases hfr : a_fr c1 d1 b with
      | none =>
        rw [hfr] at h
        cases h
        rw [a_fv, hfr]
        exact k H locs ls' hDy hS hl (a_vcons (v := .inl _) trivial (a_vtl hv)) (fun _ _ => rfl)
      | some r =>
        obtain ⟨r1, r2⟩ := r
        rw [hfr] at h
        cases h
        rw [a_fv, hfr]
        exact k H locs ls' hDy hS hl (a_vcons (v := .inr (r1, r2)) (a_ft_ok hvr hc41 hfr) (a_vtl hv)) (fun _ _ => rfl)
  | putfield idx =>
    obtain ⟨x, c1, d1, t, rfl, h⟩ := a_p1r_i h
    obtain ⟨⟨⟨hkd, hfr⟩, hbool⟩, h⟩ := a_if_i h
    cases h
    have hvr : a_vr c1 d1 := a_vhd (a_vtl hv)
    have hc41 : c1 < 41 := a_kd_3 (by rw [hkd]; exact Nat.zero_le _)
    cases hq : vwCl[a]? with
    | none => simp only [hq] at hc2; cases hc2
    | some q =>
      obtain ⟨C, T, N⟩ := q
      simp only [hq, Bool.and_eq_true, decide_eq_true_eq, Bool.not_eq_true'] at hc2
      obtain ⟨⟨⟨hbN, hw⟩, hfin⟩, hty⟩ := hc2
      have hws := a_ws_get g m hvr hc41
      have hcell : a_cell g m c1 d1 = .inr (a, (List.range (a_nf c1)).map (a_fv g.2.2.2 m c1 d1)) := by simp only [a_cell, hkd]
      have hcell' : a_cell g (a_up m c1 d1 b x) c1 d1 = .inr (a, (List.range (a_nf c1)).map (a_fv g.2.2.2 (a_up m c1 d1 b x) c1 d1)) := by simp only [a_cell, hkd]
      rw [hcell] at hws
      obtain ⟨hin, hnm, ty0, hty0⟩ := a_cls hq
      have hnf := a_kd_nf hkd hq
      have hset : (a_ws g m).set (a_ri c1 d1) (g.2.2.2 c1 d1, .inr (a, ((List.range (a_nf c1)).map (a_fv g.2.2.2 m c1 d1)).set b (.int x))) = a_ws g (a_up m c1 d1 b x) := by
        refine a_ws_set g hvr hc41 (fun c' b' hh => a_up_off m c1 d1 b x c' b' hh) ?_
        rw [hcell', a_fv_up _ _ _ _ _ _ _ hfr]
      have hnar : narrow (if a_bf a b = true then FieldType.boolean else FieldType.int) (.int x) = .int x ∧ fits (if a_bf a b = true then FieldType.boolean else FieldType.int) (.int x) = true := by
        by_cases hbf : a_bf a b = true
        · rw [if_pos hbf]
          rcases hbool hbf with rfl | rfl
          · exact ⟨by decide, by decide⟩
          · exact ⟨by decide, by decide⟩
        · rw [if_neg hbf]
          exact ⟨rfl, rfl⟩
      refine va_put (D := D) (v := .int x) hexec hb hts hin ty0 hty0 hnm hown hSt.1 hDy.1 hDy.2 hS (a_ri c1 d1) hws hq b hbN (hts _ (a_wsp hw)) (fun _ h9 => h9) hfin hty hnar.1 hnar.2 (by rw [List.length_map, List.length_range, hnf]; exact hbN) hdg (fun H1 locs1 hP1 hD1 hS1 => ?_)
      rw [hset] at hP1 hD1
      exact k H1 locs1 ls' ⟨hP1, hD1⟩ hS1 hl (a_vtl (a_vtl hv)) (fun c' hc' => a_up_c _ _ _ _ _ _ (by omega))
  | getstatic idx =>
    cases h
    simp only [Bool.and_eq_true, Bool.or_eq_true, decide_eq_true_eq] at hc2
    obtain ⟨⟨h41, h46⟩, hw⟩ := hc2
    have hkk := k H locs ls' hDy hS hl (a_vcons (v := .inr (a, 0)) (Or.inr ⟨by omega, by omega, rfl⟩) hv) (fun _ _ => rfl)
    rcases hw with hw | hw
    · exact va_gets hexec hb (hSt.2.1 a h41 h46).1 hS hown (hts _ (a_wsp hw)) (fun _ h9 => h9) hdg hkk
    · exact va_getsN hexec hb (hSt.2.1 a h41 h46).1 hS hown (va_Nw.use rfl (hSt.2.2.2 _ (a_nwp hw))) (fun _ h9 => h9) hdg hkk
  | iaload =>
    obtain ⟨i, c1, d1, t, rfl, h⟩ := a_p1r_i h
    obtain ⟨⟨htag, hin⟩, h⟩ := a_if_i h
    cases h
    have hvr : a_vr c1 d1 := a_vhd (a_vtl hv)
    have hkk := k H locs ls' hDy hS hl (a_vcons (v := .inl (m c1 d1 i.toNatClampNeg)) trivial (a_vtl (a_vtl hv))) (fun _ _ => rfl)
    rcases htag with ht | ht | ht
    · have hc41 : c1 < 41 := a_kd_3 (by omega)
      have hws := a_ws_get g m hvr hc41
      have hcell : a_cell g m c1 d1 = .inl (g.1, (a_kd c1).2, .inl (m c1 d1)) := by simp only [a_cell, ht]
      rw [hcell] at hws
      exact va_iald (D := D) hexec hb hSt.1 hDy.1 (a_ri c1 d1) 0 hws rfl (a_in_ln (by omega) hin) hdg hkk
    · obtain ⟨h41, h46⟩ := a_kd_4 ht
      have hd : d1 = 0 := by rcases hvr with ⟨q, -⟩ | ⟨-, -, q⟩ <;> omega
      subst hd
      exact va_ti hexec hb (hSt.2.1 c1 h41 h46).2 hS (a_in_ln (by omega) hin) rfl hdg hkk
    · have hc46 := a_kd_5 ht
      subst hc46
      have hd : d1 = 0 := by rcases hvr with ⟨q, -⟩ | ⟨-, -, q⟩ <;> omega
      subst hd
      obtain ⟨x1, x2, x3⟩ := hSt.2.2.1
      exact va_sld hexec hb x1 (Nat.lt_of_lt_of_le x2 x3) (Nat.not_le.mpr x2) hS (a_in_vp hin) hdg hkk
  | baload =>
    obtain ⟨i, c1, d1, t, rfl, h⟩ := a_p1r_i h
    obtain ⟨⟨ht, hin⟩, h⟩ := a_if_i h
    cases h
    have hvr : a_vr c1 d1 := a_vhd (a_vtl hv)
    have hkk := k H locs ls' hDy hS hl (a_vcons (v := .inl (m c1 d1 i.toNatClampNeg)) trivial (a_vtl (a_vtl hv))) (fun _ _ => rfl)
    have hc41 : c1 < 41 := a_kd_3 (by omega)
    have hws := a_ws_get g m hvr hc41
    have hcell : a_cell g m c1 d1 = .inl (g.2.1, (a_kd c1).2, .inl (m c1 d1)) := by simp only [a_cell, ht]
    rw [hcell] at hws
    exact va_zald (D := D) hexec hb hSt.1 hDy.1 (a_ri c1 d1) 1 hws rfl (a_in_ln (by omega) hin) hdg hkk
  | aaload =>
    obtain ⟨i, c1, d1, t, rfl, h⟩ := a_p1r_i h
    obtain ⟨⟨ht, hin⟩, h⟩ := a_if_i h
    cases h
    have hvr : a_vr c1 d1 := a_vhd (a_vtl hv)
    have hc41 : c1 < 41 := a_kd_3 (by omega)
    have hvp := a_in_ln (by omega) hin
    have hlt : i.toNatClampNeg < (a_kd c1).2 := Nat.not_le.mp fun q => hvp (Or.inr q)
    have hel := (show ∀ c, c < 47 → (a_kd c).1 = 3 → ∀ j, j < 6 → j < (a_kd c).2 → a_el c j < 10 by decide +kernel) c1 (by omega) ht i.toNatClampNeg (by
      have := (show ∀ c, c < 47 → (a_kd c).1 = 3 → (a_kd c).2 ≤ 6 by decide +kernel) c1 (by omega) ht
      omega) hlt
    have hkk := k H locs ls' hDy hS hl (a_vcons (v := .inr (0, a_el c1 i.toNatClampNeg)) (Or.inl ⟨by omega, hel⟩) (a_vtl (a_vtl hv))) (fun _ _ => rfl)
    have hws := a_ws_get g m hvr hc41
    have hcell : a_cell g m c1 d1 = .inl (g.2.2.1, (a_kd c1).2, .inr (.inr (.inr (.inr (fun j => some (g.2.2.2 0 (a_el c1 j))))))) := by simp only [a_cell, ht]
    rw [hcell] at hws
    exact va_aldq (D := D) hexec hb hSt.1 hDy.1 (a_ri c1 d1) 2 hws rfl hvp hdg hkk
  | iastore =>
    obtain ⟨x, i, c1, d1, t, rfl, h⟩ := a_p2r_i h
    obtain ⟨⟨ht, hin⟩, h⟩ := a_if_i h
    cases h
    have hvr : a_vr c1 d1 := a_vhd (a_vtl (a_vtl hv))
    have hc41 : c1 < 41 := a_kd_3 (by omega)
    have hws := a_ws_get g m hvr hc41
    have hcell : a_cell g m c1 d1 = .inl (g.1, (a_kd c1).2, .inl (m c1 d1)) := by simp only [a_cell, ht]
    have hset : (a_ws g m).set (a_ri c1 d1) (g.2.2.2 c1 d1, .inl (g.1, (a_kd c1).2, .inl (upd (m c1 d1) i.toNatClampNeg x))) = a_ws g (a_up m c1 d1 i.toNatClampNeg x) := by
      refine a_ws_set g hvr hc41 (fun c' b' hh => a_up_off m c1 d1 _ x c' b' hh) ?_
      simp only [a_cell, ht, a_up_row]
    rw [hcell] at hws
    refine va_iast (D := D) hexec hb hSt.1 hDy.1 hDy.2 hS (a_ri c1 d1) 0 hws rfl (a_in_ln (by omega) hin) hdg (fun H1 locs1 hP1 hD1 hS1 => ?_)
    rw [hset] at hP1 hD1
    exact k H1 locs1 ls' ⟨hP1, hD1⟩ hS1 hl (a_vtl (a_vtl (a_vtl hv))) (fun c' hc' => a_up_c _ _ _ _ _ _ (by omega))
  | bastore =>
    obtain ⟨x, i, c1, d1, t, rfl, h⟩ := a_p2r_i h
    obtain ⟨⟨⟨ht, hin⟩, hx⟩, h⟩ := a_if_i h
    cases h
    have hvr : a_vr c1 d1 := a_vhd (a_vtl (a_vtl hv))
    have hc41 : c1 < 41 := a_kd_3 (by omega)
    have hws := a_ws_get g m hvr hc41
    have hcell : a_cell g m c1 d1 = .inl (g.2.1, (a_kd c1).2, .inl (m c1 d1)) := by simp only [a_cell, ht]
    have hnx : vp_nar .boolean x = x := by rcases hx with rfl | rfl <;> decide
    have hset : (a_ws g m).set (a_ri c1 d1) (g.2.2.2 c1 d1, .inl (g.2.1, (a_kd c1).2, .inl (upd (m c1 d1) i.toNatClampNeg (vp_nar .boolean x)))) = a_ws g (a_up m c1 d1 i.toNatClampNeg x) := by
      refine a_ws_set g hvr hc41 (fun c' b' hh => a_up_off m c1 d1 _ x c' b' hh) ?_
      simp only [a_cell, ht, a_up_row, hnx]
    rw [hcell] at hws
    refine va_zast (D := D) hexec hb hSt.1 hDy.1 hDy.2 hS (a_ri c1 d1) 1 hws rfl (a_in_ln (by omega) hin) hdg (fun H1 locs1 hP1 hD1 hS1 => ?_)
    rw [hset] at hP1 hD1
    exact k H1 locs1 ls' ⟨hP1, hD1⟩ hS1 hl (a_vtl (a_vtl (a_vtl hv))) (fun c' hc' => a_up_c _ _ _ _ _ _ (by omega))
  | arraylength =>
    obtain ⟨c1, d1, t, rfl, h⟩ := a_pr_i h
    obtain ⟨ht, h⟩ := a_if_i h
    cases h
    have hvr : a_vr c1 d1 := a_vhd hv
    have hkk := k H locs ls' hDy hS hl (a_vcons (v := .inl (nI (a_ln m c1))) trivial (a_vtl hv)) (fun _ _ => rfl)
    rcases ht with ht | ht
    · have hc41 : c1 < 41 := a_kd_3 (by omega)
      have hws := a_ws_get g m hvr hc41
      have hcell : a_cell g m c1 d1 = .inl (g.1, (a_kd c1).2, .inl (m c1 d1)) := by simp only [a_cell, ht]
      rw [hcell] at hws
      rw [a_ln, if_neg (by omega)] at hkk
      exact va_alen (D := D) hexec hb hSt.1 hDy.1 (a_ri c1 d1) 0 hws rfl rfl hdg hkk
    · have hc46 := a_kd_5 ht
      subst hc46
      have hd : d1 = 0 := by rcases hvr with ⟨q, -⟩ | ⟨-, -, q⟩ <;> omega
      subst hd
      obtain ⟨x1, x2, x3⟩ := hSt.2.2.1
      exact va_slen hexec hb x1 (Nat.lt_of_lt_of_le x2 x3) (Nat.not_le.mpr x2) hS hdg hkk
  | invokestatic idx =>
    simp only [Bool.and_eq_true, decide_eq_true_eq] at hc2
    obtain ⟨hdep, hc2⟩ := hc2
    change (if a = 1000 then _ else _) = some _ at h
    by_cases ha : a = 1000
    · rw [if_pos ha] at h hc2
      obtain ⟨x, y, t, rfl, h⟩ := a_p2_i h
      obtain ⟨hlen, h⟩ := a_if_i h
      cases h
      have hcat : ((t.map (a_cv g.2.2.2)).map fun v => v.category).sum ≤ 8 := by
        have : ∀ t : List aV, ((t.map (a_cv g.2.2.2)).map fun v => v.category).sum = t.length := by
          intro t
          induction t with
          | nil => rfl
          | cons v t ih => rw [List.map_cons, List.map_cons, List.sum_cons, ih, a_cv_cat, List.length_cons]; omega
        rw [this]; exact hlen
      refine va_mmin hexec hb (hml.trans hl.1.symm) hown (hts _ (a_wsp hc2)) (hts _ a_wmin1) (hts _ a_wmin2) (hts _ a_wmin3) (by omega) (by omega) hR.2.2.1 hR.2.2.2 hdg ?_
      exact k H locs ls' hDy hS hl (a_vcons (v := .inl _) trivial (a_vtl (a_vtl hv))) (fun _ _ => rfl)
    · rw [if_neg ha] at h hc2
      by_cases ha1 : a = 1001
      · rw [if_pos ha1] at h hc2
        obtain ⟨n, dp, c1, b1, sp, c0, b0, rfl, h⟩ := a_pcp_i h
        obtain ⟨⟨⟨t0, t1⟩, ⟨g1, g2, g3⟩, g4, g5⟩, h⟩ := a_if_i h
        cases h
        have hv1 : a_vr c1 b1 := a_vhd (a_vtl (a_vtl hv))
        have hv0 : a_vr c0 b0 := a_vhd (a_vtl (a_vtl (a_vtl (a_vtl hv))))
        have hc1 : c1 < 41 := a_kd_3 (by omega)
        have hc0 : c0 < 41 := a_kd_3 (by omega)
        have hw1 := a_ws_get g m hv1 hc1
        have hw0 := a_ws_get g m hv0 hc0
        have hcell1 : a_cell g m c1 b1 = .inl (g.1, (a_kd c1).2, .inl (m c1 b1)) := by simp only [a_cell, t1]
        have hcell0 : a_cell g m c0 b0 = .inl (g.1, (a_kd c0).2, .inl (m c0 b0)) := by simp only [a_cell, t0]
        have hset : (a_ws g m).set (a_ri c1 b1) (g.2.2.2 c1 b1, .inl (g.1, (a_kd c1).2, .inl (va_cpy (m c0 b0) (m c1 b1) sp.toNatClampNeg dp.toNatClampNeg n.toNatClampNeg))) = a_ws g (fun c b j => if c = c1 ∧ b = b1 then va_cpy (m c0 b0) (m c1 b1) sp.toNatClampNeg dp.toNatClampNeg n.toNatClampNeg j else m c b j) := by
          refine a_ws_set g hv1 hc1 (fun c' b' hh => ?_) ?_
          · funext j
            show (if c' = c1 ∧ b' = b1 then _ else _) = _
            rw [if_neg (fun q => hh.elim (fun z => z q.1) (fun z => z q.2))]
          · simp only [a_cell, t1, and_self, if_true]
        rw [hcell1] at hw1
        rw [hcell0] at hw0
        refine va_copyi (D := D) (ty := .int) hexec hb (hml.trans hl.1.symm) hown (hts _ (a_wsp hc2)) (hts _ a_wcpy1) (hts _ a_wcpy2) (hts _ a_wcpy3) hSt.1 hDy.1 hDy.2 hS (a_ri c0 b0) (a_ri c1 b1) 0 0 hw0 hw1 rfl rfl rfl g1 g2 g3 g4 g5 (fun _ _ => rfl) (by omega) (by show 0 + (7 + 11) ≤ _; omega) hdg (fun H1 locs1 hP1 hD1 hS1 => ?_)
        rw [hset] at hP1 hD1
        refine k H1 locs1 ls' ⟨hP1, hD1⟩ hS1 hl (fun v h9 => absurd h9 List.not_mem_nil) (fun c' hc' => ?_)
        funext b' j
        show (if c' = c1 ∧ b' = b1 then _ else _) = _
        rw [if_neg (fun q => by omega)]
      · rw [if_neg ha1] at h
        cases h
  | _ => exact absurd h (fun q => by cases (show (none : Option aS) = some _ from q))
end SND
end
section
/-! every row of code is as the checker wants it -/
theorem a_k0 : (a_c0.all fun e => a_chk a_m0 e.1 e.2) = true := by decide +kernel
theorem a_k1 : (a_c1.all fun e => a_chk a_m1 e.1 e.2) = true := by decide +kernel
theorem a_k2 : (a_c2.all fun e => a_chk a_m2 e.1 e.2) = true := by decide +kernel
theorem a_k3 : (a_c3.all fun e => a_chk a_m3 e.1 e.2) = true := by decide +kernel
theorem a_k4 : (a_c4.all fun e => a_chk a_m4 e.1 e.2) = true := by decide +kernel
theorem a_k5_0 : (a_c5_0.all fun e => a_chk a_m5 e.1 e.2) = true := by decide +kernel
theorem a_k5_1 : (a_c5_1.all fun e => a_chk a_m5 e.1 e.2) = true := by decide +kernel
theorem a_k5 : (a_c5.all fun e => a_chk a_m5 e.1 e.2) = true := by
  unfold a_c5
  exact (by
  rw [List.all_append, Bool.and_eq_true]
  exact ⟨a_k5_0, a_k5_1⟩)
theorem a_k6 : (a_c6.all fun e => a_chk a_m6 e.1 e.2) = true := by decide +kernel
theorem a_k7_0 : (a_c7_0.all fun e => a_chk a_m7 e.1 e.2) = true := by decide +kernel
theorem a_k7_1 : (a_c7_1.all fun e => a_chk a_m7 e.1 e.2) = true := by decide +kernel
theorem a_k7 : (a_c7.all fun e => a_chk a_m7 e.1 e.2) = true := by
  unfold a_c7
  exact (by
  rw [List.all_append, Bool.and_eq_true]
  exact ⟨a_k7_0, a_k7_1⟩)
theorem a_k8 : (a_c8.all fun e => a_chk a_m8 e.1 e.2) = true := by decide +kernel
theorem a_k9 : (a_c9.all fun e => a_chk a_m9 e.1 e.2) = true := by decide +kernel
theorem a_k10 : (a_c10.all fun e => a_chk a_m10 e.1 e.2) = true := by decide +kernel
theorem a_k11 : (a_c11.all fun e => a_chk a_m11 e.1 e.2) = true := by decide +kernel
theorem a_k12 : (a_c12.all fun e => a_chk a_m12 e.1 e.2) = true := by decide +kernel
theorem a_k13 : (a_c13.all fun e => a_chk a_m13 e.1 e.2) = true := by decide +kernel
theorem a_k14_0 : (a_c14_0.all fun e => a_chk a_m14 e.1 e.2) = true := by decide +kernel
theorem a_k14_1 : (a_c14_1.all fun e => a_chk a_m14 e.1 e.2) = true := by decide +kernel
theorem a_k14 : (a_c14.all fun e => a_chk a_m14 e.1 e.2) = true := by
  unfold a_c14
  exact (by
  rw [List.all_append, Bool.and_eq_true]
  exact ⟨a_k14_0, a_k14_1⟩)
theorem a_k15 : (a_c15.all fun e => a_chk a_m15 e.1 e.2) = true := by decide +kernel
theorem a_k16 : (a_c16.all fun e => a_chk a_m16 e.1 e.2) = true := by decide +kernel
theorem a_k17 : (a_c17.all fun e => a_chk a_m17 e.1 e.2) = true := by decide +kernel
theorem a_k18 : (a_c18.all fun e => a_chk a_m18 e.1 e.2) = true := by decide +kernel
theorem a_k19 : (a_c19.all fun e => a_chk a_m19 e.1 e.2) = true := by decide +kernel
theorem a_k20 : (a_c20.all fun e => a_chk a_m20 e.1 e.2) = true := by decide +kernel
theorem a_k21_0 : (a_c21_0.all fun e => a_chk a_m21 e.1 e.2) = true := by decide +kernel
theorem a_k21_1 : (a_c21_1.all fun e => a_chk a_m21 e.1 e.2) = true := by decide +kernel
theorem a_k21 : (a_c21.all fun e => a_chk a_m21 e.1 e.2) = true := by
  unfold a_c21
  exact (by
  rw [List.all_append, Bool.and_eq_true]
  exact ⟨a_k21_0, a_k21_1⟩)
theorem a_k22_0 : (a_c22_0.all fun e => a_chk a_m22 e.1 e.2) = true := by decide +kernel
theorem a_k22_1 : (a_c22_1.all fun e => a_chk a_m22 e.1 e.2) = true := by decide +kernel
theorem a_k22 : (a_c22.all fun e => a_chk a_m22 e.1 e.2) = true := by
  unfold a_c22
  exact (by
  rw [List.all_append, Bool.and_eq_true]
  exact ⟨a_k22_0, a_k22_1⟩)
theorem a_k23 : (a_c23.all fun e => a_chk a_m23 e.1 e.2) = true := by decide +kernel
theorem a_k24 : (a_c24.all fun e => a_chk a_m24 e.1 e.2) = true := by decide +kernel
theorem a_k25_0 : (a_c25_0.all fun e => a_chk a_m25 e.1 e.2) = true := by decide +kernel
theorem a_k25_1 : (a_c25_1.all fun e => a_chk a_m25 e.1 e.2) = true := by decide +kernel
theorem a_k25 : (a_c25.all fun e => a_chk a_m25 e.1 e.2) = true := by
  unfold a_c25
  exact (by
  rw [List.all_append, Bool.and_eq_true]
  exact ⟨a_k25_0, a_k25_1⟩)
theorem a_k26 : (a_c26.all fun e => a_chk a_m26 e.1 e.2) = true := by decide +kernel
theorem a_k27 : (a_c27.all fun e => a_chk a_m27 e.1 e.2) = true := by decide +kernel
theorem a_k28 : (a_c28.all fun e => a_chk a_m28 e.1 e.2) = true := by decide +kernel
theorem a_k29 : (a_c29.all fun e => a_chk a_m29 e.1 e.2) = true := by decide +kernel
theorem a_k30 : (a_c30.all fun e => a_chk a_m30 e.1 e.2) = true := by decide +kernel
theorem a_k31_0 : (a_c31_0.all fun e => a_chk a_m31 e.1 e.2) = true := by decide +kernel
theorem a_k31_1 : (a_c31_1.all fun e => a_chk a_m31 e.1 e.2) = true := by decide +kernel
theorem a_k31 : (a_c31.all fun e => a_chk a_m31 e.1 e.2) = true := by
  unfold a_c31
  exact (by
  rw [List.all_append, Bool.and_eq_true]
  exact ⟨a_k31_0, a_k31_1⟩)
theorem a_k32_0 : (a_c32_0.all fun e => a_chk a_m32 e.1 e.2) = true := by decide +kernel
theorem a_k32_1 : (a_c32_1.all fun e => a_chk a_m32 e.1 e.2) = true := by decide +kernel
theorem a_k32_2 : (a_c32_2.all fun e => a_chk a_m32 e.1 e.2) = true := by decide +kernel
theorem a_k32 : (a_c32.all fun e => a_chk a_m32 e.1 e.2) = true := by
  unfold a_c32
  exact (by
  rw [List.all_append, Bool.and_eq_true]
  exact ⟨a_k32_0, (by
  rw [List.all_append, Bool.and_eq_true]
  exact ⟨a_k32_1, a_k32_2⟩)⟩)
theorem a_k33_0 : (a_c33_0.all fun e => a_chk a_m33 e.1 e.2) = true := by decide +kernel
theorem a_k33_1 : (a_c33_1.all fun e => a_chk a_m33 e.1 e.2) = true := by decide +kernel
theorem a_k33 : (a_c33.all fun e => a_chk a_m33 e.1 e.2) = true := by
  unfold a_c33
  exact (by
  rw [List.all_append, Bool.and_eq_true]
  exact ⟨a_k33_0, a_k33_1⟩)
theorem a_k34 : (a_c34.all fun e => a_chk a_m34 e.1 e.2) = true := by decide +kernel
theorem a_k35 : (a_c35.all fun e => a_chk a_m35 e.1 e.2) = true := by decide +kernel
theorem a_k36 : (a_c36.all fun e => a_chk a_m36 e.1 e.2) = true := by decide +kernel
theorem a_k37_0 : (a_c37_0.all fun e => a_chk a_m37 e.1 e.2) = true := by decide +kernel
theorem a_k37_1 : (a_c37_1.all fun e => a_chk a_m37 e.1 e.2) = true := by decide +kernel
theorem a_k37 : (a_c37.all fun e => a_chk a_m37 e.1 e.2) = true := by
  unfold a_c37
  exact (by
  rw [List.all_append, Bool.and_eq_true]
  exact ⟨a_k37_0, a_k37_1⟩)
theorem a_k38_0 : (a_c38_0.all fun e => a_chk a_m38 e.1 e.2) = true := by decide +kernel
theorem a_k38_1 : (a_c38_1.all fun e => a_chk a_m38 e.1 e.2) = true := by decide +kernel
theorem a_k38 : (a_c38.all fun e => a_chk a_m38 e.1 e.2) = true := by
  unfold a_c38
  exact (by
  rw [List.all_append, Bool.and_eq_true]
  exact ⟨a_k38_0, a_k38_1⟩)
theorem a_k39 : (a_c39.all fun e => a_chk a_m39 e.1 e.2) = true := by decide +kernel
theorem a_k40 : (a_c40.all fun e => a_chk a_m40 e.1 e.2) = true := by decide +kernel
theorem a_k41 : (a_c41.all fun e => a_chk a_m41 e.1 e.2) = true := by decide +kernel
theorem a_k42 : (a_c42.all fun e => a_chk a_m42 e.1 e.2) = true := by decide +kernel
theorem a_k43 : (a_c43.all fun e => a_chk a_m43 e.1 e.2) = true := by decide +kernel
theorem a_k44_0 : (a_c44_0.all fun e => a_chk a_m44 e.1 e.2) = true := by decide +kernel
theorem a_k44_1 : (a_c44_1.all fun e => a_chk a_m44 e.1 e.2) = true := by decide +kernel
theorem a_k44 : (a_c44.all fun e => a_chk a_m44 e.1 e.2) = true := by
  unfold a_c44
  exact (by
  rw [List.all_append, Bool.and_eq_true]
  exact ⟨a_k44_0, a_k44_1⟩)
theorem a_k45 : (a_c45.all fun e => a_chk a_m45 e.1 e.2) = true := by decide +kernel
theorem a_k46 : (a_c46.all fun e => a_chk a_m46 e.1 e.2) = true := by decide +kernel
theorem a_k47_0 : (a_c47_0.all fun e => a_chk a_m47 e.1 e.2) = true := by decide +kernel
theorem a_k47_1 : (a_c47_1.all fun e => a_chk a_m47 e.1 e.2) = true := by decide +kernel
theorem a_k47 : (a_c47.all fun e => a_chk a_m47 e.1 e.2) = true := by
  unfold a_c47
  exact (by
  rw [List.all_append, Bool.and_eq_true]
  exact ⟨a_k47_0, a_k47_1⟩)
theorem a_k48 : (a_c48.all fun e => a_chk a_m48 e.1 e.2) = true := by decide +kernel
theorem a_k49 : (a_c49.all fun e => a_chk a_m49 e.1 e.2) = true := by decide +kernel
theorem a_k50_0 : (a_c50_0.all fun e => a_chk a_m50 e.1 e.2) = true := by decide +kernel
theorem a_k50_1 : (a_c50_1.all fun e => a_chk a_m50 e.1 e.2) = true := by decide +kernel
theorem a_k50 : (a_c50.all fun e => a_chk a_m50 e.1 e.2) = true := by
  unfold a_c50
  exact (by
  rw [List.all_append, Bool.and_eq_true]
  exact ⟨a_k50_0, a_k50_1⟩)
theorem a_k51_0 : (a_c51_0.all fun e => a_chk a_m51 e.1 e.2) = true := by decide +kernel
theorem a_k51_1 : (a_c51_1.all fun e => a_chk a_m51 e.1 e.2) = true := by decide +kernel
theorem a_k51 : (a_c51.all fun e => a_chk a_m51 e.1 e.2) = true := by
  unfold a_c51
  exact (by
  rw [List.all_append, Bool.and_eq_true]
  exact ⟨a_k51_0, a_k51_1⟩)
theorem a_k52 : (a_c52.all fun e => a_chk a_m52 e.1 e.2) = true := by decide +kernel
theorem a_k53_0 : (a_c53_0.all fun e => a_chk a_m53 e.1 e.2) = true := by decide +kernel
theorem a_k53_1 : (a_c53_1.all fun e => a_chk a_m53 e.1 e.2) = true := by decide +kernel
theorem a_k53_2 : (a_c53_2.all fun e => a_chk a_m53 e.1 e.2) = true := by decide +kernel
theorem a_k53 : (a_c53.all fun e => a_chk a_m53 e.1 e.2) = true := by
  unfold a_c53
  exact (by
  rw [List.all_append, Bool.and_eq_true]
  exact ⟨a_k53_0, (by
  rw [List.all_append, Bool.and_eq_true]
  exact ⟨a_k53_1, a_k53_2⟩)⟩)
theorem a_k54_0 : (a_c54_0.all fun e => a_chk a_m54 e.1 e.2) = true := by decide +kernel
theorem a_k54_1 : (a_c54_1.all fun e => a_chk a_m54 e.1 e.2) = true := by decide +kernel
theorem a_k54 : (a_c54.all fun e => a_chk a_m54 e.1 e.2) = true := by
  unfold a_c54
  exact (by
  rw [List.all_append, Bool.and_eq_true]
  exact ⟨a_k54_0, a_k54_1⟩)
theorem a_k55_0 : (a_c55_0.all fun e => a_chk a_m55 e.1 e.2) = true := by decide +kernel
theorem a_k55_1 : (a_c55_1.all fun e => a_chk a_m55 e.1 e.2) = true := by decide +kernel
theorem a_k55 : (a_c55.all fun e => a_chk a_m55 e.1 e.2) = true := by
  unfold a_c55
  exact (by
  rw [List.all_append, Bool.and_eq_true]
  exact ⟨a_k55_0, a_k55_1⟩)
theorem a_k56 : (a_c56.all fun e => a_chk a_m56 e.1 e.2) = true := by decide +kernel
theorem a_k57 : (a_c57.all fun e => a_chk a_m57 e.1 e.2) = true := by decide +kernel
theorem a_k58 : (a_c58.all fun e => a_chk a_m58 e.1 e.2) = true := by decide +kernel
theorem a_k59 : (a_c59.all fun e => a_chk a_m59 e.1 e.2) = true := by decide +kernel
theorem a_k60 : (a_c60.all fun e => a_chk a_m60 e.1 e.2) = true := by decide +kernel
theorem a_k61 : (a_c61.all fun e => a_chk a_m61 e.1 e.2) = true := by decide +kernel
theorem a_k62 : (a_c62.all fun e => a_chk a_m62 e.1 e.2) = true := by decide +kernel
theorem a_k63 : (a_c63.all fun e => a_chk a_m63 e.1 e.2) = true := by decide +kernel
theorem a_k64 : (a_c64.all fun e => a_chk a_m64 e.1 e.2) = true := by decide +kernel
theorem a_k65 : (a_c65.all fun e => a_chk a_m65 e.1 e.2) = true := by decide +kernel
theorem a_k66 : (a_c66.all fun e => a_chk a_m66 e.1 e.2) = true := by decide +kernel
theorem a_k67 : (a_c67.all fun e => a_chk a_m67 e.1 e.2) = true := by decide +kernel
theorem a_k68 : (a_c68.all fun e => a_chk a_m68 e.1 e.2) = true := by decide +kernel
theorem a_k69 : (a_c69.all fun e => a_chk a_m69 e.1 e.2) = true := by decide +kernel
theorem a_k70 : (a_c70.all fun e => a_chk a_m70 e.1 e.2) = true := by decide +kernel
theorem a_k71 : (a_c71.all fun e => a_chk a_m71 e.1 e.2) = true := by decide +kernel
theorem a_k72 : (a_c72.all fun e => a_chk a_m72 e.1 e.2) = true := by decide +kernel
theorem a_k73 : (a_c73.all fun e => a_chk a_m73 e.1 e.2) = true := by decide +kernel
theorem a_k74_0 : (a_c74_0.all fun e => a_chk a_m74 e.1 e.2) = true := by decide +kernel
theorem a_k74_1 : (a_c74_1.all fun e => a_chk a_m74 e.1 e.2) = true := by decide +kernel
theorem a_k74_2 : (a_c74_2.all fun e => a_chk a_m74 e.1 e.2) = true := by decide +kernel
theorem a_k74 : (a_c74.all fun e => a_chk a_m74 e.1 e.2) = true := by
  unfold a_c74
  exact (by
  rw [List.all_append, Bool.and_eq_true]
  exact ⟨a_k74_0, (by
  rw [List.all_append, Bool.and_eq_true]
  exact ⟨a_k74_1, a_k74_2⟩)⟩)
theorem a_k75 : (a_c75.all fun e => a_chk a_m75 e.1 e.2) = true := by decide +kernel
theorem a_k76 : (a_c76.all fun e => a_chk a_m76 e.1 e.2) = true := by decide +kernel
theorem a_k77 : (a_c77.all fun e => a_chk a_m77 e.1 e.2) = true := by decide +kernel
theorem a_k78 : (a_c78.all fun e => a_chk a_m78 e.1 e.2) = true := by decide +kernel
theorem a_k79 : (a_c79.all fun e => a_chk a_m79 e.1 e.2) = true := by decide +kernel
theorem a_k80 : (a_c80.all fun e => a_chk a_m80 e.1 e.2) = true := by decide +kernel
theorem a_k81 : (a_c81.all fun e => a_chk a_m81 e.1 e.2) = true := by decide +kernel
theorem a_k82 : (a_c82.all fun e => a_chk a_m82 e.1 e.2) = true := by decide +kernel
theorem a_k83 : (a_c83.all fun e => a_chk a_m83 e.1 e.2) = true := by decide +kernel
theorem a_k84 : (a_c84.all fun e => a_chk a_m84 e.1 e.2) = true := by decide +kernel
theorem a_k85 : (a_c85.all fun e => a_chk a_m85 e.1 e.2) = true := by decide +kernel
theorem a_k86 : (a_c86.all fun e => a_chk a_m86 e.1 e.2) = true := by decide +kernel
theorem a_k87_0 : (a_c87_0.all fun e => a_chk a_m87 e.1 e.2) = true := by decide +kernel
theorem a_k87_1 : (a_c87_1.all fun e => a_chk a_m87 e.1 e.2) = true := by decide +kernel
theorem a_k87 : (a_c87.all fun e => a_chk a_m87 e.1 e.2) = true := by
  unfold a_c87
  exact (by
  rw [List.all_append, Bool.and_eq_true]
  exact ⟨a_k87_0, a_k87_1⟩)
theorem a_k88_0 : (a_c88_0.all fun e => a_chk a_m88 e.1 e.2) = true := by decide +kernel
theorem a_k88_1 : (a_c88_1.all fun e => a_chk a_m88 e.1 e.2) = true := by decide +kernel
theorem a_k88 : (a_c88.all fun e => a_chk a_m88 e.1 e.2) = true := by
  unfold a_c88
  exact (by
  rw [List.all_append, Bool.and_eq_true]
  exact ⟨a_k88_0, a_k88_1⟩)
theorem a_k89_0 : (a_c89_0.all fun e => a_chk a_m89 e.1 e.2) = true := by decide +kernel
theorem a_k89_1 : (a_c89_1.all fun e => a_chk a_m89 e.1 e.2) = true := by decide +kernel
theorem a_k89 : (a_c89.all fun e => a_chk a_m89 e.1 e.2) = true := by
  unfold a_c89
  exact (by
  rw [List.all_append, Bool.and_eq_true]
  exact ⟨a_k89_0, a_k89_1⟩)
theorem a_k90 : (a_c90.all fun e => a_chk a_m90 e.1 e.2) = true := by decide +kernel
theorem a_k91 : (a_c91.all fun e => a_chk a_m91 e.1 e.2) = true := by decide +kernel
theorem a_k92_0 : (a_c92_0.all fun e => a_chk a_m92 e.1 e.2) = true := by decide +kernel
theorem a_k92_1 : (a_c92_1.all fun e => a_chk a_m92 e.1 e.2) = true := by decide +kernel
theorem a_k92 : (a_c92.all fun e => a_chk a_m92 e.1 e.2) = true := by
  unfold a_c92
  exact (by
  rw [List.all_append, Bool.and_eq_true]
  exact ⟨a_k92_0, a_k92_1⟩)
theorem a_k93 : (a_c93.all fun e => a_chk a_m93 e.1 e.2) = true := by decide +kernel
theorem a_k94 : (a_c94.all fun e => a_chk a_m94 e.1 e.2) = true := by decide +kernel
theorem a_k95 : (a_c95.all fun e => a_chk a_m95 e.1 e.2) = true := by decide +kernel
theorem a_k96 : (a_c96.all fun e => a_chk a_m96 e.1 e.2) = true := by decide +kernel
theorem a_k97 : (a_c97.all fun e => a_chk a_m97 e.1 e.2) = true := by decide +kernel
theorem a_k98_0 : (a_c98_0.all fun e => a_chk a_m98 e.1 e.2) = true := by decide +kernel
theorem a_k98_1 : (a_c98_1.all fun e => a_chk a_m98 e.1 e.2) = true := by decide +kernel
theorem a_k98 : (a_c98.all fun e => a_chk a_m98 e.1 e.2) = true := by
  unfold a_c98
  exact (by
  rw [List.all_append, Bool.and_eq_true]
  exact ⟨a_k98_0, a_k98_1⟩)
theorem a_k99 : (a_c99.all fun e => a_chk a_m99 e.1 e.2) = true := by decide +kernel
theorem a_k100 : (a_c100.all fun e => a_chk a_m100 e.1 e.2) = true := by decide +kernel
theorem a_k101 : (a_c101.all fun e => a_chk a_m101 e.1 e.2) = true := by decide +kernel
theorem a_k102 : (a_c102.all fun e => a_chk a_m102 e.1 e.2) = true := by decide +kernel
theorem a_k103 : (a_c103.all fun e => a_chk a_m103 e.1 e.2) = true := by decide +kernel
theorem a_k104 : (a_c104.all fun e => a_chk a_m104 e.1 e.2) = true := by decide +kernel
theorem a_k105 : (a_c105.all fun e => a_chk a_m105 e.1 e.2) = true := by decide +kernel
theorem a_k106 : (a_c106.all fun e => a_chk a_m106 e.1 e.2) = true := by decide +kernel
theorem a_k107 : (a_c107.all fun e => a_chk a_m107 e.1 e.2) = true := by decide +kernel
theorem a_k108 : (a_c108.all fun e => a_chk a_m108 e.1 e.2) = true := by decide +kernel
theorem a_k109 : (a_c109.all fun e => a_chk a_m109 e.1 e.2) = true := by decide +kernel
theorem a_k110 : (a_c110.all fun e => a_chk a_m110 e.1 e.2) = true := by decide +kernel
theorem a_k111 : (a_c111.all fun e => a_chk a_m111 e.1 e.2) = true := by decide +kernel
theorem a_k112 : (a_c112.all fun e => a_chk a_m112 e.1 e.2) = true := by decide +kernel
theorem a_k113 : (a_c113.all fun e => a_chk a_m113 e.1 e.2) = true := by decide +kernel
theorem a_k114_0 : (a_c114_0.all fun e => a_chk a_m114 e.1 e.2) = true := by decide +kernel
theorem a_k114_1 : (a_c114_1.all fun e => a_chk a_m114 e.1 e.2) = true := by decide +kernel
theorem a_k114 : (a_c114.all fun e => a_chk a_m114 e.1 e.2) = true := by
  unfold a_c114
  exact (by
  rw [List.all_append, Bool.and_eq_true]
  exact ⟨a_k114_0, a_k114_1⟩)
theorem a_k115 : (a_c115.all fun e => a_chk a_m115 e.1 e.2) = true := by decide +kernel
theorem a_k116 : (a_c116.all fun e => a_chk a_m116 e.1 e.2) = true := by decide +kernel
theorem a_k117_0 : (a_c117_0.all fun e => a_chk a_m117 e.1 e.2) = true := by decide +kernel
theorem a_k117_1 : (a_c117_1.all fun e => a_chk a_m117 e.1 e.2) = true := by decide +kernel
theorem a_k117 : (a_c117.all fun e => a_chk a_m117 e.1 e.2) = true := by
  unfold a_c117
  exact (by
  rw [List.all_append, Bool.and_eq_true]
  exact ⟨a_k117_0, a_k117_1⟩)
theorem a_k118 : (a_c118.all fun e => a_chk a_m118 e.1 e.2) = true := by decide +kernel
theorem a_k119 : (a_c119.all fun e => a_chk a_m119 e.1 e.2) = true := by decide +kernel
theorem a_k120 : (a_c120.all fun e => a_chk a_m120 e.1 e.2) = true := by decide +kernel
theorem a_k121_0 : (a_c121_0.all fun e => a_chk a_m121 e.1 e.2) = true := by decide +kernel
theorem a_k121_1 : (a_c121_1.all fun e => a_chk a_m121 e.1 e.2) = true := by decide +kernel
theorem a_k121 : (a_c121.all fun e => a_chk a_m121 e.1 e.2) = true := by
  unfold a_c121
  exact (by
  rw [List.all_append, Bool.and_eq_true]
  exact ⟨a_k121_0, a_k121_1⟩)
theorem a_k122 : (a_c122.all fun e => a_chk a_m122 e.1 e.2) = true := by decide +kernel
theorem a_k123_0 : (a_c123_0.all fun e => a_chk a_m123 e.1 e.2) = true := by decide +kernel
theorem a_k123_1 : (a_c123_1.all fun e => a_chk a_m123 e.1 e.2) = true := by decide +kernel
theorem a_k123 : (a_c123.all fun e => a_chk a_m123 e.1 e.2) = true := by
  unfold a_c123
  exact (by
  rw [List.all_append, Bool.and_eq_true]
  exact ⟨a_k123_0, a_k123_1⟩)
theorem a_k124 : (a_c124.all fun e => a_chk a_m124 e.1 e.2) = true := by decide +kernel
theorem a_k125_0 : (a_c125_0.all fun e => a_chk a_m125 e.1 e.2) = true := by decide +kernel
theorem a_k125_1 : (a_c125_1.all fun e => a_chk a_m125 e.1 e.2) = true := by decide +kernel
theorem a_k125 : (a_c125.all fun e => a_chk a_m125 e.1 e.2) = true := by
  unfold a_c125
  exact (by
  rw [List.all_append, Bool.and_eq_true]
  exact ⟨a_k125_0, a_k125_1⟩)
theorem a_k126 : (a_c126.all fun e => a_chk a_m126 e.1 e.2) = true := by decide +kernel
theorem a_k127 : (a_c127.all fun e => a_chk a_m127 e.1 e.2) = true := by decide +kernel
theorem a_k128 : (a_c128.all fun e => a_chk a_m128 e.1 e.2) = true := by decide +kernel
theorem a_k129_0 : (a_c129_0.all fun e => a_chk a_m129 e.1 e.2) = true := by decide +kernel
theorem a_k129_1 : (a_c129_1.all fun e => a_chk a_m129 e.1 e.2) = true := by decide +kernel
theorem a_k129 : (a_c129.all fun e => a_chk a_m129 e.1 e.2) = true := by
  unfold a_c129
  exact (by
  rw [List.all_append, Bool.and_eq_true]
  exact ⟨a_k129_0, a_k129_1⟩)
theorem a_k130_0 : (a_c130_0.all fun e => a_chk a_m130 e.1 e.2) = true := by decide +kernel
theorem a_k130_1 : (a_c130_1.all fun e => a_chk a_m130 e.1 e.2) = true := by decide +kernel
theorem a_k130_2 : (a_c130_2.all fun e => a_chk a_m130 e.1 e.2) = true := by decide +kernel
theorem a_k130 : (a_c130.all fun e => a_chk a_m130 e.1 e.2) = true := by
  unfold a_c130
  exact (by
  rw [List.all_append, Bool.and_eq_true]
  exact ⟨a_k130_0, (by
  rw [List.all_append, Bool.and_eq_true]
  exact ⟨a_k130_1, a_k130_2⟩)⟩)
theorem a_k131_0 : (a_c131_0.all fun e => a_chk a_m131 e.1 e.2) = true := by decide +kernel
theorem a_k131_1 : (a_c131_1.all fun e => a_chk a_m131 e.1 e.2) = true := by decide +kernel
theorem a_k131_2 : (a_c131_2.all fun e => a_chk a_m131 e.1 e.2) = true := by decide +kernel
theorem a_k131 : (a_c131.all fun e => a_chk a_m131 e.1 e.2) = true := by
  unfold a_c131
  exact (by
  rw [List.all_append, Bool.and_eq_true]
  exact ⟨a_k131_0, (by
  rw [List.all_append, Bool.and_eq_true]
  exact ⟨a_k131_1, a_k131_2⟩)⟩)
theorem a_k132_0 : (a_c132_0.all fun e => a_chk a_m132 e.1 e.2) = true := by decide +kernel
theorem a_k132_1 : (a_c132_1.all fun e => a_chk a_m132 e.1 e.2) = true := by decide +kernel
theorem a_k132_2 : (a_c132_2.all fun e => a_chk a_m132 e.1 e.2) = true := by decide +kernel
theorem a_k132 : (a_c132.all fun e => a_chk a_m132 e.1 e.2) = true := by
  unfold a_c132
  exact (by
  rw [List.all_append, Bool.and_eq_true]
  exact ⟨a_k132_0, (by
  rw [List.all_append, Bool.and_eq_true]
  exact ⟨a_k132_1, a_k132_2⟩)⟩)
theorem a_k133_0 : (a_c133_0.all fun e => a_chk a_m133 e.1 e.2) = true := by decide +kernel
theorem a_k133_1 : (a_c133_1.all fun e => a_chk a_m133 e.1 e.2) = true := by decide +kernel
theorem a_k133 : (a_c133.all fun e => a_chk a_m133 e.1 e.2) = true := by
  unfold a_c133
  exact (by
  rw [List.all_append, Bool.and_eq_true]
  exact ⟨a_k133_0, a_k133_1⟩)
theorem a_k134_0 : (a_c134_0.all fun e => a_chk a_m134 e.1 e.2) = true := by decide +kernel
theorem a_k134_1 : (a_c134_1.all fun e => a_chk a_m134 e.1 e.2) = true := by decide +kernel
theorem a_k134 : (a_c134.all fun e => a_chk a_m134 e.1 e.2) = true := by
  unfold a_c134
  exact (by
  rw [List.all_append, Bool.and_eq_true]
  exact ⟨a_k134_0, a_k134_1⟩)
theorem a_k135 : (a_c135.all fun e => a_chk a_m135 e.1 e.2) = true := by decide +kernel
theorem a_k136 : (a_c136.all fun e => a_chk a_m136 e.1 e.2) = true := by decide +kernel
theorem a_k137 : (a_c137.all fun e => a_chk a_m137 e.1 e.2) = true := by decide +kernel
theorem a_k138_0 : (a_c138_0.all fun e => a_chk a_m138 e.1 e.2) = true := by decide +kernel
theorem a_k138_1 : (a_c138_1.all fun e => a_chk a_m138 e.1 e.2) = true := by decide +kernel
theorem a_k138 : (a_c138.all fun e => a_chk a_m138 e.1 e.2) = true := by
  unfold a_c138
  exact (by
  rw [List.all_append, Bool.and_eq_true]
  exact ⟨a_k138_0, a_k138_1⟩)
theorem a_k139 : (a_c139.all fun e => a_chk a_m139 e.1 e.2) = true := by decide +kernel
theorem a_k140 : (a_c140.all fun e => a_chk a_m140 e.1 e.2) = true := by decide +kernel
theorem a_k141_0 : (a_c141_0.all fun e => a_chk a_m141 e.1 e.2) = true := by decide +kernel
theorem a_k141_1 : (a_c141_1.all fun e => a_chk a_m141 e.1 e.2) = true := by decide +kernel
theorem a_k141_2 : (a_c141_2.all fun e => a_chk a_m141 e.1 e.2) = true := by decide +kernel
theorem a_k141 : (a_c141.all fun e => a_chk a_m141 e.1 e.2) = true := by
  unfold a_c141
  exact (by
  rw [List.all_append, Bool.and_eq_true]
  exact ⟨a_k141_0, (by
  rw [List.all_append, Bool.and_eq_true]
  exact ⟨a_k141_1, a_k141_2⟩)⟩)
theorem a_k142_0 : (a_c142_0.all fun e => a_chk a_m142 e.1 e.2) = true := by decide +kernel
theorem a_k142_1 : (a_c142_1.all fun e => a_chk a_m142 e.1 e.2) = true := by decide +kernel
theorem a_k142 : (a_c142.all fun e => a_chk a_m142 e.1 e.2) = true := by
  unfold a_c142
  exact (by
  rw [List.all_append, Bool.and_eq_true]
  exact ⟨a_k142_0, a_k142_1⟩)
theorem a_k143 : (a_c143.all fun e => a_chk a_m143 e.1 e.2) = true := by decide +kernel
theorem a_k144 : (a_c144.all fun e => a_chk a_m144 e.1 e.2) = true := by decide +kernel
theorem a_k145 : (a_c145.all fun e => a_chk a_m145 e.1 e.2) = true := by decide +kernel
theorem a_k146 : (a_c146.all fun e => a_chk a_m146 e.1 e.2) = true := by decide +kernel
theorem a_k147 : (a_c147.all fun e => a_chk a_m147 e.1 e.2) = true := by decide +kernel
theorem a_k148 : (a_c148.all fun e => a_chk a_m148 e.1 e.2) = true := by decide +kernel
theorem a_k149_0 : (a_c149_0.all fun e => a_chk a_m149 e.1 e.2) = true := by decide +kernel
theorem a_k149_1 : (a_c149_1.all fun e => a_chk a_m149 e.1 e.2) = true := by decide +kernel
theorem a_k149 : (a_c149.all fun e => a_chk a_m149 e.1 e.2) = true := by
  unfold a_c149
  exact (by
  rw [List.all_append, Bool.and_eq_true]
  exact ⟨a_k149_0, a_k149_1⟩)
theorem a_k150_0 : (a_c150_0.all fun e => a_chk a_m150 e.1 e.2) = true := by decide +kernel
theorem a_k150_1 : (a_c150_1.all fun e => a_chk a_m150 e.1 e.2) = true := by decide +kernel
theorem a_k150_2 : (a_c150_2.all fun e => a_chk a_m150 e.1 e.2) = true := by decide +kernel
theorem a_k150 : (a_c150.all fun e => a_chk a_m150 e.1 e.2) = true := by
  unfold a_c150
  exact (by
  rw [List.all_append, Bool.and_eq_true]
  exact ⟨a_k150_0, (by
  rw [List.all_append, Bool.and_eq_true]
  exact ⟨a_k150_1, a_k150_2⟩)⟩)
theorem a_k151 : (a_c151.all fun e => a_chk a_m151 e.1 e.2) = true := by decide +kernel
theorem a_k152 : (a_c152.all fun e => a_chk a_m152 e.1 e.2) = true := by decide +kernel
theorem a_k153_0 : (a_c153_0.all fun e => a_chk a_m153 e.1 e.2) = true := by decide +kernel
theorem a_k153_1 : (a_c153_1.all fun e => a_chk a_m153 e.1 e.2) = true := by decide +kernel
theorem a_k153 : (a_c153.all fun e => a_chk a_m153 e.1 e.2) = true := by
  unfold a_c153
  exact (by
  rw [List.all_append, Bool.and_eq_true]
  exact ⟨a_k153_0, a_k153_1⟩)
theorem a_k154 : (a_c154.all fun e => a_chk a_m154 e.1 e.2) = true := by decide +kernel
theorem a_k155 : (a_c155.all fun e => a_chk a_m155 e.1 e.2) = true := by decide +kernel
theorem a_k156 : (a_c156.all fun e => a_chk a_m156 e.1 e.2) = true := by decide +kernel
theorem a_k157_0 : (a_c157_0.all fun e => a_chk a_m157 e.1 e.2) = true := by decide +kernel
theorem a_k157_1 : (a_c157_1.all fun e => a_chk a_m157 e.1 e.2) = true := by decide +kernel
theorem a_k157 : (a_c157.all fun e => a_chk a_m157 e.1 e.2) = true := by
  unfold a_c157
  exact (by
  rw [List.all_append, Bool.and_eq_true]
  exact ⟨a_k157_0, a_k157_1⟩)
theorem a_k158 : (a_c158.all fun e => a_chk a_m158 e.1 e.2) = true := by decide +kernel
theorem a_k159 : (a_c159.all fun e => a_chk a_m159 e.1 e.2) = true := by decide +kernel
theorem a_k160 : (a_c160.all fun e => a_chk a_m160 e.1 e.2) = true := by decide +kernel
theorem a_k161 : (a_c161.all fun e => a_chk a_m161 e.1 e.2) = true := by decide +kernel
theorem a_k162 : (a_c162.all fun e => a_chk a_m162 e.1 e.2) = true := by decide +kernel
theorem a_k163 : (a_c163.all fun e => a_chk a_m163 e.1 e.2) = true := by decide +kernel
theorem a_k164_0 : (a_c164_0.all fun e => a_chk a_m164 e.1 e.2) = true := by decide +kernel
theorem a_k164_1 : (a_c164_1.all fun e => a_chk a_m164 e.1 e.2) = true := by decide +kernel
theorem a_k164 : (a_c164.all fun e => a_chk a_m164 e.1 e.2) = true := by
  unfold a_c164
  exact (by
  rw [List.all_append, Bool.and_eq_true]
  exact ⟨a_k164_0, a_k164_1⟩)
theorem a_k165_0 : (a_c165_0.all fun e => a_chk a_m165 e.1 e.2) = true := by decide +kernel
theorem a_k165_1 : (a_c165_1.all fun e => a_chk a_m165 e.1 e.2) = true := by decide +kernel
theorem a_k165 : (a_c165.all fun e => a_chk a_m165 e.1 e.2) = true := by
  unfold a_c165
  exact (by
  rw [List.all_append, Bool.and_eq_true]
  exact ⟨a_k165_0, a_k165_1⟩)
theorem a_k166 : (a_c166.all fun e => a_chk a_m166 e.1 e.2) = true := by decide +kernel
theorem a_k167 : (a_c167.all fun e => a_chk a_m167 e.1 e.2) = true := by decide +kernel
theorem a_k168 : (a_c168.all fun e => a_chk a_m168 e.1 e.2) = true := by decide +kernel
theorem a_k169_0 : (a_c169_0.all fun e => a_chk a_m169 e.1 e.2) = true := by decide +kernel
theorem a_k169_1 : (a_c169_1.all fun e => a_chk a_m169 e.1 e.2) = true := by decide +kernel
theorem a_k169 : (a_c169.all fun e => a_chk a_m169 e.1 e.2) = true := by
  unfold a_c169
  exact (by
  rw [List.all_append, Bool.and_eq_true]
  exact ⟨a_k169_0, a_k169_1⟩)
theorem a_k170_0 : (a_c170_0.all fun e => a_chk a_m170 e.1 e.2) = true := by decide +kernel
theorem a_k170_1 : (a_c170_1.all fun e => a_chk a_m170 e.1 e.2) = true := by decide +kernel
theorem a_k170 : (a_c170.all fun e => a_chk a_m170 e.1 e.2) = true := by
  unfold a_c170
  exact (by
  rw [List.all_append, Bool.and_eq_true]
  exact ⟨a_k170_0, a_k170_1⟩)
theorem a_k171_0 : (a_c171_0.all fun e => a_chk a_m171 e.1 e.2) = true := by decide +kernel
theorem a_k171_1 : (a_c171_1.all fun e => a_chk a_m171 e.1 e.2) = true := by decide +kernel
theorem a_k171 : (a_c171.all fun e => a_chk a_m171 e.1 e.2) = true := by
  unfold a_c171
  exact (by
  rw [List.all_append, Bool.and_eq_true]
  exact ⟨a_k171_0, a_k171_1⟩)
theorem a_k172_0 : (a_c172_0.all fun e => a_chk a_m172 e.1 e.2) = true := by decide +kernel
theorem a_k172_1 : (a_c172_1.all fun e => a_chk a_m172 e.1 e.2) = true := by decide +kernel
theorem a_k172 : (a_c172.all fun e => a_chk a_m172 e.1 e.2) = true := by
  unfold a_c172
  exact (by
  rw [List.all_append, Bool.and_eq_true]
  exact ⟨a_k172_0, a_k172_1⟩)
theorem a_k173_0 : (a_c173_0.all fun e => a_chk a_m173 e.1 e.2) = true := by decide +kernel
theorem a_k173_1 : (a_c173_1.all fun e => a_chk a_m173 e.1 e.2) = true := by decide +kernel
theorem a_k173 : (a_c173.all fun e => a_chk a_m173 e.1 e.2) = true := by
  unfold a_c173
  exact (by
  rw [List.all_append, Bool.and_eq_true]
  exact ⟨a_k173_0, a_k173_1⟩)
theorem a_k174 : (a_c174.all fun e => a_chk a_m174 e.1 e.2) = true := by decide +kernel
theorem a_k175_0 : (a_c175_0.all fun e => a_chk a_m175 e.1 e.2) = true := by decide +kernel
theorem a_k175_1 : (a_c175_1.all fun e => a_chk a_m175 e.1 e.2) = true := by decide +kernel
theorem a_k175_2 : (a_c175_2.all fun e => a_chk a_m175 e.1 e.2) = true := by decide +kernel
theorem a_k175_3 : (a_c175_3.all fun e => a_chk a_m175 e.1 e.2) = true := by decide +kernel
theorem a_k175_4 : (a_c175_4.all fun e => a_chk a_m175 e.1 e.2) = true := by decide +kernel
theorem a_k175_5 : (a_c175_5.all fun e => a_chk a_m175 e.1 e.2) = true := by decide +kernel
theorem a_k175_6 : (a_c175_6.all fun e => a_chk a_m175 e.1 e.2) = true := by decide +kernel
theorem a_k175_7 : (a_c175_7.all fun e => a_chk a_m175 e.1 e.2) = true := by decide +kernel
theorem a_k175_8 : (a_c175_8.all fun e => a_chk a_m175 e.1 e.2) = true := by decide +kernel
theorem a_k175_9 : (a_c175_9.all fun e => a_chk a_m175 e.1 e.2) = true := by decide +kernel
theorem a_k175_10 : (a_c175_10.all fun e => a_chk a_m175 e.1 e.2) = true := by decide +kernel
theorem a_k175_11 : (a_c175_11.all fun e => a_chk a_m175 e.1 e.2) = true := by decide +kernel
theorem a_k175_12 : (a_c175_12.all fun e => a_chk a_m175 e.1 e.2) = true := by decide +kernel
theorem a_k175_13 : (a_c175_13.all fun e => a_chk a_m175 e.1 e.2) = true := by decide +kernel
theorem a_k175_14 : (a_c175_14.all fun e => a_chk a_m175 e.1 e.2) = true := by decide +kernel
theorem a_k175_15 : (a_c175_15.all fun e => a_chk a_m175 e.1 e.2) = true := by decide +kernel
theorem a_k175_16 : (a_c175_16.all fun e => a_chk a_m175 e.1 e.2) = true := by decide +kernel
theorem a_k175_17 : (a_c175_17.all fun e => a_chk a_m175 e.1 e.2) = true := by decide +kernel
theorem a_k175_18 : (a_c175_18.all fun e => a_chk a_m175 e.1 e.2) = true := by decide +kernel
theorem a_k175 : (a_c175.all fun e => a_chk a_m175 e.1 e.2) = true := by
  unfold a_c175
  exact (by
  rw [List.all_append, Bool.and_eq_true]
  exact ⟨a_k175_0, (by
  rw [List.all_append, Bool.and_eq_true]
  exact ⟨a_k175_1, (by
  rw [List.all_append, Bool.and_eq_true]
  exact ⟨a_k175_2, (by
  rw [List.all_append, Bool.and_eq_true]
  exact ⟨a_k175_3, (by
  rw [List.all_append, Bool.and_eq_true]
  exact ⟨a_k175_4, (by
  rw [List.all_append, Bool.and_eq_true]
  exact ⟨a_k175_5, (by
  rw [List.all_append, Bool.and_eq_true]
  exact ⟨a_k175_6, (by
  rw [List.all_append, Bool.and_eq_true]
  exact ⟨a_k175_7, (by
  rw [List.all_append, Bool.and_eq_true]
  exact ⟨a_k175_8, (by
  rw [List.all_append, Bool.and_eq_true]
  exact ⟨a_k175_9, (by
  rw [List.all_append, Bool.and_eq_true]
  exact ⟨a_k175_10, (by
  rw [List.all_append, Bool.and_eq_true]
  exact ⟨a_k175_11, (by
  rw [List.all_append, Bool.and_eq_true]
  exact ⟨a_k175_12, (by
  rw [List.all_append, Bool.and_eq_true]
  exact ⟨a_k175_13, (by
  rw [List.all_append, Bool.and_eq_true]
  exact ⟨a_k175_14, (by
  rw [List.all_append, Bool.and_eq_true]
  exact ⟨a_k175_15, (by
  rw [List.all_append, Bool.and_eq_true]
  exact ⟨a_k175_16, (by
  rw [List.all_append, Bool.and_eq_true]
  exact ⟨a_k175_17, a_k175_18⟩)⟩)⟩)⟩)⟩)⟩)⟩)⟩)⟩)⟩)⟩)⟩)⟩)⟩)⟩)⟩)⟩)⟩)
theorem a_mok_0 : (a_mt_0.all a_mok) = true := by decide +kernel
theorem a_mok_1 : (a_mt_1.all a_mok) = true := by decide +kernel
theorem a_mok_2 : (a_mt_2.all a_mok) = true := by decide +kernel
theorem a_mok_3 : (a_mt_3.all a_mok) = true := by decide +kernel
theorem a_mok_4 : (a_mt_4.all a_mok) = true := by decide +kernel
theorem a_mok_5 : (a_mt_5.all a_mok) = true := by decide +kernel
theorem a_mok_6 : (a_mt_6.all a_mok) = true := by decide +kernel
theorem a_mok_7 : (a_mt_7.all a_mok) = true := by decide +kernel
theorem a_mok_8 : (a_mt_8.all a_mok) = true := by decide +kernel
theorem a_mok_9 : (a_mt_9.all a_mok) = true := by decide +kernel
theorem a_mok_10 : (a_mt_10.all a_mok) = true := by decide +kernel
theorem a_moks : ∀ M ∈ a_mtl, a_mok M = true := by
  unfold a_mtl
  exact (by
  rw [List.forall_mem_append]
  exact ⟨List.all_eq_true.mp a_mok_0, (by
  rw [List.forall_mem_append]
  exact ⟨List.all_eq_true.mp a_mok_1, (by
  rw [List.forall_mem_append]
  exact ⟨List.all_eq_true.mp a_mok_2, (by
  rw [List.forall_mem_append]
  exact ⟨List.all_eq_true.mp a_mok_3, (by
  rw [List.forall_mem_append]
  exact ⟨List.all_eq_true.mp a_mok_4, (by
  rw [List.forall_mem_append]
  exact ⟨List.all_eq_true.mp a_mok_5, (by
  rw [List.forall_mem_append]
  exact ⟨List.all_eq_true.mp a_mok_6, (by
  rw [List.forall_mem_append]
  exact ⟨List.all_eq_true.mp a_mok_7, (by
  rw [List.forall_mem_append]
  exact ⟨List.all_eq_true.mp a_mok_8, (by
  rw [List.forall_mem_append]
  exact ⟨List.all_eq_true.mp a_mok_9, List.all_eq_true.mp a_mok_10⟩)⟩)⟩)⟩)⟩)⟩)⟩)⟩)⟩)⟩)
theorem a_cw0 : Cond.code a_m0.1 a_m0.2.1 a_m0.2.2.1 a_m0.2.2.2.1 ∈ wsL_law := a_wchs_in _ (List.mem_of_getElem? (i := 22) rfl) _ (List.mem_of_getElem? (l := wsL_law_r23) (i := 16) rfl)
theorem a_cw1 : Cond.code a_m1.1 a_m1.2.1 a_m1.2.2.1 a_m1.2.2.2.1 ∈ wsL_law := a_wchs_in _ (List.mem_of_getElem? (i := 23) rfl) _ (List.mem_of_getElem? (l := wsL_law_r24) (i := 6) rfl)
theorem a_cw2 : Cond.code a_m2.1 a_m2.2.1 a_m2.2.2.1 a_m2.2.2.2.1 ∈ wsL_law := a_wchs_in _ (List.mem_of_getElem? (i := 23) rfl) _ (List.mem_of_getElem? (l := wsL_law_r24) (i := 18) rfl)
theorem a_cw3 : Cond.code a_m3.1 a_m3.2.1 a_m3.2.2.1 a_m3.2.2.2.1 ∈ wsL_law := a_wchs_in _ (List.mem_of_getElem? (i := 23) rfl) _ (List.mem_of_getElem? (l := wsL_law_r24) (i := 22) rfl)
theorem a_cw4 : Cond.code a_m4.1 a_m4.2.1 a_m4.2.2.1 a_m4.2.2.2.1 ∈ wsL_law := a_wchs_in _ (List.mem_of_getElem? (i := 24) rfl) _ (List.mem_of_getElem? (l := wsL_law_r25) (i := 3) rfl)
theorem a_cw5 : Cond.code a_m5.1 a_m5.2.1 a_m5.2.2.1 a_m5.2.2.2.1 ∈ wsL_law := a_wchs_in _ (List.mem_of_getElem? (i := 24) rfl) _ (List.mem_of_getElem? (l := wsL_law_r25) (i := 7) rfl)
theorem a_cw6 : Cond.code a_m6.1 a_m6.2.1 a_m6.2.2.1 a_m6.2.2.2.1 ∈ wsL_law := a_wchs_in _ (List.mem_of_getElem? (i := 24) rfl) _ (List.mem_of_getElem? (l := wsL_law_r25) (i := 23) rfl)
theorem a_cw7 : Cond.code a_m7.1 a_m7.2.1 a_m7.2.2.1 a_m7.2.2.2.1 ∈ wsL_law := a_wchs_in _ (List.mem_of_getElem? (i := 24) rfl) _ (List.mem_of_getElem? (l := wsL_law_r25) (i := 15) rfl)
theorem a_cw8 : Cond.code a_m8.1 a_m8.2.1 a_m8.2.2.1 a_m8.2.2.2.1 ∈ wsL_law := a_wchs_in _ (List.mem_of_getElem? (i := 24) rfl) _ (List.mem_of_getElem? (l := wsL_law_r25) (i := 19) rfl)
theorem a_cw9 : Cond.code a_m9.1 a_m9.2.1 a_m9.2.2.1 a_m9.2.2.2.1 ∈ wsL_law := a_wchs_in _ (List.mem_of_getElem? (i := 17) rfl) _ (List.mem_of_getElem? (l := wsL_law_r18) (i := 3) rfl)
theorem a_cw10 : Cond.code a_m10.1 a_m10.2.1 a_m10.2.2.1 a_m10.2.2.2.1 ∈ wsL_law := a_wchs_in _ (List.mem_of_getElem? (i := 8) rfl) _ (List.mem_of_getElem? (l := wsL_law_r9) (i := 15) rfl)
theorem a_cw11 : Cond.code a_m11.1 a_m11.2.1 a_m11.2.2.1 a_m11.2.2.2.1 ∈ wsL_law := a_wchs_in _ (List.mem_of_getElem? (i := 9) rfl) _ (List.mem_of_getElem? (l := wsL_law_r10) (i := 17) rfl)
theorem a_cw12 : Cond.code a_m12.1 a_m12.2.1 a_m12.2.2.1 a_m12.2.2.2.1 ∈ wsL_law := a_wchs_in _ (List.mem_of_getElem? (i := 18) rfl) _ (List.mem_of_getElem? (l := wsL_law_r19) (i := 3) rfl)
theorem a_cw13 : Cond.code a_m13.1 a_m13.2.1 a_m13.2.2.1 a_m13.2.2.2.1 ∈ wsL_law := a_wchs_in _ (List.mem_of_getElem? (i := 13) rfl) _ (List.mem_of_getElem? (l := wsL_law_r14) (i := 2) rfl)
theorem a_cw14 : Cond.code a_m14.1 a_m14.2.1 a_m14.2.2.1 a_m14.2.2.2.1 ∈ wsL_law := a_wchs_in _ (List.mem_of_getElem? (i := 30) rfl) _ (List.mem_of_getElem? (l := wsL_law_r31) (i := 14) rfl)
theorem a_cw15 : Cond.code a_m15.1 a_m15.2.1 a_m15.2.2.1 a_m15.2.2.2.1 ∈ wsL_law := a_wchs_in _ (List.mem_of_getElem? (i := 20) rfl) _ (List.mem_of_getElem? (l := wsL_law_r21) (i := 7) rfl)
theorem a_cw16 : Cond.code a_m16.1 a_m16.2.1 a_m16.2.2.1 a_m16.2.2.2.1 ∈ wsL_law := a_wchs_in _ (List.mem_of_getElem? (i := 17) rfl) _ (List.mem_of_getElem? (l := wsL_law_r18) (i := 23) rfl)
theorem a_cw17 : Cond.code a_m17.1 a_m17.2.1 a_m17.2.2.1 a_m17.2.2.2.1 ∈ wsL_law := a_wchs_in _ (List.mem_of_getElem? (i := 14) rfl) _ (List.mem_of_getElem? (l := wsL_law_r15) (i := 17) rfl)
theorem a_cw18 : Cond.code a_m18.1 a_m18.2.1 a_m18.2.2.1 a_m18.2.2.2.1 ∈ wsL_law := a_wchs_in _ (List.mem_of_getElem? (i := 33) rfl) _ (List.mem_of_getElem? (l := wsL_law_r34) (i := 19) rfl)
theorem a_cw19 : Cond.code a_m19.1 a_m19.2.1 a_m19.2.2.1 a_m19.2.2.2.1 ∈ wsL_law := a_wchs_in _ (List.mem_of_getElem? (i := 32) rfl) _ (List.mem_of_getElem? (l := wsL_law_r33) (i := 1) rfl)
theorem a_cw20 : Cond.code a_m20.1 a_m20.2.1 a_m20.2.2.1 a_m20.2.2.2.1 ∈ wsL_law := a_wchs_in _ (List.mem_of_getElem? (i := 32) rfl) _ (List.mem_of_getElem? (l := wsL_law_r33) (i := 5) rfl)
theorem a_cw21 : Cond.code a_m21.1 a_m21.2.1 a_m21.2.2.1 a_m21.2.2.2.1 ∈ wsL_law := a_wchs_in _ (List.mem_of_getElem? (i := 32) rfl) _ (List.mem_of_getElem? (l := wsL_law_r33) (i := 9) rfl)
theorem a_cw22 : Cond.code a_m22.1 a_m22.2.1 a_m22.2.2.1 a_m22.2.2.2.1 ∈ wsL_law := a_wchs_in _ (List.mem_of_getElem? (i := 5) rfl) _ (List.mem_of_getElem? (l := wsL_law_r6) (i := 18) rfl)
theorem a_cw23 : Cond.code a_m23.1 a_m23.2.1 a_m23.2.2.1 a_m23.2.2.2.1 ∈ wsL_law := a_wchs_in _ (List.mem_of_getElem? (i := 16) rfl) _ (List.mem_of_getElem? (l := wsL_law_r17) (i := 6) rfl)
theorem a_cw24 : Cond.code a_m24.1 a_m24.2.1 a_m24.2.2.1 a_m24.2.2.2.1 ∈ wsL_law := a_wchs_in _ (List.mem_of_getElem? (i := 9) rfl) _ (List.mem_of_getElem? (l := wsL_law_r10) (i := 13) rfl)
theorem a_cw25 : Cond.code a_m25.1 a_m25.2.1 a_m25.2.2.1 a_m25.2.2.2.1 ∈ wsL_law := a_wchs_in _ (List.mem_of_getElem? (i := 29) rfl) _ (List.mem_of_getElem? (l := wsL_law_r30) (i := 20) rfl)
theorem a_cw26 : Cond.code a_m26.1 a_m26.2.1 a_m26.2.2.1 a_m26.2.2.2.1 ∈ wsL_law := a_wchs_in _ (List.mem_of_getElem? (i := 5) rfl) _ (List.mem_of_getElem? (l := wsL_law_r6) (i := 13) rfl)
theorem a_cw27 : Cond.code a_m27.1 a_m27.2.1 a_m27.2.2.1 a_m27.2.2.2.1 ∈ wsL_law := a_wchs_in _ (List.mem_of_getElem? (i := 4) rfl) _ (List.mem_of_getElem? (l := wsL_law_r5) (i := 10) rfl)
theorem a_cw28 : Cond.code a_m28.1 a_m28.2.1 a_m28.2.2.1 a_m28.2.2.2.1 ∈ wsL_law := a_wchs_in _ (List.mem_of_getElem? (i := 6) rfl) _ (List.mem_of_getElem? (l := wsL_law_r7) (i := 18) rfl)
theorem a_cw29 : Cond.code a_m29.1 a_m29.2.1 a_m29.2.2.1 a_m29.2.2.2.1 ∈ wsL_law := a_wchs_in _ (List.mem_of_getElem? (i := 27) rfl) _ (List.mem_of_getElem? (l := wsL_law_r28) (i := 9) rfl)
theorem a_cw30 : Cond.code a_m30.1 a_m30.2.1 a_m30.2.2.1 a_m30.2.2.2.1 ∈ wsL_law := a_wchs_in _ (List.mem_of_getElem? (i := 4) rfl) _ (List.mem_of_getElem? (l := wsL_law_r5) (i := 16) rfl)
theorem a_cw31 : Cond.code a_m31.1 a_m31.2.1 a_m31.2.2.1 a_m31.2.2.2.1 ∈ wsL_law := a_wchs_in _ (List.mem_of_getElem? (i := 5) rfl) _ (List.mem_of_getElem? (l := wsL_law_r6) (i := 23) rfl)
theorem a_cw32 : Cond.code a_m32.1 a_m32.2.1 a_m32.2.2.1 a_m32.2.2.2.1 ∈ wsL_law := a_wchs_in _ (List.mem_of_getElem? (i := 7) rfl) _ (List.mem_of_getElem? (l := wsL_law_r8) (i := 21) rfl)
theorem a_cw33 : Cond.code a_m33.1 a_m33.2.1 a_m33.2.2.1 a_m33.2.2.2.1 ∈ wsL_law := a_wchs_in _ (List.mem_of_getElem? (i := 12) rfl) _ (List.mem_of_getElem? (l := wsL_law_r13) (i := 18) rfl)
theorem a_cw34 : Cond.code a_m34.1 a_m34.2.1 a_m34.2.2.1 a_m34.2.2.2.1 ∈ wsL_law := a_wchs_in _ (List.mem_of_getElem? (i := 13) rfl) _ (List.mem_of_getElem? (l := wsL_law_r14) (i := 21) rfl)
theorem a_cw35 : Cond.code a_m35.1 a_m35.2.1 a_m35.2.2.1 a_m35.2.2.2.1 ∈ wsL_law := a_wchs_in _ (List.mem_of_getElem? (i := 14) rfl) _ (List.mem_of_getElem? (l := wsL_law_r15) (i := 9) rfl)
theorem a_cw36 : Cond.code a_m36.1 a_m36.2.1 a_m36.2.2.1 a_m36.2.2.2.1 ∈ wsL_law := a_wchs_in _ (List.mem_of_getElem? (i := 16) rfl) _ (List.mem_of_getElem? (l := wsL_law_r17) (i := 2) rfl)
theorem a_cw37 : Cond.code a_m37.1 a_m37.2.1 a_m37.2.2.1 a_m37.2.2.2.1 ∈ wsL_law := a_wchs_in _ (List.mem_of_getElem? (i := 16) rfl) _ (List.mem_of_getElem? (l := wsL_law_r17) (i := 22) rfl)
theorem a_cw38 : Cond.code a_m38.1 a_m38.2.1 a_m38.2.2.1 a_m38.2.2.2.1 ∈ wsL_law := a_wchs_in _ (List.mem_of_getElem? (i := 19) rfl) _ (List.mem_of_getElem? (l := wsL_law_r20) (i := 15) rfl)
theorem a_cw39 : Cond.code a_m39.1 a_m39.2.1 a_m39.2.2.1 a_m39.2.2.2.1 ∈ wsL_law := a_wchs_in _ (List.mem_of_getElem? (i := 20) rfl) _ (List.mem_of_getElem? (l := wsL_law_r21) (i := 3) rfl)
theorem a_cw40 : Cond.code a_m40.1 a_m40.2.1 a_m40.2.2.1 a_m40.2.2.2.1 ∈ wsL_law := a_wchs_in _ (List.mem_of_getElem? (i := 21) rfl) _ (List.mem_of_getElem? (l := wsL_law_r22) (i := 0) rfl)
theorem a_cw41 : Cond.code a_m41.1 a_m41.2.1 a_m41.2.2.1 a_m41.2.2.2.1 ∈ wsL_law := a_wchs_in _ (List.mem_of_getElem? (i := 21) rfl) _ (List.mem_of_getElem? (l := wsL_law_r22) (i := 4) rfl)
theorem a_cw42 : Cond.code a_m42.1 a_m42.2.1 a_m42.2.2.1 a_m42.2.2.2.1 ∈ wsL_law := a_wchs_in _ (List.mem_of_getElem? (i := 21) rfl) _ (List.mem_of_getElem? (l := wsL_law_r22) (i := 8) rfl)
theorem a_cw43 : Cond.code a_m43.1 a_m43.2.1 a_m43.2.2.1 a_m43.2.2.2.1 ∈ wsL_law := a_wchs_in _ (List.mem_of_getElem? (i := 8) rfl) _ (List.mem_of_getElem? (l := wsL_law_r9) (i := 9) rfl)
theorem a_cw44 : Cond.code a_m44.1 a_m44.2.1 a_m44.2.2.1 a_m44.2.2.2.1 ∈ wsL_law := a_wchs_in _ (List.mem_of_getElem? (i := 21) rfl) _ (List.mem_of_getElem? (l := wsL_law_r22) (i := 20) rfl)
theorem a_cw45 : Cond.code a_m45.1 a_m45.2.1 a_m45.2.2.1 a_m45.2.2.2.1 ∈ wsL_law := a_wchs_in _ (List.mem_of_getElem? (i := 21) rfl) _ (List.mem_of_getElem? (l := wsL_law_r22) (i := 12) rfl)
theorem a_cw46 : Cond.code a_m46.1 a_m46.2.1 a_m46.2.2.1 a_m46.2.2.2.1 ∈ wsL_law := a_wchs_in _ (List.mem_of_getElem? (i := 30) rfl) _ (List.mem_of_getElem? (l := wsL_law_r31) (i := 10) rfl)
theorem a_cw47 : Cond.code a_m47.1 a_m47.2.1 a_m47.2.2.1 a_m47.2.2.2.1 ∈ wsL_law := a_wchs_in _ (List.mem_of_getElem? (i := 21) rfl) _ (List.mem_of_getElem? (l := wsL_law_r22) (i := 16) rfl)
theorem a_cw48 : Cond.code a_m48.1 a_m48.2.1 a_m48.2.2.1 a_m48.2.2.2.1 ∈ wsL_law := a_wchs_in _ (List.mem_of_getElem? (i := 17) rfl) _ (List.mem_of_getElem? (l := wsL_law_r18) (i := 7) rfl)
theorem a_cw49 : Cond.code a_m49.1 a_m49.2.1 a_m49.2.2.1 a_m49.2.2.2.1 ∈ wsL_law := a_wchs_in _ (List.mem_of_getElem? (i := 17) rfl) _ (List.mem_of_getElem? (l := wsL_law_r18) (i := 11) rfl)
theorem a_cw50 : Cond.code a_m50.1 a_m50.2.1 a_m50.2.2.1 a_m50.2.2.2.1 ∈ wsL_law := a_wchs_in _ (List.mem_of_getElem? (i := 17) rfl) _ (List.mem_of_getElem? (l := wsL_law_r18) (i := 15) rfl)
theorem a_cw51 : Cond.code a_m51.1 a_m51.2.1 a_m51.2.2.1 a_m51.2.2.2.1 ∈ wsL_law := a_wchs_in _ (List.mem_of_getElem? (i := 17) rfl) _ (List.mem_of_getElem? (l := wsL_law_r18) (i := 19) rfl)
theorem a_cw52 : Cond.code a_m52.1 a_m52.2.1 a_m52.2.2.1 a_m52.2.2.2.1 ∈ wsL_law := a_wchs_in _ (List.mem_of_getElem? (i := 8) rfl) _ (List.mem_of_getElem? (l := wsL_law_r9) (i := 19) rfl)
theorem a_cw53 : Cond.code a_m53.1 a_m53.2.1 a_m53.2.2.1 a_m53.2.2.2.1 ∈ wsL_law := a_wchs_in _ (List.mem_of_getElem? (i := 9) rfl) _ (List.mem_of_getElem? (l := wsL_law_r10) (i := 3) rfl)
theorem a_cw54 : Cond.code a_m54.1 a_m54.2.1 a_m54.2.2.1 a_m54.2.2.2.1 ∈ wsL_law := a_wchs_in _ (List.mem_of_getElem? (i := 9) rfl) _ (List.mem_of_getElem? (l := wsL_law_r10) (i := 7) rfl)
theorem a_cw55 : Cond.code a_m55.1 a_m55.2.1 a_m55.2.2.1 a_m55.2.2.2.1 ∈ wsL_law := a_wchs_in _ (List.mem_of_getElem? (i := 33) rfl) _ (List.mem_of_getElem? (l := wsL_law_r34) (i := 11) rfl)
theorem a_cw56 : Cond.code a_m56.1 a_m56.2.1 a_m56.2.2.1 a_m56.2.2.2.1 ∈ wsL_law := a_wchs_in _ (List.mem_of_getElem? (i := 14) rfl) _ (List.mem_of_getElem? (l := wsL_law_r15) (i := 13) rfl)
theorem a_cw57 : Cond.code a_m57.1 a_m57.2.1 a_m57.2.2.1 a_m57.2.2.2.1 ∈ wsL_law := a_wchs_in _ (List.mem_of_getElem? (i := 29) rfl) _ (List.mem_of_getElem? (l := wsL_law_r30) (i := 2) rfl)
theorem a_cw58 : Cond.code a_m58.1 a_m58.2.1 a_m58.2.2.1 a_m58.2.2.2.1 ∈ wsL_law := a_wchs_in _ (List.mem_of_getElem? (i := 33) rfl) _ (List.mem_of_getElem? (l := wsL_law_r34) (i := 15) rfl)
theorem a_cw59 : Cond.code a_m59.1 a_m59.2.1 a_m59.2.2.1 a_m59.2.2.2.1 ∈ wsL_law := a_wchs_in _ (List.mem_of_getElem? (i := 4) rfl) _ (List.mem_of_getElem? (l := wsL_law_r5) (i := 22) rfl)
theorem a_cw60 : Cond.code a_m60.1 a_m60.2.1 a_m60.2.2.1 a_m60.2.2.2.1 ∈ wsL_law := a_wchs_in _ (List.mem_of_getElem? (i := 4) rfl) _ (List.mem_of_getElem? (l := wsL_law_r5) (i := 6) rfl)
theorem a_cw61 : Cond.code a_m61.1 a_m61.2.1 a_m61.2.2.1 a_m61.2.2.2.1 ∈ wsL_law := a_wchs_in _ (List.mem_of_getElem? (i := 7) rfl) _ (List.mem_of_getElem? (l := wsL_law_r8) (i := 17) rfl)
theorem a_cw62 : Cond.code a_m62.1 a_m62.2.1 a_m62.2.2.1 a_m62.2.2.2.1 ∈ wsL_law := a_wchs_in _ (List.mem_of_getElem? (i := 12) rfl) _ (List.mem_of_getElem? (l := wsL_law_r13) (i := 14) rfl)
theorem a_cw63 : Cond.code a_m63.1 a_m63.2.1 a_m63.2.2.1 a_m63.2.2.2.1 ∈ wsL_law := a_wchs_in _ (List.mem_of_getElem? (i := 13) rfl) _ (List.mem_of_getElem? (l := wsL_law_r14) (i := 17) rfl)
theorem a_cw64 : Cond.code a_m64.1 a_m64.2.1 a_m64.2.2.1 a_m64.2.2.2.1 ∈ wsL_law := a_wchs_in _ (List.mem_of_getElem? (i := 14) rfl) _ (List.mem_of_getElem? (l := wsL_law_r15) (i := 5) rfl)
theorem a_cw65 : Cond.code a_m65.1 a_m65.2.1 a_m65.2.2.1 a_m65.2.2.2.1 ∈ wsL_law := a_wchs_in _ (List.mem_of_getElem? (i := 15) rfl) _ (List.mem_of_getElem? (l := wsL_law_r16) (i := 14) rfl)
theorem a_cw66 : Cond.code a_m66.1 a_m66.2.1 a_m66.2.2.1 a_m66.2.2.2.1 ∈ wsL_law := a_wchs_in _ (List.mem_of_getElem? (i := 15) rfl) _ (List.mem_of_getElem? (l := wsL_law_r16) (i := 22) rfl)
theorem a_cw67 : Cond.code a_m67.1 a_m67.2.1 a_m67.2.2.1 a_m67.2.2.2.1 ∈ wsL_law := a_wchs_in _ (List.mem_of_getElem? (i := 16) rfl) _ (List.mem_of_getElem? (l := wsL_law_r17) (i := 18) rfl)
theorem a_cw68 : Cond.code a_m68.1 a_m68.2.1 a_m68.2.2.1 a_m68.2.2.2.1 ∈ wsL_law := a_wchs_in _ (List.mem_of_getElem? (i := 19) rfl) _ (List.mem_of_getElem? (l := wsL_law_r20) (i := 11) rfl)
theorem a_cw69 : Cond.code a_m69.1 a_m69.2.1 a_m69.2.2.1 a_m69.2.2.2.1 ∈ wsL_law := a_wchs_in _ (List.mem_of_getElem? (i := 19) rfl) _ (List.mem_of_getElem? (l := wsL_law_r20) (i := 23) rfl)
theorem a_cw70 : Cond.code a_m70.1 a_m70.2.1 a_m70.2.2.1 a_m70.2.2.2.1 ∈ wsL_law := a_wchs_in _ (List.mem_of_getElem? (i := 20) rfl) _ (List.mem_of_getElem? (l := wsL_law_r21) (i := 20) rfl)
theorem a_cw71 : Cond.code a_m71.1 a_m71.2.1 a_m71.2.2.1 a_m71.2.2.2.1 ∈ wsL_law := a_wchs_in _ (List.mem_of_getElem? (i := 22) rfl) _ (List.mem_of_getElem? (l := wsL_law_r23) (i := 12) rfl)
theorem a_cw72 : Cond.code a_m72.1 a_m72.2.1 a_m72.2.2.1 a_m72.2.2.2.1 ∈ wsL_law := a_wchs_in _ (List.mem_of_getElem? (i := 23) rfl) _ (List.mem_of_getElem? (l := wsL_law_r24) (i := 2) rfl)
theorem a_cw73 : Cond.code a_m73.1 a_m73.2.1 a_m73.2.2.1 a_m73.2.2.2.1 ∈ wsL_law := a_wchs_in _ (List.mem_of_getElem? (i := 23) rfl) _ (List.mem_of_getElem? (l := wsL_law_r24) (i := 14) rfl)
theorem a_cw74 : Cond.code a_m74.1 a_m74.2.1 a_m74.2.2.1 a_m74.2.2.2.1 ∈ wsL_law := a_wchs_in _ (List.mem_of_getElem? (i := 26) rfl) _ (List.mem_of_getElem? (l := wsL_law_r27) (i := 3) rfl)
theorem a_cw75 : Cond.code a_m75.1 a_m75.2.1 a_m75.2.2.1 a_m75.2.2.2.1 ∈ wsL_law := a_wchs_in _ (List.mem_of_getElem? (i := 27) rfl) _ (List.mem_of_getElem? (l := wsL_law_r28) (i := 4) rfl)
theorem a_cw76 : Cond.code a_m76.1 a_m76.2.1 a_m76.2.2.1 a_m76.2.2.2.1 ∈ wsL_law := a_wchs_in _ (List.mem_of_getElem? (i := 27) rfl) _ (List.mem_of_getElem? (l := wsL_law_r28) (i := 17) rfl)
theorem a_cw77 : Cond.code a_m77.1 a_m77.2.1 a_m77.2.2.1 a_m77.2.2.2.1 ∈ wsL_law := a_wchs_in _ (List.mem_of_getElem? (i := 28) rfl) _ (List.mem_of_getElem? (l := wsL_law_r29) (i := 3) rfl)
theorem a_cw78 : Cond.code a_m78.1 a_m78.2.1 a_m78.2.2.1 a_m78.2.2.2.1 ∈ wsL_law := a_wchs_in _ (List.mem_of_getElem? (i := 28) rfl) _ (List.mem_of_getElem? (l := wsL_law_r29) (i := 11) rfl)
theorem a_cw79 : Cond.code a_m79.1 a_m79.2.1 a_m79.2.2.1 a_m79.2.2.2.1 ∈ wsL_law := a_wchs_in _ (List.mem_of_getElem? (i := 29) rfl) _ (List.mem_of_getElem? (l := wsL_law_r30) (i := 14) rfl)
theorem a_cw80 : Cond.code a_m80.1 a_m80.2.1 a_m80.2.2.1 a_m80.2.2.2.1 ∈ wsL_law := a_wchs_in _ (List.mem_of_getElem? (i := 30) rfl) _ (List.mem_of_getElem? (l := wsL_law_r31) (i := 5) rfl)
theorem a_cw81 : Cond.code a_m81.1 a_m81.2.1 a_m81.2.2.1 a_m81.2.2.2.1 ∈ wsL_law := a_wchs_in _ (List.mem_of_getElem? (i := 31) rfl) _ (List.mem_of_getElem? (l := wsL_law_r32) (i := 2) rfl)
theorem a_cw82 : Cond.code a_m82.1 a_m82.2.1 a_m82.2.2.1 a_m82.2.2.2.1 ∈ wsL_law := a_wchs_in _ (List.mem_of_getElem? (i := 31) rfl) _ (List.mem_of_getElem? (l := wsL_law_r32) (i := 12) rfl)
theorem a_cw83 : Cond.code a_m83.1 a_m83.2.1 a_m83.2.2.1 a_m83.2.2.2.1 ∈ wsL_law := a_wchs_in _ (List.mem_of_getElem? (i := 31) rfl) _ (List.mem_of_getElem? (l := wsL_law_r32) (i := 21) rfl)
theorem a_cw84 : Cond.code a_m84.1 a_m84.2.1 a_m84.2.2.1 a_m84.2.2.2.1 ∈ wsL_law := a_wchs_in _ (List.mem_of_getElem? (i := 32) rfl) _ (List.mem_of_getElem? (l := wsL_law_r33) (i := 21) rfl)
theorem a_cw85 : Cond.code a_m85.1 a_m85.2.1 a_m85.2.2.1 a_m85.2.2.2.1 ∈ wsL_law := a_wchs_in _ (List.mem_of_getElem? (i := 33) rfl) _ (List.mem_of_getElem? (l := wsL_law_r34) (i := 6) rfl)
theorem a_cw86 : Cond.code a_m86.1 a_m86.2.1 a_m86.2.2.1 a_m86.2.2.2.1 ∈ wsL_law := a_wchs_in _ (List.mem_of_getElem? (i := 34) rfl) _ (List.mem_of_getElem? (l := wsL_law_r35) (i := 11) rfl)
theorem a_cw87 : Cond.code a_m87.1 a_m87.2.1 a_m87.2.2.1 a_m87.2.2.2.1 ∈ wsL_law := a_wchs_in _ (List.mem_of_getElem? (i := 34) rfl) _ (List.mem_of_getElem? (l := wsL_law_r35) (i := 19) rfl)
theorem a_cw88 : Cond.code a_m88.1 a_m88.2.1 a_m88.2.2.1 a_m88.2.2.2.1 ∈ wsL_law := a_wchs_in _ (List.mem_of_getElem? (i := 35) rfl) _ (List.mem_of_getElem? (l := wsL_law_r36) (i := 5) rfl)
theorem a_cw89 : Cond.code a_m89.1 a_m89.2.1 a_m89.2.2.1 a_m89.2.2.2.1 ∈ wsL_law := a_wchs_in _ (List.mem_of_getElem? (i := 35) rfl) _ (List.mem_of_getElem? (l := wsL_law_r36) (i := 14) rfl)
theorem a_cw90 : Cond.code a_m90.1 a_m90.2.1 a_m90.2.2.1 a_m90.2.2.2.1 ∈ wsL_law := a_wchs_in _ (List.mem_of_getElem? (i := 36) rfl) _ (List.mem_of_getElem? (l := wsL_law_r37) (i := 8) rfl)
theorem a_cw91 : Cond.code a_m91.1 a_m91.2.1 a_m91.2.2.1 a_m91.2.2.2.1 ∈ wsL_law := a_wchs_in _ (List.mem_of_getElem? (i := 6) rfl) _ (List.mem_of_getElem? (l := wsL_law_r7) (i := 14) rfl)
theorem a_cw92 : Cond.code a_m92.1 a_m92.2.1 a_m92.2.2.1 a_m92.2.2.2.1 ∈ wsL_law := a_wchs_in _ (List.mem_of_getElem? (i := 28) rfl) _ (List.mem_of_getElem? (l := wsL_law_r29) (i := 17) rfl)
theorem a_cw93 : Cond.code a_m93.1 a_m93.2.1 a_m93.2.2.1 a_m93.2.2.2.1 ∈ wsL_law := a_wchs_in _ (List.mem_of_getElem? (i := 6) rfl) _ (List.mem_of_getElem? (l := wsL_law_r7) (i := 10) rfl)
theorem a_cw94 : Cond.code a_m94.1 a_m94.2.1 a_m94.2.2.1 a_m94.2.2.2.1 ∈ wsL_law := a_wchs_in _ (List.mem_of_getElem? (i := 6) rfl) _ (List.mem_of_getElem? (l := wsL_law_r7) (i := 7) rfl)
theorem a_cw95 : Cond.code a_m95.1 a_m95.2.1 a_m95.2.2.1 a_m95.2.2.2.1 ∈ wsL_law := a_wchs_in _ (List.mem_of_getElem? (i := 9) rfl) _ (List.mem_of_getElem? (l := wsL_law_r10) (i := 9) rfl)
theorem a_cw96 : Cond.code a_m96.1 a_m96.2.1 a_m96.2.2.1 a_m96.2.2.2.1 ∈ wsL_law := a_wchs_in _ (List.mem_of_getElem? (i := 5) rfl) _ (List.mem_of_getElem? (l := wsL_law_r6) (i := 1) rfl)
theorem a_cw97 : Cond.code a_m97.1 a_m97.2.1 a_m97.2.2.1 a_m97.2.2.2.1 ∈ wsL_law := a_wchs_in _ (List.mem_of_getElem? (i := 7) rfl) _ (List.mem_of_getElem? (l := wsL_law_r8) (i := 4) rfl)
theorem a_cw98 : Cond.code a_m98.1 a_m98.2.1 a_m98.2.2.1 a_m98.2.2.2.1 ∈ wsL_law := a_wchs_in _ (List.mem_of_getElem? (i := 7) rfl) _ (List.mem_of_getElem? (l := wsL_law_r8) (i := 11) rfl)
theorem a_cw99 : Cond.code a_m99.1 a_m99.2.1 a_m99.2.2.1 a_m99.2.2.2.1 ∈ wsL_law := a_wchs_in _ (List.mem_of_getElem? (i := 36) rfl) _ (List.mem_of_getElem? (l := wsL_law_r37) (i := 0) rfl)
theorem a_cw100 : Cond.code a_m100.1 a_m100.2.1 a_m100.2.2.1 a_m100.2.2.2.1 ∈ wsL_law := a_wchs_in _ (List.mem_of_getElem? (i := 36) rfl) _ (List.mem_of_getElem? (l := wsL_law_r37) (i := 4) rfl)
theorem a_cw101 : Cond.code a_m101.1 a_m101.2.1 a_m101.2.2.1 a_m101.2.2.2.1 ∈ wsL_law := a_wchs_in _ (List.mem_of_getElem? (i := 15) rfl) _ (List.mem_of_getElem? (l := wsL_law_r16) (i := 6) rfl)
theorem a_cw102 : Cond.code a_m102.1 a_m102.2.1 a_m102.2.2.1 a_m102.2.2.2.1 ∈ wsL_law := a_wchs_in _ (List.mem_of_getElem? (i := 16) rfl) _ (List.mem_of_getElem? (l := wsL_law_r17) (i := 14) rfl)
theorem a_cw103 : Cond.code a_m103.1 a_m103.2.1 a_m103.2.2.1 a_m103.2.2.2.1 ∈ wsL_law := a_wchs_in _ (List.mem_of_getElem? (i := 18) rfl) _ (List.mem_of_getElem? (l := wsL_law_r19) (i := 11) rfl)
theorem a_cw104 : Cond.code a_m104.1 a_m104.2.1 a_m104.2.2.1 a_m104.2.2.2.1 ∈ wsL_law := a_wchs_in _ (List.mem_of_getElem? (i := 11) rfl) _ (List.mem_of_getElem? (l := wsL_law_r12) (i := 9) rfl)
theorem a_cw105 : Cond.code a_m105.1 a_m105.2.1 a_m105.2.2.1 a_m105.2.2.2.1 ∈ wsL_law := a_wchs_in _ (List.mem_of_getElem? (i := 12) rfl) _ (List.mem_of_getElem? (l := wsL_law_r13) (i := 2) rfl)
theorem a_cw106 : Cond.code a_m106.1 a_m106.2.1 a_m106.2.2.1 a_m106.2.2.2.1 ∈ wsL_law := a_wchs_in _ (List.mem_of_getElem? (i := 10) rfl) _ (List.mem_of_getElem? (l := wsL_law_r11) (i := 9) rfl)
theorem a_cw107 : Cond.code a_m107.1 a_m107.2.1 a_m107.2.2.1 a_m107.2.2.2.1 ∈ wsL_law := a_wchs_in _ (List.mem_of_getElem? (i := 12) rfl) _ (List.mem_of_getElem? (l := wsL_law_r13) (i := 10) rfl)
theorem a_cw108 : Cond.code a_m108.1 a_m108.2.1 a_m108.2.2.1 a_m108.2.2.2.1 ∈ wsL_law := a_wchs_in _ (List.mem_of_getElem? (i := 7) rfl) _ (List.mem_of_getElem? (l := wsL_law_r8) (i := 1) rfl)
theorem a_cw109 : Cond.code a_m109.1 a_m109.2.1 a_m109.2.2.1 a_m109.2.2.2.1 ∈ wsL_law := a_wchs_in _ (List.mem_of_getElem? (i := 7) rfl) _ (List.mem_of_getElem? (l := wsL_law_r8) (i := 7) rfl)
theorem a_cw110 : Cond.code a_m110.1 a_m110.2.1 a_m110.2.2.1 a_m110.2.2.2.1 ∈ wsL_law := a_wchs_in _ (List.mem_of_getElem? (i := 13) rfl) _ (List.mem_of_getElem? (l := wsL_law_r14) (i := 9) rfl)
theorem a_cw111 : Cond.code a_m111.1 a_m111.2.1 a_m111.2.2.1 a_m111.2.2.2.1 ∈ wsL_law := a_wchs_in _ (List.mem_of_getElem? (i := 11) rfl) _ (List.mem_of_getElem? (l := wsL_law_r12) (i := 12) rfl)
theorem a_cw112 : Cond.code a_m112.1 a_m112.2.1 a_m112.2.2.1 a_m112.2.2.2.1 ∈ wsL_law := a_wchs_in _ (List.mem_of_getElem? (i := 11) rfl) _ (List.mem_of_getElem? (l := wsL_law_r12) (i := 15) rfl)
theorem a_cw113 : Cond.code a_m113.1 a_m113.2.1 a_m113.2.2.1 a_m113.2.2.2.1 ∈ wsL_law := a_wchs_in _ (List.mem_of_getElem? (i := 11) rfl) _ (List.mem_of_getElem? (l := wsL_law_r12) (i := 18) rfl)
theorem a_cw114 : Cond.code a_m114.1 a_m114.2.1 a_m114.2.2.1 a_m114.2.2.2.1 ∈ wsL_law := a_wchs_in _ (List.mem_of_getElem? (i := 11) rfl) _ (List.mem_of_getElem? (l := wsL_law_r12) (i := 5) rfl)
theorem a_cw115 : Cond.code a_m115.1 a_m115.2.1 a_m115.2.2.1 a_m115.2.2.2.1 ∈ wsL_law := a_wchs_in _ (List.mem_of_getElem? (i := 12) rfl) _ (List.mem_of_getElem? (l := wsL_law_r13) (i := 6) rfl)
theorem a_cw116 : Cond.code a_m116.1 a_m116.2.1 a_m116.2.2.1 a_m116.2.2.2.1 ∈ wsL_law := a_wchs_in _ (List.mem_of_getElem? (i := 11) rfl) _ (List.mem_of_getElem? (l := wsL_law_r12) (i := 1) rfl)
theorem a_cw117 : Cond.code a_m117.1 a_m117.2.1 a_m117.2.2.1 a_m117.2.2.2.1 ∈ wsL_law := a_wchs_in _ (List.mem_of_getElem? (i := 11) rfl) _ (List.mem_of_getElem? (l := wsL_law_r12) (i := 22) rfl)
theorem a_cw118 : Cond.code a_m118.1 a_m118.2.1 a_m118.2.2.1 a_m118.2.2.2.1 ∈ wsL_law := a_wchs_in _ (List.mem_of_getElem? (i := 10) rfl) _ (List.mem_of_getElem? (l := wsL_law_r11) (i := 21) rfl)
theorem a_cw119 : Cond.code a_m119.1 a_m119.2.1 a_m119.2.2.1 a_m119.2.2.2.1 ∈ wsL_law := a_wchs_in _ (List.mem_of_getElem? (i := 10) rfl) _ (List.mem_of_getElem? (l := wsL_law_r11) (i := 17) rfl)
theorem a_cw120 : Cond.code a_m120.1 a_m120.2.1 a_m120.2.2.1 a_m120.2.2.2.1 ∈ wsL_law := a_wchs_in _ (List.mem_of_getElem? (i := 10) rfl) _ (List.mem_of_getElem? (l := wsL_law_r11) (i := 5) rfl)
theorem a_cw121 : Cond.code a_m121.1 a_m121.2.1 a_m121.2.2.1 a_m121.2.2.2.1 ∈ wsL_law := a_wchs_in _ (List.mem_of_getElem? (i := 19) rfl) _ (List.mem_of_getElem? (l := wsL_law_r20) (i := 3) rfl)
theorem a_cw122 : Cond.code a_m122.1 a_m122.2.1 a_m122.2.2.1 a_m122.2.2.2.1 ∈ wsL_law := a_wchs_in _ (List.mem_of_getElem? (i := 19) rfl) _ (List.mem_of_getElem? (l := wsL_law_r20) (i := 7) rfl)
theorem a_cw123 : Cond.code a_m123.1 a_m123.2.1 a_m123.2.2.1 a_m123.2.2.2.1 ∈ wsL_law := a_wchs_in _ (List.mem_of_getElem? (i := 18) rfl) _ (List.mem_of_getElem? (l := wsL_law_r19) (i := 23) rfl)
theorem a_cw124 : Cond.code a_m124.1 a_m124.2.1 a_m124.2.2.1 a_m124.2.2.2.1 ∈ wsL_law := a_wchs_in _ (List.mem_of_getElem? (i := 10) rfl) _ (List.mem_of_getElem? (l := wsL_law_r11) (i := 13) rfl)
theorem a_cw125 : Cond.code a_m125.1 a_m125.2.1 a_m125.2.2.1 a_m125.2.2.2.1 ∈ wsL_law := a_wchs_in _ (List.mem_of_getElem? (i := 10) rfl) _ (List.mem_of_getElem? (l := wsL_law_r11) (i := 1) rfl)
theorem a_cw126 : Cond.code a_m126.1 a_m126.2.1 a_m126.2.2.1 a_m126.2.2.2.1 ∈ wsL_law := a_wchs_in _ (List.mem_of_getElem? (i := 13) rfl) _ (List.mem_of_getElem? (l := wsL_law_r14) (i := 13) rfl)
theorem a_cw127 : Cond.code a_m127.1 a_m127.2.1 a_m127.2.2.1 a_m127.2.2.2.1 ∈ wsL_law := a_wchs_in _ (List.mem_of_getElem? (i := 15) rfl) _ (List.mem_of_getElem? (l := wsL_law_r16) (i := 10) rfl)
theorem a_cw128 : Cond.code a_m128.1 a_m128.2.1 a_m128.2.2.1 a_m128.2.2.2.1 ∈ wsL_law := a_wchs_in _ (List.mem_of_getElem? (i := 20) rfl) _ (List.mem_of_getElem? (l := wsL_law_r21) (i := 16) rfl)
theorem a_cw129 : Cond.code a_m129.1 a_m129.2.1 a_m129.2.2.1 a_m129.2.2.2.1 ∈ wsL_law := a_wchs_in _ (List.mem_of_getElem? (i := 22) rfl) _ (List.mem_of_getElem? (l := wsL_law_r23) (i := 8) rfl)
theorem a_cw130 : Cond.code a_m130.1 a_m130.2.1 a_m130.2.2.1 a_m130.2.2.2.1 ∈ wsL_law := a_wchs_in _ (List.mem_of_getElem? (i := 22) rfl) _ (List.mem_of_getElem? (l := wsL_law_r23) (i := 4) rfl)
theorem a_cw131 : Cond.code a_m131.1 a_m131.2.1 a_m131.2.2.1 a_m131.2.2.2.1 ∈ wsL_law := a_wchs_in _ (List.mem_of_getElem? (i := 6) rfl) _ (List.mem_of_getElem? (l := wsL_law_r7) (i := 22) rfl)
theorem a_cw132 : Cond.code a_m132.1 a_m132.2.1 a_m132.2.2.1 a_m132.2.2.2.1 ∈ wsL_law := a_wchs_in _ (List.mem_of_getElem? (i := 9) rfl) _ (List.mem_of_getElem? (l := wsL_law_r10) (i := 21) rfl)
theorem a_cw133 : Cond.code a_m133.1 a_m133.2.1 a_m133.2.2.1 a_m133.2.2.2.1 ∈ wsL_law := a_wchs_in _ (List.mem_of_getElem? (i := 13) rfl) _ (List.mem_of_getElem? (l := wsL_law_r14) (i := 6) rfl)
theorem a_cw134 : Cond.code a_m134.1 a_m134.2.1 a_m134.2.2.1 a_m134.2.2.2.1 ∈ wsL_law := a_wchs_in _ (List.mem_of_getElem? (i := 14) rfl) _ (List.mem_of_getElem? (l := wsL_law_r15) (i := 1) rfl)
theorem a_cw135 : Cond.code a_m135.1 a_m135.2.1 a_m135.2.2.1 a_m135.2.2.2.1 ∈ wsL_law := a_wchs_in _ (List.mem_of_getElem? (i := 15) rfl) _ (List.mem_of_getElem? (l := wsL_law_r16) (i := 2) rfl)
theorem a_cw136 : Cond.code a_m136.1 a_m136.2.1 a_m136.2.2.1 a_m136.2.2.2.1 ∈ wsL_law := a_wchs_in _ (List.mem_of_getElem? (i := 14) rfl) _ (List.mem_of_getElem? (l := wsL_law_r15) (i := 22) rfl)
theorem a_cw137 : Cond.code a_m137.1 a_m137.2.1 a_m137.2.2.1 a_m137.2.2.2.1 ∈ wsL_law := a_wchs_in _ (List.mem_of_getElem? (i := 15) rfl) _ (List.mem_of_getElem? (l := wsL_law_r16) (i := 18) rfl)
theorem a_cw138 : Cond.code a_m138.1 a_m138.2.1 a_m138.2.2.1 a_m138.2.2.2.1 ∈ wsL_law := a_wchs_in _ (List.mem_of_getElem? (i := 16) rfl) _ (List.mem_of_getElem? (l := wsL_law_r17) (i := 10) rfl)
theorem a_cw139 : Cond.code a_m139.1 a_m139.2.1 a_m139.2.2.1 a_m139.2.2.2.1 ∈ wsL_law := a_wchs_in _ (List.mem_of_getElem? (i := 18) rfl) _ (List.mem_of_getElem? (l := wsL_law_r19) (i := 15) rfl)
theorem a_cw140 : Cond.code a_m140.1 a_m140.2.1 a_m140.2.2.1 a_m140.2.2.2.1 ∈ wsL_law := a_wchs_in _ (List.mem_of_getElem? (i := 18) rfl) _ (List.mem_of_getElem? (l := wsL_law_r19) (i := 19) rfl)
theorem a_cw141 : Cond.code a_m141.1 a_m141.2.1 a_m141.2.2.1 a_m141.2.2.2.1 ∈ wsL_law := a_wchs_in _ (List.mem_of_getElem? (i := 18) rfl) _ (List.mem_of_getElem? (l := wsL_law_r19) (i := 7) rfl)
theorem a_cw142 : Cond.code a_m142.1 a_m142.2.1 a_m142.2.2.1 a_m142.2.2.2.1 ∈ wsL_law := a_wchs_in _ (List.mem_of_getElem? (i := 19) rfl) _ (List.mem_of_getElem? (l := wsL_law_r20) (i := 19) rfl)
theorem a_cw143 : Cond.code a_m143.1 a_m143.2.1 a_m143.2.2.1 a_m143.2.2.2.1 ∈ wsL_law := a_wchs_in _ (List.mem_of_getElem? (i := 20) rfl) _ (List.mem_of_getElem? (l := wsL_law_r21) (i := 12) rfl)
theorem a_cw144 : Cond.code a_m144.1 a_m144.2.1 a_m144.2.2.1 a_m144.2.2.2.1 ∈ wsL_law := a_wchs_in _ (List.mem_of_getElem? (i := 22) rfl) _ (List.mem_of_getElem? (l := wsL_law_r23) (i := 0) rfl)
theorem a_cw145 : Cond.code a_m145.1 a_m145.2.1 a_m145.2.2.1 a_m145.2.2.2.1 ∈ wsL_law := a_wchs_in _ (List.mem_of_getElem? (i := 22) rfl) _ (List.mem_of_getElem? (l := wsL_law_r23) (i := 21) rfl)
theorem a_cw146 : Cond.code a_m146.1 a_m146.2.1 a_m146.2.2.1 a_m146.2.2.2.1 ∈ wsL_law := a_wchs_in _ (List.mem_of_getElem? (i := 23) rfl) _ (List.mem_of_getElem? (l := wsL_law_r24) (i := 10) rfl)
theorem a_cw147 : Cond.code a_m147.1 a_m147.2.1 a_m147.2.2.1 a_m147.2.2.2.1 ∈ wsL_law := a_wchs_in _ (List.mem_of_getElem? (i := 25) rfl) _ (List.mem_of_getElem? (l := wsL_law_r26) (i := 19) rfl)
theorem a_cw148 : Cond.code a_m148.1 a_m148.2.1 a_m148.2.2.1 a_m148.2.2.2.1 ∈ wsL_law := a_wchs_in _ (List.mem_of_getElem? (i := 25) rfl) _ (List.mem_of_getElem? (l := wsL_law_r26) (i := 23) rfl)
theorem a_cw149 : Cond.code a_m149.1 a_m149.2.1 a_m149.2.2.1 a_m149.2.2.2.1 ∈ wsL_law := a_wchs_in _ (List.mem_of_getElem? (i := 25) rfl) _ (List.mem_of_getElem? (l := wsL_law_r26) (i := 15) rfl)
theorem a_cw150 : Cond.code a_m150.1 a_m150.2.1 a_m150.2.2.1 a_m150.2.2.2.1 ∈ wsL_law := a_wchs_in _ (List.mem_of_getElem? (i := 25) rfl) _ (List.mem_of_getElem? (l := wsL_law_r26) (i := 8) rfl)
theorem a_cw151 : Cond.code a_m151.1 a_m151.2.1 a_m151.2.2.1 a_m151.2.2.2.1 ∈ wsL_law := a_wchs_in _ (List.mem_of_getElem? (i := 25) rfl) _ (List.mem_of_getElem? (l := wsL_law_r26) (i := 3) rfl)
theorem a_cw152 : Cond.code a_m152.1 a_m152.2.1 a_m152.2.2.1 a_m152.2.2.2.1 ∈ wsL_law := a_wchs_in _ (List.mem_of_getElem? (i := 26) rfl) _ (List.mem_of_getElem? (l := wsL_law_r27) (i := 19) rfl)
theorem a_cw153 : Cond.code a_m153.1 a_m153.2.1 a_m153.2.2.1 a_m153.2.2.2.1 ∈ wsL_law := a_wchs_in _ (List.mem_of_getElem? (i := 26) rfl) _ (List.mem_of_getElem? (l := wsL_law_r27) (i := 14) rfl)
theorem a_cw154 : Cond.code a_m154.1 a_m154.2.1 a_m154.2.2.1 a_m154.2.2.2.1 ∈ wsL_law := a_wchs_in _ (List.mem_of_getElem? (i := 27) rfl) _ (List.mem_of_getElem? (l := wsL_law_r28) (i := 13) rfl)
theorem a_cw155 : Cond.code a_m155.1 a_m155.2.1 a_m155.2.2.1 a_m155.2.2.2.1 ∈ wsL_law := a_wchs_in _ (List.mem_of_getElem? (i := 27) rfl) _ (List.mem_of_getElem? (l := wsL_law_r28) (i := 23) rfl)
theorem a_cw156 : Cond.code a_m156.1 a_m156.2.1 a_m156.2.2.1 a_m156.2.2.2.1 ∈ wsL_law := a_wchs_in _ (List.mem_of_getElem? (i := 28) rfl) _ (List.mem_of_getElem? (l := wsL_law_r29) (i := 7) rfl)
theorem a_cw157 : Cond.code a_m157.1 a_m157.2.1 a_m157.2.2.1 a_m157.2.2.2.1 ∈ wsL_law := a_wchs_in _ (List.mem_of_getElem? (i := 29) rfl) _ (List.mem_of_getElem? (l := wsL_law_r30) (i := 10) rfl)
theorem a_cw158 : Cond.code a_m158.1 a_m158.2.1 a_m158.2.2.1 a_m158.2.2.2.1 ∈ wsL_law := a_wchs_in _ (List.mem_of_getElem? (i := 29) rfl) _ (List.mem_of_getElem? (l := wsL_law_r30) (i := 6) rfl)
theorem a_cw159 : Cond.code a_m159.1 a_m159.2.1 a_m159.2.2.1 a_m159.2.2.2.1 ∈ wsL_law := a_wchs_in _ (List.mem_of_getElem? (i := 30) rfl) _ (List.mem_of_getElem? (l := wsL_law_r31) (i := 1) rfl)
theorem a_cw160 : Cond.code a_m160.1 a_m160.2.1 a_m160.2.2.1 a_m160.2.2.2.1 ∈ wsL_law := a_wchs_in _ (List.mem_of_getElem? (i := 30) rfl) _ (List.mem_of_getElem? (l := wsL_law_r31) (i := 22) rfl)
theorem a_cw161 : Cond.code a_m161.1 a_m161.2.1 a_m161.2.2.1 a_m161.2.2.2.1 ∈ wsL_law := a_wchs_in _ (List.mem_of_getElem? (i := 30) rfl) _ (List.mem_of_getElem? (l := wsL_law_r31) (i := 18) rfl)
theorem a_cw162 : Cond.code a_m162.1 a_m162.2.1 a_m162.2.2.1 a_m162.2.2.2.1 ∈ wsL_law := a_wchs_in _ (List.mem_of_getElem? (i := 31) rfl) _ (List.mem_of_getElem? (l := wsL_law_r32) (i := 8) rfl)
theorem a_cw163 : Cond.code a_m163.1 a_m163.2.1 a_m163.2.2.1 a_m163.2.2.2.1 ∈ wsL_law := a_wchs_in _ (List.mem_of_getElem? (i := 31) rfl) _ (List.mem_of_getElem? (l := wsL_law_r32) (i := 17) rfl)
theorem a_cw164 : Cond.code a_m164.1 a_m164.2.1 a_m164.2.2.1 a_m164.2.2.2.1 ∈ wsL_law := a_wchs_in _ (List.mem_of_getElem? (i := 32) rfl) _ (List.mem_of_getElem? (l := wsL_law_r33) (i := 17) rfl)
theorem a_cw165 : Cond.code a_m165.1 a_m165.2.1 a_m165.2.2.1 a_m165.2.2.2.1 ∈ wsL_law := a_wchs_in _ (List.mem_of_getElem? (i := 32) rfl) _ (List.mem_of_getElem? (l := wsL_law_r33) (i := 13) rfl)
theorem a_cw166 : Cond.code a_m166.1 a_m166.2.1 a_m166.2.2.1 a_m166.2.2.2.1 ∈ wsL_law := a_wchs_in _ (List.mem_of_getElem? (i := 33) rfl) _ (List.mem_of_getElem? (l := wsL_law_r34) (i := 2) rfl)
theorem a_cw167 : Cond.code a_m167.1 a_m167.2.1 a_m167.2.2.1 a_m167.2.2.2.1 ∈ wsL_law := a_wchs_in _ (List.mem_of_getElem? (i := 34) rfl) _ (List.mem_of_getElem? (l := wsL_law_r35) (i := 7) rfl)
theorem a_cw168 : Cond.code a_m168.1 a_m168.2.1 a_m168.2.2.1 a_m168.2.2.2.1 ∈ wsL_law := a_wchs_in _ (List.mem_of_getElem? (i := 34) rfl) _ (List.mem_of_getElem? (l := wsL_law_r35) (i := 3) rfl)
theorem a_cw169 : Cond.code a_m169.1 a_m169.2.1 a_m169.2.2.1 a_m169.2.2.2.1 ∈ wsL_law := a_wchs_in _ (List.mem_of_getElem? (i := 33) rfl) _ (List.mem_of_getElem? (l := wsL_law_r34) (i := 23) rfl)
theorem a_cw170 : Cond.code a_m170.1 a_m170.2.1 a_m170.2.2.1 a_m170.2.2.2.1 ∈ wsL_law := a_wchs_in _ (List.mem_of_getElem? (i := 34) rfl) _ (List.mem_of_getElem? (l := wsL_law_r35) (i := 15) rfl)
theorem a_cw171 : Cond.code a_m171.1 a_m171.2.1 a_m171.2.2.1 a_m171.2.2.2.1 ∈ wsL_law := a_wchs_in _ (List.mem_of_getElem? (i := 35) rfl) _ (List.mem_of_getElem? (l := wsL_law_r36) (i := 1) rfl)
theorem a_cw172 : Cond.code a_m172.1 a_m172.2.1 a_m172.2.2.1 a_m172.2.2.2.1 ∈ wsL_law := a_wchs_in _ (List.mem_of_getElem? (i := 35) rfl) _ (List.mem_of_getElem? (l := wsL_law_r36) (i := 10) rfl)
theorem a_cw173 : Cond.code a_m173.1 a_m173.2.1 a_m173.2.2.1 a_m173.2.2.2.1 ∈ wsL_law := a_wchs_in _ (List.mem_of_getElem? (i := 35) rfl) _ (List.mem_of_getElem? (l := wsL_law_r36) (i := 20) rfl)
theorem a_cw174 : Cond.code a_m174.1 a_m174.2.1 a_m174.2.2.1 a_m174.2.2.2.1 ∈ wsL_law := a_wchs_in _ (List.mem_of_getElem? (i := 36) rfl) _ (List.mem_of_getElem? (l := wsL_law_r37) (i := 13) rfl)
theorem a_cw_0 : ∀ M ∈ a_mt_0, Cond.code M.1 M.2.1 M.2.2.1 M.2.2.2.1 ∈ wsL_law := List.forall_mem_cons.mpr ⟨a_cw0, List.forall_mem_cons.mpr ⟨a_cw1, List.forall_mem_cons.mpr ⟨a_cw2, List.forall_mem_cons.mpr ⟨a_cw3, List.forall_mem_cons.mpr ⟨a_cw4, List.forall_mem_cons.mpr ⟨a_cw5, List.forall_mem_cons.mpr ⟨a_cw6, List.forall_mem_cons.mpr ⟨a_cw7, List.forall_mem_cons.mpr ⟨a_cw8, List.forall_mem_cons.mpr ⟨a_cw9, List.forall_mem_cons.mpr ⟨a_cw10, List.forall_mem_cons.mpr ⟨a_cw11, List.forall_mem_cons.mpr ⟨a_cw12, List.forall_mem_cons.mpr ⟨a_cw13, List.forall_mem_cons.mpr ⟨a_cw14, List.forall_mem_cons.mpr ⟨a_cw15, fun _ h => absurd h List.not_mem_nil⟩⟩⟩⟩⟩⟩⟩⟩⟩⟩⟩⟩⟩⟩⟩⟩
theorem a_z_0 : ∀ p ∈ a_ct_0.zip a_mt_0, (p.1.all fun e => a_chk p.2 e.1 e.2) = true := List.forall_mem_cons.mpr ⟨a_k0, List.forall_mem_cons.mpr ⟨a_k1, List.forall_mem_cons.mpr ⟨a_k2, List.forall_mem_cons.mpr ⟨a_k3, List.forall_mem_cons.mpr ⟨a_k4, List.forall_mem_cons.mpr ⟨a_k5, List.forall_mem_cons.mpr ⟨a_k6, List.forall_mem_cons.mpr ⟨a_k7, List.forall_mem_cons.mpr ⟨a_k8, List.forall_mem_cons.mpr ⟨a_k9, List.forall_mem_cons.mpr ⟨a_k10, List.forall_mem_cons.mpr ⟨a_k11, List.forall_mem_cons.mpr ⟨a_k12, List.forall_mem_cons.mpr ⟨a_k13, List.forall_mem_cons.mpr ⟨a_k14, List.forall_mem_cons.mpr ⟨a_k15, fun _ h => absurd h List.not_mem_nil⟩⟩⟩⟩⟩⟩⟩⟩⟩⟩⟩⟩⟩⟩⟩⟩
theorem a_cw_1 : ∀ M ∈ a_mt_1, Cond.code M.1 M.2.1 M.2.2.1 M.2.2.2.1 ∈ wsL_law := List.forall_mem_cons.mpr ⟨a_cw16, List.forall_mem_cons.mpr ⟨a_cw17, List.forall_mem_cons.mpr ⟨a_cw18, List.forall_mem_cons.mpr ⟨a_cw19, List.forall_mem_cons.mpr ⟨a_cw20, List.forall_mem_cons.mpr ⟨a_cw21, List.forall_mem_cons.mpr ⟨a_cw22, List.forall_mem_cons.mpr ⟨a_cw23, List.forall_mem_cons.mpr ⟨a_cw24, List.forall_mem_cons.mpr ⟨a_cw25, List.forall_mem_cons.mpr ⟨a_cw26, List.forall_mem_cons.mpr ⟨a_cw27, List.forall_mem_cons.mpr ⟨a_cw28, List.forall_mem_cons.mpr ⟨a_cw29, List.forall_mem_cons.mpr ⟨a_cw30, List.forall_mem_cons.mpr ⟨a_cw31, fun _ h => absurd h List.not_mem_nil⟩⟩⟩⟩⟩⟩⟩⟩⟩⟩⟩⟩⟩⟩⟩⟩
theorem a_z_1 : ∀ p ∈ a_ct_1.zip a_mt_1, (p.1.all fun e => a_chk p.2 e.1 e.2) = true := List.forall_mem_cons.mpr ⟨a_k16, List.forall_mem_cons.mpr ⟨a_k17, List.forall_mem_cons.mpr ⟨a_k18, List.forall_mem_cons.mpr ⟨a_k19, List.forall_mem_cons.mpr ⟨a_k20, List.forall_mem_cons.mpr ⟨a_k21, List.forall_mem_cons.mpr ⟨a_k22, List.forall_mem_cons.mpr ⟨a_k23, List.forall_mem_cons.mpr ⟨a_k24, List.forall_mem_cons.mpr ⟨a_k25, List.forall_mem_cons.mpr ⟨a_k26, List.forall_mem_cons.mpr ⟨a_k27, List.forall_mem_cons.mpr ⟨a_k28, List.forall_mem_cons.mpr ⟨a_k29, List.forall_mem_cons.mpr ⟨a_k30, List.forall_mem_cons.mpr ⟨a_k31, fun _ h => absurd h List.not_mem_nil⟩⟩⟩⟩⟩⟩⟩⟩⟩⟩⟩⟩⟩⟩⟩⟩
theorem a_cw_2 : ∀ M ∈ a_mt_2, Cond.code M.1 M.2.1 M.2.2.1 M.2.2.2.1 ∈ wsL_law := List.forall_mem_cons.mpr ⟨a_cw32, List.forall_mem_cons.mpr ⟨a_cw33, List.forall_mem_cons.mpr ⟨a_cw34, List.forall_mem_cons.mpr ⟨a_cw35, List.forall_mem_cons.mpr ⟨a_cw36, List.forall_mem_cons.mpr ⟨a_cw37, List.forall_mem_cons.mpr ⟨a_cw38, List.forall_mem_cons.mpr ⟨a_cw39, List.forall_mem_cons.mpr ⟨a_cw40, List.forall_mem_cons.mpr ⟨a_cw41, List.forall_mem_cons.mpr ⟨a_cw42, List.forall_mem_cons.mpr ⟨a_cw43, List.forall_mem_cons.mpr ⟨a_cw44, List.forall_mem_cons.mpr ⟨a_cw45, List.forall_mem_cons.mpr ⟨a_cw46, List.forall_mem_cons.mpr ⟨a_cw47, fun _ h => absurd h List.not_mem_nil⟩⟩⟩⟩⟩⟩⟩⟩⟩⟩⟩⟩⟩⟩⟩⟩
theorem a_z_2 : ∀ p ∈ a_ct_2.zip a_mt_2, (p.1.all fun e => a_chk p.2 e.1 e.2) = true := List.forall_mem_cons.mpr ⟨a_k32, List.forall_mem_cons.mpr ⟨a_k33, List.forall_mem_cons.mpr ⟨a_k34, List.forall_mem_cons.mpr ⟨a_k35, List.forall_mem_cons.mpr ⟨a_k36, List.forall_mem_cons.mpr ⟨a_k37, List.forall_mem_cons.mpr ⟨a_k38, List.forall_mem_cons.mpr ⟨a_k39, List.forall_mem_cons.mpr ⟨a_k40, List.forall_mem_cons.mpr ⟨a_k41, List.forall_mem_cons.mpr ⟨a_k42, List.forall_mem_cons.mpr ⟨a_k43, List.forall_mem_cons.mpr ⟨a_k44, List.forall_mem_cons.mpr ⟨a_k45, List.forall_mem_cons.mpr ⟨a_k46, List.forall_mem_cons.mpr ⟨a_k47, fun _ h => absurd h List.not_mem_nil⟩⟩⟩⟩⟩⟩⟩⟩⟩⟩⟩⟩⟩⟩⟩⟩
theorem a_cw_3 : ∀ M ∈ a_mt_3, Cond.code M.1 M.2.1 M.2.2.1 M.2.2.2.1 ∈ wsL_law := List.forall_mem_cons.mpr ⟨a_cw48, List.forall_mem_cons.mpr ⟨a_cw49, List.forall_mem_cons.mpr ⟨a_cw50, List.forall_mem_cons.mpr ⟨a_cw51, List.forall_mem_cons.mpr ⟨a_cw52, List.forall_mem_cons.mpr ⟨a_cw53, List.forall_mem_cons.mpr ⟨a_cw54, List.forall_mem_cons.mpr ⟨a_cw55, List.forall_mem_cons.mpr ⟨a_cw56, List.forall_mem_cons.mpr ⟨a_cw57, List.forall_mem_cons.mpr ⟨a_cw58, List.forall_mem_cons.mpr ⟨a_cw59, List.forall_mem_cons.mpr ⟨a_cw60, List.forall_mem_cons.mpr ⟨a_cw61, List.forall_mem_cons.mpr ⟨a_cw62, List.forall_mem_cons.mpr ⟨a_cw63, fun _ h => absurd h List.not_mem_nil⟩⟩⟩⟩⟩⟩⟩⟩⟩⟩⟩⟩⟩⟩⟩⟩
theorem a_z_3 : ∀ p ∈ a_ct_3.zip a_mt_3, (p.1.all fun e => a_chk p.2 e.1 e.2) = true := List.forall_mem_cons.mpr ⟨a_k48, List.forall_mem_cons.mpr ⟨a_k49, List.forall_mem_cons.mpr ⟨a_k50, List.forall_mem_cons.mpr ⟨a_k51, List.forall_mem_cons.mpr ⟨a_k52, List.forall_mem_cons.mpr ⟨a_k53, List.forall_mem_cons.mpr ⟨a_k54, List.forall_mem_cons.mpr ⟨a_k55, List.forall_mem_cons.mpr ⟨a_k56, List.forall_mem_cons.mpr ⟨a_k57, List.forall_mem_cons.mpr ⟨a_k58, List.forall_mem_cons.mpr ⟨a_k59, List.forall_mem_cons.mpr ⟨a_k60, List.forall_mem_cons.mpr ⟨a_k61, List.forall_mem_cons.mpr ⟨a_k62, List.forall_mem_cons.mpr ⟨a_k63, fun _ h => absurd h List.not_mem_nil⟩⟩⟩⟩⟩⟩⟩⟩⟩⟩⟩⟩⟩⟩⟩⟩
theorem a_cw_4 : ∀ M ∈ a_mt_4, Cond.code M.1 M.2.1 M.2.2.1 M.2.2.2.1 ∈ wsL_law := List.forall_mem_cons.mpr ⟨a_cw64, List.forall_mem_cons.mpr ⟨a_cw65, List.forall_mem_cons.mpr ⟨a_cw66, List.forall_mem_cons.mpr ⟨a_cw67, List.forall_mem_cons.mpr ⟨a_cw68, List.forall_mem_cons.mpr ⟨a_cw69, List.forall_mem_cons.mpr ⟨a_cw70, List.forall_mem_cons.mpr ⟨a_cw71, List.forall_mem_cons.mpr ⟨a_cw72, List.forall_mem_cons.mpr ⟨a_cw73, List.forall_mem_cons.mpr ⟨a_cw74, List.forall_mem_cons.mpr ⟨a_cw75, List.forall_mem_cons.mpr ⟨a_cw76, List.forall_mem_cons.mpr ⟨a_cw77, List.forall_mem_cons.mpr ⟨a_cw78, List.forall_mem_cons.mpr ⟨a_cw79, fun _ h => absurd h List.not_mem_nil⟩⟩⟩⟩⟩⟩⟩⟩⟩⟩⟩⟩⟩⟩⟩⟩
theorem a_z_4 : ∀ p ∈ a_ct_4.zip a_mt_4, (p.1.all fun e => a_chk p.2 e.1 e.2) = true := List.forall_mem_cons.mpr ⟨a_k64, List.forall_mem_cons.mpr ⟨a_k65, List.forall_mem_cons.mpr ⟨a_k66, List.forall_mem_cons.mpr ⟨a_k67, List.forall_mem_cons.mpr ⟨a_k68, List.forall_mem_cons.mpr ⟨a_k69, List.forall_mem_cons.mpr ⟨a_k70, List.forall_mem_cons.mpr ⟨a_k71, List.forall_mem_cons.mpr ⟨a_k72, List.forall_mem_cons.mpr ⟨a_k73, List.forall_mem_cons.mpr ⟨a_k74, List.forall_mem_cons.mpr ⟨a_k75, List.forall_mem_cons.mpr ⟨a_k76, List.forall_mem_cons.mpr ⟨a_k77, List.forall_mem_cons.mpr ⟨a_k78, List.forall_mem_cons.mpr ⟨a_k79, fun _ h => absurd h List.not_mem_nil⟩⟩⟩⟩⟩⟩⟩⟩⟩⟩⟩⟩⟩⟩⟩⟩
theorem a_cw_5 : ∀ M ∈ a_mt_5, Cond.code M.1 M.2.1 M.2.2.1 M.2.2.2.1 ∈ wsL_law := List.forall_mem_cons.mpr ⟨a_cw80, List.forall_mem_cons.mpr ⟨a_cw81, List.forall_mem_cons.mpr ⟨a_cw82, List.forall_mem_cons.mpr ⟨a_cw83, List.forall_mem_cons.mpr ⟨a_cw84, List.forall_mem_cons.mpr ⟨a_cw85, List.forall_mem_cons.mpr ⟨a_cw86, List.forall_mem_cons.mpr ⟨a_cw87, List.forall_mem_cons.mpr ⟨a_cw88, List.forall_mem_cons.mpr ⟨a_cw89, List.forall_mem_cons.mpr ⟨a_cw90, List.forall_mem_cons.mpr ⟨a_cw91, List.forall_mem_cons.mpr ⟨a_cw92, List.forall_mem_cons.mpr ⟨a_cw93, List.forall_mem_cons.mpr ⟨a_cw94, List.forall_mem_cons.mpr ⟨a_cw95, fun _ h => absurd h List.not_mem_nil⟩⟩⟩⟩⟩⟩⟩⟩⟩⟩⟩⟩⟩⟩⟩⟩
theorem a_z_5 : ∀ p ∈ a_ct_5.zip a_mt_5, (p.1.all fun e => a_chk p.2 e.1 e.2) = true := List.forall_mem_cons.mpr ⟨a_k80, List.forall_mem_cons.mpr ⟨a_k81, List.forall_mem_cons.mpr ⟨a_k82, List.forall_mem_cons.mpr ⟨a_k83, List.forall_mem_cons.mpr ⟨a_k84, List.forall_mem_cons.mpr ⟨a_k85, List.forall_mem_cons.mpr ⟨a_k86, List.forall_mem_cons.mpr ⟨a_k87, List.forall_mem_cons.mpr ⟨a_k88, List.forall_mem_cons.mpr ⟨a_k89, List.forall_mem_cons.mpr ⟨a_k90, List.forall_mem_cons.mpr ⟨a_k91, List.forall_mem_cons.mpr ⟨a_k92, List.forall_mem_cons.mpr ⟨a_k93, List.forall_mem_cons.mpr ⟨a_k94, List.forall_mem_cons.mpr ⟨a_k95, fun _ h => absurd h List.not_mem_nil⟩⟩⟩⟩⟩⟩⟩⟩⟩⟩⟩⟩⟩⟩⟩⟩
theorem a_cw_6 : ∀ M ∈ a_mt_6, Cond.code M.1 M.2.1 M.2.2.1 M.2.2.2.1 ∈ wsL_law := List.forall_mem_cons.mpr ⟨a_cw96, List.forall_mem_cons.mpr ⟨a_cw97, List.forall_mem_cons.mpr ⟨a_cw98, List.forall_mem_cons.mpr ⟨a_cw99, List.forall_mem_cons.mpr ⟨a_cw100, List.forall_mem_cons.mpr ⟨a_cw101, List.forall_mem_cons.mpr ⟨a_cw102, List.forall_mem_cons.mpr ⟨a_cw103, List.forall_mem_cons.mpr ⟨a_cw104, List.forall_mem_cons.mpr ⟨a_cw105, List.forall_mem_cons.mpr ⟨a_cw106, List.forall_mem_cons.mpr ⟨a_cw107, List.forall_mem_cons.mpr ⟨a_cw108, List.forall_mem_cons.mpr ⟨a_cw109, List.forall_mem_cons.mpr ⟨a_cw110, List.forall_mem_cons.mpr ⟨a_cw111, fun _ h => absurd h List.not_mem_nil⟩⟩⟩⟩⟩⟩⟩⟩⟩⟩⟩⟩⟩⟩⟩⟩
theorem a_z_6 : ∀ p ∈ a_ct_6.zip a_mt_6, (p.1.all fun e => a_chk p.2 e.1 e.2) = true := List.forall_mem_cons.mpr ⟨a_k96, List.forall_mem_cons.mpr ⟨a_k97, List.forall_mem_cons.mpr ⟨a_k98, List.forall_mem_cons.mpr ⟨a_k99, List.forall_mem_cons.mpr ⟨a_k100, List.forall_mem_cons.mpr ⟨a_k101, List.forall_mem_cons.mpr ⟨a_k102, List.forall_mem_cons.mpr ⟨a_k103, List.forall_mem_cons.mpr ⟨a_k104, List.forall_mem_cons.mpr ⟨a_k105, List.forall_mem_cons.mpr ⟨a_k106, List.forall_mem_cons.mpr ⟨a_k107, List.forall_mem_cons.mpr ⟨a_k108, List.forall_mem_cons.mpr ⟨a_k109, List.forall_mem_cons.mpr ⟨a_k110, List.forall_mem_cons.mpr ⟨a_k111, fun _ h => absurd h List.not_mem_nil⟩⟩⟩⟩⟩⟩⟩⟩⟩⟩⟩⟩⟩⟩⟩⟩
theorem a_cw_7 : ∀ M ∈ a_mt_7, Cond.code M.1 M.2.1 M.2.2.1 M.2.2.2.1 ∈ wsL_law := List.forall_mem_cons.mpr ⟨a_cw112, List.forall_mem_cons.mpr ⟨a_cw113, List.forall_mem_cons.mpr ⟨a_cw114, List.forall_mem_cons.mpr ⟨a_cw115, List.forall_mem_cons.mpr ⟨a_cw116, List.forall_mem_cons.mpr ⟨a_cw117, List.forall_mem_cons.mpr ⟨a_cw118, List.forall_mem_cons.mpr ⟨a_cw119, List.forall_mem_cons.mpr ⟨a_cw120, List.forall_mem_cons.mpr ⟨a_cw121, List.forall_mem_cons.mpr ⟨a_cw122, List.forall_mem_cons.mpr ⟨a_cw123, List.forall_mem_cons.mpr ⟨a_cw124, List.forall_mem_cons.mpr ⟨a_cw125, List.forall_mem_cons.mpr ⟨a_cw126, List.forall_mem_cons.mpr ⟨a_cw127, fun _ h => absurd h List.not_mem_nil⟩⟩⟩⟩⟩⟩⟩⟩⟩⟩⟩⟩⟩⟩⟩⟩
theorem a_z_7 : ∀ p ∈ a_ct_7.zip a_mt_7, (p.1.all fun e => a_chk p.2 e.1 e.2) = true := List.forall_mem_cons.mpr ⟨a_k112, List.forall_mem_cons.mpr ⟨a_k113, List.forall_mem_cons.mpr ⟨a_k114, List.forall_mem_cons.mpr ⟨a_k115, List.forall_mem_cons.mpr ⟨a_k116, List.forall_mem_cons.mpr ⟨a_k117, List.forall_mem_cons.mpr ⟨a_k118, List.forall_mem_cons.mpr ⟨a_k119, List.forall_mem_cons.mpr ⟨a_k120, List.forall_mem_cons.mpr ⟨a_k121, List.forall_mem_cons.mpr ⟨a_k122, List.forall_mem_cons.mpr ⟨a_k123, List.forall_mem_cons.mpr ⟨a_k124, List.forall_mem_cons.mpr ⟨a_k125, List.forall_mem_cons.mpr ⟨a_k126, List.forall_mem_cons.mpr ⟨a_k127, fun _ h => absurd h List.not_mem_nil⟩⟩⟩⟩⟩⟩⟩⟩⟩⟩⟩⟩⟩⟩⟩⟩
theorem a_cw_8 : ∀ M ∈ a_mt_8, Cond.code M.1 M.2.1 M.2.2.1 M.2.2.2.1 ∈ wsL_law := List.forall_mem_cons.mpr ⟨a_cw128, List.forall_mem_cons.mpr ⟨a_cw129, List.forall_mem_cons.mpr ⟨a_cw130, List.forall_mem_cons.mpr ⟨a_cw131, List.forall_mem_cons.mpr ⟨a_cw132, List.forall_mem_cons.mpr ⟨a_cw133, List.forall_mem_cons.mpr ⟨a_cw134, List.forall_mem_cons.mpr ⟨a_cw135, List.forall_mem_cons.mpr ⟨a_cw136, List.forall_mem_cons.mpr ⟨a_cw137, List.forall_mem_cons.mpr ⟨a_cw138, List.forall_mem_cons.mpr ⟨a_cw139, List.forall_mem_cons.mpr ⟨a_cw140, List.forall_mem_cons.mpr ⟨a_cw141, List.forall_mem_cons.mpr ⟨a_cw142, List.forall_mem_cons.mpr ⟨a_cw143, fun _ h => absurd h List.not_mem_nil⟩⟩⟩⟩⟩⟩⟩⟩⟩⟩⟩⟩⟩⟩⟩⟩
theorem a_z_8 : ∀ p ∈ a_ct_8.zip a_mt_8, (p.1.all fun e => a_chk p.2 e.1 e.2) = true := List.forall_mem_cons.mpr ⟨a_k128, List.forall_mem_cons.mpr ⟨a_k129, List.forall_mem_cons.mpr ⟨a_k130, List.forall_mem_cons.mpr ⟨a_k131, List.forall_mem_cons.mpr ⟨a_k132, List.forall_mem_cons.mpr ⟨a_k133, List.forall_mem_cons.mpr ⟨a_k134, List.forall_mem_cons.mpr ⟨a_k135, List.forall_mem_cons.mpr ⟨a_k136, List.forall_mem_cons.mpr ⟨a_k137, List.forall_mem_cons.mpr ⟨a_k138, List.forall_mem_cons.mpr ⟨a_k139, List.forall_mem_cons.mpr ⟨a_k140, List.forall_mem_cons.mpr ⟨a_k141, List.forall_mem_cons.mpr ⟨a_k142, List.forall_mem_cons.mpr ⟨a_k143, fun _ h => absurd h List.not_mem_nil⟩⟩⟩⟩⟩⟩⟩⟩⟩⟩⟩⟩⟩⟩⟩⟩
theorem a_cw_9 : ∀ M ∈ a_mt_9, Cond.code M.1 M.2.1 M.2.2.1 M.2.2.2.1 ∈ wsL_law := List.forall_mem_cons.mpr ⟨a_cw144, List.forall_mem_cons.mpr ⟨a_cw145, List.forall_mem_cons.mpr ⟨a_cw146, List.forall_mem_cons.mpr ⟨a_cw147, List.forall_mem_cons.mpr ⟨a_cw148, List.forall_mem_cons.mpr ⟨a_cw149, List.forall_mem_cons.mpr ⟨a_cw150, List.forall_mem_cons.mpr ⟨a_cw151, List.forall_mem_cons.mpr ⟨a_cw152, List.forall_mem_cons.mpr ⟨a_cw153, List.forall_mem_cons.mpr ⟨a_cw154, List.forall_mem_cons.mpr ⟨a_cw155, List.forall_mem_cons.mpr ⟨a_cw156, List.forall_mem_cons.mpr ⟨a_cw157, List.forall_mem_cons.mpr ⟨a_cw158, List.forall_mem_cons.mpr ⟨a_cw159, fun _ h => absurd h List.not_mem_nil⟩⟩⟩⟩⟩⟩⟩⟩⟩⟩⟩⟩⟩⟩⟩⟩
theorem a_z_9 : ∀ p ∈ a_ct_9.zip a_mt_9, (p.1.all fun e => a_chk p.2 e.1 e.2) = true := List.forall_mem_cons.mpr ⟨a_k144, List.forall_mem_cons.mpr ⟨a_k145, List.forall_mem_cons.mpr ⟨a_k146, List.forall_mem_cons.mpr ⟨a_k147, List.forall_mem_cons.mpr ⟨a_k148, List.forall_mem_cons.mpr ⟨a_k149, List.forall_mem_cons.mpr ⟨a_k150, List.forall_mem_cons.mpr ⟨a_k151, List.forall_mem_cons.mpr ⟨a_k152, List.forall_mem_cons.mpr ⟨a_k153, List.forall_mem_cons.mpr ⟨a_k154, List.forall_mem_cons.mpr ⟨a_k155, List.forall_mem_cons.mpr ⟨a_k156, List.forall_mem_cons.mpr ⟨a_k157, List.forall_mem_cons.mpr ⟨a_k158, List.forall_mem_cons.mpr ⟨a_k159, fun _ h => absurd h List.not_mem_nil⟩⟩⟩⟩⟩⟩⟩⟩⟩⟩⟩⟩⟩⟩⟩⟩
theorem a_cw_10 : ∀ M ∈ a_mt_10, Cond.code M.1 M.2.1 M.2.2.1 M.2.2.2.1 ∈ wsL_law := List.forall_mem_cons.mpr ⟨a_cw160, List.forall_mem_cons.mpr ⟨a_cw161, List.forall_mem_cons.mpr ⟨a_cw162, List.forall_mem_cons.mpr ⟨a_cw163, List.forall_mem_cons.mpr ⟨a_cw164, List.forall_mem_cons.mpr ⟨a_cw165, List.forall_mem_cons.mpr ⟨a_cw166, List.forall_mem_cons.mpr ⟨a_cw167, List.forall_mem_cons.mpr ⟨a_cw168, List.forall_mem_cons.mpr ⟨a_cw169, List.forall_mem_cons.mpr ⟨a_cw170, List.forall_mem_cons.mpr ⟨a_cw171, List.forall_mem_cons.mpr ⟨a_cw172, List.forall_mem_cons.mpr ⟨a_cw173, List.forall_mem_cons.mpr ⟨a_cw174, fun _ h => absurd h List.not_mem_nil⟩⟩⟩⟩⟩⟩⟩⟩⟩⟩⟩⟩⟩⟩⟩
theorem a_z_10 : ∀ p ∈ a_ct_10.zip a_mt_10, (p.1.all fun e => a_chk p.2 e.1 e.2) = true := List.forall_mem_cons.mpr ⟨a_k160, List.forall_mem_cons.mpr ⟨a_k161, List.forall_mem_cons.mpr ⟨a_k162, List.forall_mem_cons.mpr ⟨a_k163, List.forall_mem_cons.mpr ⟨a_k164, List.forall_mem_cons.mpr ⟨a_k165, List.forall_mem_cons.mpr ⟨a_k166, List.forall_mem_cons.mpr ⟨a_k167, List.forall_mem_cons.mpr ⟨a_k168, List.forall_mem_cons.mpr ⟨a_k169, List.forall_mem_cons.mpr ⟨a_k170, List.forall_mem_cons.mpr ⟨a_k171, List.forall_mem_cons.mpr ⟨a_k172, List.forall_mem_cons.mpr ⟨a_k173, List.forall_mem_cons.mpr ⟨a_k174, fun _ h => absurd h List.not_mem_nil⟩⟩⟩⟩⟩⟩⟩⟩⟩⟩⟩⟩⟩⟩⟩
theorem a_cws : ∀ M ∈ a_mtl, Cond.code M.1 M.2.1 M.2.2.1 M.2.2.2.1 ∈ wsL_law := by
  unfold a_mtl
  exact (by
  rw [List.forall_mem_append]
  exact ⟨a_cw_0, (by
  rw [List.forall_mem_append]
  exact ⟨a_cw_1, (by
  rw [List.forall_mem_append]
  exact ⟨a_cw_2, (by
  rw [List.forall_mem_append]
  exact ⟨a_cw_3, (by
  rw [List.forall_mem_append]
  exact ⟨a_cw_4, (by
  rw [List.forall_mem_append]
  exact ⟨a_cw_5, (by
  rw [List.forall_mem_append]
  exact ⟨a_cw_6, (by
  rw [List.forall_mem_append]
  exact ⟨a_cw_7, (by
  rw [List.forall_mem_append]
  exact ⟨a_cw_8, (by
  rw [List.forall_mem_append]
  exact ⟨a_cw_9, a_cw_10⟩)⟩)⟩)⟩)⟩)⟩)⟩)⟩)⟩)⟩)
theorem a_zl : ∀ p ∈ a_ctl.zip a_mtl, (p.1.all fun e => a_chk p.2 e.1 e.2) = true := by
  unfold a_ctl a_mtl
  exact (by
  rw [List.zip_append (show a_ct_0.length = a_mt_0.length from rfl), List.forall_mem_append]
  exact ⟨a_z_0, (by
  rw [List.zip_append (show a_ct_1.length = a_mt_1.length from rfl), List.forall_mem_append]
  exact ⟨a_z_1, (by
  rw [List.zip_append (show a_ct_2.length = a_mt_2.length from rfl), List.forall_mem_append]
  exact ⟨a_z_2, (by
  rw [List.zip_append (show a_ct_3.length = a_mt_3.length from rfl), List.forall_mem_append]
  exact ⟨a_z_3, (by
  rw [List.zip_append (show a_ct_4.length = a_mt_4.length from rfl), List.forall_mem_append]
  exact ⟨a_z_4, (by
  rw [List.zip_append (show a_ct_5.length = a_mt_5.length from rfl), List.forall_mem_append]
  exact ⟨a_z_5, (by
  rw [List.zip_append (show a_ct_6.length = a_mt_6.length from rfl), List.forall_mem_append]
  exact ⟨a_z_6, (by
  rw [List.zip_append (show a_ct_7.length = a_mt_7.length from rfl), List.forall_mem_append]
  exact ⟨a_z_7, (by
  rw [List.zip_append (show a_ct_8.length = a_mt_8.length from rfl), List.forall_mem_append]
  exact ⟨a_z_8, (by
  rw [List.zip_append (show a_ct_9.length = a_mt_9.length from rfl), List.forall_mem_append]
  exact ⟨a_z_9, a_z_10⟩)⟩)⟩)⟩)⟩)⟩)⟩)⟩)⟩)⟩)
theorem a_lenl : a_ctl.length = a_mtl.length := by decide +kernel
theorem a_z : ∀ p ∈ a_ct.zip a_mt, (p.1.all fun e => a_chk p.2 e.1 e.2) = true := by
  unfold a_ct a_mt
  rw [List.zip_append a_lenl, List.forall_mem_append]
  exact ⟨a_zl, List.forall_mem_cons.mpr ⟨a_k175, fun _ h => absurd h List.not_mem_nil⟩⟩
end
section
/-! the abstract machine's runs, sound against the machine -/
theorem a_lkm {k : Nat} {v : aR} : ∀ {l : List (Nat × aR)}, l.lookup k = some v → (k, v) ∈ l
  | [], h => by cases h
  | (a, b) :: l, h => by
    rw [List.lookup_cons] at h
    by_cases hk : k = a
    · subst hk
      simp only [BEq.rfl] at h
      cases h
      exact List.mem_cons_self
    · rw [show (k == a) = false by simpa using hk] at h
      exact List.mem_cons_of_mem _ (a_lkm h)
theorem a_len_eq : a_ct.length = a_mt.length := by decide +kernel
theorem a_look_ok {q pc : Nat} {r : aR} (h : a_look q pc = some r) : ∃ M, a_mt[q]? = some M ∧ a_chk M pc r = true := by
  unfold a_look at h
  rw [List.getD_eq_getElem?_getD] at h
  cases hc : a_ct[q]? with
  | none => rw [hc] at h; cases h
  | some c =>
    rw [hc] at h
    have hm := a_lkm h
    have hq := (List.getElem?_eq_some_iff.mp hc).1
    have hM : a_mt[q]? = some (a_mt[q]'(a_len_eq ▸ hq)) := List.getElem?_eq_getElem _
    refine ⟨_, hM, ?_⟩
    have hz : (a_ct.zip a_mt)[q]? = some (c, a_mt[q]'(a_len_eq ▸ hq)) := List.getElem?_zip_eq_some.mpr ⟨hc, hM⟩
    exact List.all_eq_true.mp (a_z _ (List.mem_of_getElem? hz)) (pc, r) hm
theorem a_mtl_ok {q : Nat} {M : aMt} (h : a_mt[q]? = some M) (hq : q < 175) : M ∈ a_mtl := by
  unfold a_mt at h
  rw [List.getElem?_append_left (show q < a_mtl.length by rw [show a_mtl.length = 175 by decide +kernel]; exact hq)] at h
  exact List.mem_of_getElem? h
theorem a_step_keeps {ins : Instr} {a b pc : Nat} {ls : aL} {st : List aV} {m : aM} {pc1 : Nat} {ls1 : aL} {st1 : List aV} {m1 : aM} (h : a_step ins a b pc ls st m = some (pc1, ls1, st1, m1)) : ∀ c, 41 ≤ c → m1 c = m c := by
  cases ins with
  | aload_n kk => obtain ⟨_, _, _, h⟩ := a_lr_i h; cases h; exact fun _ _ => rfl
  | aload kk => obtain ⟨_, _, _, h⟩ := a_lr_i h; cases h; exact fun _ _ => rfl
  | iload_n kk => obtain ⟨_, _, h⟩ := a_l1_i h; cases h; exact fun _ _ => rfl
  | iload kk => obtain ⟨_, _, h⟩ := a_l1_i h; cases h; exact fun _ _ => rfl
  | istore_n kk => obtain ⟨_, _, _, h⟩ := a_p1_i h; obtain ⟨_, h⟩ := a_if_i h; cases h; exact fun _ _ => rfl
  | istore kk => obtain ⟨_, _, _, h⟩ := a_p1_i h; obtain ⟨_, h⟩ := a_if_i h; cases h; exact fun _ _ => rfl
  | astore_n kk => obtain ⟨_, _, _, _, h⟩ := a_pr_i h; obtain ⟨_, h⟩ := a_if_i h; cases h; exact fun _ _ => rfl
  | iinc kk n => obtain ⟨_, _, h⟩ := a_l1_i h; obtain ⟨_, h⟩ := a_if_i h; cases h; exact fun _ _ => rfl
  | iconst n => cases h; exact fun _ _ => rfl
  | bipush n => cases h; exact fun _ _ => rfl
  | sipush n => cases h; exact fun _ _ => rfl
  | iadd => obtain ⟨_, _, _, _, h⟩ := a_p2_i h; cases h; exact fun _ _ => rfl
  | isub => obtain ⟨_, _, _, _, h⟩ := a_p2_i h; cases h; exact fun _ _ => rfl
  | imul => obtain ⟨_, _, _, _, h⟩ := a_p2_i h; cases h; exact fun _ _ => rfl
  | iand => obtain ⟨_, _, _, _, h⟩ := a_p2_i h; cases h; exact fun _ _ => rfl
  | idiv => obtain ⟨_, _, _, _, h⟩ := a_p2_i h; obtain ⟨_, h⟩ := a_if_i h; cases h; exact fun _ _ => rfl
  | irem => obtain ⟨_, _, _, _, h⟩ := a_p2_i h; obtain ⟨_, h⟩ := a_if_i h; cases h; exact fun _ _ => rfl
  | dup => obtain ⟨_, _, _, h⟩ := a_p0_i h; cases h; exact fun _ _ => rfl
  | dup2 => obtain ⟨_, _, _, _, h⟩ := a_pv_i h; cases h; exact fun _ _ => rfl
  | pop => obtain ⟨_, _, _, h⟩ := a_p0_i h; cases h; exact fun _ _ => rfl
  | goto o => cases h; exact fun _ _ => rfl
  | ifCond cnd o => obtain ⟨_, _, _, h⟩ := a_p1_i h; cases h; exact fun _ _ => rfl
  | if_icmp cnd o => obtain ⟨_, _, _, _, h⟩ := a_p2_i h; cases h; exact fun _ _ => rfl
  | tableswitch dflt lo hi offs => obtain ⟨_, _, _, h⟩ := a_p1_i h; obtain ⟨_, h⟩ := a_if_i h; cases h; exact fun _ _ => rfl
  | lookupswitch dflt ps => obtain ⟨_, _, _, h⟩ := a_p1_i h; obtain ⟨_, h⟩ := a_if_i h; cases h; exact fun _ _ => rfl
  | getfield idx =>
    obtain ⟨_, _, _, _, h⟩ := a_pr_i h
    obtain ⟨_, h⟩ := a_if_i h
    split at h <;> (cases h; exact fun _ _ => rfl)
  | putfield idx =>
    obtain ⟨x, c1, d1, t, rfl, h⟩ := a_p1r_i h
    obtain ⟨⟨⟨hkd, -⟩, -⟩, h⟩ := a_if_i h
    cases h
    have hc41 : c1 < 41 := a_kd_3 (by rw [hkd]; exact Nat.zero_le _)
    exact fun c' hc' => a_up_c _ _ _ _ _ _ (by omega)
  | getstatic idx => cases h; exact fun _ _ => rfl
  | iaload => obtain ⟨_, _, _, _, _, h⟩ := a_p1r_i h; obtain ⟨_, h⟩ := a_if_i h; cases h; exact fun _ _ => rfl
  | baload => obtain ⟨_, _, _, _, _, h⟩ := a_p1r_i h; obtain ⟨_, h⟩ := a_if_i h; cases h; exact fun _ _ => rfl
  | aaload => obtain ⟨_, _, _, _, _, h⟩ := a_p1r_i h; obtain ⟨_, h⟩ := a_if_i h; cases h; exact fun _ _ => rfl
  | iastore =>
    obtain ⟨x, i, c1, d1, t, rfl, h⟩ := a_p2r_i h
    obtain ⟨⟨ht, -⟩, h⟩ := a_if_i h
    cases h
    have hc41 : c1 < 41 := a_kd_3 (by omega)
    exact fun c' hc' => a_up_c _ _ _ _ _ _ (by omega)
  | bastore =>
    obtain ⟨x, i, c1, d1, t, rfl, h⟩ := a_p2r_i h
    obtain ⟨⟨⟨ht, -⟩, -⟩, h⟩ := a_if_i h
    cases h
    have hc41 : c1 < 41 := a_kd_3 (by omega)
    exact fun c' hc' => a_up_c _ _ _ _ _ _ (by omega)
  | arraylength => obtain ⟨_, _, _, _, h⟩ := a_pr_i h; obtain ⟨_, h⟩ := a_if_i h; cases h; exact fun _ _ => rfl
  | invokestatic idx =>
    change (if a = 1000 then _ else _) = some _ at h
    by_cases ha : a = 1000
    · rw [if_pos ha] at h
      obtain ⟨_, _, _, _, h⟩ := a_p2_i h; obtain ⟨_, h⟩ := a_if_i h; cases h; exact fun _ _ => rfl
    · rw [if_neg ha] at h
      by_cases ha1 : a = 1001
      · rw [if_pos ha1] at h
        obtain ⟨n, dp, c1, b1, sp, c0, b0, rfl, h⟩ := a_pcp_i h
        obtain ⟨⟨⟨t0, t1⟩, -⟩, h⟩ := a_if_i h
        cases h
        have hc1 : c1 < 41 := a_kd_3 (by omega)
        intro c' hc'
        funext b' j
        show (if c' = c1 ∧ b' = b1 then _ else _) = _
        rw [if_neg (fun q => by omega)]
      · rw [if_neg ha1] at h
        cases h
  | _ => exact absurd h (fun q => by cases (show (none : Option aS) = some _ from q))
theorem a_run_keeps : ∀ (n : Nat) {q pc : Nat} {ls : aL} {st : List aV} {m : aM} {r : Option aV} {m' : aM}, a_run n q pc ls st m = some (r, m') → ∀ c, 41 ≤ c → m' c = m c := by
  intro n
  induction n with
  | zero => intro q pc ls st m r m' h; cases h
  | succ n ih =>
    intro q pc ls st m r m' h
    unfold a_run at h
    split at h
    · cases h
    · split at h
      · rename_i hst
        exact fun c hc => (ih h c hc).trans (a_step_keeps hst c hc)
      · split at h
        · split at h
          · rename_i h1
            exact fun c hc => (ih h c hc).trans (ih h1 c hc)
          · cases h
        · split at h
          · cases h; exact fun _ _ => rfl
          · cases h
theorem a_ret_int {ret : Option FieldType} {ins : Instr} {st : List aV} {r : Option aV} (h : a_ret ret ins st = some r) : r = none ∨ ∃ v, r = some (.inl v) := by
  unfold a_ret at h
  split at h
  · cases h; exact Or.inr ⟨_, rfl⟩
  · obtain ⟨-, h⟩ := a_if_i h; cases h; exact Or.inr ⟨_, rfl⟩
  · cases h; exact Or.inl rfl
  · cases h
theorem a_run_int : ∀ (n : Nat) {q pc : Nat} {ls : aL} {st : List aV} {m : aM} {r : Option aV} {m' : aM}, a_run n q pc ls st m = some (r, m') → r = none ∨ ∃ v, r = some (.inl v) := by
  intro n
  induction n with
  | zero => intro q pc ls st m r m' h; cases h
  | succ n ih =>
    intro q pc ls st m r m' h
    unfold a_run at h
    split at h
    · cases h
    · split at h
      · exact ih h
      · split at h
        · split at h
          · exact ih h
          · cases h
        · split at h
          · rename_i hr
            cases h
            exact a_ret_int hr
          · cases h
def a_Pre (base : Nat) (D : va_G) (g : aG) (m : aM) (U : State) : Prop := a_Dyn base D g m U.heap ∧ a_Sta base D g m U
def a_Qc (base : Nat) (D : va_G) (g : aG) (r : Option aV) (m : aM) : Array Value → State → Outcome → State → Prop := match r with
  | some (.inl v) => va_Qi (S := Unit) (fun x _ => x = v) (fun _ t => a_Pre base D g m t) (a_A base)
  | none => va_Qv (S := Unit) (fun _ => True) (fun _ t => a_Pre base D g m t) (a_A base)
  | some (.inr _) => fun _ _ _ _ => False
def a_RM (d : Nat) : Room := { frames := d, cells := 0, slots := 0, locals := 28 * d }
theorem a_Sta_m {base : Nat} {D : va_G} {g : aG} {m m' : aM} {U : State} (hm : ∀ c, 41 ≤ c → m' c = m c) (h : a_Sta base D g m U) : a_Sta base D g m' U := by
  obtain ⟨a1, a2, a3, a6⟩ := h
  refine ⟨a1, fun c q1 q2 => ?_, ?_, a6⟩
  · rw [hm c q1]; exact a2 c q1 q2
  · rw [hm 46 (by omega), hm 47 (by omega)]; exact a3
theorem a_blind {base : Nat} {D : va_G} {g : aG} {m : aM} {as : List Value} : FrameBlind (va_Pc as (fun U => a_Pre base D g m U)) := fun _ U _ _ q => ⟨q.1, q.2.1, a_Sta_same (u := U) rfl rfl q.2.2⟩
/-- what the soundness of runs of n steps says -/
def a_Snd (l : Launch) (base : Nat) (D : va_G) (g : aG) (n : Nat) : Prop :=
  ∀ (q pc : Nat) (ls : aL) (st : List aV) (m : aM) (r : Option aV) (m' : aM), a_run n q pc ls st m = some (r, m') →
  ∀ (p : Program) (e : Env) (R : Room) (s : State) (mI : MethodId) (args : Array Value) (below : List Frame) (meth : Method) (cd : Code) (cells slots : Nat) (Q : State → Prop) (M : aMt), a_mt[q]? = some M →
  p.tables.exec = Jvm.exec → cd.code = M.2.1 → cd.maxLocals = M.2.2.1 → s.vm.findClass M.1.cls = some mI.cls → (∀ w ∈ wsL_law, w.before args s = true) →
  (M.2.2.2.2.1 ≤ R.frames ∧ 28 * M.2.2.2.2.1 ≤ R.locals ∧ cells ≤ R.cells ∧ slots ≤ R.slots) → a_Sta base D g m s → ∀ (H : Heap) (locs : List Loc), a_Dyn base D g m H → va_S (a_A base) s.heap H locs →
  ∀ (ls' : Array Slot), a_LS g ls ls' M.2.2.1 → (∀ v ∈ st, a_vv v) →
  (∀ (H1 : Heap) (locs1 : List Loc) (ls1 : Array Slot) (pc1 : Nat) (ins : Instr) (st1 : List aV), decode M.2.1 pc1 = .ok (ins, 1) → a_ret M.2.2.2.1 ins st1 = some r → a_Dyn base D g m' H1 → va_S (a_A base) s.heap H1 locs1 → (∀ c, 41 ≤ c → m' c = m c) →
    W p l e R s mI args below meth cd H1 locs1 cells slots Q (F0 mI pc1 ls1 (st1.map (a_cv g.2.2.2)))) →
  W p l e R s mI args below meth cd H locs cells slots Q (F0 mI pc ls' (st.map (a_cv g.2.2.2)))
theorem a_sl_len (ad : Nat → Nat → Nat) : ∀ as : List aV, (lg_sl (as.map (a_cv ad))).length = as.length
  | [] => rfl
  | v :: as => by
    have := a_sl_len ad as
    unfold lg_sl at this ⊢
    rw [List.map_cons, List.flatMap_cons, if_neg (by rw [a_cv_cat]; decide), List.length_append, this]
    show 1 + as.length = _
    rw [List.length_cons]
    omega
theorem a_good : GoodIn wsL_law wsL_law := fun w hw => ⟨hw, good_of_word (List.all_eq_true.mp (show wsL_law.all goodWord = true by decide +kernel) w hw)⟩
set_option maxHeartbeats 4000000 in
theorem a_met {l : Launch} {base : Nat} {D : va_G} {g : aG} {n : Nat} (hs : a_Snd l base D g n) {q : Nat} {as : List aV} {m : aM} {r : Option aV} {m' : aM} (hrun : a_run n q 0 (a_ent q as) [] m = some (r, m')) {y : MethodName} {cc : ByteArray} {maxL : Nat} {ret : Option FieldType} {dep k0 k1 k2 k3 k4 : Nat} (hM : a_mt[q]? = some (y, cc, maxL, ret, dep, k0, k1, k2, k3, k4)) (hpl : plainName y.cls = true) (hlen : as.length ≤ maxL) (hv : ∀ v ∈ as, a_vv v) :
    Met l y (Cond.code y cc maxL ret :: wsL_law) (a_RM dep) (va_Pc (as.map (a_cv g.2.2.2)) (fun U => a_Pre base D g m U)) (a_Qc base D g r m') 0 0 (a_A base) := by
  refine Met.ofW (cc := cc) (maxL := maxL) (ret := ret) hpl rfl ?_
  intro p e s mI args below meth cd s₁ B hml hv0
  obtain ⟨rfl, hpre⟩ := hv0
  have hts := atoms_spec (ws := Cond.code y cc maxL ret :: wsL_law) B.pre
  have hown : s.vm.findClass y.cls = some mI.cls := findClass_of_methodNamed B.named
  have hlocks := B.notSynchronized
  have hr := B.returns
  rw [lg_entry_eq]
  have hl := lv_entry (as.map (a_cv g.2.2.2)) (n := maxL) (by rw [a_sl_len]; exact hlen)
  generalize (lg_sl (as.map (a_cv g.2.2.2)) ++ List.replicate (maxL - (lg_sl (as.map (a_cv g.2.2.2))).length) Slot.unset).toArray = ls at hl ⊢
  have hent : a_ent q as = as.map some ++ List.replicate (maxL - as.length) none := by
    unfold a_ent a_ml
    rw [hM]
  have hLS : a_LS g (a_ent q as) ls maxL := by
    rw [hent]
    exact a_LS_entry as hlen hv hl
  refine hs q 0 (a_ent q as) [] m r m' hrun p e _ s mI _ below meth cd 0 0 _ _ hM B.exec B.bytes hml hown (fun w hw => hts w (List.mem_cons_of_mem _ hw)) ⟨Nat.le_refl _, Nat.le_refl _, Nat.le_refl _, Nat.le_refl _⟩ hpre.2 s.heap [] hpre.1 va_S.rf ls hLS (fun v h9 => absurd h9 List.not_mem_nil) ?_
  intro H1 locs1 ls1 pc1 ins st1 hd hret hD1 hS1 hm1
  have hPt : ∀ t : State, t.heap = H1 → s.WarmedH t.vm → a_Pre base D g m' t := fun t ht hW => ⟨ht ▸ hD1, a_Sta_moved hW (by rw [ht]; exact hS1.1) (by rw [ht]; exact hS1.2.1) hm1 hpre.2⟩
  dsimp only at hd hret
  unfold a_ret at hret
  split at hret
  · rename_i v
    cases hret
    exact W.iret (v := v) B.exec B.bytes hr (fun t ht hW => ⟨⟨v, (), rfl, rfl, hPt t ht hW⟩, hS1.F ht⟩) hS1.2.2 hd
  · rename_i v
    obtain ⟨h01, hret⟩ := a_if_i hret
    cases hret
    exact W.zret (v := v) (ty := .boolean) B.exec B.bytes hr (by rcases h01 with rfl | rfl <;> decide) (fun t ht hW => ⟨⟨v, (), rfl, rfl, hPt t ht hW⟩, hS1.F ht⟩) hS1.2.2 hd
  · cases hret
    exact W.vret B.exec B.bytes hr (fun t ht hW => ⟨⟨(), rfl, trivial, hPt t ht hW⟩, hS1.F ht⟩) hS1.2.2 hd
  · cases hret
theorem a_cat_len (ad : Nat → Nat → Nat) : ∀ t : List aV, ((t.map (a_cv ad)).map fun v => v.category).sum = t.length
  | [] => rfl
  | v :: t => by rw [List.map_cons, List.map_cons, List.sum_cons, a_cat_len ad t, a_cv_cat, List.length_cons]; omega
set_option maxHeartbeats 8000000 in
theorem a_sound (l : Launch) (base : Nat) (D : va_G) (g : aG) : ∀ n, a_Snd l base D g n := by
  intro n
  induction n with
  | zero => intro q pc ls st m r m' h; cases h
  | succ n ih =>
    intro q pc ls st m r m' h p e R s mI args below meth cd cells slots Q M hM hexec hb hml hown hts hR hSt H locs hDy hS ls' hl hv hret
    unfold a_run at h
    cases hlk : a_look q pc with
    | none => rw [hlk] at h; cases h
    | some rw0 =>
      obtain ⟨ins, a, b, w⟩ := rw0
      rw [hlk] at h
      dsimp only at h
      obtain ⟨M', hM', hchk⟩ := a_look_ok hlk
      obtain rfl : M' = M := Option.some.inj (hM'.symm.trans hM)
      cases hst : a_step ins a b pc ls st m with
      | some z =>
        obtain ⟨pc1, ls1, st1, m1⟩ := z
        rw [hst] at h
        dsimp only at h
        exact a_snd_step hexec hb hml hown hts hR hSt hDy hS hl hv hchk hst (fun H1 locs1 ls1' hDy1 hS1 hl1 hv1 hm1 => ih q pc1 ls1 st1 m1 r m' h p e R s mI args below meth cd cells slots Q M' hM hexec hb hml hown hts hR (a_Sta_m hm1 hSt) H1 locs1 hDy1 hS1 ls1' hl1 hv1 (fun H2 locs2 ls2 pc2 ins2 st2 hd hr hD2 hS2 hm2 => hret H2 locs2 ls2 pc2 ins2 st2 hd hr hD2 hS2 (fun c hc => (hm2 c hc).trans (hm1 c hc))))
      | none =>
        rw [hst] at h
        dsimp only at h
        unfold a_chk at hchk
        rw [Bool.and_eq_true] at hchk
        obtain ⟨hdg, hc2⟩ := hchk
        have hdg := of_decide_eq_true hdg
        cases hcl : a_call ins a b st with
        | none =>
          rw [hcl] at h
          dsimp only at h
          cases hr : a_ret (a_rt q) ins st with
          | none => rw [hr] at h; cases h
          | some r0 =>
            rw [hr] at h
            dsimp only at h
            cases h
            have hrt : a_rt q = M'.2.2.2.1 := by unfold a_rt; rw [hM]
            rw [hrt] at hr
            have h1 : a_len ins b = 1 := by
              unfold a_ret at hr
              split at hr
              · rfl
              · rfl
              · rfl
              · cases hr
            rw [h1] at hdg
            exact hret H locs ls' pc ins st hdg hr hDy hS (fun _ _ => rfl)
        | some z =>
          obtain ⟨as, t⟩ := z
          rw [hcl] at h
          dsimp only at h
          cases hr1 : a_run n a 0 (a_ent a as) [] m with
          | none => rw [hr1] at h; cases h
          | some z1 =>
            obtain ⟨r1, m1⟩ := z1
            rw [hr1] at h
            dsimp only at h
            have hm1 := a_run_keeps n hr1
            -- the call
            have key : va_Run p l e R s mI args below meth cd H locs cells slots 0 0 (F0 mI pc ls' (st.map (a_cv g.2.2.2))) (t.map (a_cv g.2.2.2)) (a_Qc base D g r1 m1 (as.map (a_cv g.2.2.2)).toArray) (a_A base) ∧ ∀ v ∈ t, a_vv v := by
              have hPc : ∀ U : State, U.heap = H → s.WarmedH U.vm → va_Pc (as.map (a_cv g.2.2.2)) (fun U => a_Pre base D g m U) (as.map (a_cv g.2.2.2)).toArray U := fun U hU hW => ⟨rfl, hU ▸ hDy, a_Sta_moved hW (by rw [hU]; exact hS.1) (by rw [hU]; exact hS.2.1) (fun _ _ => rfl) hSt⟩
              cases ins with
              | invokevirtual i =>
                unfold a_call at hcl
                obtain ⟨⟨⟨hn1, hn2⟩, hrcv⟩, hcl⟩ := a_if_i hcl
                have hast : as = (st.take b).reverse ∧ t = st.drop b := by cases hcl; exact ⟨rfl, rfl⟩
                have hsplit : st = as.reverse ++ t := by rw [hast.1, hast.2, List.reverse_reverse, List.take_append_drop]
                have haslen : as.length = b := by rw [hast.1, List.length_reverse, List.length_take]; omega
                have htlen : t.length ≤ 8 := by rw [hast.2, List.length_drop]; omega
                rw [← hast.1] at hrcv
                have hvas : ∀ v ∈ as, a_vv v := fun v h9 => hv v (by rw [hsplit]; exact List.mem_append_left _ (List.mem_reverse.mpr h9))
                have hvt : ∀ v ∈ t, a_vv v := fun v h9 => hv v (by rw [hsplit]; exact List.mem_append_right _ h9)
                refine ⟨?_, hvt⟩
                dsimp only at hc2
                cases hq2 : a_mt[a]? with
                | none => rw [hq2] at hc2; cases hc2
                | some M2 =>
                  obtain ⟨y, cc, maxL, ret, dep, ci, k1, k2, k3, k4⟩ := M2
                  rw [hq2] at hc2
                  simp only [Bool.and_eq_true, decide_eq_true_eq] at hc2
                  obtain ⟨⟨⟨⟨⟨⟨hw, hw1⟩, hw2⟩, hdep⟩, hnp, hb1, hbL⟩, hcn⟩, ha175⟩ := hc2
                  have hmok := a_moks _ (a_mtl_ok hq2 ha175)
                  have hwc := a_cws _ (a_mtl_ok hq2 ha175)
                  simp only [a_mok, Bool.and_eq_true, decide_eq_true_eq] at hmok
                  obtain ⟨⟨⟨hwi, hny⟩, hpl⟩, hL9⟩ := hmok
                  have hMet := a_met (D := D) (g := g) (base := base) (l := l) ih hr1 hq2 hpl (by rw [haslen]; exact hbL) hvas
                  cases as with
                  | nil => simp at haslen; omega
                  | cons v0 As =>
                    cases v0 with
                    | inl x => cases hrcv
                    | inr r0 =>
                      obtain ⟨c0, d0⟩ := r0
                      have hkd := of_decide_eq_true (show decide (a_kd c0 = (0, a_ci a)) = true from hrcv)
                      have hci : a_ci a = ci := by unfold a_ci; rw [hq2]
                      rw [hci] at hkd
                      have hvr : a_vr c0 d0 := hvas (.inr (c0, d0)) List.mem_cons_self
                      have hc41 : c0 < 41 := a_kd_3 (by rw [hkd]; exact Nat.zero_le _)
                      have hws := a_ws_get g m hvr hc41
                      have hcell : a_cell g m c0 d0 = .inr (ci, (List.range (a_nf c0)).map (a_fv g.2.2.2 m c0 d0)) := by simp only [a_cell, hkd]
                      rw [hcell] at hws
                      cases hqc : vwCl[ci]? with
                      | none => rw [hqc] at hcn; cases hcn
                      | some qc =>
                        rw [hqc] at hcn
                        have hcn : qc.1 = y.cls := Option.some.inj hcn
                        have hrecv := va_recv hSt.1 hDy.1 hqc hws
                        rw [hcn] at hrecv
                        have hAn : As.length = b - 1 := by simp at haslen; omega
                        exact va_runV (b := g.2.2.2 c0 d0) (As := As.map (a_cv g.2.2.2)) (rest := t.map (a_cv g.2.2.2)) ⟨hexec, hb, hml, hown, hts⟩ hMet
                          ⟨callB_of (ws' := wsL_law) (b - 1) hts (fun w h9 => (List.mem_cons.mp h9).elim (fun q => by rw [q]; exact a_good _ hwc) (fun q => a_good w q)) rfl rfl rfl (hts _ (a_wsp hwi)) (hts _ (a_wsp hw)) ⟨hny.1, hny.2, hnp⟩ ⟨by show dep + 1 ≤ _; omega, by show 8 + (maxL + 11) + 28 * dep ≤ _; omega⟩, hts _ (a_wsp hw1), hts _ (a_wsp hw2)⟩
                          ⟨a_blind, hrecv, hPc⟩ rfl (by rw [List.length_map]; exact hAn) hl.1
                          (by show st.map _ = _; rw [hsplit, List.map_append, List.map_reverse, List.map_cons, List.reverse_cons, List.append_assoc]; rfl)
                          (lv_room (by rw [a_cat_len]; exact htlen)) hdg ⟨hR.2.2.1, hR.2.2.2⟩
              | invokestatic i =>
                unfold a_call at hcl
                obtain ⟨⟨ha1000, hn1, hn2⟩, hcl⟩ := a_if_i hcl
                have hast : as = (st.take b).reverse ∧ t = st.drop b := by cases hcl; exact ⟨rfl, rfl⟩
                have hsplit : st = as.reverse ++ t := by rw [hast.1, hast.2, List.reverse_reverse, List.take_append_drop]
                have haslen : as.length = b := by rw [hast.1, List.length_reverse, List.length_take]; omega
                have htlen : t.length ≤ 8 := by rw [hast.2, List.length_drop]; omega
                have hvas : ∀ v ∈ as, a_vv v := fun v h9 => hv v (by rw [hsplit]; exact List.mem_append_left _ (List.mem_reverse.mpr h9))
                have hvt : ∀ v ∈ t, a_vv v := fun v h9 => hv v (by rw [hsplit]; exact List.mem_append_right _ h9)
                refine ⟨?_, hvt⟩
                dsimp only at hc2
                rw [Bool.and_eq_true, if_neg (by omega), if_neg (by omega)] at hc2
                cases hq2 : a_mt[a]? with
                | none => rw [hq2] at hc2; cases hc2.2
                | some M2 =>
                  obtain ⟨y, cc, maxL, ret, dep, ci, k1, k2, k3, k4⟩ := M2
                  rw [hq2] at hc2
                  simp only [Bool.and_eq_true, Bool.or_eq_true, decide_eq_true_eq] at hc2
                  obtain ⟨-, ⟨⟨⟨hw, hw1⟩, hdep⟩, hnp, hbL⟩, ha175⟩ := hc2
                  have hmok := a_moks _ (a_mtl_ok hq2 ha175)
                  have hwc := a_cws _ (a_mtl_ok hq2 ha175)
                  simp only [a_mok, Bool.and_eq_true, decide_eq_true_eq] at hmok
                  obtain ⟨⟨⟨hwi, hny⟩, hpl⟩, hL9⟩ := hmok
                  have hMet := a_met (D := D) (g := g) (base := base) (l := l) ih hr1 hq2 hpl (by rw [haslen]; exact hbL) hvas
                  have hG : GoodIn wsL_law (Cond.code y cc maxL ret :: wsL_law) := fun w h9 => (List.mem_cons.mp h9).elim (fun q => by rw [q]; exact a_good _ hwc) (fun q => a_good w q)
                  have hroom : (a_RM dep).frames + 1 ≤ R.frames ∧ 8 + (maxL + 11) + (a_RM dep).locals ≤ R.locals := ⟨by show dep + 1 ≤ _; omega, by show 8 + (maxL + 11) + 28 * dep ≤ _; omega⟩
                  have hstk : (F0 mI pc ls' (st.map (a_cv g.2.2.2))).stack = (as.map (a_cv g.2.2.2)).reverse ++ t.map (a_cv g.2.2.2) := by show st.map _ = _; rw [hsplit, List.map_append, List.map_reverse]
                  rcases hw with hw | hw
                  · exact va_runS (As := as.map (a_cv g.2.2.2)) (rest := t.map (a_cv g.2.2.2)) ⟨hexec, hb, hml, hown, hts⟩ hMet
                      ⟨callB_of (ws' := wsL_law) b hts hG rfl rfl rfl (hts _ (a_wsp hwi)) (hts _ (a_wsp hw)) ⟨hny.1, hny.2, hnp⟩ hroom, hts _ (a_wsp hw1)⟩
                      ⟨a_blind, hPc⟩ rfl (by rw [List.length_map]; exact haslen) hl.1 hstk (lv_room (by rw [a_cat_len]; exact htlen)) hdg ⟨hR.2.2.1, hR.2.2.2⟩
                  · exact va_runSN (As := as.map (a_cv g.2.2.2)) (rest := t.map (a_cv g.2.2.2)) ⟨hexec, hb, hml, hown, hts⟩ hMet
                      ⟨va_cnB (ws' := wsL_law) b hts hG rfl rfl rfl (hSt.2.2.2 _ (a_nwp hw)) (hts _ (a_wsp hwi)) ⟨hny.1, hny.2, hnp⟩ hroom, hts _ (a_wsp hw1), trivial⟩
                      ⟨a_blind, hPc⟩ rfl (by rw [List.length_map]; exact haslen) hl.1 hstk (lv_room (by rw [a_cat_len]; exact htlen)) hdg ⟨hR.2.2.1, hR.2.2.2⟩
              | _ => exact absurd hcl (fun q => by cases (show (none : Option (List aV × List aV)) = some _ from q))
            obtain ⟨hrunM, hvt⟩ := key
            have hgo : ∀ (H1 : Heap) (locs1 : List Loc) (st1 : List aV), st1 = r1.toList ++ t → (∀ v ∈ st1, a_vv v) → a_Dyn base D g m1 H1 → va_S (a_A base) s.heap H1 locs1 → W p l e R s mI args below meth cd H1 locs1 cells slots Q (F0 mI (pc + 3) ls' (st1.map (a_cv g.2.2.2))) := by
              intro H1 locs1 st1 hst1 hv1 hD1 hS1
              subst hst1
              exact ih q (pc + 3) ls (r1.toList ++ t) m1 r m' h p e R s mI args below meth cd cells slots Q M' hM hexec hb hml hown hts hR (a_Sta_m hm1 hSt) H1 locs1 hD1 hS1 ls' hl hv1 (fun H2 locs2 ls2 pc2 ins2 st2 hd hr hD2 hS2 hm2 => hret H2 locs2 ls2 pc2 ins2 st2 hd hr hD2 hS2 (fun c hc => (hm2 c hc).trans (hm1 c hc)))
            rcases a_run_int n hr1 with rfl | ⟨v, rfl⟩
            · exact va_callv (S := Unit) (a := (as.map (a_cv g.2.2.2)).toArray) (post := fun _ => True) (B := fun _ t => a_Pre base D g m1 t) hrunM hS (fun q _ h9 => h9) (fun q h9 => h9) (fun u t2 H1 locs1 ht hvm hw hB hz hk hS1 => hgo H1 locs1 t rfl hvt (ht ▸ hB.1) hS1)
            · refine va_calli (S := Unit) (a := (as.map (a_cv g.2.2.2)).toArray) (post := fun x _ => x = v) (B := fun _ t => a_Pre base D g m1 t) hrunM hS (fun q _ h9 => h9) (fun q h9 => h9) (fun x u t2 H1 locs1 ht hvm hw hB hz hk hS1 => ?_)
              subst hw
              exact hgo H1 locs1 (.inl x :: t) rfl (a_vcons (v := .inl x) trivial hvt) (ht ▸ hB.1) hS1
end
section
/-! runs to an end, and the rows of the abstract machine in that form -/
theorem a_run_more : ∀ (n : Nat) {q pc : Nat} {ls : aL} {st : List aV} {m : aM} {z : Option aV × aM}, a_run n q pc ls st m = some z → a_run (n + 1) q pc ls st m = some z := by
  intro n
  induction n with
  | zero => intro q pc ls st m z h; cases h
  | succ n ih =>
    intro q pc ls st m z h
    unfold a_run at h ⊢
    cases hlk : a_look q pc with
    | none => rw [hlk] at h; cases h
    | some r =>
      obtain ⟨ins, a, b, w⟩ := r
      rw [hlk] at h
      dsimp only at h ⊢
      cases hst : a_step ins a b pc ls st m with
      | some r => 
        rw [hst] at h
        dsimp only at h ⊢
        exact ih h
      | none =>
        rw [hst] at h
        dsimp only at h ⊢
        cases hcl : a_call ins a b st with
        | none =>
          rw [hcl] at h
          exact h
        | some r =>
          rw [hcl] at h
          dsimp only at h ⊢
          cases hr1 : a_run n a 0 (a_ent a r.1) [] m with
          | none => rw [hr1] at h; cases h
          | some z1 =>
            rw [hr1] at h
            rw [ih hr1]
            dsimp only at h ⊢
            exact ih h
theorem a_run_le {n k q pc : Nat} {ls : aL} {st : List aV} {m : aM} {z : Option aV × aM} (h : a_run n q pc ls st m = some z) (hk : n ≤ k) : a_run k q pc ls st m = some z := by
  obtain ⟨j, rfl⟩ := Nat.exists_eq_add_of_le hk
  induction j with
  | zero => exact h
  | succ j ih => exact a_run_more _ (ih (by omega))
/-- it comes to an end, with Q of the answer and of the memory -/
def Rg (q pc : Nat) (ls : aL) (st : List aV) (m : aM) (Q : Option aV → aM → Prop) : Prop := ∃ (n : Nat) (r : Option aV) (m' : aM), a_run n q pc ls st m = some (r, m') ∧ Q r m'
def qI (Q : Int32 → aM → Prop) : Option aV → aM → Prop := fun r m => match r with
  | some (.inl v) => Q v m
  | _ => False
def qV (Q : aM → Prop) : Option aV → aM → Prop := fun r m => match r with
  | none => Q m
  | _ => False
/-- a call of method q with an int (or boolean) answer -/
def Mi (q : Nat) (as : List aV) (m : aM) (Q : Int32 → aM → Prop) : Prop := Rg q 0 (a_ent q as) [] m (qI Q)
def Mv (q : Nat) (as : List aV) (m : aM) (Q : aM → Prop) : Prop := Rg q 0 (a_ent q as) [] m (qV Q)
theorem Mi_mono {q : Nat} {as : List aV} {m : aM} {P Q : Int32 → aM → Prop} (h : Mi q as m P) (k : ∀ v m1, P v m1 → Q v m1) : Mi q as m Q := by
  obtain ⟨n, r, m', h1, h2⟩ := h
  refine ⟨n, r, m', h1, ?_⟩
  unfold qI at h2 ⊢
  split at h2
  · exact k _ _ h2
  · exact h2.elim
theorem Mv_mono {q : Nat} {as : List aV} {m : aM} {P Q : aM → Prop} (h : Mv q as m P) (k : ∀ m1, P m1 → Q m1) : Mv q as m Q := by
  obtain ⟨n, r, m', h1, h2⟩ := h
  refine ⟨n, r, m', h1, ?_⟩
  unfold qV at h2 ⊢
  split at h2
  · exact k _ h2
  · exact h2.elim
theorem Mi_in {q k : Nat} {as : List aV} {m : aM} {Q : Int32 → aM → Prop} (h : a_ml q = k) (h1 : Rg q 0 (as.map some ++ List.replicate (k - as.length) none) [] m (qI Q)) : Mi q as m Q := by
  unfold Mi a_ent
  rw [h]
  exact h1
theorem Mv_in {q k : Nat} {as : List aV} {m : aM} {Q : aM → Prop} (h : a_ml q = k) (h1 : Rg q 0 (as.map some ++ List.replicate (k - as.length) none) [] m (qV Q)) : Mv q as m Q := by
  unfold Mv a_ent
  rw [h]
  exact h1
/-- a truth as a number -/
def bP (p : Prop) [Decidable p] : Int32 := if p then 1 else 0
theorem bP_t {p : Prop} [Decidable p] (h : p) : bP p = 1 := if_pos h
theorem bP_f {p : Prop} [Decidable p] (h : ¬ p) : bP p = 0 := if_neg h
theorem bP_0 {p : Prop} [Decidable p] : bP p = 0 ↔ ¬ p := by
  unfold bP
  split
  · rename_i h; exact ⟨fun q => absurd q (by decide), fun q => absurd h q⟩
  · rename_i h; exact ⟨fun _ => h, fun _ => rfl⟩
theorem bP_iff {p q : Prop} [Decidable p] [Decidable q] (h : p ↔ q) : bP p = bP q := by
  by_cases hp : p
  · rw [bP_t hp, bP_t (h.mp hp)]
  · rw [bP_f hp, bP_f (fun z => hp (h.mpr z))]
theorem bP_01 {p : Prop} [Decidable p] : bP p = 0 ∨ bP p = 1 := by
  by_cases hp : p
  · exact Or.inr (bP_t hp)
  · exact Or.inl (bP_f hp)
def iR (x y : Int32) : Int32 := x - x / y * y
theorem i_mono {c : Prop} [Decidable c] {A A' B B' : Prop} (h : if c then A else B) (h1 : c → A → A') (h2 : ¬ c → B → B') : if c then A' else B' := by
  by_cases hc : c
  · rw [if_pos hc] at h ⊢; exact h1 hc h
  · rw [if_neg hc] at h ⊢; exact h2 hc h
section RUL
variable {q pc a b w : Nat} {ls ls1 : aL} {st t : List aV} {m m1 : aM} {Q : Option aV → aM → Prop} {x y v i : Int32} {c d c' d' k j : Nat} {n : Int} {u u' : aV}
theorem r_s {ins : Instr} {pc1 : Nat} {st1 : List aV} (h : a_look q pc = some (ins, a, b, w)) (hs : a_step ins a b pc ls st m = some (pc1, ls1, st1, m1)) (h1 : Rg q pc1 ls1 st1 m1 Q) : Rg q pc ls st m Q := by
  obtain ⟨n, r, m', g, hQ⟩ := h1
  refine ⟨n + 1, r, m', ?_, hQ⟩
  unfold a_run
  rw [h]
  dsimp only
  rw [hs]
  exact g
theorem r_aload_n {kf : Fin 4} (h : a_look q pc = some (.aload_n kf, a, b, w)) (hl : ls[kf.val]? = some (some (.inr (c, d)))) (h1 : Rg q (pc + 1) ls (.inr (c, d) :: st) m Q) : Rg q pc ls st m Q := r_s h (by simp only [a_step, a_lr, hl]) h1
theorem r_aload (h : a_look q pc = some (.aload k, a, b, w)) (hl : ls[k]? = some (some (.inr (c, d)))) (h1 : Rg q (pc + 2) ls (.inr (c, d) :: st) m Q) : Rg q pc ls st m Q := r_s h (by simp only [a_step, a_lr, hl]) h1
theorem r_iload_n {kf : Fin 4} (h : a_look q pc = some (.iload_n kf, a, b, w)) (hl : ls[kf.val]? = some (some (.inl x))) (h1 : Rg q (pc + 1) ls (.inl x :: st) m Q) : Rg q pc ls st m Q := r_s h (by simp only [a_step, a_l1, hl]) h1
theorem r_iload (h : a_look q pc = some (.iload k, a, b, w)) (hl : ls[k]? = some (some (.inl x))) (h1 : Rg q (pc + 2) ls (.inl x :: st) m Q) : Rg q pc ls st m Q := r_s h (by simp only [a_step, a_l1, hl]) h1
theorem r_istore_n {kf : Fin 4} (h : a_look q pc = some (.istore_n kf, a, b, w)) (hk : kf.val < ls.length) (hl : ls.set kf.val (some (.inl x)) = ls1) (h1 : Rg q (pc + 1) ls1 st m Q) : Rg q pc ls (.inl x :: st) m Q := r_s h (by simp only [a_step, a_p1, a_st, if_pos hk, hl]) h1
theorem r_istore (h : a_look q pc = some (.istore k, a, b, w)) (hk : k < ls.length) (hl : ls.set k (some (.inl x)) = ls1) (h1 : Rg q (pc + 2) ls1 st m Q) : Rg q pc ls (.inl x :: st) m Q := r_s h (by simp only [a_step, a_p1, a_st, if_pos hk, hl]) h1
theorem r_astore_n {kf : Fin 4} (h : a_look q pc = some (.astore_n kf, a, b, w)) (hk : kf.val < ls.length) (hl : ls.set kf.val (some (.inr (c, d))) = ls1) (h1 : Rg q (pc + 1) ls1 st m Q) : Rg q pc ls (.inr (c, d) :: st) m Q := r_s h (by simp only [a_step, a_pr, a_st, if_pos hk, hl]) h1
theorem r_iinc (h : a_look q pc = some (.iinc k n, a, b, w)) (hn : Int32.ofInt n = y) (hl : ls[k]? = some (some (.inl x))) (hk : k < ls.length) (hs : ls.set k (some (.inl (x + y))) = ls1) (h1 : Rg q (pc + 3) ls1 st m Q) : Rg q pc ls st m Q := r_s h (by simp only [a_step, a_l1, hl, a_st, if_pos hk, hn, hs]) h1
theorem r_iconst (h : a_look q pc = some (.iconst n, a, b, w)) (hn : Int32.ofInt n = y) (h1 : Rg q (pc + 1) ls (.inl y :: st) m Q) : Rg q pc ls st m Q := r_s h (by simp only [a_step, hn]) h1
theorem r_bipush (h : a_look q pc = some (.bipush n, a, b, w)) (hn : (Int8.ofInt n).toInt32 = y) (h1 : Rg q (pc + 2) ls (.inl y :: st) m Q) : Rg q pc ls st m Q := r_s h (by simp only [a_step, hn]) h1
theorem r_sipush (h : a_look q pc = some (.sipush n, a, b, w)) (hn : (Int16.ofInt n).toInt32 = y) (h1 : Rg q (pc + 3) ls (.inl y :: st) m Q) : Rg q pc ls st m Q := r_s h (by simp only [a_step, hn]) h1
theorem r_iadd (h : a_look q pc = some (.iadd, a, b, w)) (h1 : Rg q (pc + 1) ls (.inl (x + y) :: st) m Q) : Rg q pc ls (.inl y :: .inl x :: st) m Q := r_s h rfl h1
theorem r_isub (h : a_look q pc = some (.isub, a, b, w)) (h1 : Rg q (pc + 1) ls (.inl (x - y) :: st) m Q) : Rg q pc ls (.inl y :: .inl x :: st) m Q := r_s h rfl h1
theorem r_imul (h : a_look q pc = some (.imul, a, b, w)) (h1 : Rg q (pc + 1) ls (.inl (x * y) :: st) m Q) : Rg q pc ls (.inl y :: .inl x :: st) m Q := r_s h rfl h1
theorem r_iand (h : a_look q pc = some (.iand, a, b, w)) (h1 : Rg q (pc + 1) ls (.inl (x &&& y) :: st) m Q) : Rg q pc ls (.inl y :: .inl x :: st) m Q := r_s h rfl h1
theorem r_idiv (h : a_look q pc = some (.idiv, a, b, w)) (hy : ¬ y = 0) (h1 : Rg q (pc + 1) ls (.inl (x / y) :: st) m Q) : Rg q pc ls (.inl y :: .inl x :: st) m Q := r_s h (by simp only [a_step, a_p2, hy, not_false_eq_true, if_true]) h1
theorem r_irem (h : a_look q pc = some (.irem, a, b, w)) (hy : ¬ y = 0) (h1 : Rg q (pc + 1) ls (.inl (iR x y) :: st) m Q) : Rg q pc ls (.inl y :: .inl x :: st) m Q := r_s h (by simp only [a_step, a_p2, hy, not_false_eq_true, if_true, iR]) h1
theorem r_dup (h : a_look q pc = some (.dup, a, b, w)) (h1 : Rg q (pc + 1) ls (u :: u :: st) m Q) : Rg q pc ls (u :: st) m Q := r_s h rfl h1
theorem r_dup2 (h : a_look q pc = some (.dup2, a, b, w)) (h1 : Rg q (pc + 1) ls (u :: u' :: u :: u' :: st) m Q) : Rg q pc ls (u :: u' :: st) m Q := r_s h rfl h1
theorem r_pop (h : a_look q pc = some (.pop, a, b, w)) (h1 : Rg q (pc + 1) ls st m Q) : Rg q pc ls (u :: st) m Q := r_s h rfl h1
theorem r_goto (h : a_look q pc = some (.goto n, a, b, w)) (h1 : Rg q a ls st m Q) : Rg q pc ls st m Q := r_s h rfl h1
theorem r_if {o : Int} {kk : Jvm.ClassFile.Cond} {p : Prop} [Decidable p] (h : a_look q pc = some (.ifCond kk o, a, b, w)) (hp : a_cc kk x 0 = decide p) (h1 : if p then Rg q a ls st m Q else Rg q (pc + 3) ls st m Q) : Rg q pc ls (.inl x :: st) m Q := by
  by_cases hc : p
  · rw [if_pos hc] at h1
    exact r_s h (by simp only [a_step, a_p1, hp, decide_eq_true hc, if_true]) h1
  · rw [if_neg hc] at h1
    exact r_s h (by simp only [a_step, a_p1, hp, decide_eq_false hc, Bool.false_eq_true, if_false]) h1
theorem r_icmp {o : Int} {kk : Jvm.ClassFile.Cond} {p : Prop} [Decidable p] (h : a_look q pc = some (.if_icmp kk o, a, b, w)) (hp : a_cc kk x y = decide p) (h1 : if p then Rg q a ls st m Q else Rg q (pc + 3) ls st m Q) : Rg q pc ls (.inl y :: .inl x :: st) m Q := by
  by_cases hc : p
  · rw [if_pos hc] at h1
    exact r_s h (by simp only [a_step, a_p2, hp, decide_eq_true hc, if_true]) h1
  · rw [if_neg hc] at h1
    exact r_s h (by simp only [a_step, a_p2, hp, decide_eq_false hc, Bool.false_eq_true, if_false]) h1
/-- not: the jump is the other way -/
theorem r_ifn {o : Int} {kk : Jvm.ClassFile.Cond} {p : Prop} [Decidable p] (h : a_look q pc = some (.ifCond kk o, a, b, w)) (hp : a_cc kk x 0 = decide (¬ p)) (h1 : if p then Rg q (pc + 3) ls st m Q else Rg q a ls st m Q) : Rg q pc ls (.inl x :: st) m Q := by
  refine r_if (p := ¬ p) h hp ?_
  by_cases hc : p
  · rw [if_pos hc] at h1; rw [if_neg (fun z => z hc)]; exact h1
  · rw [if_neg hc] at h1; rw [if_pos hc]; exact h1
theorem r_icmpn {o : Int} {kk : Jvm.ClassFile.Cond} {p : Prop} [Decidable p] (h : a_look q pc = some (.if_icmp kk o, a, b, w)) (hp : a_cc kk x y = decide (¬ p)) (h1 : if p then Rg q (pc + 3) ls st m Q else Rg q a ls st m Q) : Rg q pc ls (.inl y :: .inl x :: st) m Q := by
  refine r_icmp (p := ¬ p) h hp ?_
  by_cases hc : p
  · rw [if_pos hc] at h1; rw [if_neg (fun z => z hc)]; exact h1
  · rw [if_neg hc] at h1; rw [if_pos hc]; exact h1
/-- a branch on a truth -/
theorem r_ifeqP {o : Int} {p : Prop} [Decidable p] (h : a_look q pc = some (.ifCond .eq o, a, b, w)) (h1 : if p then Rg q (pc + 3) ls st m Q else Rg q a ls st m Q) : Rg q pc ls (.inl (bP p) :: st) m Q := r_ifn h (by simp only [a_cc, bP_0]) h1
theorem r_ifneP {o : Int} {p : Prop} [Decidable p] (h : a_look q pc = some (.ifCond .ne o, a, b, w)) (h1 : if p then Rg q a ls st m Q else Rg q (pc + 3) ls st m Q) : Rg q pc ls (.inl (bP p) :: st) m Q := r_if h (by simp only [a_cc, bP_0, Decidable.not_not]) h1
theorem r_tsw {dflt lo hi : Int} {offs : Array Int} (h : a_look q pc = some (.tableswitch dflt lo hi offs, a, b, w)) (hx : ((pc : Int) + dflt ≥ 0 ∧ ∀ o ∈ offs.toList, (pc : Int) + o ≥ 0) ∧ (x.toInt < lo ∨ hi < x.toInt ∨ (x.toInt - lo).toNat < offs.size)) (h1 : Rg q (a_ts pc dflt lo hi offs x) ls st m Q) : Rg q pc ls (.inl x :: st) m Q := r_s h (by simp only [a_step, a_p1, if_pos hx]) h1
theorem r_lsw {dflt : Int} {ps : Array (Int × Int)} (h : a_look q pc = some (.lookupswitch dflt ps, a, b, w)) (hx : (pc : Int) + Op.lookupswitch.offset ps.toList dflt x.toInt ≥ 0) (h1 : Rg q (a_lk pc dflt ps x) ls st m Q) : Rg q pc ls (.inl x :: st) m Q := r_s h (by simp only [a_step, a_p1, if_pos hx]) h1
theorem r_getr (h : a_look q pc = some (.getfield j, a, b, w)) (hk : a_kd c = (0, a)) (hf : a_fr c d b = some (c', d')) (h1 : Rg q (pc + 3) ls (.inr (c', d') :: st) m Q) : Rg q pc ls (.inr (c, d) :: st) m Q := r_s h (by simp only [a_step, a_pr, if_pos hk, hf]) h1
theorem r_geti (h : a_look q pc = some (.getfield j, a, b, w)) (hk : a_kd c = (0, a)) (hf : a_fr c d b = none) (h1 : Rg q (pc + 3) ls (.inl (m c d b) :: st) m Q) : Rg q pc ls (.inr (c, d) :: st) m Q := r_s h (by simp only [a_step, a_pr, if_pos hk, hf]) h1
theorem r_put (h : a_look q pc = some (.putfield j, a, b, w)) (hk : a_kd c = (0, a) ∧ a_fr c d b = none) (hb : a_bf a b = true → x = 0 ∨ x = 1) (h1 : Rg q (pc + 3) ls st (a_up m c d b x) Q) : Rg q pc ls (.inl x :: .inr (c, d) :: st) m Q := r_s h (by simp only [a_step, a_p1r, if_pos (⟨hk, hb⟩ : (a_kd c = (0, a) ∧ a_fr c d b = none) ∧ (a_bf a b = true → x = 0 ∨ x = 1))]) h1
theorem r_gets (h : a_look q pc = some (.getstatic j, a, b, w)) (h1 : Rg q (pc + 3) ls (.inr (a, 0) :: st) m Q) : Rg q pc ls st m Q := r_s h rfl h1
theorem r_iald {N : Nat} (h : a_look q pc = some (.iaload, a, b, w)) (hk : (a_kd c).1 = 1 ∨ (a_kd c).1 = 4 ∨ (a_kd c).1 = 5) (hN : a_ln m c = N) (hi : a_in i N = true) (hj : i.toNatClampNeg = j) (h1 : Rg q (pc + 1) ls (.inl (m c d j) :: st) m Q) : Rg q pc ls (.inl i :: .inr (c, d) :: st) m Q := r_s h (by simp only [a_step, a_p1r, if_pos (⟨hk, hN ▸ hi⟩ : ((a_kd c).1 = 1 ∨ (a_kd c).1 = 4 ∨ (a_kd c).1 = 5) ∧ a_in i (a_ln m c) = true), hj]) h1
theorem r_bald {N : Nat} (h : a_look q pc = some (.baload, a, b, w)) (hk : (a_kd c).1 = 2) (hN : a_ln m c = N) (hi : a_in i N = true) (hj : i.toNatClampNeg = j) (h1 : Rg q (pc + 1) ls (.inl (m c d j) :: st) m Q) : Rg q pc ls (.inl i :: .inr (c, d) :: st) m Q := r_s h (by simp only [a_step, a_p1r, if_pos (⟨hk, hN ▸ hi⟩ : (a_kd c).1 = 2 ∧ a_in i (a_ln m c) = true), hj]) h1
theorem r_aald {N : Nat} (h : a_look q pc = some (.aaload, a, b, w)) (hk : (a_kd c).1 = 3) (hN : a_ln m c = N) (hi : a_in i N = true) (hj : i.toNatClampNeg = j) (h1 : Rg q (pc + 1) ls (.inr (0, a_el c j) :: st) m Q) : Rg q pc ls (.inl i :: .inr (c, d) :: st) m Q := r_s h (by simp only [a_step, a_p1r, if_pos (⟨hk, hN ▸ hi⟩ : (a_kd c).1 = 3 ∧ a_in i (a_ln m c) = true), hj]) h1
theorem r_iast {N : Nat} (h : a_look q pc = some (.iastore, a, b, w)) (hk : (a_kd c).1 = 1) (hN : a_ln m c = N) (hi : a_in i N = true) (hj : i.toNatClampNeg = j) (h1 : Rg q (pc + 1) ls st (a_up m c d j x) Q) : Rg q pc ls (.inl x :: .inl i :: .inr (c, d) :: st) m Q := r_s h (by simp only [a_step, a_p2r, if_pos (⟨hk, hN ▸ hi⟩ : (a_kd c).1 = 1 ∧ a_in i (a_ln m c) = true), hj]) h1
theorem r_bast {N : Nat} (h : a_look q pc = some (.bastore, a, b, w)) (hk : (a_kd c).1 = 2) (hN : a_ln m c = N) (hi : a_in i N = true) (hx : x = 0 ∨ x = 1) (hj : i.toNatClampNeg = j) (h1 : Rg q (pc + 1) ls st (a_up m c d j x) Q) : Rg q pc ls (.inl x :: .inl i :: .inr (c, d) :: st) m Q := r_s h (by simp only [a_step, a_p2r, if_pos (⟨⟨hk, hN ▸ hi⟩, hx⟩ : ((a_kd c).1 = 2 ∧ a_in i (a_ln m c) = true) ∧ (x = 0 ∨ x = 1)), hj]) h1
theorem r_alen {N : Nat} (h : a_look q pc = some (.arraylength, a, b, w)) (hk : (a_kd c).1 = 1 ∨ (a_kd c).1 = 5) (hN : a_ln m c = N) (h1 : Rg q (pc + 1) ls (.inl (nI N) :: st) m Q) : Rg q pc ls (.inr (c, d) :: st) m Q := r_s h (by simp only [a_step, a_pr, if_pos hk, hN]) h1
theorem r_min {i : Nat} (h : a_look q pc = some (.invokestatic i, 1000, b, w)) (hl : st.length ≤ 8) (h1 : Rg q (pc + 3) ls (.inl (if y < x then y else x) :: st) m Q) : Rg q pc ls (.inl y :: .inl x :: st) m Q := r_s h (by simp only [a_step, a_p2, if_true, if_pos hl]) h1
theorem r_cpy {i N sp dp : Nat} {c0 b0 c1 b1 : Nat} (h : a_look q pc = some (.invokestatic i, 1001, b, w)) (h0 : (a_kd c0).1 = 1 ∧ (a_kd c1).1 = 1) (hN : N < 2 ^ 31 ∧ N ≤ (a_kd c0).2 ∧ N ≤ (a_kd c1).2) (h1 : Rg q (pc + 3) ls [] (fun c b j => if c = c1 ∧ b = b1 ∧ j < N then m c0 b0 j else m c b j) Q) : Rg q pc ls [.inl (nI N), .inl 0, .inr (c1, b1), .inl 0, .inr (c0, b0)] m Q := by
  have hz : (0 : Int32).toNatClampNeg = 0 := by decide +kernel
  refine r_s h ?_ h1
  simp only [a_step, show ¬ (1001 = 1000) by decide, if_false, if_true, a_pcp]
  rw [if_pos ⟨h0, ⟨by decide +kernel, by decide +kernel, nI_pos hN.1⟩, by rw [hz, nI_clamp hN.1, Nat.zero_add]; exact hN.2.1, by rw [hz, nI_clamp hN.1, Nat.zero_add]; exact hN.2.2⟩]
  congr 4
  funext c b j
  rw [hz, nI_clamp hN.1]
  by_cases hc : c = c1 ∧ b = b1
  · rw [if_pos hc]
    obtain ⟨rfl, rfl⟩ := hc
    simp [va_cpy]
  · rw [if_neg hc, if_neg (fun z => hc ⟨z.1, z.2.1⟩)]
theorem r_cl {ins : Instr} {as : List aV} {n r m1} (h : a_look q pc = some (ins, a, k, w)) (hs : a_step ins a k pc ls st m = none) (hc : a_call ins a k st = some (as, t)) (g1 : a_run n a 0 (a_ent a as) [] m = some (r, m1)) (h1 : Rg q (pc + 3) ls (r.toList ++ t) m1 Q) : Rg q pc ls st m Q := by
  obtain ⟨n2, r2, m2, g2, hQ⟩ := h1
  refine ⟨n + n2 + 1, r2, m2, ?_, hQ⟩
  unfold a_run
  rw [h]
  dsimp only
  rw [hs, hc]
  dsimp only
  rw [a_run_le g1 (by omega)]
  dsimp only
  exact a_run_le g2 (by omega)
theorem r_cv {i : Nat} {as : List aV} (h : a_look q pc = some (.invokevirtual i, a, k, w)) (hc : a_call (.invokevirtual i) a k st = some (as, t)) (h1 : Mi a as m (fun v m1 => Rg q (pc + 3) ls (.inl v :: t) m1 Q)) : Rg q pc ls st m Q := by
  obtain ⟨n, r, m1, g1, h2⟩ := h1
  unfold qI at h2
  split at h2
  · exact r_cl h rfl hc g1 h2
  · exact h2.elim
theorem r_cvv {i : Nat} {as : List aV} (h : a_look q pc = some (.invokevirtual i, a, k, w)) (hc : a_call (.invokevirtual i) a k st = some (as, t)) (h1 : Mv a as m (fun m1 => Rg q (pc + 3) ls t m1 Q)) : Rg q pc ls st m Q := by
  obtain ⟨n, r, m1, g1, h2⟩ := h1
  unfold qV at h2
  split at h2
  · exact r_cl h rfl hc g1 h2
  · exact h2.elim
theorem a_step_st {i a b pc : Nat} (ha : a < 1000) : a_step (.invokestatic i) a b pc ls st m = none := by
  simp only [a_step]
  rw [if_neg (by omega), if_neg (by omega)]
theorem r_cs {i : Nat} {as : List aV} (h : a_look q pc = some (.invokestatic i, a, k, w)) (ha : a < 1000) (hc : a_call (.invokestatic i) a k st = some (as, t)) (h1 : Mi a as m (fun v m1 => Rg q (pc + 3) ls (.inl v :: t) m1 Q)) : Rg q pc ls st m Q := by
  obtain ⟨n, r, m1, g1, h2⟩ := h1
  unfold qI at h2
  split at h2
  · exact r_cl h (a_step_st ha) hc g1 h2
  · exact h2.elim
theorem r_csv {i : Nat} {as : List aV} (h : a_look q pc = some (.invokestatic i, a, k, w)) (ha : a < 1000) (hc : a_call (.invokestatic i) a k st = some (as, t)) (h1 : Mv a as m (fun m1 => Rg q (pc + 3) ls t m1 Q)) : Rg q pc ls st m Q := by
  obtain ⟨n, r, m1, g1, h2⟩ := h1
  unfold qV at h2
  split at h2
  · exact r_cl h (a_step_st ha) hc g1 h2
  · exact h2.elim
theorem r_end {ins : Instr} {r : Option aV} (h : a_look q pc = some (ins, a, b, w)) (hs : a_step ins a b pc ls st m = none) (hc : a_call ins a b st = none) (hr : a_ret (a_rt q) ins st = some r) (hQ : Q r m) : Rg q pc ls st m Q := by
  refine ⟨1, r, m, ?_, hQ⟩
  unfold a_run
  rw [h]
  dsimp only
  rw [hs, hc]
  dsimp only
  rw [hr]
theorem r_iret {Q : Int32 → aM → Prop} (h : a_look q pc = some (.ireturn, a, b, w)) (hr : a_rt q = some .int) (hQ : Q v m) : Rg q pc ls [.inl v] m (qI Q) := r_end (r := some (.inl v)) h rfl rfl (by rw [hr]; rfl) hQ
theorem r_zret {Q : Int32 → aM → Prop} (h : a_look q pc = some (.ireturn, a, b, w)) (hr : a_rt q = some .boolean) (h01 : v = 0 ∨ v = 1) (hQ : Q v m) : Rg q pc ls [.inl v] m (qI Q) := r_end (r := some (.inl v)) h rfl rfl (by rw [hr]; simp only [a_ret, if_pos h01]) hQ
theorem r_vret {Q : aM → Prop} (h : a_look q pc = some (.return_, a, b, w)) (hr : a_rt q = none) (hQ : Q m) : Rg q pc ls [] m (qV Q) := r_end (r := none) h rfl rfl (by rw [hr]; rfl) hQ
end RUL
end
section
/-! the code rows looked up once; constants; switches; by program (wip/whole/gen9.py) -/
theorem kB_m6 : (Int8.ofInt (-6)).toInt32 = (-6 : Int32) := by decide +kernel
theorem kB_m5 : (Int8.ofInt (-5)).toInt32 = (-5 : Int32) := by decide +kernel
theorem kB_m4 : (Int8.ofInt (-4)).toInt32 = (-4 : Int32) := by decide +kernel
theorem kB_m3 : (Int8.ofInt (-3)).toInt32 = (-3 : Int32) := by decide +kernel
theorem kB_m2 : (Int8.ofInt (-2)).toInt32 = (-2 : Int32) := by decide +kernel
theorem kB_6 : (Int8.ofInt 6).toInt32 = (6 : Int32) := by decide +kernel
theorem kB_7 : (Int8.ofInt 7).toInt32 = (7 : Int32) := by decide +kernel
theorem kB_8 : (Int8.ofInt 8).toInt32 = (8 : Int32) := by decide +kernel
theorem kB_9 : (Int8.ofInt 9).toInt32 = (9 : Int32) := by decide +kernel
theorem kB_10 : (Int8.ofInt 10).toInt32 = (10 : Int32) := by decide +kernel
theorem kB_11 : (Int8.ofInt 11).toInt32 = (11 : Int32) := by decide +kernel
theorem kB_12 : (Int8.ofInt 12).toInt32 = (12 : Int32) := by decide +kernel
theorem kB_13 : (Int8.ofInt 13).toInt32 = (13 : Int32) := by decide +kernel
theorem kB_15 : (Int8.ofInt 15).toInt32 = (15 : Int32) := by decide +kernel
theorem kB_16 : (Int8.ofInt 16).toInt32 = (16 : Int32) := by decide +kernel
theorem kB_20 : (Int8.ofInt 20).toInt32 = (20 : Int32) := by decide +kernel
theorem kB_26 : (Int8.ofInt 26).toInt32 = (26 : Int32) := by decide +kernel
theorem kB_30 : (Int8.ofInt 30).toInt32 = (30 : Int32) := by decide +kernel
theorem kB_31 : (Int8.ofInt 31).toInt32 = (31 : Int32) := by decide +kernel
theorem kB_32 : (Int8.ofInt 32).toInt32 = (32 : Int32) := by decide +kernel
theorem kB_40 : (Int8.ofInt 40).toInt32 = (40 : Int32) := by decide +kernel
theorem kB_48 : (Int8.ofInt 48).toInt32 = (48 : Int32) := by decide +kernel
theorem kB_50 : (Int8.ofInt 50).toInt32 = (50 : Int32) := by decide +kernel
theorem kB_57 : (Int8.ofInt 57).toInt32 = (57 : Int32) := by decide +kernel
theorem kB_59 : (Int8.ofInt 59).toInt32 = (59 : Int32) := by decide +kernel
theorem kB_80 : (Int8.ofInt 80).toInt32 = (80 : Int32) := by decide +kernel
theorem kB_99 : (Int8.ofInt 99).toInt32 = (99 : Int32) := by decide +kernel
theorem kB_100 : (Int8.ofInt 100).toInt32 = (100 : Int32) := by decide +kernel
theorem kB_103 : (Int8.ofInt 103).toInt32 = (103 : Int32) := by decide +kernel
theorem kB_104 : (Int8.ofInt 104).toInt32 = (104 : Int32) := by decide +kernel
theorem kB_112 : (Int8.ofInt 112).toInt32 = (112 : Int32) := by decide +kernel
theorem kB_116 : (Int8.ofInt 116).toInt32 = (116 : Int32) := by decide +kernel
theorem kB_126 : (Int8.ofInt 126).toInt32 = (126 : Int32) := by decide +kernel
theorem kI_m1 : Int32.ofInt (-1) = (-1 : Int32) := by decide +kernel
theorem kI_0 : Int32.ofInt 0 = (0 : Int32) := by decide +kernel
theorem kI_1 : Int32.ofInt 1 = (1 : Int32) := by decide +kernel
theorem kI_2 : Int32.ofInt 2 = (2 : Int32) := by decide +kernel
theorem kI_3 : Int32.ofInt 3 = (3 : Int32) := by decide +kernel
theorem kI_4 : Int32.ofInt 4 = (4 : Int32) := by decide +kernel
theorem kI_5 : Int32.ofInt 5 = (5 : Int32) := by decide +kernel
theorem kI_7 : Int32.ofInt 7 = (7 : Int32) := by decide +kernel
theorem kI_10 : Int32.ofInt 10 = (10 : Int32) := by decide +kernel
theorem kS_264 : (Int16.ofInt 264).toInt32 = (264 : Int32) := by decide +kernel
theorem kS_1056 : (Int16.ofInt 1056).toInt32 = (1056 : Int32) := by decide +kernel
theorem kS_9998 : (Int16.ofInt 9998).toInt32 = (9998 : Int32) := by decide +kernel
theorem kS_9999 : (Int16.ofInt 9999).toInt32 = (9999 : Int32) := by decide +kernel
theorem kT_0 : (0 : Int32).toInt = 0 := by decide +kernel
theorem kT_1 : (1 : Int32).toInt = 1 := by decide +kernel
theorem kT_2 : (2 : Int32).toInt = 2 := by decide +kernel
theorem kT_3 : (3 : Int32).toInt = 3 := by decide +kernel
theorem kT_4 : (4 : Int32).toInt = 4 := by decide +kernel
theorem kT_5 : (5 : Int32).toInt = 5 := by decide +kernel
theorem kT_6 : (6 : Int32).toInt = 6 := by decide +kernel
theorem kT_7 : (7 : Int32).toInt = 7 := by decide +kernel
theorem kT_8 : (8 : Int32).toInt = 8 := by decide +kernel
theorem kT_9 : (9 : Int32).toInt = 9 := by decide +kernel
theorem kT_10 : (10 : Int32).toInt = 10 := by decide +kernel
theorem kT_11 : (11 : Int32).toInt = 11 := by decide +kernel
theorem kT_12 : (12 : Int32).toInt = 12 := by decide +kernel
theorem kT_13 : (13 : Int32).toInt = 13 := by decide +kernel
theorem kT_14 : (14 : Int32).toInt = 14 := by decide +kernel
theorem kT_15 : (15 : Int32).toInt = 15 := by decide +kernel
theorem kT_16 : (16 : Int32).toInt = 16 := by decide +kernel
theorem kT_17 : (17 : Int32).toInt = 17 := by decide +kernel
theorem kT_18 : (18 : Int32).toInt = 18 := by decide +kernel
theorem kT_19 : (19 : Int32).toInt = 19 := by decide +kernel
theorem kT_20 : (20 : Int32).toInt = 20 := by decide +kernel
theorem kT_21 : (21 : Int32).toInt = 21 := by decide +kernel
theorem kT_22 : (22 : Int32).toInt = 22 := by decide +kernel
theorem kT_23 : (23 : Int32).toInt = 23 := by decide +kernel
theorem kT_24 : (24 : Int32).toInt = 24 := by decide +kernel
theorem kT_25 : (25 : Int32).toInt = 25 := by decide +kernel
theorem kT_26 : (26 : Int32).toInt = 26 := by decide +kernel
theorem kT_27 : (27 : Int32).toInt = 27 := by decide +kernel
theorem kT_28 : (28 : Int32).toInt = 28 := by decide +kernel
theorem kT_29 : (29 : Int32).toInt = 29 := by decide +kernel
theorem kT_30 : (30 : Int32).toInt = 30 := by decide +kernel
theorem kT_103 : (103 : Int32).toInt = 103 := by decide +kernel
theorem kT_108 : (108 : Int32).toInt = 108 := by decide +kernel
theorem kT_116 : (116 : Int32).toInt = 116 := by decide +kernel
theorem kT_119 : (119 : Int32).toInt = 119 := by decide +kernel
theorem kT_122 : (122 : Int32).toInt = 122 := by decide +kernel
theorem cc_ge {x y : Int32} : a_cc .ge x y = decide (¬ x < y) := by
  simp only [a_cc, Int32.not_lt]
theorem cc_le {x y : Int32} : a_cc .le x y = decide (¬ y < x) := by
  simp only [a_cc, Int32.not_lt]
theorem i_pos {c : Prop} [Decidable c] {A B : Prop} (hc : c) (h : A) : if c then A else B := by rw [if_pos hc]; exact h
theorem i_neg {c : Prop} [Decidable c] {A B : Prop} (hc : ¬ c) (h : B) : if c then A else B := by rw [if_neg hc]; exact h
theorem sw_pos {l : List (Int × Int)} {pc d x : Int} (h : ∀ p ∈ l, pc + p.2 ≥ 0) (hd : pc + d ≥ 0) : pc + Op.lookupswitch.offset l d x ≥ 0 := by
  induction l with
  | nil => exact hd
  | cons p l ih =>
    obtain ⟨a, o⟩ := p
    rw [Op.lookupswitch.offset_cons]
    split
    · exact h (a, o) List.mem_cons_self
    · exact ih (fun p hp => h p (List.mem_cons_of_mem _ hp))
/-- the ways out of a switch, from the number k on -/
def swC (q pc : Nat) (ls : aL) (st : List aV) (m : aM) (Q : Option aV → aM → Prop) (x : Int) (d : Int) : Int → List Int → Prop
  | _, [] => Rg q (a_tg pc d) ls st m Q
  | k, o :: r => if x = k then Rg q (a_tg pc o) ls st m Q else swC q pc ls st m Q x d (k + 1) r
theorem swC_ok {q pc : Nat} {ls : aL} {st : List aV} {m : aM} {Q : Option aV → aM → Prop} {x d : Int} : ∀ (offs : List Int) (k : Int), swC q pc ls st m Q x d k offs → (x < k ∨ k + offs.length ≤ x → Rg q (a_tg pc d) ls st m Q) ∧ ∀ o, k ≤ x → offs[(x - k).toNat]? = some o → Rg q (a_tg pc o) ls st m Q := by
  intro offs
  induction offs with
  | nil =>
    intro k h
    exact ⟨fun _ => h, fun o _ ho => by simp at ho⟩
  | cons o offs ih =>
    intro k h
    unfold swC at h
    by_cases hx : x = k
    · rw [if_pos hx] at h
      refine ⟨fun z => ?_, fun o' _ ho => ?_⟩
      · rw [List.length_cons] at z; omega
      · rw [hx, Int.sub_self] at ho
        cases ho
        exact h
    · rw [if_neg hx] at h
      obtain ⟨h1, h2⟩ := ih (k + 1) h
      refine ⟨fun z => h1 ?_, fun o' hk ho => h2 o' (by omega) ?_⟩
      · rw [List.length_cons] at z; omega
      · rw [show (x - k).toNat = (x - (k + 1)).toNat + 1 by omega, List.getElem?_cons_succ] at ho
        exact ho
theorem r_tsw2 {q pc a b w : Nat} {ls : aL} {st : List aV} {m : aM} {Q : Option aV → aM → Prop} {x : Int32} {d lo hi : Int} {offs : List Int} (h : a_look q pc = some (.tableswitch d lo hi ⟨offs⟩, a, b, w)) (h1 : (pc : Int) + d ≥ 0 ∧ ∀ o ∈ offs, (pc : Int) + o ≥ 0) (h2 : hi + 1 = lo + offs.length) (h3 : swC q pc ls st m Q x.toInt d lo offs) : Rg q pc ls (.inl x :: st) m Q := by
  obtain ⟨k1, k2⟩ := swC_ok offs lo h3
  refine r_tsw h ⟨h1, ?_⟩ ?_
  · show x.toInt < lo ∨ hi < x.toInt ∨ (x.toInt - lo).toNat < offs.length
    omega
  · unfold a_ts
    by_cases hx : x.toInt < lo ∨ hi < x.toInt
    · rw [if_pos hx]
      exact k1 (by omega)
    · rw [if_neg hx]
      have hlt : (x.toInt - lo).toNat < offs.length := by omega
      have hg : (⟨offs⟩ : Array Int)[(x.toInt - lo).toNat]? = some offs[(x.toInt - lo).toNat] := by
        rw [List.getElem?_toArray]
        exact List.getElem?_eq_getElem hlt
      rw [hg]
      exact k2 _ (by omega) (List.getElem?_eq_getElem hlt)
theorem sw_eq {x y : Int32} {k : Int} (hy : y.toInt = k) : x.toInt = k ↔ x = y := by
  rw [← hy]
  exact Int32.toInt_inj
theorem sw_t {q pc tgt : Nat} {ls : aL} {st : List aV} {m : aM} {Q : Option aV → aM → Prop} {x y : Int32} {d k o : Int} {r : List Int} (hy : y.toInt = k) (ht : a_tg pc o = tgt) (h : if x = y then Rg q tgt ls st m Q else swC q pc ls st m Q x.toInt d (k + 1) r) : swC q pc ls st m Q x.toInt d k (o :: r) := by
  unfold swC
  rw [ht]
  by_cases hx : x = y
  · rw [if_pos hx] at h; rw [if_pos ((sw_eq hy).mpr hx)]; exact h
  · rw [if_neg hx] at h; rw [if_neg (fun z => hx ((sw_eq hy).mp z))]; exact h
theorem sw_l {q pc tgt : Nat} {ls : aL} {st : List aV} {m : aM} {Q : Option aV → aM → Prop} {x y : Int32} {d k o : Int} {r : List (Int × Int)} (hy : y.toInt = k) (ht : a_tg pc o = tgt) (h : if x = y then Rg q tgt ls st m Q else Rg q (a_lk pc d ⟨r⟩ x) ls st m Q) : Rg q (a_lk pc d ⟨(k, o) :: r⟩ x) ls st m Q := by
  show Rg q (a_tg pc (Op.lookupswitch.offset ((k, o) :: r) d x.toInt)) ls st m Q
  rw [Op.lookupswitch.offset_cons]
  by_cases hx : x = y
  · rw [if_pos hx] at h; rw [if_pos ((sw_eq hy).mpr hx).symm, ht]; exact h
  · rw [if_neg hx] at h; rw [if_neg (fun z => hx ((sw_eq hy).mp z.symm))]; exact h
theorem sw_d {q pc tgt : Nat} {ls : aL} {st : List aV} {m : aM} {Q : Option aV → aM → Prop} {x k d : Int} (ht : a_tg pc d = tgt) (h : Rg q tgt ls st m Q) : swC q pc ls st m Q x d k [] := by
  unfold swC
  rw [ht]
  exact h
theorem sw_dl {q pc tgt : Nat} {ls : aL} {st : List aV} {m : aM} {Q : Option aV → aM → Prop} {x : Int32} {d : Int} (ht : a_tg pc d = tgt) (h : Rg q tgt ls st m Q) : Rg q (a_lk pc d ⟨[]⟩ x) ls st m Q := by
  show Rg q (a_tg pc d) ls st m Q
  rw [ht]
  exact h
theorem ML_0 : a_ml 0 = 2 := by decide +kernel
theorem RT_0 : a_rt 0 = some .int := by decide +kernel
theorem ML_1 : a_ml 1 = 2 := by decide +kernel
theorem RT_1 : a_rt 1 = some .int := by decide +kernel
theorem ML_2 : a_ml 2 = 2 := by decide +kernel
theorem RT_2 : a_rt 2 = some .int := by decide +kernel
theorem ML_3 : a_ml 3 = 1 := by decide +kernel
theorem RT_3 : a_rt 3 = none := by decide +kernel
theorem ML_4 : a_ml 4 = 1 := by decide +kernel
theorem RT_4 : a_rt 4 = some .boolean := by decide +kernel
theorem ML_5 : a_ml 5 = 1 := by decide +kernel
theorem RT_5 : a_rt 5 = none := by decide +kernel
theorem ML_6 : a_ml 6 = 2 := by decide +kernel
theorem RT_6 : a_rt 6 = none := by decide +kernel
theorem ML_7 : a_ml 7 = 5 := by decide +kernel
theorem RT_7 : a_rt 7 = some .int := by decide +kernel
theorem ML_8 : a_ml 8 = 2 := by decide +kernel
theorem RT_8 : a_rt 8 = some .boolean := by decide +kernel
theorem ML_9 : a_ml 9 = 2 := by decide +kernel
theorem RT_9 : a_rt 9 = some .boolean := by decide +kernel
theorem ML_10 : a_ml 10 = 2 := by decide +kernel
theorem RT_10 : a_rt 10 = some .boolean := by decide +kernel
theorem ML_11 : a_ml 11 = 2 := by decide +kernel
theorem RT_11 : a_rt 11 = some .boolean := by decide +kernel
theorem ML_12 : a_ml 12 = 4 := by decide +kernel
theorem RT_12 : a_rt 12 = none := by decide +kernel
theorem ML_13 : a_ml 13 = 2 := by decide +kernel
theorem RT_13 : a_rt 13 = none := by decide +kernel
theorem ML_14 : a_ml 14 = 3 := by decide +kernel
theorem RT_14 : a_rt 14 = some .int := by decide +kernel
theorem ML_15 : a_ml 15 = 3 := by decide +kernel
theorem RT_15 : a_rt 15 = some .int := by decide +kernel
theorem ML_16 : a_ml 16 = 4 := by decide +kernel
theorem RT_16 : a_rt 16 = some .int := by decide +kernel
theorem ML_17 : a_ml 17 = 3 := by decide +kernel
theorem RT_17 : a_rt 17 = some .int := by decide +kernel
theorem ML_18 : a_ml 18 = 4 := by decide +kernel
theorem RT_18 : a_rt 18 = some .int := by decide +kernel
theorem ML_19 : a_ml 19 = 3 := by decide +kernel
theorem RT_19 : a_rt 19 = some .int := by decide +kernel
theorem ML_20 : a_ml 20 = 4 := by decide +kernel
theorem RT_20 : a_rt 20 = some .int := by decide +kernel
theorem ML_21 : a_ml 21 = 3 := by decide +kernel
theorem RT_21 : a_rt 21 = some .boolean := by decide +kernel
theorem ML_22 : a_ml 22 = 2 := by decide +kernel
theorem RT_22 : a_rt 22 = none := by decide +kernel
theorem ML_23 : a_ml 23 = 2 := by decide +kernel
theorem RT_23 : a_rt 23 = some .boolean := by decide +kernel
theorem ML_24 : a_ml 24 = 3 := by decide +kernel
theorem RT_24 : a_rt 24 = some .boolean := by decide +kernel
theorem ML_25 : a_ml 25 = 4 := by decide +kernel
theorem RT_25 : a_rt 25 = some .int := by decide +kernel
theorem ML_26 : a_ml 26 = 2 := by decide +kernel
theorem RT_26 : a_rt 26 = none := by decide +kernel
theorem ML_27 : a_ml 27 = 2 := by decide +kernel
theorem RT_27 : a_rt 27 = none := by decide +kernel
theorem ML_28 : a_ml 28 = 1 := by decide +kernel
theorem RT_28 : a_rt 28 = none := by decide +kernel
theorem ML_29 : a_ml 29 = 2 := by decide +kernel
theorem RT_29 : a_rt 29 = none := by decide +kernel
theorem ML_30 : a_ml 30 = 2 := by decide +kernel
theorem RT_30 : a_rt 30 = none := by decide +kernel
theorem ML_31 : a_ml 31 = 6 := by decide +kernel
theorem RT_31 : a_rt 31 = some .int := by decide +kernel
theorem ML_32 : a_ml 32 = 8 := by decide +kernel
theorem RT_32 : a_rt 32 = some .int := by decide +kernel
theorem ML_33 : a_ml 33 = 5 := by decide +kernel
theorem RT_33 : a_rt 33 = some .int := by decide +kernel
theorem ML_34 : a_ml 34 = 4 := by decide +kernel
theorem RT_34 : a_rt 34 = some .int := by decide +kernel
theorem ML_35 : a_ml 35 = 3 := by decide +kernel
theorem RT_35 : a_rt 35 = some .int := by decide +kernel
theorem ML_36 : a_ml 36 = 2 := by decide +kernel
theorem RT_36 : a_rt 36 = some .int := by decide +kernel
theorem ML_37 : a_ml 37 = 4 := by decide +kernel
theorem RT_37 : a_rt 37 = some .int := by decide +kernel
theorem ML_38 : a_ml 38 = 3 := by decide +kernel
theorem RT_38 : a_rt 38 = some .int := by decide +kernel
theorem ML_39 : a_ml 39 = 2 := by decide +kernel
theorem RT_39 : a_rt 39 = some .int := by decide +kernel
theorem ML_40 : a_ml 40 = 4 := by decide +kernel
theorem RT_40 : a_rt 40 = some .int := by decide +kernel
theorem ML_41 : a_ml 41 = 3 := by decide +kernel
theorem RT_41 : a_rt 41 = some .int := by decide +kernel
theorem ML_42 : a_ml 42 = 2 := by decide +kernel
theorem RT_42 : a_rt 42 = none := by decide +kernel
theorem ML_43 : a_ml 43 = 2 := by decide +kernel
theorem RT_43 : a_rt 43 = none := by decide +kernel
theorem ML_44 : a_ml 44 = 2 := by decide +kernel
theorem RT_44 : a_rt 44 = none := by decide +kernel
theorem ML_45 : a_ml 45 = 2 := by decide +kernel
theorem RT_45 : a_rt 45 = some .boolean := by decide +kernel
theorem ML_46 : a_ml 46 = 2 := by decide +kernel
theorem RT_46 : a_rt 46 = some .int := by decide +kernel
theorem ML_47 : a_ml 47 = 4 := by decide +kernel
theorem RT_47 : a_rt 47 = some .int := by decide +kernel
theorem ML_48 : a_ml 48 = 3 := by decide +kernel
theorem RT_48 : a_rt 48 = some .int := by decide +kernel
theorem ML_49 : a_ml 49 = 4 := by decide +kernel
theorem RT_49 : a_rt 49 = some .boolean := by decide +kernel
theorem ML_50 : a_ml 50 = 7 := by decide +kernel
theorem RT_50 : a_rt 50 = some .int := by decide +kernel
theorem ML_51 : a_ml 51 = 5 := by decide +kernel
theorem RT_51 : a_rt 51 = some .boolean := by decide +kernel
theorem ML_52 : a_ml 52 = 2 := by decide +kernel
theorem RT_52 : a_rt 52 = some .boolean := by decide +kernel
theorem ML_53 : a_ml 53 = 7 := by decide +kernel
theorem RT_53 : a_rt 53 = some .boolean := by decide +kernel
theorem ML_54 : a_ml 54 = 5 := by decide +kernel
theorem RT_54 : a_rt 54 = some .int := by decide +kernel
theorem ML_55 : a_ml 55 = 2 := by decide +kernel
theorem RT_55 : a_rt 55 = some .int := by decide +kernel
theorem ML_56 : a_ml 56 = 2 := by decide +kernel
theorem RT_56 : a_rt 56 = some .boolean := by decide +kernel
theorem ML_57 : a_ml 57 = 3 := by decide +kernel
theorem RT_57 : a_rt 57 = some .int := by decide +kernel
theorem ML_58 : a_ml 58 = 3 := by decide +kernel
theorem RT_58 : a_rt 58 = some .int := by decide +kernel
theorem ML_59 : a_ml 59 = 2 := by decide +kernel
theorem RT_59 : a_rt 59 = none := by decide +kernel
theorem ML_60 : a_ml 60 = 5 := by decide +kernel
theorem RT_60 : a_rt 60 = some .int := by decide +kernel
theorem ML_61 : a_ml 61 = 7 := by decide +kernel
theorem RT_61 : a_rt 61 = some .int := by decide +kernel
theorem ML_62 : a_ml 62 = 4 := by decide +kernel
theorem RT_62 : a_rt 62 = some .int := by decide +kernel
theorem ML_63 : a_ml 63 = 3 := by decide +kernel
theorem RT_63 : a_rt 63 = some .int := by decide +kernel
theorem ML_64 : a_ml 64 = 2 := by decide +kernel
theorem RT_64 : a_rt 64 = some .int := by decide +kernel
theorem ML_65 : a_ml 65 = 2 := by decide +kernel
theorem RT_65 : a_rt 65 = some .int := by decide +kernel
theorem ML_66 : a_ml 66 = 2 := by decide +kernel
theorem RT_66 : a_rt 66 = some .int := by decide +kernel
theorem ML_67 : a_ml 67 = 4 := by decide +kernel
theorem RT_67 : a_rt 67 = some .int := by decide +kernel
theorem ML_68 : a_ml 68 = 3 := by decide +kernel
theorem RT_68 : a_rt 68 = some .int := by decide +kernel
theorem ML_69 : a_ml 69 = 2 := by decide +kernel
theorem RT_69 : a_rt 69 = some .int := by decide +kernel
theorem ML_70 : a_ml 70 = 2 := by decide +kernel
theorem RT_70 : a_rt 70 = some .int := by decide +kernel
theorem ML_71 : a_ml 71 = 2 := by decide +kernel
theorem RT_71 : a_rt 71 = some .int := by decide +kernel
theorem ML_72 : a_ml 72 = 1 := by decide +kernel
theorem RT_72 : a_rt 72 = some .int := by decide +kernel
theorem ML_73 : a_ml 73 = 1 := by decide +kernel
theorem RT_73 : a_rt 73 = some .int := by decide +kernel
theorem ML_74 : a_ml 74 = 4 := by decide +kernel
theorem RT_74 : a_rt 74 = some .int := by decide +kernel
theorem ML_75 : a_ml 75 = 1 := by decide +kernel
theorem RT_75 : a_rt 75 = some .int := by decide +kernel
theorem ML_76 : a_ml 76 = 2 := by decide +kernel
theorem RT_76 : a_rt 76 = some .int := by decide +kernel
theorem ML_77 : a_ml 77 = 2 := by decide +kernel
theorem RT_77 : a_rt 77 = some .int := by decide +kernel
theorem ML_78 : a_ml 78 = 3 := by decide +kernel
theorem RT_78 : a_rt 78 = some .int := by decide +kernel
theorem ML_79 : a_ml 79 = 3 := by decide +kernel
theorem RT_79 : a_rt 79 = some .int := by decide +kernel
theorem ML_80 : a_ml 80 = 3 := by decide +kernel
theorem RT_80 : a_rt 80 = some .int := by decide +kernel
theorem ML_81 : a_ml 81 = 5 := by decide +kernel
theorem RT_81 : a_rt 81 = some .int := by decide +kernel
theorem ML_82 : a_ml 82 = 3 := by decide +kernel
theorem RT_82 : a_rt 82 = some .int := by decide +kernel
theorem ML_83 : a_ml 83 = 2 := by decide +kernel
theorem RT_83 : a_rt 83 = some .int := by decide +kernel
theorem ML_84 : a_ml 84 = 2 := by decide +kernel
theorem RT_84 : a_rt 84 = some .int := by decide +kernel
theorem ML_85 : a_ml 85 = 2 := by decide +kernel
theorem RT_85 : a_rt 85 = some .int := by decide +kernel
theorem ML_86 : a_ml 86 = 6 := by decide +kernel
theorem RT_86 : a_rt 86 = some .int := by decide +kernel
theorem ML_87 : a_ml 87 = 8 := by decide +kernel
theorem RT_87 : a_rt 87 = some .int := by decide +kernel
theorem ML_88 : a_ml 88 = 4 := by decide +kernel
theorem RT_88 : a_rt 88 = some .int := by decide +kernel
theorem ML_89 : a_ml 89 = 4 := by decide +kernel
theorem RT_89 : a_rt 89 = some .int := by decide +kernel
theorem ML_90 : a_ml 90 = 2 := by decide +kernel
theorem RT_90 : a_rt 90 = some .int := by decide +kernel
theorem ML_91 : a_ml 91 = 2 := by decide +kernel
theorem RT_91 : a_rt 91 = some .int := by decide +kernel
theorem ML_92 : a_ml 92 = 4 := by decide +kernel
theorem RT_92 : a_rt 92 = some .int := by decide +kernel
theorem ML_93 : a_ml 93 = 3 := by decide +kernel
theorem RT_93 : a_rt 93 = some .boolean := by decide +kernel
theorem ML_94 : a_ml 94 = 2 := by decide +kernel
theorem RT_94 : a_rt 94 = some .boolean := by decide +kernel
theorem ML_95 : a_ml 95 = 3 := by decide +kernel
theorem RT_95 : a_rt 95 = some .boolean := by decide +kernel
theorem ML_96 : a_ml 96 = 2 := by decide +kernel
theorem RT_96 : a_rt 96 = none := by decide +kernel
theorem ML_97 : a_ml 97 = 3 := by decide +kernel
theorem RT_97 : a_rt 97 = some .boolean := by decide +kernel
theorem ML_98 : a_ml 98 = 2 := by decide +kernel
theorem RT_98 : a_rt 98 = none := by decide +kernel
theorem ML_99 : a_ml 99 = 2 := by decide +kernel
theorem RT_99 : a_rt 99 = none := by decide +kernel
theorem ML_100 : a_ml 100 = 2 := by decide +kernel
theorem RT_100 : a_rt 100 = none := by decide +kernel
theorem ML_101 : a_ml 101 = 2 := by decide +kernel
theorem RT_101 : a_rt 101 = some .boolean := by decide +kernel
theorem ML_102 : a_ml 102 = 2 := by decide +kernel
theorem RT_102 : a_rt 102 = some .boolean := by decide +kernel
theorem ML_103 : a_ml 103 = 2 := by decide +kernel
theorem RT_103 : a_rt 103 = some .boolean := by decide +kernel
theorem ML_104 : a_ml 104 = 3 := by decide +kernel
theorem RT_104 : a_rt 104 = some .int := by decide +kernel
theorem ML_105 : a_ml 105 = 3 := by decide +kernel
theorem RT_105 : a_rt 105 = some .int := by decide +kernel
theorem ML_106 : a_ml 106 = 3 := by decide +kernel
theorem RT_106 : a_rt 106 = some .int := by decide +kernel
theorem ML_107 : a_ml 107 = 4 := by decide +kernel
theorem RT_107 : a_rt 107 = none := by decide +kernel
theorem ML_108 : a_ml 108 = 2 := by decide +kernel
theorem RT_108 : a_rt 108 = some .boolean := by decide +kernel
theorem ML_109 : a_ml 109 = 1 := by decide +kernel
theorem RT_109 : a_rt 109 = some .boolean := by decide +kernel
theorem ML_110 : a_ml 110 = 1 := by decide +kernel
theorem RT_110 : a_rt 110 = some .boolean := by decide +kernel
theorem ML_111 : a_ml 111 = 1 := by decide +kernel
theorem RT_111 : a_rt 111 = some .int := by decide +kernel
theorem ML_112 : a_ml 112 = 1 := by decide +kernel
theorem RT_112 : a_rt 112 = some .int := by decide +kernel
theorem ML_113 : a_ml 113 = 5 := by decide +kernel
theorem RT_113 : a_rt 113 = some .boolean := by decide +kernel
theorem ML_114 : a_ml 114 = 9 := by decide +kernel
theorem RT_114 : a_rt 114 = some .boolean := by decide +kernel
theorem ML_115 : a_ml 115 = 3 := by decide +kernel
theorem RT_115 : a_rt 115 = some .boolean := by decide +kernel
theorem ML_116 : a_ml 116 = 7 := by decide +kernel
theorem RT_116 : a_rt 116 = some .boolean := by decide +kernel
theorem ML_117 : a_ml 117 = 9 := by decide +kernel
theorem RT_117 : a_rt 117 = some .boolean := by decide +kernel
theorem ML_118 : a_ml 118 = 5 := by decide +kernel
theorem RT_118 : a_rt 118 = some .boolean := by decide +kernel
theorem ML_119 : a_ml 119 = 4 := by decide +kernel
theorem RT_119 : a_rt 119 = some .boolean := by decide +kernel
theorem ML_120 : a_ml 120 = 2 := by decide +kernel
theorem RT_120 : a_rt 120 = some .boolean := by decide +kernel
theorem ML_121 : a_ml 121 = 7 := by decide +kernel
theorem RT_121 : a_rt 121 = some .boolean := by decide +kernel
theorem ML_122 : a_ml 122 = 5 := by decide +kernel
theorem RT_122 : a_rt 122 = some .int := by decide +kernel
theorem ML_123 : a_ml 123 = 8 := by decide +kernel
theorem RT_123 : a_rt 123 = some .int := by decide +kernel
theorem ML_124 : a_ml 124 = 2 := by decide +kernel
theorem RT_124 : a_rt 124 = some .boolean := by decide +kernel
theorem ML_125 : a_ml 125 = 3 := by decide +kernel
theorem RT_125 : a_rt 125 = none := by decide +kernel
theorem ML_126 : a_ml 126 = 2 := by decide +kernel
theorem RT_126 : a_rt 126 = none := by decide +kernel
theorem ML_127 : a_ml 127 = 3 := by decide +kernel
theorem RT_127 : a_rt 127 = some .int := by decide +kernel
theorem ML_128 : a_ml 128 = 3 := by decide +kernel
theorem RT_128 : a_rt 128 = some .int := by decide +kernel
theorem ML_129 : a_ml 129 = 4 := by decide +kernel
theorem RT_129 : a_rt 129 = some .int := by decide +kernel
theorem ML_130 : a_ml 130 = 3 := by decide +kernel
theorem RT_130 : a_rt 130 = some .int := by decide +kernel
theorem ML_131 : a_ml 131 = 6 := by decide +kernel
theorem RT_131 : a_rt 131 = some .int := by decide +kernel
theorem ML_132 : a_ml 132 = 8 := by decide +kernel
theorem RT_132 : a_rt 132 = some .int := by decide +kernel
theorem ML_133 : a_ml 133 = 5 := by decide +kernel
theorem RT_133 : a_rt 133 = some .int := by decide +kernel
theorem ML_134 : a_ml 134 = 4 := by decide +kernel
theorem RT_134 : a_rt 134 = some .int := by decide +kernel
theorem ML_135 : a_ml 135 = 3 := by decide +kernel
theorem RT_135 : a_rt 135 = some .int := by decide +kernel
theorem ML_136 : a_ml 136 = 2 := by decide +kernel
theorem RT_136 : a_rt 136 = some .int := by decide +kernel
theorem ML_137 : a_ml 137 = 2 := by decide +kernel
theorem RT_137 : a_rt 137 = some .int := by decide +kernel
theorem ML_138 : a_ml 138 = 2 := by decide +kernel
theorem RT_138 : a_rt 138 = some .int := by decide +kernel
theorem ML_139 : a_ml 139 = 2 := by decide +kernel
theorem RT_139 : a_rt 139 = some .int := by decide +kernel
theorem ML_140 : a_ml 140 = 5 := by decide +kernel
theorem RT_140 : a_rt 140 = some .boolean := by decide +kernel
theorem ML_141 : a_ml 141 = 5 := by decide +kernel
theorem RT_141 : a_rt 141 = some .int := by decide +kernel
theorem ML_142 : a_ml 142 = 3 := by decide +kernel
theorem RT_142 : a_rt 142 = some .int := by decide +kernel
theorem ML_143 : a_ml 143 = 2 := by decide +kernel
theorem RT_143 : a_rt 143 = some .int := by decide +kernel
theorem ML_144 : a_ml 144 = 4 := by decide +kernel
theorem RT_144 : a_rt 144 = some .int := by decide +kernel
theorem ML_145 : a_ml 145 = 2 := by decide +kernel
theorem RT_145 : a_rt 145 = some .int := by decide +kernel
theorem ML_146 : a_ml 146 = 2 := by decide +kernel
theorem RT_146 : a_rt 146 = some .int := by decide +kernel
theorem ML_147 : a_ml 147 = 3 := by decide +kernel
theorem RT_147 : a_rt 147 = some .boolean := by decide +kernel
theorem ML_148 : a_ml 148 = 3 := by decide +kernel
theorem RT_148 : a_rt 148 = some .boolean := by decide +kernel
theorem ML_149 : a_ml 149 = 5 := by decide +kernel
theorem RT_149 : a_rt 149 = some .int := by decide +kernel
theorem ML_150 : a_ml 150 = 2 := by decide +kernel
theorem RT_150 : a_rt 150 = some .boolean := by decide +kernel
theorem ML_151 : a_ml 151 = 2 := by decide +kernel
theorem RT_151 : a_rt 151 = some .int := by decide +kernel
theorem ML_152 : a_ml 152 = 2 := by decide +kernel
theorem RT_152 : a_rt 152 = some .int := by decide +kernel
theorem ML_153 : a_ml 153 = 4 := by decide +kernel
theorem RT_153 : a_rt 153 = some .int := by decide +kernel
theorem ML_154 : a_ml 154 = 2 := by decide +kernel
theorem RT_154 : a_rt 154 = some .int := by decide +kernel
theorem ML_155 : a_ml 155 = 3 := by decide +kernel
theorem RT_155 : a_rt 155 = some .int := by decide +kernel
theorem ML_156 : a_ml 156 = 3 := by decide +kernel
theorem RT_156 : a_rt 156 = some .int := by decide +kernel
theorem ML_157 : a_ml 157 = 4 := by decide +kernel
theorem RT_157 : a_rt 157 = some .int := by decide +kernel
theorem ML_158 : a_ml 158 = 3 := by decide +kernel
theorem RT_158 : a_rt 158 = some .int := by decide +kernel
theorem ML_159 : a_ml 159 = 3 := by decide +kernel
theorem RT_159 : a_rt 159 = some .int := by decide +kernel
theorem ML_160 : a_ml 160 = 3 := by decide +kernel
theorem RT_160 : a_rt 160 = some .int := by decide +kernel
theorem ML_161 : a_ml 161 = 3 := by decide +kernel
theorem RT_161 : a_rt 161 = some .int := by decide +kernel
theorem ML_162 : a_ml 162 = 6 := by decide +kernel
theorem RT_162 : a_rt 162 = some .int := by decide +kernel
theorem ML_163 : a_ml 163 = 3 := by decide +kernel
theorem RT_163 : a_rt 163 = some .int := by decide +kernel
theorem ML_164 : a_ml 164 = 4 := by decide +kernel
theorem RT_164 : a_rt 164 = some .boolean := by decide +kernel
theorem ML_165 : a_ml 165 = 6 := by decide +kernel
theorem RT_165 : a_rt 165 = some .int := by decide +kernel
theorem ML_166 : a_ml 166 = 2 := by decide +kernel
theorem RT_166 : a_rt 166 = some .int := by decide +kernel
theorem ML_167 : a_ml 167 = 4 := by decide +kernel
theorem RT_167 : a_rt 167 = some .int := by decide +kernel
theorem ML_168 : a_ml 168 = 3 := by decide +kernel
theorem RT_168 : a_rt 168 = some .int := by decide +kernel
theorem ML_169 : a_ml 169 = 2 := by decide +kernel
theorem RT_169 : a_rt 169 = some .int := by decide +kernel
theorem ML_170 : a_ml 170 = 5 := by decide +kernel
theorem RT_170 : a_rt 170 = some .int := by decide +kernel
theorem ML_171 : a_ml 171 = 7 := by decide +kernel
theorem RT_171 : a_rt 171 = some .int := by decide +kernel
theorem ML_172 : a_ml 172 = 4 := by decide +kernel
theorem RT_172 : a_rt 172 = some .int := by decide +kernel
theorem ML_173 : a_ml 173 = 5 := by decide +kernel
theorem RT_173 : a_rt 173 = some .int := by decide +kernel
theorem ML_174 : a_ml 174 = 3 := by decide +kernel
theorem RT_174 : a_rt 174 = some .int := by decide +kernel
theorem ML_175 : a_ml 175 = 4 := by decide +kernel
theorem RT_175 : a_rt 175 = some .boolean := by decide +kernel
end
section
/-! code rows of the leaves -/
theorem L_93_0 : a_look 93 0 = some (.iload_n 0, 0, 0, 0) := by decide +kernel
theorem L_93_1 : a_look 93 1 = some (.iload_n 1, 0, 0, 0) := by decide +kernel
theorem L_93_2 : a_look 93 2 = some (.if_icmp .lt 8, 10, 0, 0) := by decide +kernel
theorem L_93_5 : a_look 93 5 = some (.iload_n 0, 0, 0, 0) := by decide +kernel
theorem L_93_6 : a_look 93 6 = some (.iload_n 2, 0, 0, 0) := by decide +kernel
theorem L_93_7 : a_look 93 7 = some (.if_icmp .le 7, 14, 0, 0) := by decide +kernel
theorem L_93_10 : a_look 93 10 = some (.iconst 1, 0, 0, 0) := by decide +kernel
theorem L_93_11 : a_look 93 11 = some (.goto 4, 15, 0, 0) := by decide +kernel
theorem L_93_14 : a_look 93 14 = some (.iconst 0, 0, 0, 0) := by decide +kernel
theorem L_93_15 : a_look 93 15 = some (.ireturn, 0, 0, 0) := by decide +kernel
theorem L_94_0 : a_look 94 0 = some (.iload_n 0, 0, 0, 0) := by decide +kernel
theorem L_94_1 : a_look 94 1 = some (.iconst 0, 0, 0, 0) := by decide +kernel
theorem L_94_2 : a_look 94 2 = some (.bipush 99, 0, 0, 0) := by decide +kernel
theorem L_94_4 : a_look 94 4 = some (.invokestatic 122, 93, 3, 608) := by decide +kernel
theorem L_94_7 : a_look 94 7 = some (.ifCond .ne 13, 20, 0, 0) := by decide +kernel
theorem L_94_10 : a_look 94 10 = some (.iload_n 1, 0, 0, 0) := by decide +kernel
theorem L_94_11 : a_look 94 11 = some (.iconst 0, 0, 0, 0) := by decide +kernel
theorem L_94_12 : a_look 94 12 = some (.bipush 99, 0, 0, 0) := by decide +kernel
theorem L_94_14 : a_look 94 14 = some (.invokestatic 122, 93, 3, 608) := by decide +kernel
theorem L_94_17 : a_look 94 17 = some (.ifCond .eq 7, 24, 0, 0) := by decide +kernel
theorem L_94_20 : a_look 94 20 = some (.iconst 1, 0, 0, 0) := by decide +kernel
theorem L_94_21 : a_look 94 21 = some (.goto 4, 25, 0, 0) := by decide +kernel
theorem L_94_24 : a_look 94 24 = some (.iconst 0, 0, 0, 0) := by decide +kernel
theorem L_94_25 : a_look 94 25 = some (.ireturn, 0, 0, 0) := by decide +kernel
theorem L_95_0 : a_look 95 0 = some (.iload_n 0, 0, 0, 0) := by decide +kernel
theorem L_95_1 : a_look 95 1 = some (.iload_n 0, 0, 0, 0) := by decide +kernel
theorem L_95_2 : a_look 95 2 = some (.imul, 0, 0, 0) := by decide +kernel
theorem L_95_3 : a_look 95 3 = some (.iload_n 1, 0, 0, 0) := by decide +kernel
theorem L_95_4 : a_look 95 4 = some (.iload_n 1, 0, 0, 0) := by decide +kernel
theorem L_95_5 : a_look 95 5 = some (.imul, 0, 0, 0) := by decide +kernel
theorem L_95_6 : a_look 95 6 = some (.iadd, 0, 0, 0) := by decide +kernel
theorem L_95_7 : a_look 95 7 = some (.iload_n 2, 0, 0, 0) := by decide +kernel
theorem L_95_8 : a_look 95 8 = some (.iload_n 2, 0, 0, 0) := by decide +kernel
theorem L_95_9 : a_look 95 9 = some (.imul, 0, 0, 0) := by decide +kernel
theorem L_95_10 : a_look 95 10 = some (.if_icmp .gt 7, 17, 0, 0) := by decide +kernel
theorem L_95_13 : a_look 95 13 = some (.iconst 1, 0, 0, 0) := by decide +kernel
theorem L_95_14 : a_look 95 14 = some (.goto 4, 18, 0, 0) := by decide +kernel
theorem L_95_17 : a_look 95 17 = some (.iconst 0, 0, 0, 0) := by decide +kernel
theorem L_95_18 : a_look 95 18 = some (.ireturn, 0, 0, 0) := by decide +kernel
theorem L_97_0 : a_look 97 0 = some (.iload_n 0, 0, 0, 0) := by decide +kernel
theorem L_97_1 : a_look 97 1 = some (.iload_n 1, 0, 0, 0) := by decide +kernel
theorem L_97_2 : a_look 97 2 = some (.if_icmp .lt 12, 14, 0, 0) := by decide +kernel
theorem L_97_5 : a_look 97 5 = some (.iload_n 0, 0, 0, 0) := by decide +kernel
theorem L_97_6 : a_look 97 6 = some (.iload_n 2, 0, 0, 0) := by decide +kernel
theorem L_97_7 : a_look 97 7 = some (.if_icmp .gt 7, 14, 0, 0) := by decide +kernel
theorem L_97_10 : a_look 97 10 = some (.iconst 1, 0, 0, 0) := by decide +kernel
theorem L_97_11 : a_look 97 11 = some (.goto 4, 15, 0, 0) := by decide +kernel
theorem L_97_14 : a_look 97 14 = some (.iconst 0, 0, 0, 0) := by decide +kernel
theorem L_97_15 : a_look 97 15 = some (.ireturn, 0, 0, 0) := by decide +kernel
theorem L_9_0 : a_look 9 0 = some (.iload_n 1, 0, 0, 0) := by decide +kernel
theorem L_9_1 : a_look 9 1 = some (.ifCond .lt 15, 16, 0, 0) := by decide +kernel
theorem L_9_4 : a_look 9 4 = some (.iload_n 1, 0, 0, 0) := by decide +kernel
theorem L_9_5 : a_look 9 5 = some (.aload_n 0, 0, 0, 0) := by decide +kernel
theorem L_9_6 : a_look 9 6 = some (.getfield 42, 1, 10, 519) := by decide +kernel
theorem L_9_9 : a_look 9 9 = some (.if_icmp .ge 7, 16, 0, 0) := by decide +kernel
theorem L_9_12 : a_look 9 12 = some (.iconst 1, 0, 0, 0) := by decide +kernel
theorem L_9_13 : a_look 9 13 = some (.goto 4, 17, 0, 0) := by decide +kernel
theorem L_9_16 : a_look 9 16 = some (.iconst 0, 0, 0, 0) := by decide +kernel
theorem L_9_17 : a_look 9 17 = some (.ireturn, 0, 0, 0) := by decide +kernel
theorem L_23_0 : a_look 23 0 = some (.iload_n 1, 0, 0, 0) := by decide +kernel
theorem L_23_1 : a_look 23 1 = some (.ifCond .lt 15, 16, 0, 0) := by decide +kernel
theorem L_23_4 : a_look 23 4 = some (.iload_n 1, 0, 0, 0) := by decide +kernel
theorem L_23_5 : a_look 23 5 = some (.aload_n 0, 0, 0, 0) := by decide +kernel
theorem L_23_6 : a_look 23 6 = some (.getfield 33, 2, 7, 514) := by decide +kernel
theorem L_23_9 : a_look 23 9 = some (.if_icmp .ge 7, 16, 0, 0) := by decide +kernel
theorem L_23_12 : a_look 23 12 = some (.iconst 1, 0, 0, 0) := by decide +kernel
theorem L_23_13 : a_look 23 13 = some (.goto 4, 17, 0, 0) := by decide +kernel
theorem L_23_16 : a_look 23 16 = some (.iconst 0, 0, 0, 0) := by decide +kernel
theorem L_23_17 : a_look 23 17 = some (.ireturn, 0, 0, 0) := by decide +kernel
theorem L_56_0 : a_look 56 0 = some (.iload_n 1, 0, 0, 0) := by decide +kernel
theorem L_56_1 : a_look 56 1 = some (.ifCond .lt 15, 16, 0, 0) := by decide +kernel
theorem L_56_4 : a_look 56 4 = some (.iload_n 1, 0, 0, 0) := by decide +kernel
theorem L_56_5 : a_look 56 5 = some (.aload_n 0, 0, 0, 0) := by decide +kernel
theorem L_56_6 : a_look 56 6 = some (.getfield 27, 5, 5, 423) := by decide +kernel
theorem L_56_9 : a_look 56 9 = some (.if_icmp .ge 7, 16, 0, 0) := by decide +kernel
theorem L_56_12 : a_look 56 12 = some (.iconst 1, 0, 0, 0) := by decide +kernel
theorem L_56_13 : a_look 56 13 = some (.goto 4, 17, 0, 0) := by decide +kernel
theorem L_56_16 : a_look 56 16 = some (.iconst 0, 0, 0, 0) := by decide +kernel
theorem L_56_17 : a_look 56 17 = some (.ireturn, 0, 0, 0) := by decide +kernel
theorem L_10_0 : a_look 10 0 = some (.aload_n 0, 0, 0, 0) := by decide +kernel
theorem L_10_1 : a_look 10 1 = some (.getfield 21, 1, 3, 222) := by decide +kernel
theorem L_10_4 : a_look 10 4 = some (.iload_n 1, 0, 0, 0) := by decide +kernel
theorem L_10_5 : a_look 10 5 = some (.iaload, 0, 0, 0) := by decide +kernel
theorem L_10_6 : a_look 10 6 = some (.iconst (-1), 0, 0, 0) := by decide +kernel
theorem L_10_7 : a_look 10 7 = some (.if_icmp .eq 7, 14, 0, 0) := by decide +kernel
theorem L_10_10 : a_look 10 10 = some (.iconst 1, 0, 0, 0) := by decide +kernel
theorem L_10_11 : a_look 10 11 = some (.goto 4, 15, 0, 0) := by decide +kernel
theorem L_10_14 : a_look 10 14 = some (.iconst 0, 0, 0, 0) := by decide +kernel
theorem L_10_15 : a_look 10 15 = some (.ireturn, 0, 0, 0) := by decide +kernel
theorem L_11_0 : a_look 11 0 = some (.aload_n 0, 0, 0, 0) := by decide +kernel
theorem L_11_1 : a_look 11 1 = some (.getfield 30, 1, 6, 301) := by decide +kernel
theorem L_11_4 : a_look 11 4 = some (.iload_n 1, 0, 0, 0) := by decide +kernel
theorem L_11_5 : a_look 11 5 = some (.iaload, 0, 0, 0) := by decide +kernel
theorem L_11_6 : a_look 11 6 = some (.iconst (-1), 0, 0, 0) := by decide +kernel
theorem L_11_7 : a_look 11 7 = some (.if_icmp .eq 7, 14, 0, 0) := by decide +kernel
theorem L_11_10 : a_look 11 10 = some (.iconst 1, 0, 0, 0) := by decide +kernel
theorem L_11_11 : a_look 11 11 = some (.goto 4, 15, 0, 0) := by decide +kernel
theorem L_11_14 : a_look 11 14 = some (.iconst 0, 0, 0, 0) := by decide +kernel
theorem L_11_15 : a_look 11 15 = some (.ireturn, 0, 0, 0) := by decide +kernel
theorem L_12_0 : a_look 12 0 = some (.aload_n 0, 0, 0, 0) := by decide +kernel
theorem L_12_1 : a_look 12 1 = some (.getfield 21, 1, 3, 222) := by decide +kernel
theorem L_12_4 : a_look 12 4 = some (.iload_n 1, 0, 0, 0) := by decide +kernel
theorem L_12_5 : a_look 12 5 = some (.iload_n 2, 0, 0, 0) := by decide +kernel
theorem L_12_6 : a_look 12 6 = some (.iastore, 0, 0, 0) := by decide +kernel
theorem L_12_7 : a_look 12 7 = some (.aload_n 0, 0, 0, 0) := by decide +kernel
theorem L_12_8 : a_look 12 8 = some (.getfield 24, 1, 4, 223) := by decide +kernel
theorem L_12_11 : a_look 12 11 = some (.iload_n 1, 0, 0, 0) := by decide +kernel
theorem L_12_12 : a_look 12 12 = some (.iload_n 3, 0, 0, 0) := by decide +kernel
theorem L_12_13 : a_look 12 13 = some (.iastore, 0, 0, 0) := by decide +kernel
theorem L_12_14 : a_look 12 14 = some (.aload_n 0, 0, 0, 0) := by decide +kernel
theorem L_12_15 : a_look 12 15 = some (.getfield 30, 1, 6, 301) := by decide +kernel
theorem L_12_18 : a_look 12 18 = some (.iload_n 1, 0, 0, 0) := by decide +kernel
theorem L_12_19 : a_look 12 19 = some (.iconst (-1), 0, 0, 0) := by decide +kernel
theorem L_12_20 : a_look 12 20 = some (.iastore, 0, 0, 0) := by decide +kernel
theorem L_12_21 : a_look 12 21 = some (.return_, 0, 0, 0) := by decide +kernel
theorem L_13_0 : a_look 13 0 = some (.aload_n 0, 0, 0, 0) := by decide +kernel
theorem L_13_1 : a_look 13 1 = some (.getfield 21, 1, 3, 222) := by decide +kernel
theorem L_13_4 : a_look 13 4 = some (.iload_n 1, 0, 0, 0) := by decide +kernel
theorem L_13_5 : a_look 13 5 = some (.iconst (-1), 0, 0, 0) := by decide +kernel
theorem L_13_6 : a_look 13 6 = some (.iastore, 0, 0, 0) := by decide +kernel
theorem L_13_7 : a_look 13 7 = some (.aload_n 0, 0, 0, 0) := by decide +kernel
theorem L_13_8 : a_look 13 8 = some (.getfield 30, 1, 6, 301) := by decide +kernel
theorem L_13_11 : a_look 13 11 = some (.iload_n 1, 0, 0, 0) := by decide +kernel
theorem L_13_12 : a_look 13 12 = some (.iconst (-1), 0, 0, 0) := by decide +kernel
theorem L_13_13 : a_look 13 13 = some (.iastore, 0, 0, 0) := by decide +kernel
theorem L_13_14 : a_look 13 14 = some (.return_, 0, 0, 0) := by decide +kernel
theorem L_24_0 : a_look 24 0 = some (.aload_n 0, 0, 0, 0) := by decide +kernel
theorem L_24_1 : a_look 24 1 = some (.getfield 30, 2, 6, 215) := by decide +kernel
theorem L_24_4 : a_look 24 4 = some (.iload_n 1, 0, 0, 0) := by decide +kernel
theorem L_24_5 : a_look 24 5 = some (.iaload, 0, 0, 0) := by decide +kernel
theorem L_24_6 : a_look 24 6 = some (.ifCond .ne 27, 33, 0, 0) := by decide +kernel
theorem L_24_9 : a_look 24 9 = some (.aload_n 0, 0, 0, 0) := by decide +kernel
theorem L_24_10 : a_look 24 10 = some (.getfield 24, 2, 4, 213) := by decide +kernel
theorem L_24_13 : a_look 24 13 = some (.iload_n 1, 0, 0, 0) := by decide +kernel
theorem L_24_14 : a_look 24 14 = some (.iaload, 0, 0, 0) := by decide +kernel
theorem L_24_15 : a_look 24 15 = some (.iload_n 2, 0, 0, 0) := by decide +kernel
theorem L_24_16 : a_look 24 16 = some (.if_icmp .gt 17, 33, 0, 0) := by decide +kernel
theorem L_24_19 : a_look 24 19 = some (.iload_n 2, 0, 0, 0) := by decide +kernel
theorem L_24_20 : a_look 24 20 = some (.aload_n 0, 0, 0, 0) := by decide +kernel
theorem L_24_21 : a_look 24 21 = some (.getfield 27, 2, 5, 214) := by decide +kernel
theorem L_24_24 : a_look 24 24 = some (.iload_n 1, 0, 0, 0) := by decide +kernel
theorem L_24_25 : a_look 24 25 = some (.iaload, 0, 0, 0) := by decide +kernel
theorem L_24_26 : a_look 24 26 = some (.if_icmp .ge 7, 33, 0, 0) := by decide +kernel
theorem L_24_29 : a_look 24 29 = some (.iconst 1, 0, 0, 0) := by decide +kernel
theorem L_24_30 : a_look 24 30 = some (.goto 4, 34, 0, 0) := by decide +kernel
theorem L_24_33 : a_look 24 33 = some (.iconst 0, 0, 0, 0) := by decide +kernel
theorem L_24_34 : a_look 24 34 = some (.ireturn, 0, 0, 0) := by decide +kernel
theorem L_45_0 : a_look 45 0 = some (.aload_n 0, 0, 0, 0) := by decide +kernel
theorem L_45_1 : a_look 45 1 = some (.getfield 53, 4, 4, 417) := by decide +kernel
theorem L_45_4 : a_look 45 4 = some (.iload_n 1, 0, 0, 0) := by decide +kernel
theorem L_45_5 : a_look 45 5 = some (.iadd, 0, 0, 0) := by decide +kernel
theorem L_45_6 : a_look 45 6 = some (.aload_n 0, 0, 0, 0) := by decide +kernel
theorem L_45_7 : a_look 45 7 = some (.getfield 32, 4, 3, 121) := by decide +kernel
theorem L_45_10 : a_look 45 10 = some (.iconst 1, 0, 0, 0) := by decide +kernel
theorem L_45_11 : a_look 45 11 = some (.iaload, 0, 0, 0) := by decide +kernel
theorem L_45_12 : a_look 45 12 = some (.irem, 0, 0, 0) := by decide +kernel
theorem L_45_13 : a_look 45 13 = some (.ifCond .ne 7, 20, 0, 0) := by decide +kernel
theorem L_45_16 : a_look 45 16 = some (.iconst 1, 0, 0, 0) := by decide +kernel
theorem L_45_17 : a_look 45 17 = some (.goto 4, 21, 0, 0) := by decide +kernel
theorem L_45_20 : a_look 45 20 = some (.iconst 0, 0, 0, 0) := by decide +kernel
theorem L_45_21 : a_look 45 21 = some (.ireturn, 0, 0, 0) := by decide +kernel
theorem L_4_0 : a_look 4 0 = some (.aload_n 0, 0, 0, 0) := by decide +kernel
theorem L_4_1 : a_look 4 1 = some (.getfield 15, 0, 3, 316) := by decide +kernel
theorem L_4_4 : a_look 4 4 = some (.bipush (-6), 0, 0, 0) := by decide +kernel
theorem L_4_6 : a_look 4 6 = some (.if_icmp .ne 18, 24, 0, 0) := by decide +kernel
theorem L_4_9 : a_look 4 9 = some (.aload_n 0, 0, 0, 0) := by decide +kernel
theorem L_4_10 : a_look 4 10 = some (.getfield 36, 0, 2, 2323) := by decide +kernel
theorem L_4_13 : a_look 4 13 = some (.aload_n 0, 0, 0, 0) := by decide +kernel
theorem L_4_14 : a_look 4 14 = some (.getfield 23, 0, 1, 2217) := by decide +kernel
theorem L_4_17 : a_look 4 17 = some (.if_icmp .ge 7, 24, 0, 0) := by decide +kernel
theorem L_4_20 : a_look 4 20 = some (.iconst 1, 0, 0, 0) := by decide +kernel
theorem L_4_21 : a_look 4 21 = some (.goto 4, 25, 0, 0) := by decide +kernel
theorem L_4_24 : a_look 4 24 = some (.iconst 0, 0, 0, 0) := by decide +kernel
theorem L_4_25 : a_look 4 25 = some (.ireturn, 0, 0, 0) := by decide +kernel
theorem L_8_0 : a_look 8 0 = some (.iload_n 1, 0, 0, 0) := by decide +kernel
theorem L_8_1 : a_look 8 1 = some (.aload_n 0, 0, 0, 0) := by decide +kernel
theorem L_8_2 : a_look 8 2 = some (.getfield 23, 0, 1, 2217) := by decide +kernel
theorem L_8_5 : a_look 8 5 = some (.if_icmp .ge 29, 34, 0, 0) := by decide +kernel
theorem L_8_8 : a_look 8 8 = some (.aload_n 0, 0, 0, 0) := by decide +kernel
theorem L_8_9 : a_look 8 9 = some (.getfield 9, 0, 0, 315) := by decide +kernel
theorem L_8_12 : a_look 8 12 = some (.iload_n 1, 0, 0, 0) := by decide +kernel
theorem L_8_13 : a_look 8 13 = some (.iaload, 0, 0, 0) := by decide +kernel
theorem L_8_14 : a_look 8 14 = some (.bipush 48, 0, 0, 0) := by decide +kernel
theorem L_8_16 : a_look 8 16 = some (.if_icmp .lt 18, 34, 0, 0) := by decide +kernel
theorem L_8_19 : a_look 8 19 = some (.aload_n 0, 0, 0, 0) := by decide +kernel
theorem L_8_20 : a_look 8 20 = some (.getfield 9, 0, 0, 315) := by decide +kernel
theorem L_8_23 : a_look 8 23 = some (.iload_n 1, 0, 0, 0) := by decide +kernel
theorem L_8_24 : a_look 8 24 = some (.iaload, 0, 0, 0) := by decide +kernel
theorem L_8_25 : a_look 8 25 = some (.bipush 57, 0, 0, 0) := by decide +kernel
theorem L_8_27 : a_look 8 27 = some (.if_icmp .gt 7, 34, 0, 0) := by decide +kernel
theorem L_8_30 : a_look 8 30 = some (.iconst 1, 0, 0, 0) := by decide +kernel
theorem L_8_31 : a_look 8 31 = some (.goto 4, 35, 0, 0) := by decide +kernel
theorem L_8_34 : a_look 8 34 = some (.iconst 0, 0, 0, 0) := by decide +kernel
theorem L_8_35 : a_look 8 35 = some (.ireturn, 0, 0, 0) := by decide +kernel
theorem L_101_0 : a_look 101 0 = some (.iload_n 1, 0, 0, 0) := by decide +kernel
theorem L_101_1 : a_look 101 1 = some (.ifCond .lt 17, 18, 0, 0) := by decide +kernel
theorem L_101_4 : a_look 101 4 = some (.iload_n 1, 0, 0, 0) := by decide +kernel
theorem L_101_5 : a_look 101 5 = some (.aload_n 0, 0, 0, 0) := by decide +kernel
theorem L_101_6 : a_look 101 6 = some (.getfield 7, 7, 0, 321) := by decide +kernel
theorem L_101_9 : a_look 101 9 = some (.iconst 1, 0, 0, 0) := by decide +kernel
theorem L_101_10 : a_look 101 10 = some (.iaload, 0, 0, 0) := by decide +kernel
theorem L_101_11 : a_look 101 11 = some (.if_icmp .ge 7, 18, 0, 0) := by decide +kernel
theorem L_101_14 : a_look 101 14 = some (.iconst 1, 0, 0, 0) := by decide +kernel
theorem L_101_15 : a_look 101 15 = some (.goto 4, 19, 0, 0) := by decide +kernel
theorem L_101_18 : a_look 101 18 = some (.iconst 0, 0, 0, 0) := by decide +kernel
theorem L_101_19 : a_look 101 19 = some (.ireturn, 0, 0, 0) := by decide +kernel
theorem L_102_0 : a_look 102 0 = some (.iload_n 1, 0, 0, 0) := by decide +kernel
theorem L_102_1 : a_look 102 1 = some (.ifCond .lt 17, 18, 0, 0) := by decide +kernel
theorem L_102_4 : a_look 102 4 = some (.iload_n 1, 0, 0, 0) := by decide +kernel
theorem L_102_5 : a_look 102 5 = some (.aload_n 0, 0, 0, 0) := by decide +kernel
theorem L_102_6 : a_look 102 6 = some (.getfield 7, 7, 0, 321) := by decide +kernel
theorem L_102_9 : a_look 102 9 = some (.iconst 2, 0, 0, 0) := by decide +kernel
theorem L_102_10 : a_look 102 10 = some (.iaload, 0, 0, 0) := by decide +kernel
theorem L_102_11 : a_look 102 11 = some (.if_icmp .ge 7, 18, 0, 0) := by decide +kernel
theorem L_102_14 : a_look 102 14 = some (.iconst 1, 0, 0, 0) := by decide +kernel
theorem L_102_15 : a_look 102 15 = some (.goto 4, 19, 0, 0) := by decide +kernel
theorem L_102_18 : a_look 102 18 = some (.iconst 0, 0, 0, 0) := by decide +kernel
theorem L_102_19 : a_look 102 19 = some (.ireturn, 0, 0, 0) := by decide +kernel
theorem L_103_0 : a_look 103 0 = some (.iload_n 1, 0, 0, 0) := by decide +kernel
theorem L_103_1 : a_look 103 1 = some (.ifCond .lt 17, 18, 0, 0) := by decide +kernel
theorem L_103_4 : a_look 103 4 = some (.iload_n 1, 0, 0, 0) := by decide +kernel
theorem L_103_5 : a_look 103 5 = some (.aload_n 0, 0, 0, 0) := by decide +kernel
theorem L_103_6 : a_look 103 6 = some (.getfield 7, 7, 0, 321) := by decide +kernel
theorem L_103_9 : a_look 103 9 = some (.iconst 3, 0, 0, 0) := by decide +kernel
theorem L_103_10 : a_look 103 10 = some (.iaload, 0, 0, 0) := by decide +kernel
theorem L_103_11 : a_look 103 11 = some (.if_icmp .ge 7, 18, 0, 0) := by decide +kernel
theorem L_103_14 : a_look 103 14 = some (.iconst 1, 0, 0, 0) := by decide +kernel
theorem L_103_15 : a_look 103 15 = some (.goto 4, 19, 0, 0) := by decide +kernel
theorem L_103_18 : a_look 103 18 = some (.iconst 0, 0, 0, 0) := by decide +kernel
theorem L_103_19 : a_look 103 19 = some (.ireturn, 0, 0, 0) := by decide +kernel
theorem L_104_0 : a_look 104 0 = some (.aload_n 0, 0, 0, 0) := by decide +kernel
theorem L_104_1 : a_look 104 1 = some (.getfield 7, 7, 0, 321) := by decide +kernel
theorem L_104_4 : a_look 104 4 = some (.bipush 8, 0, 0, 0) := by decide +kernel
theorem L_104_6 : a_look 104 6 = some (.iconst 5, 0, 0, 0) := by decide +kernel
theorem L_104_7 : a_look 104 7 = some (.iload_n 1, 0, 0, 0) := by decide +kernel
theorem L_104_8 : a_look 104 8 = some (.imul, 0, 0, 0) := by decide +kernel
theorem L_104_9 : a_look 104 9 = some (.iadd, 0, 0, 0) := by decide +kernel
theorem L_104_10 : a_look 104 10 = some (.iload_n 2, 0, 0, 0) := by decide +kernel
theorem L_104_11 : a_look 104 11 = some (.iadd, 0, 0, 0) := by decide +kernel
theorem L_104_12 : a_look 104 12 = some (.iaload, 0, 0, 0) := by decide +kernel
theorem L_104_13 : a_look 104 13 = some (.ireturn, 0, 0, 0) := by decide +kernel
theorem L_105_0 : a_look 105 0 = some (.aload_n 0, 0, 0, 0) := by decide +kernel
theorem L_105_1 : a_look 105 1 = some (.getfield 7, 7, 0, 321) := by decide +kernel
theorem L_105_4 : a_look 105 4 = some (.bipush 48, 0, 0, 0) := by decide +kernel
theorem L_105_6 : a_look 105 6 = some (.bipush 7, 0, 0, 0) := by decide +kernel
theorem L_105_8 : a_look 105 8 = some (.iload_n 1, 0, 0, 0) := by decide +kernel
theorem L_105_9 : a_look 105 9 = some (.imul, 0, 0, 0) := by decide +kernel
theorem L_105_10 : a_look 105 10 = some (.iadd, 0, 0, 0) := by decide +kernel
theorem L_105_11 : a_look 105 11 = some (.iload_n 2, 0, 0, 0) := by decide +kernel
theorem L_105_12 : a_look 105 12 = some (.iadd, 0, 0, 0) := by decide +kernel
theorem L_105_13 : a_look 105 13 = some (.iaload, 0, 0, 0) := by decide +kernel
theorem L_105_14 : a_look 105 14 = some (.ireturn, 0, 0, 0) := by decide +kernel
theorem L_106_0 : a_look 106 0 = some (.aload_n 0, 0, 0, 0) := by decide +kernel
theorem L_106_1 : a_look 106 1 = some (.getfield 7, 7, 0, 321) := by decide +kernel
theorem L_106_4 : a_look 106 4 = some (.bipush 104, 0, 0, 0) := by decide +kernel
theorem L_106_6 : a_look 106 6 = some (.bipush 10, 0, 0, 0) := by decide +kernel
theorem L_106_8 : a_look 106 8 = some (.iload_n 1, 0, 0, 0) := by decide +kernel
theorem L_106_9 : a_look 106 9 = some (.imul, 0, 0, 0) := by decide +kernel
theorem L_106_10 : a_look 106 10 = some (.iadd, 0, 0, 0) := by decide +kernel
theorem L_106_11 : a_look 106 11 = some (.iload_n 2, 0, 0, 0) := by decide +kernel
theorem L_106_12 : a_look 106 12 = some (.iadd, 0, 0, 0) := by decide +kernel
theorem L_106_13 : a_look 106 13 = some (.iaload, 0, 0, 0) := by decide +kernel
theorem L_106_14 : a_look 106 14 = some (.ireturn, 0, 0, 0) := by decide +kernel
theorem L_107_0 : a_look 107 0 = some (.aload_n 0, 0, 0, 0) := by decide +kernel
theorem L_107_1 : a_look 107 1 = some (.getfield 7, 7, 0, 321) := by decide +kernel
theorem L_107_4 : a_look 107 4 = some (.bipush 104, 0, 0, 0) := by decide +kernel
theorem L_107_6 : a_look 107 6 = some (.bipush 10, 0, 0, 0) := by decide +kernel
theorem L_107_8 : a_look 107 8 = some (.iload_n 1, 0, 0, 0) := by decide +kernel
theorem L_107_9 : a_look 107 9 = some (.imul, 0, 0, 0) := by decide +kernel
theorem L_107_10 : a_look 107 10 = some (.iadd, 0, 0, 0) := by decide +kernel
theorem L_107_11 : a_look 107 11 = some (.iload_n 2, 0, 0, 0) := by decide +kernel
theorem L_107_12 : a_look 107 12 = some (.iadd, 0, 0, 0) := by decide +kernel
theorem L_107_13 : a_look 107 13 = some (.iload_n 3, 0, 0, 0) := by decide +kernel
theorem L_107_14 : a_look 107 14 = some (.iastore, 0, 0, 0) := by decide +kernel
theorem L_107_15 : a_look 107 15 = some (.return_, 0, 0, 0) := by decide +kernel
theorem L_108_0 : a_look 108 0 = some (.iload_n 0, 0, 0, 0) := by decide +kernel
theorem L_108_1 : a_look 108 1 = some (.iconst 0, 0, 0, 0) := by decide +kernel
theorem L_108_2 : a_look 108 2 = some (.bipush 99, 0, 0, 0) := by decide +kernel
theorem L_108_4 : a_look 108 4 = some (.invokestatic 37, 97, 3, 702) := by decide +kernel
theorem L_108_7 : a_look 108 7 = some (.ifCond .eq 17, 24, 0, 0) := by decide +kernel
theorem L_108_10 : a_look 108 10 = some (.iload_n 1, 0, 0, 0) := by decide +kernel
theorem L_108_11 : a_look 108 11 = some (.iconst 0, 0, 0, 0) := by decide +kernel
theorem L_108_12 : a_look 108 12 = some (.bipush 99, 0, 0, 0) := by decide +kernel
theorem L_108_14 : a_look 108 14 = some (.invokestatic 37, 97, 3, 702) := by decide +kernel
theorem L_108_17 : a_look 108 17 = some (.ifCond .eq 7, 24, 0, 0) := by decide +kernel
theorem L_108_20 : a_look 108 20 = some (.iconst 1, 0, 0, 0) := by decide +kernel
theorem L_108_21 : a_look 108 21 = some (.goto 4, 25, 0, 0) := by decide +kernel
theorem L_108_24 : a_look 108 24 = some (.iconst 0, 0, 0, 0) := by decide +kernel
theorem L_108_25 : a_look 108 25 = some (.ireturn, 0, 0, 0) := by decide +kernel
theorem L_109_0 : a_look 109 0 = some (.iload_n 0, 0, 0, 0) := by decide +kernel
theorem L_109_1 : a_look 109 1 = some (.iconst 0, 0, 0, 0) := by decide +kernel
theorem L_109_2 : a_look 109 2 = some (.bipush 7, 0, 0, 0) := by decide +kernel
theorem L_109_4 : a_look 109 4 = some (.invokestatic 37, 97, 3, 702) := by decide +kernel
theorem L_109_7 : a_look 109 7 = some (.ireturn, 0, 0, 0) := by decide +kernel
theorem L_110_0 : a_look 110 0 = some (.iload_n 0, 0, 0, 0) := by decide +kernel
theorem L_110_1 : a_look 110 1 = some (.iconst 0, 0, 0, 0) := by decide +kernel
theorem L_110_2 : a_look 110 2 = some (.iconst 3, 0, 0, 0) := by decide +kernel
theorem L_110_3 : a_look 110 3 = some (.invokestatic 37, 97, 3, 702) := by decide +kernel
theorem L_110_6 : a_look 110 6 = some (.ireturn, 0, 0, 0) := by decide +kernel
theorem L_111_0 : a_look 111 0 = some (.iload_n 0, 0, 0, 0) := by decide +kernel
theorem L_111_1 : a_look 111 1 = some (.ifCond .ne 7, 8, 0, 0) := by decide +kernel
theorem L_111_4 : a_look 111 4 = some (.iconst 4, 0, 0, 0) := by decide +kernel
theorem L_111_5 : a_look 111 5 = some (.goto 35, 40, 0, 0) := by decide +kernel
theorem L_111_8 : a_look 111 8 = some (.iload_n 0, 0, 0, 0) := by decide +kernel
theorem L_111_9 : a_look 111 9 = some (.iconst 1, 0, 0, 0) := by decide +kernel
theorem L_111_10 : a_look 111 10 = some (.if_icmp .ne 8, 18, 0, 0) := by decide +kernel
theorem L_111_13 : a_look 111 13 = some (.bipush 9, 0, 0, 0) := by decide +kernel
theorem L_111_15 : a_look 111 15 = some (.goto 25, 40, 0, 0) := by decide +kernel
theorem L_111_18 : a_look 111 18 = some (.iload_n 0, 0, 0, 0) := by decide +kernel
theorem L_111_19 : a_look 111 19 = some (.iconst 2, 0, 0, 0) := by decide +kernel
theorem L_111_20 : a_look 111 20 = some (.if_icmp .ne 8, 28, 0, 0) := by decide +kernel
theorem L_111_23 : a_look 111 23 = some (.bipush 16, 0, 0, 0) := by decide +kernel
theorem L_111_25 : a_look 111 25 = some (.goto 15, 40, 0, 0) := by decide +kernel
theorem L_111_28 : a_look 111 28 = some (.iload_n 0, 0, 0, 0) := by decide +kernel
theorem L_111_29 : a_look 111 29 = some (.iconst 3, 0, 0, 0) := by decide +kernel
theorem L_111_30 : a_look 111 30 = some (.if_icmp .ne 8, 38, 0, 0) := by decide +kernel
theorem L_111_33 : a_look 111 33 = some (.bipush 26, 0, 0, 0) := by decide +kernel
theorem L_111_35 : a_look 111 35 = some (.goto 5, 40, 0, 0) := by decide +kernel
theorem L_111_38 : a_look 111 38 = some (.bipush 40, 0, 0, 0) := by decide +kernel
theorem L_111_40 : a_look 111 40 = some (.ireturn, 0, 0, 0) := by decide +kernel
theorem L_112_0 : a_look 112 0 = some (.iload_n 0, 0, 0, 0) := by decide +kernel
theorem L_112_1 : a_look 112 1 = some (.ifCond .ne 7, 8, 0, 0) := by decide +kernel
theorem L_112_4 : a_look 112 4 = some (.iconst 1, 0, 0, 0) := by decide +kernel
theorem L_112_5 : a_look 112 5 = some (.goto 24, 29, 0, 0) := by decide +kernel
theorem L_112_8 : a_look 112 8 = some (.iload_n 0, 0, 0, 0) := by decide +kernel
theorem L_112_9 : a_look 112 9 = some (.iconst 1, 0, 0, 0) := by decide +kernel
theorem L_112_10 : a_look 112 10 = some (.if_icmp .ne 7, 17, 0, 0) := by decide +kernel
theorem L_112_13 : a_look 112 13 = some (.iconst 3, 0, 0, 0) := by decide +kernel
theorem L_112_14 : a_look 112 14 = some (.goto 15, 29, 0, 0) := by decide +kernel
theorem L_112_17 : a_look 112 17 = some (.iload_n 0, 0, 0, 0) := by decide +kernel
theorem L_112_18 : a_look 112 18 = some (.iconst 2, 0, 0, 0) := by decide +kernel
theorem L_112_19 : a_look 112 19 = some (.if_icmp .ne 8, 27, 0, 0) := by decide +kernel
theorem L_112_22 : a_look 112 22 = some (.bipush 6, 0, 0, 0) := by decide +kernel
theorem L_112_24 : a_look 112 24 = some (.goto 5, 29, 0, 0) := by decide +kernel
theorem L_112_27 : a_look 112 27 = some (.bipush 10, 0, 0, 0) := by decide +kernel
theorem L_112_29 : a_look 112 29 = some (.ireturn, 0, 0, 0) := by decide +kernel
theorem L_113_0 : a_look 113 0 = some (.iload_n 0, 0, 0, 0) := by decide +kernel
theorem L_113_1 : a_look 113 1 = some (.iload_n 2, 0, 0, 0) := by decide +kernel
theorem L_113_2 : a_look 113 2 = some (.isub, 0, 0, 0) := by decide +kernel
theorem L_113_3 : a_look 113 3 = some (.iload_n 0, 0, 0, 0) := by decide +kernel
theorem L_113_4 : a_look 113 4 = some (.iload_n 2, 0, 0, 0) := by decide +kernel
theorem L_113_5 : a_look 113 5 = some (.isub, 0, 0, 0) := by decide +kernel
theorem L_113_6 : a_look 113 6 = some (.imul, 0, 0, 0) := by decide +kernel
theorem L_113_7 : a_look 113 7 = some (.iload_n 1, 0, 0, 0) := by decide +kernel
theorem L_113_8 : a_look 113 8 = some (.iload_n 3, 0, 0, 0) := by decide +kernel
theorem L_113_9 : a_look 113 9 = some (.isub, 0, 0, 0) := by decide +kernel
theorem L_113_10 : a_look 113 10 = some (.iload_n 1, 0, 0, 0) := by decide +kernel
theorem L_113_11 : a_look 113 11 = some (.iload_n 3, 0, 0, 0) := by decide +kernel
theorem L_113_12 : a_look 113 12 = some (.isub, 0, 0, 0) := by decide +kernel
theorem L_113_13 : a_look 113 13 = some (.imul, 0, 0, 0) := by decide +kernel
theorem L_113_14 : a_look 113 14 = some (.iadd, 0, 0, 0) := by decide +kernel
theorem L_113_15 : a_look 113 15 = some (.iload 4, 0, 0, 0) := by decide +kernel
theorem L_113_17 : a_look 113 17 = some (.iload 4, 0, 0, 0) := by decide +kernel
theorem L_113_19 : a_look 113 19 = some (.imul, 0, 0, 0) := by decide +kernel
theorem L_113_20 : a_look 113 20 = some (.if_icmp .gt 7, 27, 0, 0) := by decide +kernel
theorem L_113_23 : a_look 113 23 = some (.iconst 1, 0, 0, 0) := by decide +kernel
theorem L_113_24 : a_look 113 24 = some (.goto 4, 28, 0, 0) := by decide +kernel
theorem L_113_27 : a_look 113 27 = some (.iconst 0, 0, 0, 0) := by decide +kernel
theorem L_113_28 : a_look 113 28 = some (.ireturn, 0, 0, 0) := by decide +kernel
theorem L_120_0 : a_look 120 0 = some (.aload_n 0, 0, 0, 0) := by decide +kernel
theorem L_120_1 : a_look 120 1 = some (.iload_n 1, 0, 0, 0) := by decide +kernel
theorem L_120_2 : a_look 120 2 = some (.iconst 3, 0, 0, 0) := by decide +kernel
theorem L_120_3 : a_look 120 3 = some (.invokevirtual 73, 106, 3, 1006) := by decide +kernel
theorem L_120_6 : a_look 120 6 = some (.bipush (-6), 0, 0, 0) := by decide +kernel
theorem L_120_8 : a_look 120 8 = some (.if_icmp .eq 7, 15, 0, 0) := by decide +kernel
theorem L_120_11 : a_look 120 11 = some (.iconst 1, 0, 0, 0) := by decide +kernel
theorem L_120_12 : a_look 120 12 = some (.goto 4, 16, 0, 0) := by decide +kernel
theorem L_120_15 : a_look 120 15 = some (.iconst 0, 0, 0, 0) := by decide +kernel
theorem L_120_16 : a_look 120 16 = some (.ireturn, 0, 0, 0) := by decide +kernel
theorem L_126_0 : a_look 126 0 = some (.aload_n 0, 0, 0, 0) := by decide +kernel
theorem L_126_1 : a_look 126 1 = some (.iload_n 1, 0, 0, 0) := by decide +kernel
theorem L_126_2 : a_look 126 2 = some (.iconst 3, 0, 0, 0) := by decide +kernel
theorem L_126_3 : a_look 126 3 = some (.bipush (-6), 0, 0, 0) := by decide +kernel
theorem L_126_5 : a_look 126 5 = some (.invokevirtual 95, 107, 4, 1207) := by decide +kernel
theorem L_126_8 : a_look 126 8 = some (.aload_n 0, 0, 0, 0) := by decide +kernel
theorem L_126_9 : a_look 126 9 = some (.iload_n 1, 0, 0, 0) := by decide +kernel
theorem L_126_10 : a_look 126 10 = some (.iconst 4, 0, 0, 0) := by decide +kernel
theorem L_126_11 : a_look 126 11 = some (.bipush (-6), 0, 0, 0) := by decide +kernel
theorem L_126_13 : a_look 126 13 = some (.invokevirtual 95, 107, 4, 1207) := by decide +kernel
theorem L_126_16 : a_look 126 16 = some (.aload_n 0, 0, 0, 0) := by decide +kernel
theorem L_126_17 : a_look 126 17 = some (.iload_n 1, 0, 0, 0) := by decide +kernel
theorem L_126_18 : a_look 126 18 = some (.iconst 5, 0, 0, 0) := by decide +kernel
theorem L_126_19 : a_look 126 19 = some (.bipush (-6), 0, 0, 0) := by decide +kernel
theorem L_126_21 : a_look 126 21 = some (.invokevirtual 95, 107, 4, 1207) := by decide +kernel
theorem L_126_24 : a_look 126 24 = some (.aload_n 0, 0, 0, 0) := by decide +kernel
theorem L_126_25 : a_look 126 25 = some (.iload_n 1, 0, 0, 0) := by decide +kernel
theorem L_126_26 : a_look 126 26 = some (.bipush 6, 0, 0, 0) := by decide +kernel
theorem L_126_28 : a_look 126 28 = some (.bipush (-6), 0, 0, 0) := by decide +kernel
theorem L_126_30 : a_look 126 30 = some (.invokevirtual 95, 107, 4, 1207) := by decide +kernel
theorem L_126_33 : a_look 126 33 = some (.return_, 0, 0, 0) := by decide +kernel
theorem L_147_0 : a_look 147 0 = some (.aload_n 0, 0, 0, 0) := by decide +kernel
theorem L_147_1 : a_look 147 1 = some (.getfield 155, 7, 9, 2504) := by decide +kernel
theorem L_147_4 : a_look 147 4 = some (.aload_n 0, 0, 0, 0) := by decide +kernel
theorem L_147_5 : a_look 147 5 = some (.getfield 152, 7, 8, 2222) := by decide +kernel
theorem L_147_8 : a_look 147 8 = some (.if_icmp .ge 24, 32, 0, 0) := by decide +kernel
theorem L_147_11 : a_look 147 11 = some (.aload_n 0, 0, 0, 0) := by decide +kernel
theorem L_147_12 : a_look 147 12 = some (.getfield 26, 7, 7, 402) := by decide +kernel
theorem L_147_15 : a_look 147 15 = some (.aload_n 0, 0, 0, 0) := by decide +kernel
theorem L_147_16 : a_look 147 16 = some (.getfield 155, 7, 9, 2504) := by decide +kernel
theorem L_147_19 : a_look 147 19 = some (.iaload, 0, 0, 0) := by decide +kernel
theorem L_147_20 : a_look 147 20 = some (.iload_n 1, 0, 0, 0) := by decide +kernel
theorem L_147_21 : a_look 147 21 = some (.iload_n 2, 0, 0, 0) := by decide +kernel
theorem L_147_22 : a_look 147 22 = some (.invokestatic 37, 97, 3, 702) := by decide +kernel
theorem L_147_25 : a_look 147 25 = some (.ifCond .eq 7, 32, 0, 0) := by decide +kernel
theorem L_147_28 : a_look 147 28 = some (.iconst 1, 0, 0, 0) := by decide +kernel
theorem L_147_29 : a_look 147 29 = some (.goto 4, 33, 0, 0) := by decide +kernel
theorem L_147_32 : a_look 147 32 = some (.iconst 0, 0, 0, 0) := by decide +kernel
theorem L_147_33 : a_look 147 33 = some (.ireturn, 0, 0, 0) := by decide +kernel
end
section
/-! leaves: methods whose answer is written down; by program but for the words (wip/whole/gen9.py) -/
def radI (k : Int32) : Int32 := if k = 0 then 4 else if k = 1 then 9 else if k = 2 then 16 else if k = 3 then 26 else 40
def rchI (k : Int32) : Int32 := if k = 0 then 1 else if k = 1 then 3 else if k = 2 then 6 else 10
abbrev nearP (x y ox oy far : Int32) : Prop := ¬ far * far < (x - ox) * (x - ox) + (y - oy) * (y - oy)
def cPutOn (m : aM) (b k : Nat) (ch p : Int32) : aM := a_up (a_up (a_up m 19 b k ch) 20 b k p) 22 b k (-1)
def cRem (m : aM) (b k : Nat) : aM := a_up (a_up m 19 b k (-1)) 22 b k (-1)
def rEnds (m : aM) (k : Int32) : aM := a_up (a_up (a_up (a_up m 35 0 (104 + 10 * k + 3).toNatClampNeg (-6)) 35 0 (104 + 10 * k + 4).toNatClampNeg (-6)) 35 0 (104 + 10 * k + 5).toNatClampNeg (-6)) 35 0 (104 + 10 * k + 6).toNatClampNeg (-6)
/-- VacantAir.isOutside -/
theorem T_93 {x0 x1 x2 : Int32} {m : aM} {Q : Int32 → aM → Prop} (h :
   if x0 < x1 then
    Q 1 m
   else
    if x2 < x0 then
     Q 1 m
    else
     Q 0 m
  ) : Mi 93 [.inl x0, .inl x1, .inl x2] m Q := by
  refine Mi_in ML_93 (show Rg 93 0 [some (.inl x0), some (.inl x1), some (.inl x2)] [] m (qI Q) from ?_)
  refine r_iload_n L_93_0 rfl ?_
  refine r_iload_n L_93_1 rfl ?_
  refine r_icmp L_93_2 rfl (i_mono h (fun c1 h => ?_) (fun c1 h => ?_))
  · refine r_iconst L_93_10 kI_1 ?_
    refine r_goto L_93_11 ?_
    exact r_zret L_93_15 RT_93 (Or.inr rfl) h
  · refine r_iload_n L_93_5 rfl ?_
    refine r_iload_n L_93_6 rfl ?_
    refine r_icmpn L_93_7 cc_le (i_mono h (fun c2 h => ?_) (fun c2 h => ?_))
    · refine r_iconst L_93_10 kI_1 ?_
      refine r_goto L_93_11 ?_
      exact r_zret L_93_15 RT_93 (Or.inr rfl) h
    · refine r_iconst L_93_14 kI_0 ?_
      exact r_zret L_93_15 RT_93 (Or.inl rfl) h
theorem V_93 {x0 x1 x2 : Int32} {m : aM} {P : Int32 → aM → Prop} (h : P (bP (x0 < x1 ∨ x2 < x0)) m) : Mi 93 [.inl x0, .inl x1, .inl x2] m P := by
  refine T_93 ?_
  repeat' (first | (refine And.intro (by first | assumption | exact g0 (by assumption)) ?_) | split)
  all_goals first
    | exact h
    | (rw [bP_t (by clear h; simp_all only [not_true_eq_false, not_false_eq_true, and_true, true_and, and_false, false_and, or_true, true_or, or_false, false_or, and_self, or_self])] at h; exact h)
    | (rw [bP_f (by clear h; simp_all only [not_true_eq_false, not_false_eq_true, and_true, true_and, and_false, false_and, or_true, true_or, or_false, false_or, and_self, or_self])] at h; exact h)
/-- VacantAir.isNoPlace -/
theorem T_94 {x0 x1 : Int32} {m : aM} {Q : Int32 → aM → Prop} (h :
   if x0 < 0 ∨ 99 < x0 then
    Q 1 m
   else
    if x1 < 0 ∨ 99 < x1 then
     Q 1 m
    else
     Q 0 m
  ) : Mi 94 [.inl x0, .inl x1] m Q := by
  refine Mi_in ML_94 (show Rg 94 0 [some (.inl x0), some (.inl x1)] [] m (qI Q) from ?_)
  refine r_iload_n L_94_0 rfl ?_
  refine r_iconst L_94_1 kI_0 ?_
  refine r_bipush L_94_2 kB_99 ?_
  refine r_cs L_94_4 (by decide) rfl (V_93 ?_)
  refine r_ifneP L_94_7 (i_mono h (fun c1 h => ?_) (fun c1 h => ?_))
  · refine r_iconst L_94_20 kI_1 ?_
    refine r_goto L_94_21 ?_
    exact r_zret L_94_25 RT_94 (Or.inr rfl) h
  · refine r_iload_n L_94_10 rfl ?_
    refine r_iconst L_94_11 kI_0 ?_
    refine r_bipush L_94_12 kB_99 ?_
    refine r_cs L_94_14 (by decide) rfl (V_93 ?_)
    refine r_ifeqP L_94_17 (i_mono h (fun c2 h => ?_) (fun c2 h => ?_))
    · refine r_iconst L_94_20 kI_1 ?_
      refine r_goto L_94_21 ?_
      exact r_zret L_94_25 RT_94 (Or.inr rfl) h
    · refine r_iconst L_94_24 kI_0 ?_
      exact r_zret L_94_25 RT_94 (Or.inl rfl) h
theorem V_94 {x0 x1 : Int32} {m : aM} {P : Int32 → aM → Prop} (h : P (bP ((x0 < 0 ∨ 99 < x0) ∨ (x1 < 0 ∨ 99 < x1))) m) : Mi 94 [.inl x0, .inl x1] m P := by
  refine T_94 ?_
  repeat' (first | (refine And.intro (by first | assumption | exact g0 (by assumption)) ?_) | split)
  all_goals first
    | exact h
    | (rw [bP_t (by clear h; simp_all only [not_true_eq_false, not_false_eq_true, and_true, true_and, and_false, false_and, or_true, true_or, or_false, false_or, and_self, or_self])] at h; exact h)
    | (rw [bP_f (by clear h; simp_all only [not_true_eq_false, not_false_eq_true, and_true, true_and, and_false, false_and, or_true, true_or, or_false, false_or, and_self, or_self])] at h; exact h)
/-- VacantAir.isWithin -/
theorem T_95 {x0 x1 x2 : Int32} {m : aM} {Q : Int32 → aM → Prop} (h :
   if (x2 * x2) < ((x0 * x0) + (x1 * x1)) then
    Q 0 m
   else
    Q 1 m
  ) : Mi 95 [.inl x0, .inl x1, .inl x2] m Q := by
  refine Mi_in ML_95 (show Rg 95 0 [some (.inl x0), some (.inl x1), some (.inl x2)] [] m (qI Q) from ?_)
  refine r_iload_n L_95_0 rfl ?_
  refine r_iload_n L_95_1 rfl ?_
  refine r_imul L_95_2 ?_
  refine r_iload_n L_95_3 rfl ?_
  refine r_iload_n L_95_4 rfl ?_
  refine r_imul L_95_5 ?_
  refine r_iadd L_95_6 ?_
  refine r_iload_n L_95_7 rfl ?_
  refine r_iload_n L_95_8 rfl ?_
  refine r_imul L_95_9 ?_
  refine r_icmp L_95_10 rfl (i_mono h (fun c1 h => ?_) (fun c1 h => ?_))
  · refine r_iconst L_95_17 kI_0 ?_
    exact r_zret L_95_18 RT_95 (Or.inl rfl) h
  · refine r_iconst L_95_13 kI_1 ?_
    refine r_goto L_95_14 ?_
    exact r_zret L_95_18 RT_95 (Or.inr rfl) h
theorem V_95 {x0 x1 x2 : Int32} {m : aM} {P : Int32 → aM → Prop} (h : P (bP (¬ x2 * x2 < x0 * x0 + x1 * x1)) m) : Mi 95 [.inl x0, .inl x1, .inl x2] m P := by
  refine T_95 ?_
  repeat' (first | (refine And.intro (by first | assumption | exact g0 (by assumption)) ?_) | split)
  all_goals first
    | exact h
    | (rw [bP_t (by clear h; simp_all only [not_true_eq_false, not_false_eq_true, and_true, true_and, and_false, false_and, or_true, true_or, or_false, false_or, and_self, or_self])] at h; exact h)
    | (rw [bP_f (by clear h; simp_all only [not_true_eq_false, not_false_eq_true, and_true, true_and, and_false, false_and, or_true, true_or, or_false, false_or, and_self, or_self])] at h; exact h)
/-- Model.in -/
theorem T_97 {x0 x1 x2 : Int32} {m : aM} {Q : Int32 → aM → Prop} (h :
   if x0 < x1 then
    Q 0 m
   else
    if x2 < x0 then
     Q 0 m
    else
     Q 1 m
  ) : Mi 97 [.inl x0, .inl x1, .inl x2] m Q := by
  refine Mi_in ML_97 (show Rg 97 0 [some (.inl x0), some (.inl x1), some (.inl x2)] [] m (qI Q) from ?_)
  refine r_iload_n L_97_0 rfl ?_
  refine r_iload_n L_97_1 rfl ?_
  refine r_icmp L_97_2 rfl (i_mono h (fun c1 h => ?_) (fun c1 h => ?_))
  · refine r_iconst L_97_14 kI_0 ?_
    exact r_zret L_97_15 RT_97 (Or.inl rfl) h
  · refine r_iload_n L_97_5 rfl ?_
    refine r_iload_n L_97_6 rfl ?_
    refine r_icmp L_97_7 rfl (i_mono h (fun c2 h => ?_) (fun c2 h => ?_))
    · refine r_iconst L_97_14 kI_0 ?_
      exact r_zret L_97_15 RT_97 (Or.inl rfl) h
    · refine r_iconst L_97_10 kI_1 ?_
      refine r_goto L_97_11 ?_
      exact r_zret L_97_15 RT_97 (Or.inr rfl) h
theorem V_97 {x0 x1 x2 : Int32} {m : aM} {P : Int32 → aM → Prop} (h : P (bP (¬ x0 < x1 ∧ ¬ x2 < x0)) m) : Mi 97 [.inl x0, .inl x1, .inl x2] m P := by
  refine T_97 ?_
  repeat' (first | (refine And.intro (by first | assumption | exact g0 (by assumption)) ?_) | split)
  all_goals first
    | exact h
    | (rw [bP_t (by clear h; simp_all only [not_true_eq_false, not_false_eq_true, and_true, true_and, and_false, false_and, or_true, true_or, or_false, false_or, and_self, or_self])] at h; exact h)
    | (rw [bP_f (by clear h; simp_all only [not_true_eq_false, not_false_eq_true, and_true, true_and, and_false, false_and, or_true, true_or, or_false, false_or, and_self, or_self])] at h; exact h)
/-- Devices.has -/
theorem T_9 {b : Nat} {x1 : Int32} {m : aM} {Q : Int32 → aM → Prop} (h :
   if x1 < 0 then
    Q 0 m
   else
    if x1 < (m 3 b 10) then
     Q 1 m
    else
     Q 0 m
  ) : Mi 9 [.inr (3, b), .inl x1] m Q := by
  refine Mi_in ML_9 (show Rg 9 0 [some (.inr (3, b)), some (.inl x1)] [] m (qI Q) from ?_)
  refine r_iload_n L_9_0 rfl ?_
  refine r_if L_9_1 rfl (i_mono h (fun c1 h => ?_) (fun c1 h => ?_))
  · refine r_iconst L_9_16 kI_0 ?_
    exact r_zret L_9_17 RT_9 (Or.inl rfl) h
  · refine r_iload_n L_9_4 rfl ?_
    refine r_aload_n L_9_5 rfl ?_
    refine r_geti L_9_6 rfl rfl ?_
    refine r_icmpn L_9_9 cc_ge (i_mono h (fun c2 h => ?_) (fun c2 h => ?_))
    · refine r_iconst L_9_12 kI_1 ?_
      refine r_goto L_9_13 ?_
      exact r_zret L_9_17 RT_9 (Or.inr rfl) h
    · refine r_iconst L_9_16 kI_0 ?_
      exact r_zret L_9_17 RT_9 (Or.inl rfl) h
theorem V_9 {b : Nat} {x1 : Int32} {m : aM} {P : Int32 → aM → Prop} (h : P (bP (¬ x1 < 0 ∧ x1 < m 3 b 10)) m) : Mi 9 [.inr (3, b), .inl x1] m P := by
  refine T_9 ?_
  repeat' (first | (refine And.intro (by first | assumption | exact g0 (by assumption)) ?_) | split)
  all_goals first
    | exact h
    | (rw [bP_t (by clear h; simp_all only [not_true_eq_false, not_false_eq_true, and_true, true_and, and_false, false_and, or_true, true_or, or_false, false_or, and_self, or_self])] at h; exact h)
    | (rw [bP_f (by clear h; simp_all only [not_true_eq_false, not_false_eq_true, and_true, true_and, and_false, false_and, or_true, true_or, or_false, false_or, and_self, or_self])] at h; exact h)
/-- Events.has -/
theorem T_23 {b : Nat} {x1 : Int32} {m : aM} {Q : Int32 → aM → Prop} (h :
   if x1 < 0 then
    Q 0 m
   else
    if x1 < (m 2 b 7) then
     Q 1 m
    else
     Q 0 m
  ) : Mi 23 [.inr (2, b), .inl x1] m Q := by
  refine Mi_in ML_23 (show Rg 23 0 [some (.inr (2, b)), some (.inl x1)] [] m (qI Q) from ?_)
  refine r_iload_n L_23_0 rfl ?_
  refine r_if L_23_1 rfl (i_mono h (fun c1 h => ?_) (fun c1 h => ?_))
  · refine r_iconst L_23_16 kI_0 ?_
    exact r_zret L_23_17 RT_23 (Or.inl rfl) h
  · refine r_iload_n L_23_4 rfl ?_
    refine r_aload_n L_23_5 rfl ?_
    refine r_geti L_23_6 rfl rfl ?_
    refine r_icmpn L_23_9 cc_ge (i_mono h (fun c2 h => ?_) (fun c2 h => ?_))
    · refine r_iconst L_23_12 kI_1 ?_
      refine r_goto L_23_13 ?_
      exact r_zret L_23_17 RT_23 (Or.inr rfl) h
    · refine r_iconst L_23_16 kI_0 ?_
      exact r_zret L_23_17 RT_23 (Or.inl rfl) h
theorem V_23 {b : Nat} {x1 : Int32} {m : aM} {P : Int32 → aM → Prop} (h : P (bP (¬ x1 < 0 ∧ x1 < m 2 b 7)) m) : Mi 23 [.inr (2, b), .inl x1] m P := by
  refine T_23 ?_
  repeat' (first | (refine And.intro (by first | assumption | exact g0 (by assumption)) ?_) | split)
  all_goals first
    | exact h
    | (rw [bP_t (by clear h; simp_all only [not_true_eq_false, not_false_eq_true, and_true, true_and, and_false, false_and, or_true, true_or, or_false, false_or, and_self, or_self])] at h; exact h)
    | (rw [bP_f (by clear h; simp_all only [not_true_eq_false, not_false_eq_true, and_true, true_and, and_false, false_and, or_true, true_or, or_false, false_or, and_self, or_self])] at h; exact h)
/-- Stations.has -/
theorem T_56 {b : Nat} {x1 : Int32} {m : aM} {Q : Int32 → aM → Prop} (h :
   if x1 < 0 then
    Q 0 m
   else
    if x1 < (m 1 b 5) then
     Q 1 m
    else
     Q 0 m
  ) : Mi 56 [.inr (1, b), .inl x1] m Q := by
  refine Mi_in ML_56 (show Rg 56 0 [some (.inr (1, b)), some (.inl x1)] [] m (qI Q) from ?_)
  refine r_iload_n L_56_0 rfl ?_
  refine r_if L_56_1 rfl (i_mono h (fun c1 h => ?_) (fun c1 h => ?_))
  · refine r_iconst L_56_16 kI_0 ?_
    exact r_zret L_56_17 RT_56 (Or.inl rfl) h
  · refine r_iload_n L_56_4 rfl ?_
    refine r_aload_n L_56_5 rfl ?_
    refine r_geti L_56_6 rfl rfl ?_
    refine r_icmpn L_56_9 cc_ge (i_mono h (fun c2 h => ?_) (fun c2 h => ?_))
    · refine r_iconst L_56_12 kI_1 ?_
      refine r_goto L_56_13 ?_
      exact r_zret L_56_17 RT_56 (Or.inr rfl) h
    · refine r_iconst L_56_16 kI_0 ?_
      exact r_zret L_56_17 RT_56 (Or.inl rfl) h
theorem V_56 {b : Nat} {x1 : Int32} {m : aM} {P : Int32 → aM → Prop} (h : P (bP (¬ x1 < 0 ∧ x1 < m 1 b 5)) m) : Mi 56 [.inr (1, b), .inl x1] m P := by
  refine T_56 ?_
  repeat' (first | (refine And.intro (by first | assumption | exact g0 (by assumption)) ?_) | split)
  all_goals first
    | exact h
    | (rw [bP_t (by clear h; simp_all only [not_true_eq_false, not_false_eq_true, and_true, true_and, and_false, false_and, or_true, true_or, or_false, false_or, and_self, or_self])] at h; exact h)
    | (rw [bP_f (by clear h; simp_all only [not_true_eq_false, not_false_eq_true, and_true, true_and, and_false, false_and, or_true, true_or, or_false, false_or, and_self, or_self])] at h; exact h)
/-- Devices.hasLease -/
theorem T_10 {b : Nat} {x1 : Int32} {m : aM} {Q : Int32 → aM → Prop} (h :
   a_in x1 16 = true ∧
    if (m 19 b x1.toNatClampNeg) = (-1) then
     Q 0 m
    else
     Q 1 m
  ) : Mi 10 [.inr (3, b), .inl x1] m Q := by
  refine Mi_in ML_10 (show Rg 10 0 [some (.inr (3, b)), some (.inl x1)] [] m (qI Q) from ?_)
  refine r_aload_n L_10_0 rfl ?_
  refine r_getr (c' := 19) (d' := b) L_10_1 rfl rfl ?_
  refine r_iload_n L_10_4 rfl ?_
  obtain ⟨g1, h⟩ := h
  refine r_iald (N := 16) (j := x1.toNatClampNeg) L_10_5 (by decide +kernel) rfl g1 rfl ?_
  refine r_iconst L_10_6 kI_m1 ?_
  refine r_icmp L_10_7 rfl (i_mono h (fun c2 h => ?_) (fun c2 h => ?_))
  · refine r_iconst L_10_14 kI_0 ?_
    exact r_zret L_10_15 RT_10 (Or.inl rfl) h
  · refine r_iconst L_10_10 kI_1 ?_
    refine r_goto L_10_11 ?_
    exact r_zret L_10_15 RT_10 (Or.inr rfl) h
theorem V_10 {b : Nat} {x1 : Int32} {m : aM} {P : Int32 → aM → Prop} (g0 : a_in x1 16 = true) (h : P (bP (¬ m 19 b x1.toNatClampNeg = (-1))) m) : Mi 10 [.inr (3, b), .inl x1] m P := by
  refine T_10 ?_
  repeat' (first | (refine And.intro (by first | assumption | exact g0 (by assumption)) ?_) | split)
  all_goals first
    | exact h
    | (rw [bP_t (by clear h; simp_all only [not_true_eq_false, not_false_eq_true, and_true, true_and, and_false, false_and, or_true, true_or, or_false, false_or, and_self, or_self])] at h; exact h)
    | (rw [bP_f (by clear h; simp_all only [not_true_eq_false, not_false_eq_true, and_true, true_and, and_false, false_and, or_true, true_or, or_false, false_or, and_self, or_self])] at h; exact h)
/-- Devices.hasNotice -/
theorem T_11 {b : Nat} {x1 : Int32} {m : aM} {Q : Int32 → aM → Prop} (h :
   a_in x1 16 = true ∧
    if (m 22 b x1.toNatClampNeg) = (-1) then
     Q 0 m
    else
     Q 1 m
  ) : Mi 11 [.inr (3, b), .inl x1] m Q := by
  refine Mi_in ML_11 (show Rg 11 0 [some (.inr (3, b)), some (.inl x1)] [] m (qI Q) from ?_)
  refine r_aload_n L_11_0 rfl ?_
  refine r_getr (c' := 22) (d' := b) L_11_1 rfl rfl ?_
  refine r_iload_n L_11_4 rfl ?_
  obtain ⟨g1, h⟩ := h
  refine r_iald (N := 16) (j := x1.toNatClampNeg) L_11_5 (by decide +kernel) rfl g1 rfl ?_
  refine r_iconst L_11_6 kI_m1 ?_
  refine r_icmp L_11_7 rfl (i_mono h (fun c2 h => ?_) (fun c2 h => ?_))
  · refine r_iconst L_11_14 kI_0 ?_
    exact r_zret L_11_15 RT_11 (Or.inl rfl) h
  · refine r_iconst L_11_10 kI_1 ?_
    refine r_goto L_11_11 ?_
    exact r_zret L_11_15 RT_11 (Or.inr rfl) h
theorem V_11 {b : Nat} {x1 : Int32} {m : aM} {P : Int32 → aM → Prop} (g0 : a_in x1 16 = true) (h : P (bP (¬ m 22 b x1.toNatClampNeg = (-1))) m) : Mi 11 [.inr (3, b), .inl x1] m P := by
  refine T_11 ?_
  repeat' (first | (refine And.intro (by first | assumption | exact g0 (by assumption)) ?_) | split)
  all_goals first
    | exact h
    | (rw [bP_t (by clear h; simp_all only [not_true_eq_false, not_false_eq_true, and_true, true_and, and_false, false_and, or_true, true_or, or_false, false_or, and_self, or_self])] at h; exact h)
    | (rw [bP_f (by clear h; simp_all only [not_true_eq_false, not_false_eq_true, and_true, true_and, and_false, false_and, or_true, true_or, or_false, false_or, and_self, or_self])] at h; exact h)
/-- Devices.putOn -/
theorem T_12 {b : Nat} {x1 x2 x3 : Int32} {m : aM} {Q : aM → Prop} (h :
   (a_in x1 16 = true ∧
    (∀ m2, m2 = a_up m 19 b x1.toNatClampNeg x2 →
    (∀ m3, m3 = a_up m2 20 b x1.toNatClampNeg x3 →
    (∀ m4, m4 = a_up m3 22 b x1.toNatClampNeg (-1) →
    Q m4))))
  ) : Mv 12 [.inr (3, b), .inl x1, .inl x2, .inl x3] m Q := by
  refine Mv_in ML_12 (show Rg 12 0 [some (.inr (3, b)), some (.inl x1), some (.inl x2), some (.inl x3)] [] m (qV Q) from ?_)
  refine r_aload_n L_12_0 rfl ?_
  refine r_getr (c' := 19) (d' := b) L_12_1 rfl rfl ?_
  refine r_iload_n L_12_4 rfl ?_
  refine r_iload_n L_12_5 rfl ?_
  obtain ⟨g1, h⟩ := h
  refine r_iast (N := 16) (j := x1.toNatClampNeg) L_12_6 (by decide +kernel) rfl g1 rfl ?_
  have h := h _ rfl
  refine r_aload_n L_12_7 rfl ?_
  refine r_getr (c' := 20) (d' := b) L_12_8 rfl rfl ?_
  refine r_iload_n L_12_11 rfl ?_
  refine r_iload_n L_12_12 rfl ?_
  refine r_iast (N := 16) (j := x1.toNatClampNeg) L_12_13 (by decide +kernel) rfl g1 rfl ?_
  have h := h _ rfl
  refine r_aload_n L_12_14 rfl ?_
  refine r_getr (c' := 22) (d' := b) L_12_15 rfl rfl ?_
  refine r_iload_n L_12_18 rfl ?_
  refine r_iconst L_12_19 kI_m1 ?_
  refine r_iast (N := 16) (j := x1.toNatClampNeg) L_12_20 (by decide +kernel) rfl g1 rfl ?_
  have h := h _ rfl
  exact r_vret L_12_21 RT_12 h
theorem V_12 {b : Nat} {x1 x2 x3 : Int32} {m : aM} {P : aM → Prop} (g0 : a_in x1 16 = true) (h : P (cPutOn m b x1.toNatClampNeg x2 x3)) : Mv 12 [.inr (3, b), .inl x1, .inl x2, .inl x3] m P := by
  exact T_12 ⟨g0, fun m1 e1 m2 e2 m3 e3 => by subst e1 e2 e3; exact h⟩
/-- Devices.removeLease -/
theorem T_13 {b : Nat} {x1 : Int32} {m : aM} {Q : aM → Prop} (h :
   (a_in x1 16 = true ∧
    (∀ m2, m2 = a_up m 19 b x1.toNatClampNeg (-1) →
    (∀ m3, m3 = a_up m2 22 b x1.toNatClampNeg (-1) →
    Q m3)))
  ) : Mv 13 [.inr (3, b), .inl x1] m Q := by
  refine Mv_in ML_13 (show Rg 13 0 [some (.inr (3, b)), some (.inl x1)] [] m (qV Q) from ?_)
  refine r_aload_n L_13_0 rfl ?_
  refine r_getr (c' := 19) (d' := b) L_13_1 rfl rfl ?_
  refine r_iload_n L_13_4 rfl ?_
  refine r_iconst L_13_5 kI_m1 ?_
  obtain ⟨g1, h⟩ := h
  refine r_iast (N := 16) (j := x1.toNatClampNeg) L_13_6 (by decide +kernel) rfl g1 rfl ?_
  have h := h _ rfl
  refine r_aload_n L_13_7 rfl ?_
  refine r_getr (c' := 22) (d' := b) L_13_8 rfl rfl ?_
  refine r_iload_n L_13_11 rfl ?_
  refine r_iconst L_13_12 kI_m1 ?_
  refine r_iast (N := 16) (j := x1.toNatClampNeg) L_13_13 (by decide +kernel) rfl g1 rfl ?_
  have h := h _ rfl
  exact r_vret L_13_14 RT_13 h
theorem V_13 {b : Nat} {x1 : Int32} {m : aM} {P : aM → Prop} (g0 : a_in x1 16 = true) (h : P (cRem m b x1.toNatClampNeg)) : Mv 13 [.inr (3, b), .inl x1] m P := by
  exact T_13 ⟨g0, fun m1 e1 m2 e2 => by subst e1 e2; exact h⟩
/-- Events.isOn -/
theorem T_24 {b : Nat} {x1 x2 : Int32} {m : aM} {Q : Int32 → aM → Prop} (h :
   a_in x1 8 = true ∧
    if (m 15 b x1.toNatClampNeg) = 0 then
     (if x2 < (m 13 b x1.toNatClampNeg) then
      Q 0 m
     else
      if x2 < (m 14 b x1.toNatClampNeg) then
       Q 1 m
      else
       Q 0 m)
    else
     Q 0 m
  ) : Mi 24 [.inr (2, b), .inl x1, .inl x2] m Q := by
  refine Mi_in ML_24 (show Rg 24 0 [some (.inr (2, b)), some (.inl x1), some (.inl x2)] [] m (qI Q) from ?_)
  refine r_aload_n L_24_0 rfl ?_
  refine r_getr (c' := 15) (d' := b) L_24_1 rfl rfl ?_
  refine r_iload_n L_24_4 rfl ?_
  obtain ⟨g1, h⟩ := h
  refine r_iald (N := 8) (j := x1.toNatClampNeg) L_24_5 (by decide +kernel) rfl g1 rfl ?_
  refine r_ifn L_24_6 rfl (i_mono h (fun c2 h => ?_) (fun c2 h => ?_))
  · refine r_aload_n L_24_9 rfl ?_
    refine r_getr (c' := 13) (d' := b) L_24_10 rfl rfl ?_
    refine r_iload_n L_24_13 rfl ?_
    refine r_iald (N := 8) (j := x1.toNatClampNeg) L_24_14 (by decide +kernel) rfl g1 rfl ?_
    refine r_iload_n L_24_15 rfl ?_
    refine r_icmp L_24_16 rfl (i_mono h (fun c3 h => ?_) (fun c3 h => ?_))
    · refine r_iconst L_24_33 kI_0 ?_
      exact r_zret L_24_34 RT_24 (Or.inl rfl) h
    · refine r_iload_n L_24_19 rfl ?_
      refine r_aload_n L_24_20 rfl ?_
      refine r_getr (c' := 14) (d' := b) L_24_21 rfl rfl ?_
      refine r_iload_n L_24_24 rfl ?_
      refine r_iald (N := 8) (j := x1.toNatClampNeg) L_24_25 (by decide +kernel) rfl g1 rfl ?_
      refine r_icmpn L_24_26 cc_ge (i_mono h (fun c4 h => ?_) (fun c4 h => ?_))
      · refine r_iconst L_24_29 kI_1 ?_
        refine r_goto L_24_30 ?_
        exact r_zret L_24_34 RT_24 (Or.inr rfl) h
      · refine r_iconst L_24_33 kI_0 ?_
        exact r_zret L_24_34 RT_24 (Or.inl rfl) h
  · refine r_iconst L_24_33 kI_0 ?_
    exact r_zret L_24_34 RT_24 (Or.inl rfl) h
theorem V_24 {b : Nat} {x1 x2 : Int32} {m : aM} {P : Int32 → aM → Prop} (g0 : a_in x1 8 = true) (h : P (bP (m 15 b x1.toNatClampNeg = 0 ∧ ¬ x2 < m 13 b x1.toNatClampNeg ∧ x2 < m 14 b x1.toNatClampNeg)) m) : Mi 24 [.inr (2, b), .inl x1, .inl x2] m P := by
  refine T_24 ?_
  repeat' (first | (refine And.intro (by first | assumption | exact g0 (by assumption)) ?_) | split)
  all_goals first
    | exact h
    | (rw [bP_t (by clear h; simp_all only [not_true_eq_false, not_false_eq_true, and_true, true_and, and_false, false_and, or_true, true_or, or_false, false_or, and_self, or_self])] at h; exact h)
    | (rw [bP_f (by clear h; simp_all only [not_true_eq_false, not_false_eq_true, and_true, true_and, and_false, false_and, or_true, true_or, or_false, false_or, and_self, or_self])] at h; exact h)
/-- State.asksNow -/
theorem T_45 {b : Nat} {x1 : Int32} {m : aM} {Q : Int32 → aM → Prop} (h :
   ¬ (m 26 b 1) = 0 ∧
    if (iR ((m 0 b 4) + x1) (m 26 b 1)) = 0 then
     Q 1 m
    else
     Q 0 m
  ) : Mi 45 [.inr (0, b), .inl x1] m Q := by
  refine Mi_in ML_45 (show Rg 45 0 [some (.inr (0, b)), some (.inl x1)] [] m (qI Q) from ?_)
  refine r_aload_n L_45_0 rfl ?_
  refine r_geti L_45_1 rfl rfl ?_
  refine r_iload_n L_45_4 rfl ?_
  refine r_iadd L_45_5 ?_
  refine r_aload_n L_45_6 rfl ?_
  refine r_getr (c' := 26) (d' := b) L_45_7 rfl rfl ?_
  refine r_iconst L_45_10 kI_1 ?_
  refine r_iald (N := 3) (j := 1) L_45_11 (by decide +kernel) rfl (by decide +kernel) (by decide +kernel) ?_
  obtain ⟨g1, h⟩ := h
  refine r_irem L_45_12 g1 ?_
  refine r_ifn L_45_13 rfl (i_mono h (fun c2 h => ?_) (fun c2 h => ?_))
  · refine r_iconst L_45_16 kI_1 ?_
    refine r_goto L_45_17 ?_
    exact r_zret L_45_21 RT_45 (Or.inr rfl) h
  · refine r_iconst L_45_20 kI_0 ?_
    exact r_zret L_45_21 RT_45 (Or.inl rfl) h
theorem V_45 {b : Nat} {x1 : Int32} {m : aM} {P : Int32 → aM → Prop} (g0 : ¬ m 26 b 1 = 0) (h : P (bP (iR (m 0 b 4 + x1) (m 26 b 1) = 0)) m) : Mi 45 [.inr (0, b), .inl x1] m P := by
  refine T_45 ?_
  repeat' (first | (refine And.intro (by first | assumption | exact g0 (by assumption)) ?_) | split)
  all_goals first
    | exact h
    | (rw [bP_t (by clear h; simp_all only [not_true_eq_false, not_false_eq_true, and_true, true_and, and_false, false_and, or_true, true_or, or_false, false_or, and_self, or_self])] at h; exact h)
    | (rw [bP_f (by clear h; simp_all only [not_true_eq_false, not_false_eq_true, and_true, true_and, and_false, false_and, or_true, true_or, or_false, false_or, and_self, or_self])] at h; exact h)
/-- ActText.hasMore -/
theorem T_4 {m : aM} {Q : Int32 → aM → Prop} (h :
   if (m 32 0 3) = (-6) then
    (if (m 32 0 2) < (m 32 0 1) then
     Q 1 m
    else
     Q 0 m)
   else
    Q 0 m
  ) : Mi 4 [.inr (32, 0)] m Q := by
  refine Mi_in ML_4 (show Rg 4 0 [some (.inr (32, 0))] [] m (qI Q) from ?_)
  refine r_aload_n L_4_0 rfl ?_
  refine r_geti L_4_1 rfl rfl ?_
  refine r_bipush L_4_4 kB_m6 ?_
  refine r_icmpn L_4_6 rfl (i_mono h (fun c1 h => ?_) (fun c1 h => ?_))
  · refine r_aload_n L_4_9 rfl ?_
    refine r_geti L_4_10 rfl rfl ?_
    refine r_aload_n L_4_13 rfl ?_
    refine r_geti L_4_14 rfl rfl ?_
    refine r_icmpn L_4_17 cc_ge (i_mono h (fun c2 h => ?_) (fun c2 h => ?_))
    · refine r_iconst L_4_20 kI_1 ?_
      refine r_goto L_4_21 ?_
      exact r_zret L_4_25 RT_4 (Or.inr rfl) h
    · refine r_iconst L_4_24 kI_0 ?_
      exact r_zret L_4_25 RT_4 (Or.inl rfl) h
  · refine r_iconst L_4_24 kI_0 ?_
    exact r_zret L_4_25 RT_4 (Or.inl rfl) h
theorem V_4 {m : aM} {P : Int32 → aM → Prop} (h : P (bP (m 32 0 3 = (-6) ∧ m 32 0 2 < m 32 0 1)) m) : Mi 4 [.inr (32, 0)] m P := by
  refine T_4 ?_
  repeat' (first | (refine And.intro (by first | assumption | exact g0 (by assumption)) ?_) | split)
  all_goals first
    | exact h
    | (rw [bP_t (by clear h; simp_all only [not_true_eq_false, not_false_eq_true, and_true, true_and, and_false, false_and, or_true, true_or, or_false, false_or, and_self, or_self])] at h; exact h)
    | (rw [bP_f (by clear h; simp_all only [not_true_eq_false, not_false_eq_true, and_true, true_and, and_false, false_and, or_true, true_or, or_false, false_or, and_self, or_self])] at h; exact h)
/-- ActText.isDigitAt -/
theorem T_8 {x1 : Int32} {m : aM} {Q : Int32 → aM → Prop} (h :
   if x1 < (m 32 0 1) then
    (a_in x1 80 = true ∧
     if (m 33 0 x1.toNatClampNeg) < 48 then
      Q 0 m
     else
      if 57 < (m 33 0 x1.toNatClampNeg) then
       Q 0 m
      else
       Q 1 m)
   else
    Q 0 m
  ) : Mi 8 [.inr (32, 0), .inl x1] m Q := by
  refine Mi_in ML_8 (show Rg 8 0 [some (.inr (32, 0)), some (.inl x1)] [] m (qI Q) from ?_)
  refine r_iload_n L_8_0 rfl ?_
  refine r_aload_n L_8_1 rfl ?_
  refine r_geti L_8_2 rfl rfl ?_
  refine r_icmpn L_8_5 cc_ge (i_mono h (fun c1 h => ?_) (fun c1 h => ?_))
  · refine r_aload_n L_8_8 rfl ?_
    refine r_getr (c' := 33) (d' := 0) L_8_9 rfl rfl ?_
    refine r_iload_n L_8_12 rfl ?_
    obtain ⟨g2, h⟩ := h
    refine r_iald (N := 80) (j := x1.toNatClampNeg) L_8_13 (by decide +kernel) rfl g2 rfl ?_
    refine r_bipush L_8_14 kB_48 ?_
    refine r_icmp L_8_16 rfl (i_mono h (fun c3 h => ?_) (fun c3 h => ?_))
    · refine r_iconst L_8_34 kI_0 ?_
      exact r_zret L_8_35 RT_8 (Or.inl rfl) h
    · refine r_aload_n L_8_19 rfl ?_
      refine r_getr (c' := 33) (d' := 0) L_8_20 rfl rfl ?_
      refine r_iload_n L_8_23 rfl ?_
      refine r_iald (N := 80) (j := x1.toNatClampNeg) L_8_24 (by decide +kernel) rfl g2 rfl ?_
      refine r_bipush L_8_25 kB_57 ?_
      refine r_icmp L_8_27 rfl (i_mono h (fun c4 h => ?_) (fun c4 h => ?_))
      · refine r_iconst L_8_34 kI_0 ?_
        exact r_zret L_8_35 RT_8 (Or.inl rfl) h
      · refine r_iconst L_8_30 kI_1 ?_
        refine r_goto L_8_31 ?_
        exact r_zret L_8_35 RT_8 (Or.inr rfl) h
  · refine r_iconst L_8_34 kI_0 ?_
    exact r_zret L_8_35 RT_8 (Or.inl rfl) h
theorem V_8 {x1 : Int32} {m : aM} {P : Int32 → aM → Prop} (g0 : x1 < m 32 0 1 → a_in x1 80 = true) (h : P (bP (x1 < m 32 0 1 ∧ ¬ m 33 0 x1.toNatClampNeg < 48 ∧ ¬ 57 < m 33 0 x1.toNatClampNeg)) m) : Mi 8 [.inr (32, 0), .inl x1] m P := by
  refine T_8 ?_
  repeat' (first | (refine And.intro (by first | assumption | exact g0 (by assumption)) ?_) | split)
  all_goals first
    | exact h
    | (rw [bP_t (by clear h; simp_all only [not_true_eq_false, not_false_eq_true, and_true, true_and, and_false, false_and, or_true, true_or, or_false, false_or, and_self, or_self])] at h; exact h)
    | (rw [bP_f (by clear h; simp_all only [not_true_eq_false, not_false_eq_true, and_true, true_and, and_false, false_and, or_true, true_or, or_false, false_or, and_self, or_self])] at h; exact h)
/-- Model.isStation -/
theorem T_101 {x1 : Int32} {m : aM} {Q : Int32 → aM → Prop} (h :
   if x1 < 0 then
    Q 0 m
   else
    if x1 < (m 35 0 1) then
     Q 1 m
    else
     Q 0 m
  ) : Mi 101 [.inr (34, 0), .inl x1] m Q := by
  refine Mi_in ML_101 (show Rg 101 0 [some (.inr (34, 0)), some (.inl x1)] [] m (qI Q) from ?_)
  refine r_iload_n L_101_0 rfl ?_
  refine r_if L_101_1 rfl (i_mono h (fun c1 h => ?_) (fun c1 h => ?_))
  · refine r_iconst L_101_18 kI_0 ?_
    exact r_zret L_101_19 RT_101 (Or.inl rfl) h
  · refine r_iload_n L_101_4 rfl ?_
    refine r_aload_n L_101_5 rfl ?_
    refine r_getr (c' := 35) (d' := 0) L_101_6 rfl rfl ?_
    refine r_iconst L_101_9 kI_1 ?_
    refine r_iald (N := 264) (j := 1) L_101_10 (by decide +kernel) rfl (by decide +kernel) (by decide +kernel) ?_
    refine r_icmpn L_101_11 cc_ge (i_mono h (fun c2 h => ?_) (fun c2 h => ?_))
    · refine r_iconst L_101_14 kI_1 ?_
      refine r_goto L_101_15 ?_
      exact r_zret L_101_19 RT_101 (Or.inr rfl) h
    · refine r_iconst L_101_18 kI_0 ?_
      exact r_zret L_101_19 RT_101 (Or.inl rfl) h
theorem V_101 {x1 : Int32} {m : aM} {P : Int32 → aM → Prop} (h : P (bP (¬ x1 < 0 ∧ x1 < m 35 0 1)) m) : Mi 101 [.inr (34, 0), .inl x1] m P := by
  refine T_101 ?_
  repeat' (first | (refine And.intro (by first | assumption | exact g0 (by assumption)) ?_) | split)
  all_goals first
    | exact h
    | (rw [bP_t (by clear h; simp_all only [not_true_eq_false, not_false_eq_true, and_true, true_and, and_false, false_and, or_true, true_or, or_false, false_or, and_self, or_self])] at h; exact h)
    | (rw [bP_f (by clear h; simp_all only [not_true_eq_false, not_false_eq_true, and_true, true_and, and_false, false_and, or_true, true_or, or_false, false_or, and_self, or_self])] at h; exact h)
/-- Model.isEvent -/
theorem T_102 {x1 : Int32} {m : aM} {Q : Int32 → aM → Prop} (h :
   if x1 < 0 then
    Q 0 m
   else
    if x1 < (m 35 0 2) then
     Q 1 m
    else
     Q 0 m
  ) : Mi 102 [.inr (34, 0), .inl x1] m Q := by
  refine Mi_in ML_102 (show Rg 102 0 [some (.inr (34, 0)), some (.inl x1)] [] m (qI Q) from ?_)
  refine r_iload_n L_102_0 rfl ?_
  refine r_if L_102_1 rfl (i_mono h (fun c1 h => ?_) (fun c1 h => ?_))
  · refine r_iconst L_102_18 kI_0 ?_
    exact r_zret L_102_19 RT_102 (Or.inl rfl) h
  · refine r_iload_n L_102_4 rfl ?_
    refine r_aload_n L_102_5 rfl ?_
    refine r_getr (c' := 35) (d' := 0) L_102_6 rfl rfl ?_
    refine r_iconst L_102_9 kI_2 ?_
    refine r_iald (N := 264) (j := 2) L_102_10 (by decide +kernel) rfl (by decide +kernel) (by decide +kernel) ?_
    refine r_icmpn L_102_11 cc_ge (i_mono h (fun c2 h => ?_) (fun c2 h => ?_))
    · refine r_iconst L_102_14 kI_1 ?_
      refine r_goto L_102_15 ?_
      exact r_zret L_102_19 RT_102 (Or.inr rfl) h
    · refine r_iconst L_102_18 kI_0 ?_
      exact r_zret L_102_19 RT_102 (Or.inl rfl) h
theorem V_102 {x1 : Int32} {m : aM} {P : Int32 → aM → Prop} (h : P (bP (¬ x1 < 0 ∧ x1 < m 35 0 2)) m) : Mi 102 [.inr (34, 0), .inl x1] m P := by
  refine T_102 ?_
  repeat' (first | (refine And.intro (by first | assumption | exact g0 (by assumption)) ?_) | split)
  all_goals first
    | exact h
    | (rw [bP_t (by clear h; simp_all only [not_true_eq_false, not_false_eq_true, and_true, true_and, and_false, false_and, or_true, true_or, or_false, false_or, and_self, or_self])] at h; exact h)
    | (rw [bP_f (by clear h; simp_all only [not_true_eq_false, not_false_eq_true, and_true, true_and, and_false, false_and, or_true, true_or, or_false, false_or, and_self, or_self])] at h; exact h)
/-- Model.isDevice -/
theorem T_103 {x1 : Int32} {m : aM} {Q : Int32 → aM → Prop} (h :
   if x1 < 0 then
    Q 0 m
   else
    if x1 < (m 35 0 3) then
     Q 1 m
    else
     Q 0 m
  ) : Mi 103 [.inr (34, 0), .inl x1] m Q := by
  refine Mi_in ML_103 (show Rg 103 0 [some (.inr (34, 0)), some (.inl x1)] [] m (qI Q) from ?_)
  refine r_iload_n L_103_0 rfl ?_
  refine r_if L_103_1 rfl (i_mono h (fun c1 h => ?_) (fun c1 h => ?_))
  · refine r_iconst L_103_18 kI_0 ?_
    exact r_zret L_103_19 RT_103 (Or.inl rfl) h
  · refine r_iload_n L_103_4 rfl ?_
    refine r_aload_n L_103_5 rfl ?_
    refine r_getr (c' := 35) (d' := 0) L_103_6 rfl rfl ?_
    refine r_iconst L_103_9 kI_3 ?_
    refine r_iald (N := 264) (j := 3) L_103_10 (by decide +kernel) rfl (by decide +kernel) (by decide +kernel) ?_
    refine r_icmpn L_103_11 cc_ge (i_mono h (fun c2 h => ?_) (fun c2 h => ?_))
    · refine r_iconst L_103_14 kI_1 ?_
      refine r_goto L_103_15 ?_
      exact r_zret L_103_19 RT_103 (Or.inr rfl) h
    · refine r_iconst L_103_18 kI_0 ?_
      exact r_zret L_103_19 RT_103 (Or.inl rfl) h
theorem V_103 {x1 : Int32} {m : aM} {P : Int32 → aM → Prop} (h : P (bP (¬ x1 < 0 ∧ x1 < m 35 0 3)) m) : Mi 103 [.inr (34, 0), .inl x1] m P := by
  refine T_103 ?_
  repeat' (first | (refine And.intro (by first | assumption | exact g0 (by assumption)) ?_) | split)
  all_goals first
    | exact h
    | (rw [bP_t (by clear h; simp_all only [not_true_eq_false, not_false_eq_true, and_true, true_and, and_false, false_and, or_true, true_or, or_false, false_or, and_self, or_self])] at h; exact h)
    | (rw [bP_f (by clear h; simp_all only [not_true_eq_false, not_false_eq_true, and_true, true_and, and_false, false_and, or_true, true_or, or_false, false_or, and_self, or_self])] at h; exact h)
/-- Model.ofStation -/
theorem T_104 {x1 x2 : Int32} {m : aM} {Q : Int32 → aM → Prop} (h :
   a_in ((8 + (5 * x1)) + x2) 264 = true ∧
    Q (m 35 0 ((8 + (5 * x1)) + x2).toNatClampNeg) m
  ) : Mi 104 [.inr (34, 0), .inl x1, .inl x2] m Q := by
  refine Mi_in ML_104 (show Rg 104 0 [some (.inr (34, 0)), some (.inl x1), some (.inl x2)] [] m (qI Q) from ?_)
  refine r_aload_n L_104_0 rfl ?_
  refine r_getr (c' := 35) (d' := 0) L_104_1 rfl rfl ?_
  refine r_bipush L_104_4 kB_8 ?_
  refine r_iconst L_104_6 kI_5 ?_
  refine r_iload_n L_104_7 rfl ?_
  refine r_imul L_104_8 ?_
  refine r_iadd L_104_9 ?_
  refine r_iload_n L_104_10 rfl ?_
  refine r_iadd L_104_11 ?_
  obtain ⟨g1, h⟩ := h
  refine r_iald (N := 264) (j := ((8 + (5 * x1)) + x2).toNatClampNeg) L_104_12 (by decide +kernel) rfl g1 rfl ?_
  exact r_iret L_104_13 RT_104 h
theorem V_104 {x1 x2 : Int32} {m : aM} {P : Int32 → aM → Prop} (g0 : a_in (8 + 5 * x1 + x2) 264 = true) (h : P (m 35 0 (8 + 5 * x1 + x2).toNatClampNeg) m) : Mi 104 [.inr (34, 0), .inl x1, .inl x2] m P := by
  exact T_104 ⟨g0, h⟩
/-- Model.ofEvent -/
theorem T_105 {x1 x2 : Int32} {m : aM} {Q : Int32 → aM → Prop} (h :
   a_in ((48 + (7 * x1)) + x2) 264 = true ∧
    Q (m 35 0 ((48 + (7 * x1)) + x2).toNatClampNeg) m
  ) : Mi 105 [.inr (34, 0), .inl x1, .inl x2] m Q := by
  refine Mi_in ML_105 (show Rg 105 0 [some (.inr (34, 0)), some (.inl x1), some (.inl x2)] [] m (qI Q) from ?_)
  refine r_aload_n L_105_0 rfl ?_
  refine r_getr (c' := 35) (d' := 0) L_105_1 rfl rfl ?_
  refine r_bipush L_105_4 kB_48 ?_
  refine r_bipush L_105_6 kB_7 ?_
  refine r_iload_n L_105_8 rfl ?_
  refine r_imul L_105_9 ?_
  refine r_iadd L_105_10 ?_
  refine r_iload_n L_105_11 rfl ?_
  refine r_iadd L_105_12 ?_
  obtain ⟨g1, h⟩ := h
  refine r_iald (N := 264) (j := ((48 + (7 * x1)) + x2).toNatClampNeg) L_105_13 (by decide +kernel) rfl g1 rfl ?_
  exact r_iret L_105_14 RT_105 h
theorem V_105 {x1 x2 : Int32} {m : aM} {P : Int32 → aM → Prop} (g0 : a_in (48 + 7 * x1 + x2) 264 = true) (h : P (m 35 0 (48 + 7 * x1 + x2).toNatClampNeg) m) : Mi 105 [.inr (34, 0), .inl x1, .inl x2] m P := by
  exact T_105 ⟨g0, h⟩
/-- Model.ofDevice -/
theorem T_106 {x1 x2 : Int32} {m : aM} {Q : Int32 → aM → Prop} (h :
   a_in ((104 + (10 * x1)) + x2) 264 = true ∧
    Q (m 35 0 ((104 + (10 * x1)) + x2).toNatClampNeg) m
  ) : Mi 106 [.inr (34, 0), .inl x1, .inl x2] m Q := by
  refine Mi_in ML_106 (show Rg 106 0 [some (.inr (34, 0)), some (.inl x1), some (.inl x2)] [] m (qI Q) from ?_)
  refine r_aload_n L_106_0 rfl ?_
  refine r_getr (c' := 35) (d' := 0) L_106_1 rfl rfl ?_
  refine r_bipush L_106_4 kB_104 ?_
  refine r_bipush L_106_6 kB_10 ?_
  refine r_iload_n L_106_8 rfl ?_
  refine r_imul L_106_9 ?_
  refine r_iadd L_106_10 ?_
  refine r_iload_n L_106_11 rfl ?_
  refine r_iadd L_106_12 ?_
  obtain ⟨g1, h⟩ := h
  refine r_iald (N := 264) (j := ((104 + (10 * x1)) + x2).toNatClampNeg) L_106_13 (by decide +kernel) rfl g1 rfl ?_
  exact r_iret L_106_14 RT_106 h
theorem V_106 {x1 x2 : Int32} {m : aM} {P : Int32 → aM → Prop} (g0 : a_in (104 + 10 * x1 + x2) 264 = true) (h : P (m 35 0 (104 + 10 * x1 + x2).toNatClampNeg) m) : Mi 106 [.inr (34, 0), .inl x1, .inl x2] m P := by
  exact T_106 ⟨g0, h⟩
/-- Model.puts -/
theorem T_107 {x1 x2 x3 : Int32} {m : aM} {Q : aM → Prop} (h :
   (a_in ((104 + (10 * x1)) + x2) 264 = true ∧
    (∀ m2, m2 = a_up m 35 0 ((104 + (10 * x1)) + x2).toNatClampNeg x3 →
    Q m2))
  ) : Mv 107 [.inr (34, 0), .inl x1, .inl x2, .inl x3] m Q := by
  refine Mv_in ML_107 (show Rg 107 0 [some (.inr (34, 0)), some (.inl x1), some (.inl x2), some (.inl x3)] [] m (qV Q) from ?_)
  refine r_aload_n L_107_0 rfl ?_
  refine r_getr (c' := 35) (d' := 0) L_107_1 rfl rfl ?_
  refine r_bipush L_107_4 kB_104 ?_
  refine r_bipush L_107_6 kB_10 ?_
  refine r_iload_n L_107_8 rfl ?_
  refine r_imul L_107_9 ?_
  refine r_iadd L_107_10 ?_
  refine r_iload_n L_107_11 rfl ?_
  refine r_iadd L_107_12 ?_
  refine r_iload_n L_107_13 rfl ?_
  obtain ⟨g1, h⟩ := h
  refine r_iast (N := 264) (j := ((104 + (10 * x1)) + x2).toNatClampNeg) L_107_14 (by decide +kernel) rfl g1 rfl ?_
  have h := h _ rfl
  exact r_vret L_107_15 RT_107 h
theorem V_107 {x1 x2 x3 : Int32} {m : aM} {P : aM → Prop} (g0 : a_in (104 + 10 * x1 + x2) 264 = true) (h : P (a_up m 35 0 (104 + 10 * x1 + x2).toNatClampNeg x3)) : Mv 107 [.inr (34, 0), .inl x1, .inl x2, .inl x3] m P := by
  exact T_107 ⟨g0, fun m1 e1 => by subst e1; exact h⟩
/-- Model.isPlace -/
theorem T_108 {x0 x1 : Int32} {m : aM} {Q : Int32 → aM → Prop} (h :
   if ¬ x0 < 0 ∧ ¬ 99 < x0 then
    (if ¬ x1 < 0 ∧ ¬ 99 < x1 then
     Q 1 m
    else
     Q 0 m)
   else
    Q 0 m
  ) : Mi 108 [.inl x0, .inl x1] m Q := by
  refine Mi_in ML_108 (show Rg 108 0 [some (.inl x0), some (.inl x1)] [] m (qI Q) from ?_)
  refine r_iload_n L_108_0 rfl ?_
  refine r_iconst L_108_1 kI_0 ?_
  refine r_bipush L_108_2 kB_99 ?_
  refine r_cs L_108_4 (by decide) rfl (V_97 ?_)
  refine r_ifeqP L_108_7 (i_mono h (fun c1 h => ?_) (fun c1 h => ?_))
  · refine r_iload_n L_108_10 rfl ?_
    refine r_iconst L_108_11 kI_0 ?_
    refine r_bipush L_108_12 kB_99 ?_
    refine r_cs L_108_14 (by decide) rfl (V_97 ?_)
    refine r_ifeqP L_108_17 (i_mono h (fun c2 h => ?_) (fun c2 h => ?_))
    · refine r_iconst L_108_20 kI_1 ?_
      refine r_goto L_108_21 ?_
      exact r_zret L_108_25 RT_108 (Or.inr rfl) h
    · refine r_iconst L_108_24 kI_0 ?_
      exact r_zret L_108_25 RT_108 (Or.inl rfl) h
  · refine r_iconst L_108_24 kI_0 ?_
    exact r_zret L_108_25 RT_108 (Or.inl rfl) h
theorem V_108 {x0 x1 : Int32} {m : aM} {P : Int32 → aM → Prop} (h : P (bP ((¬ x0 < 0 ∧ ¬ 99 < x0) ∧ (¬ x1 < 0 ∧ ¬ 99 < x1))) m) : Mi 108 [.inl x0, .inl x1] m P := by
  refine T_108 ?_
  repeat' (first | (refine And.intro (by first | assumption | exact g0 (by assumption)) ?_) | split)
  all_goals first
    | exact h
    | (rw [bP_t (by clear h; simp_all only [not_true_eq_false, not_false_eq_true, and_true, true_and, and_false, false_and, or_true, true_or, or_false, false_or, and_self, or_self])] at h; exact h)
    | (rw [bP_f (by clear h; simp_all only [not_true_eq_false, not_false_eq_true, and_true, true_and, and_false, false_and, or_true, true_or, or_false, false_or, and_self, or_self])] at h; exact h)
/-- Model.isChannel -/
theorem T_109 {x0 : Int32} {m : aM} {Q : Int32 → aM → Prop} (h :
   Q (bP (¬ x0 < 0 ∧ ¬ 7 < x0)) m
  ) : Mi 109 [.inl x0] m Q := by
  refine Mi_in ML_109 (show Rg 109 0 [some (.inl x0)] [] m (qI Q) from ?_)
  refine r_iload_n L_109_0 rfl ?_
  refine r_iconst L_109_1 kI_0 ?_
  refine r_bipush L_109_2 kB_7 ?_
  refine r_cs L_109_4 (by decide) rfl (V_97 ?_)
  exact r_zret L_109_7 RT_109 bP_01 h
theorem V_109 {x0 : Int32} {m : aM} {P : Int32 → aM → Prop} (h : P (bP (¬ x0 < 0 ∧ ¬ 7 < x0)) m) : Mi 109 [.inl x0] m P := by
  refine T_109 ?_
  repeat' (first | (refine And.intro (by first | assumption | exact g0 (by assumption)) ?_) | split)
  all_goals first
    | exact h
    | (rw [bP_t (by clear h; simp_all only [not_true_eq_false, not_false_eq_true, and_true, true_and, and_false, false_and, or_true, true_or, or_false, false_or, and_self, or_self])] at h; exact h)
    | (rw [bP_f (by clear h; simp_all only [not_true_eq_false, not_false_eq_true, and_true, true_and, and_false, false_and, or_true, true_or, or_false, false_or, and_self, or_self])] at h; exact h)
/-- Model.isPower -/
theorem T_110 {x0 : Int32} {m : aM} {Q : Int32 → aM → Prop} (h :
   Q (bP (¬ x0 < 0 ∧ ¬ 3 < x0)) m
  ) : Mi 110 [.inl x0] m Q := by
  refine Mi_in ML_110 (show Rg 110 0 [some (.inl x0)] [] m (qI Q) from ?_)
  refine r_iload_n L_110_0 rfl ?_
  refine r_iconst L_110_1 kI_0 ?_
  refine r_iconst L_110_2 kI_3 ?_
  refine r_cs L_110_3 (by decide) rfl (V_97 ?_)
  exact r_zret L_110_6 RT_110 bP_01 h
theorem V_110 {x0 : Int32} {m : aM} {P : Int32 → aM → Prop} (h : P (bP (¬ x0 < 0 ∧ ¬ 3 < x0)) m) : Mi 110 [.inl x0] m P := by
  refine T_110 ?_
  repeat' (first | (refine And.intro (by first | assumption | exact g0 (by assumption)) ?_) | split)
  all_goals first
    | exact h
    | (rw [bP_t (by clear h; simp_all only [not_true_eq_false, not_false_eq_true, and_true, true_and, and_false, false_and, or_true, true_or, or_false, false_or, and_self, or_self])] at h; exact h)
    | (rw [bP_f (by clear h; simp_all only [not_true_eq_false, not_false_eq_true, and_true, true_and, and_false, false_and, or_true, true_or, or_false, false_or, and_self, or_self])] at h; exact h)
/-- Model.radiusOf -/
theorem T_111 {x0 : Int32} {m : aM} {Q : Int32 → aM → Prop} (h :
   if x0 = 0 then
    Q 4 m
   else
    if x0 = 1 then
     Q 9 m
    else
     if x0 = 2 then
      Q 16 m
     else
      if x0 = 3 then
       Q 26 m
      else
       Q 40 m
  ) : Mi 111 [.inl x0] m Q := by
  refine Mi_in ML_111 (show Rg 111 0 [some (.inl x0)] [] m (qI Q) from ?_)
  refine r_iload_n L_111_0 rfl ?_
  refine r_ifn L_111_1 rfl (i_mono h (fun c1 h => ?_) (fun c1 h => ?_))
  · refine r_iconst L_111_4 kI_4 ?_
    refine r_goto L_111_5 ?_
    exact r_iret L_111_40 RT_111 h
  · refine r_iload_n L_111_8 rfl ?_
    refine r_iconst L_111_9 kI_1 ?_
    refine r_icmpn L_111_10 rfl (i_mono h (fun c2 h => ?_) (fun c2 h => ?_))
    · refine r_bipush L_111_13 kB_9 ?_
      refine r_goto L_111_15 ?_
      exact r_iret L_111_40 RT_111 h
    · refine r_iload_n L_111_18 rfl ?_
      refine r_iconst L_111_19 kI_2 ?_
      refine r_icmpn L_111_20 rfl (i_mono h (fun c3 h => ?_) (fun c3 h => ?_))
      · refine r_bipush L_111_23 kB_16 ?_
        refine r_goto L_111_25 ?_
        exact r_iret L_111_40 RT_111 h
      · refine r_iload_n L_111_28 rfl ?_
        refine r_iconst L_111_29 kI_3 ?_
        refine r_icmpn L_111_30 rfl (i_mono h (fun c4 h => ?_) (fun c4 h => ?_))
        · refine r_bipush L_111_33 kB_26 ?_
          refine r_goto L_111_35 ?_
          exact r_iret L_111_40 RT_111 h
        · refine r_bipush L_111_38 kB_40 ?_
          exact r_iret L_111_40 RT_111 h
theorem V_111 {x0 : Int32} {m : aM} {P : Int32 → aM → Prop} (h : P (radI x0) m) : Mi 111 [.inl x0] m P := by
  refine T_111 ?_
  unfold radI at h
  (repeat' split) <;> simp_all
/-- Model.reach -/
theorem T_112 {x0 : Int32} {m : aM} {Q : Int32 → aM → Prop} (h :
   if x0 = 0 then
    Q 1 m
   else
    if x0 = 1 then
     Q 3 m
    else
     if x0 = 2 then
      Q 6 m
     else
      Q 10 m
  ) : Mi 112 [.inl x0] m Q := by
  refine Mi_in ML_112 (show Rg 112 0 [some (.inl x0)] [] m (qI Q) from ?_)
  refine r_iload_n L_112_0 rfl ?_
  refine r_ifn L_112_1 rfl (i_mono h (fun c1 h => ?_) (fun c1 h => ?_))
  · refine r_iconst L_112_4 kI_1 ?_
    refine r_goto L_112_5 ?_
    exact r_iret L_112_29 RT_112 h
  · refine r_iload_n L_112_8 rfl ?_
    refine r_iconst L_112_9 kI_1 ?_
    refine r_icmpn L_112_10 rfl (i_mono h (fun c2 h => ?_) (fun c2 h => ?_))
    · refine r_iconst L_112_13 kI_3 ?_
      refine r_goto L_112_14 ?_
      exact r_iret L_112_29 RT_112 h
    · refine r_iload_n L_112_17 rfl ?_
      refine r_iconst L_112_18 kI_2 ?_
      refine r_icmpn L_112_19 rfl (i_mono h (fun c3 h => ?_) (fun c3 h => ?_))
      · refine r_bipush L_112_22 kB_6 ?_
        refine r_goto L_112_24 ?_
        exact r_iret L_112_29 RT_112 h
      · refine r_bipush L_112_27 kB_10 ?_
        exact r_iret L_112_29 RT_112 h
theorem V_112 {x0 : Int32} {m : aM} {P : Int32 → aM → Prop} (h : P (rchI x0) m) : Mi 112 [.inl x0] m P := by
  refine T_112 ?_
  unfold rchI at h
  (repeat' split) <;> simp_all
/-- Model.isNear -/
theorem T_113 {x0 x1 x2 x3 x4 : Int32} {m : aM} {Q : Int32 → aM → Prop} (h :
   if (x4 * x4) < (((x0 - x2) * (x0 - x2)) + ((x1 - x3) * (x1 - x3))) then
    Q 0 m
   else
    Q 1 m
  ) : Mi 113 [.inl x0, .inl x1, .inl x2, .inl x3, .inl x4] m Q := by
  refine Mi_in ML_113 (show Rg 113 0 [some (.inl x0), some (.inl x1), some (.inl x2), some (.inl x3), some (.inl x4)] [] m (qI Q) from ?_)
  refine r_iload_n L_113_0 rfl ?_
  refine r_iload_n L_113_1 rfl ?_
  refine r_isub L_113_2 ?_
  refine r_iload_n L_113_3 rfl ?_
  refine r_iload_n L_113_4 rfl ?_
  refine r_isub L_113_5 ?_
  refine r_imul L_113_6 ?_
  refine r_iload_n L_113_7 rfl ?_
  refine r_iload_n L_113_8 rfl ?_
  refine r_isub L_113_9 ?_
  refine r_iload_n L_113_10 rfl ?_
  refine r_iload_n L_113_11 rfl ?_
  refine r_isub L_113_12 ?_
  refine r_imul L_113_13 ?_
  refine r_iadd L_113_14 ?_
  refine r_iload L_113_15 rfl ?_
  refine r_iload L_113_17 rfl ?_
  refine r_imul L_113_19 ?_
  refine r_icmp L_113_20 rfl (i_mono h (fun c1 h => ?_) (fun c1 h => ?_))
  · refine r_iconst L_113_27 kI_0 ?_
    exact r_zret L_113_28 RT_113 (Or.inl rfl) h
  · refine r_iconst L_113_23 kI_1 ?_
    refine r_goto L_113_24 ?_
    exact r_zret L_113_28 RT_113 (Or.inr rfl) h
theorem V_113 {x0 x1 x2 x3 x4 : Int32} {m : aM} {P : Int32 → aM → Prop} (h : P (bP (nearP x0 x1 x2 x3 x4)) m) : Mi 113 [.inl x0, .inl x1, .inl x2, .inl x3, .inl x4] m P := by
  refine T_113 ?_
  unfold nearP at h
  repeat' (first | (refine And.intro (by first | assumption | exact g0 (by assumption)) ?_) | split)
  all_goals first
    | exact h
    | (rw [bP_t (by clear h; simp_all only [not_true_eq_false, not_false_eq_true, and_true, true_and, and_false, false_and, or_true, true_or, or_false, false_or, and_self, or_self])] at h; exact h)
    | (rw [bP_f (by clear h; simp_all only [not_true_eq_false, not_false_eq_true, and_true, true_and, and_false, false_and, or_true, true_or, or_false, false_or, and_self, or_self])] at h; exact h)
/-- Model.hasLease -/
theorem T_120 {x1 : Int32} {m : aM} {Q : Int32 → aM → Prop} (h :
   a_in (104 + 10 * x1 + 3) 264 = true ∧
    if (m 35 0 (104 + 10 * x1 + 3).toNatClampNeg) = (-6) then
     Q 0 m
    else
     Q 1 m
  ) : Mi 120 [.inr (34, 0), .inl x1] m Q := by
  refine Mi_in ML_120 (show Rg 120 0 [some (.inr (34, 0)), some (.inl x1)] [] m (qI Q) from ?_)
  refine r_aload_n L_120_0 rfl ?_
  refine r_iload_n L_120_1 rfl ?_
  refine r_iconst L_120_2 kI_3 ?_
  obtain ⟨g1, h⟩ := h
  refine r_cv L_120_3 rfl (V_106 g1 ?_)
  refine r_bipush L_120_6 kB_m6 ?_
  refine r_icmp L_120_8 rfl (i_mono h (fun c2 h => ?_) (fun c2 h => ?_))
  · refine r_iconst L_120_15 kI_0 ?_
    exact r_zret L_120_16 RT_120 (Or.inl rfl) h
  · refine r_iconst L_120_11 kI_1 ?_
    refine r_goto L_120_12 ?_
    exact r_zret L_120_16 RT_120 (Or.inr rfl) h
theorem V_120 {x1 : Int32} {m : aM} {P : Int32 → aM → Prop} (g0 : a_in (104 + 10 * x1 + 3) 264 = true) (h : P (bP (¬ m 35 0 (104 + 10 * x1 + 3).toNatClampNeg = (-6))) m) : Mi 120 [.inr (34, 0), .inl x1] m P := by
  refine T_120 ?_
  repeat' (first | (refine And.intro (by first | assumption | exact g0 (by assumption)) ?_) | split)
  all_goals first
    | exact h
    | (rw [bP_t (by clear h; simp_all only [not_true_eq_false, not_false_eq_true, and_true, true_and, and_false, false_and, or_true, true_or, or_false, false_or, and_self, or_self])] at h; exact h)
    | (rw [bP_f (by clear h; simp_all only [not_true_eq_false, not_false_eq_true, and_true, true_and, and_false, false_and, or_true, true_or, or_false, false_or, and_self, or_self])] at h; exact h)
/-- Model.ends -/
theorem T_126 {x1 : Int32} {m : aM} {Q : aM → Prop} (h :
   a_in (104 + 10 * x1 + 3) 264 = true ∧
    (∀ m2, m2 = a_up m 35 0 (104 + 10 * x1 + 3).toNatClampNeg (-6) →
    a_in (104 + 10 * x1 + 4) 264 = true ∧
     (∀ m4, m4 = a_up m2 35 0 (104 + 10 * x1 + 4).toNatClampNeg (-6) →
     a_in (104 + 10 * x1 + 5) 264 = true ∧
      (∀ m6, m6 = a_up m4 35 0 (104 + 10 * x1 + 5).toNatClampNeg (-6) →
      a_in (104 + 10 * x1 + 6) 264 = true ∧
       (∀ m8, m8 = a_up m6 35 0 (104 + 10 * x1 + 6).toNatClampNeg (-6) →
       Q m8))))
  ) : Mv 126 [.inr (34, 0), .inl x1] m Q := by
  refine Mv_in ML_126 (show Rg 126 0 [some (.inr (34, 0)), some (.inl x1)] [] m (qV Q) from ?_)
  refine r_aload_n L_126_0 rfl ?_
  refine r_iload_n L_126_1 rfl ?_
  refine r_iconst L_126_2 kI_3 ?_
  refine r_bipush L_126_3 kB_m6 ?_
  obtain ⟨g1, h⟩ := h
  refine r_cvv L_126_5 rfl (V_107 g1 ?_)
  have h := h _ rfl
  refine r_aload_n L_126_8 rfl ?_
  refine r_iload_n L_126_9 rfl ?_
  refine r_iconst L_126_10 kI_4 ?_
  refine r_bipush L_126_11 kB_m6 ?_
  obtain ⟨g3, h⟩ := h
  refine r_cvv L_126_13 rfl (V_107 g3 ?_)
  have h := h _ rfl
  refine r_aload_n L_126_16 rfl ?_
  refine r_iload_n L_126_17 rfl ?_
  refine r_iconst L_126_18 kI_5 ?_
  refine r_bipush L_126_19 kB_m6 ?_
  obtain ⟨g5, h⟩ := h
  refine r_cvv L_126_21 rfl (V_107 g5 ?_)
  have h := h _ rfl
  refine r_aload_n L_126_24 rfl ?_
  refine r_iload_n L_126_25 rfl ?_
  refine r_bipush L_126_26 kB_6 ?_
  refine r_bipush L_126_28 kB_m6 ?_
  obtain ⟨g7, h⟩ := h
  refine r_cvv L_126_30 rfl (V_107 g7 ?_)
  have h := h _ rfl
  exact r_vret L_126_33 RT_126 h
theorem V_126 {x1 : Int32} {m : aM} {P : aM → Prop} (g0 : a_in (104 + 10 * x1 + 3) 264 = true) (g1 : a_in (104 + 10 * x1 + 4) 264 = true) (g2 : a_in (104 + 10 * x1 + 5) 264 = true) (g3 : a_in (104 + 10 * x1 + 6) 264 = true) (h : P (rEnds m x1)) : Mv 126 [.inr (34, 0), .inl x1] m P := by
  exact T_126 ⟨g0, fun m1 e1 => ⟨g1, fun m2 e2 => ⟨g2, fun m3 e3 => ⟨g3, fun m4 e4 => by subst e1 e2 e3 e4; exact h⟩⟩⟩⟩
/-- Model.isAt -/
theorem T_147 {x1 x2 : Int32} {m : aM} {Q : Int32 → aM → Prop} (h :
   if (m 34 0 9) < (m 34 0 8) then
    (a_in (m 34 0 9) 80 = true ∧
     if ¬ (m 40 0 (m 34 0 9).toNatClampNeg) < x1 ∧ ¬ x2 < (m 40 0 (m 34 0 9).toNatClampNeg) then
      Q 1 m
     else
      Q 0 m)
   else
    Q 0 m
  ) : Mi 147 [.inr (34, 0), .inl x1, .inl x2] m Q := by
  refine Mi_in ML_147 (show Rg 147 0 [some (.inr (34, 0)), some (.inl x1), some (.inl x2)] [] m (qI Q) from ?_)
  refine r_aload_n L_147_0 rfl ?_
  refine r_geti L_147_1 rfl rfl ?_
  refine r_aload_n L_147_4 rfl ?_
  refine r_geti L_147_5 rfl rfl ?_
  refine r_icmpn L_147_8 cc_ge (i_mono h (fun c1 h => ?_) (fun c1 h => ?_))
  · refine r_aload_n L_147_11 rfl ?_
    refine r_getr (c' := 40) (d' := 0) L_147_12 rfl rfl ?_
    refine r_aload_n L_147_15 rfl ?_
    refine r_geti L_147_16 rfl rfl ?_
    obtain ⟨g2, h⟩ := h
    refine r_iald (N := 80) (j := (m 34 0 9).toNatClampNeg) L_147_19 (by decide +kernel) rfl g2 rfl ?_
    refine r_iload_n L_147_20 rfl ?_
    refine r_iload_n L_147_21 rfl ?_
    refine r_cs L_147_22 (by decide) rfl (V_97 ?_)
    refine r_ifeqP L_147_25 (i_mono h (fun c3 h => ?_) (fun c3 h => ?_))
    · refine r_iconst L_147_28 kI_1 ?_
      refine r_goto L_147_29 ?_
      exact r_zret L_147_33 RT_147 (Or.inr rfl) h
    · refine r_iconst L_147_32 kI_0 ?_
      exact r_zret L_147_33 RT_147 (Or.inl rfl) h
  · refine r_iconst L_147_32 kI_0 ?_
    exact r_zret L_147_33 RT_147 (Or.inl rfl) h
theorem V_147 {x1 x2 : Int32} {m : aM} {P : Int32 → aM → Prop} (g0 : m 34 0 9 < m 34 0 8 → a_in (m 34 0 9) 80 = true) (h : P (bP (m 34 0 9 < m 34 0 8 ∧ ¬ m 40 0 (m 34 0 9).toNatClampNeg < x1 ∧ ¬ x2 < m 40 0 (m 34 0 9).toNatClampNeg)) m) : Mi 147 [.inr (34, 0), .inl x1, .inl x2] m P := by
  refine T_147 ?_
  repeat' (first | (refine And.intro (by first | assumption | exact g0 (by assumption)) ?_) | split)
  all_goals first
    | exact h
    | (rw [bP_t (by clear h; simp_all only [not_true_eq_false, not_false_eq_true, and_true, true_and, and_false, false_and, or_true, true_or, or_false, false_or, and_self, or_self])] at h; exact h)
    | (rw [bP_f (by clear h; simp_all only [not_true_eq_false, not_false_eq_true, and_true, true_and, and_false, false_and, or_true, true_or, or_false, false_or, and_self, or_self])] at h; exact h)
end
